/-! one world for the whole system: the object (0), its Room (1), roots (2), diskRoots (3), ways (4), openTurns (5), fresh (6), marked (7), the reference (8), there (9), bound (10), values (11), numbers (12), the law's long[1] (13), and the 61 rows of ways -/
abbrev sy_Y : Type := va_G × (Nat → Nat) × (Nat → ClassId) × (Nat → Prop)
def sy_tys (Y : sy_Y) : List (ClassId × FieldType) := [(Y.2.2.1 0, .int), (Y.2.2.1 1, .boolean), (Y.2.2.1 2, .long), (Y.2.2.1 3, .array .int)]
def sy_fix (Y : sy_Y) (M U : me_M) (o : Int64) : va_W :=
  [(Y.2.1 0, .inr (0, [.ref (Y.2.1 1), .ref (Y.2.1 2), .ref (Y.2.1 3), .int (M 5 0), .int (M 5 1), .int (M 5 2)])),
   (Y.2.1 1, .inr (1, [.ref (Y.2.1 4), .ref (Y.2.1 5), .ref (Y.2.1 6), .ref (Y.2.1 7)])),
   (Y.2.1 2, .inl (Y.2.2.1 0, 7, .inl (M 3))), (Y.2.1 3, .inl (Y.2.2.1 0, 7, .inl (M 4))),
   (Y.2.1 4, .inl (Y.2.2.1 3, 61, .inr (.inr (.inr (.inr (fun i => some (Y.2.1 (20 + i)))))))),
   (Y.2.1 5, .inl (Y.2.2.1 0, 61, .inl (M 0))), (Y.2.1 6, .inl (Y.2.2.1 1, 61, .inl (M 1))), (Y.2.1 7, .inl (Y.2.2.1 1, 61, .inl (M 2))),
   (Y.2.1 8, .inr (2, [.int (U 4 0), .ref (Y.2.1 9), .ref (Y.2.1 10), .ref (Y.2.1 11), .ref (Y.2.1 12), .int (U 4 1), .int (U 4 2), .int (U 4 3), .int (U 4 4), .int (U 4 5)])),
   (Y.2.1 9, .inl (Y.2.2.1 1, 14, .inl (U 0))), (Y.2.1 10, .inl (Y.2.2.1 1, 896, .inl (U 1))), (Y.2.1 11, .inl (Y.2.2.1 0, 896, .inl (U 2))), (Y.2.1 12, .inl (Y.2.2.1 0, 294, .inl (U 3))),
   (Y.2.1 13, .inl (Y.2.2.1 2, 1, .inr (.inl (fun _ => o))))]
def sy_rows (Y : sy_Y) (M : me_M) : va_W := (List.range 61).map (fun i => (Y.2.1 (20 + i), .inl (Y.2.2.1 0, 4, .inl (M (6 + i)))))
def sy_w (Y : sy_Y) (M U : me_M) (o : Int64) : va_W := sy_fix Y M U o ++ sy_rows Y M
section
variable {Y : sy_Y} {M U : me_M} {o : Int64}
theorem sy_row {i : Nat} (hi : i < 61) : (sy_w Y M U o)[14 + i]? = some (Y.2.1 (20 + i), .inl (Y.2.2.1 0, 4, .inl (M (6 + i)))) := by
  unfold sy_w
  rw [List.getElem?_append_right (by show 14 ≤ 14 + i; omega)]
  show (sy_rows Y M)[14 + i - 14]? = _
  rw [show 14 + i - 14 = i by omega]
  unfold sy_rows
  rw [List.getElem?_map, List.getElem?_range hi]
  rfl
theorem sy_rows_n {a : Nat} (f : Nat → Int32) (ha : ∀ i, 6 + i ≠ a) : sy_rows Y (me_set M a f) = sy_rows Y M := by
  unfold sy_rows
  refine List.map_congr_left fun i _ => ?_
  rw [me_set_n _ _ (ha i)]
theorem sy_set (p a : Nat) (f : Nat → Int32) {x : Nat × va_E} (hp : p < 14) (ha : ∀ i, 6 + i ≠ a) (h : (sy_fix Y M U o).set p x = sy_fix Y (me_set M a f) U o) : (sy_w Y M U o).set p x = sy_w Y (me_set M a f) U o := by
  unfold sy_w
  rw [List.set_append_left _ _ (by show p < 14; exact hp), h, sy_rows_n f ha]
theorem sy_set0 (f : Nat → Int32) : (sy_w Y M U o).set 5 (Y.2.1 5, .inl (Y.2.2.1 0, 61, .inl f)) = sy_w Y (me_set M 0 f) U o := sy_set 5 0 f (by decide) (by omega) rfl
theorem sy_set1 (f : Nat → Int32) : (sy_w Y M U o).set 6 (Y.2.1 6, .inl (Y.2.2.1 1, 61, .inl f)) = sy_w Y (me_set M 1 f) U o := sy_set 6 1 f (by decide) (by omega) rfl
theorem sy_set2 (f : Nat → Int32) : (sy_w Y M U o).set 7 (Y.2.1 7, .inl (Y.2.2.1 1, 61, .inl f)) = sy_w Y (me_set M 2 f) U o := sy_set 7 2 f (by decide) (by omega) rfl
theorem sy_set3 (f : Nat → Int32) : (sy_w Y M U o).set 2 (Y.2.1 2, .inl (Y.2.2.1 0, 7, .inl f)) = sy_w Y (me_set M 3 f) U o := sy_set 2 3 f (by decide) (by omega) rfl
theorem sy_set4 (f : Nat → Int32) : (sy_w Y M U o).set 3 (Y.2.1 3, .inl (Y.2.2.1 0, 7, .inl f)) = sy_w Y (me_set M 4 f) U o := sy_set 3 4 f (by decide) (by omega) rfl
theorem sy_put0 (v : Int32) : (sy_w Y M U o).set 0 (Y.2.1 0, .inr (0, [.ref (Y.2.1 1), .ref (Y.2.1 2), .ref (Y.2.1 3), .int v, .int (M 5 1), .int (M 5 2)])) = sy_w Y (me_up M 5 0 v) U o := sy_set 0 5 _ (by decide) (by omega) rfl
theorem sy_put1 (v : Int32) : (sy_w Y M U o).set 0 (Y.2.1 0, .inr (0, [.ref (Y.2.1 1), .ref (Y.2.1 2), .ref (Y.2.1 3), .int (M 5 0), .int v, .int (M 5 2)])) = sy_w Y (me_up M 5 1 v) U o := sy_set 0 5 _ (by decide) (by omega) rfl
theorem sy_put2 (v : Int32) : (sy_w Y M U o).set 0 (Y.2.1 0, .inr (0, [.ref (Y.2.1 1), .ref (Y.2.1 2), .ref (Y.2.1 3), .int (M 5 0), .int (M 5 1), .int v])) = sy_w Y (me_up M 5 2 v) U o := sy_set 0 5 _ (by decide) (by omega) rfl
theorem sy_setU (p : Nat) {x : Nat × va_E} {U' : me_M} {o' : Int64} (hp : p < 14) (h : (sy_fix Y M U o).set p x = sy_fix Y M U' o') : (sy_w Y M U o).set p x = sy_w Y M U' o' := by
  unfold sy_w
  rw [List.set_append_left _ _ (by show p < 14; exact hp), h]
theorem sy_setU0 (f : Nat → Int32) : (sy_w Y M U o).set 9 (Y.2.1 9, .inl (Y.2.2.1 1, 14, .inl f)) = sy_w Y M (me_set U 0 f) o := sy_setU 9 (by decide) rfl
theorem sy_setU1 (f : Nat → Int32) : (sy_w Y M U o).set 10 (Y.2.1 10, .inl (Y.2.2.1 1, 896, .inl f)) = sy_w Y M (me_set U 1 f) o := sy_setU 10 (by decide) rfl
theorem sy_setU2 (f : Nat → Int32) : (sy_w Y M U o).set 11 (Y.2.1 11, .inl (Y.2.2.1 0, 896, .inl f)) = sy_w Y M (me_set U 2 f) o := sy_setU 11 (by decide) rfl
theorem sy_setU3 (f : Nat → Int32) : (sy_w Y M U o).set 12 (Y.2.1 12, .inl (Y.2.2.1 0, 294, .inl f)) = sy_w Y M (me_set U 3 f) o := sy_setU 12 (by decide) rfl
theorem sy_setO (v : Int64) : (sy_w Y M U o).set 13 (Y.2.1 13, .inl (Y.2.2.1 2, 1, .inr (.inl (fun _ => v)))) = sy_w Y M U v := sy_setU 13 (by decide) rfl
theorem sy_putU (j : Nat) (v : Int32) {x : va_E} (h : (sy_fix Y M U o).set 8 (Y.2.1 8, x) = sy_fix Y M (me_up U 4 j v) o) : (sy_w Y M U o).set 8 (Y.2.1 8, x) = sy_w Y M (me_up U 4 j v) o := sy_setU 8 (by decide) h
theorem sy_setR {i : Nat} (hi : i < 61) (f : Nat → Int32) : (sy_w Y M U o).set (14 + i) (Y.2.1 (20 + i), .inl (Y.2.2.1 0, 4, .inl f)) = sy_w Y (me_set M (6 + i) f) U o := by
  unfold sy_w
  rw [List.set_append_right _ _ (by show 14 ≤ 14 + i; omega)]
  show sy_fix Y M U o ++ (sy_rows Y M).set (14 + i - 14) _ = _
  rw [show 14 + i - 14 = i by omega]
  have e : ∀ a, a < 6 → me_set M (6 + i) f a = M a := fun a ha => me_set_n _ _ (by omega)
  have hf : sy_fix Y (me_set M (6 + i) f) U o = sy_fix Y M U o := by
    unfold sy_fix
    rw [e 0 (by decide), e 1 (by decide), e 2 (by decide), e 3 (by decide), e 4 (by decide), e 5 (by decide)]
  rw [hf]
  congr 1
  apply List.ext_getElem?
  intro j
  unfold sy_rows
  rw [List.getElem?_set, List.length_map, List.length_range, List.getElem?_map, List.getElem?_map]
  by_cases ej : i = j
  · subst ej
    rw [if_pos rfl, if_pos hi, List.getElem?_range hi]
    show _ = some (_, Sum.inl (_, 4, Sum.inl (me_set M (6 + i) f (6 + i))))
    rw [me_set_s]
  · rw [if_neg ej]
    by_cases hj : j < 61
    · rw [List.getElem?_range hj]
      show some (_, Sum.inl (_, 4, Sum.inl (M (6 + j)))) = some (_, Sum.inl (_, 4, Sum.inl (me_set M (6 + i) f (6 + j))))
      rw [me_set_n _ _ (by omega)]
    · rw [List.getElem?_eq_none (by rw [List.length_range]; omega)]
      rfl
theorem sy_addr (Y : sy_Y) (M U : me_M) (o : Int64) (M' U' : me_M) (o' : Int64) : (sy_w Y M U o).map (·.1) = (sy_w Y M' U' o').map (·.1) := by
  unfold sy_w sy_rows
  rw [List.map_append, List.map_append, List.map_map, List.map_map]
  rfl
theorem sy_Dmap {A : Nat → Prop} {w w' : va_W} (h : w.map (·.1) = w'.map (·.1)) (hD : va_D A w) : va_D A w' := by
  have key : ∀ (k : Nat) (q : Nat × va_E), w'[k]? = some q → ∃ q', w[k]? = some q' ∧ q'.1 = q.1 := by
    intro k q hq
    have h1 : (w'.map (·.1))[k]? = some q.1 := by rw [List.getElem?_map, hq]; rfl
    rw [← h, List.getElem?_map] at h1
    cases hw : w[k]? with
    | none => rw [hw] at h1; cases h1
    | some q' => rw [hw] at h1; exact ⟨q', rfl, Option.some.inj h1⟩
  refine ⟨fun i j p q hp hq e => ?_, fun k q hq => ?_⟩
  · obtain ⟨p', hp', ep⟩ := key i p hp
    obtain ⟨q', hq', eq⟩ := key j q hq
    exact hD.1 i j p' q' hp' hq' (by rw [ep, eq]; exact e)
  · obtain ⟨q', hq', eq⟩ := key k q hq
    rw [← eq]
    exact hD.2 k q' hq'
end
