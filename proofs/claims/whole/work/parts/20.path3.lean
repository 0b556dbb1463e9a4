/-! .. and what a put or a remove leaves -/
section
variable {M U : me_M} {N k l : Nat} {K : Nat → Int32} {c : Nat → Nat} {Q X : me_M} {b : Bool} {w : Int32}
theorem rf_opl (hI : rf_I M U N) (hk : k < 64) (hS : rf_S M (fun _ => True) K) (i : Nat) (hi : i ≤ 2) (hroom : rf_nb (rf_mk K) + me_cn (fun j => decide (M 1 (rf_n M k j) = 0)) (i + 1) ≤ 60) :
    ∃ c, rf_Q M K k i c (fb_opl k (fb_own (me_set M 2 K) (rf_rn M 0)) i).2 ∧ (fb_opl k (fb_own (me_set M 2 K) (rf_rn M 0)) i).1 = c i ∧ (fb_own (me_set M 2 K) (rf_rn M 0)).1 = c 0 := by
  induction i with
  | zero => exact ⟨_, rf_Q0 hI hk hS hroom, rfl, rfl⟩
  | succ i ih =>
    have hmono : me_cn (fun j => decide (M 1 (rf_n M k j) = 0)) (i + 1) ≤ me_cn (fun j => decide (M 1 (rf_n M k j) = 0)) (i + 1 + 1) := Nat.le_add_right _ _
    obtain ⟨c, hQ, e1, e2⟩ := ih (by omega) (by omega)
    have h := rf_Q_step hI hk hS (by omega) hQ hroom
    rw [← e1] at h
    refine ⟨_, h, ?_, ?_⟩
    · show _ = if i + 1 ≤ i then _ else _
      rw [if_neg (by omega)]; rfl
    · show _ = if 0 ≤ i then _ else _
      rw [if_pos (by omega)]; exact e2
/-- the way down from c 0, once the path is own -/
theorem rf_Q_na (hQ : rf_Q M K k l c Q) (hX : ∀ j, j < l → X (6 + c j) (fb_tn k j) = Q (6 + c j) (fb_tn k j)) (i : Nat) (hi : i ≤ l) : fb_na X (c 0) k i = c i := by
  induction i with
  | zero => rfl
  | succ i ih =>
    show fb_ch X (fb_na X (c 0) k i) (fb_tn k i) = c (i + 1)
    rw [ih (by omega)]
    unfold fb_ch
    rw [hX i (by omega), (hQ.2.2.2.1 i (by omega)).1 _ (fb_tn_lt k i), if_pos ⟨rfl, by omega⟩]
    exact nI_clamp (by have := ((hQ.1 (i + 1) hi).1).2; omega)
theorem rf_Q_C (hI : rf_I M U N) (hk : k < 64) (hS : rf_S M (fun _ => True) K) (hl : l ≤ 2) (hQ : rf_Q M K k l c Q)
    (x1 : X 1 = Q 1) (x3 : X 3 = upd (Q 3) 0 (nI (c 0))) (x4 : X 4 = Q 4) (x5 : X 5 = Q 5)
    (x6 : ∀ x t, t < 4 → (x ≠ c l ∨ t ≠ fb_tn k l) → X (6 + x) t = Q (6 + x) t) (x6c : X (6 + c l) (fb_tn k l) = w) (x0 : ∀ x, x ≠ c l → X 0 x = Q 0 x)
    (x0c : ∀ j, j < 32 → bt (X 0 (c l)) j = if j = fb_tn k l then b else bt (Q 0 (c l)) j) (hw : l < 2 → w = 0) (hb : b = true → l = 2)
    (hrem : ∀ i, i < 3 → l < i → ∀ j, j < 32 → bt (M 0 (rf_n M k i)) j = decide (j = fb_tn k i)) : rf_C M X k (l + 1) c b w := by
  obtain ⟨hA, hW, hZ, h01, hO, hV, hL, hP, hN, hG, hR, hSc⟩ := id hI
  obtain ⟨q1, q2, q3, q4, q5, q6, q7, q8, q9⟩ := hQ
  have hp : ∀ i, mo_pl i k < 21 := fun i => rf_pl_lt hk
  refine ⟨by omega, fun j hj => (q1 j (by omega)).1, fun j hj m p h0 h1 h2 e => ?_, fun j hj p h2 hoff e => ?_, fun j j' h1 h2 h3 => q2 j j' (by omega) (by omega) h3, fun x hx => ?_, fun j hj => ?_, ?_, fun j hj => ?_, x4.trans q8, x5.trans q9, fun h => hw (by omega), fun h => by have := hb h; omega, fun i h1 h2 j h3 => hrem i h1 (by omega) j h3⟩
  · obtain ⟨⟨b1, b2⟩, h, -, -⟩ := q1 j (by omega)
    have hz : rf_nd M m p ≠ 0 := by omega
    rcases h with ⟨h8, h9⟩ | ⟨-, h⟩
    · rw [← h9, e] at h8
      exact h8 (hR.2 m p h0 h1 h2 hz).1
    · rw [e] at h
      exact (hS _ (rf_nd_lt hI h1 h2)).mpr ⟨hz, m, p, h1, trivial, h2, rfl⟩ h
  · obtain ⟨⟨b1, b2⟩, h, -, -⟩ := q1 j (by omega)
    have hz : rf_nd M 0 p ≠ 0 := by omega
    rcases h with ⟨h8, h9⟩ | ⟨-, h⟩
    · rw [h9] at e
      exact hoff j (by omega) (hP 0 0 p (mo_pl j k) (by omega) (by omega) h2 (hp j) hz e.symm).symm
    · rw [e] at h
      exact (hS _ (rf_nd_lt hI (m := 0) (by omega) h2)).mpr ⟨hz, 0, p, by omega, trivial, h2, rfl⟩ h
  · have hxl : x ≠ c l := hx l (by omega)
    obtain ⟨s1, s2, s3⟩ := q3 x (fun j hj => hx j (by omega))
    exact ⟨fun t ht => (x6 x t ht (Or.inl hxl)).trans (s1 t ht), (x0 x hxl).trans s2, by rw [x1]; exact s3⟩
  · obtain ⟨s1, s2⟩ := q4 j (by omega)
    have e9 : rf_nd M 0 (mo_pl j k) = rf_n M k j := rfl
    rw [e9]
    refine ⟨fun t ht => ?_, fun i hi => ?_, by rw [x1]; exact (q1 j (by omega)).2.2.2⟩
    · by_cases e : j = l
      · subst e
        by_cases et : t = fb_tn k j
        · subst et; rw [x6c, if_pos rfl, if_neg (by omega)]
        · rw [x6 _ t ht (Or.inr et), s1 t ht, if_neg (fun q => et q.1), if_neg et]
      · have hne : c j ≠ c l := fun q => e (q2 j l (by omega) (Nat.le_refl _) q)
        rw [x6 _ t ht (Or.inl hne), s1 t ht]
        by_cases et : t = fb_tn k j
        · rw [if_pos ⟨et, by omega⟩, if_pos et, if_pos (by omega)]
        · rw [if_neg (fun q => et q.1), if_neg et]
    · by_cases e : j = l
      · subst e
        rw [x0c i hi, s2, if_neg (show ¬ j < j by omega), decide_eq_false (show ¬ j + 1 < j + 1 by omega), Bool.false_or]
      · have hne : c j ≠ c l := fun q => e (q2 j l (by omega) (Nat.le_refl _) q)
        rw [x0 _ hne, s2, if_pos (show j < l by omega), rf_or _ _ _ hi, decide_eq_true (show j + 1 < l + 1 by omega), Bool.true_or]
        by_cases et : i = fb_tn k j
        · rw [if_pos et, decide_eq_true et, Bool.or_true]
        · rw [if_neg et, decide_eq_false et, Bool.or_false]
  · rw [x3, if_pos (by omega)]; unfold upd; rw [if_pos rfl]
  · rw [x3, q7]; unfold upd; rw [if_neg (by omega)]
theorem fb_op_s (M : me_M) (r k L : Nat) : fb_op M r k (L + 1) = ((fb_own M r).1, (fb_opl k (fb_own M r) L).2) := rfl
theorem fb_cut_s (M : me_M) (r k L : Nat) : fb_cut M r k (L + 1) = me_up (me_up M (6 + fb_na M r k L) (fb_tn k L) 0) 0 (fb_na M r k L) (M 0 (fb_na M r k L) &&& (fb_bit k L ^^^ (-1))) := rfl
theorem rf_put_C (hI : rf_I M U N) (hk : k < 64) (hS : rf_S M (fun _ => True) K) (v : Int32) (hroom : rf_nb (rf_mk K) + me_cn (fun j => decide (M 1 (rf_n M k j) = 0)) 3 ≤ 60) :
    ∃ c, (fb_op (me_set M 2 K) (rf_rn M 0) k 3).1 ≤ 60 ∧ rf_C M (fb_bind (me_up (fb_op (me_set M 2 K) (rf_rn M 0) k 3).2 3 0 (nI (fb_op (me_set M 2 K) (rf_rn M 0) k 3).1)) (fb_op (me_set M 2 K) (rf_rn M 0) k 3).1 k v) k 3 c true v := by
  obtain ⟨c, hQ, -, e2⟩ := rf_opl hI hk hS 2 (by omega) hroom
  have e9 : fb_op (me_set M 2 K) (rf_rn M 0) k 3 = ((fb_own (me_set M 2 K) (rf_rn M 0)).1, (fb_opl k (fb_own (me_set M 2 K) (rf_rn M 0)) 2).2) := fb_op_s _ _ _ 2
  rw [e9, e2]
  dsimp only
  generalize (fb_opl k (fb_own (me_set M 2 K) (rf_rn M 0)) 2).2 = Q at hQ ⊢
  refine ⟨c, ((hQ.1 0 (by omega)).1).2, ?_⟩
  have r3 : ∀ {a : Nat}, a ≠ 3 → me_up Q 3 0 (nI (c 0)) a = Q a := fun h => me_up_n _ _ _ h
  have hna : fb_na (me_up Q 3 0 (nI (c 0))) (c 0) k 2 = c 2 := rf_Q_na hQ (fun j _ => by rw [r3 (by omega)]) 2 (Nat.le_refl _)
  unfold fb_bind
  rw [hna]
  unfold fb_open
  refine rf_Q_C (l := 2) hI hk hS (Nat.le_refl _) hQ ?_ ?_ ?_ ?_ (fun x t ht h => ?_) ?_ (fun x hx => ?_) (fun j hj => ?_) (fun h => by omega) (fun _ => rfl) (fun i h1 h2 => by omega)
  · rw [me_up_n _ _ _ (by decide), me_up_n _ _ _ (by omega), r3 (by decide)]
  · rw [me_up_n _ _ _ (by decide), me_up_n _ _ _ (by omega)]; exact me_set_s _ _ _
  · rw [me_up_n _ _ _ (by decide), me_up_n _ _ _ (by omega), r3 (by decide)]
  · rw [me_up_n _ _ _ (by decide), me_up_n _ _ _ (by omega), r3 (by decide)]
  · rw [me_up_n _ _ _ (by omega)]
    by_cases ex : x = c 2
    · subst ex
      rw [me_up_j _ _ _ (h.elim (fun q => absurd rfl q) id), r3 (by omega)]
    · rw [me_up_n _ _ _ (by omega), r3 (by omega)]
  · rw [me_up_n _ _ _ (by omega)]; exact me_up_s _ _ _ _
  · rw [me_up_j _ _ _ hx, me_up_n _ _ _ (by omega), r3 (by decide)]
  · rw [me_up_s, r3 (by decide), rf_or _ _ _ hj]
    by_cases et : j = fb_tn k 2
    · rw [if_pos et, decide_eq_true et, Bool.or_true]
    · rw [if_neg et, decide_eq_false et, Bool.or_false]
theorem rf_cut_C (hI : rf_I M U N) (hk : k < 64) (hS : rf_S M (fun _ => True) K) (L : Nat) (hL : L ≤ 3) (hroom : rf_nb (rf_mk K) + me_cn (fun j => decide (M 1 (rf_n M k j) = 0)) L ≤ 60)
    (hrem : ∀ i, i < 3 → L ≤ i → ∀ j, j < 32 → bt (M 0 (rf_n M k i)) j = decide (j = fb_tn k i)) :
    ∃ c, (fb_op (me_set M 2 K) (rf_rn M 0) k L).1 ≤ 60 ∧ rf_C M (fb_cut (me_up (fb_op (me_set M 2 K) (rf_rn M 0) k L).2 3 0 (nI (fb_op (me_set M 2 K) (rf_rn M 0) k L).1)) (fb_op (me_set M 2 K) (rf_rn M 0) k L).1 k L) k L c false 0 := by
  match L, hL with
  | 0, _ =>
    refine ⟨fun _ => 0, by show 0 ≤ 60; omega, ?_⟩
    show rf_C M (me_up (me_set M 2 K) 3 0 (nI 0)) k 0 (fun _ => 0) false 0
    have r : ∀ {a : Nat}, a ≠ 3 → a ≠ 2 → me_up (me_set M 2 K) 3 0 (nI 0) a = M a := fun h1 h2 => by rw [me_up_n _ _ _ h1, me_set_n _ _ h2]
    refine ⟨by omega, fun l h => by omega, fun l h => by omega, fun l h => by omega, fun l l' h => by omega, fun x _ => ⟨fun t _ => by rw [r (by omega) (by omega)], by rw [r (by decide) (by decide)], by rw [r (by decide) (by decide)]⟩, fun l h => by omega, ?_, fun j hj => ?_, r (by decide) (by decide), r (by decide) (by decide), fun _ => rfl, fun h => (by cases h), hrem⟩
    · rw [if_neg (by omega)]; exact me_up_s _ _ _ _
    · rw [me_up_j _ _ _ (by omega), me_set_n _ _ (by decide)]
  | l + 1, hL =>
    obtain ⟨c, hQ, -, e2⟩ := rf_opl hI hk hS l (by omega) hroom
    rw [fb_op_s, e2]
    dsimp only
    generalize (fb_opl k (fb_own (me_set M 2 K) (rf_rn M 0)) l).2 = Q at hQ ⊢
    refine ⟨c, ((hQ.1 0 (by omega)).1).2, ?_⟩
    have r3 : ∀ {a : Nat}, a ≠ 3 → me_up Q 3 0 (nI (c 0)) a = Q a := fun h => me_up_n _ _ _ h
    have hna : fb_na (me_up Q 3 0 (nI (c 0))) (c 0) k l = c l := rf_Q_na hQ (fun j _ => by rw [r3 (by omega)]) l (Nat.le_refl _)
    rw [fb_cut_s, hna]
    refine rf_Q_C (l := l) hI hk hS (by omega) hQ ?_ ?_ ?_ ?_ (fun x t ht h => ?_) ?_ (fun x hx => ?_) (fun j hj => ?_) (fun h => rfl) (fun h => (by cases h)) (fun i h1 h2 => hrem i h1 (by omega))
    · rw [me_up_n _ _ _ (by decide), me_up_n _ _ _ (by omega), r3 (by decide)]
    · rw [me_up_n _ _ _ (by decide), me_up_n _ _ _ (by omega)]; exact me_set_s _ _ _
    · rw [me_up_n _ _ _ (by decide), me_up_n _ _ _ (by omega), r3 (by decide)]
    · rw [me_up_n _ _ _ (by decide), me_up_n _ _ _ (by omega), r3 (by decide)]
    · rw [me_up_n _ _ _ (by omega)]
      by_cases ex : x = c l
      · subst ex
        rw [me_up_j _ _ _ (h.elim (fun q => absurd rfl q) id), r3 (by omega)]
      · rw [me_up_n _ _ _ (by omega), r3 (by omega)]
    · rw [me_up_n _ _ _ (by omega)]; exact me_up_s _ _ _ _
    · rw [me_up_j _ _ _ hx, me_up_n _ _ _ (by omega), r3 (by decide)]
    · rw [me_up_s, r3 (by decide), rf_off _ _ _ hj]
      by_cases et : j = fb_tn k l
      · rw [if_pos et, decide_eq_true et, Bool.not_true, Bool.and_false]
      · rw [if_neg et, decide_eq_false et, Bool.not_false, Bool.and_true]
end
