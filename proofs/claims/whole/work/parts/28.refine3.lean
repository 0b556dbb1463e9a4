/-! .. the calls on whole maps -/
section
variable {M U V X Y : me_M} {N : Nat}
/-- map m in X is what map m0 is in U -/
def rf_cp (U X : me_M) (m m0 : Nat) : Prop := X 0 m = U 0 m0 ∧ (∀ k, k < 64 → X 1 (64 * m + k) = U 1 (64 * m0 + k) ∧ X 2 (64 * m + k) = U 2 (64 * m0 + k)) ∧ ∀ p, p < 21 → X 3 (21 * m + p) = U 3 (21 * m0 + p)
theorem rf_cp_t {m m0 m1 : Nat} (h1 : rf_cp U X m m0) (h2 : rf_cp X Y m1 m) : rf_cp U Y m1 m0 :=
  ⟨h2.1.trans h1.1, fun k hk => ⟨(h2.2.1 k hk).1.trans (h1.2.1 k hk).1, (h2.2.1 k hk).2.trans (h1.2.1 k hk).2⟩, fun p hp => (h2.2.2 p hp).trans (h1.2.2 p hp)⟩
theorem rf_cp_i {m : Nat} (h0 : X 0 = U 0) (h1 : X 1 = U 1) (h2 : X 2 = U 2) (h3 : X 3 = U 3) : rf_cp U X m m := ⟨by rw [h0], fun k _ => ⟨by rw [h1], by rw [h2]⟩, fun p _ => by rw [h3]⟩
theorem rf_copy (U : me_M) (f t m : Nat) : rf_cp U (mo_copy U f t) m (if m = t then f else m) ∧ mo_copy U f t 4 = U 4 := by
  have c0 : mo_copy U f t 0 = upd (U 0) t (U 0 f) := by
    unfold mo_copy
    rw [me_set_n _ _ (by decide), me_set_n _ _ (by decide), me_set_n _ _ (by decide)]
    exact me_set_s _ _ _
  have c1 : mo_copy U f t 1 = va_cpy (U 1) (U 1) (64 * f) (64 * t) 64 := by
    unfold mo_copy
    rw [me_set_n _ _ (by decide), me_set_n _ _ (by decide)]
    exact me_set_s _ _ _
  have c2 : mo_copy U f t 2 = va_cpy (U 2) (U 2) (64 * f) (64 * t) 64 := by
    unfold mo_copy
    rw [me_set_n _ _ (by decide)]
    exact me_set_s _ _ _
  have c3 : mo_copy U f t 3 = va_cpy (U 3) (U 3) (21 * f) (21 * t) 21 := me_set_s _ _ _
  have c4 : mo_copy U f t 4 = U 4 := by
    unfold mo_copy
    rw [me_set_n _ _ (by decide), me_set_n _ _ (by decide), me_set_n _ _ (by decide), me_up_n _ _ _ (by decide)]
  refine ⟨⟨?_, fun k hk => ⟨?_, ?_⟩, fun p hp => ?_⟩, c4⟩
  · rw [c0]; unfold upd
    by_cases e : m = t
    · rw [if_pos e, if_pos e]
    · rw [if_neg e, if_neg e]
  · rw [c1]; unfold va_cpy
    by_cases e : m = t
    · rw [if_pos e, if_pos (by subst e; omega), show 64 * f + (64 * m + k - 64 * t) = 64 * f + k by subst e; omega]
    · rw [if_neg e, if_neg (by omega)]
  · rw [c2]; unfold va_cpy
    by_cases e : m = t
    · rw [if_pos e, if_pos (by subst e; omega), show 64 * f + (64 * m + k - 64 * t) = 64 * f + k by subst e; omega]
    · rw [if_neg e, if_neg (by omega)]
  · rw [c3]; unfold va_cpy
    by_cases e : m = t
    · rw [if_pos e, if_pos (by subst e; omega), show 21 * f + (21 * m + p - 21 * t) = 21 * f + p by subst e; omega]
    · rw [if_neg e, if_neg (by omega)]
theorem rf_cps (U : me_M) {f t : Nat} (n : Nat) (h : f + n ≤ t ∨ t + n ≤ f) : (∀ m, rf_cp U (mo_cps U f t n) m (if t ≤ m ∧ m < t + n then f + (m - t) else m)) ∧ mo_cps U f t n 4 = U 4 := by
  induction n with
  | zero => exact ⟨fun m => by rw [if_neg (by omega)]; exact rf_cp_i rfl rfl rfl rfl, rfl⟩
  | succ n ih =>
    obtain ⟨i1, i2⟩ := ih (by omega)
    refine ⟨fun m => ?_, (rf_copy _ _ _ 0).2.trans i2⟩
    have h1 := (rf_copy (mo_cps U f t n) (f + n) (t + n) m).1
    by_cases e : m = t + n
    · rw [if_pos e] at h1
      have h2 := i1 (f + n)
      rw [if_neg (by omega)] at h2
      rw [if_pos (by omega), show f + (m - t) = f + n by omega]
      exact rf_cp_t h2 h1
    · rw [if_neg e] at h1
      have h2 := i1 m
      by_cases e2 : t ≤ m ∧ m < t + n
      · rw [if_pos e2] at h2
        rw [if_pos (by omega)]
        exact rf_cp_t h2 h1
      · rw [if_neg e2] at h2
        rw [if_neg (by omega)]
        exact rf_cp_t h2 h1
theorem rf_as_of {M' : me_M} {m m0 : Nat} (hm : m0 < 14) (h : rf_rv M' m = rf_rv M m0) (hc : rf_cp U X m m0) : rf_as M M' U X m m0 := ⟨hm, h, hc⟩
theorem rf_code (U : me_M) (x : Int32) (m : Nat) : rf_cp U (me_up U 4 0 x) m m := rf_cp_i (me_up_n _ _ _ (by decide)) (me_up_n _ _ _ (by decide)) (me_up_n _ _ _ (by decide)) (me_up_n _ _ _ (by decide))
theorem rf_freeze (M : me_M) : (∀ x, x < 61 → fb_freeze M 1 x = 0) ∧ ∀ a, a ≠ 1 → fb_freeze M a = M a := by
  constructor
  · intro x hx
    unfold fb_freeze me_zero
    rw [me_set_s, if_pos ⟨by omega, hx⟩]
  · intro a ha
    exact me_set_n _ _ ha
theorem rf_lu (hI : rf_I M U N) (f h : Nat) : fb_lu M f h = mo_lu U f h := by
  induction f generalizing h with
  | zero => rfl
  | succ f ih =>
    unfold fb_lu mo_lu
    by_cases e : h < 7
    · by_cases e2 : U 0 h ≠ 0
      · rw [if_pos ⟨e, (rf_there hI e).mpr e2⟩, if_pos ⟨e, e2⟩, ih]
      · rw [if_neg (fun z => e2 ((rf_there hI e).mp z.2)), if_neg (fun z => e2 z.2)]
    · rw [if_neg (fun z => e z.1), if_neg (fun z => e z.1)]
theorem rf_lu_in (U : me_M) (f h : Nat) (hf : h + f = 7) : h ≤ mo_lu U f h ∧ mo_lu U f h ≤ 7 := by
  induction f generalizing h with
  | zero => exact ⟨Nat.le_refl _, by show h ≤ 7; omega⟩
  | succ f ih =>
    unfold mo_lu
    split
    · have := ih (h + 1) (by omega)
      omega
    · omega
theorem rp_snapshot (hI : rf_I M U N) (hN9 : N < 2 ^ 31) : rf_E rf_cS (fb_snapshot M) (mo_snapshot U) N := by
  have hd : M 5 0 = U 4 5 := hI.2.2.2.2.2.2.2.2.2.2.2.1
  unfold fb_snapshot mo_snapshot
  rw [hd, rf_lu hI]
  have hc := fun x => rf_I_c hI hN9 x
  by_cases h1 : U 4 5 ≠ 0
  · rw [if_pos h1, if_pos h1]
    exact rf_Ex _ (by decide) _ rfl (hc _)
  · rw [if_neg h1, if_neg h1]
    by_cases h2 : mo_lu U 6 1 = 7
    · rw [if_pos h2, if_pos h2]
      exact rf_Ex _ (by decide) _ rfl (hc _)
    · rw [if_neg h2, if_neg h2]
      have hin := rf_lu_in U 6 1 (by omega)
      generalize mo_lu U 6 1 = h at h2 hin ⊢
      have hcp : ∀ m, rf_cp U (me_up (mo_copy (me_up U 4 0 0) 0 h) 4 2 (U 4 1)) m (if m = h then 0 else m) := fun m =>
        rf_cp_t (rf_cp_t (rf_code U 0 _) (rf_copy (me_up U 4 0 0) 0 h m).1) (rf_cp_i (me_up_n _ _ _ (by decide)) (me_up_n _ _ _ (by decide)) (me_up_n _ _ _ (by decide)) (me_up_n _ _ _ (by decide)))
      have h4 : ∀ j, j ≠ 2 → me_up (mo_copy (me_up U 4 0 0) 0 h) 4 2 (U 4 1) 4 j = me_up U 4 0 0 4 j := fun j hj => by rw [me_up_j _ _ _ hj, (rf_copy (me_up U 4 0 0) 0 h 0).2]
      obtain ⟨z1, z2⟩ := rf_freeze (me_up M 3 h (M 3 0))
      have hrv : ∀ m, m < 14 → rf_rv (fb_freeze (me_up M 3 h (M 3 0))) m = rf_rv M (if m = h then 0 else m) := by
        intro m hm
        unfold rf_rv
        rw [z2 3 (by decide), z2 4 (by decide), me_up_n _ _ _ (show (4 : Nat) ≠ 3 by decide)]
        by_cases e : m = h
        · rw [if_pos e, if_pos (by omega), if_pos (by omega), e, me_up_s]
        · rw [if_neg e]
          by_cases e7 : m < 7
          · rw [if_pos e7, if_pos e7, me_up_j _ _ _ e]
          · rw [if_neg e7, if_neg e7]
      obtain ⟨hA, hW, hZ, h01, hO, hV, hL, hP, hN, hG, hR, s1, s2, s3, s4, s5⟩ := id hI
      refine ⟨?_, fun _ => rfl, ?_⟩
      · dsimp only
        rw [h4 0 (by decide), me_up_s]; rfl
      · show rf_I (fb_freeze (me_up M 3 h (M 3 0))) (me_up (mo_copy (me_up U 4 0 0) 0 h) 4 2 (U 4 1)) N
        refine rf_re hI hN9 (by rw [z2 0 (by decide), me_up_n _ _ _ (by decide)]) (fun x => by rw [z2 _ (by omega), me_up_n _ _ _ (by omega)]) (fun m hm => Or.inl ⟨_, rf_as_of (by split <;> omega) (hrv m hm) (hcp m)⟩) ?_ ?_ (z1 0 (by omega)) ?_ (Or.inl ⟨me_up_s _ _ _ _, z1⟩) ?_
        · rw [(hcp 0).1]
          split
          · exact hA.2.1
          · exact hA.2.1
        · rw [(hcp 7).1, if_neg (by omega)]; exact hA.2.2
        · rw [h4 1 (by decide), me_up_j _ _ _ (by decide)]
        · refine ⟨?_, ?_, ?_, ?_, ?_⟩
          · rw [z2 5 (by decide), me_up_n _ _ _ (by decide), h4 5 (by decide), me_up_j _ _ _ (by decide)]; exact s1
          · rw [z2 5 (by decide), me_up_n _ _ _ (by decide)]; exact s2
          · rw [z2 5 (by decide), me_up_n _ _ _ (by decide), h4 3 (by decide), me_up_j _ _ _ (by decide)]; exact s3
          · rw [z2 5 (by decide), me_up_n _ _ _ (by decide), h4 4 (by decide), me_up_j _ _ _ (by decide)]; exact s4
          · rw [z2 5 (by decide), me_up_n _ _ _ (by decide)]; exact s5
theorem rf_iss (hI : rf_I M U N) (h : Int32) : fb_iss M h = mo_iss U h := by
  unfold fb_iss mo_iss
  rw [rf_ism hI]
  cases e : mo_ism U h with
  | false => rw [Bool.and_false, Bool.and_false]
  | true =>
    rw [Bool.and_true, Bool.and_true, Bool.eq_iff_iff, decide_eq_true_iff, decide_eq_true_iff]
    unfold mo_ism at e
    rw [Bool.and_eq_true, Bool.and_eq_true, decide_eq_true_iff] at e
    exact (rf_pos e.1.1).symm
theorem rf_issin (hI : rf_I M U N) {h : Int32} (hh : mo_iss U h = true) : 0 < h.toNatClampNeg ∧ h.toNatClampNeg < 7 ∧ U 0 h.toNatClampNeg = 1 ∧ h = nI h.toNatClampNeg := by
  unfold mo_iss at hh
  rw [Bool.and_eq_true, decide_eq_true_iff] at hh
  have h2 := hh.2
  unfold mo_ism at h2
  rw [Bool.and_eq_true, Bool.and_eq_true, decide_eq_true_iff, decide_eq_true_iff, decide_eq_true_iff] at h2
  obtain ⟨a, b⟩ := rf_h7 h2.1.1 h2.1.2
  refine ⟨?_, a, ?_, b⟩
  · apply Nat.pos_of_ne_zero
    intro z
    rw [z] at b
    rw [b] at hh
    exact absurd hh.1 (by decide)
  · rcases hI.1.1 h.toNatClampNeg (by omega) with ⟨q, -⟩ | ⟨q, -⟩
    · exact absurd q h2.2
    · exact q
theorem rp_rollback (hI : rf_I M U N) (hN9 : N < 2 ^ 31) (h : Int32) : rf_E rf_cG (fb_rollback M h) (mo_rollback U h) N := by
  have hd : M 5 0 = U 4 5 := hI.2.2.2.2.2.2.2.2.2.2.2.1
  unfold fb_rollback mo_rollback
  rw [hd, rf_iss hI]
  have hc := fun x => rf_I_c hI hN9 x
  by_cases h1 : U 4 5 ≠ 0
  · rw [if_pos h1, if_pos h1]
    exact rf_Ex _ (by decide) _ rfl (hc _)
  · rw [if_neg h1, if_neg h1]
    by_cases h2 : mo_iss U h = false
    · rw [if_pos h2, if_pos h2]
      exact rf_Ex _ (by decide) _ rfl (hc _)
    · rw [if_neg h2, if_neg h2]
      obtain ⟨p0, p7, pt, -⟩ := rf_issin hI (h := h) (by simpa using h2)
      rw [rf_rn7 M p7]
      generalize h.toNatClampNeg = n at p0 p7 pt ⊢
      have hcp : ∀ m, rf_cp U (mo_copy (me_up U 4 0 0) n 0) m (if m = 0 then n else m) := fun m => rf_cp_t (rf_code U 0 _) (rf_copy (me_up U 4 0 0) n 0 m).1
      have h4 : mo_copy (me_up U 4 0 0) n 0 4 = me_up U 4 0 0 4 := (rf_copy (me_up U 4 0 0) n 0 0).2
      have hrv : ∀ m, m < 14 → rf_rv (me_up M 3 0 (M 3 n)) m = rf_rv M (if m = 0 then n else m) := by
        intro m hm
        unfold rf_rv
        rw [me_up_n _ _ _ (show (4 : Nat) ≠ 3 by decide)]
        by_cases e : m = 0
        · rw [if_pos e, if_pos (by omega), if_pos p7, e, me_up_s]
        · rw [if_neg e]
          by_cases e7 : m < 7
          · rw [if_pos e7, if_pos e7, me_up_j _ _ _ e]
          · rw [if_neg e7, if_neg e7]
      obtain ⟨hA, hW, hZ, h01, hO, hV, hL, hP, hN, hG, hR, s1, s2, s3, s4, s5⟩ := id hI
      refine ⟨?_, fun _ => ?_, ?_⟩
      · dsimp only
        rw [h4, me_up_s]; rfl
      · show nI (fb_kb M (rf_rn M n)) = nI (mo_bi (mo_copy (me_up U 4 0 0) n 0) 0 0 64)
        unfold fb_kb mo_bi
        rw [me_cn_congr fun i hi => ?_]
        have := (hcp 0).2.1 i hi
        rw [if_pos rfl] at this
        rw [rf_bd hI (by omega) hi, show 64 * 0 + (0 + i) = 64 * 0 + i by omega, this.1]
      · show rf_I (me_up M 3 0 (M 3 n)) (mo_copy (me_up U 4 0 0) n 0) N
        refine rf_re hI hN9 (me_up_n _ _ _ (by decide)) (fun x => me_up_n _ _ _ (by omega)) (fun m hm => Or.inl ⟨_, rf_as_of (by split <;> omega) (hrv m hm) (hcp m)⟩) ?_ ?_ ?_ ?_ (Or.inr ⟨?_, me_up_n _ _ _ (by decide), fun m h0 hm => Or.inl ⟨_, ?_, rf_as_of (by split <;> omega) (hrv m hm) (hcp m)⟩⟩) ?_
        · rw [(hcp 0).1, if_pos rfl]; exact pt
        · rw [(hcp 7).1, if_neg (by omega)]; exact hA.2.2
        · rw [me_up_n _ _ _ (by decide)]; exact hZ.2.2
        · rw [h4, me_up_j _ _ _ (by decide)]
        · rw [h4, me_up_j _ _ _ (by decide)]
        · rw [if_neg (by omega)]; exact h0
        · refine ⟨?_, ?_, ?_, ?_, ?_⟩
          · rw [me_up_n _ _ _ (by decide), h4, me_up_j _ _ _ (by decide)]; exact s1
          · rw [me_up_n _ _ _ (by decide)]; exact s2
          · rw [me_up_n _ _ _ (by decide), h4, me_up_j _ _ _ (by decide)]; exact s3
          · rw [me_up_n _ _ _ (by decide), h4, me_up_j _ _ _ (by decide)]; exact s4
          · rw [me_up_n _ _ _ (by decide)]; exact s5
end
