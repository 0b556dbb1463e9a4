/-! put and remove: both sides make the same number of nodes, and both have room or neither has -/
section
variable {M U : me_M} {N k : Nat}
theorem rf_I_cong {M' U' : me_M} (hI : rf_I M U N) (hN9 : N < 2 ^ 31) (h0 : M' 0 = M 0) (h1 : M' 1 = M 1) (h3 : M' 3 = M 3) (h4 : M' 4 = M 4) (h5 : M' 5 = M 5) (h6 : ∀ x, M' (6 + x) = M (6 + x))
    (u0 : U' 0 = U 0) (u1 : U' 1 = U 1) (u2 : U' 2 = U 2) (u3 : U' 3 = U 3) (u4 : ∀ j, j ≠ 0 → U' 4 j = U 4 j) : rf_I M' U' N := by
  have has : ∀ m, m < 14 → rf_as M M' U U' m m := fun m hm => ⟨hm, by unfold rf_rv; rw [h3, h4], by rw [u0], fun k _ => ⟨by rw [u1], by rw [u2]⟩, fun p _ => by rw [u3]⟩
  obtain ⟨hA, hW, hZ, h01, hO, hV, hL, hP, hN, hG, hR, s1, s2, s3, s4, s5⟩ := id hI
  refine rf_re hI hN9 h0 h6 (fun m hm => Or.inl ⟨m, has m hm⟩) (by rw [u0]; exact hA.2.1) (by rw [u0]; exact hA.2.2) (by rw [h1]; exact hZ.2.2) (u4 1 (by decide)) (Or.inr ⟨u4 2 (by decide), h1, fun m h hm => Or.inl ⟨m, h, has m hm⟩⟩) ?_
  exact ⟨by rw [h5, u4 5 (by decide)]; exact s1, by rw [h5]; exact s2, by rw [h5, u4 3 (by decide)]; exact s3, by rw [h5, u4 4 (by decide)]; exact s4, by rw [h5]; exact s5⟩
theorem rf_I_K (hI : rf_I M U N) (hN9 : N < 2 ^ 31) (K : Nat → Int32) : rf_I (me_set M 2 K) U N :=
  rf_I_cong hI hN9 (me_set_n _ _ (by decide)) (me_set_n _ _ (by decide)) (me_set_n _ _ (by decide)) (me_set_n _ _ (by decide)) (me_set_n _ _ (by decide)) (fun x => me_set_n _ _ (by omega)) rfl rfl rfl rfl (fun _ _ => rfl)
theorem rf_I_c (hI : rf_I M U N) (hN9 : N < 2 ^ 31) (x : Int32) : rf_I M (me_up U 4 0 x) N :=
  rf_I_cong hI hN9 rfl rfl rfl rfl rfl (fun _ => rfl) (me_up_n _ _ _ (by decide)) (me_up_n _ _ _ (by decide)) (me_up_n _ _ _ (by decide)) (me_up_n _ _ _ (by decide)) (fun j hj => me_up_j _ _ _ hj)
theorem rf_I_N {N' : Nat} (hI : rf_I M U N) (h : N ≤ N') : rf_I M U N' := by
  obtain ⟨hA, hW, hZ, h01, hO, hV, hL, hP, hN, ⟨ma, mk, g1, g2, g3, g4, g5⟩, hR, hS⟩ := hI
  exact ⟨hA, hW, hZ, h01, hO, hV, hL, hP, hN, ⟨ma, mk, g1, g2, g3, by omega, g5⟩, hR, hS⟩
theorem rf_ntm (K : Nat → Int32) (hk : k < 64) {L : Nat} (hL : L ≤ 3) : fb_ntm (me_set M 2 K) (rf_rn M 0) k L = me_cn (fun j => decide (M 1 (rf_n M k j) = 0)) L := by
  unfold fb_ntm
  refine me_cn_congr fun l hl => ?_
  rw [me_set_n _ _ (by decide), rf_set2_na, rf_na M _ hk (by omega)]
  rfl
theorem rf_cn_cut (P : Nat → Bool) {L n : Nat} (h : L ≤ n) : me_cn (fun l => decide (l < L) && P l) n = me_cn P L := by
  induction n with
  | zero => rw [show L = 0 by omega]; rfl
  | succ n ih =>
    by_cases e : L = n + 1
    · subst e
      exact me_cn_congr fun i hi => by rw [decide_eq_true hi, Bool.true_and]
    · show me_cn (fun l => decide (l < L) && P l) n + (if (decide (n < L) && P n) = true then 1 else 0) = _
      rw [ih (by omega), decide_eq_false (by omega), Bool.false_and]
      rfl
theorem rf_stale (hI : rf_I M U N) (hN9 : N < 2 ^ 31) (hk : k < 64) {l : Nat} (hl : l < 3) : U 3 (mo_pl l k) ≤ U 4 2 ↔ M 1 (rf_n M k l) = 0 := by
  obtain ⟨hA, hW, hZ, h01, hO, hV, hL, hP, hN, ⟨ma, mk, g1, g2, g3, g4, g5⟩, hR, hS⟩ := hI
  have hp : mo_pl l k < 21 := rf_pl_lt hk
  by_cases hz : rf_nd M 0 (mo_pl l k) = 0
  · have e := (hN.1 0 (mo_pl l k) (by omega) hp).mp hz
    rw [show 21 * 0 + mo_pl l k = mo_pl l k by omega] at e
    rw [e, g2]
    have e2 : rf_n M k l = 0 := hz
    rw [e2]
    exact ⟨fun _ => hZ.2.2, fun _ => nI_pos' (by omega)⟩
  · have h := hR.1 (mo_pl l k) hp hz
    have e2 : rf_n M k l = rf_nd M 0 (mo_pl l k) := rfl
    rw [e2]
    constructor
    · intro h1
      apply Classical.byContradiction
      intro h2
      exact absurd (h.mp h2) (Int32.not_lt.mpr h1)
    · intro h1
      exact Int32.not_lt.mp (fun h2 => h.mpr h2 h1)
theorem rf_fn (hI : rf_I M U N) (hN9 : N < 2 ^ 31) (hk : k < 64) {L : Nat} (hL : L ≤ 3) {more : Int32} (hkp : ∀ l, l < 3 → (0 < nI (mo_below U l k) + more ↔ l < L)) : mo_fn U k more = me_cn (fun j => decide (M 1 (rf_n M k j) = 0)) L := by
  unfold mo_fn
  rw [← rf_cn_cut _ hL]
  refine me_cn_congr fun l hl => ?_
  unfold mo_makes
  rw [Bool.eq_iff_iff, Bool.and_eq_true, Bool.and_eq_true, decide_eq_true_iff, decide_eq_true_iff, decide_eq_true_iff, decide_eq_true_iff, hkp l hl, rf_stale hI hN9 hk hl]
theorem rf_60 : (60 : Int32) = nI 60 := rfl
theorem rf_freeI (hI : rf_I M U N) : fb_free M = nI (60 - ((rf_KD M).1 + (rf_KR M).1)) ∧ mo_free U = nI (60 - ((rf_KD M).1 + (rf_KR M).1)) ∧ (rf_KD M).1 + (rf_KR M).1 ≤ 60 ∧ rf_nb (rf_mk (rf_KR M).2) = (rf_KD M).1 + (rf_KR M).1 ∧ rf_S M (fun _ => True) (rf_KR M).2 := by
  have hJ := rf_I_J hI
  obtain ⟨f1, f2, f3⟩ := rf_free hJ hI.2.2.2.2.2.2.2.2.1
  obtain ⟨b1, b2⟩ := rf_KR_ok hJ
  refine ⟨?_, ?_, f3, b1.symm, b2⟩
  · unfold fb_free
    rw [rf_mr, rf_md]
    show nI 60 - nI (rf_KD M).1 - nI (rf_KR M).1 = _
    rw [pk_sub (by omega), pk_sub (by omega), Nat.sub_sub]
  · unfold mo_free
    rw [f1, rf_60, pk_sub (by omega)]
/-- both have room, or neither -/
theorem rf_room (hI : rf_I M U N) (hN9 : N < 2 ^ 31) (hk : k < 64) {L : Nat} (hL : L ≤ 3) {more : Int32} (hkp : ∀ l, l < 3 → (0 < nI (mo_below U l k) + more ↔ l < L)) :
    (fb_free M < nI (fb_ntm (me_set M 2 (rf_KR M).2) (rf_rn M 0) k L) ↔ ¬ nI (mo_fn U k more) ≤ mo_free U) ∧ (nI (mo_fn U k more) ≤ mo_free U → rf_nb (rf_mk (rf_KR M).2) + me_cn (fun j => decide (M 1 (rf_n M k j) = 0)) L ≤ 60) := by
  obtain ⟨f1, f2, f3, f4, f5⟩ := rf_freeI hI
  have hle := me_cn_le (fun j => decide (M 1 (rf_n M k j) = 0)) L
  rw [rf_ntm _ hk hL, rf_fn hI hN9 hk hL hkp, f1, f2, f4, nI_ltI (by omega) (by omega), nI_leI (by omega) (by omega)]
  omega
end
