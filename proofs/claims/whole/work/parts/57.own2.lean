/-! what ownCurrentPath and its callers need of the invariant -/
theorem fb_ism_nat {M : me_M} {h : Int32} (hh : fb_ism M h = true) : ∃ j, j < 7 ∧ h = nI j ∧ M 3 j ≠ -1 := by
  unfold fb_ism at hh
  rw [Bool.and_eq_true, Bool.and_eq_true] at hh
  obtain ⟨⟨h1, h2⟩, h3⟩ := hh
  obtain ⟨a, b⟩ := rf_h7 (of_decide_eq_true h1) (of_decide_eq_true h2)
  exact ⟨_, a, b, of_decide_eq_true h3⟩
theorem fb_isk_nat {k : Int32} (hh : fb_isk k = true) : ∃ j, j < 64 ∧ k = nI j := ⟨_, rf_isk hh⟩
section
variable {M U : me_M} {N k L : Nat}
theorem rf_fbK (hI : rf_I M U N) : fb_K M := by
  obtain ⟨hA, hW, -⟩ := hI
  refine ⟨fun h hh => ?_, fun h hh => ?_⟩
  · have e1 : rf_rv M h = M 3 h := if_pos hh
    have e2 : rf_rn M h = fb_rt M 3 h := congrArg Int32.toNatClampNeg e1
    have a := hA.1 h (by omega)
    have b := hW h (by omega)
    rw [e1, e2] at a
    rw [e2] at b
    exact a.elim (fun z => Or.inl z.2) (fun z => Or.inr ⟨z.2.1, b⟩)
  · have e1 : rf_rv M (7 + h) = M 4 h := by unfold rf_rv; rw [if_neg (by omega), show 7 + h - 7 = h by omega]
    have e2 : rf_rn M (7 + h) = fb_rt M 4 h := congrArg Int32.toNatClampNeg e1
    have a := hA.1 (7 + h) (by omega)
    have b := hW (7 + h) (by omega)
    rw [e1, e2] at a
    rw [e2] at b
    exact a.elim (fun z => Or.inl z.2) (fun z => Or.inr ⟨z.2.1, b⟩)
theorem rf_rootw (hI : rf_I M U N) {j : Nat} (hj : j < 7) (hne : M 3 j ≠ -1) : M 3 j = nI (fb_r M j) ∧ fb_wf M (fb_r M j) := ((rf_fbK hI).1 j hj).resolve_left hne
theorem rf_root0 (hI : rf_I M U N) : M 3 0 ≠ -1 := (rf_there hI (by decide)).mpr (by rw [hI.1.2.1]; decide)
theorem ow_room (hI : rf_I M U N) (hk : k < 64) (hL : L ≤ 3) (h : ¬ fb_free M < nI (fb_ntm (fb_mr M).2 (fb_r M 0) k L)) : rf_nb (rf_mk (rf_KR M).2) + me_cn (fun j => decide (M 1 (rf_n M k j) = 0)) L ≤ 60 := by
  obtain ⟨f1, f2, f3, f4, f5⟩ := rf_freeI hI
  rw [rf_mr, rf_rn7 M (by omega), f1] at h
  dsimp only at h
  rw [rf_ntm _ hk hL] at h
  have hle := me_cn_le (fun j => decide (M 1 (rf_n M k j) = 0)) L
  have h2 := (nI_leI (by omega) (by omega)).mp (Int32.not_lt.mp h)
  omega
theorem cn_mono (P : Nat → Bool) {a b : Nat} (h : a ≤ b) : me_cn P a ≤ me_cn P b := by
  induction b with
  | zero => rw [show a = 0 by omega]; exact Nat.le_refl _
  | succ b ih =>
    by_cases q : a = b + 1
    · rw [q]; exact Nat.le_refl _
    · exact Nat.le_trans (ih (by omega)) (Nat.le_add_right _ _)
theorem ow_ho (hI : rf_I M U N) (hk : k < 64) (hL : L ≤ 3) (h : ¬ fb_free M < nI (fb_ntm (fb_mr M).2 (fb_r M 0) k L)) : ∀ i, i + 1 < L → (fb_opl k (fb_own (fb_mr M).2 (fb_r M 0)) i).1 < 61 ∧ (fb_opl k (fb_own (fb_mr M).2 (fb_r M 0)) i).2 (6 + (fb_opl k (fb_own (fb_mr M).2 (fb_r M 0)) i).1) (fb_tn k i) = nI (fb_ch (fb_opl k (fb_own (fb_mr M).2 (fb_r M 0)) i).2 (fb_opl k (fb_own (fb_mr M).2 (fb_r M 0)) i).1 (fb_tn k i)) ∧ fb_ch (fb_opl k (fb_own (fb_mr M).2 (fb_r M 0)) i).2 (fb_opl k (fb_own (fb_mr M).2 (fb_r M 0)) i).1 (fb_tn k i) < 61 := by
  have hroom := ow_room hI hk hL h
  obtain ⟨-, -, -, -, f8⟩ := rf_freeI hI
  rw [rf_mr, rf_rn7 M (by omega)]
  dsimp only
  intro i hi
  obtain ⟨c, hQ, e1, -⟩ := rf_opl hI hk f8 i (by omega) (Nat.le_trans (Nat.add_le_add_left (cn_mono _ (by omega)) _) hroom)
  rw [e1]
  generalize (fb_opl k (fb_own (me_set M 2 (rf_KR M).2) (rf_rn M 0)) i).2 = Q at hQ ⊢
  have hc := (hQ.1 i (Nat.le_refl _)).1
  have hv : Q (6 + c i) (fb_tn k i) = M (6 + rf_n M k i) (fb_tn k i) := by rw [(hQ.2.2.2.1 i (Nat.le_refl _)).1 _ (fb_tn_lt k i), if_neg (by omega)]
  have hw := fb_pk_wf (hI.2.1 0 (by omega)) k
  have en : rf_n M k i = fb_na M (rf_rn M 0) k i := (rf_na M _ hk (by omega)).symm
  have h1 := hw.1 i (by omega)
  have h2 := hw.2 (i + 1) (by omega)
  have ev : Q (6 + c i) (fb_tn k i) = nI (fb_na M (rf_rn M 0) k (i + 1)) := by rw [hv, en]; exact h1.2
  have ec : fb_ch Q (c i) (fb_tn k i) = fb_na M (rf_rn M 0) k (i + 1) := by unfold fb_ch; rw [ev]; exact nI_clamp (by omega)
  rw [ec]
  exact ⟨by omega, ev, h2⟩
theorem ow_path (hI : rf_I M U N) (hk : k < 64) (hL : L + 1 ≤ 3) (h : ¬ fb_free M < nI (fb_ntm (fb_mr M).2 (fb_r M 0) k (L + 1))) : (fb_op (fb_mr M).2 (fb_r M 0) k (L + 1)).1 < 61 ∧ fb_pk (me_up (fb_op (fb_mr M).2 (fb_r M 0) k (L + 1)).2 3 0 (nI (fb_op (fb_mr M).2 (fb_r M 0) k (L + 1)).1)) (fb_op (fb_mr M).2 (fb_r M 0) k (L + 1)).1 k L ∧ fb_na (me_up (fb_op (fb_mr M).2 (fb_r M 0) k (L + 1)).2 3 0 (nI (fb_op (fb_mr M).2 (fb_r M 0) k (L + 1)).1)) (fb_op (fb_mr M).2 (fb_r M 0) k (L + 1)).1 k L < 61 := by
  have hroom := ow_room hI hk hL h
  obtain ⟨-, -, -, -, f8⟩ := rf_freeI hI
  rw [rf_mr, rf_rn7 M (by omega), fb_op_s]
  dsimp only
  obtain ⟨c, hQ, -, e2⟩ := rf_opl hI hk f8 L (by omega) hroom
  rw [e2]
  generalize (fb_opl k (fb_own (me_set M 2 (rf_KR M).2) (rf_rn M 0)) L).2 = Q at hQ ⊢
  have r3 : ∀ {a : Nat}, a ≠ 3 → me_up Q 3 0 (nI (c 0)) a = Q a := fun h => me_up_n _ _ _ h
  have na : ∀ i, i ≤ L → fb_na (me_up Q 3 0 (nI (c 0))) (c 0) k i = c i := rf_Q_na hQ (fun j _ => by rw [r3 (by omega)])
  have b : ∀ j, j ≤ L → c j < 61 := fun j hj => by have := ((hQ.1 j hj).1).2; omega
  refine ⟨b 0 (by omega), fun i hi => ?_, by rw [na L (Nat.le_refl _)]; exact b L (Nat.le_refl _)⟩
  rw [na i (by omega), na (i + 1) (by omega), r3 (by omega), (hQ.2.2.2.1 i (by omega)).1 _ (fb_tn_lt k i), if_pos ⟨rfl, hi⟩]
  exact ⟨b i (by omega), rfl⟩
theorem fb_ocp1 (h : fb_free M < nI (fb_ntm (fb_mr M).2 (fb_r M 0) k L)) : fb_ocp M k L = (true, (fb_mr M).2) := if_pos h
theorem fb_ocp0 (h : ¬ fb_free M < nI (fb_ntm (fb_mr M).2 (fb_r M 0) k L)) : fb_ocp M k L = (false, me_up (fb_op (fb_mr M).2 (fb_r M 0) k L).2 3 0 (nI (fb_op (fb_mr M).2 (fb_r M 0) k L).1)) := if_neg h
end
