/-! .. and the rest -/
section
variable {M U V X Y : me_M} {N : Nat}
theorem rf_empty (U : me_M) (t m : Nat) : (m ≠ t → rf_cp U (mo_empty U t) m m) ∧ (mo_empty U t 0 t = 0 ∧ (∀ k, k < 64 → mo_empty U t 1 (64 * t + k) = 0) ∧ ∀ p, p < 21 → mo_empty U t 3 (21 * t + p) = 0) ∧ mo_empty U t 4 = U 4 := by
  have c0 : mo_empty U t 0 = upd (U 0) t 0 := by
    unfold mo_empty me_zero
    rw [me_set_n _ _ (by decide), me_set_n _ _ (by decide)]
    exact me_set_s _ _ _
  have c1 : mo_empty U t 1 = fun j => if 64 * t ≤ j ∧ j < 64 * t + 64 then 0 else U 1 j := by
    unfold mo_empty me_zero
    rw [me_set_n _ _ (by decide), me_set_s, me_up_n _ _ _ (by decide)]
  have c2 : mo_empty U t 2 = U 2 := by
    unfold mo_empty me_zero
    rw [me_set_n _ _ (by decide), me_set_n _ _ (by decide), me_up_n _ _ _ (by decide)]
  have c3 : mo_empty U t 3 = fun j => if 21 * t ≤ j ∧ j < 21 * t + 21 then 0 else U 3 j := by
    unfold mo_empty me_zero
    rw [me_set_s, me_set_n _ _ (by decide), me_up_n _ _ _ (by decide)]
  have c4 : mo_empty U t 4 = U 4 := by
    unfold mo_empty me_zero
    rw [me_set_n _ _ (by decide), me_set_n _ _ (by decide), me_up_n _ _ _ (by decide)]
  refine ⟨fun e => ⟨?_, fun k hk => ⟨?_, by rw [c2]⟩, fun p hp => ?_⟩, ⟨?_, fun k hk => ?_, fun p hp => ?_⟩, c4⟩
  · rw [c0]; unfold upd; rw [if_neg e]
  · rw [c1]; show (if _ then _ else _) = _; rw [if_neg (by omega)]
  · rw [c3]; show (if _ then _ else _) = _; rw [if_neg (by omega)]
  · rw [c0]; unfold upd; rw [if_pos rfl]
  · rw [c1]; show (if _ then _ else _) = _; rw [if_pos (by omega)]
  · rw [c3]; show (if _ then _ else _) = _; rw [if_pos (by omega)]
theorem rp_drop (hI : rf_I M U N) (hN9 : N < 2 ^ 31) (h : Int32) : rf_E rf_cG (fb_drop M h) (mo_drop U h) N := by
  have hd : M 5 0 = U 4 5 := hI.2.2.2.2.2.2.2.2.2.2.2.1
  unfold fb_drop mo_drop
  rw [hd, rf_iss hI]
  have hc := fun x => rf_I_c hI hN9 x
  by_cases h1 : U 4 5 ≠ 0
  · rw [if_pos h1, if_pos h1]
    exact rf_Ex _ (by decide) _ rfl (hc _)
  · rw [if_neg h1, if_neg h1]
    by_cases h2 : mo_iss U h = false
    · rw [if_pos h2, if_pos h2]
      exact rf_Ex _ (by decide) _ rfl (hc _)
    · rw [if_neg h2, if_neg h2]
      obtain ⟨p0, p7, pt, -⟩ := rf_issin hI (h := h) (by simpa using h2)
      rw [rf_mr]
      generalize h.toNatClampNeg = n at p0 p7 pt ⊢
      have hcp : ∀ m, m ≠ n → rf_cp U (mo_empty (me_up U 4 0 0) n) m m := fun m hm => rf_cp_t (rf_code U 0 _) ((rf_empty (me_up U 4 0 0) n m).1 hm)
      obtain ⟨-, ⟨z0, z1, z3⟩, h4⟩ := rf_empty (me_up U 4 0 0) n 0
      have r : ∀ {a : Nat}, a ≠ 3 → a ≠ 2 → me_up (me_set M 2 (rf_KR M).2) 3 n (-1) a = M a := fun q1 q2 => by rw [me_up_n _ _ _ q1, me_set_n _ _ q2]
      have hrv : ∀ m, m < 14 → m ≠ n → rf_rv (me_up (me_set M 2 (rf_KR M).2) 3 n (-1)) m = rf_rv M m := by
        intro m hm e
        unfold rf_rv
        rw [r (a := 4) (by decide) (by decide), me_up_j _ _ _ e, me_set_n _ _ (by decide)]
      obtain ⟨hA, hW, hZ, h01, hO, hV, hL, hP, hN, hG, hR, s1, s2, s3, s4, s5⟩ := id hI
      have hno : rf_no (me_up (me_set M 2 (rf_KR M).2) 3 n (-1)) (mo_empty (me_up U 4 0 0) n) n := ⟨by unfold rf_rv; rw [if_pos p7, me_up_s], z0, z1, z3⟩
      have hI2 : rf_I (me_up (me_set M 2 (rf_KR M).2) 3 n (-1)) (mo_empty (me_up U 4 0 0) n) N := by
        refine rf_re hI hN9 (r (by decide) (by decide)) (fun x => r (by omega) (by omega)) (fun m hm => ?_) ?_ ?_ ?_ ?_ (Or.inr ⟨?_, r (by decide) (by decide), fun m h0 hm => ?_⟩) ?_
        · by_cases e : m = n
          · subst e; exact Or.inr hno
          · exact Or.inl ⟨m, rf_as_of hm (hrv m hm e) (hcp m e)⟩
        · rw [(hcp 0 (by omega)).1]; exact hA.2.1
        · rw [(hcp 7 (by omega)).1]; exact hA.2.2
        · rw [r (by decide) (by decide)]; exact hZ.2.2
        · rw [h4, me_up_j _ _ _ (by decide)]
        · rw [h4, me_up_j _ _ _ (by decide)]
        · by_cases e : m = n
          · subst e; exact Or.inr hno
          · exact Or.inl ⟨m, h0, rf_as_of hm (hrv m hm e) (hcp m e)⟩
        · refine ⟨?_, ?_, ?_, ?_, ?_⟩
          · rw [r (by decide) (by decide), h4, me_up_j _ _ _ (by decide)]; exact s1
          · rw [r (by decide) (by decide)]; exact s2
          · rw [r (by decide) (by decide), h4, me_up_j _ _ _ (by decide)]; exact s3
          · rw [r (by decide) (by decide), h4, me_up_j _ _ _ (by decide)]; exact s4
          · rw [r (by decide) (by decide)]; exact s5
      obtain ⟨a1, a2, -⟩ := rf_freeI hI
      obtain ⟨b1, b2, -⟩ := rf_freeI hI2
      refine ⟨?_, fun _ => ?_, ?_⟩
      · show mo_empty (me_up U 4 0 0) n 4 0 = _
        rw [h4, me_up_s]; rfl
      · show fb_free (me_up (me_set M 2 (rf_KR M).2) 3 n (-1)) - fb_free M = mo_free (mo_empty (me_up U 4 0 0) n) - mo_free U
        rw [a1, a2, b1, b2]
      · show rf_I (fb_mr (me_up (me_set M 2 (rf_KR M).2) 3 n (-1))).2 (mo_empty (me_up U 4 0 0) n) N
        rw [rf_mr]
        exact rf_I_K hI2 hN9 _
theorem rf_due (hI : rf_I M U N) : fb_due0 M = nI ((rf_KR M).1 + 1) ∧ mo_due0 U = nI ((rf_KR M).1 + 1) ∧ (rf_KR M).1 ≤ 60 := by
  obtain ⟨f1, f2, f3⟩ := rf_free (rf_I_J hI) hI.2.2.2.2.2.2.2.2.1
  refine ⟨?_, ?_, by omega⟩
  · unfold fb_due0
    rw [rf_mr, nI_1]
  · unfold mo_due0
    rw [f1, f2, pk_sub (by omega), nI_1, show (rf_KD M).1 + (rf_KR M).1 - (rf_KD M).1 = (rf_KR M).1 by omega]
theorem rp_free (hI : rf_I M U N) (hN9 : N < 2 ^ 31) : rf_E rf_cG (fb_freeC M) (mo_freeC U) N := by
  have hd : M 5 0 = U 4 5 := hI.2.2.2.2.2.2.2.2.2.2.2.1
  unfold fb_freeC mo_freeC
  rw [hd]
  by_cases h1 : U 4 5 ≠ 0
  · rw [if_pos h1, if_pos h1]
    exact rf_Ex _ (by decide) _ rfl (rf_I_c hI hN9 _)
  · rw [if_neg h1, if_neg h1, rf_mr]
    obtain ⟨a1, a2, -⟩ := rf_freeI hI
    exact rf_Er _ rfl (a1.trans a2.symm) (rf_I_c (rf_I_K hI hN9 _) hN9 _)
theorem rp_due (hI : rf_I M U N) (hN9 : N < 2 ^ 31) : rf_E rf_cG (fb_due M) (mo_due U) N := by
  have hd : M 5 0 = U 4 5 := hI.2.2.2.2.2.2.2.2.2.2.2.1
  unfold fb_due mo_due
  rw [hd]
  by_cases h1 : U 4 5 ≠ 0
  · rw [if_pos h1, if_pos h1]
    exact rf_Ex _ (by decide) _ rfl (rf_I_c hI hN9 _)
  · rw [if_neg h1, if_neg h1, rf_mr]
    obtain ⟨a1, a2, -⟩ := rf_due hI
    exact rf_Er _ rfl (a1.trans a2.symm) (rf_I_c (rf_I_K hI hN9 _) hN9 _)
/-- only single numbers change -/
theorem rf_I_S {M' U' : me_M} (hI : rf_I M U N) (hN9 : N < 2 ^ 31) (h0 : M' 0 = M 0) (h1 : M' 1 = M 1) (h3 : M' 3 = M 3) (h4 : M' 4 = M 4) (h6 : ∀ x, M' (6 + x) = M (6 + x))
    (u0 : U' 0 = U 0) (u1 : U' 1 = U 1) (u2 : U' 2 = U 2) (u3 : U' 3 = U 3) (u41 : U' 4 1 = U 4 1) (u42 : U' 4 2 = U 4 2) (hS : rf_Sc M' U') : rf_I M' U' N := by
  have has : ∀ m, m < 14 → rf_as M M' U U' m m := fun m hm => ⟨hm, by unfold rf_rv; rw [h3, h4], by rw [u0], fun k _ => ⟨by rw [u1], by rw [u2]⟩, fun p _ => by rw [u3]⟩
  exact rf_re hI hN9 h0 h6 (fun m hm => Or.inl ⟨m, has m hm⟩) (by rw [u0]; exact hI.1.2.1) (by rw [u0]; exact hI.1.2.2) (by rw [h1]; exact hI.2.2.1.2.2) u41 (Or.inr ⟨u42, h1, fun m h hm => Or.inl ⟨m, h, has m hm⟩⟩) hS
theorem rp_order (hI : rf_I M U N) (hN9 : N < 2 ^ 31) (n : Int32) : rf_E rf_cG (fb_order M n) (mo_order U n) N := by
  obtain ⟨s1, s2, s3, s4, s5⟩ := id hI.2.2.2.2.2.2.2.2.2.2.2
  unfold fb_order mo_order
  by_cases h : n < 0 ∨ 100 < n
  · rw [if_pos h, if_pos h]
    exact rf_Er _ rfl (rfl) (rf_I_c hI hN9 _)
  · rw [if_neg h, if_neg h]
    have h1 : ¬ n < 0 := fun z => h (Or.inl z)
    have h2 : n ≤ 100 := Int32.not_lt.mp (fun z => h (Or.inr z))
    obtain ⟨x, hx, ex⟩ := nI_of2 (M := 100) (n := 100) (by decide) h1 h2
    refine ⟨?_, fun _ => rfl, ?_⟩
    · dsimp only
      rw [me_up_j _ _ _ (by decide), me_up_s]; rfl
    · show rf_I (me_up M 5 2 n) (me_up (me_up U 4 0 0) 4 4 n) N
      have u : ∀ {a : Nat}, a ≠ 4 → me_up (me_up U 4 0 0) 4 4 n a = U a := fun q => by rw [me_up_n _ _ _ q, me_up_n _ _ _ q]
      have u4 : ∀ {j : Nat}, j ≠ 4 → j ≠ 0 → me_up (me_up U 4 0 0) 4 4 n 4 j = U 4 j := fun q1 q2 => by rw [me_up_j _ _ _ q1, me_up_j _ _ _ q2]
      refine rf_I_S hI hN9 (me_up_n _ _ _ (by decide)) (me_up_n _ _ _ (by decide)) (me_up_n _ _ _ (by decide)) (me_up_n _ _ _ (by decide)) (fun x => me_up_n _ _ _ (by omega)) (u (by decide)) (u (by decide)) (u (by decide)) (u (by decide)) (u4 (by decide) (by decide)) (u4 (by decide) (by decide)) ⟨?_, ?_, ?_, ?_, ?_⟩
      · rw [me_up_j _ _ _ (by decide), u4 (by decide) (by decide)]; exact s1
      · rw [me_up_j _ _ _ (by decide)]; exact s2
      · rw [me_up_j _ _ _ (by decide), u4 (by decide) (by decide)]; exact s3
      · rw [me_up_s, me_up_s]
      · rw [me_up_s]; exact Or.inr ⟨x, hx, ex⟩
theorem rf_cpy7 (f g : Nat → Int32) {j : Nat} (hj : j < 7) : va_cpy f g 0 0 7 j = f j := by
  unfold va_cpy
  rw [if_pos (by omega), show 0 + (j - 0) = j by omega]
theorem rp_recover (hI : rf_I M U N) (hN9 : N < 2 ^ 31) : rf_E rf_cG (fb_recover M) (mo_recover U) N := by
  obtain ⟨hA, hW, hZ, h01, hO, hV, hL, hP, hN, hG, hR, s1, s2, s3, s4, s5⟩ := id hI
  unfold fb_recover mo_recover
  rw [s1]
  by_cases h : U 4 5 = 0
  · rw [if_pos h, if_pos h]
    exact rf_Er _ rfl (rfl) (rf_I_c hI hN9 _)
  · rw [if_neg h, if_neg h]
    obtain ⟨c1, c4⟩ := rf_cps (me_up U 4 0 0) (f := 7) (t := 0) 7 (by omega)
    have hcp : ∀ m, rf_cp U (me_up (mo_cps (me_up U 4 0 0) 7 0 7) 4 5 0) m (if m < 7 then 7 + m else m) := fun m => by
      have h1 := c1 m
      have e : (if 0 ≤ m ∧ m < 0 + 7 then 7 + (m - 0) else m) = if m < 7 then 7 + m else m := by
        by_cases q : m < 7
        · rw [if_pos q, if_pos (by omega)]; omega
        · rw [if_neg q, if_neg (by omega)]
      rw [e] at h1
      exact rf_cp_t (rf_cp_t (rf_code U 0 _) h1) (rf_cp_i (me_up_n _ _ _ (by decide)) (me_up_n _ _ _ (by decide)) (me_up_n _ _ _ (by decide)) (me_up_n _ _ _ (by decide)))
    have r : ∀ {a : Nat}, a ≠ 3 → a ≠ 5 → me_up (me_set M 3 (va_cpy (M 4) (M 3) 0 0 7)) 5 0 0 a = M a := fun q1 q2 => by rw [me_up_n _ _ _ q2, me_set_n _ _ q1]
    have r5 : ∀ {j : Nat}, j ≠ 0 → me_up (me_set M 3 (va_cpy (M 4) (M 3) 0 0 7)) 5 0 0 5 j = M 5 j := fun q => by rw [me_up_j _ _ _ q, me_set_n _ _ (by decide)]
    have u4 : ∀ {j : Nat}, j ≠ 5 → j ≠ 0 → me_up (mo_cps (me_up U 4 0 0) 7 0 7) 4 5 0 4 j = U 4 j := fun q1 q2 => by rw [me_up_j _ _ _ q1, c4, me_up_j _ _ _ q2]
    have hrv : ∀ m, m < 14 → rf_rv (me_up (me_set M 3 (va_cpy (M 4) (M 3) 0 0 7)) 5 0 0) m = rf_rv M (if m < 7 then 7 + m else m) := by
      intro m hm
      unfold rf_rv
      rw [r (a := 4) (by decide) (by decide)]
      by_cases e : m < 7
      · rw [if_pos e, if_pos e, if_neg (by omega), me_up_n _ _ _ (by decide), me_set_s, rf_cpy7 _ _ e, show 7 + m - 7 = m by omega]
      · rw [if_neg e, if_neg e, if_neg e]
    refine ⟨?_, fun _ => ?_, ?_⟩
    · dsimp only
      rw [me_up_j _ _ _ (by decide), c4, me_up_s]; rfl
    · show nI _ = nI _
      rw [me_cn_congr fun i hi => ?_]
      rw [Bool.eq_iff_iff, decide_eq_true_iff, decide_eq_true_iff]
      have e : rf_rv M (7 + (i + 1)) = M 4 (i + 1) := by unfold rf_rv; rw [if_neg (by omega), show 7 + (i + 1) - 7 = i + 1 by omega]
      rcases hA.1 (7 + (i + 1)) (by omega) with ⟨q1, q2⟩ | ⟨q1, q2, q3⟩
      · rw [← e, q1, q2]; exact ⟨fun z => absurd rfl z, fun z => absurd rfl z⟩
      · rw [← e, q1, q2]; exact ⟨fun _ => by decide, fun _ => rf_m1n _ (by omega)⟩
    · show rf_I (me_up (me_set M 3 (va_cpy (M 4) (M 3) 0 0 7)) 5 0 0) (me_up (mo_cps (me_up U 4 0 0) 7 0 7) 4 5 0) N
      refine rf_re hI hN9 (r (by decide) (by decide)) (fun x => r (by omega) (by omega)) (fun m hm => Or.inl ⟨_, rf_as_of (by split <;> omega) (hrv m hm) (hcp m)⟩) ?_ ?_ ?_ (u4 (by decide) (by decide)) (Or.inr ⟨u4 (by decide) (by decide), r (by decide) (by decide), fun m h0 hm => Or.inl ⟨_, by split <;> omega, rf_as_of (by split <;> omega) (hrv m hm) (hcp m)⟩⟩) ⟨?_, ?_, ?_, ?_, ?_⟩
      · rw [(hcp 0).1]; exact hA.2.2
      · rw [(hcp 7).1]; exact hA.2.2
      · rw [r (by decide) (by decide)]; exact hZ.2.2
      · rw [me_up_s, me_up_s]
      · rw [me_up_s]; exact Or.inl rfl
      · rw [r5 (by decide), u4 (by decide) (by decide)]; exact s3
      · rw [r5 (by decide), u4 (by decide) (by decide)]; exact s4
      · rw [r5 (by decide)]; exact s5
theorem rp_commit (hI : rf_I M U N) (hN9 : N < 2 ^ 31) : rf_E rf_cG (fb_commit M) (mo_commit U) N := by
  obtain ⟨hA, hW, hZ, h01, hO, hV, hL, hP, hN, hG, hR, s1, s2, s3, s4, s5⟩ := id hI
  obtain ⟨d1, d2, d3⟩ := rf_due hI
  unfold fb_commit mo_commit
  rw [s1, rf_mr, d1, d2, s3, s4]
  by_cases h : U 4 5 ≠ 0
  · rw [if_pos h, if_pos h]
    exact rf_Ex _ (by decide) _ rfl (rf_I_c hI hN9 _)
  · rw [if_neg h, if_neg h]
    have hneg : U 4 4 ≠ -1 ↔ 0 ≤ U 4 4 := by
      rw [s4] at s5
      rcases s5 with q | ⟨x, hx, q⟩
      · rw [q]; exact ⟨fun z => absurd rfl z, fun z => absurd z (by decide)⟩
      · rw [q]; exact ⟨fun _ => nI_pos' (by omega), fun _ => rf_m1n _ (by omega)⟩
    by_cases hf : 0 ≤ U 4 4 ∧ U 4 4 < nI ((rf_KR M).1 + 1)
    · rw [if_pos hf, if_pos ⟨hneg.mpr hf.1, hf.2⟩]
      refine rf_Ex _ (by decide) _ rfl (?_)
      show rf_I (me_up (me_up (me_up (me_set M 2 (rf_KR M).2) 5 1 (U 4 3 + U 4 4)) 5 2 (-1)) 5 0 1) (me_up (me_up (me_up (me_up (me_up U 4 0 0) 4 3 (U 4 3 + U 4 4)) 4 4 (-1)) 4 5 1) 4 0 1) N
      have r : ∀ {a : Nat}, a ≠ 5 → a ≠ 2 → me_up (me_up (me_up (me_set M 2 (rf_KR M).2) 5 1 (U 4 3 + U 4 4)) 5 2 (-1)) 5 0 1 a = M a := fun q1 q2 => by rw [me_up_n _ _ _ q1, me_up_n _ _ _ q1, me_up_n _ _ _ q1, me_set_n _ _ q2]
      have u : ∀ {a : Nat}, a ≠ 4 → me_up (me_up (me_up (me_up (me_up U 4 0 0) 4 3 (U 4 3 + U 4 4)) 4 4 (-1)) 4 5 1) 4 0 1 a = U a := fun q => by rw [me_up_n _ _ _ q, me_up_n _ _ _ q, me_up_n _ _ _ q, me_up_n _ _ _ q, me_up_n _ _ _ q]
      have u4 : ∀ {j : Nat}, j ≠ 0 → j ≠ 3 → j ≠ 4 → j ≠ 5 → me_up (me_up (me_up (me_up (me_up U 4 0 0) 4 3 (U 4 3 + U 4 4)) 4 4 (-1)) 4 5 1) 4 0 1 4 j = U 4 j := fun q0 q3 q4 q5 => by rw [me_up_j _ _ _ q0, me_up_j _ _ _ q5, me_up_j _ _ _ q4, me_up_j _ _ _ q3, me_up_j _ _ _ q0]
      refine rf_I_S hI hN9 (r (by decide) (by decide)) (r (by decide) (by decide)) (r (by decide) (by decide)) (r (by decide) (by decide)) (fun x => r (by omega) (by omega)) (u (by decide)) (u (by decide)) (u (by decide)) (u (by decide)) (u4 (by decide) (by decide) (by decide) (by decide)) (u4 (by decide) (by decide) (by decide) (by decide)) ⟨?_, ?_, ?_, ?_, ?_⟩
      · rw [me_up_s, me_up_j _ _ _ (by decide), me_up_s]
      · rw [me_up_s]; exact Or.inr rfl
      · rw [me_up_j _ _ _ (by decide), me_up_j _ _ _ (by decide), me_up_s, me_up_j _ _ _ (by decide), me_up_j _ _ _ (by decide), me_up_j _ _ _ (by decide), me_up_s]
      · rw [me_up_j _ _ _ (by decide), me_up_s, me_up_j _ _ _ (by decide), me_up_j _ _ _ (by decide), me_up_s]
      · rw [me_up_j _ _ _ (by decide), me_up_s]; exact Or.inl rfl
    · rw [if_neg hf, if_neg (fun z => hf ⟨hneg.mp z.1, z.2⟩)]
      obtain ⟨c1, c4⟩ := rf_cps (me_up (me_up (me_up U 4 0 0) 4 4 (if U 4 4 < 0 then U 4 4 else U 4 4 - nI ((rf_KR M).1 + 1))) 4 3 (U 4 3 + nI ((rf_KR M).1 + 1))) (f := 0) (t := 7) 7 (by omega)
      have hcp : ∀ m, rf_cp U (me_up (mo_cps (me_up (me_up (me_up U 4 0 0) 4 4 (if U 4 4 < 0 then U 4 4 else U 4 4 - nI ((rf_KR M).1 + 1))) 4 3 (U 4 3 + nI ((rf_KR M).1 + 1))) 0 7 7) 4 2 (U 4 1)) m (if 7 ≤ m ∧ m < 7 + 7 then 0 + (m - 7) else m) := fun m => by
        have e : ∀ {a : Nat}, a ≠ 4 → me_up (me_up (me_up U 4 0 0) 4 4 (if U 4 4 < 0 then U 4 4 else U 4 4 - nI ((rf_KR M).1 + 1))) 4 3 (U 4 3 + nI ((rf_KR M).1 + 1)) a = U a := fun q => by rw [me_up_n _ _ _ q, me_up_n _ _ _ q, me_up_n _ _ _ q]
        exact rf_cp_t (rf_cp_t (rf_cp_i (e (by decide)) (e (by decide)) (e (by decide)) (e (by decide))) (c1 m)) (rf_cp_i (me_up_n _ _ _ (by decide)) (me_up_n _ _ _ (by decide)) (me_up_n _ _ _ (by decide)) (me_up_n _ _ _ (by decide)))
      generalize hU9 : me_up (mo_cps (me_up (me_up (me_up U 4 0 0) 4 4 (if U 4 4 < 0 then U 4 4 else U 4 4 - nI ((rf_KR M).1 + 1))) 4 3 (U 4 3 + nI ((rf_KR M).1 + 1))) 0 7 7) 4 2 (U 4 1) = U9 at hcp ⊢
      have v2 : U9 4 2 = U 4 1 := by rw [← hU9, me_up_s]
      have v4 : ∀ {j : Nat}, j ≠ 2 → U9 4 j = me_up (me_up (me_up U 4 0 0) 4 4 (if U 4 4 < 0 then U 4 4 else U 4 4 - nI ((rf_KR M).1 + 1))) 4 3 (U 4 3 + nI ((rf_KR M).1 + 1)) 4 j := fun q => by rw [← hU9, me_up_j _ _ _ q, c4]
      have v0 : U9 4 0 = 0 := by rw [v4 (by decide), me_up_j _ _ _ (by decide), me_up_j _ _ _ (by decide), me_up_s]
      have v1 : U9 4 1 = U 4 1 := by rw [v4 (by decide), me_up_j _ _ _ (by decide), me_up_j _ _ _ (by decide), me_up_j _ _ _ (by decide)]
      have v3 : U9 4 3 = U 4 3 + nI ((rf_KR M).1 + 1) := by rw [v4 (by decide), me_up_s]
      have v44 : U9 4 4 = if U 4 4 < 0 then U 4 4 else U 4 4 - nI ((rf_KR M).1 + 1) := by rw [v4 (by decide), me_up_j _ _ _ (by decide), me_up_s]
      have v5 : U9 4 5 = U 4 5 := by rw [v4 (by decide), me_up_j _ _ _ (by decide), me_up_j _ _ _ (by decide), me_up_j _ _ _ (by decide)]
      clear hU9
      -- the class's side
      generalize hX9 : (if U 4 4 ≠ -1 then me_up (me_set M 2 (rf_KR M).2) 5 2 (U 4 4 - nI ((rf_KR M).1 + 1)) else me_set M 2 (rf_KR M).2) = X9
      have x : ∀ {a : Nat}, a ≠ 5 → a ≠ 2 → X9 a = M a := by
        intro a q1 q2
        rw [← hX9]
        by_cases e : U 4 4 ≠ -1
        · rw [if_pos e, me_up_n _ _ _ q1, me_set_n _ _ q2]
        · rw [if_neg e, me_set_n _ _ q2]
      have x50 : X9 5 0 = M 5 0 := by
        rw [← hX9]
        by_cases e : U 4 4 ≠ -1
        · rw [if_pos e, me_up_j _ _ _ (by decide), me_set_n _ _ (by decide)]
        · rw [if_neg e, me_set_n _ _ (by decide)]
      have x52 : X9 5 2 = if U 4 4 < 0 then U 4 4 else U 4 4 - nI ((rf_KR M).1 + 1) := by
        rw [← hX9]
        by_cases e : U 4 4 ≠ -1
        · rw [if_pos e, me_up_s, if_neg (Int32.not_lt.mpr (hneg.mp e))]
        · rw [if_neg e, me_set_n _ _ (by decide), s4, if_pos (Int32.not_le.mp (fun z => e (hneg.mpr z)))]
      obtain ⟨z1, z2⟩ := rf_freeze (me_set (me_up X9 5 1 (U 4 3 + nI ((rf_KR M).1 + 1))) 4 (va_cpy (M 3) (M 4) 0 0 7))
      have hrv : ∀ m, m < 14 → rf_rv (fb_freeze (me_set (me_up X9 5 1 (U 4 3 + nI ((rf_KR M).1 + 1))) 4 (va_cpy (M 3) (M 4) 0 0 7))) m = rf_rv M (if 7 ≤ m ∧ m < 7 + 7 then 0 + (m - 7) else m) := by
        intro m hm
        unfold rf_rv
        rw [z2 3 (by decide), z2 4 (by decide), me_set_s, me_set_n _ _ (by decide), me_up_n _ _ _ (by decide), x (by decide) (by decide)]
        by_cases e : m < 7
        · rw [if_pos e, if_neg (show ¬ (7 ≤ m ∧ m < 7 + 7) by omega), if_pos e]
        · rw [if_neg e, if_pos (show 7 ≤ m ∧ m < 7 + 7 by omega), if_pos (show 0 + (m - 7) < 7 by omega), rf_cpy7 _ _ (by omega), Nat.zero_add]
      refine ⟨v0, fun _ => rfl, ?_⟩
      show rf_I (fb_freeze (me_set (me_up X9 5 1 (U 4 3 + nI ((rf_KR M).1 + 1))) 4 (va_cpy (M 3) (M 4) 0 0 7))) U9 N
      have y5 : fb_freeze (me_set (me_up X9 5 1 (U 4 3 + nI ((rf_KR M).1 + 1))) 4 (va_cpy (M 3) (M 4) 0 0 7)) 5 = me_up X9 5 1 (U 4 3 + nI ((rf_KR M).1 + 1)) 5 := by rw [z2 5 (by decide), me_set_n _ _ (by decide)]
      refine rf_re hI hN9 ?_ (fun q => ?_) (fun m hm => Or.inl ⟨_, rf_as_of (by split <;> omega) (hrv m hm) (hcp m)⟩) ?_ ?_ (z1 0 (by omega)) v1 (Or.inl ⟨v2, z1⟩) ⟨?_, ?_, ?_, ?_, ?_⟩
      · rw [z2 0 (by decide), me_set_n _ _ (by decide), me_up_n _ _ _ (by decide), x (by decide) (by decide)]
      · rw [z2 _ (by omega), me_set_n _ _ (by omega), me_up_n _ _ _ (by omega), x (by omega) (by omega)]
      · rw [(hcp 0).1, if_neg (by omega)]; exact hA.2.1
      · rw [(hcp 7).1, if_pos (by omega)]; exact hA.2.1
      · rw [y5, me_up_j _ _ _ (by decide), x50, v5]; exact s1
      · rw [y5, me_up_j _ _ _ (by decide), x50]; exact s2
      · rw [y5, me_up_s, v3]
      · rw [y5, me_up_j _ _ _ (by decide), x52, v44]
      · rw [y5, me_up_j _ _ _ (by decide), x52]
        rw [s4] at s5
        rcases s5 with q | ⟨y, hy, q⟩
        · rw [q]; exact Or.inl rfl
        · rw [q] at hf hneg ⊢
          rw [if_neg (nI_pos (by omega))]
          have hle : (rf_KR M).1 + 1 ≤ y := by
            apply Classical.byContradiction
            intro z
            exact hf ⟨nI_pos' (by omega), nI_lt (by omega) (by omega)⟩
          rw [pk_sub hle]
          exact Or.inr ⟨_, by omega, rfl⟩
end
