/-! .. remove, and the calls that only read -/
section
variable {M U V : me_M} {N : Nat}
theorem mo_in_of (h : V 3 = U 3) (x : Int32) (p lo n : Nat) : mo_in V x p lo n = mo_in U x p lo n := by
  induction n with
  | zero => rfl
  | succ n ih => unfold mo_in; rw [ih, h]
theorem mo_d1_of (h : V 3 = U 3) (p lo n : Nat) : mo_d1 V p lo n = mo_d1 U p lo n := by
  unfold mo_d1
  refine me_cn_congr fun i _ => ?_
  rw [h, mo_in_of h]
theorem mo_df_of (h : V 3 = U 3) (lo n P : Nat) : mo_df V lo n P = mo_df U lo n P := by
  induction P with
  | zero => rfl
  | succ P ih => unfold mo_df; rw [ih, mo_d1_of h]
theorem mo_free_of (h : V 3 = U 3) : mo_free V = mo_free U := by unfold mo_free; rw [mo_df_of h]
theorem mo_fn_of (h1 : V 1 = U 1) (h3 : V 3 = U 3) (h4 : V 4 2 = U 4 2) (k : Nat) (more : Int32) : mo_fn V k more = mo_fn U k more := by
  unfold mo_fn
  refine me_cn_congr fun l _ => ?_
  unfold mo_makes
  rw [mo_below_of h1, h3, h4]
theorem rp_remove2 (hI : rf_I M U N) (hN9 : N + 3 < 2 ^ 31) (h0 : U 4 0 = 0) {k : Nat} (hk : k < 64) (hb : U 1 k ≠ 0) :
    (nI (mo_fn U k (-1)) ≤ mo_free U → rf_E rf_cR (fb_remove2 M k (fb_lw M (rf_rn M 0) k 3)) (U 2 k, mo_change U k (-1)) (N + 3)) ∧
    (¬ nI (mo_fn U k (-1)) ≤ mo_free U → fb_remove2 M k (fb_lw M (rf_rn M 0) k 3) = (3, 0, me_set M 2 (rf_KR M).2)) := by
  have e64 : 64 * 0 + k = k := by omega
  obtain ⟨l1, l2, l3⟩ := rf_lw hI hk hb
  have hkp := rf_kp_rem hk hb l2
  unfold fb_remove2
  rcases rf_ocp hI (by omega) hk l1 hkp with ⟨f1, f2⟩ | ⟨f1, f2, f3⟩
  · refine ⟨fun z => absurd z f1, fun _ => ?_⟩
    rw [f2]
    dsimp only
    rw [if_pos rfl]
  · refine ⟨fun _ => ?_, fun z => absurd f1 z⟩
    rw [f3]
    dsimp only
    rw [if_neg Bool.false_ne_true]
    obtain ⟨f4, f5, f6, f7, f8⟩ := rf_freeI hI
    obtain ⟨c, c1, c2⟩ := rf_cut_C hI hk f8 _ l1 f2 l3
    have hbm : 0 ≤ (-1 : Int32) ↔ false = true := ⟨fun z => absurd z (by decide), fun z => (by cases z)⟩
    obtain ⟨ma, mk, g1, -⟩ := id hI.2.2.2.2.2.2.2.2.2.1
    obtain ⟨-, -, q2, q4, -⟩ := rf_cl (more := -1) hk g1 3 (Nat.le_refl _)
    have hU := rf_change (U' := mo_change U k (-1)) (b := false) (w := 0) hI hk l1 hkp hbm rfl rfl rfl (fun j _ => by
        unfold mo_change
        rw [me_up_n _ _ _ (by decide), q2]) (fun z => (by cases z)) (fun j _ => rfl) (fun z _ => rf_lw_ex l1 l2 z) hN9
    refine ⟨?_, fun _ => ?_, ?_⟩
    · dsimp only
      unfold mo_change
      rw [me_up_n _ _ _ (by decide), q4 0 (by decide)]
      exact h0
    · show fb_val M (fb_r M 0) k = U 2 k
      rw [rf_rn7 M (by omega)]
      have hv := rf_val hI (m := 0) (by omega) hk (by rw [e64]; exact hb)
      rw [e64] at hv
      exact hv
    · show rf_I (fb_cut _ (fb_r _ 0) k _) _ _
      rw [rf_r_up _ c1]
      exact rf_step hI hk c2 hU (by omega) hN9
theorem rp_remove (hI : rf_I M U N) (hN9 : N + 3 < 2 ^ 31) (k : Int32) : rf_E rf_cR (fb_remove M k) (mo_remove U k) (N + 3) := by
  have hI3 := rf_I_N hI (show N ≤ N + 3 by omega)
  have hd : M 5 0 = U 4 5 := hI.2.2.2.2.2.2.2.2.2.2.2.1
  unfold fb_remove mo_remove
  rw [hd, rf_rn7 M (by omega)]
  by_cases h1 : U 4 5 ≠ 0
  · rw [if_pos h1, if_pos h1]
    exact rf_Ex _ (by decide) _ rfl (rf_I_c hI3 (by omega) _)
  · rw [if_neg h1, if_neg h1]
    by_cases h2 : fb_isk k = true
    · obtain ⟨hk, ek⟩ := rf_isk h2
      have hbd := rf_bd hI (m := 0) (by omega) hk
      rw [show 64 * 0 + k.toNatClampNeg = k.toNatClampNeg by omega] at hbd
      rw [h2, hbd, Bool.true_and]
      by_cases hb : U 1 k.toNatClampNeg ≠ 0
      · rw [if_neg (by rw [decide_eq_true hb]; decide), if_neg (by rw [decide_eq_true hb]; decide)]
        have hI1 := rf_I_c hI (by omega) 0
        have e1 : me_up U 4 0 0 1 = U 1 := me_up_n _ _ _ (by decide)
        have e2 : me_up U 4 0 0 2 = U 2 := me_up_n _ _ _ (by decide)
        have e3 : me_up U 4 0 0 3 = U 3 := me_up_n _ _ _ (by decide)
        have e4 : me_up U 4 0 0 4 2 = U 4 2 := me_up_j _ _ _ (by decide)
        obtain ⟨r1, r2⟩ := rp_remove2 hI1 hN9 (me_up_s _ _ _ _) hk (by rw [e1]; exact hb)
        rw [mo_fn_of e1 e3 e4, mo_free_of e3] at r1 r2
        by_cases hf : nI (mo_fn U k.toNatClampNeg (-1)) ≤ mo_free U
        · rw [if_pos hf]
          have := r1 hf
          rw [e2] at this
          exact this
        · rw [if_neg hf, r2 hf]
          exact rf_Ex _ (by decide) _ rfl (rf_I_c (rf_I_N (rf_I_K hI (by omega) _) (by omega)) (by omega) _)
      · have hb' : decide (U 1 k.toNatClampNeg ≠ 0) = false := decide_eq_false hb
        rw [if_pos hb', if_pos hb']
        exact rf_Ex _ (by decide) _ rfl (rf_I_c hI3 (by omega) _)
    · have h2' : fb_isk k = false := by simpa using h2
      rw [h2', Bool.false_and, Bool.false_and, if_pos rfl, if_pos rfl]
      exact rf_Ex _ (by decide) _ rfl (rf_I_c hI3 (by omega) _)
theorem rp_get (hI : rf_I M U N) (hN9 : N < 2 ^ 31) (h k : Int32) : rf_E rf_cG (fb_get M h k) (mo_get U h k) N := by
  have hd : M 5 0 = U 4 5 := hI.2.2.2.2.2.2.2.2.2.2.2.1
  unfold fb_get mo_get
  rw [hd, rf_ism hI]
  have hc := fun x => rf_I_c hI hN9 x
  by_cases h1 : U 4 5 ≠ 0
  · rw [if_pos h1, if_pos h1]
    exact rf_Ex _ (by decide) _ rfl (hc _)
  · rw [if_neg h1, if_neg h1]
    by_cases h2 : mo_ism U h = false
    · rw [if_pos h2, if_pos h2]
      exact rf_Ex _ (by decide) _ rfl (hc _)
    · rw [if_neg h2, if_neg h2]
      have hh : h.toNatClampNeg < 7 := rf_ismlt (M := M) (by rw [rf_ism hI]; simpa using h2)
      rw [rf_rn7 M hh]
      by_cases h3 : fb_isk k = true
      · obtain ⟨hk, -⟩ := rf_isk h3
        rw [h3, rf_bd hI (by omega) hk, Bool.true_and]
        by_cases hb : U 1 (64 * h.toNatClampNeg + k.toNatClampNeg) ≠ 0
        · rw [if_neg (by rw [decide_eq_true hb]; decide), if_neg (by rw [decide_eq_true hb]; decide), rf_val hI (by omega) hk hb]
          exact rf_Er _ rfl (rfl) (hc _)
        · have hb' : decide (U 1 (64 * h.toNatClampNeg + k.toNatClampNeg) ≠ 0) = false := decide_eq_false hb
          rw [if_pos hb', if_pos hb']
          exact rf_Ex _ (by decide) _ rfl (hc _)
      · have h3' : fb_isk k = false := by simpa using h3
        rw [h3', Bool.false_and, Bool.false_and, if_pos rfl, if_pos rfl]
        exact rf_Ex _ (by decide) _ rfl (hc _)
/-- the class seeks upwards, the reference downwards -/
theorem rf_nx_up (P : Nat → Bool) (f k : Nat) (hf : 64 ≤ k + f) : (∃ j, k ≤ j ∧ j < 64 ∧ P j = true ∧ (∀ i, k ≤ i → i < j → P i = false) ∧ fb_nx P f k = nI j) ∨ ((∀ i, k ≤ i → i < 64 → P i = false) ∧ fb_nx P f k = -1) := by
  induction f generalizing k with
  | zero => exact Or.inr ⟨fun i h1 h2 => by omega, rfl⟩
  | succ f ih =>
    unfold fb_nx
    by_cases h : k < 64
    · rw [if_pos h]
      cases hp : P k with
      | true => exact Or.inl ⟨k, Nat.le_refl _, h, hp, fun i h1 h2 => by omega, if_pos rfl⟩
      | false =>
        rw [if_neg (by decide)]
        rcases ih (k + 1) (by omega) with ⟨j, h1, h2, h3, h4, h5⟩ | ⟨h1, h2⟩
        · refine Or.inl ⟨j, by omega, h2, h3, fun i q1 q2 => ?_, h5⟩
          by_cases e : i = k
          · rw [e]; exact hp
          · exact h4 i (by omega) q2
        · refine Or.inr ⟨fun i q1 q2 => ?_, h2⟩
          by_cases e : i = k
          · rw [e]; exact hp
          · exact h1 i (by omega) q2
    · rw [if_neg h]
      exact Or.inr ⟨fun i h1 h2 => by omega, rfl⟩
theorem rf_nx_dn (P : Nat → Bool) (fr : Int32) (n : Nat) (hn : n ≤ 64) (f : Int32) : (∃ j, j < n ∧ fr ≤ nI j ∧ P j = true ∧ (∀ i, fr ≤ nI i → i < j → P i = false) ∧ mo_nx P fr n f = nI j) ∨ ((∀ i, fr ≤ nI i → i < n → P i = false) ∧ mo_nx P fr n f = f) := by
  induction n generalizing f with
  | zero => exact Or.inr ⟨fun i _ h => by omega, rfl⟩
  | succ n ih =>
    unfold mo_nx
    by_cases h : fr ≤ nI n
    · rw [if_pos h]
      rcases ih (by omega) (if P n = true then nI n else f) with ⟨j, h1, h2, h3, h4, h5⟩ | ⟨h1, h2⟩
      · exact Or.inl ⟨j, by omega, h2, h3, h4, h5⟩
      · cases hp : P n with
        | true =>
          rw [hp, if_pos rfl] at h2
          exact Or.inl ⟨n, by omega, h, hp, h1, by rw [if_pos rfl]; exact h2⟩
        | false =>
          rw [hp, if_neg (by decide)] at h2
          refine Or.inr ⟨fun i q1 q2 => ?_, by rw [if_neg (by decide)]; exact h2⟩
          by_cases e : i = n
          · rw [e]; exact hp
          · exact h1 i q1 (by omega)
    · rw [if_neg h]
      refine Or.inr ⟨fun i q1 q2 => ?_, rfl⟩
      exfalso
      exact h (Int32.le_trans q1 (nI_le (by omega) (by omega)))
theorem rf_nx (P : Nat → Bool) (fr : Int32) : fb_nx P 64 fr.toNatClampNeg = mo_nx P fr 64 (-1) := by
  have hle : ∀ i, i < 64 → (fr ≤ nI i ↔ fr.toNatClampNeg ≤ i) := by
    intro i hi
    rw [Int32.le_iff_toInt_le, nI_toInt (by omega)]
    show _ ↔ fr.toInt.toNat ≤ i
    omega
  rcases rf_nx_up P 64 fr.toNatClampNeg (by omega) with ⟨j, h1, h2, h3, h4, h5⟩ | ⟨h1, h2⟩
  · rcases rf_nx_dn P fr 64 (Nat.le_refl _) (-1) with ⟨j', g1, g2, g3, g4, g5⟩ | ⟨g1, g2⟩
    · rw [h5, g5]
      by_cases e : j = j'
      · rw [e]
      · exfalso
        rcases Nat.lt_or_gt_of_ne e with q | q
        · have := g4 j ((hle j h2).mpr h1) q
          rw [this] at h3; cases h3
        · have := h4 j' ((hle j' g1).mp g2) q
          rw [this] at g3; cases g3
    · have := g1 j ((hle j h2).mpr h1) h2
      rw [this] at h3; cases h3
  · rcases rf_nx_dn P fr 64 (Nat.le_refl _) (-1) with ⟨j', g1, g2, g3, g4, g5⟩ | ⟨g1, g2⟩
    · have := h1 j' ((hle j' g1).mp g2) g1
      rw [this] at g3; cases g3
    · rw [h2, g2]
theorem fb_nx_of {P Q : Nat → Bool} (h : ∀ i, i < 64 → P i = Q i) (f k : Nat) : fb_nx P f k = fb_nx Q f k := by
  induction f generalizing k with
  | zero => rfl
  | succ f ih =>
    unfold fb_nx
    by_cases e : k < 64
    · rw [if_pos e, if_pos e, h k e, ih]
    · rw [if_neg e, if_neg e]
theorem rp_next (hI : rf_I M U N) (hN9 : N < 2 ^ 31) (h fr : Int32) : rf_E rf_cG (fb_next M h fr) (mo_next U h fr) N := by
  have hd : M 5 0 = U 4 5 := hI.2.2.2.2.2.2.2.2.2.2.2.1
  unfold fb_next mo_next
  rw [hd, rf_ism hI]
  have hc := fun x => rf_I_c hI hN9 x
  by_cases h1 : U 4 5 ≠ 0
  · rw [if_pos h1, if_pos h1]
    exact rf_Ex _ (by decide) _ rfl (hc _)
  · rw [if_neg h1, if_neg h1]
    by_cases h2 : mo_ism U h = false
    · rw [if_pos h2, if_pos h2]
      exact rf_Ex _ (by decide) _ rfl (hc _)
    · rw [if_neg h2, if_neg h2]
      have hh : h.toNatClampNeg < 7 := rf_ismlt (M := M) (by rw [rf_ism hI]; simpa using h2)
      rw [rf_rn7 M hh]
      refine rf_Er _ rfl (?_) (hc _)
      show fb_nx (fb_bd M (rf_rn M h.toNatClampNeg)) 64 fr.toNatClampNeg = mo_nx _ fr 64 (-1)
      rw [← rf_nx]
      exact fb_nx_of (fun i hi => rf_bd hI (by omega) hi) _ _
theorem rp_count (hI : rf_I M U N) (hN9 : N < 2 ^ 31) (h : Int32) : rf_E rf_cG (fb_count M h) (mo_count U h) N := by
  have hd : M 5 0 = U 4 5 := hI.2.2.2.2.2.2.2.2.2.2.2.1
  unfold fb_count mo_count
  rw [hd, rf_ism hI]
  have hc := fun x => rf_I_c hI hN9 x
  by_cases h1 : U 4 5 ≠ 0
  · rw [if_pos h1, if_pos h1]
    exact rf_Ex _ (by decide) _ rfl (hc _)
  · rw [if_neg h1, if_neg h1]
    by_cases h2 : mo_ism U h = false
    · rw [if_pos h2, if_pos h2]
      exact rf_Ex _ (by decide) _ rfl (hc _)
    · rw [if_neg h2, if_neg h2]
      have hh : h.toNatClampNeg < 7 := rf_ismlt (M := M) (by rw [rf_ism hI]; simpa using h2)
      rw [rf_rn7 M hh]
      refine rf_Er _ rfl (?_) (hc _)
      show nI (fb_kb M (rf_rn M h.toNatClampNeg)) = nI (mo_bi U h.toNatClampNeg 0 64)
      unfold fb_kb mo_bi
      rw [me_cn_congr fun i hi => by rw [rf_bd hI (by omega) hi, show 64 * h.toNatClampNeg + i = 64 * h.toNatClampNeg + (0 + i) by omega]]
theorem rp_differ (hI : rf_I M U N) (hN9 : N < 2 ^ 31) (a b : Int32) : rf_E rf_cG (fb_differ M a b) (mo_differ U a b) N := by
  have hd : M 5 0 = U 4 5 := hI.2.2.2.2.2.2.2.2.2.2.2.1
  unfold fb_differ mo_differ
  rw [hd, rf_ism hI, rf_ism hI]
  have hc := fun x => rf_I_c hI hN9 x
  by_cases h1 : U 4 5 ≠ 0
  · rw [if_pos h1, if_pos h1]
    exact rf_Ex _ (by decide) _ rfl (hc _)
  · rw [if_neg h1, if_neg h1]
    by_cases h2 : (mo_ism U a && mo_ism U b) = false
    · rw [if_pos h2, if_pos h2]
      exact rf_Ex _ (by decide) _ rfl (hc _)
    · rw [if_neg h2, if_neg h2]
      have h3 : mo_ism U a = true ∧ mo_ism U b = true := by simpa using h2
      have ha : a.toNatClampNeg < 7 := rf_ismlt (M := M) (by rw [rf_ism hI]; exact h3.1)
      have hb : b.toNatClampNeg < 7 := rf_ismlt (M := M) (by rw [rf_ism hI]; exact h3.2)
      rw [rf_rn7 M ha, rf_rn7 M hb]
      refine rf_Er _ rfl (?_) (hc _)
      show nI _ = nI _
      rw [me_cn_congr fun k hk => ?_]
      show (!fb_alike M (rf_rn M a.toNatClampNeg) (rf_rn M b.toNatClampNeg) k) = !mo_alike U a.toNatClampNeg b.toNatClampNeg k
      unfold fb_alike mo_alike
      rw [rf_bd hI (by omega) hk, rf_bd hI (by omega) hk]
      by_cases p1 : U 1 (64 * a.toNatClampNeg + k) ≠ 0
      · by_cases p2 : U 1 (64 * b.toNatClampNeg + k) ≠ 0
        · rw [rf_val hI (by omega) hk p1, rf_val hI (by omega) hk p2, decide_eq_true p1, decide_eq_true p2]
          simp
        · rw [decide_eq_true p1, decide_eq_false p2]; simp
      · by_cases p2 : U 1 (64 * b.toNatClampNeg + k) ≠ 0
        · rw [decide_eq_false p1, decide_eq_true p2]; simp
        · rw [decide_eq_false p1, decide_eq_false p2]; simp
end
