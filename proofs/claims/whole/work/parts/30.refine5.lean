/-! nodes, shared -/
section
variable {M U : me_M} {N : Nat}
theorem rf_S0 (M : me_M) {K : Nat → Int32} (h : ∀ i, i < 61 → K i = 0) : rf_S M (fun _ => False) K ∧ rf_nb (rf_mk K) = 0 := by
  refine ⟨fun i hi => ⟨fun z => absurd (h i hi) z, fun z => by obtain ⟨-, m, p, -, q, -⟩ := z; exact q.elim⟩, ?_⟩
  unfold rf_nb
  rw [me_cn_congr (Q := fun _ => false) (fun i hi => by simp [rf_mk, h i hi])]
  have : ∀ n, me_cn (fun _ => false) n = 0 := by
    intro n
    induction n with
    | zero => rfl
    | succ n ih => unfold me_cn; rw [ih]; rfl
  exact this 61
theorem rp_nodes (hI : rf_I M U N) (hN9 : N < 2 ^ 31) (h : Int32) : rf_E rf_cG (fb_nodes M h) (mo_nodes U h) N := by
  have hd : M 5 0 = U 4 5 := hI.2.2.2.2.2.2.2.2.2.2.2.1
  unfold fb_nodes mo_nodes
  rw [hd, rf_ism hI]
  have hc := fun x => rf_I_c hI hN9 x
  by_cases h1 : U 4 5 ≠ 0
  · rw [if_pos h1, if_pos h1]
    exact rf_Ex _ (by decide) _ rfl (hc _)
  · rw [if_neg h1, if_neg h1]
    by_cases h2 : mo_ism U h = false
    · rw [if_pos h2, if_pos h2]
      exact rf_Ex _ (by decide) _ rfl (hc _)
    · rw [if_neg h2, if_neg h2]
      have hh : h.toNatClampNeg < 7 := rf_ismlt (M := M) (by rw [rf_ism hI]; simpa using h2)
      rw [rf_rn7 M hh, rf_unmark, rf_mark]
      have hJ := rf_I_J hI
      obtain ⟨m1, m2⟩ := rf_mkK_S hJ (rf_K0_S M) (show h.toNatClampNeg < 14 by omega)
      rw [rf_K0_nb, Nat.add_zero] at m1
      refine rf_Er _ rfl (?_) (rf_I_c (rf_I_K hI hN9 _) hN9 _)
      show nI (rf_mkK M (rf_rn M h.toNatClampNeg) (rf_K0 M)).1 = nI (mo_df U h.toNatClampNeg 1 21)
      rw [m1, rf_df_S hJ hI.2.2.2.2.2.2.2.2.1 (by omega) m2 (fun m _ => ⟨fun q => q.elim (fun f => f.elim) (fun e => by omega), fun q => Or.inr (by omega)⟩)]
theorem rf_cn_ie (P Q : Nat → Bool) (n : Nat) : me_cn P n + me_cn Q n = me_cn (fun i => P i || Q i) n + me_cn (fun i => P i && Q i) n := by
  induction n with
  | zero => rfl
  | succ n ih =>
    unfold me_cn
    cases P n <;> cases Q n <;> simp <;> omega
theorem rf_cn_pl (hI : rf_I M U N) {a b : Nat} (ha : a < 14) (hb : b < 14) (P : Nat) (hP : P ≤ 21) :
    me_cn (fun p => decide (rf_nd M a p ≠ 0) && decide (rf_nd M b p = rf_nd M a p)) P = rf_nb (fun i => rf_B (i ≠ 0 ∧ ∃ p, p < P ∧ rf_nd M a p = i ∧ rf_nd M b p = i)) := by
  induction P with
  | zero =>
    show 0 = _
    symm
    unfold rf_nb
    rw [me_cn_congr (Q := fun _ => false) (fun i _ => by rw [rf_B_f]; rintro ⟨-, p, h, -⟩; omega)]
    have : ∀ n, me_cn (fun _ => false) n = 0 := by
      intro n
      induction n with
      | zero => rfl
      | succ n ih => unfold me_cn; rw [ih]; rfl
    exact this 61
  | succ P ih =>
    show me_cn _ P + (if _ then 1 else 0) = _
    rw [ih (by omega)]
    have hPp := hI.2.2.2.2.2.2.2.1
    have hlt : rf_nd M a P < 61 := rf_nd_lt hI ha (by omega)
    by_cases e : rf_nd M b P = rf_nd M a P
    · rw [rf_see (P := fun i => rf_B (i ≠ 0 ∧ ∃ p, p < P ∧ rf_nd M a p = i ∧ rf_nd M b p = i)) (Q := fun i => rf_B (i ≠ 0 ∧ ∃ p, p < P + 1 ∧ rf_nd M a p = i ∧ rf_nd M b p = i)) (a := rf_nd M a P) hlt (fun i _ => by
        rw [Bool.eq_iff_iff, Bool.or_eq_true, Bool.and_eq_true, rf_B_iff, rf_B_iff, decide_eq_true_iff, decide_eq_true_iff]
        constructor
        · rintro ⟨h0, p, h1, h2, h3⟩
          by_cases q : p = P
          · subst q; exact Or.inr ⟨h2.symm, by rw [h2]; exact h0⟩
          · exact Or.inl ⟨h0, p, by omega, h2, h3⟩
        · rintro (⟨h0, p, h1, h2, h3⟩ | ⟨h1, h2⟩)
          · exact ⟨h0, p, by omega, h2, h3⟩
          · exact ⟨by rw [h1]; exact h2, P, by omega, h1.symm, by rw [h1]; exact e⟩)]
      by_cases hz : rf_nd M a P ≠ 0
      · have hn : rf_B (rf_nd M a P ≠ 0 ∧ ∃ p, p < P ∧ rf_nd M a p = rf_nd M a P ∧ rf_nd M b p = rf_nd M a P) = false := by
          rw [rf_B_f]
          rintro ⟨-, p, h1, h2, -⟩
          have := hPp a a P p ha ha (by omega) (by omega) hz h2.symm
          omega
        rw [if_pos (show (decide (rf_nd M a P ≠ 0) && decide (rf_nd M b P = rf_nd M a P)) = true by rw [decide_eq_true hz, decide_eq_true e]; rfl), if_pos ⟨hz, hn⟩]
      · rw [if_neg (show ¬ (decide (rf_nd M a P ≠ 0) && decide (rf_nd M b P = rf_nd M a P)) = true by rw [decide_eq_false hz, Bool.false_and]; exact Bool.false_ne_true), if_neg (fun z => hz z.1)]
    · rw [if_neg (show ¬ (decide (rf_nd M a P ≠ 0) && decide (rf_nd M b P = rf_nd M a P)) = true by rw [decide_eq_false e, Bool.and_false]; exact Bool.false_ne_true), Nat.add_zero]
      unfold rf_nb
      refine me_cn_congr fun i _ => ?_
      rw [Bool.eq_iff_iff, rf_B_iff, rf_B_iff]
      constructor
      · rintro ⟨h0, p, h1, h2, h3⟩; exact ⟨h0, p, by omega, h2, h3⟩
      · rintro ⟨h0, p, h1, h2, h3⟩
        by_cases q : p = P
        · subst q; exact absurd (h3.trans h2.symm) e
        · exact ⟨h0, p, by omega, h2, h3⟩
theorem rf_shared (hI : rf_I M U N) {a b : Nat} (ha : a < 14) (hb : b < 14) : ∃ K, fb_sh M (rf_rn M a) (rf_rn M b) = (nI (me_cn (fun p => decide (0 < U 3 (21 * a + p)) && decide (U 3 (21 * b + p) = U 3 (21 * a + p))) 21), me_set M 2 K) := by
  have hJ := rf_I_J hI
  obtain ⟨n1, n2, n3⟩ := hI.2.2.2.2.2.2.2.2.1
  unfold fb_sh
  rw [rf_unmark, rf_mark]
  obtain ⟨b1, b2⟩ := rf_mkK_S hJ (rf_K0_S M) hb
  rw [rf_K0_nb, Nat.add_zero] at b1
  generalize hK1 : (rf_mkK M (rf_rn M b) (rf_K0 M)).2 = K1 at b1 b2 ⊢
  have hun : fb_unmark (me_set M 2 K1) = me_set M 2 (rf_K0 (me_set M 2 K1)) := by
    rw [rf_unmark, me_set_2]
  show ∃ K, (nI (rf_mkK M (rf_rn M b) (rf_K0 M)).1 - nI (fb_mark (fb_mark (fb_unmark (me_set M 2 K1)) (rf_rn M a)).2 (rf_rn M b)).1, (fb_mark (fb_mark (fb_unmark (me_set M 2 K1)) (rf_rn M a)).2 (rf_rn M b)).2) = _
  rw [hun, rf_mark]
  obtain ⟨z1, z2⟩ := rf_S0 M (K := rf_K0 (me_set M 2 K1)) (fun i hi => by unfold rf_K0; rw [if_pos ⟨by omega, hi⟩])
  obtain ⟨a1, a2⟩ := rf_mkK_S hJ z1 ha
  rw [z2, Nat.add_zero] at a1
  generalize (rf_mkK M (rf_rn M a) (rf_K0 (me_set M 2 K1))).2 = Ka at a1 a2 ⊢
  obtain ⟨c1, c2⟩ := rf_mkK_S hJ a2 hb
  show ∃ K, (nI (rf_mkK M (rf_rn M b) (rf_K0 M)).1 - nI (fb_mark (me_set M 2 Ka) (rf_rn M b)).1, (fb_mark (me_set M 2 Ka) (rf_rn M b)).2) = _
  rw [rf_mark]
  generalize (rf_mkK M (rf_rn M b) Ka).2 = Kc at c1 c2 ⊢
  refine ⟨Kc, ?_⟩
  have hcnt : me_cn (fun p => decide (0 < U 3 (21 * a + p)) && decide (U 3 (21 * b + p) = U 3 (21 * a + p))) 21 = rf_nb (fun i => rf_mk Ka i && rf_mk K1 i) := by
    rw [me_cn_congr (Q := fun p => decide (rf_nd M a p ≠ 0) && decide (rf_nd M b p = rf_nd M a p)) (fun p hp => by
      rw [Bool.eq_iff_iff, Bool.and_eq_true, Bool.and_eq_true, decide_eq_true_iff, decide_eq_true_iff, decide_eq_true_iff, decide_eq_true_iff, rf_pos (n2 a p ha hp)]
      have e0 : rf_nd M a p ≠ 0 ↔ U 3 (21 * a + p) ≠ 0 := not_congr (n1 a p ha hp)
      rw [← e0]
      refine and_congr_right fun h0 => ?_
      have := n3 a b p ha hb hp h0
      exact ⟨fun q => (this.mpr q.symm).symm, fun q => (this.mp q.symm).symm⟩), rf_cn_pl hI ha hb 21 (Nat.le_refl _)]
    unfold rf_nb
    refine me_cn_congr fun i hi => ?_
    unfold rf_mk
    rw [Bool.eq_iff_iff, rf_B_iff, Bool.and_eq_true, decide_eq_true_iff, decide_eq_true_iff, a2 i hi, b2 i hi]
    constructor
    · rintro ⟨h0, p, h1, h2, h3⟩
      exact ⟨⟨h0, a, p, ha, Or.inr rfl, h1, h2⟩, ⟨h0, b, p, hb, Or.inr rfl, h1, h3⟩⟩
    · rintro ⟨⟨h0, m, p, q1, q2, q3, q4⟩, -, m', p', r1, r2, r3, r4⟩
      have em : m = a := q2.elim (fun f => f.elim) id
      have em' : m' = b := r2.elim (fun f => f.elim) id
      subst em; subst em'
      have := hI.2.2.2.2.2.2.2.1 m m' p p' q1 r1 q3 r3 (by rw [q4]; exact h0) (q4.trans r4.symm)
      subst this
      exact ⟨h0, p, q3, q4, r4⟩
  have hor : rf_nb (rf_mk Kc) = rf_nb (fun i => rf_mk Ka i || rf_mk K1 i) := by
    unfold rf_nb
    refine me_cn_congr fun i hi => ?_
    unfold rf_mk
    rw [Bool.eq_iff_iff, Bool.or_eq_true, decide_eq_true_iff, decide_eq_true_iff, decide_eq_true_iff, a2 i hi, b2 i hi, c2 i hi]
    constructor
    · rintro ⟨h0, m, p, q1, q2 | q2, q3, q4⟩
      · exact Or.inl ⟨h0, m, p, q1, q2, q3, q4⟩
      · exact Or.inr ⟨h0, m, p, q1, Or.inr q2, q3, q4⟩
    · rintro (⟨h0, m, p, q1, q2, q3, q4⟩ | ⟨h0, m, p, q1, q2, q3, q4⟩)
      · exact ⟨h0, m, p, q1, Or.inl q2, q3, q4⟩
      · exact ⟨h0, m, p, q1, q2.elim (fun f => f.elim) Or.inr, q3, q4⟩
  have hie := rf_cn_ie (rf_mk Ka) (rf_mk K1) 61
  unfold rf_nb at hcnt hor b1 c1
  rw [Prod.mk.injEq]
  refine ⟨?_, rfl⟩
  rw [pk_sub (by omega), hcnt]
  congr 1
  omega
theorem rp_shared (hI : rf_I M U N) (hN9 : N < 2 ^ 31) (a b : Int32) : rf_E rf_cG (fb_shared M a b) (mo_shared U a b) N := by
  have hd : M 5 0 = U 4 5 := hI.2.2.2.2.2.2.2.2.2.2.2.1
  unfold fb_shared mo_shared
  rw [hd, rf_ism hI, rf_ism hI]
  have hc := fun x => rf_I_c hI hN9 x
  by_cases h1 : U 4 5 ≠ 0
  · rw [if_pos h1, if_pos h1]
    exact rf_Ex _ (by decide) _ rfl (hc _)
  · rw [if_neg h1, if_neg h1]
    by_cases h2 : (mo_ism U a && mo_ism U b) = false
    · rw [if_pos h2, if_pos h2]
      exact rf_Ex _ (by decide) _ rfl (hc _)
    · rw [if_neg h2, if_neg h2]
      have h3 : mo_ism U a = true ∧ mo_ism U b = true := by simpa using h2
      have ha : a.toNatClampNeg < 7 := rf_ismlt (M := M) (by rw [rf_ism hI]; exact h3.1)
      have hb : b.toNatClampNeg < 7 := rf_ismlt (M := M) (by rw [rf_ism hI]; exact h3.2)
      rw [rf_rn7 M ha, rf_rn7 M hb]
      obtain ⟨K, e⟩ := rf_shared hI (show a.toNatClampNeg < 14 by omega) (show b.toNatClampNeg < 14 by omega)
      rw [e]
      exact rf_Er _ rfl (rfl) (rf_I_c (rf_I_K hI hN9 _) hN9 _)
end
