/-! the reference's change -/
section
variable {M U U' : me_M} {k L N : Nat} {more : Int32}
theorem mo_below_of {V : me_M} (h : V 1 = U 1) (l k : Nat) : mo_below V l k = mo_below U l k := by
  unfold mo_below mo_bi; rw [h]
theorem rf_cl (hk : k < 64) {ma : Nat} (hma : U 4 1 = nI ma) (i : Nat) (hi : i ≤ 3) :
    mo_cl U k more i 0 = U 0 ∧ mo_cl U k more i 1 = U 1 ∧ mo_cl U k more i 2 = U 2 ∧ (∀ j, j ≠ 1 → mo_cl U k more i 4 j = U 4 j) ∧ (mo_cl U k more i 4 1 = nI (ma + me_cn (fun l => mo_makes U l k more) i)) ∧
    (∀ j, (∀ l, l < i → mo_pl l k ≠ j) → mo_cl U k more i 3 j = U 3 j) ∧
    (∀ l, l < i → mo_cl U k more i 3 (mo_pl l k) = if 0 < nI (mo_below U l k) + more then (if mo_makes U l k more = true then nI (ma + me_cn (fun l => mo_makes U l k more) l + 1) else U 3 (mo_pl l k)) else 0) := by
  induction i with
  | zero => exact ⟨rfl, rfl, rfl, fun _ _ => rfl, hma, fun _ _ => rfl, fun l h => by omega⟩
  | succ i ih =>
    obtain ⟨h0, h1, h2, h4, h41, h3, h3p⟩ := ih (by omega)
    have hcl : mo_cl U k more (i + 1) = mo_c2 (mo_cl U k more i) k more i := rfl
    generalize mo_cl U k more i = V at h0 h1 h2 h4 h41 h3 h3p hcl
    have hb : mo_below V i k = mo_below U i k := mo_below_of h1 i k
    have hpl : V 3 (mo_pl i k) = U 3 (mo_pl i k) := h3 _ (fun l hl e => by have := rf_pl_inj (by omega) (by omega) hk hk e; omega)
    have hmk : mo_makes V i k more = mo_makes U i k more := by
      unfold mo_makes
      rw [hb, hpl, h4 2 (by decide)]
    rw [hcl]
    have hc1 : ∀ a, a ≠ 3 → a ≠ 4 → mo_c1 V k more i a = V a := by
      intro a ha hb
      unfold mo_c1
      split
      · rw [me_up_n _ _ _ ha, me_up_n _ _ _ hb]
      · rfl
    have hc2 : ∀ a, a ≠ 3 → mo_c2 V k more i a = mo_c1 V k more i a := fun a ha => me_up_n _ _ _ ha
    have hc14 : ∀ j, j ≠ 1 → mo_c1 V k more i 4 j = V 4 j := by
      intro j hj
      unfold mo_c1
      split
      · rw [me_up_n _ _ _ (by decide), me_up_j _ _ _ hj]
      · rfl
    have hc13 : ∀ j, mo_pl i k ≠ j → mo_c1 V k more i 3 j = V 3 j := by
      intro j hj
      unfold mo_c1
      split
      · rw [me_up_j _ _ _ (fun e => hj e.symm), me_up_n _ _ _ (by decide)]
      · rfl
    have hcn : me_cn (fun l => mo_makes U l k more) (i + 1) = me_cn (fun l => mo_makes U l k more) i + if mo_makes U i k more = true then 1 else 0 := rfl
    refine ⟨(hc2 0 (by decide)).trans ((hc1 0 (by decide) (by decide)).trans h0), (hc2 1 (by decide)).trans ((hc1 1 (by decide) (by decide)).trans h1), (hc2 2 (by decide)).trans ((hc1 2 (by decide) (by decide)).trans h2), fun j hj => ?_, ?_, fun j hj => ?_, fun l hl => ?_⟩
    · rw [hc2 4 (by decide), hc14 j hj]; exact h4 j hj
    · rw [hc2 4 (by decide), hcn]
      unfold mo_c1
      rw [hmk]
      by_cases q : mo_makes U i k more = true
      · rw [if_pos q, if_pos q, me_up_n _ _ _ (by decide), me_up_s, h41, nI_1]; rfl
      · rw [if_neg q, if_neg q, h41]; rfl
    · have hji : mo_pl i k ≠ j := hj i (by omega)
      unfold mo_c2
      rw [me_up_j _ _ _ (fun e => hji e.symm), hc13 j hji]
      exact h3 j (fun l hl => hj l (by omega))
    · by_cases e : l = i
      · subst e
        unfold mo_c2
        rw [me_up_s, hb]
        by_cases q : 0 < nI (mo_below U l k) + more
        · rw [if_pos q, if_pos q]
          unfold mo_c1
          rw [hmk]
          by_cases q2 : mo_makes U l k more = true
          · rw [if_pos q2, if_pos q2, me_up_s, h41, nI_1]
          · rw [if_neg q2, if_neg q2, hpl]
        · rw [if_neg q, if_neg q]
      · have hne : mo_pl i k ≠ mo_pl l k := fun q => e (rf_pl_inj (by omega) (by omega) hk hk q).symm
        unfold mo_c2
        rw [me_up_j _ _ _ (fun q => hne q.symm), hc13 _ hne]
        exact h3p l (by omega)
theorem rf_change (hI : rf_I M U N) (hk : k < 64) (hL : L ≤ 3) (hkp : ∀ l, l < 3 → (0 < nI (mo_below U l k) + more ↔ l < L)) {b : Bool} {w : Int32} (hmore : 0 ≤ more ↔ b = true)
    (e0 : U' 0 = mo_change U k more 0) (e1 : U' 1 = mo_change U k more 1) (e3 : U' 3 = mo_change U k more 3) (e2 : ∀ j, j ≠ k → U' 2 j = U 2 j) (e2k : b = true → U' 2 k = w) (e4 : ∀ j, j ≠ 0 → U' 4 j = mo_change U k more 4 j)
    (hex : 0 < L → b = false → ∃ k', k' < 64 ∧ k' ≠ k ∧ U 1 k' ≠ 0 ∧ ∀ l, l < L → mo_pl l k' = mo_pl l k) (hN9 : N + 3 < 2 ^ 31) : rf_UC M U U' k L b w (N + 3) := by
  obtain ⟨hA, hW, hZ, h01, hO, hV, hLv, hP, hN, ⟨ma, mk, g1, g2, g3, g4, g5⟩, hR, hSc⟩ := id hI
  obtain ⟨c0, c1, c2, c4, c41, c3, c3p⟩ := rf_cl (more := more) hk g1 3 (Nat.le_refl _)
  have ch : ∀ a, a ≠ 1 → mo_change U k more a = mo_cl U k more 3 a := fun a ha => me_up_n _ _ _ ha
  have hle : me_cn (fun l => mo_makes U l k more) 3 ≤ 3 := me_cn_le _ _
  refine ⟨e0.trans ((ch 0 (by decide)).trans c0), fun j hj => ⟨?_, e2 j hj⟩, ?_, e2k, fun m p h0 hp => ?_, fun p hp hoff => ?_, ⟨ma, ma + me_cn (fun l => mo_makes U l k more) 3, g1, ?_, by omega, by omega, fun l hl => ?_⟩, fun l h1 h2 => ?_, fun j h0 h1 => ?_, hex⟩
  · rw [e1]
    unfold mo_change
    rw [me_up_j _ _ _ hj, c1]
  · rw [e1]
    unfold mo_change
    rw [me_up_s]
    by_cases q : 0 ≤ more
    · rw [if_pos q, if_pos (hmore.mp q)]
    · rw [if_neg q, if_neg (fun z => q (hmore.mpr z))]
  · rw [e3, ch 3 (by decide)]
    exact c3 _ (fun l hl e => by have := rf_pl_lt (l := l) hk; omega)
  · rw [e3, ch 3 (by decide)]
    exact c3 _ hoff
  · rw [e4 1 (by decide), ch 4 (by decide)]; exact c41
  · have hp : mo_pl l k < 21 := rf_pl_lt hk
    rw [e3, ch 3 (by decide), c3p l (by omega), if_pos ((hkp l (by omega)).mpr hl)]
    by_cases q : mo_makes U l k more = true
    · rw [if_pos q]
      refine Or.inr ⟨_, by omega, ?_, rfl⟩
      have : ∀ {a b : Nat}, a ≤ b → me_cn (fun l => mo_makes U l k more) a ≤ me_cn (fun l => mo_makes U l k more) b := by
        intro a b hab
        induction b with
        | zero => rw [show a = 0 by omega]; exact Nat.le_refl _
        | succ b ih =>
          by_cases e : a = b + 1
          · rw [e]; exact Nat.le_refl _
          · exact Nat.le_trans (ih (by omega)) (Nat.le_add_right _ _)
      have h9 := this (a := l + 1) (b := 3) (by omega)
      have h8 : me_cn (fun l => mo_makes U l k more) (l + 1) = me_cn (fun l => mo_makes U l k more) l + 1 := by
        show _ + (if mo_makes U l k more = true then 1 else 0) = _
        rw [if_pos q]
      omega
    · rw [if_neg q]
      have h9 : ¬ U 3 (mo_pl l k) ≤ U 4 2 := by
        intro z
        apply q
        unfold mo_makes
        rw [decide_eq_true ((hkp l (by omega)).mpr hl), decide_eq_true z]; rfl
      have hlt : U 4 2 < U 3 (mo_pl l k) := Int32.not_le.mp h9
      have hz : rf_nd M 0 (mo_pl l k) ≠ 0 := by
        intro z
        have z2 := (hN.1 0 (mo_pl l k) (by omega) hp).mp z
        rw [show 21 * 0 + mo_pl l k = mo_pl l k by omega] at z2
        rw [z2, g2] at hlt
        exact nI_pos (by omega) hlt
      exact Or.inl ⟨(hR.1 _ hp hz).mpr hlt, hz, rfl⟩
  · rw [e3, ch 3 (by decide), c3p l h1, if_neg (fun z => by have := (hkp l h1).mp z; omega)]
  · rw [e4 j h0, ch 4 (by decide)]; exact c4 j h1
end
