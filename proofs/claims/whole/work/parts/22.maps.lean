/-! maps given to other handles, or dropped, on both sides -/
section
variable {M M' U U' : me_M} {N : Nat}
/-- map m is then what map m0 was -/
def rf_as (M M' U U' : me_M) (m m0 : Nat) : Prop := m0 < 14 ∧ rf_rv M' m = rf_rv M m0 ∧ U' 0 m = U 0 m0 ∧ (∀ k, k < 64 → U' 1 (64 * m + k) = U 1 (64 * m0 + k) ∧ U' 2 (64 * m + k) = U 2 (64 * m0 + k)) ∧ ∀ p, p < 21 → U' 3 (21 * m + p) = U 3 (21 * m0 + p)
/-- there is no map m then -/
def rf_no (M' U' : me_M) (m : Nat) : Prop := rf_rv M' m = -1 ∧ U' 0 m = 0 ∧ (∀ k, k < 64 → U' 1 (64 * m + k) = 0) ∧ ∀ p, p < 21 → U' 3 (21 * m + p) = 0
theorem rf_re (hI : rf_I M U N) (hN9 : N < 2 ^ 31) (h0 : M' 0 = M 0) (h6 : ∀ x, M' (6 + x) = M (6 + x)) (hg : ∀ m, m < 14 → (∃ m0, rf_as M M' U U' m m0) ∨ rf_no M' U' m)
    (ha0 : U' 0 0 = 1) (ha7 : U' 0 7 = 1) (h10 : M' 1 0 = 0) (h41 : U' 4 1 = U 4 1)
    (hf : (U' 4 2 = U 4 1 ∧ ∀ x, x < 61 → M' 1 x = 0) ∨ (U' 4 2 = U 4 2 ∧ M' 1 = M 1 ∧ ∀ m, 0 < m → m < 14 → (∃ m0, 0 < m0 ∧ rf_as M M' U U' m m0) ∨ rf_no M' U' m))
    (hS : rf_Sc M' U') : rf_I M' U' N := by
  have hJ := rf_I_J hI
  have hlt := fun {m p : Nat} (hm : m < 14) (hp : p < 21) => rf_nd_lt hI hm hp
  obtain ⟨hA, hW, hZ, h01, hO, hV, hL, hP, ⟨n1, n2, n3⟩, ⟨ma, mk, g1, g2, g3, g4, g5⟩, hR, -⟩ := hI
  have hch : ∀ x t, fb_ch M' x t = fb_ch M x t := fun x t => by unfold fb_ch; rw [h6]
  have hnr : ∀ r p, rf_nr M' r p = rf_nr M r p := fun r p => by unfold rf_nr; simp only [hch]
  have nas : ∀ {m m0 : Nat}, rf_as M M' U U' m m0 → ∀ p, rf_nd M' m p = rf_nd M m0 p := by
    intro m m0 h p
    unfold rf_nd rf_rn
    rw [h.2.1, hnr]
  have nno : ∀ {m : Nat}, rf_no M' U' m → ∀ p, p < 21 → rf_nd M' m p = 0 := by
    intro m h p hp
    unfold rf_nd rf_rn
    rw [h.1, rf_m1, hnr]
    exact hJ.2.1 p hp
  have hZ' : rf_Z M' := ⟨fun t ht => by rw [show M' 6 t = M' (6 + 0) t from rfl, h6]; exact hZ.1 t ht, by rw [h0]; exact hZ.2.1, h10⟩
  have h1' : ∀ m p, m < 14 → p < 21 → (rf_nd M' m p = 0 ↔ U' 3 (21 * m + p) = 0) := by
    intro m p a1 a2
    rcases hg m a1 with ⟨m0, h⟩ | h
    · rw [nas h, h.2.2.2.2 p a2]; exact n1 m0 p h.1 a2
    · rw [nno h p a2, h.2.2.2 p a2]; exact ⟨fun _ => rfl, fun _ => rfl⟩
  have hnum : ∀ m p, m < 14 → p < 21 → ∃ x, x ≤ ma ∧ U' 3 (21 * m + p) = nI x := by
    intro m p a1 a2
    rcases hg m a1 with ⟨m0, h⟩ | h
    · rw [h.2.2.2.2 p a2]; exact g5 m0 p h.1 a2
    · exact ⟨0, by omega, h.2.2.2 p a2⟩
  refine ⟨⟨fun m a1 => ?_, ha0, ha7⟩, fun m a1 => ?_, hZ', fun j hj => ?_, ⟨fun m p t a1 a2 a3 => ?_, fun m p t a1 a2 a3 a4 => ?_, fun m k a1 a2 => ?_⟩, fun m k a1 a2 a3 => ?_, fun m l k a1 a2 a3 a4 => ?_, fun m m' p p' a1 a2 a3 a4 a5 a6 => ?_,
    ⟨h1', fun m p a1 a2 => ?_, fun m m' p a1 a2 a3 a4 => ?_⟩, ?_, ⟨fun p a1 a2 => ?_, fun m p a0 a1 a2 a3 => ?_⟩, hS⟩
  · rcases hg m a1 with ⟨m0, h⟩ | h
    · have e : rf_rn M' m = rf_rn M m0 := by unfold rf_rn; rw [h.2.1]
      rw [h.2.2.1, h.2.1, e]; exact hA.1 m0 h.1
    · exact Or.inl ⟨h.2.1, h.1⟩
  · have hw : ∀ r, fb_wf M r → fb_wf M' r := by
      rintro r ⟨w1, w2, w3⟩
      refine ⟨w1, fun t ht => ?_, fun t ht s hs => ?_⟩
      · rw [h6, hch]; exact w2 t ht
      · rw [hch, h6, hch]; exact w3 t ht s hs
    rcases hg m a1 with ⟨m0, h⟩ | h
    · have e : rf_rn M' m = rf_rn M m0 := by unfold rf_rn; rw [h.2.1]
      rw [e]; exact hw _ (hW m0 h.1)
    · have e : rf_rn M' m = 0 := by unfold rf_rn; rw [h.1]; exact rf_m1
      rw [e]
      have hz : ∀ t, t < 4 → fb_ch M' 0 t = 0 := fun t ht => rf_ch0 hZ' ht
      refine ⟨by omega, fun t ht => ?_, fun t ht s hs => ?_⟩
      · rw [hz t ht]; exact ⟨hZ'.1 t ht, by omega⟩
      · rw [hz t ht, hz s hs]; exact ⟨hZ'.1 s hs, by omega⟩
  · have e : j = 64 * (j / 64) + j % 64 := by omega
    rcases hg (j / 64) (by omega) with ⟨m0, h⟩ | h
    · rw [e, (h.2.2.2.1 (j % 64) (by omega)).1]; exact h01 _ (by have := h.1; omega)
    · rw [e, h.2.2.1 (j % 64) (by omega)]; exact Or.inl rfl
  · rcases hg m a1 with ⟨m0, h⟩ | h
    · rw [nas h, h0, hch]; exact hO.1 m0 p t h.1 a2 a3
    · rw [nno h p (by omega), hZ'.2.1, b_0, rf_ch0 hZ' a3, decide_eq_false (by omega)]
  · rcases hg m a1 with ⟨m0, h⟩ | h
    · rw [nas h, h0]; exact hO.2.1 m0 p t h.1 a2 a3 a4
    · rw [nno h p a2, hZ'.2.1, b_0]
  · rcases hg m a1 with ⟨m0, h⟩ | h
    · rw [nas h, h0, (h.2.2.2.1 k a2).1]; exact hO.2.2 m0 k h.1 a2
    · rw [nno h _ (by omega), hZ'.2.1, b_0, h.2.2.1 k a2]; decide
  · rcases hg m a1 with ⟨m0, h⟩ | h
    · rw [(h.2.2.2.1 k a2).1] at a3
      rw [nas h, h6, (h.2.2.2.1 k a2).2]; exact hV m0 k h.1 a2 a3
    · exact absurd (h.2.2.1 k a2) a3
  · rcases hg m a1 with ⟨m0, h⟩ | h
    · rw [nas h] at a4
      obtain ⟨k', e1, e2, e3⟩ := hL m0 l k h.1 a2 a3 a4
      exact ⟨k', e1, e2, by rw [(h.2.2.2.1 k' e1).1]; exact e3⟩
    · exact absurd (nno h _ (rf_pl_lt a3)) a4
  · rcases hg m a1 with ⟨m0, h⟩ | h
    · rw [nas h] at a5 a6
      rcases hg m' a2 with ⟨m0', h'⟩ | h'
      · rw [nas h'] at a6
        exact hP m0 m0' p p' h.1 h'.1 a3 a4 a5 a6
      · rw [nno h' p' a4] at a6; exact absurd a6 a5
    · exact absurd (nno h p a3) a5
  · obtain ⟨x, hx, ex⟩ := hnum m p a1 a2
    rw [ex]; exact nI_pos' (by omega)
  · rcases hg m a1 with ⟨m0, h⟩ | h
    · rw [nas h] at a4 ⊢
      rw [h.2.2.2.2 p a3]
      rcases hg m' a2 with ⟨m0', h'⟩ | h'
      · rw [nas h', h'.2.2.2.2 p a3]
        exact n3 m0 m0' p h.1 h'.1 a3 a4
      · rw [nno h' p a3, h'.2.2.2 p a3]
        exact n1 m0 p h.1 a3
    · exact absurd (nno h p a3) a4
  · rcases hf with ⟨f1, -⟩ | ⟨f1, -⟩
    · exact ⟨ma, ma, h41.trans g1, f1.trans g1, Nat.le_refl _, g4, hnum⟩
    · exact ⟨ma, mk, h41.trans g1, f1.trans g2, g3, g4, hnum⟩
  · rcases hf with ⟨f1, f2⟩ | ⟨f1, f2, f3⟩
    · obtain ⟨x, hx, ex⟩ := hnum 0 p (by omega) a1
      rw [show 21 * 0 + p = p by omega] at ex
      have hb : rf_nd M' 0 p < 61 := by
        rcases hg 0 (by omega) with ⟨m0, h⟩ | h
        · rw [nas h]; exact hlt h.1 a1
        · rw [nno h p a1]; omega
      rw [f2 _ hb, f1, g1, ex]
      exact ⟨fun z => absurd rfl z, fun z => absurd z (nI_nlt hx (by omega))⟩
    · rcases hg 0 (by omega) with ⟨m0, h⟩ | h
      · have e3 := h.2.2.2.2 p a1
        rw [show 21 * 0 + p = p by omega] at e3
        rw [nas h] at a2 ⊢
        rw [f2, f1, e3]
        by_cases z : m0 = 0
        · rw [z] at a2 ⊢
          rw [show 21 * 0 + p = p by omega]; exact hR.1 p a1 a2
        · obtain ⟨r1, r2⟩ := hR.2 m0 p (by omega) h.1 a1 a2
          exact ⟨fun q => absurd r1 q, fun q => absurd q (Int32.not_lt.mpr r2)⟩
      · exact absurd (nno h p a1) a2
  · rcases hf with ⟨f1, f2⟩ | ⟨f1, f2, f3⟩
    · obtain ⟨x, hx, ex⟩ := hnum m p a1 a2
      have hb : rf_nd M' m p < 61 := by
        rcases hg m a1 with ⟨m0, h⟩ | h
        · rw [nas h]; exact hlt h.1 a2
        · rw [nno h p a2]; omega
      rw [f2 _ hb, f1, g1, ex]
      exact ⟨rfl, nI_le hx (by omega)⟩
    · rcases f3 m a0 a1 with ⟨m0, hm0, h⟩ | h
      · rw [nas h] at a3 ⊢
        rw [f2, f1, h.2.2.2.2 p a2]
        exact hR.2 m0 p hm0 h.1 a2 a3
      · exact absurd (nno h p a2) a3
end
