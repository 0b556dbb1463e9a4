/-! .. one level further down -/
section
variable {M U : me_M} {N k l : Nat} {K : Nat → Int32} {c : Nat → Nat} {Q : me_M}
theorem rf_n_succ (M : me_M) {k l : Nat} (hk : k < 64) (hl : l < 2) : rf_n M k (l + 1) = fb_ch M (rf_n M k l) (fb_tn k l) := by
  unfold rf_n rf_nd
  rw [← rf_na M _ hk (by omega), ← rf_na M _ hk (by omega)]
  rfl
theorem rf_Q_new (hI : rf_I M U N) (hk : k < 64) (hS : rf_S M (fun _ => True) K) (hl : l < 2) (hQ : rf_Q M K k l c Q) : ∀ j, j ≤ l → rf_n M k (l + 1) ≠ c j := by
  obtain ⟨q1, q2, q3, q4, q5, q6, q7, q8, q9⟩ := hQ
  intro j hj e
  obtain ⟨⟨b1, b2⟩, h, -, -⟩ := q1 j hj
  have hz : rf_n M k (l + 1) ≠ 0 := by omega
  have hp : ∀ i, mo_pl i k < 21 := fun i => rf_pl_lt hk
  rcases h with ⟨-, h⟩ | ⟨-, h⟩
  · have h9 := hI.2.2.2.2.2.2.2.1 0 0 (mo_pl (l + 1) k) (mo_pl j k) (by omega) (by omega) (hp _) (hp _) hz (by rw [h] at e; exact e)
    have := rf_pl_inj (by omega) (by omega) hk hk h9
    omega
  · rw [← e] at h
    exact absurd h ((hS _ (rf_nd_lt hI (m := 0) (by omega) (hp _))).mpr ⟨hz, 0, mo_pl (l + 1) k, by omega, trivial, hp _, rfl⟩)
/-- the node below is made own: z its number then, Q1 the memory -/
theorem rf_Q_own (hI : rf_I M U N) (hk : k < 64) (hS : rf_S M (fun _ => True) K) (hl : l < 2) (hQ : rf_Q M K k l c Q) (hroom : rf_nb (rf_mk K) + me_cn (fun j => decide (M 1 (rf_n M k j) = 0)) (l + 2) ≤ 60) :
    ∃ z Q1, fb_own Q (rf_n M k (l + 1)) = (z, Q1) ∧ (1 ≤ z ∧ z ≤ 60) ∧ ((M 1 (rf_n M k (l + 1)) ≠ 0 ∧ z = rf_n M k (l + 1)) ∨ (M 1 (rf_n M k (l + 1)) = 0 ∧ K z = 0)) ∧ Q1 2 z ≠ 0 ∧ Q1 1 z ≠ 0 ∧ (∀ j, j ≤ l → z ≠ c j) ∧
      (∀ x, x ≠ z → Q1 (6 + x) = Q (6 + x) ∧ Q1 0 x = Q 0 x ∧ Q1 1 x = Q 1 x) ∧ (∀ t, t < 4 → Q1 (6 + z) t = M (6 + rf_n M k (l + 1)) t) ∧ Q1 0 z = M 0 (rf_n M k (l + 1)) ∧ (∀ x, Q 2 x ≠ 0 → Q1 2 x ≠ 0) ∧
      rf_nb (rf_mk (Q1 2)) = rf_nb (rf_mk K) + me_cn (fun j => decide (M 1 (rf_n M k j) = 0)) (l + 2) ∧ Q1 3 = M 3 ∧ Q1 4 = M 4 ∧ Q1 5 = M 5 := by
  have hnew := rf_Q_new hI hk hS hl hQ
  obtain ⟨q1, q2, q3, q4, q5, q6, q7, q8, q9⟩ := hQ
  have hlt : rf_n M k (l + 1) < 61 := rf_nd_lt hI (m := 0) (by omega) (rf_pl_lt hk)
  obtain ⟨r1, r2, r3⟩ := q3 _ hnew
  have hcn : me_cn (fun j => decide (M 1 (rf_n M k j) = 0)) (l + 2) = me_cn (fun j => decide (M 1 (rf_n M k j) = 0)) (l + 1) + if M 1 (rf_n M k (l + 1)) = 0 then 1 else 0 := by
    show _ + (if decide (M 1 (rf_n M k (l + 1)) = 0) = true then 1 else 0) = _
    by_cases q : M 1 (rf_n M k (l + 1)) = 0
    · rw [if_pos q, if_pos (decide_eq_true q)]
    · rw [if_neg q, if_neg (fun z => q (of_decide_eq_true z))]
  rcases rf_own Q (rf_n M k (l + 1)) (fun h => by rw [r3] at h; rw [hcn, if_pos h] at hroom; omega) with ⟨h, e⟩ | ⟨h, a, a1, a2, a3, e1, e2, e3, e4, e5, e6, e7, e8, e9⟩
  · rw [r3] at h
    have hne : rf_n M k (l + 1) ≠ 0 := fun z => h (by rw [z]; exact hI.2.2.1.2.2)
    have hK : K (rf_n M k (l + 1)) ≠ 0 := (hS _ hlt).mpr ⟨hne, 0, mo_pl (l + 1) k, by omega, trivial, rf_pl_lt hk, rfl⟩
    exact ⟨_, _, e, ⟨by omega, by omega⟩, Or.inl ⟨h, rfl⟩, q5 _ hK, by rw [r3]; exact h, hnew, fun x _ => ⟨rfl, rfl, rfl⟩, r1, r2, fun x hx => hx, by rw [hcn, if_neg h]; exact q6, q7, q8, q9⟩
  · rw [r3] at h
    have hac : ∀ j, j ≤ l → a ≠ c j := fun j hj e => (q1 j hj).2.2.1 (by rw [← e]; exact a3)
    refine ⟨a, (fb_own Q (rf_n M k (l + 1))).2, by rw [← e1], ⟨a1, a2⟩, Or.inr ⟨h, ?_⟩, ?_, ?_, hac, fun x hx => ⟨e6 x hx, ?_, ?_⟩, fun t ht => (e5 t ht).trans (r1 t ht), ?_, fun x hx => ?_, ?_, e7.trans q7, e8.trans q8, e9.trans q9⟩
    · apply Classical.byContradiction
      intro hK
      exact q5 a hK a3
    · rw [e2]; unfold upd; rw [if_pos rfl]; decide
    · rw [e4]; unfold upd; rw [if_pos rfl]; decide
    · rw [e3]; unfold upd; rw [if_neg hx]
    · rw [e4]; unfold upd; rw [if_neg hx]
    · rw [e3]; unfold upd; rw [if_pos rfl]; exact r2
    · rw [e2]; unfold upd
      split
      · decide
      · exact hx
    · rw [e2, hcn, if_pos h, ← Nat.add_assoc, ← q6]
      unfold rf_nb
      refine rf_cn_up (a := a) (by omega) (by simp [rf_mk, a3]) (by simp [rf_mk, upd]) (fun i _ hi => by simp [rf_mk, upd, hi])
theorem rf_Q_step (hI : rf_I M U N) (hk : k < 64) (hS : rf_S M (fun _ => True) K) (hl : l < 2) (hQ : rf_Q M K k l c Q) (hroom : rf_nb (rf_mk K) + me_cn (fun j => decide (M 1 (rf_n M k j) = 0)) (l + 2) ≤ 60) :
    rf_Q M K k (l + 1) (fun j => if j ≤ l then c j else (fb_own Q (fb_ch Q (c l) (fb_tn k l))).1) (fb_open (fb_own Q (fb_ch Q (c l) (fb_tn k l))).2 (c l) k l (nI (fb_own Q (fb_ch Q (c l) (fb_tn k l))).1)) := by
  have hch : fb_ch Q (c l) (fb_tn k l) = rf_n M k (l + 1) := by
    rw [rf_n_succ M hk hl]
    unfold fb_ch
    rw [(hQ.2.2.2.1 l (Nat.le_refl _)).1 _ (fb_tn_lt k l), if_neg (by omega)]
  rw [hch]
  obtain ⟨z, Q1, e, zb, zk, z2, z1, zc, zx, zr, zo, zm, zn, z3, z4, z5⟩ := rf_Q_own hI hk hS hl hQ hroom
  rw [e]
  obtain ⟨q1, q2, q3, q4, q5, q6, q7, q8, q9⟩ := hQ
  show rf_Q M K k (l + 1) (fun j => if j ≤ l then c j else z) (fb_open Q1 (c l) k l (nI z))
  obtain ⟨d, hd⟩ : ∃ d : Nat → Nat, d = fun j => if j ≤ l then c j else z := ⟨_, rfl⟩
  rw [← hd]
  have cj : ∀ {j : Nat}, j ≤ l → d j = c j := fun h => by rw [hd]; exact if_pos h
  have cz : d (l + 1) = z := by rw [hd]; exact if_neg (by omega)
  have hcl : c l ≠ z := fun e => zc l (Nat.le_refl _) e.symm
  -- what open leaves
  have o2 : ∀ {a : Nat}, a ≠ 0 → (∀ x, a ≠ 6 + x) → fb_open Q1 (c l) k l (nI z) a = Q1 a := by
    intro a h1 h2
    unfold fb_open
    rw [me_up_n _ _ _ h1, me_up_n _ _ _ (h2 _)]
  have o6 : ∀ {x t : Nat}, (x ≠ c l ∨ t ≠ fb_tn k l) → fb_open Q1 (c l) k l (nI z) (6 + x) t = Q1 (6 + x) t := by
    intro x t h
    unfold fb_open
    rw [me_up_n _ _ _ (by omega)]
    by_cases ex : x = c l
    · subst ex
      exact me_up_j _ _ _ (h.elim (fun q => absurd rfl q) id)
    · rw [me_up_n _ _ _ (by omega)]
  have o6c : fb_open Q1 (c l) k l (nI z) (6 + c l) (fb_tn k l) = nI z := by
    unfold fb_open
    rw [me_up_n _ _ _ (by omega)]
    exact me_up_s _ _ _ _
  have o0 : ∀ {x : Nat}, x ≠ c l → fb_open Q1 (c l) k l (nI z) 0 x = Q1 0 x := by
    intro x h
    unfold fb_open
    rw [me_up_j _ _ _ h, me_up_n _ _ _ (by omega)]
  have o0c : fb_open Q1 (c l) k l (nI z) 0 (c l) = Q1 0 (c l) ||| fb_bit k l := by
    unfold fb_open
    exact me_up_s _ _ _ _
  have t1 := o2 (a := 1) (by decide) (by omega)
  have t2 := o2 (a := 2) (by decide) (by omega)
  refine ⟨fun j hj => ?_, fun j j' h1 h2 h3 => ?_, fun x hx => ?_, fun j hj => ?_, fun x hx => ?_, by rw [t2]; exact zn, (o2 (by decide) (by omega)).trans z3, (o2 (by decide) (by omega)).trans z4, (o2 (by decide) (by omega)).trans z5⟩
  · by_cases h : j ≤ l
    · obtain ⟨w1, w2, w3, w4⟩ := q1 j h
      have hne : c j ≠ z := fun e => zc j h e.symm
      rw [cj h, t1, t2]
      exact ⟨w1, w2, zm _ w3, by rw [(zx _ hne).2.2]; exact w4⟩
    · have ej : j = l + 1 := by omega
      subst ej
      rw [cz, t1, t2]
      exact ⟨zb, zk, z2, z1⟩
  · by_cases h : j ≤ l
    · by_cases h' : j' ≤ l
      · rw [cj h, cj h'] at h3
        exact q2 j j' h h' h3
      · have ej : j' = l + 1 := by omega
        subst ej
        rw [cj h, cz] at h3
        exact absurd h3.symm (zc j h)
    · have ej : j = l + 1 := by omega
      subst ej
      by_cases h' : j' ≤ l
      · rw [cj h', cz] at h3
        exact absurd h3 (zc j' h')
      · omega
  · have hxz : x ≠ z := by have := hx (l + 1) (by omega); rw [cz] at this; exact this
    have hxc : ∀ j, j ≤ l → x ≠ c j := fun j hj => by have := hx j (by omega); rw [cj hj] at this; exact this
    have hxl := hxc l (Nat.le_refl _)
    obtain ⟨p1, p2, p3⟩ := zx x hxz
    obtain ⟨s1, s2, s3⟩ := q3 x hxc
    refine ⟨fun t ht => ?_, ?_, ?_⟩
    · rw [o6 (Or.inl hxl), p1]; exact s1 t ht
    · rw [o0 hxl, p2]; exact s2
    · rw [t1, p3]; exact s3
  · by_cases h : j ≤ l
    · have hne : c j ≠ z := fun e => zc j h e.symm
      obtain ⟨p1, p2, p3⟩ := zx _ hne
      obtain ⟨s1, s2⟩ := q4 j h
      rw [cj h]
      by_cases e : j = l
      · subst e
        rw [cz]
        refine ⟨fun t ht => ?_, ?_⟩
        · by_cases et : t = fb_tn k j
          · subst et; rw [o6c, if_pos ⟨rfl, by omega⟩]
          · rw [o6 (Or.inr et), p1, s1 t ht, if_neg (fun q => et q.1), if_neg (fun q => et q.1)]
        · rw [o0c, p2, s2, if_neg (by omega), if_pos (by omega)]
      · have hlj : c j ≠ c l := fun q => e (q2 j l h (Nat.le_refl _) q)
        rw [cj (show j + 1 ≤ l by omega)]
        refine ⟨fun t ht => ?_, ?_⟩
        · rw [o6 (Or.inl hlj), p1, s1 t ht]
          by_cases et : t = fb_tn k j
          · rw [if_pos ⟨et, by omega⟩, if_pos ⟨et, by omega⟩]
          · rw [if_neg (fun q => et q.1), if_neg (fun q => et q.1)]
        · rw [o0 hlj, p2, s2, if_pos (by omega), if_pos (by omega)]
    · have ej : j = l + 1 := by omega
      subst ej
      rw [cz]
      refine ⟨fun t ht => ?_, ?_⟩
      · rw [o6 (Or.inl hcl.symm), zr t ht, if_neg (by omega)]
      · rw [o0 hcl.symm, zo, if_neg (by omega)]
  · rw [t2]; exact zm _ (q5 x hx)
end
