/-! a path changed on both sides: what held holds -/
section
variable {M M' U U' : me_M} {k L N N' : Nat} {c : Nat → Nat} {b : Bool} {w : Int32}
/-- what a change leaves of the memory of the reference -/
def rf_UC (M U U' : me_M) (k L : Nat) (b : Bool) (w : Int32) (N' : Nat) : Prop :=
  U' 0 = U 0 ∧ (∀ j, j ≠ k → U' 1 j = U 1 j ∧ U' 2 j = U 2 j) ∧ (U' 1 k = if b = true then 1 else 0) ∧ (b = true → U' 2 k = w) ∧
  (∀ m p, 0 < m → p < 21 → U' 3 (21 * m + p) = U 3 (21 * m + p)) ∧ (∀ p, p < 21 → (∀ l, l < 3 → mo_pl l k ≠ p) → U' 3 p = U 3 p) ∧
  (∃ ma ma', U 4 1 = nI ma ∧ U' 4 1 = nI ma' ∧ ma ≤ ma' ∧ ma' ≤ N' ∧ ∀ l, l < L → (M 1 (rf_nd M 0 (mo_pl l k)) ≠ 0 ∧ rf_nd M 0 (mo_pl l k) ≠ 0 ∧ U' 3 (mo_pl l k) = U 3 (mo_pl l k)) ∨ ∃ x, ma < x ∧ x ≤ ma' ∧ U' 3 (mo_pl l k) = nI x) ∧
  (∀ l, l < 3 → L ≤ l → U' 3 (mo_pl l k) = 0) ∧ (∀ j, j ≠ 0 → j ≠ 1 → U' 4 j = U 4 j) ∧
  (0 < L → b = false → ∃ k', k' < 64 ∧ k' ≠ k ∧ U 1 k' ≠ 0 ∧ ∀ l, l < L → mo_pl l k' = mo_pl l k)
def rf_old (k m p : Nat) : Prop := 0 < m ∨ ∀ l, l < 3 → mo_pl l k ≠ p
theorem rf_split (k m p : Nat) : (m = 0 ∧ ∃ l, l < 3 ∧ mo_pl l k = p) ∨ rf_old k m p := by
  by_cases hm : m = 0
  · by_cases h : ∃ l, l < 3 ∧ mo_pl l k = p
    · exact Or.inl ⟨hm, h⟩
    · exact Or.inr (Or.inr fun l hl e => h ⟨l, hl, e⟩)
  · exact Or.inr (Or.inl (by omega))
theorem rf_pl_inj {l l' k k' : Nat} (hl : l < 3) (hl' : l' < 3) (hk : k < 64) (hk' : k' < 64) (h : mo_pl l k = mo_pl l' k') : l = l' := by
  match l, l', hl, hl' with
  | 0, 0, _, _ => rfl
  | 0, 1, _, _ => rw [rf_pl0, rf_pl1] at h; omega
  | 0, 2, _, _ => rw [rf_pl0, rf_pl2] at h; omega
  | 1, 0, _, _ => rw [rf_pl0, rf_pl1] at h; omega
  | 1, 1, _, _ => rfl
  | 1, 2, _, _ => rw [rf_pl1, rf_pl2] at h; omega
  | 2, 0, _, _ => rw [rf_pl0, rf_pl2] at h; omega
  | 2, 1, _, _ => rw [rf_pl1, rf_pl2] at h; omega
  | 2, 2, _, _ => rfl
theorem rf_wf_iff (M : me_M) (m : Nat) : fb_wf M (rf_rn M m) ↔ rf_rn M m ≤ 60 ∧ ∀ p, p < 5 → fb_w1 M (rf_nd M m p) := by
  constructor
  · rintro ⟨h1, h2, h3⟩
    refine ⟨h1, fun p hp => ?_⟩
    by_cases e : p = 0
    · rw [e]; exact h2
    · have := h3 (p - 1) (by omega)
      rw [show p = 1 + (p - 1) by omega, rf_nd_1 M m (by omega)]
      exact this
  · rintro ⟨h1, h2⟩
    refine ⟨h1, h2 0 (by omega), fun t ht => ?_⟩
    have := h2 (1 + t) (by omega)
    rw [rf_nd_1 M m ht] at this
    exact this
theorem rf_step (hI : rf_I M U N) (hk : k < 64) (hC : rf_C M M' k L c b w) (hU : rf_UC M U U' k L b w N') (hNN : N ≤ N') (hN9 : N' < 2 ^ 31) : rf_I M' U' N' := by
  obtain ⟨hA, hW, hZ, h01, hO, hV, hL, hP, hN, hG, hR, hS⟩ := id hI
  have hZ' := rf_C_Z hZ hC
  obtain ⟨hon, hoff⟩ := rf_C_nd hZ hO hk hC
  have hm := fun {m p : Nat} (h0 : 0 < m) (h1 : m < 14) (h2 : p < 21) => rf_C_m hC h0 h1 h2 (p := p)
  have hcon := rf_C_on hZ hC
  have hcoff := fun {l t : Nat} => rf_C_off (l := l) (t := t) hZ hO hk hC
  have hch0 : ∀ t, t < 4 → fb_ch M' 0 t = 0 := fun t ht => rf_ch0 hZ' ht
  have hrv := fun {m : Nat} (h0 : 0 < m) (h1 : m < 14) => rf_C_rv hC h0 h1
  have hchx := fun {x : Nat} (hx : ∀ l, l < L → x ≠ c l) {t : Nat} (ht : t < 4) => rf_C_ch hC hx ht
  obtain ⟨cL, cc, cd1, cd2, cd3, cx, cl, cr0, cr, c4, c5, cw, cb, crem⟩ := id hC
  obtain ⟨u0, u12, u1k, u2k, u3m, u3f, ⟨ma, ma', g1, g1', g2, g3, g4⟩, u3z, u4, uex⟩ := hU
  -- old places
  have old : ∀ {m p : Nat}, m < 14 → p < 21 → rf_old k m p → rf_nd M' m p = rf_nd M m p ∧ (∀ l, l < L → rf_nd M m p ≠ c l) ∧ U' 3 (21 * m + p) = U 3 (21 * m + p) := by
    intro m p h1 h2 ho
    by_cases hz : 0 < m
    · exact ⟨hm hz h1 h2, fun l hl e => cd1 l hl m p hz h1 h2 e.symm, u3m m p hz h2⟩
    · have e0 : m = 0 := by omega
      subst e0
      have hf : ∀ l, l < 3 → mo_pl l k ≠ p := ho.elim (fun q => absurd q hz) id
      exact ⟨hoff p h2 hf, fun l hl e => cd2 l hl p h2 hf e.symm, by rw [show 21 * 0 + p = p by omega]; exact u3f p h2 hf⟩
  have oldk : ∀ {m k2 : Nat}, k2 < 64 → (0 < m ∨ k2 ≠ k) → U' 1 (64 * m + k2) = U 1 (64 * m + k2) ∧ U' 2 (64 * m + k2) = U 2 (64 * m + k2) := by
    intro m k2 h1 ho
    exact u12 _ (by omega)
  have dpos : ∀ {l : Nat}, rf_d L c l ≠ 0 → l < L ∧ rf_d L c l = c l := by
    intro l h
    unfold rf_d at h ⊢
    by_cases q : l < L
    · rw [if_pos q]; exact ⟨q, rfl⟩
    · rw [if_neg q] at h; exact absurd rfl h
  have dlt : ∀ {l : Nat}, l < L → rf_d L c l = c l := fun h => if_pos h
  have dge : ∀ {l : Nat}, ¬ l < L → rf_d L c l = 0 := fun h => if_neg h
  have hnum : ∀ m p, m < 14 → p < 21 → ∃ x, x ≤ ma' ∧ U' 3 (21 * m + p) = nI x := by
    obtain ⟨ma2, mk2, e1, e2, e3, e4, e5⟩ := hG
    have hma : ma2 = ma ∨ ma2 ≠ ma := Classical.em _
    intro m p h1 h2
    have hle : ma2 = ma := by
      have := (nI_eq (a := ma2) (b := ma) (by omega) (by omega)).mp (e1.symm.trans g1)
      exact this
    subst hle
    rcases rf_split k m p with ⟨rfl, l, hl, rfl⟩ | ho
    · rw [show 21 * 0 + mo_pl l k = mo_pl l k by omega]
      by_cases q : l < L
      · rcases g4 l q with ⟨-, -, e⟩ | ⟨x, hx1, hx2, e⟩
        · obtain ⟨x, hx, ex⟩ := e5 0 (mo_pl l k) (by omega) h2
          rw [show 21 * 0 + mo_pl l k = mo_pl l k by omega] at ex
          exact ⟨x, by omega, e.trans ex⟩
        · exact ⟨x, hx2, e⟩
      · exact ⟨0, by omega, u3z l hl (by omega)⟩
    · rw [(old h1 h2 ho).2.2]
      obtain ⟨x, hx, ex⟩ := e5 m p h1 h2
      exact ⟨x, by omega, ex⟩
  obtain ⟨n1, n2, n3⟩ := hN
  have sep : ∀ {l m : Nat}, l < L → 0 < m → m < 14 → U' 3 (mo_pl l k) ≠ U 3 (21 * m + mo_pl l k) := by
    intro l m hl h0 h1 e
    have hp : mo_pl l k < 21 := rf_pl_lt hk
    obtain ⟨ma2, mk2, e1, e2, e3, e4, e5⟩ := hG
    have hle : ma2 = ma := (nI_eq (a := ma2) (b := ma) (by omega) (by omega)).mp (e1.symm.trans g1)
    subst hle
    rcases g4 l hl with ⟨f1, f2, f3⟩ | ⟨x, hx1, hx2, ex⟩
    · have h9 := (hR.1 (mo_pl l k) hp f2).mp f1
      rw [f3] at e
      by_cases hz : rf_nd M m (mo_pl l k) = 0
      · rw [(n1 m (mo_pl l k) h1 hp).mp hz] at e
        exact f2 ((n1 0 (mo_pl l k) (by omega) hp).mpr (by rw [show 21 * 0 + mo_pl l k = mo_pl l k by omega]; exact e))
      · have h8 := (hR.2 m (mo_pl l k) h0 h1 hp hz).2
        rw [← e] at h8
        exact absurd h9 (Int32.not_lt.mpr h8)
    · obtain ⟨y, hy, ey⟩ := e5 m (mo_pl l k) h1 hp
      rw [ex, ey] at e
      have := (nI_eq (a := x) (b := y) (by omega) (by omega)).mp e
      omega
  have nz : ∀ {l : Nat}, l < L → U' 3 (mo_pl l k) ≠ 0 := by
    intro l hl
    have hp : mo_pl l k < 21 := rf_pl_lt hk
    rcases g4 l hl with ⟨f1, f2, f3⟩ | ⟨x, hx1, hx2, ex⟩
    · rw [f3]
      intro e
      exact f2 ((n1 0 (mo_pl l k) (by omega) hp).mpr (by rw [show 21 * 0 + mo_pl l k = mo_pl l k by omega]; exact e))
    · rw [ex]; exact nI_ne0 (by omega) (by omega)
  have h1' : ∀ m p, m < 14 → p < 21 → (rf_nd M' m p = 0 ↔ U' 3 (21 * m + p) = 0) := by
    intro m p a1 a2
    rcases rf_split k m p with ⟨rfl, l, hl, rfl⟩ | ho
    · rw [hon l hl, show 21 * 0 + mo_pl l k = mo_pl l k by omega]
      by_cases q : l < L
      · rw [dlt q]
        exact ⟨fun e => by have := (cc l q).1; omega, fun e => absurd e (nz q)⟩
      · rw [dge q, u3z l hl (by omega)]
        exact ⟨fun _ => rfl, fun _ => rfl⟩
    · rw [(old a1 a2 ho).1, (old a1 a2 ho).2.2]
      exact n1 m p a1 a2
  refine ⟨⟨fun m a1 => ?_, by rw [u0]; exact hA.2.1, by rw [u0]; exact hA.2.2⟩, fun m a1 => ?_, hZ', fun j hj => ?_, ⟨fun m p t a1 a2 a3 => ?_, fun m p t a1 a2 a3 a4 => ?_, fun m k2 a1 a2 => ?_⟩, fun m k2 a1 a2 a3 => ?_, fun m l k2 a1 a2 a3 a4 => ?_, fun m m' p p' a1 a2 a3 a4 a5 a6 => ?_,
    ⟨h1', fun m p a1 a2 => ?_, fun m m' p a1 a2 a3 a4 => ?_⟩, ?_, ⟨fun p a1 a2 => ?_, fun m p a0 a1 a2 a3 => ?_⟩, ?_⟩
  · -- A
    by_cases e0 : m = 0
    · subst e0
      refine Or.inr ⟨by rw [u0]; exact hA.2.1, ?_⟩
      have e1 : rf_rn M' 0 = rf_d L c 0 := rf_C_nd0 hC
      rw [e1]
      show M' 3 0 = _ ∧ _
      rw [cr0]
      by_cases q : 0 < L
      · rw [if_pos q, dlt q]; exact ⟨rfl, (cc 0 q).2⟩
      · rw [if_neg q, dge q]; exact ⟨rfl, by omega⟩
    · have h9 := hrv (by omega) a1
      have e1 : rf_rn M' m = rf_rn M m := by unfold rf_rn; rw [h9]
      rw [u0, h9, e1]
      exact hA.1 m a1
  · -- Wf
    refine (rf_wf_iff M' m).mpr ⟨?_, fun p hp => ?_⟩
    · by_cases e0 : m = 0
      · subst e0
        have e1 : rf_rn M' 0 = rf_d L c 0 := rf_C_nd0 hC
        rw [e1]
        by_cases q : 0 < L
        · rw [dlt q]; exact (cc 0 q).2
        · rw [dge q]; omega
      · have e1 : rf_rn M' m = rf_rn M m := by unfold rf_rn; rw [hrv (by omega) a1]
        rw [e1]; exact (hW m a1).1
    · rcases rf_split k m p with ⟨rfl, l, hl, rfl⟩ | ho
      · rw [hon l hl]
        have l2 : l < 2 := by
          match l, hl with
          | 0, _ => omega
          | 1, _ => omega
          | 2, _ => rw [rf_pl2] at hp; omega
        intro t ht
        by_cases q : l < L
        · rw [dlt q]
          by_cases e : t = fb_tn k l
          · subst e
            have h9 := hcon l
            rw [if_pos l2, dlt q] at h9
            rw [h9, (cl l q).1 _ ht, if_pos rfl]
            by_cases q1 : l + 1 < L
            · rw [if_pos q1, dlt q1]; exact ⟨rfl, (cc _ q1).2⟩
            · rw [if_neg q1, dge q1, cw (by omega)]; exact ⟨rfl, by omega⟩
          · have h9 := hcoff l2 ht e
            rw [dlt q] at h9
            rw [h9, (cl l q).1 t ht, if_neg e]
            exact ((rf_wf_iff M 0).mp (hW 0 a1)).2 (mo_pl l k) hp t ht
        · rw [dge q, hch0 t ht]
          exact ⟨hZ'.1 t ht, by omega⟩
      · obtain ⟨o1, o2, -⟩ := old a1 (by omega) ho
        rw [o1]
        intro t ht
        rw [hchx o2 ht, (cx _ o2).1 t ht]
        exact ((rf_wf_iff M m).mp (hW m a1)).2 p hp t ht
  · -- 01
    by_cases e : j = k
    · rw [e, u1k]; split
      · exact Or.inr rfl
      · exact Or.inl rfl
    · rw [(u12 j e).1]; exact h01 j hj
  · -- O, levels 0 and 1
    rcases rf_split k m p with ⟨rfl, l, hl, rfl⟩ | ho
    · rw [hon l hl]
      have l2 : l < 2 := by
        match l, hl with
        | 0, _ => omega
        | 1, _ => omega
        | 2, _ => rw [rf_pl2] at a2; omega
      by_cases q : l < L
      · by_cases e : t = fb_tn k l
        · subst e
          have h9 := hcon l
          rw [if_pos l2] at h9
          rw [h9, dlt q, (cl l q).2.1 _ (by omega), if_pos rfl]
          by_cases q1 : l + 1 < L
          · rw [dlt q1, decide_eq_true q1, Bool.true_or, decide_eq_true (by have := (cc _ q1).1; omega)]
          · have hb : b = false := by
              cases hb : b with
              | false => rfl
              | true => have := cb hb; omega
            rw [dge q1, decide_eq_false q1, hb, decide_eq_false (by omega)]; rfl
        · rw [hcoff l2 a3 e, dlt q, (cl l q).2.1 t (by omega), if_neg e]
          exact hO.1 0 (mo_pl l k) t a1 a2 a3
      · rw [dge q, hch0 t a3, hZ'.2.1, b_0, decide_eq_false (by omega)]
    · obtain ⟨o1, o2, -⟩ := old a1 (by omega) ho
      rw [o1, hchx o2 a3, (cx _ o2).2.1]
      exact hO.1 m p t a1 a2 a3
  · -- O, no further bits
    rcases rf_split k m p with ⟨rfl, l, hl, rfl⟩ | ho
    · rw [hon l hl]
      by_cases q : l < L
      · rw [dlt q, (cl l q).2.1 t a4, if_neg (by have := fb_tn_lt k l; omega)]
        exact hO.2.1 0 (mo_pl l k) t a1 a2 a3 a4
      · rw [dge q, hZ'.2.1, b_0]
    · obtain ⟨o1, o2, -⟩ := old a1 a2 ho
      rw [o1, (cx _ o2).2.1]
      exact hO.2.1 m p t a1 a2 a3 a4
  · -- O, level 2
    rcases rf_split k m (5 + k2 / 4) with ⟨rfl, l, hl, e⟩ | ho
    · have el : l = 2 := rf_pl_inj hl (by omega) hk a2 (e.trans (rf_pl2 k2).symm)
      subst el
      have e4 : k / 4 = k2 / 4 := by rw [rf_pl2] at e; omega
      rw [← e, hon 2 hl, show 64 * 0 + k2 = k2 by omega]
      by_cases q : 2 < L
      · rw [dlt q, (cl 2 q).2.1 _ (by omega), rf_tn2, decide_eq_false (show ¬ 2 + 1 < L by omega), Bool.false_or]
        by_cases e5 : k2 = k
        · subst e5
          rw [if_pos rfl, u1k]
          cases b <;> decide
        · rw [if_neg (by omega), (u12 k2 e5).1, e]
          have := hO.2.2 0 k2 a1 a2
          rw [show 64 * 0 + k2 = k2 by omega] at this
          exact this
      · rw [dge q, hZ'.2.1, b_0]
        by_cases e5 : k2 = k
        · have hb : b = false := by
            cases hb : b with
            | false => rfl
            | true => have := cb hb; omega
          rw [e5, u1k, hb]; decide
        · rw [(u12 k2 e5).1]
          have h9 := hO.2.2 0 k2 a1 a2
          rw [show 64 * 0 + k2 = k2 by omega, ← e, crem 2 hl (by omega) _ (by omega), rf_tn2, decide_eq_false (by omega)] at h9
          exact h9
    · obtain ⟨o1, o2, -⟩ := old a1 (by omega) ho
      rw [o1, (cx _ o2).2.1, (oldk a2 (ho.elim Or.inl (fun q => Or.inr (fun e5 => q 2 (by omega) (by rw [rf_pl2, e5]))))).1]
      exact hO.2.2 m k2 a1 a2
  · -- V
    rcases rf_split k m (5 + k2 / 4) with ⟨rfl, l, hl, e⟩ | ho
    · have el : l = 2 := rf_pl_inj hl (by omega) hk a2 (e.trans (rf_pl2 k2).symm)
      subst el
      have e4 : k / 4 = k2 / 4 := by rw [rf_pl2] at e; omega
      rw [show 64 * 0 + k2 = k2 by omega] at a3 ⊢
      by_cases q : 2 < L
      · rw [← e, hon 2 hl, dlt q, (cl 2 q).1 _ (by omega), rf_tn2]
        by_cases e5 : k2 = k
        · subst e5
          rw [if_pos rfl, if_neg (by omega)]
          have hb : b = true := by
            cases hb : b with
            | true => rfl
            | false => rw [u1k, hb] at a3; exact absurd rfl a3
          exact (u2k hb).symm
        · rw [if_neg (by omega), (u12 k2 e5).2, e]
          rw [(u12 k2 e5).1] at a3
          have := hV 0 k2 a1 a2 (by rw [show 64 * 0 + k2 = k2 by omega]; exact a3)
          rw [show 64 * 0 + k2 = k2 by omega] at this
          exact this
      · exfalso
        by_cases e5 : k2 = k
        · have hb : b = false := by
            cases hb : b with
            | false => rfl
            | true => have := cb hb; omega
          rw [e5, u1k, hb] at a3
          exact a3 rfl
        · rw [(u12 k2 e5).1] at a3
          have h9 := hO.2.2 0 k2 a1 a2
          rw [show 64 * 0 + k2 = k2 by omega, ← e, crem 2 hl (by omega) _ (by omega), rf_tn2, decide_eq_false (by omega)] at h9
          exact absurd a3 (of_decide_eq_false h9.symm)
    · obtain ⟨o1, o2, -⟩ := old a1 (by omega) ho
      have ok := oldk (m := m) a2 (ho.elim Or.inl (fun q => Or.inr (fun e5 => q 2 (by omega) (by rw [rf_pl2, e5]))))
      rw [ok.1] at a3
      rw [o1, (cx _ o2).1 _ (by omega), ok.2]
      exact hV m k2 a1 a2 a3
  · -- L
    rcases rf_split k m (mo_pl l k2) with ⟨rfl, l1, hl1, e⟩ | ho
    · have el : l1 = l := rf_pl_inj hl1 a2 hk a3 e
      subst el
      rw [← e, hon l1 hl1] at a4
      obtain ⟨q, -⟩ := dpos a4
      cases hb : b with
      | true => exact ⟨k, hk, e, by rw [show 64 * 0 + k = k by omega, u1k, hb]; decide⟩
      | false =>
        obtain ⟨k', h1, h2, h3, h4⟩ := uex (by omega) hb
        exact ⟨k', h1, (h4 l1 q).trans e, by rw [show 64 * 0 + k' = k' by omega, (u12 k' h2).1]; exact h3⟩
    · obtain ⟨o1, o2, -⟩ := old a1 (rf_pl_lt a3) ho
      rw [o1] at a4
      obtain ⟨k', h1, h2, h3⟩ := hL m l k2 a1 a2 a3 a4
      refine ⟨k', h1, h2, ?_⟩
      rw [(oldk h1 (ho.elim Or.inl (fun q => Or.inr (fun e5 => q l a2 (by rw [← e5]; exact h2))))).1]
      exact h3
  · -- P
    rcases rf_split k m p with ⟨rfl, l, hl, rfl⟩ | ho
    · rw [hon l hl] at a5 a6
      obtain ⟨q, qe⟩ := dpos a5
      rcases rf_split k m' p' with ⟨rfl, l', hl', rfl⟩ | ho'
      · rw [hon l' hl'] at a6
        obtain ⟨q', qe'⟩ := dpos (l := l') (by rw [← a6]; exact a5)
        rw [cd3 l l' q q' (by rw [← qe, ← qe']; exact a6)]
      · obtain ⟨o1, o2, -⟩ := old a2 a4 ho'
        rw [qe, o1] at a6
        exact absurd a6.symm (o2 l q)
    · obtain ⟨o1, o2, -⟩ := old a1 a3 ho
      rw [o1] at a5 a6
      rcases rf_split k m' p' with ⟨rfl, l', hl', rfl⟩ | ho'
      · rw [hon l' hl'] at a6
        obtain ⟨q', qe'⟩ := dpos (l := l') (by rw [← a6]; exact a5)
        rw [qe'] at a6
        exact absurd a6 (o2 l' q')
      · rw [(old a2 a4 ho').1] at a6
        exact hP m m' p p' a1 a2 a3 a4 a5 a6
  · -- N, not negative
    obtain ⟨x, hx, ex⟩ := hnum m p a1 a2
    rw [ex]; exact nI_pos' (by omega)
  · -- N, equal
    by_cases em : m = m'
    · subst em; exact ⟨fun _ => rfl, fun _ => rfl⟩
    · rcases rf_split k m p with ⟨rfl, l, hl, rfl⟩ | ho
      · rw [hon l hl] at a4 ⊢
        obtain ⟨q, qe⟩ := dpos a4
        obtain ⟨o1, o2, o3⟩ := old a2 a3 (Or.inl (by omega : 0 < m'))
        rw [o1, o3, qe, show 21 * 0 + mo_pl l k = mo_pl l k by omega]
        exact ⟨fun e => absurd e.symm (o2 l q), fun e => absurd e (sep q (by omega) a2)⟩
      · obtain ⟨o1, o2, o3⟩ := old a1 a3 ho
        rw [o1] at a4
        rw [o1, o3]
        rcases rf_split k m' p with ⟨rfl, l, hl, rfl⟩ | ho'
        · rw [hon l hl, show 21 * 0 + mo_pl l k = mo_pl l k by omega]
          by_cases q : l < L
          · rw [dlt q]
            exact ⟨fun e => absurd e (o2 l q), fun e => absurd e.symm (sep q (by omega) a1)⟩
          · rw [dge q, u3z l hl (by omega)]
            exact n1 m _ a1 a3
        · rw [(old a2 a3 ho').1, (old a2 a3 ho').2.2]
          exact n3 m m' p a1 a2 a3 a4
  · -- G
    obtain ⟨ma2, mk2, e1, e2, e3, e4, e5⟩ := hG
    have hle : ma2 = ma := (nI_eq (a := ma2) (b := ma) (by omega) (by omega)).mp (e1.symm.trans g1)
    exact ⟨ma', mk2, g1', (u4 2 (by decide) (by decide)).trans e2, by omega, g3, hnum⟩
  · -- R, the current map
    rcases rf_split k 0 p with ⟨-, l, hl, rfl⟩ | ho
    · rw [hon l hl] at a2 ⊢
      obtain ⟨q, qe⟩ := dpos a2
      rw [qe, u4 2 (by decide) (by decide)]
      refine ⟨fun _ => ?_, fun _ => (cl l q).2.2⟩
      rcases g4 l q with ⟨f1, f2, f3⟩ | ⟨x, hx1, hx2, ex⟩
      · rw [f3]; exact (hR.1 (mo_pl l k) a1 f2).mp f1
      · obtain ⟨ma2, mk2, e1, e2, e3, e4, e5⟩ := hG
        have hle : ma2 = ma := (nI_eq (a := ma2) (b := ma) (by omega) (by omega)).mp (e1.symm.trans g1)
        rw [ex, e2]; exact nI_lt (by omega) (by omega)
    · obtain ⟨o1, o2, o3⟩ := old (m := 0) (by omega) a1 ho
      rw [show 21 * 0 + p = p by omega] at o3
      rw [o1] at a2 ⊢
      rw [(cx _ o2).2.2, o3, u4 2 (by decide) (by decide)]
      exact hR.1 p a1 a2
  · -- R, the others
    obtain ⟨o1, o2, o3⟩ := old a1 a2 (Or.inl a0)
    rw [o1] at a3 ⊢
    rw [(cx _ o2).2.2, o3, u4 2 (by decide) (by decide)]
    exact hR.2 m p a0 a1 a2 a3
  · -- the single numbers
    obtain ⟨s1, s2, s3, s4, s5⟩ := hS
    refine ⟨?_, ?_, ?_, ?_, ?_⟩
    · rw [c5, u4 5 (by decide) (by decide)]; exact s1
    · rw [c5]; exact s2
    · rw [c5, u4 3 (by decide) (by decide)]; exact s3
    · rw [c5, u4 4 (by decide) (by decide)]; exact s4
    · rw [c5]; exact s5
end
