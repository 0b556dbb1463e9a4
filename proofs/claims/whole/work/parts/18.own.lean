/-! the path of a key made the current map's own: which nodes it has then -/
theorem rf_tu (M : me_M) (f n : Nat) (hf : 60 ≤ n + f) (h : ∃ a, n ≤ a ∧ a ≤ 60 ∧ M 2 a = 0) : n ≤ fb_tu M f n ∧ fb_tu M f n ≤ 60 ∧ M 2 (fb_tu M f n) = 0 := by
  induction f generalizing n with
  | zero =>
    obtain ⟨a, h1, h2, h3⟩ := h
    have e : a = n := by omega
    subst e
    exact ⟨Nat.le_refl _, h2, h3⟩
  | succ f ih =>
    obtain ⟨a, h1, h2, h3⟩ := h
    unfold fb_tu
    by_cases q : n < 60 ∧ M 2 n ≠ 0
    · rw [if_pos q]
      have hne : a ≠ n := fun e => q.2 (by rw [← e]; exact h3)
      obtain ⟨r1, r2, r3⟩ := ih (n + 1) (by omega) ⟨a, by omega, h2, h3⟩
      exact ⟨by omega, r2, r3⟩
    · rw [if_neg q]
      refine ⟨Nat.le_refl _, by omega, ?_⟩
      by_cases e : M 2 n = 0
      · exact e
      · have : a = n := by
          have : ¬ n < 60 := fun z => q ⟨z, e⟩
          omega
        rw [← this]; exact h3
theorem rf_unm (K : Nat → Int32) (h : rf_nb (rf_mk K) < 60) : ∃ a, 1 ≤ a ∧ a ≤ 60 ∧ K a = 0 := by
  apply Classical.byContradiction
  intro hn
  have hall : ∀ a, 1 ≤ a → a ≤ 60 → rf_mk K a = true := fun a h1 h2 => by
    cases hk : rf_mk K a with
    | true => rfl
    | false =>
      refine absurd ⟨a, h1, h2, ?_⟩ hn
      have : ¬ K a ≠ 0 := by simpa [rf_mk] using hk
      exact Classical.not_not.mp this
  have : ∀ n, n ≤ 60 → n ≤ me_cn (rf_mk K) (n + 1) := by
    intro n
    induction n with
    | zero => intro _; omega
    | succ n ih =>
      intro hn
      have h1 := ih (by omega)
      have h2 := hall (n + 1) (by omega) hn
      show n + 1 ≤ me_cn (rf_mk K) (n + 1) + if rf_mk K (n + 1) = true then 1 else 0
      rw [if_pos h2]
      omega
  have h9 : 60 ≤ me_cn (rf_mk K) 61 := this 60 (Nat.le_refl _)
  unfold rf_nb at h
  omega
theorem rf_own (M : me_M) (n : Nat) (hfree : M 1 n = 0 → rf_nb (rf_mk (M 2)) < 60) :
    (M 1 n ≠ 0 ∧ fb_own M n = (n, M)) ∨
    (M 1 n = 0 ∧ ∃ a, 1 ≤ a ∧ a ≤ 60 ∧ M 2 a = 0 ∧ (fb_own M n).1 = a ∧ (fb_own M n).2 2 = upd (M 2) a 1 ∧ (fb_own M n).2 0 = upd (M 0) a (M 0 n) ∧ (fb_own M n).2 1 = upd (M 1) a 1 ∧
      (∀ t, t < 4 → (fb_own M n).2 (6 + a) t = M (6 + n) t) ∧ (∀ x, x ≠ a → (fb_own M n).2 (6 + x) = M (6 + x)) ∧ (fb_own M n).2 3 = M 3 ∧ (fb_own M n).2 4 = M 4 ∧ (fb_own M n).2 5 = M 5) := by
  by_cases h : M 1 n = 0
  · refine Or.inr ⟨h, fb_tu M 60 1, ?_⟩
    obtain ⟨a1, a2, a3⟩ := rf_tu M 60 1 (by omega) (rf_unm (M 2) (hfree h))
    have e : fb_own M n = (fb_tu M 60 1, me_up (me_up (me_set (me_up M 2 (fb_tu M 60 1) 1) (6 + fb_tu M 60 1) (va_cpy (M (6 + n)) (M (6 + fb_tu M 60 1)) 0 0 4)) 0 (fb_tu M 60 1) (M 0 n)) 1 (fb_tu M 60 1) 1) := by
      unfold fb_own
      rw [if_neg (fun z => z h)]
    rw [e]
    generalize fb_tu M 60 1 = a at a1 a2 a3 ⊢
    refine ⟨a1, a2, a3, rfl, ?_, ?_, ?_, ?_, ?_, ?_, ?_, ?_⟩
    · dsimp only
      rw [me_up_n _ _ _ (by decide), me_up_n _ _ _ (by decide), me_set_n _ _ (by omega), me_up_a]
    · dsimp only
      rw [me_up_n _ _ _ (by decide), me_up_a, me_set_n _ _ (by omega), me_up_n _ _ _ (by decide)]
    · dsimp only
      rw [me_up_a, me_up_n _ _ _ (by decide), me_set_n _ _ (by omega), me_up_n _ _ _ (by decide)]
    · intro t ht
      dsimp only
      rw [me_up_n _ _ _ (by omega), me_up_n _ _ _ (by omega), me_set_s]
      unfold va_cpy
      rw [if_pos (by omega), show 0 + (t - 0) = t by omega]
    · intro x hx
      dsimp only
      rw [me_up_n _ _ _ (by omega), me_up_n _ _ _ (by omega), me_set_n _ _ (by omega), me_up_n _ _ _ (by omega)]
    · dsimp only
      rw [me_up_n _ _ _ (by decide), me_up_n _ _ _ (by decide), me_set_n _ _ (by omega), me_up_n _ _ _ (by decide)]
    · dsimp only
      rw [me_up_n _ _ _ (by decide), me_up_n _ _ _ (by decide), me_set_n _ _ (by omega), me_up_n _ _ _ (by decide)]
    · dsimp only
      rw [me_up_n _ _ _ (by decide), me_up_n _ _ _ (by decide), me_set_n _ _ (by omega), me_up_n _ _ _ (by decide)]
  · refine Or.inl ⟨h, ?_⟩
    unfold fb_own
    rw [if_pos h]
/-- the node of level j on the path of k in the current map -/
def rf_n (M : me_M) (k j : Nat) : Nat := rf_nd M 0 (mo_pl j k)
/-- the path is the current map's own down to level l: nodes c, memory Q; K the marks of all nodes in use -/
def rf_Q (M : me_M) (K : Nat → Int32) (k l : Nat) (c : Nat → Nat) (Q : me_M) : Prop :=
  (∀ j, j ≤ l → (1 ≤ c j ∧ c j ≤ 60) ∧ ((M 1 (rf_n M k j) ≠ 0 ∧ c j = rf_n M k j) ∨ (M 1 (rf_n M k j) = 0 ∧ K (c j) = 0)) ∧ Q 2 (c j) ≠ 0 ∧ Q 1 (c j) ≠ 0) ∧
  (∀ j j', j ≤ l → j' ≤ l → c j = c j' → j = j') ∧
  (∀ x, (∀ j, j ≤ l → x ≠ c j) → (∀ t, t < 4 → Q (6 + x) t = M (6 + x) t) ∧ Q 0 x = M 0 x ∧ Q 1 x = M 1 x) ∧
  (∀ j, j ≤ l → (∀ t, t < 4 → Q (6 + c j) t = if t = fb_tn k j ∧ j < l then nI (c (j + 1)) else M (6 + rf_n M k j) t) ∧ (Q 0 (c j) = if j < l then M 0 (rf_n M k j) ||| fb_bit k j else M 0 (rf_n M k j))) ∧
  (∀ x, K x ≠ 0 → Q 2 x ≠ 0) ∧ rf_nb (rf_mk (Q 2)) = rf_nb (rf_mk K) + me_cn (fun j => decide (M 1 (rf_n M k j) = 0)) (l + 1) ∧ Q 3 = M 3 ∧ Q 4 = M 4 ∧ Q 5 = M 5
section
variable {M U : me_M} {N k l : Nat} {K : Nat → Int32} {c : Nat → Nat} {Q : me_M}
/-- the first node -/
theorem rf_Q0 (hI : rf_I M U N) (hk : k < 64) (hS : rf_S M (fun _ => True) K) (hroom : rf_nb (rf_mk K) + me_cn (fun j => decide (M 1 (rf_n M k j) = 0)) 1 ≤ 60) :
    rf_Q M K k 0 (fun _ => (fb_own (me_set M 2 K) (rf_rn M 0)).1) (fb_own (me_set M 2 K) (rf_rn M 0)).2 := by
  have e0 : rf_n M k 0 = rf_rn M 0 := rfl
  have hlt : rf_rn M 0 < 61 := rf_nd_lt hI (m := 0) (p := 0) (by omega) (by omega)
  have hZ : M 1 0 = 0 := hI.2.2.1.2.2
  have hcn : me_cn (fun j => decide (M 1 (rf_n M k j) = 0)) 1 = if M 1 (rf_rn M 0) = 0 then 1 else 0 := by
    show 0 + (if decide (M 1 (rf_n M k 0) = 0) = true then 1 else 0) = _
    rw [e0, Nat.zero_add]
    by_cases q : M 1 (rf_rn M 0) = 0
    · rw [if_pos q, if_pos (decide_eq_true q)]
    · rw [if_neg q, if_neg (fun z => q (of_decide_eq_true z))]
  have s2 : me_set M 2 K 2 = K := me_set_s _ _ _
  have sn : ∀ {x : Nat}, x ≠ 2 → me_set M 2 K x = M x := fun h => me_set_n _ _ h
  rcases rf_own (me_set M 2 K) (rf_rn M 0) (fun h => by rw [s2]; rw [sn (by decide)] at h; rw [hcn, if_pos h] at hroom; omega) with ⟨h, e⟩ | ⟨h, a, a1, a2, a3, e1, e2, e3, e4, e5, e6, e7, e8, e9⟩
  · rw [sn (by decide)] at h
    have hne : rf_rn M 0 ≠ 0 := fun z => h (by rw [z]; exact hZ)
    have hK : K (rf_rn M 0) ≠ 0 := (hS _ hlt).mpr ⟨hne, 0, 0, by omega, trivial, by omega, rfl⟩
    rw [e]
    refine ⟨fun j hj => ?_, fun j j' h1 h2 _ => by omega, fun x hx => ?_, fun j hj => ?_, fun x hx => ?_, ?_, sn (x := 3) (by decide), sn (x := 4) (by decide), sn (x := 5) (by decide)⟩
    · have ej : j = 0 := by omega
      subst ej
      exact ⟨⟨by show 1 ≤ rf_rn M 0; omega, by show rf_rn M 0 ≤ 60; omega⟩, Or.inl ⟨h, rfl⟩, by show me_set M 2 K 2 (rf_rn M 0) ≠ 0; rw [s2]; exact hK, by show me_set M 2 K 1 (rf_rn M 0) ≠ 0; rw [sn (by decide)]; exact h⟩
    · refine ⟨fun t _ => ?_, ?_, ?_⟩
      · show me_set M 2 K (6 + x) t = _
        rw [sn (by omega)]
      · show me_set M 2 K 0 x = _
        rw [sn (by decide)]
      · show me_set M 2 K 1 x = _
        rw [sn (by decide)]
    · have ej : j = 0 := by omega
      subst ej
      refine ⟨fun t _ => ?_, ?_⟩
      · show me_set M 2 K (6 + rf_rn M 0) t = _
        rw [sn (by omega), if_neg (by omega)]; rfl
      · show me_set M 2 K 0 (rf_rn M 0) = _
        rw [sn (by decide), if_neg (by omega)]; rfl
    · show me_set M 2 K 2 x ≠ 0
      rw [s2]; exact hx
    · show rf_nb (rf_mk (me_set M 2 K 2)) = _
      rw [s2, hcn, if_neg h]; rfl
  · rw [sn (by decide)] at h
    rw [s2] at a3 e2
    rw [sn (by decide)] at e3 e4
    refine ⟨fun j hj => ?_, fun j j' h1 h2 _ => by omega, fun x hx => ?_, fun j hj => ?_, fun x hx => ?_, ?_, e7.trans (sn (by decide)), e8.trans (sn (by decide)), e9.trans (sn (by decide))⟩
    · have ej : j = 0 := by omega
      subst ej
      refine ⟨?_, Or.inr ⟨h, ?_⟩, ?_, ?_⟩
      · show 1 ≤ (fb_own (me_set M 2 K) (rf_rn M 0)).1 ∧ _
        rw [e1]; exact ⟨a1, a2⟩
      · show K (fb_own (me_set M 2 K) (rf_rn M 0)).1 = 0
        rw [e1]; exact a3
      · show (fb_own (me_set M 2 K) (rf_rn M 0)).2 2 (fb_own (me_set M 2 K) (rf_rn M 0)).1 ≠ 0
        rw [e1, e2]; unfold upd; rw [if_pos rfl]; decide
      · show (fb_own (me_set M 2 K) (rf_rn M 0)).2 1 (fb_own (me_set M 2 K) (rf_rn M 0)).1 ≠ 0
        rw [e1, e4]; unfold upd; rw [if_pos rfl]; decide
    · have hxa : x ≠ a := by rw [← e1]; exact hx 0 (by omega)
      refine ⟨fun t _ => ?_, ?_, ?_⟩
      · rw [e6 x hxa, sn (by omega)]
      · rw [e3]; unfold upd; rw [if_neg hxa]
      · rw [e4]; unfold upd; rw [if_neg hxa]
    · have ej : j = 0 := by omega
      subst ej
      refine ⟨fun t ht => ?_, ?_⟩
      · show (fb_own (me_set M 2 K) (rf_rn M 0)).2 (6 + (fb_own (me_set M 2 K) (rf_rn M 0)).1) t = _
        rw [e1, e5 t ht, sn (by omega), if_neg (by omega)]; rfl
      · show (fb_own (me_set M 2 K) (rf_rn M 0)).2 0 (fb_own (me_set M 2 K) (rf_rn M 0)).1 = _
        rw [e1, e3, if_neg (by omega)]; unfold upd; rw [if_pos rfl]; rfl
    · rw [e2]; unfold upd
      split
      · decide
      · exact hx
    · rw [e2, hcn, if_pos h]
      unfold rf_nb
      refine rf_cn_up (a := a) (by omega) (by simp [rf_mk, a3]) (by simp [rf_mk, upd]) (fun i _ hi => by simp [rf_mk, upd, hi])
end
