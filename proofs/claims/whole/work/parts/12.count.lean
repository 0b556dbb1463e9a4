/-! how many there are of something: marked nodes -/
/-- how many of 0 .. 60 have P -/
def rf_nb (P : Nat → Bool) : Nat := me_cn P 61
theorem rf_cn_up {P Q : Nat → Bool} {a n : Nat} (ha : a < n) (hP : P a = false) (hQ : Q a = true) (ho : ∀ i, i < n → i ≠ a → Q i = P i) : me_cn Q n = me_cn P n + 1 := by
  induction n with
  | zero => omega
  | succ n ih =>
    unfold me_cn
    by_cases e : a = n
    · subst e
      rw [hP, hQ, me_cn_congr (P := Q) (Q := P) (fun i hi => ho i (by omega) (by omega))]
      rfl
    · rw [ih (by omega) (fun i hi h => ho i (by omega) h), ho n (by omega) (fun h => e h.symm)]
      omega
theorem rf_cn_mono {P Q : Nat → Bool} {n : Nat} (h : ∀ i, i < n → P i = true → Q i = true) : me_cn P n ≤ me_cn Q n := by
  induction n with
  | zero => exact Nat.le_refl 0
  | succ n ih =>
    unfold me_cn
    have h1 := ih (fun i hi => h i (by omega))
    have h2 := h n (by omega)
    cases hp : P n with
    | false => simp; omega
    | true => rw [h2 hp]; simp; omega
theorem rf_cn_pos {P : Nat → Bool} {n i : Nat} (hi : i < n) (h : P i = true) : 0 < me_cn P n := by
  induction n with
  | zero => omega
  | succ n ih =>
    unfold me_cn
    by_cases e : i = n
    · subst e; rw [h]; simp
    · have := ih (by omega); omega
theorem rf_cn_ex {P : Nat → Bool} {n : Nat} (h : 0 < me_cn P n) : ∃ i, i < n ∧ P i = true := by
  induction n with
  | zero => exact absurd h (Nat.lt_irrefl 0)
  | succ n ih =>
    unfold me_cn at h
    cases hp : P n with
    | true => exact ⟨n, by omega, hp⟩
    | false =>
      rw [hp] at h
      obtain ⟨i, h1, h2⟩ := ih (by simpa using h)
      exact ⟨i, by omega, h2⟩
/-- one node, seen: new or not -/
theorem rf_see {P Q : Nat → Bool} {a : Nat} (ha : a < 61) (hQ : ∀ i, i < 61 → Q i = (P i || (decide (i = a) && decide (a ≠ 0)))) : rf_nb Q = rf_nb P + if a ≠ 0 ∧ P a = false then 1 else 0 := by
  unfold rf_nb
  by_cases h : a ≠ 0 ∧ P a = false
  · rw [if_pos h]
    refine rf_cn_up ha h.2 (by rw [hQ a ha]; simp [h.1]) (fun i hi hn => by rw [hQ i hi]; simp [hn])
  · rw [if_neg h, Nat.add_zero]
    refine me_cn_congr fun i hi => ?_
    rw [hQ i hi]
    by_cases e : i = a
    · subst e
      by_cases h0 : i = 0
      · simp [h0]
      · have : P i = true := by
          cases hp : P i with
          | true => rfl
          | false => exact absurd ⟨h0, hp⟩ h
        simp [this]
    · simp [e]
