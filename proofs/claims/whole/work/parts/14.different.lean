/-! the reference's count of different numbers is the count of nodes -/
noncomputable def rf_B (P : Prop) : Bool := @decide P (Classical.propDecidable P)
theorem rf_B_iff {P : Prop} : rf_B P = true ↔ P := @decide_eq_true_iff P (Classical.propDecidable P)
theorem rf_B_f {P : Prop} : rf_B P = false ↔ ¬ P := @decide_eq_false_iff_not P (Classical.propDecidable P)
/-- the nodes at places below P in the maps lo .. lo + hi - 1, and at place P in the first n of them -/
def rf_se (M : me_M) (lo hi P n i : Nat) : Prop := i ≠ 0 ∧ ∃ m p, m < 14 ∧ p < 21 ∧ rf_nd M m p = i ∧ lo ≤ m ∧ ((p < P ∧ m < lo + hi) ∨ (p = P ∧ m < lo + n))
noncomputable def rf_seb (M : me_M) (lo hi P n : Nat) : Nat → Bool := fun i => rf_B (rf_se M lo hi P n i)
theorem rf_in {U : me_M} {x : Int32} {p lo n : Nat} : mo_in U x p lo n = true ↔ ∃ i, i < n ∧ U 3 (21 * (lo + i) + p) = x := by
  induction n with
  | zero => exact ⟨fun h => (by cases h), fun ⟨i, h, _⟩ => by omega⟩
  | succ n ih =>
    unfold mo_in
    rw [Bool.or_eq_true, ih, decide_eq_true_iff]
    constructor
    · rintro (⟨i, h, e⟩ | e)
      · exact ⟨i, by omega, e⟩
      · exact ⟨n, by omega, e⟩
    · rintro ⟨i, h, e⟩
      by_cases hi : i = n
      · subst hi; exact Or.inr e
      · exact Or.inl ⟨i, by omega, e⟩
theorem rf_pos {x : Int32} (h : 0 ≤ x) : 0 < x ↔ x ≠ 0 := by
  rw [Int32.lt_iff_toInt_lt, Int32.toInt_zero]
  rw [Int32.le_iff_toInt_le, Int32.toInt_zero] at h
  constructor
  · intro h1 h2
    rw [h2, Int32.toInt_zero] at h1
    omega
  · intro h1
    have : x.toInt ≠ 0 := fun e => h1 (Int32.toInt_inj.mp (by rw [e, Int32.toInt_zero]))
    omega
theorem rf_d1 {M U : me_M} (hJ : rf_J M) (hN : rf_N M U) {lo hi P : Nat} (hlo : lo + hi ≤ 14) (hP : P < 21) (n : Nat) (hn : n ≤ hi) : mo_d1 U P lo n + rf_nb (rf_seb M lo hi P 0) = rf_nb (rf_seb M lo hi P n) := by
  obtain ⟨j1, j2, j3⟩ := hJ
  obtain ⟨n1, n2, n3⟩ := hN
  induction n with
  | zero => exact Nat.zero_add _
  | succ n ih =>
    have hm : lo + n < 14 := by omega
    have hsee := rf_see (P := rf_seb M lo hi P n) (Q := rf_seb M lo hi P (n + 1)) (a := rf_nd M (lo + n) P) (j1 _ hm P hP) (fun i hi => by
      unfold rf_seb
      rw [Bool.eq_iff_iff, Bool.or_eq_true, Bool.and_eq_true, rf_B_iff, rf_B_iff, decide_eq_true_iff, decide_eq_true_iff]
      constructor
      · rintro ⟨h0, m, p, a, b, e, c, d | ⟨d1, d2⟩⟩
        · exact Or.inl ⟨h0, m, p, a, b, e, c, Or.inl d⟩
        · by_cases q : m = lo + n
          · subst q; subst d1; exact Or.inr ⟨e.symm, by rw [e]; exact h0⟩
          · exact Or.inl ⟨h0, m, p, a, b, e, c, Or.inr ⟨d1, by omega⟩⟩
      · rintro (⟨h0, m, p, a, b, e, c, d | ⟨d1, d2⟩⟩ | ⟨e, h0⟩)
        · exact ⟨h0, m, p, a, b, e, c, Or.inl d⟩
        · exact ⟨h0, m, p, a, b, e, c, Or.inr ⟨d1, by omega⟩⟩
        · exact ⟨by rw [e]; exact h0, lo + n, P, hm, hP, e.symm, by omega, Or.inr ⟨rfl, by omega⟩⟩)
    rw [hsee, ← ih (by omega)]
    have hcond : (decide (0 < U 3 (21 * (lo + n) + P)) && !mo_in U (U 3 (21 * (lo + n) + P)) P lo n) = true ↔ (rf_nd M (lo + n) P ≠ 0 ∧ rf_seb M lo hi P n (rf_nd M (lo + n) P) = false) := by
      unfold rf_seb
      rw [Bool.and_eq_true, decide_eq_true_iff, rf_pos (n2 _ _ hm hP), Bool.not_eq_true', rf_B_f]
      have e0 : rf_nd M (lo + n) P ≠ 0 ↔ U 3 (21 * (lo + n) + P) ≠ 0 := not_congr (n1 _ _ hm hP)
      rw [← e0]
      refine and_congr_right fun h0 => ?_
      rw [← Bool.not_eq_true, rf_in]
      refine not_congr ⟨?_, ?_⟩
      · rintro ⟨i, hi, e⟩
        refine ⟨h0, lo + i, P, by omega, hP, ?_, by omega, Or.inr ⟨rfl, by omega⟩⟩
        exact ((n3 (lo + n) (lo + i) P hm (by omega) hP h0).mpr e.symm).symm
      · rintro ⟨-, m, p, a, b, e, c, d⟩
        have hp : P = p := j3 (lo + n) m P p hm a hP b h0 e.symm
        subst hp
        rcases d with d | d
        · omega
        · refine ⟨m - lo, by omega, ?_⟩
          rw [show lo + (m - lo) = m by omega]
          exact ((n3 (lo + n) m P hm a hP h0).mp e.symm).symm
    show (me_cn _ n + if _ then 1 else 0) + _ = _
    by_cases hc : rf_nd M (lo + n) P ≠ 0 ∧ rf_seb M lo hi P n (rf_nd M (lo + n) P) = false
    · rw [if_pos hc, if_pos (hcond.mpr hc)]
      show mo_d1 U P lo n + 1 + _ = mo_d1 U P lo n + _ + 1
      omega
    · rw [if_neg hc, if_neg (fun h => hc (hcond.mp h))]
      rfl
theorem rf_df {M U : me_M} (hJ : rf_J M) (hN : rf_N M U) {lo hi : Nat} (hlo : lo + hi ≤ 14) (P : Nat) (hP : P ≤ 21) : mo_df U lo hi P = rf_nb (rf_seb M lo hi P 0) := by
  induction P with
  | zero =>
    show 0 = _
    symm
    unfold rf_nb
    rw [me_cn_congr (Q := fun _ => false) (fun i _ => by
      unfold rf_seb
      rw [rf_B_f]
      rintro ⟨-, m, p, -, -, -, h1, h2⟩
      omega)]
    have : ∀ n, me_cn (fun _ => false) n = 0 := by
      intro n
      induction n with
      | zero => rfl
      | succ n ih => unfold me_cn; rw [ih]; rfl
    exact this 61
  | succ P ih =>
    show mo_df U lo hi P + mo_d1 U P lo hi = _
    rw [ih (by omega), Nat.add_comm, rf_d1 hJ hN hlo (by omega) hi (Nat.le_refl _)]
    unfold rf_nb
    refine me_cn_congr fun i _ => ?_
    unfold rf_seb
    rw [Bool.eq_iff_iff, rf_B_iff, rf_B_iff]
    constructor
    · rintro ⟨h0, m, p, a, b, e, c, d⟩; exact ⟨h0, m, p, a, b, e, c, Or.inl (by omega)⟩
    · rintro ⟨h0, m, p, a, b, e, c, d⟩; exact ⟨h0, m, p, a, b, e, c, by omega⟩
/-- .. and so the number of the marked, where just those maps are marked -/
theorem rf_df_S {M U : me_M} (hJ : rf_J M) (hN : rf_N M U) {lo hi : Nat} (hlo : lo + hi ≤ 14) {S : Nat → Prop} {K : Nat → Int32} (hS : rf_S M S K) (hs : ∀ m, m < 14 → (S m ↔ lo ≤ m ∧ m < lo + hi)) : mo_df U lo hi 21 = rf_nb (rf_mk K) := by
  rw [rf_df hJ hN hlo 21 (Nat.le_refl _)]
  unfold rf_nb
  refine me_cn_congr fun i hi => ?_
  unfold rf_seb rf_mk
  rw [Bool.eq_iff_iff, rf_B_iff, decide_eq_true_iff, hS i hi]
  constructor
  · rintro ⟨h0, m, p, a, b, e, c, d⟩; exact ⟨h0, m, p, a, (hs m a).mpr (by omega), b, e⟩
  · rintro ⟨h0, m, p, a, b, c, e⟩; exact ⟨h0, m, p, a, c, e, ((hs m a).mp b).1, Or.inl ⟨c, ((hs m a).mp b).2⟩⟩
theorem rf_nb60 {M : me_M} {S : Nat → Prop} {K : Nat → Int32} (hS : rf_S M S K) : rf_nb (rf_mk K) ≤ 60 := by
  have h0 : rf_mk K 0 = false := by
    cases h : rf_mk K 0 with
    | false => rfl
    | true => exact absurd rfl ((hS 0 (by omega)).mp (by simpa [rf_mk] using h)).1
  have : ∀ n, me_cn (rf_mk K) (n + 1) ≤ n := by
    intro n
    induction n with
    | zero => unfold me_cn me_cn; rw [h0]; decide
    | succ n ih => unfold me_cn; split <;> omega
  exact this 60
theorem rf_free {M U : me_M} (hJ : rf_J M) (hN : rf_N M U) : mo_df U 0 14 21 = (rf_KD M).1 + (rf_KR M).1 ∧ mo_df U 7 7 21 = (rf_KD M).1 ∧ (rf_KD M).1 + (rf_KR M).1 ≤ 60 := by
  obtain ⟨a1, a2⟩ := rf_KD_ok hJ
  obtain ⟨b1, b2⟩ := rf_KR_ok hJ
  refine ⟨by rw [b1]; exact rf_df_S hJ hN (by omega) b2 (fun m hm => ⟨fun _ => ⟨by omega, by omega⟩, fun _ => trivial⟩), by rw [a1]; exact rf_df_S hJ hN (by omega) a2 (fun m hm => ⟨fun h => ⟨h, by omega⟩, fun h => h.1⟩), by rw [b1]; exact rf_nb60 b2⟩
