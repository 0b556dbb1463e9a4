/-! is a key alone below a node of its path: how many levels a path keeps -/
def rf_al (U : me_M) (k l : Nat) : Prop := ∀ k', k' < 64 → k' ≠ k → mo_pl l k' = mo_pl l k → U 1 k' = 0
section
variable {M U : me_M} {N k : Nat}
theorem rf_al_up {l : Nat} (hl : l < 2) (h : rf_al U k l) : rf_al U k (l + 1) := by
  intro k' h1 h2 h3
  refine h k' h1 h2 ?_
  match l, hl with
  | 0, _ => rfl
  | 1, _ => rw [rf_pl2, rf_pl2] at h3; rw [rf_pl1, rf_pl1]; omega
/-- a bound key has its whole path -/
theorem rf_bound (hI : rf_I M U N) {m : Nat} (hm : m < 14) (hk : k < 64) (hb : U 1 (64 * m + k) ≠ 0) : rf_nd M m (5 + k / 4) ≠ 0 ∧ rf_nd M m (1 + k / 16) ≠ 0 ∧ rf_nd M m 0 ≠ 0 := by
  obtain ⟨hA, hW, hZ, h01, hO, hV, hL, hP, hN, hG, hR, hS⟩ := hI
  have h2 : rf_nd M m (5 + k / 4) ≠ 0 := by
    intro e
    have h := hO.2.2 m k hm hk
    rw [e, hZ.2.1, b_0, decide_eq_true hb] at h
    cases h
  have h1 : rf_nd M m (1 + k / 16) ≠ 0 := by
    intro e
    apply h2
    rw [show 5 + k / 4 = 5 + (4 * (k / 16) + k / 4 % 4) by omega, rf_nd_2 M m (by omega) (by omega), e]
    exact rf_ch0 hZ (by omega)
  refine ⟨h2, h1, fun e => h1 ?_⟩
  rw [rf_nd_1 M m (by omega), e]
  exact rf_ch0 hZ (by omega)
theorem rf_unb (hI : rf_I M U N) (hk : k < 64) (h : rf_nd M 0 (5 + k / 4) = 0) : U 1 k = 0 := by
  apply Classical.byContradiction
  intro hb
  exact (rf_bound hI (m := 0) (by omega) hk (by rw [show 64 * 0 + k = k by omega]; exact hb)).1 h
theorem rf_al2 (hI : rf_I M U N) (hk : k < 64) (hb : U 1 k ≠ 0) : (∀ j, j < 32 → bt (M 0 (rf_n M k 2)) j = decide (j = fb_tn k 2)) ↔ rf_al U k 2 := by
  obtain ⟨hA, hW, hZ, h01, hO, hV, hL, hP, hN, hG, hR, hS⟩ := id hI
  have hbit : ∀ k', k' < 64 → k' / 4 = k / 4 → bt (M 0 (rf_n M k 2)) (k' % 4) = decide (U 1 k' ≠ 0) := by
    intro k' h1 h2
    have h := hO.2.2 0 k' (by omega) h1
    rw [show 64 * 0 + k' = k' by omega, h2] at h
    exact h
  rw [rf_tn2]
  constructor
  · intro h k' h1 h2 h3
    rw [rf_pl2, rf_pl2] at h3
    have h4 := hbit k' h1 (by omega)
    rw [h _ (by omega), decide_eq_false (by omega)] at h4
    exact Classical.not_not.mp (of_decide_eq_false h4.symm)
  · intro h j hj
    by_cases h4 : j < 4
    · have e := hbit (4 * (k / 4) + j) (by omega) (by omega)
      rw [show (4 * (k / 4) + j) % 4 = j by omega] at e
      rw [e]
      by_cases ej : j = k % 4
      · rw [decide_eq_true ej, show 4 * (k / 4) + j = k by omega]
        exact decide_eq_true hb
      · rw [decide_eq_false ej, h (4 * (k / 4) + j) (by omega) (by omega) (by rw [rf_pl2, rf_pl2]; omega)]
        decide
    · rw [decide_eq_false (by omega)]
      exact hO.2.1 0 (mo_pl 2 k) j (by omega) (rf_pl_lt hk) (by omega) hj
theorem rf_al1 (hI : rf_I M U N) (hk : k < 64) (hb : U 1 k ≠ 0) (h2 : rf_al U k 2) : (∀ j, j < 32 → bt (M 0 (rf_n M k 1)) j = decide (j = fb_tn k 1)) ↔ rf_al U k 1 := by
  obtain ⟨hA, hW, hZ, h01, hO, hV, hL, hP, hN, hG, hR, hS⟩ := id hI
  have hbit : ∀ j, j < 4 → bt (M 0 (rf_n M k 1)) j = decide (rf_nd M 0 (5 + (4 * (k / 16) + j)) ≠ 0) := by
    intro j hj
    have h := hO.1 0 (1 + k / 16) j (by omega) (by omega) hj
    rw [← rf_nd_2 M 0 (by omega) hj] at h
    exact h
  rw [rf_tn1]
  constructor
  · intro h k' h1 h3 h4
    rw [rf_pl1, rf_pl1] at h4
    by_cases e : k' / 4 = k / 4
    · exact h2 k' h1 h3 (by rw [rf_pl2, rf_pl2, e])
    · have h5 := hbit (k' / 4 % 4) (by omega)
      rw [h _ (by omega), decide_eq_false (by omega), show 5 + (4 * (k / 16) + k' / 4 % 4) = 5 + k' / 4 by omega] at h5
      exact rf_unb hI h1 (Classical.not_not.mp (of_decide_eq_false h5.symm))
  · intro h j hj
    by_cases h4 : j < 4
    · rw [hbit j h4]
      by_cases ej : j = k / 4 % 4
      · rw [decide_eq_true ej, show 5 + (4 * (k / 16) + j) = 5 + k / 4 by omega]
        exact decide_eq_true (rf_bound hI (m := 0) (by omega) hk (by rw [show 64 * 0 + k = k by omega]; exact hb)).1
      · rw [decide_eq_false ej]
        refine decide_eq_false (fun hz => ?_)
        have e9 : mo_pl 2 (4 * (4 * (k / 16) + j)) = 5 + (4 * (k / 16) + j) := by rw [rf_pl2]; omega
        obtain ⟨k', q1, q2, q3⟩ := hL 0 2 (4 * (4 * (k / 16) + j)) (by omega) (by omega) (by omega) (by rw [e9]; exact hz)
        rw [show 64 * 0 + k' = k' by omega] at q3
        rw [rf_pl2, rf_pl2] at q2
        exact q3 (h k' q1 (by omega) (by rw [rf_pl1, rf_pl1]; omega))
    · rw [decide_eq_false (by omega)]
      exact hO.2.1 0 (mo_pl 1 k) j (by omega) (rf_pl_lt hk) (by omega) hj
theorem rf_al0 (hI : rf_I M U N) (hk : k < 64) (hb : U 1 k ≠ 0) (h2 : rf_al U k 1) : (∀ j, j < 32 → bt (M 0 (rf_n M k 0)) j = decide (j = fb_tn k 0)) ↔ rf_al U k 0 := by
  obtain ⟨hA, hW, hZ, h01, hO, hV, hL, hP, hN, hG, hR, hS⟩ := id hI
  have hbit : ∀ j, j < 4 → bt (M 0 (rf_n M k 0)) j = decide (rf_nd M 0 (1 + j) ≠ 0) := by
    intro j hj
    have h := hO.1 0 0 j (by omega) (by omega) hj
    rw [← rf_nd_1 M 0 hj] at h
    exact h
  rw [rf_tn0 hk]
  constructor
  · intro h k' h1 h3 h4
    by_cases e : k' / 16 = k / 16
    · exact h2 k' h1 h3 (by rw [rf_pl1, rf_pl1, e])
    · have h5 := hbit (k' / 16) (by omega)
      rw [h _ (by omega), decide_eq_false (by omega)] at h5
      apply Classical.byContradiction
      intro hb'
      exact (rf_bound hI (m := 0) (by omega) h1 (by rw [show 64 * 0 + k' = k' by omega]; exact hb')).2.1 (Classical.not_not.mp (of_decide_eq_false h5.symm))
  · intro h j hj
    by_cases h4 : j < 4
    · rw [hbit j h4]
      by_cases ej : j = k / 16
      · rw [decide_eq_true ej, ej]
        exact decide_eq_true (rf_bound hI (m := 0) (by omega) hk (by rw [show 64 * 0 + k = k by omega]; exact hb)).2.1
      · rw [decide_eq_false ej]
        refine decide_eq_false (fun hz => ?_)
        have e9 : mo_pl 1 (16 * j) = 1 + j := by rw [rf_pl1]; omega
        obtain ⟨k', q1, q2, q3⟩ := hL 0 1 (16 * j) (by omega) (by omega) (by omega) (by rw [e9]; exact hz)
        rw [show 64 * 0 + k' = k' by omega] at q3
        rw [rf_pl1, rf_pl1] at q2
        exact q3 (h k' q1 (by omega) rfl)
    · rw [decide_eq_false (by omega)]
      exact hO.2.1 0 (mo_pl 0 k) j (by omega) (rf_pl_lt hk) (by omega) hj
theorem rf_hne (hk : k < 64) {l : Nat} (hl : l < 3) : fb_hne M (rf_rn M 0) k l = true ↔ ∀ j, j < 32 → bt (M 0 (rf_n M k l)) j = decide (j = fb_tn k l) := by
  unfold fb_hne
  rw [decide_eq_true_iff, rf_na M _ hk hl, rf_alone]
  rfl
theorem rf_lw (hI : rf_I M U N) (hk : k < 64) (hb : U 1 k ≠ 0) : fb_lw M (rf_rn M 0) k 3 ≤ 3 ∧ (∀ l, l < 3 → (l < fb_lw M (rf_rn M 0) k 3 ↔ ¬ rf_al U k l)) ∧ (∀ i, i < 3 → fb_lw M (rf_rn M 0) k 3 ≤ i → ∀ j, j < 32 → bt (M 0 (rf_n M k i)) j = decide (j = fb_tn k i)) := by
  have a2 := (rf_hne (M := M) hk (l := 2) (by omega)).trans (rf_al2 hI hk hb)
  have s0 : ∀ {l : Nat}, rf_al U k l → l < 3 → rf_al U k 2 := by
    intro l h hl
    match l, hl with
    | 0, _ => exact rf_al_up (by omega) (rf_al_up (by omega) h)
    | 1, _ => exact rf_al_up (by omega) h
    | 2, _ => exact h
  by_cases h2 : rf_al U k 2
  · have a1 := (rf_hne (M := M) hk (l := 1) (by omega)).trans (rf_al1 hI hk hb h2)
    by_cases h1 : rf_al U k 1
    · have a0 := (rf_hne (M := M) hk (l := 0) (by omega)).trans (rf_al0 hI hk hb h1)
      by_cases h0 : rf_al U k 0
      · have e : fb_lw M (rf_rn M 0) k 3 = 0 := by
          show (if fb_hne M (rf_rn M 0) k 2 then (if fb_hne M (rf_rn M 0) k 1 then (if fb_hne M (rf_rn M 0) k 0 then 0 else 0 + 1) else 1 + 1) else 2 + 1) = 0
          rw [if_pos (a2.mpr h2), if_pos (a1.mpr h1), if_pos (a0.mpr h0)]
        rw [e]
        refine ⟨by omega, fun l hl => ⟨fun z => by omega, fun z => ?_⟩, fun i hi _ => ?_⟩
        · match l, hl with
          | 0, _ => exact absurd h0 z
          | 1, _ => exact absurd h1 z
          | 2, _ => exact absurd h2 z
        · match i, hi with
          | 0, _ => exact (rf_hne hk (by omega)).mp (a0.mpr h0)
          | 1, _ => exact (rf_hne hk (by omega)).mp (a1.mpr h1)
          | 2, _ => exact (rf_hne hk (by omega)).mp (a2.mpr h2)
      · have e : fb_lw M (rf_rn M 0) k 3 = 1 := by
          show (if fb_hne M (rf_rn M 0) k 2 then (if fb_hne M (rf_rn M 0) k 1 then (if fb_hne M (rf_rn M 0) k 0 then 0 else 0 + 1) else 1 + 1) else 2 + 1) = 1
          rw [if_pos (a2.mpr h2), if_pos (a1.mpr h1), if_neg (fun z => h0 (a0.mp z))]
        rw [e]
        refine ⟨by omega, fun l hl => ?_, fun i hi hle => ?_⟩
        · match l, hl with
          | 0, _ => exact ⟨fun _ => h0, fun _ => by omega⟩
          | 1, _ => exact ⟨fun z => by omega, fun z => absurd h1 z⟩
          | 2, _ => exact ⟨fun z => by omega, fun z => absurd h2 z⟩
        · match i, hi with
          | 0, _ => omega
          | 1, _ => exact (rf_hne hk (by omega)).mp (a1.mpr h1)
          | 2, _ => exact (rf_hne hk (by omega)).mp (a2.mpr h2)
    · have e : fb_lw M (rf_rn M 0) k 3 = 2 := by
        show (if fb_hne M (rf_rn M 0) k 2 then (if fb_hne M (rf_rn M 0) k 1 then (if fb_hne M (rf_rn M 0) k 0 then 0 else 0 + 1) else 1 + 1) else 2 + 1) = 2
        rw [if_pos (a2.mpr h2), if_neg (fun z => h1 (a1.mp z))]
      have h0 : ¬ rf_al U k 0 := fun z => h1 (rf_al_up (by omega) z)
      rw [e]
      refine ⟨by omega, fun l hl => ?_, fun i hi hle => ?_⟩
      · match l, hl with
        | 0, _ => exact ⟨fun _ => h0, fun _ => by omega⟩
        | 1, _ => exact ⟨fun _ => h1, fun _ => by omega⟩
        | 2, _ => exact ⟨fun z => by omega, fun z => absurd h2 z⟩
      · match i, hi with
        | 0, _ => omega
        | 1, _ => omega
        | 2, _ => exact (rf_hne hk (by omega)).mp (a2.mpr h2)
  · have e : fb_lw M (rf_rn M 0) k 3 = 3 := by
      show (if fb_hne M (rf_rn M 0) k 2 then (if fb_hne M (rf_rn M 0) k 1 then (if fb_hne M (rf_rn M 0) k 0 then 0 else 0 + 1) else 1 + 1) else 2 + 1) = 3
      rw [if_neg (fun z => h2 (a2.mp z))]
    rw [e]
    exact ⟨by omega, fun l hl => ⟨fun _ z => h2 (s0 z hl), fun _ => hl⟩, fun i hi hle => by omega⟩
/-- where it isn't alone above the cut, another key is bound there -/
theorem rf_lw_ex {L : Nat} (hL : L ≤ 3) (h : ∀ l, l < 3 → (l < L ↔ ¬ rf_al U k l)) (h0 : 0 < L) : ∃ k', k' < 64 ∧ k' ≠ k ∧ U 1 k' ≠ 0 ∧ ∀ l, l < L → mo_pl l k' = mo_pl l k := by
  have h1 := (h (L - 1) (by omega)).mp (by omega)
  have h2 : ∃ k', k' < 64 ∧ k' ≠ k ∧ mo_pl (L - 1) k' = mo_pl (L - 1) k ∧ U 1 k' ≠ 0 := by
    apply Classical.byContradiction
    intro hn
    refine h1 fun k' a b e => ?_
    apply Classical.byContradiction
    intro hb
    exact hn ⟨k', a, b, e, hb⟩
  obtain ⟨k', a, b, e, d⟩ := h2
  refine ⟨k', a, b, d, fun l hl => ?_⟩
  match L, l, hL, hl, e with
  | 1, 0, _, _, e => exact e
  | 2, 0, _, _, e => rfl
  | 2, 1, _, _, e => exact e
  | 3, 0, _, _, e => rfl
  | 3, 1, _, _, e =>
    have e : mo_pl 2 k' = mo_pl 2 k := e
    rw [rf_pl2, rf_pl2] at e; rw [rf_pl1, rf_pl1]; omega
  | 3, 2, _, _, e => exact e
/-- the reference's count below a node: 2 or more just where the key isn't alone -/
theorem rf_many {l : Nat} (hl : l < 3) : mo_many l ≤ 64 ∧ 0 < mo_many l ∧ ∀ k k', k < 64 → k' < 64 → (mo_pl l k' = mo_pl l k ↔ k - k % mo_many l ≤ k' ∧ k' < k - k % mo_many l + mo_many l) := by
  match l, hl with
  | 0, _ => exact ⟨by decide, by decide, fun k k' h h' => by rw [rf_pl0, rf_pl0]; show _ ↔ k - k % 64 ≤ k' ∧ k' < k - k % 64 + 64; omega⟩
  | 1, _ => exact ⟨by decide, by decide, fun k k' h h' => by rw [rf_pl1, rf_pl1]; show _ ↔ k - k % 16 ≤ k' ∧ k' < k - k % 16 + 16; omega⟩
  | 2, _ => exact ⟨by decide, by decide, fun k k' h h' => by rw [rf_pl2, rf_pl2]; show _ ↔ k - k % 4 ≤ k' ∧ k' < k - k % 4 + 4; omega⟩
theorem rf_blk {l : Nat} (hl : l < 3) (hk : k < 64) : k - k % mo_many l + mo_many l ≤ 64 := by
  match l, hl with
  | 0, _ => show k - k % 64 + 64 ≤ 64; omega
  | 1, _ => show k - k % 16 + 16 ≤ 64; omega
  | 2, _ => show k - k % 4 + 4 ≤ 64; omega
theorem rf_below_pos (hk : k < 64) (hb : U 1 k ≠ 0) {l : Nat} (hl : l < 3) : 0 < mo_below U l k := by
  obtain ⟨m1, m2, m3⟩ := rf_many hl
  unfold mo_below mo_bi
  have hm := Nat.mod_lt k m2
  have hle := Nat.mod_le k (mo_many l)
  refine rf_cn_pos (i := k % mo_many l) hm ?_
  rw [decide_eq_true_iff, show 64 * 0 + (k - k % mo_many l + k % mo_many l) = k by omega]
  exact hb
theorem rf_below_2 (hk : k < 64) (hb : U 1 k ≠ 0) {l : Nat} (hl : l < 3) : 2 ≤ mo_below U l k ↔ ¬ rf_al U k l := by
  obtain ⟨m1, m2, m3⟩ := rf_many hl
  have hblk := rf_blk hl hk
  have hm := Nat.mod_lt k m2
  have hle := Nat.mod_le k (mo_many l)
  unfold mo_below mo_bi
  have hP0 : decide (U 1 (64 * 0 + (k - k % mo_many l + k % mo_many l)) ≠ 0) = true := by
    rw [decide_eq_true_iff, show 64 * 0 + (k - k % mo_many l + k % mo_many l) = k by omega]; exact hb
  have hup := rf_cn_up (P := fun i => decide (U 1 (64 * 0 + (k - k % mo_many l + i)) ≠ 0) && !decide (i = k % mo_many l)) (Q := fun i => decide (U 1 (64 * 0 + (k - k % mo_many l + i)) ≠ 0)) (a := k % mo_many l) (n := mo_many l) hm (by simp) hP0 (fun i _ hi => by simp [hi])
  rw [hup]
  constructor
  · intro h hal
    have hpos : 0 < me_cn (fun i => decide (U 1 (64 * 0 + (k - k % mo_many l + i)) ≠ 0) && !decide (i = k % mo_many l)) (mo_many l) := by omega
    obtain ⟨i, h1, h2⟩ := rf_cn_ex hpos
    simp only [Bool.and_eq_true, decide_eq_true_iff, Bool.not_eq_true', decide_eq_false_iff_not] at h2
    have hk' : k - k % mo_many l + i < 64 := by omega
    have := hal (k - k % mo_many l + i) hk' (by omega) ((m3 k _ hk hk').mpr ⟨by omega, by omega⟩)
    rw [show 64 * 0 + (k - k % mo_many l + i) = k - k % mo_many l + i by omega] at h2
    exact h2.1 this
  · intro h
    have h2 : ∃ k', k' < 64 ∧ k' ≠ k ∧ mo_pl l k' = mo_pl l k ∧ U 1 k' ≠ 0 := by
      apply Classical.byContradiction
      intro hn
      refine h fun k' a b e => ?_
      apply Classical.byContradiction
      intro hb
      exact hn ⟨k', a, b, e, hb⟩
    obtain ⟨k', a, b, e, d⟩ := h2
    obtain ⟨e1, e2⟩ := (m3 k k' hk a).mp e
    have := rf_cn_pos (P := fun i => decide (U 1 (64 * 0 + (k - k % mo_many l + i)) ≠ 0) && !decide (i = k % mo_many l)) (i := k' - (k - k % mo_many l)) (n := mo_many l) (by omega) (by
      simp only [Bool.and_eq_true, decide_eq_true_iff, Bool.not_eq_true', decide_eq_false_iff_not]
      rw [show 64 * 0 + (k - k % mo_many l + (k' - (k - k % mo_many l))) = k' by omega]
      exact ⟨d, by omega⟩)
    omega
theorem rf_below_le {l : Nat} (hl : l < 3) : mo_below U l k ≤ 64 := Nat.le_trans (me_cn_le _ _) (rf_many hl).1
end
