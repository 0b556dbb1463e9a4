/-! what holds between a FrozenBranches (memory M) and its reference (memory U) between two calls -/
def rf_A (M U : me_M) : Prop := (∀ m, m < 14 → (U 0 m = 0 ∧ rf_rv M m = -1) ∨ (U 0 m = 1 ∧ rf_rv M m = nI (rf_rn M m) ∧ rf_rn M m ≤ 60)) ∧ U 0 0 = 1 ∧ U 0 7 = 1
def rf_Wf (M : me_M) : Prop := ∀ m, m < 14 → fb_wf M (rf_rn M m)
def rf_Z (M : me_M) : Prop := (∀ t, t < 4 → M 6 t = 0) ∧ M 0 0 = 0 ∧ M 1 0 = 0
def rf_01 (U : me_M) : Prop := ∀ j, j < 896 → U 1 j = 0 ∨ U 1 j = 1
def rf_O (M U : me_M) : Prop := (∀ m p t, m < 14 → p < 5 → t < 4 → bt (M 0 (rf_nd M m p)) t = decide (fb_ch M (rf_nd M m p) t ≠ 0)) ∧ (∀ m p t, m < 14 → p < 21 → 4 ≤ t → t < 32 → bt (M 0 (rf_nd M m p)) t = false) ∧ (∀ m k, m < 14 → k < 64 → bt (M 0 (rf_nd M m (5 + k / 4))) (k % 4) = decide (U 1 (64 * m + k) ≠ 0))
def rf_V (M U : me_M) : Prop := ∀ m k, m < 14 → k < 64 → U 1 (64 * m + k) ≠ 0 → M (6 + rf_nd M m (5 + k / 4)) (k % 4) = U 2 (64 * m + k)
def rf_L (M U : me_M) : Prop := ∀ m l k, m < 14 → l < 3 → k < 64 → rf_nd M m (mo_pl l k) ≠ 0 → ∃ k', k' < 64 ∧ mo_pl l k' = mo_pl l k ∧ U 1 (64 * m + k') ≠ 0
def rf_P (M : me_M) : Prop := ∀ m m' p p', m < 14 → m' < 14 → p < 21 → p' < 21 → rf_nd M m p ≠ 0 → rf_nd M m p = rf_nd M m' p' → p = p'
def rf_G (U : me_M) (N : Nat) : Prop := ∃ ma mk, U 4 1 = nI ma ∧ U 4 2 = nI mk ∧ mk ≤ ma ∧ ma ≤ N ∧ ∀ m p, m < 14 → p < 21 → ∃ x, x ≤ ma ∧ U 3 (21 * m + p) = nI x
def rf_R (M U : me_M) : Prop := (∀ p, p < 21 → rf_nd M 0 p ≠ 0 → (M 1 (rf_nd M 0 p) ≠ 0 ↔ U 4 2 < U 3 p)) ∧ ∀ m p, 0 < m → m < 14 → p < 21 → rf_nd M m p ≠ 0 → M 1 (rf_nd M m p) = 0 ∧ U 3 (21 * m + p) ≤ U 4 2
def rf_Sc (M U : me_M) : Prop := M 5 0 = U 4 5 ∧ (M 5 0 = 0 ∨ M 5 0 = 1) ∧ M 5 1 = U 4 3 ∧ M 5 2 = U 4 4 ∧ (M 5 2 = -1 ∨ ∃ x, x ≤ 100 ∧ M 5 2 = nI x)
def rf_I (M U : me_M) (N : Nat) : Prop := rf_A M U ∧ rf_Wf M ∧ rf_Z M ∧ rf_01 U ∧ rf_O M U ∧ rf_V M U ∧ rf_L M U ∧ rf_P M ∧ rf_N M U ∧ rf_G U N ∧ rf_R M U ∧ rf_Sc M U
theorem rf_nd_1 (M : me_M) (m : Nat) {t : Nat} (ht : t < 4) : rf_nd M m (1 + t) = fb_ch M (rf_nd M m 0) t := by
  unfold rf_nd rf_nr
  rw [if_neg (by omega), if_pos (by omega), if_pos rfl, show 1 + t - 1 = t by omega]
theorem rf_nd_2 (M : me_M) (m : Nat) {s t : Nat} (hs : s < 4) (ht : t < 4) : rf_nd M m (5 + (4 * s + t)) = fb_ch M (rf_nd M m (1 + s)) t := by
  rw [rf_nd_1 M m hs]
  unfold rf_nd
  show rf_nr M (rf_rn M m) (5 + (4 * s + t)) = fb_ch M (fb_ch M (rf_rn M m) s) t
  unfold rf_nr
  rw [if_neg (by omega), if_neg (by omega), show (5 + (4 * s + t) - 5) / 4 = s by omega, show (5 + (4 * s + t) - 5) % 4 = t by omega]
theorem rf_pl0 (k : Nat) : mo_pl 0 k = 0 := rfl
theorem rf_pl1 (k : Nat) : mo_pl 1 k = 1 + k / 16 := rfl
theorem rf_pl2 (k : Nat) : mo_pl 2 k = 5 + k / 4 := rfl
theorem rf_tn0 {k : Nat} (hk : k < 64) : fb_tn k 0 = k / 16 := by
  show k / 4 ^ 2 % 4 = k / 16
  rw [show (4 : Nat) ^ 2 = 16 from rfl]; omega
theorem rf_tn1 (k : Nat) : fb_tn k 1 = k / 4 % 4 := rfl
theorem rf_tn2 (k : Nat) : fb_tn k 2 = k % 4 := by
  show k / 4 ^ 0 % 4 = k % 4
  rw [show (4 : Nat) ^ 0 = 1 from rfl, Nat.div_one]
theorem rf_I_J {M U : me_M} {N : Nat} (h : rf_I M U N) : rf_J M := by
  obtain ⟨hA, hW, hZ, h01, hO, hV, hL, hP, hN, hG, hR, hS⟩ := h
  refine ⟨fun m hm p hp => ?_, fun p hp => ?_, hP⟩
  · obtain ⟨w1, w2, w3⟩ := hW m hm
    unfold rf_nr
    split
    · omega
    · split
      · have := (w2 (p - 1) (by omega)).2; omega
      · have := (w3 ((p - 5) / 4) (by omega) ((p - 5) % 4) (by omega)).2; omega
  · have hz : ∀ t, t < 4 → fb_ch M 0 t = 0 := fun t ht => by
      unfold fb_ch
      rw [show M (6 + 0) t = 0 from hZ.1 t ht]
      rfl
    unfold rf_nr
    split
    · rfl
    · split
      · exact hz _ (by omega)
      · rw [hz ((p - 5) / 4) (by omega)]; exact hz _ (by omega)
theorem rf_nd_lt {M U : me_M} {N : Nat} (h : rf_I M U N) {m p : Nat} (hm : m < 14) (hp : p < 21) : rf_nd M m p < 61 := (rf_I_J h).1 m hm p hp
theorem rf_ch0 {M : me_M} (hZ : rf_Z M) {t : Nat} (ht : t < 4) : fb_ch M 0 t = 0 := by
  unfold fb_ch
  rw [show M (6 + 0) t = 0 from hZ.1 t ht]
  rfl
/-- every place is the root, a child of the root, or a child's child -/
theorem rf_places {P : Nat → Prop} (h0 : P 0) (h1 : ∀ t, t < 4 → P (1 + t)) (h2 : ∀ s t, s < 4 → t < 4 → P (5 + (4 * s + t))) {p : Nat} (hp : p < 21) : P p := by
  by_cases e0 : p = 0
  · rw [e0]; exact h0
  · by_cases e1 : p < 5
    · have := h1 (p - 1) (by omega)
      rwa [show 1 + (p - 1) = p by omega] at this
    · have := h2 ((p - 5) / 4) ((p - 5) % 4) (by omega) (by omega)
      rwa [show 5 + (4 * ((p - 5) / 4) + (p - 5) % 4) = p by omega] at this
