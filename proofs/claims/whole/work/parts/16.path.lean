/-! a path changed in the current map: where the nodes are then -/
section
variable {M M' : me_M} {k L : Nat} {c : Nat → Nat} {b : Bool} {w : Int32}
/-- what a change leaves of the memory of the class: c l the nodes of the path, L levels of it; w at its end; b: is the key bound then -/
def rf_C (M M' : me_M) (k L : Nat) (c : Nat → Nat) (b : Bool) (w : Int32) : Prop :=
  L ≤ 3 ∧ (∀ l, l < L → 1 ≤ c l ∧ c l ≤ 60) ∧ (∀ l, l < L → ∀ m p, 0 < m → m < 14 → p < 21 → c l ≠ rf_nd M m p) ∧ (∀ l, l < L → ∀ p, p < 21 → (∀ l', l' < 3 → mo_pl l' k ≠ p) → c l ≠ rf_nd M 0 p) ∧
  (∀ l l', l < L → l' < L → c l = c l' → l = l') ∧
  (∀ x, (∀ l, l < L → x ≠ c l) → (∀ t, t < 4 → M' (6 + x) t = M (6 + x) t) ∧ M' 0 x = M 0 x ∧ M' 1 x = M 1 x) ∧
  (∀ l, l < L → (∀ t, t < 4 → M' (6 + c l) t = if t = fb_tn k l then (if l + 1 < L then nI (c (l + 1)) else w) else M (6 + rf_nd M 0 (mo_pl l k)) t) ∧ (∀ j, j < 32 → bt (M' 0 (c l)) j = if j = fb_tn k l then (decide (l + 1 < L) || b) else bt (M 0 (rf_nd M 0 (mo_pl l k))) j) ∧ M' 1 (c l) ≠ 0) ∧
  (M' 3 0 = if 0 < L then nI (c 0) else 0) ∧ (∀ j, 0 < j → M' 3 j = M 3 j) ∧ M' 4 = M 4 ∧ M' 5 = M 5 ∧ (L < 3 → w = 0) ∧ (b = true → L = 3) ∧
  (∀ l, l < 3 → L ≤ l → ∀ j, j < 32 → bt (M 0 (rf_nd M 0 (mo_pl l k))) j = decide (j = fb_tn k l))
def rf_d (L : Nat) (c : Nat → Nat) (l : Nat) : Nat := if l < L then c l else 0
theorem rf_C_rv (h : rf_C M M' k L c b w) {m : Nat} (h0 : 0 < m) (hm : m < 14) : rf_rv M' m = rf_rv M m := by
  obtain ⟨hL, hc, hd1, hd2, hd3, hx, hl, hr0, hr, h4, h5, hw, hb, hrem⟩ := h
  unfold rf_rv
  split
  · exact hr m h0
  · rw [h4]
theorem rf_C_0 (h : rf_C M M' k L c b w) : ∀ l, l < L → 0 ≠ c l := fun l hl => by have := (h.2.1 l hl).1; omega
theorem rf_C_Z (hZ : rf_Z M) (h : rf_C M M' k L c b w) : rf_Z M' := by
  have h0 := rf_C_0 h
  obtain ⟨hL, hc, hd1, hd2, hd3, hx, hl, hr0, hr, h4, h5, hw, hb, hrem⟩ := h
  obtain ⟨q1, q2, q3⟩ := hx 0 h0
  exact ⟨fun t ht => (q1 t ht).trans (hZ.1 t ht), q2.trans hZ.2.1, q3.trans hZ.2.2⟩
theorem rf_C_ch (h : rf_C M M' k L c b w) {x : Nat} (hx : ∀ l, l < L → x ≠ c l) {t : Nat} (ht : t < 4) : fb_ch M' x t = fb_ch M x t := by
  unfold fb_ch
  rw [(h.2.2.2.2.2.1 x hx).1 t ht]
theorem rf_C_m (h : rf_C M M' k L c b w) {m p : Nat} (h0 : 0 < m) (hm : m < 14) (hp : p < 21) : rf_nd M' m p = rf_nd M m p := by
  have e0 : rf_nd M' m 0 = rf_nd M m 0 := by
    show rf_rn M' m = rf_rn M m
    unfold rf_rn
    rw [rf_C_rv h h0 hm]
  have e1 : ∀ t, t < 4 → rf_nd M' m (1 + t) = rf_nd M m (1 + t) := fun t ht => by
    rw [rf_nd_1 M' m ht, rf_nd_1 M m ht, e0]
    exact rf_C_ch h (fun l hl e => h.2.2.1 l hl m 0 h0 hm (by omega) e.symm) ht
  refine rf_places (P := fun p => rf_nd M' m p = rf_nd M m p) e0 e1 (fun s t hs ht => ?_) hp
  rw [rf_nd_2 M' m hs ht, rf_nd_2 M m hs ht, e1 s hs]
  exact rf_C_ch h (fun l hl e => h.2.2.1 l hl m (1 + s) h0 hm (by omega) e.symm) ht
theorem rf_C_on (hZ : rf_Z M) (h : rf_C M M' k L c b w) (l : Nat) : fb_ch M' (rf_d L c l) (fb_tn k l) = if l < 2 then rf_d L c (l + 1) else fb_ch M' (rf_d L c l) (fb_tn k l) := by
  split
  case isFalse => rfl
  case isTrue h2 =>
    have hch : ∀ t, t < 4 → fb_ch M' 0 t = 0 := fun t ht => rf_ch0 (rf_C_Z hZ h) ht
    obtain ⟨hL, hc, hd1, hd2, hd3, hx, hl, hr0, hr, h4, h5, hw, hb, hrem⟩ := h
    unfold rf_d
    by_cases q : l < L
    · rw [if_pos q]
      unfold fb_ch
      rw [(hl l q).1 _ (fb_tn_lt k l), if_pos rfl]
      by_cases q1 : l + 1 < L
      · rw [if_pos q1, if_pos q1, nI_clamp (by have := (hc (l + 1) q1).2; omega)]
      · rw [if_neg q1, if_neg q1, hw (by omega)]; rfl
    · rw [if_neg q, if_neg (by omega)]
      exact hch _ (fb_tn_lt k l)
theorem rf_C_off {U : me_M} (hZ : rf_Z M) (hO : rf_O M U) (hk : k < 64) (h : rf_C M M' k L c b w) {l t : Nat} (h2 : l < 2) (ht : t < 4) (hne : t ≠ fb_tn k l) : fb_ch M' (rf_d L c l) t = fb_ch M (rf_nd M 0 (mo_pl l k)) t := by
  have hch : ∀ t, t < 4 → fb_ch M' 0 t = 0 := fun t ht => rf_ch0 (rf_C_Z hZ h) ht
  obtain ⟨hL, hc, hd1, hd2, hd3, hx, hl, hr0, hr, h4, h5, hw, hb, hrem⟩ := h
  unfold rf_d
  by_cases q : l < L
  · rw [if_pos q]
    unfold fb_ch
    rw [(hl l q).1 t ht, if_neg hne]
  · rw [if_neg q, hch t ht]
    have h1 := hrem l (by omega) (by omega) t (by omega)
    have hp : mo_pl l k < 5 := by
      match l, h2 with
      | 0, _ => rw [rf_pl0]; omega
      | 1, _ => rw [rf_pl1]; omega
    rw [hO.1 0 (mo_pl l k) t (by omega) hp ht, decide_eq_false hne, decide_eq_false_iff_not] at h1
    exact (Classical.not_not.mp h1).symm
theorem rf_C_nd0 (h : rf_C M M' k L c b w) : rf_nd M' 0 0 = rf_d L c 0 := by
  obtain ⟨hL, hc, hd1, hd2, hd3, hx, hl, hr0, hr, h4, h5, hw, hb, hrem⟩ := h
  show (rf_rv M' 0).toNatClampNeg = _
  unfold rf_rv rf_d
  rw [if_pos (by omega), hr0]
  by_cases q : 0 < L
  · rw [if_pos q, if_pos q, nI_clamp (by have := (hc 0 q).2; omega)]
  · rw [if_neg q, if_neg q]; rfl
theorem rf_C_nd {U : me_M} (hZ : rf_Z M) (hO : rf_O M U) (hk : k < 64) (h : rf_C M M' k L c b w) : (∀ l, l < 3 → rf_nd M' 0 (mo_pl l k) = rf_d L c l) ∧ ∀ p, p < 21 → (∀ l, l < 3 → mo_pl l k ≠ p) → rf_nd M' 0 p = rf_nd M 0 p := by
  have e0 := rf_C_nd0 h
  have t0 := rf_tn0 hk
  have a1 : rf_nd M' 0 (1 + k / 16) = rf_d L c 1 := by
    rw [rf_nd_1 M' 0 (by omega), e0, ← t0, rf_C_on hZ h 0, if_pos (by omega)]
  have a2 : rf_nd M' 0 (5 + k / 4) = rf_d L c 2 := by
    have e : 5 + k / 4 = 5 + (4 * (k / 16) + k / 4 % 4) := by omega
    rw [e, rf_nd_2 M' 0 (by omega) (by omega), a1, ← rf_tn1 k, rf_C_on hZ h 1, if_pos (by omega)]
  have f1 : ∀ t, t < 4 → t ≠ k / 16 → rf_nd M' 0 (1 + t) = rf_nd M 0 (1 + t) := fun t ht hne => by
    rw [rf_nd_1 M' 0 ht, rf_nd_1 M 0 ht, e0]
    exact rf_C_off hZ hO hk h (l := 0) (by omega) ht (by rw [t0]; exact hne)
  refine ⟨fun l hl => ?_, fun p hp => ?_⟩
  · match l, hl with
    | 0, _ => exact e0
    | 1, _ => exact a1
    | 2, _ => exact a2
  · refine rf_places (P := fun p => (∀ l, l < 3 → mo_pl l k ≠ p) → rf_nd M' 0 p = rf_nd M 0 p) (fun q => absurd rfl (q 0 (by omega))) (fun t ht q => f1 t ht (fun e => q 1 (by omega) (by rw [rf_pl1, e]))) (fun s t hs ht q => ?_) hp
    rw [rf_nd_2 M' 0 hs ht, rf_nd_2 M 0 hs ht]
    by_cases es : s = k / 16
    · have hne : t ≠ fb_tn k 1 := fun e => q 2 (by omega) (by rw [rf_pl2, es, e, rf_tn1]; omega)
      rw [es, a1, rf_C_off hZ hO hk h (l := 1) (by omega) ht hne, rf_pl1]
    · rw [f1 s hs es]
      refine rf_C_ch h (fun l hl e => h.2.2.2.1 l hl (1 + s) (by omega) (fun l' hl' => ?_) e.symm) ht
      match l', hl' with
      | 0, _ => rw [rf_pl0]; omega
      | 1, _ => rw [rf_pl1]; omega
      | 2, _ => rw [rf_pl2]; omega
end
