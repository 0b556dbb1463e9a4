/-! two new objects -/
theorem rf_I0 {M U : me_M} (m0 : ∀ j, j < 61 → M 0 j = 0) (m1 : ∀ j, j < 61 → M 1 j = 0) (m6 : ∀ t, t < 4 → M 6 t = 0) (m30 : M 3 0 = 0) (m3 : ∀ h, 0 < h → h < 7 → M 3 h = -1) (m40 : M 4 0 = 0) (m4 : ∀ h, 0 < h → h < 7 → M 4 h = -1)
    (m50 : M 5 0 = 0) (m51 : M 5 1 = 0) (m52 : M 5 2 = -1) (u00 : U 0 0 = 1) (u07 : U 0 7 = 1) (u0 : ∀ m, m < 14 → m ≠ 0 → m ≠ 7 → U 0 m = 0) (u1 : ∀ j, j < 896 → U 1 j = 0) (u3 : ∀ j, j < 294 → U 3 j = 0)
    (u41 : U 4 1 = 0) (u42 : U 4 2 = 0) (u43 : U 4 3 = 0) (u44 : U 4 4 = -1) (u45 : U 4 5 = 0) : rf_I M U 0 := by
  have hrv : ∀ m, m < 14 → rf_rv M m = if m = 0 ∨ m = 7 then 0 else -1 := by
    intro m hm
    unfold rf_rv
    by_cases e : m < 7
    · rw [if_pos e]
      by_cases e0 : m = 0
      · rw [if_pos (Or.inl e0), e0]; exact m30
      · rw [if_neg (by omega)]; exact m3 m (by omega) e
    · rw [if_neg e]
      by_cases e7 : m = 7
      · rw [if_pos (Or.inr e7), e7]; exact m40
      · rw [if_neg (by omega)]; exact m4 (m - 7) (by omega) (by omega)
  have hrn : ∀ m, m < 14 → rf_rn M m = 0 := by
    intro m hm
    unfold rf_rn
    rw [hrv m hm]
    split
    · rfl
    · exact rf_m1
  have hZ : rf_Z M := ⟨m6, m0 0 (by omega), m1 0 (by omega)⟩
  have hnd : ∀ m p, m < 14 → p < 21 → rf_nd M m p = 0 := by
    intro m p hm hp
    have e0 : rf_nd M m 0 = 0 := hrn m hm
    have e1 : ∀ t, t < 4 → rf_nd M m (1 + t) = 0 := fun t ht => by rw [rf_nd_1 M m ht, e0]; exact rf_ch0 hZ ht
    exact rf_places (P := fun p => rf_nd M m p = 0) e0 e1 (fun s t hs ht => by rw [rf_nd_2 M m hs ht, e1 s hs]; exact rf_ch0 hZ ht) hp
  refine ⟨⟨fun m hm => ?_, u00, u07⟩, fun m hm => ?_, hZ, fun j hj => Or.inl (u1 j hj), ⟨fun m p t a1 a2 a3 => ?_, fun m p t a1 a2 a3 a4 => ?_, fun m k a1 a2 => ?_⟩, fun m k a1 a2 a3 => absurd (u1 _ (by omega)) a3, fun m l k a1 a2 a3 a4 => absurd (hnd m _ a1 (rf_pl_lt a3)) a4,
    fun m m' p p' a1 a2 a3 a4 a5 a6 => absurd (hnd m p a1 a3) a5, ⟨fun m p a1 a2 => ?_, fun m p a1 a2 => ?_, fun m m' p a1 a2 a3 a4 => absurd (hnd m p a1 a3) a4⟩, ⟨0, 0, u41, u42, Nat.le_refl _, Nat.le_refl _, fun m p a1 a2 => ⟨0, Nat.le_refl _, u3 _ (by omega)⟩⟩,
    ⟨fun p a1 a2 => absurd (hnd 0 p (by omega) a1) a2, fun m p a0 a1 a2 a3 => absurd (hnd m p a1 a2) a3⟩, ?_⟩
  · rw [hrv m hm, hrn m hm]
    by_cases e : m = 0 ∨ m = 7
    · rw [if_pos e]
      refine Or.inr ⟨?_, rfl, by omega⟩
      rcases e with e | e
      · rw [e]; exact u00
      · rw [e]; exact u07
    · rw [if_neg e]
      exact Or.inl ⟨u0 m hm (fun z => e (Or.inl z)) (fun z => e (Or.inr z)), rfl⟩
  · rw [hrn m hm]
    have hz : ∀ t, t < 4 → fb_ch M 0 t = 0 := fun t ht => rf_ch0 hZ ht
    refine ⟨by omega, fun t ht => ?_, fun t ht s hs => ?_⟩
    · rw [hz t ht]; exact ⟨hZ.1 t ht, by omega⟩
    · rw [hz t ht, hz s hs]; exact ⟨hZ.1 s hs, by omega⟩
  · rw [hnd m p a1 (by omega), hZ.2.1, b_0, rf_ch0 hZ a3, decide_eq_false (by omega)]
  · rw [hnd m p a1 a2, hZ.2.1, b_0]
  · rw [hnd m _ a1 (by omega), hZ.2.1, b_0, u1 _ (by omega)]; decide
  · rw [hnd m p a1 a2, u3 _ (by omega)]; exact ⟨fun _ => rfl, fun _ => rfl⟩
  · rw [u3 _ (by omega)]; decide
  · exact ⟨m50.trans u45.symm, Or.inl m50, m51.trans u43.symm, m52.trans u44.symm, Or.inl m52⟩
