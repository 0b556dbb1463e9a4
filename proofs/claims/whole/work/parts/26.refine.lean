/-! each call answers alike on both sides, and what held holds -/
section
variable {M U : me_M} {N : Nat}
/-- exceptions of the class as the law counts them for a call; answers alike; what holds then -/
def rf_E (cd : Nat → Int32) (a : fb_X) (b : Int32 × me_M) (N' : Nat) : Prop := b.2 4 0 = cd a.1 ∧ (a.1 = 0 → a.2.1 = b.1) ∧ rf_I a.2.2 b.2 N'
theorem rf_Ex (cd : Nat → Int32) {M' V : me_M} {x : Nat} {r b : Int32} (hx : x ≠ 0) (c : Int32) (hc : cd x = c) (hI : rf_I M' (me_up V 4 0 c) N) : rf_E cd (x, r, M') (b, me_up V 4 0 c) N := ⟨by show me_up V 4 0 c 4 0 = cd x; rw [me_up_s, hc], fun z => absurd z hx, hI⟩
theorem rf_Er (cd : Nat → Int32) {M' V : me_M} {r b : Int32} (hc : cd 0 = 0) (e : r = b) (hI : rf_I M' (me_up V 4 0 0) N) : rf_E cd (0, r, M') (b, me_up V 4 0 0) N := ⟨by show me_up V 4 0 0 4 0 = cd 0; rw [me_up_s, hc], fun _ => e, hI⟩
def rf_cP : Nat → Int32 := fun x => if x = 1 then 1 else if x = 2 then 2 else if x = 3 then 3 else 0
def rf_cR : Nat → Int32 := fun x => if x = 1 then 1 else if x = 4 then 2 else if x = 3 then 3 else 0
def rf_cG : Nat → Int32 := fun x => if x = 1 then 1 else if x = 2 then 2 else if x = 4 then 3 else 0
def rf_cS : Nat → Int32 := fun x => if x = 1 then 1 else if x = 3 then 2 else 0
theorem rf_isk {k : Int32} (h : fb_isk k = true) : k.toNatClampNeg < 64 ∧ k = nI k.toNatClampNeg := by
  unfold fb_isk at h
  rw [Bool.and_eq_true, decide_eq_true_iff, decide_eq_true_iff] at h
  obtain ⟨j, hj, e⟩ := nI_of2 (M := 63) (n := 63) (by decide) (Int32.not_lt.mpr h.1) (by
    have h1 := h.2
    rw [Int32.lt_iff_toInt_lt] at h1
    rw [Int32.le_iff_toInt_le]
    have e1 : (64 : Int32).toInt = 64 := by decide
    have e2 : (63 : Int32).toInt = 63 := by decide
    rw [e1] at h1; rw [e2]; omega)
  subst e
  rw [nI_clamp (by omega)]
  exact ⟨by omega, rfl⟩
theorem rf_h7 {h : Int32} (h1 : 0 ≤ h) (h2 : h < 7) : h.toNatClampNeg < 7 ∧ h = nI h.toNatClampNeg := by
  obtain ⟨j, hj, e⟩ := nI_of2 (M := 6) (n := 6) (by decide) (Int32.not_lt.mpr h1) (by
    rw [Int32.lt_iff_toInt_lt] at h2
    rw [Int32.le_iff_toInt_le]
    have e1 : (7 : Int32).toInt = 7 := by decide
    have e2 : (6 : Int32).toInt = 6 := by decide
    rw [e1] at h2; rw [e2]; omega)
  subst e
  rw [nI_clamp (by omega)]
  exact ⟨by omega, rfl⟩
theorem rf_rn7 (M : me_M) {h : Nat} (hh : h < 7) : fb_r M h = rf_rn M h := by
  unfold fb_r rf_rn rf_rv; rw [if_pos hh]
theorem rf_m1n (x : Nat) (hx : x < 2 ^ 31) : nI x ≠ -1 := by
  intro e
  have h := congrArg Int32.toInt e
  rw [nI_toInt hx] at h
  have : ((-1 : Int32)).toInt = -1 := by decide
  omega
theorem rf_there (hI : rf_I M U N) {h : Nat} (hh : h < 7) : M 3 h ≠ -1 ↔ U 0 h ≠ 0 := by
  have e : rf_rv M h = M 3 h := if_pos hh
  rcases hI.1.1 h (by omega) with ⟨h1, h2⟩ | ⟨h1, h2, h3⟩
  · rw [← e, h1, h2]; exact ⟨fun z => absurd rfl z, fun z => absurd rfl z⟩
  · rw [← e, h1, h2]; exact ⟨fun _ => by decide, fun _ => rf_m1n _ (by omega)⟩
theorem rf_ism (hI : rf_I M U N) (h : Int32) : fb_ism M h = mo_ism U h := by
  unfold fb_ism mo_ism
  by_cases h1 : 0 ≤ h
  · by_cases h2 : h < 7
    · rw [decide_eq_true h1, decide_eq_true h2, Bool.true_and, Bool.true_and, Bool.true_and, Bool.eq_iff_iff, decide_eq_true_iff, decide_eq_true_iff]
      exact rf_there hI (rf_h7 h1 h2).1
    · rw [decide_eq_false h2, Bool.and_false, Bool.false_and, Bool.false_and]
  · rw [decide_eq_false h1, Bool.false_and, Bool.false_and, Bool.false_and]
theorem rf_ismlt {h : Int32} (hh : fb_ism M h = true) : h.toNatClampNeg < 7 := by
  unfold fb_ism at hh
  rw [Bool.and_eq_true, Bool.and_eq_true, decide_eq_true_iff, decide_eq_true_iff] at hh
  exact (rf_h7 hh.1.1 hh.1.2).1
theorem rf_bd (hI : rf_I M U N) {m k : Nat} (hm : m < 14) (hk : k < 64) : fb_bd M (rf_rn M m) k = decide (U 1 (64 * m + k) ≠ 0) := by
  have h := hI.2.2.2.2.1.2.2 m k hm hk
  unfold fb_bd
  rw [← h, rf_na M _ hk (by omega), Bool.eq_iff_iff, decide_eq_true_iff, rf_and, rf_tn2, rf_pl2]
  exact Iff.rfl
theorem rf_val (hI : rf_I M U N) {m k : Nat} (hm : m < 14) (hk : k < 64) (hb : U 1 (64 * m + k) ≠ 0) : fb_val M (rf_rn M m) k = U 2 (64 * m + k) := by
  have h := hI.2.2.2.2.2.1 m k hm hk hb
  unfold fb_val
  rw [rf_na M _ hk (by omega), rf_tn2, rf_pl2]
  exact h
theorem rf_kp_put {k : Nat} (hk : k < 64) {more : Int32} (hmore : more = if U 1 k ≠ 0 then 0 else 1) : ∀ l, l < 3 → (0 < nI (mo_below U l k) + more ↔ l < 3) := by
  intro l hl
  have hle := rf_below_le (U := U) (k := k) hl
  refine ⟨fun _ => hl, fun _ => ?_⟩
  rw [hmore]
  by_cases hb : U 1 k ≠ 0
  · rw [if_pos hb, Int32.add_zero]
    show nI 0 < _
    exact nI_lt (rf_below_pos hk hb hl) (by omega)
  · rw [if_neg hb, nI_1]
    show nI 0 < _
    exact nI_lt (by omega) (by omega)
theorem rf_kp_rem {k : Nat} (hk : k < 64) (hb : U 1 k ≠ 0) {L : Nat} (hL : ∀ l, l < 3 → (l < L ↔ ¬ rf_al U k l)) : ∀ l, l < 3 → (0 < nI (mo_below U l k) + (-1) ↔ l < L) := by
  intro l hl
  have hle := rf_below_le (U := U) (k := k) hl
  have hpos := rf_below_pos hk hb hl
  rw [sb_m1 hpos, hL l hl, ← rf_below_2 hk hb hl]
  show nI 0 < _ ↔ _
  rw [nI_ltI (by omega) (by omega)]
  omega
theorem rf_ocp (hI : rf_I M U N) (hN9 : N < 2 ^ 31) {k : Nat} (hk : k < 64) {L : Nat} (hL : L ≤ 3) {more : Int32} (hkp : ∀ l, l < 3 → (0 < nI (mo_below U l k) + more ↔ l < L)) :
    (¬ nI (mo_fn U k more) ≤ mo_free U ∧ fb_ocp M k L = (true, me_set M 2 (rf_KR M).2)) ∨
    (nI (mo_fn U k more) ≤ mo_free U ∧ rf_nb (rf_mk (rf_KR M).2) + me_cn (fun j => decide (M 1 (rf_n M k j) = 0)) L ≤ 60 ∧ fb_ocp M k L = (false, me_up (fb_op (me_set M 2 (rf_KR M).2) (rf_rn M 0) k L).2 3 0 (nI (fb_op (me_set M 2 (rf_KR M).2) (rf_rn M 0) k L).1))) := by
  obtain ⟨r1, r2⟩ := rf_room hI hN9 hk hL hkp
  unfold fb_ocp
  rw [rf_mr, rf_rn7 M (by omega)]
  by_cases h : nI (mo_fn U k more) ≤ mo_free U
  · refine Or.inr ⟨h, r2 h, ?_⟩
    rw [if_neg (fun z => r1.mp z h)]
  · refine Or.inl ⟨h, ?_⟩
    rw [if_pos (r1.mpr h)]
theorem rf_r_up (X : me_M) {c : Nat} (hc : c ≤ 60) : fb_r (me_up X 3 0 (nI c)) 0 = c := by
  unfold fb_r; rw [me_up_s, nI_clamp (by omega)]
theorem rp_put2 (hI : rf_I M U N) (hN9 : N + 3 < 2 ^ 31) (h0 : U 4 0 = 0) {k : Nat} (hk : k < 64) (v : Int32) : rf_E rf_cP (fb_put2 M k v) (mo_put2 U k v) (N + 3) := by
  have e64 : 64 * 0 + k = k := by omega
  have hbd := rf_bd hI (m := 0) (by omega) hk
  rw [e64] at hbd
  have hr0 : fb_r M 0 = rf_rn M 0 := rf_rn7 M (by omega)
  unfold fb_put2 mo_put2
  rw [hr0, hbd]
  have hI3 := rf_I_N hI (show N ≤ N + 3 by omega)
  by_cases hs : U 1 k ≠ 0 ∧ U 2 k = v
  · have hv := rf_val hI (m := 0) (by omega) hk (by rw [e64]; exact hs.1)
    rw [e64] at hv
    rw [if_pos hs, if_pos (by rw [decide_eq_true hs.1, hv, decide_eq_true hs.2]; rfl)]
    exact ⟨h0, fun _ => rfl, hI3⟩
  · have hs2 : ¬ (decide (U 1 k ≠ 0) && decide (fb_val M (rf_rn M 0) k = v)) = true := by
      rw [Bool.and_eq_true, decide_eq_true_iff, decide_eq_true_iff]
      rintro ⟨z1, z2⟩
      have hv := rf_val hI (m := 0) (by omega) hk (by rw [e64]; exact z1)
      rw [e64] at hv
      exact hs ⟨z1, by rw [← hv]; exact z2⟩
    rw [if_neg hs, if_neg hs2]
    have hkp := rf_kp_put (U := U) hk rfl
    rcases rf_ocp hI (by omega) hk (Nat.le_refl 3) hkp with ⟨f1, f2⟩ | ⟨f1, f2, f3⟩
    · rw [f2, if_neg f1]
      dsimp only
      rw [if_pos rfl]
      exact rf_Ex _ (by decide) _ rfl (rf_I_c (rf_I_N (rf_I_K hI (by omega) _) (by omega)) (by omega) _)
    · rw [f3, if_pos f1]
      dsimp only
      rw [if_neg Bool.false_ne_true]
      obtain ⟨f4, f5, f6, f7, f8⟩ := rf_freeI hI
      obtain ⟨c, c1, c2⟩ := rf_put_C hI hk f8 v f2
      have hbm : 0 ≤ (if U 1 k ≠ 0 then (0 : Int32) else 1) ↔ true = true := ⟨fun _ => rfl, fun _ => by split <;> decide⟩
      have hU := rf_change (U' := me_up (mo_change U k (if U 1 k ≠ 0 then 0 else 1)) 2 k v) (b := true) (w := v) hI hk (Nat.le_refl 3) hkp hbm (me_up_n _ _ _ (by decide)) (me_up_n _ _ _ (by decide)) (me_up_n _ _ _ (by decide)) (fun j hj => by
          rw [me_up_j _ _ _ hj]
          have hg := hI.2.2.2.2.2.2.2.2.2.1
          obtain ⟨ma, mk, g1, -⟩ := hg
          obtain ⟨-, -, q2, -⟩ := rf_cl (more := if U 1 k ≠ 0 then 0 else 1) hk g1 3 (Nat.le_refl _)
          unfold mo_change
          rw [me_up_n _ _ _ (by decide), q2]) (fun _ => me_up_s _ _ _ _) (fun j _ => by rw [me_up_n _ _ _ (by decide)]) (fun _ z => (by cases z)) hN9
      refine ⟨?_, fun _ => ?_, ?_⟩
      · dsimp only
        rw [me_up_n _ _ _ (by decide)]
        obtain ⟨ma, mk, g1, -⟩ := hI.2.2.2.2.2.2.2.2.2.1
        obtain ⟨-, -, -, q4, -⟩ := rf_cl (more := if U 1 k ≠ 0 then 0 else 1) hk g1 3 (Nat.le_refl _)
        unfold mo_change
        rw [me_up_n _ _ _ (by decide), q4 0 (by decide)]
        exact h0
      · show (if decide (U 1 k ≠ 0) = true then (1 : Int32) else 0) = if U 1 k ≠ 0 then 1 else 0
        by_cases hb : U 1 k ≠ 0
        · rw [if_pos hb, if_pos (decide_eq_true hb)]
        · rw [if_neg hb, if_neg (fun z => hb (of_decide_eq_true z))]
      · show rf_I (fb_bind _ (fb_r _ 0) k v) _ _
        rw [rf_r_up _ c1]
        exact rf_step hI hk c2 hU (by omega) hN9
theorem rp_put (hI : rf_I M U N) (hN9 : N + 3 < 2 ^ 31) (k v : Int32) : rf_E rf_cP (fb_put M k v) (mo_put U k v) (N + 3) := by
  have hI3 := rf_I_N hI (show N ≤ N + 3 by omega)
  have hd : M 5 0 = U 4 5 := hI.2.2.2.2.2.2.2.2.2.2.2.1
  unfold fb_put mo_put
  rw [hd]
  by_cases h1 : U 4 5 ≠ 0
  · rw [if_pos h1, if_pos h1]
    exact rf_Ex _ (by decide) _ rfl (rf_I_c hI3 (by omega) _)
  · rw [if_neg h1, if_neg h1]
    by_cases h2 : fb_isk k = false
    · rw [if_pos h2, if_pos h2]
      exact rf_Ex _ (by decide) _ rfl (rf_I_c hI3 (by omega) _)
    · rw [if_neg h2, if_neg h2]
      exact rp_put2 (rf_I_c hI (by omega) 0) hN9 (me_up_s _ _ _ _) (rf_isk (by simpa using h2)).1 v
end
