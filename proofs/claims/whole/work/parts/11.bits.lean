/-! bits (the family 'bt' of kit/laws/BITS.to-paste begins this part) -/
def bt (x : Int32) (i : Nat) : Bool := x.toBitVec.getLsbD i
theorem b_ext {x y : Int32} (h : ∀ i, i < 32 → bt x i = bt y i) : x = y := Int32.toBitVec_inj.mp (BitVec.eq_of_getLsbD_eq (fun i hi => h i hi))
theorem b_or (x y : Int32) (i : Nat) : bt (x ||| y) i = (bt x i || bt y i) := by unfold bt; rw [Int32.toBitVec_or, BitVec.getLsbD_or]
theorem b_and (x y : Int32) (i : Nat) : bt (x &&& y) i = (bt x i && bt y i) := by unfold bt; rw [Int32.toBitVec_and, BitVec.getLsbD_and]
theorem b_xor (x y : Int32) (i : Nat) : bt (x ^^^ y) i = (bt x i ^^ bt y i) := by unfold bt; rw [Int32.toBitVec_xor, BitVec.getLsbD_xor]
theorem b_m1 : ∀ i, i < 32 → bt (-1) i = true := by decide +kernel
theorem b_0 (i : Nat) : bt 0 i = false := BitVec.getLsbD_zero
theorem s_l : ∀ n, n < 32 → ((nI n &&& 31).toBitVec.smod 32).toNat = n := by decide +kernel
theorem b_shl (n : Nat) (hn : n < 32) (x : Int32) {i : Nat} (hi : i < 32) : bt (x <<< (nI n &&& 31)) i = (decide (n ≤ i) && bt x (i - n)) := by
  unfold bt
  rw [Int32.toBitVec_shiftLeft]
  show (x.toBitVec <<< ((nI n &&& 31).toBitVec.smod 32).toNat).getLsbD i = _
  rw [s_l n hn, BitVec.getLsbD_shiftLeft]
  rcases Nat.lt_or_ge i n with h | h
  · simp [h, Nat.not_le.mpr h]
  · simp [hi, h, Nat.not_lt.mpr h]
theorem rf_b1 : ∀ i, i < 32 → bt 1 i = decide (i = 0) := by decide +kernel
theorem rf_bit (k l : Nat) {j : Nat} (hj : j < 32) : bt (fb_bit k l) j = decide (j = fb_tn k l) := by
  unfold fb_bit
  have ht := fb_tn_lt k l
  rw [b_shl _ (by omega) _ hj, rf_b1 _ (by omega)]
  by_cases h : fb_tn k l ≤ j
  · rw [decide_eq_true h, Bool.true_and]
    by_cases e : j = fb_tn k l
    · rw [decide_eq_true e, decide_eq_true (by omega)]
    · rw [decide_eq_false e, decide_eq_false (by omega)]
  · rw [decide_eq_false h, Bool.false_and, decide_eq_false (by omega)]
theorem rf_and (x : Int32) (k l : Nat) : x &&& fb_bit k l ≠ 0 ↔ bt x (fb_tn k l) = true := by
  have ht := fb_tn_lt k l
  constructor
  · intro h
    cases hb : bt x (fb_tn k l) with
    | true => rfl
    | false =>
      exfalso
      apply h
      apply b_ext
      intro j hj
      rw [b_and, rf_bit k l hj, b_0]
      by_cases e : j = fb_tn k l
      · rw [e, hb]; rfl
      · rw [decide_eq_false e, Bool.and_false]
  · intro h e
    have h1 := congrArg (fun z => bt z (fb_tn k l)) e
    simp only [b_and, b_0, h, rf_bit k l (show fb_tn k l < 32 by omega), decide_true, Bool.and_self] at h1
    cases h1
theorem rf_or (x : Int32) (k l : Nat) {j : Nat} (hj : j < 32) : bt (x ||| fb_bit k l) j = (bt x j || decide (j = fb_tn k l)) := by
  rw [b_or, rf_bit k l hj]
theorem rf_off (x : Int32) (k l : Nat) {j : Nat} (hj : j < 32) : bt (x &&& (fb_bit k l ^^^ (-1))) j = (bt x j && !decide (j = fb_tn k l)) := by
  rw [b_and, b_xor, rf_bit k l hj, b_m1 j hj, Bool.xor_true]
theorem rf_alone (x : Int32) (k l : Nat) : x = fb_bit k l ↔ ∀ j, j < 32 → bt x j = decide (j = fb_tn k l) := by
  constructor
  · intro h j hj
    rw [h, rf_bit k l hj]
  · intro h
    exact b_ext fun j hj => by rw [h j hj, rf_bit k l hj]
