section
/-! A memory for all numbers of an object: place (a, j). Class: 0 openTurns, 1 fresh, 2 marked, 3 roots, 4 diskRoots, 5 (powerless, writesMade, writesBeforeFailure), 6 + n the ways of node n.
Reference (a memory of its own, U): 0 there, 1 bound, 2 values, 3 numbers, 4 (code, made, mark, writes, failAfter, down). What each method does, as it is written in Java, over that memory. -/
abbrev me_M : Type := Nat → Nat → Int32
def me_set (M : me_M) (a : Nat) (f : Nat → Int32) : me_M := fun x => if x = a then f else M x
def me_up (M : me_M) (a j : Nat) (v : Int32) : me_M := me_set M a (upd (M a) j v)
theorem me_set_s (M : me_M) (a : Nat) (f : Nat → Int32) : me_set M a f a = f := if_pos rfl
theorem me_set_n (M : me_M) {a x : Nat} (f : Nat → Int32) (h : x ≠ a) : me_set M a f x = M x := if_neg h
theorem me_set_i (M : me_M) (a : Nat) : me_set M a (M a) = M := by
  funext x
  unfold me_set
  split
  · rename_i h; rw [h]
  · rfl
theorem me_set_2 (M : me_M) (a : Nat) (f g : Nat → Int32) : me_set (me_set M a f) a g = me_set M a g := by
  funext x
  unfold me_set
  split <;> rfl
theorem me_up_s (M : me_M) (a j : Nat) (v : Int32) : me_up M a j v a j = v := by
  unfold me_up; rw [me_set_s]; unfold upd; exact if_pos rfl
theorem me_up_a (M : me_M) (a j : Nat) (v : Int32) : me_up M a j v a = upd (M a) j v := me_set_s _ _ _
theorem me_up_j (M : me_M) (a : Nat) {j i : Nat} (v : Int32) (h : i ≠ j) : me_up M a j v a i = M a i := by
  unfold me_up; rw [me_set_s]; unfold upd; exact if_neg h
theorem me_up_n (M : me_M) {a x : Nat} (j : Nat) (v : Int32) (h : x ≠ a) : me_up M a j v x = M x := me_set_n M _ h
def me_zero (M : me_M) (a lo hi : Nat) : me_M := me_set M a (fun j => if lo ≤ j ∧ j < hi then 0 else M a j)
/-- how many below n have P -/
def me_cn (P : Nat → Bool) : Nat → Nat
  | 0 => 0
  | n + 1 => me_cn P n + if P n then 1 else 0
theorem me_cn_le (P : Nat → Bool) (n : Nat) : me_cn P n ≤ n := by
  induction n with
  | zero => exact Nat.le_refl 0
  | succ n ih => unfold me_cn; split <;> omega
theorem me_cn_congr {P Q : Nat → Bool} {n : Nat} (h : ∀ i, i < n → P i = Q i) : me_cn P n = me_cn Q n := by
  induction n with
  | zero => rfl
  | succ n ih => unfold me_cn; rw [ih (fun i hi => h i (by omega)), h n (by omega)]
/-! the class -/
def fb_tn (k l : Nat) : Nat := k / 4 ^ (2 - l) % 4
theorem fb_tn_lt (k l : Nat) : fb_tn k l < 4 := Nat.mod_lt _ (by decide)
def fb_bit (k l : Nat) : Int32 := (1 : Int32) <<< (nI (fb_tn k l) &&& 31)
def fb_ch (M : me_M) (n t : Nat) : Nat := (M (6 + n) t).toNatClampNeg
def fb_na (M : me_M) (r k : Nat) : Nat → Nat
  | 0 => r
  | l + 1 => fb_ch M (fb_na M r k l) (fb_tn k l)
def fb_w1 (M : me_M) (n : Nat) : Prop := ∀ t, t < 4 → M (6 + n) t = nI (fb_ch M n t) ∧ fb_ch M n t ≤ 60
def fb_wf (M : me_M) (r : Nat) : Prop := r ≤ 60 ∧ fb_w1 M r ∧ ∀ t, t < 4 → fb_w1 M (fb_ch M r t)
def fb_bd (M : me_M) (r k : Nat) : Bool := decide (M 0 (fb_na M r k 2) &&& fb_bit k 2 ≠ 0)
def fb_val (M : me_M) (r k : Nat) : Int32 := M (6 + fb_na M r k 2) (fb_tn k 2)
def fb_hne (M : me_M) (r k l : Nat) : Bool := decide (M 0 (fb_na M r k l) = fb_bit k l)
def fb_lw (M : me_M) (r k : Nat) : Nat → Nat
  | 0 => 0
  | l + 1 => if fb_hne M r k l then fb_lw M r k l else l + 1
def fb_ntm (M : me_M) (r k L : Nat) : Nat := me_cn (fun l => decide (M 1 (fb_na M r k l) = 0)) L
def fb_tu (M : me_M) : Nat → Nat → Nat
  | 0, n => n
  | f + 1, n => if n < 60 ∧ M 2 n ≠ 0 then fb_tu M f (n + 1) else n
def fb_own (M : me_M) (n : Nat) : Nat × me_M := if M 1 n ≠ 0 then (n, M) else
  (fb_tu M 60 1, me_up (me_up (me_set (me_up M 2 (fb_tu M 60 1) 1) (6 + fb_tu M 60 1) (va_cpy (M (6 + n)) (M (6 + fb_tu M 60 1)) 0 0 4)) 0 (fb_tu M 60 1) (M 0 n)) 1 (fb_tu M 60 1) 1)
def fb_open (M : me_M) (n k l : Nat) (w : Int32) : me_M := me_up (me_up M (6 + n) (fb_tn k l) w) 0 n (M 0 n ||| fb_bit k l)
def fb_opl (k : Nat) (st : Nat × me_M) : Nat → Nat × me_M
  | 0 => st
  | i + 1 => ((fb_own (fb_opl k st i).2 (fb_ch (fb_opl k st i).2 (fb_opl k st i).1 (fb_tn k i))).1,
      fb_open (fb_own (fb_opl k st i).2 (fb_ch (fb_opl k st i).2 (fb_opl k st i).1 (fb_tn k i))).2 (fb_opl k st i).1 k i (nI (fb_own (fb_opl k st i).2 (fb_ch (fb_opl k st i).2 (fb_opl k st i).1 (fb_tn k i))).1))
def fb_op (M : me_M) (r k : Nat) : Nat → Nat × me_M
  | 0 => (0, M)
  | L + 1 => ((fb_own M r).1, (fb_opl k (fb_own M r) L).2)
def fb_bind (M : me_M) (r k : Nat) (v : Int32) : me_M := fb_open M (fb_na M r k 2) k 2 v
def fb_cut (M : me_M) (r k : Nat) : Nat → me_M
  | 0 => M
  | L + 1 => me_up (me_up M (6 + fb_na M r k L) (fb_tn k L) 0) 0 (fb_na M r k L) (M 0 (fb_na M r k L) &&& (fb_bit k L ^^^ (-1)))
def fb_freeze (M : me_M) : me_M := me_zero M 1 0 61
def fb_unmark (M : me_M) : me_M := me_zero M 2 0 61
def fb_vi (st : Nat × (Nat → Int32)) (n : Nat) : Nat × (Nat → Int32) := if n ≠ 0 ∧ st.2 n = 0 then (st.1 + 1, upd st.2 n 1) else st
def fb_mk1 (M : me_M) (r k : Nat) (st : Nat × (Nat → Int32)) : Nat → Nat × (Nat → Int32)
  | 0 => st
  | l + 1 => fb_vi (fb_mk1 M r k st l) (fb_na M r k l)
def fb_mk2 (M : me_M) (r : Nat) (st : Nat × (Nat → Int32)) : Nat → Nat × (Nat → Int32)
  | 0 => st
  | i + 1 => fb_mk1 M r (4 * i) (fb_mk2 M r st i) 3
def fb_mark (M : me_M) (r : Nat) : Nat × me_M := if r = 0 ∨ M 2 r ≠ 0 then (0, M) else ((fb_mk2 M r (0, M 2) 16).1, me_set M 2 (fb_mk2 M r (0, M 2) 16).2)
/-- the maps of the array a (3: roots, 4: diskRoots), those below h -/
def fb_mm (M : me_M) (a : Nat) : Nat → Nat × me_M
  | 0 => (0, M)
  | h + 1 => if M a h = -1 then fb_mm M a h else ((fb_mm M a h).1 + (fb_mark (fb_mm M a h).2 (M a h).toNatClampNeg).1, (fb_mark (fb_mm M a h).2 (M a h).toNatClampNeg).2)
def fb_md (M : me_M) : Nat × me_M := fb_mm (fb_unmark M) 4 7
def fb_mr (M : me_M) : Nat × me_M := fb_mm (fb_md M).2 3 7
def fb_free (M : me_M) : Int32 := nI 60 - nI (fb_md M).1 - nI (fb_mr M).1
def fb_kb (M : me_M) (r : Nat) : Nat := me_cn (fb_bd M r) 64
def fb_alike (M : me_M) (a b k : Nat) : Bool := if fb_bd M a k && fb_bd M b k then decide (fb_val M a k = fb_val M b k) else fb_bd M a k == fb_bd M b k
/-- the least h from 1 on with M a h = -1, below 7; else 7 -/
def fb_lu (M : me_M) : Nat → Nat → Nat
  | 0, h => h
  | f + 1, h => if h < 7 ∧ M 3 h ≠ -1 then fb_lu M f (h + 1) else h
/-! The reference -/
def mo_copy (U : me_M) (f t : Nat) : me_M := me_set (me_set (me_set (me_up U 0 t (U 0 f)) 1 (va_cpy (U 1) (U 1) (64 * f) (64 * t) 64)) 2 (va_cpy (U 2) (U 2) (64 * f) (64 * t) 64)) 3 (va_cpy (U 3) (U 3) (21 * f) (21 * t) 21)
def mo_empty (U : me_M) (m : Nat) : me_M := me_zero (me_zero (me_up U 0 m 0) 1 (64 * m) (64 * m + 64)) 3 (21 * m) (21 * m + 21)
def mo_bi (U : me_M) (m lo n : Nat) : Nat := me_cn (fun i => decide (U 1 (64 * m + (lo + i)) ≠ 0)) n
/-- number x at place p in one of the n maps from lo on -/
def mo_in (U : me_M) (x : Int32) (p lo : Nat) : Nat → Bool
  | 0 => false
  | n + 1 => mo_in U x p lo n || decide (U 3 (21 * (lo + n) + p) = x)
def mo_d1 (U : me_M) (p lo n : Nat) : Nat := me_cn (fun i => decide (0 < U 3 (21 * (lo + i) + p)) && !mo_in U (U 3 (21 * (lo + i) + p)) p lo i) n
def mo_df (U : me_M) (lo n : Nat) : Nat → Nat
  | 0 => 0
  | p + 1 => mo_df U lo n p + mo_d1 U p lo n
def mo_free (U : me_M) : Int32 := 60 - nI (mo_df U 0 14 21)
def mo_pl (l k : Nat) : Nat := if l = 0 then 0 else if l = 1 then 1 + k / 16 else 5 + k / 4
def mo_many (l : Nat) : Nat := if l = 0 then 64 else if l = 1 then 16 else 4
def mo_below (U : me_M) (l k : Nat) : Nat := mo_bi U 0 (k - k % mo_many l) (mo_many l)
def mo_makes (U : me_M) (l k : Nat) (more : Int32) : Bool := decide (0 < nI (mo_below U l k) + more) && decide (U 3 (mo_pl l k) ≤ U 4 2)
def mo_fn (U : me_M) (k : Nat) (more : Int32) : Nat := me_cn (fun l => mo_makes U l k more) 3
def mo_c1 (U : me_M) (k : Nat) (more : Int32) (l : Nat) : me_M := if mo_makes U l k more then me_up (me_up U 4 1 (U 4 1 + 1)) 3 (mo_pl l k) (U 4 1 + 1) else U
def mo_c2 (U : me_M) (k : Nat) (more : Int32) (l : Nat) : me_M := me_up (mo_c1 U k more l) 3 (mo_pl l k) (if 0 < nI (mo_below U l k) + more then mo_c1 U k more l 3 (mo_pl l k) else 0)
def mo_cl (U : me_M) (k : Nat) (more : Int32) : Nat → me_M
  | 0 => U
  | l + 1 => mo_c2 (mo_cl U k more l) k more l
def mo_change (U : me_M) (k : Nat) (more : Int32) : me_M := me_up (mo_cl U k more 3) 1 k (if 0 ≤ more then 1 else 0)
end
section
/-! bits (the family 'bt' of kit/laws/BITS.to-paste begins this part) -/
def bt (x : Int32) (i : Nat) : Bool := x.toBitVec.getLsbD i
theorem b_ext {x y : Int32} (h : ∀ i, i < 32 → bt x i = bt y i) : x = y := Int32.toBitVec_inj.mp (BitVec.eq_of_getLsbD_eq (fun i hi => h i hi))
theorem b_or (x y : Int32) (i : Nat) : bt (x ||| y) i = (bt x i || bt y i) := by unfold bt; rw [Int32.toBitVec_or, BitVec.getLsbD_or]
theorem b_and (x y : Int32) (i : Nat) : bt (x &&& y) i = (bt x i && bt y i) := by unfold bt; rw [Int32.toBitVec_and, BitVec.getLsbD_and]
theorem b_xor (x y : Int32) (i : Nat) : bt (x ^^^ y) i = (bt x i ^^ bt y i) := by unfold bt; rw [Int32.toBitVec_xor, BitVec.getLsbD_xor]
theorem b_m1 : ∀ i, i < 32 → bt (-1) i = true := by decide +kernel
theorem b_0 (i : Nat) : bt 0 i = false := BitVec.getLsbD_zero
theorem s_l : ∀ n, n < 32 → ((nI n &&& 31).toBitVec.smod 32).toNat = n := by decide +kernel
theorem b_shl (n : Nat) (hn : n < 32) (x : Int32) {i : Nat} (hi : i < 32) : bt (x <<< (nI n &&& 31)) i = (decide (n ≤ i) && bt x (i - n)) := by
  unfold bt
  rw [Int32.toBitVec_shiftLeft]
  show (x.toBitVec <<< ((nI n &&& 31).toBitVec.smod 32).toNat).getLsbD i = _
  rw [s_l n hn, BitVec.getLsbD_shiftLeft]
  rcases Nat.lt_or_ge i n with h | h
  · simp [h, Nat.not_le.mpr h]
  · simp [hi, h, Nat.not_lt.mpr h]
theorem rf_b1 : ∀ i, i < 32 → bt 1 i = decide (i = 0) := by decide +kernel
theorem rf_bit (k l : Nat) {j : Nat} (hj : j < 32) : bt (fb_bit k l) j = decide (j = fb_tn k l) := by
  unfold fb_bit
  have ht := fb_tn_lt k l
  rw [b_shl _ (by omega) _ hj, rf_b1 _ (by omega)]
  by_cases h : fb_tn k l ≤ j
  · rw [decide_eq_true h, Bool.true_and]
    by_cases e : j = fb_tn k l
    · rw [decide_eq_true e, decide_eq_true (by omega)]
    · rw [decide_eq_false e, decide_eq_false (by omega)]
  · rw [decide_eq_false h, Bool.false_and, decide_eq_false (by omega)]
theorem rf_and (x : Int32) (k l : Nat) : x &&& fb_bit k l ≠ 0 ↔ bt x (fb_tn k l) = true := by
  have ht := fb_tn_lt k l
  constructor
  · intro h
    cases hb : bt x (fb_tn k l) with
    | true => rfl
    | false =>
      exfalso
      apply h
      apply b_ext
      intro j hj
      rw [b_and, rf_bit k l hj, b_0]
      by_cases e : j = fb_tn k l
      · rw [e, hb]; rfl
      · rw [decide_eq_false e, Bool.and_false]
  · intro h e
    have h1 := congrArg (fun z => bt z (fb_tn k l)) e
    simp only [b_and, b_0, h, rf_bit k l (show fb_tn k l < 32 by omega), decide_true, Bool.and_self] at h1
    cases h1
theorem rf_or (x : Int32) (k l : Nat) {j : Nat} (hj : j < 32) : bt (x ||| fb_bit k l) j = (bt x j || decide (j = fb_tn k l)) := by
  rw [b_or, rf_bit k l hj]
theorem rf_off (x : Int32) (k l : Nat) {j : Nat} (hj : j < 32) : bt (x &&& (fb_bit k l ^^^ (-1))) j = (bt x j && !decide (j = fb_tn k l)) := by
  rw [b_and, b_xor, rf_bit k l hj, b_m1 j hj, Bool.xor_true]
theorem rf_alone (x : Int32) (k l : Nat) : x = fb_bit k l ↔ ∀ j, j < 32 → bt x j = decide (j = fb_tn k l) := by
  constructor
  · intro h j hj
    rw [h, rf_bit k l hj]
  · intro h
    exact b_ext fun j hj => by rw [h j hj, rf_bit k l hj]
end
section
/-! how many there are of something: marked nodes -/
/-- how many of 0 .. 60 have P -/
def rf_nb (P : Nat → Bool) : Nat := me_cn P 61
theorem rf_cn_up {P Q : Nat → Bool} {a n : Nat} (ha : a < n) (hP : P a = false) (hQ : Q a = true) (ho : ∀ i, i < n → i ≠ a → Q i = P i) : me_cn Q n = me_cn P n + 1 := by
  induction n with
  | zero => omega
  | succ n ih =>
    unfold me_cn
    by_cases e : a = n
    · subst e
      rw [hP, hQ, me_cn_congr (P := Q) (Q := P) (fun i hi => ho i (by omega) (by omega))]
      rfl
    · rw [ih (by omega) (fun i hi h => ho i (by omega) h), ho n (by omega) (fun h => e h.symm)]
      omega
theorem rf_cn_mono {P Q : Nat → Bool} {n : Nat} (h : ∀ i, i < n → P i = true → Q i = true) : me_cn P n ≤ me_cn Q n := by
  induction n with
  | zero => exact Nat.le_refl 0
  | succ n ih =>
    unfold me_cn
    have h1 := ih (fun i hi => h i (by omega))
    have h2 := h n (by omega)
    cases hp : P n with
    | false => simp; omega
    | true => rw [h2 hp]; simp; omega
theorem rf_cn_pos {P : Nat → Bool} {n i : Nat} (hi : i < n) (h : P i = true) : 0 < me_cn P n := by
  induction n with
  | zero => omega
  | succ n ih =>
    unfold me_cn
    by_cases e : i = n
    · subst e; rw [h]; simp
    · have := ih (by omega); omega
theorem rf_cn_ex {P : Nat → Bool} {n : Nat} (h : 0 < me_cn P n) : ∃ i, i < n ∧ P i = true := by
  induction n with
  | zero => exact absurd h (Nat.lt_irrefl 0)
  | succ n ih =>
    unfold me_cn at h
    cases hp : P n with
    | true => exact ⟨n, by omega, hp⟩
    | false =>
      rw [hp] at h
      obtain ⟨i, h1, h2⟩ := ih (by simpa using h)
      exact ⟨i, by omega, h2⟩
/-- one node, seen: new or not -/
theorem rf_see {P Q : Nat → Bool} {a : Nat} (ha : a < 61) (hQ : ∀ i, i < 61 → Q i = (P i || (decide (i = a) && decide (a ≠ 0)))) : rf_nb Q = rf_nb P + if a ≠ 0 ∧ P a = false then 1 else 0 := by
  unfold rf_nb
  by_cases h : a ≠ 0 ∧ P a = false
  · rw [if_pos h]
    refine rf_cn_up ha h.2 (by rw [hQ a ha]; simp [h.1]) (fun i hi hn => by rw [hQ i hi]; simp [hn])
  · rw [if_neg h, Nat.add_zero]
    refine me_cn_congr fun i hi => ?_
    rw [hQ i hi]
    by_cases e : i = a
    · subst e
      by_cases h0 : i = 0
      · simp [h0]
      · have : P i = true := by
          cases hp : P i with
          | true => rfl
          | false => exact absurd ⟨h0, hp⟩ h
        simp [this]
    · simp [e]
end
section
/-! marking: which nodes, and how many of them are new -/
/-- the node at place p of the map with root r -/
def rf_nr (M : me_M) (r p : Nat) : Nat := if p = 0 then r else if p < 5 then fb_ch M r (p - 1) else fb_ch M (fb_ch M r ((p - 5) / 4)) ((p - 5) % 4)
theorem rf_na (M : me_M) (r : Nat) {k l : Nat} (hk : k < 64) (hl : l < 3) : fb_na M r k l = rf_nr M r (mo_pl l k) := by
  have h16 : k / 16 % 4 = k / 16 := Nat.mod_eq_of_lt (by omega)
  match l, hl with
  | 0, _ => rfl
  | 1, _ =>
    show fb_ch M r (k / 4 ^ 2 % 4) = rf_nr M r (1 + k / 16)
    unfold rf_nr
    rw [if_neg (by omega), if_pos (by omega), show 1 + k / 16 - 1 = k / 16 by omega, show (4 : Nat) ^ 2 = 16 from rfl, h16]
  | 2, _ =>
    show fb_ch M (fb_ch M r (k / 4 ^ 2 % 4)) (k / 4 ^ 1 % 4) = rf_nr M r (5 + k / 4)
    unfold rf_nr
    rw [if_neg (by omega), if_neg (by omega), show 5 + k / 4 - 5 = k / 4 by omega, show (4 : Nat) ^ 2 = 16 from rfl, h16, show (4 : Nat) ^ 1 = 4 from rfl, show k / 4 / 4 = k / 16 by omega]
theorem rf_pl_lt {l k : Nat} (hk : k < 64) : mo_pl l k < 21 := by
  unfold mo_pl
  split
  · omega
  · split <;> omega
/-- every place is met on the way of a key 4 j -/
theorem rf_pl_all {p : Nat} (hp : p < 21) : ∃ j l, j < 16 ∧ l < 3 ∧ mo_pl l (4 * j) = p := by
  by_cases h0 : p = 0
  · exact ⟨0, 0, by omega, by omega, by rw [h0]; rfl⟩
  · by_cases h5 : p < 5
    · refine ⟨4 * (p - 1), 1, by omega, by omega, ?_⟩
      unfold mo_pl
      rw [if_neg (by decide), if_pos rfl]
      omega
    · refine ⟨p - 5, 2, by omega, by omega, ?_⟩
      unfold mo_pl
      rw [if_neg (by decide), if_neg (by decide)]
      omega
def rf_mk (K : Nat → Int32) : Nat → Bool := fun i => decide (K i ≠ 0)
theorem rf_vi (st : Nat × (Nat → Int32)) {n : Nat} (hn : n < 61) : (fb_vi st n).1 + rf_nb (rf_mk st.2) = st.1 + rf_nb (rf_mk (fb_vi st n).2) ∧ ∀ i, (fb_vi st n).2 i ≠ 0 ↔ st.2 i ≠ 0 ∨ (i ≠ 0 ∧ n = i) := by
  unfold fb_vi
  by_cases h : n ≠ 0 ∧ st.2 n = 0
  · rw [if_pos h]
    have hs : ∀ i, upd st.2 n 1 i ≠ 0 ↔ st.2 i ≠ 0 ∨ (i ≠ 0 ∧ n = i) := by
      intro i
      unfold upd
      by_cases e : i = n
      · rw [if_pos e]
        exact ⟨fun _ => Or.inr ⟨by rw [e]; exact h.1, e.symm⟩, fun _ => by decide⟩
      · rw [if_neg e]
        exact ⟨Or.inl, fun q => q.elim id (fun z => absurd z.2.symm e)⟩
    refine ⟨?_, hs⟩
    have h1 : rf_nb (rf_mk (upd st.2 n 1)) = rf_nb (rf_mk st.2) + 1 := by
      unfold rf_nb
      refine rf_cn_up hn (by simp [rf_mk, h.2]) (by simp [rf_mk, upd]) (fun i _ hi => by simp [rf_mk, upd, hi])
    show st.1 + 1 + _ = st.1 + rf_nb (rf_mk (upd st.2 n 1))
    rw [h1]
    omega
  · rw [if_neg h]
    refine ⟨rfl, fun i => ⟨Or.inl, fun q => q.elim id (fun z => ?_)⟩⟩
    intro hi
    exact h ⟨by rw [z.2]; exact z.1, by rw [z.2]; exact hi⟩
theorem rf_mk1 (M : me_M) (r k : Nat) (st : Nat × (Nat → Int32)) (L : Nat) (hn : ∀ l, l < L → fb_na M r k l < 61) : (fb_mk1 M r k st L).1 + rf_nb (rf_mk st.2) = st.1 + rf_nb (rf_mk (fb_mk1 M r k st L).2) ∧ ∀ i, (fb_mk1 M r k st L).2 i ≠ 0 ↔ st.2 i ≠ 0 ∨ (i ≠ 0 ∧ ∃ l, l < L ∧ fb_na M r k l = i) := by
  induction L with
  | zero => exact ⟨rfl, fun i => ⟨Or.inl, fun q => q.elim id (fun z => by obtain ⟨-, l, h, -⟩ := z; omega)⟩⟩
  | succ L ih =>
    obtain ⟨h1, h2⟩ := ih (fun l hl => hn l (by omega))
    obtain ⟨h3, h4⟩ := rf_vi (fb_mk1 M r k st L) (hn L (by omega))
    refine ⟨?_, fun i => ?_⟩
    · show (fb_vi (fb_mk1 M r k st L) (fb_na M r k L)).1 + _ = st.1 + rf_nb (rf_mk (fb_vi (fb_mk1 M r k st L) (fb_na M r k L)).2)
      omega
    · show (fb_vi (fb_mk1 M r k st L) (fb_na M r k L)).2 i ≠ 0 ↔ _
      rw [h4 i, h2 i]
      constructor
      · rintro ((h | ⟨h, l, hl, e⟩) | ⟨h, e⟩)
        · exact Or.inl h
        · exact Or.inr ⟨h, l, by omega, e⟩
        · exact Or.inr ⟨h, L, by omega, e⟩
      · rintro (h | ⟨h, l, hl, e⟩)
        · exact Or.inl (Or.inl h)
        · by_cases hL : l = L
          · exact Or.inr ⟨h, by rw [← hL]; exact e⟩
          · exact Or.inl (Or.inr ⟨h, l, by omega, e⟩)
theorem rf_mk2 (M : me_M) (r : Nat) (st : Nat × (Nat → Int32)) (J : Nat) (hn : ∀ j, j < J → ∀ l, l < 3 → fb_na M r (4 * j) l < 61) : (fb_mk2 M r st J).1 + rf_nb (rf_mk st.2) = st.1 + rf_nb (rf_mk (fb_mk2 M r st J).2) ∧ ∀ i, (fb_mk2 M r st J).2 i ≠ 0 ↔ st.2 i ≠ 0 ∨ (i ≠ 0 ∧ ∃ j l, j < J ∧ l < 3 ∧ fb_na M r (4 * j) l = i) := by
  induction J with
  | zero => exact ⟨rfl, fun i => ⟨Or.inl, fun q => q.elim id (fun z => by obtain ⟨-, j, l, h, -⟩ := z; omega)⟩⟩
  | succ J ih =>
    obtain ⟨h1, h2⟩ := ih (fun j hj => hn j (by omega))
    obtain ⟨h3, h4⟩ := rf_mk1 M r (4 * J) (fb_mk2 M r st J) 3 (hn J (by omega))
    refine ⟨?_, fun i => ?_⟩
    · show (fb_mk1 M r (4 * J) (fb_mk2 M r st J) 3).1 + _ = st.1 + rf_nb (rf_mk (fb_mk1 M r (4 * J) (fb_mk2 M r st J) 3).2)
      omega
    · show (fb_mk1 M r (4 * J) (fb_mk2 M r st J) 3).2 i ≠ 0 ↔ _
      rw [h4 i, h2 i]
      constructor
      · rintro ((h | ⟨h, j, l, hj, hl, e⟩) | ⟨h, l, hl, e⟩)
        · exact Or.inl h
        · exact Or.inr ⟨h, j, l, by omega, hl, e⟩
        · exact Or.inr ⟨h, J, l, by omega, hl, e⟩
      · rintro (h | ⟨h, j, l, hj, hl, e⟩)
        · exact Or.inl (Or.inl h)
        · by_cases hL : j = J
          · exact Or.inr ⟨h, l, hl, by rw [← hL]; exact e⟩
          · exact Or.inl (Or.inr ⟨h, j, l, by omega, hl, e⟩)
theorem rf_set2_ch (M : me_M) (K : Nat → Int32) (n t : Nat) : fb_ch (me_set M 2 K) n t = fb_ch M n t := by
  unfold fb_ch; rw [me_set_n _ _ (by omega)]
theorem rf_set2_na (M : me_M) (K : Nat → Int32) (r k l : Nat) : fb_na (me_set M 2 K) r k l = fb_na M r k l := by
  induction l with
  | zero => rfl
  | succ l ih =>
    show fb_ch (me_set M 2 K) (fb_na (me_set M 2 K) r k l) (fb_tn k l) = fb_ch M (fb_na M r k l) (fb_tn k l)
    rw [ih, rf_set2_ch]
theorem rf_set2_nr (M : me_M) (K : Nat → Int32) (r p : Nat) : rf_nr (me_set M 2 K) r p = rf_nr M r p := by
  unfold rf_nr; simp only [rf_set2_ch]
theorem rf_set2_mk1 (M : me_M) (K : Nat → Int32) (r k : Nat) (st : Nat × (Nat → Int32)) (L : Nat) : fb_mk1 (me_set M 2 K) r k st L = fb_mk1 M r k st L := by
  induction L with
  | zero => rfl
  | succ L ih =>
    show fb_vi (fb_mk1 (me_set M 2 K) r k st L) (fb_na (me_set M 2 K) r k L) = fb_vi (fb_mk1 M r k st L) (fb_na M r k L)
    rw [ih, rf_set2_na]
theorem rf_set2_mk2 (M : me_M) (K : Nat → Int32) (r : Nat) (st : Nat × (Nat → Int32)) (J : Nat) : fb_mk2 (me_set M 2 K) r st J = fb_mk2 M r st J := by
  induction J with
  | zero => rfl
  | succ J ih =>
    show fb_mk1 (me_set M 2 K) r (4 * J) (fb_mk2 (me_set M 2 K) r st J) 3 = fb_mk1 M r (4 * J) (fb_mk2 M r st J) 3
    rw [ih, rf_set2_mk1]
/-- mark, over the marks alone -/
def rf_mkK (M : me_M) (r : Nat) (K : Nat → Int32) : Nat × (Nat → Int32) := if r = 0 ∨ K r ≠ 0 then (0, K) else fb_mk2 M r (0, K) 16
theorem rf_mark (M : me_M) (K : Nat → Int32) (r : Nat) : fb_mark (me_set M 2 K) r = ((rf_mkK M r K).1, me_set M 2 (rf_mkK M r K).2) := by
  unfold fb_mark rf_mkK
  rw [me_set_s]
  by_cases h : r = 0 ∨ K r ≠ 0
  · rw [if_pos h, if_pos h]
  · rw [if_neg h, if_neg h, rf_set2_mk2, me_set_2]
/-- all nodes of a root are numbers of nodes -/
def rf_nrok (M : me_M) (r : Nat) : Prop := ∀ p, p < 21 → rf_nr M r p < 61
theorem rf_mkK_ok (M : me_M) (r : Nat) (K : Nat → Int32) (hok : rf_nrok M r) (h0 : r = 0 → ∀ p, p < 21 → rf_nr M r p = 0) (hcl : K r ≠ 0 → ∀ p, p < 21 → rf_nr M r p ≠ 0 → K (rf_nr M r p) ≠ 0) :
    (rf_mkK M r K).1 + rf_nb (rf_mk K) = rf_nb (rf_mk (rf_mkK M r K).2) ∧ ∀ i, (rf_mkK M r K).2 i ≠ 0 ↔ K i ≠ 0 ∨ (i ≠ 0 ∧ ∃ p, p < 21 ∧ rf_nr M r p = i) := by
  unfold rf_mkK
  by_cases h : r = 0 ∨ K r ≠ 0
  · rw [if_pos h]
    refine ⟨Nat.zero_add _, fun i => ⟨Or.inl, fun q => q.elim id (fun z => ?_)⟩⟩
    obtain ⟨hi, p, hp, e⟩ := z
    rcases h with h | h
    · exact absurd ((h0 h p hp).symm.trans e).symm hi
    · have := hcl h p hp (by rw [e]; exact hi)
      rw [e] at this
      exact this
  · rw [if_neg h]
    obtain ⟨h1, h2⟩ := rf_mk2 M r (0, K) 16 (fun j hj l hl => by rw [rf_na M r (by omega) hl]; exact hok _ (rf_pl_lt (by omega)))
    refine ⟨by simpa using h1, fun i => ?_⟩
    rw [h2 i]
    constructor
    · rintro (h | ⟨h, j, l, hj, hl, e⟩)
      · exact Or.inl h
      · exact Or.inr ⟨h, mo_pl l (4 * j), rf_pl_lt (by omega), by rw [← rf_na M r (by omega) hl]; exact e⟩
    · rintro (h | ⟨h, p, hp, e⟩)
      · exact Or.inl h
      · obtain ⟨j, l, hj, hl, e2⟩ := rf_pl_all hp
        exact Or.inr ⟨h, j, l, hj, hl, by rw [rf_na M r (by omega) hl, e2]; exact e⟩
/-- the maps of one array, over the marks alone -/
def rf_mmK (M : me_M) (a : Nat) (K : Nat → Int32) : Nat → Nat × (Nat → Int32)
  | 0 => (0, K)
  | h + 1 => if M a h = -1 then rf_mmK M a K h else ((rf_mmK M a K h).1 + (rf_mkK M (M a h).toNatClampNeg (rf_mmK M a K h).2).1, (rf_mkK M (M a h).toNatClampNeg (rf_mmK M a K h).2).2)
theorem rf_mm (M : me_M) (a : Nat) (ha : a ≠ 2) (K : Nat → Int32) (h : Nat) : fb_mm (me_set M 2 K) a h = ((rf_mmK M a K h).1, me_set M 2 (rf_mmK M a K h).2) := by
  induction h with
  | zero => rfl
  | succ h ih =>
    unfold fb_mm rf_mmK
    rw [me_set_n _ _ ha, ih]
    by_cases e : M a h = -1
    · rw [if_pos e, if_pos e]
    · rw [if_neg e, if_neg e, rf_mark]
/-- the root of map m: 0 .. 6 current and snapshots, 7 .. 13 the disk's -/
def rf_rv (M : me_M) (m : Nat) : Int32 := if m < 7 then M 3 m else M 4 (m - 7)
def rf_rn (M : me_M) (m : Nat) : Nat := (rf_rv M m).toNatClampNeg
def rf_nd (M : me_M) (m p : Nat) : Nat := rf_nr M (rf_rn M m) p
theorem rf_m1 : ((-1 : Int32)).toNatClampNeg = 0 := by decide +kernel
/-- what marking needs: nodes are numbers below 61, an empty map has none, and one node has one place -/
def rf_J (M : me_M) : Prop := (∀ m, m < 14 → rf_nrok M (rf_rn M m)) ∧ (∀ p, p < 21 → rf_nr M 0 p = 0) ∧ (∀ m m' p p', m < 14 → m' < 14 → p < 21 → p' < 21 → rf_nd M m p ≠ 0 → rf_nd M m p = rf_nd M m' p' → p = p')
/-- the marked are just the nodes of the maps in S -/
def rf_S (M : me_M) (S : Nat → Prop) (K : Nat → Int32) : Prop := ∀ i, i < 61 → (K i ≠ 0 ↔ i ≠ 0 ∧ ∃ m p, m < 14 ∧ S m ∧ p < 21 ∧ rf_nd M m p = i)
theorem rf_mkK_S {M : me_M} (hJ : rf_J M) {S : Nat → Prop} {K : Nat → Int32} (hS : rf_S M S K) {m : Nat} (hm : m < 14) :
    (rf_mkK M (rf_rn M m) K).1 + rf_nb (rf_mk K) = rf_nb (rf_mk (rf_mkK M (rf_rn M m) K).2) ∧ rf_S M (fun j => S j ∨ j = m) (rf_mkK M (rf_rn M m) K).2 := by
  obtain ⟨j1, j2, j3⟩ := hJ
  have hcl : K (rf_rn M m) ≠ 0 → ∀ p, p < 21 → rf_nr M (rf_rn M m) p ≠ 0 → K (rf_nr M (rf_rn M m) p) ≠ 0 := by
    intro hK p hp hn
    obtain ⟨h0, m', p', hm', hs', hp', e⟩ := (hS _ (j1 m hm 0 (by omega))).mp hK
    have e0 : rf_nd M m 0 = rf_rn M m := rfl
    have hz : 0 = p' := j3 m m' 0 p' hm hm' (by omega) hp' (by rw [e0]; exact h0) (by rw [e0]; exact e.symm)
    subst hz
    have e1 : rf_rn M m' = rf_rn M m := e
    exact (hS _ (j1 m hm p hp)).mpr ⟨hn, m', p, hm', hs', hp, by unfold rf_nd; rw [e1]⟩
  obtain ⟨h1, h2⟩ := rf_mkK_ok M (rf_rn M m) K (j1 m hm) (fun e p hp => by rw [e]; exact j2 p hp) hcl
  refine ⟨h1, fun i hi => ?_⟩
  rw [h2 i, hS i hi]
  constructor
  · rintro (⟨h, m', p', a, b, c, e⟩ | ⟨h, p, hp, e⟩)
    · exact ⟨h, m', p', a, Or.inl b, c, e⟩
    · exact ⟨h, m, p, hm, Or.inr rfl, hp, e⟩
  · rintro ⟨h, m', p', a, b, c, e⟩
    rcases b with b | b
    · exact Or.inl ⟨h, m', p', a, b, c, e⟩
    · subst b; exact Or.inr ⟨h, p', c, e⟩
/-- the maps from 'lo' on (0: roots, 7: disk) -/
theorem rf_mmK_S {M : me_M} (hJ : rf_J M) {a lo : Nat} (hlo : lo = 0 ∨ lo = 7) (ha : ∀ h, h < 7 → M a h = rf_rv M (lo + h)) {S : Nat → Prop} {K : Nat → Int32} (hS : rf_S M S K) (h : Nat) (hh : h ≤ 7) :
    (rf_mmK M a K h).1 + rf_nb (rf_mk K) = rf_nb (rf_mk (rf_mmK M a K h).2) ∧ rf_S M (fun j => S j ∨ (lo ≤ j ∧ j < lo + h)) (rf_mmK M a K h).2 := by
  induction h with
  | zero =>
    refine ⟨Nat.zero_add _, fun i hi => ?_⟩
    show K i ≠ 0 ↔ _
    rw [hS i hi]
    constructor
    · rintro ⟨z, m, p, x, y, w, e⟩; exact ⟨z, m, p, x, Or.inl y, w, e⟩
    · rintro ⟨z, m, p, x, y, w, e⟩; exact ⟨z, m, p, x, y.elim id (fun q => by omega), w, e⟩
  | succ h ih =>
    obtain ⟨h1, h2⟩ := ih (by omega)
    have hm : lo + h < 14 := by omega
    have hr : (M a h).toNatClampNeg = rf_rn M (lo + h) := by unfold rf_rn; rw [ha h (by omega)]
    unfold rf_mmK
    by_cases e : M a h = -1
    · rw [if_pos e]
      refine ⟨h1, fun i hi => ?_⟩
      rw [h2 i hi]
      have hz : rf_rn M (lo + h) = 0 := by rw [← hr, e]; exact rf_m1
      constructor
      · rintro ⟨z, m, p, x, y, w, q⟩; exact ⟨z, m, p, x, y.elim Or.inl (fun q => Or.inr (by omega)), w, q⟩
      · rintro ⟨z, m, p, x, y, w, q⟩
        refine ⟨z, m, p, x, ?_, w, q⟩
        rcases y with y | y
        · exact Or.inl y
        · by_cases em : m = lo + h
          · exfalso
            unfold rf_nd at q
            rw [em, hz, hJ.2.1 p w] at q
            exact z q.symm
          · exact Or.inr (by omega)
    · rw [if_neg e, hr]
      obtain ⟨h3, h4⟩ := rf_mkK_S hJ h2 hm
      refine ⟨?_, fun i hi => ?_⟩
      · show (rf_mmK M a K h).1 + (rf_mkK M (rf_rn M (lo + h)) (rf_mmK M a K h).2).1 + _ = rf_nb (rf_mk (rf_mkK M (rf_rn M (lo + h)) (rf_mmK M a K h).2).2)
        omega
      · show (rf_mkK M (rf_rn M (lo + h)) (rf_mmK M a K h).2).2 i ≠ 0 ↔ _
        rw [h4 i hi]
        constructor
        · rintro ⟨z, m, p, x, y, w, q⟩
          exact ⟨z, m, p, x, y.elim (fun y => y.elim Or.inl (fun y => Or.inr (by omega))) (fun y => Or.inr (by omega)), w, q⟩
        · rintro ⟨z, m, p, x, y, w, q⟩
          refine ⟨z, m, p, x, ?_, w, q⟩
          rcases y with y | y
          · exact Or.inl (Or.inl y)
          · by_cases em : m = lo + h
            · exact Or.inr em
            · exact Or.inl (Or.inr (by omega))
/-- the marks that freeNodes and writesNeeded leave -/
def rf_K0 (M : me_M) : Nat → Int32 := fun j => if 0 ≤ j ∧ j < 61 then 0 else M 2 j
theorem rf_K0_nb (M : me_M) : rf_nb (rf_mk (rf_K0 M)) = 0 := by
  unfold rf_nb
  rw [me_cn_congr (Q := fun _ => false) (fun i hi => by simp [rf_mk, rf_K0, hi])]
  have : ∀ n, me_cn (fun _ => false) n = 0 := by
    intro n
    induction n with
    | zero => rfl
    | succ n ih => unfold me_cn; rw [ih]; rfl
  exact this 61
theorem rf_K0_S (M : me_M) : rf_S M (fun _ => False) (rf_K0 M) := fun i hi => ⟨fun h => absurd (by simp [rf_K0, hi]) h, fun h => by obtain ⟨-, m, p, -, z, -⟩ := h; exact z.elim⟩
theorem rf_unmark (M : me_M) : fb_unmark M = me_set M 2 (rf_K0 M) := rfl
def rf_KD (M : me_M) : Nat × (Nat → Int32) := rf_mmK M 4 (rf_K0 M) 7
def rf_KR (M : me_M) : Nat × (Nat → Int32) := rf_mmK M 3 (rf_KD M).2 7
theorem rf_md (M : me_M) : fb_md M = ((rf_KD M).1, me_set M 2 (rf_KD M).2) := by
  unfold fb_md rf_KD; rw [rf_unmark, rf_mm M 4 (by decide)]
theorem rf_mr (M : me_M) : fb_mr M = ((rf_KR M).1, me_set M 2 (rf_KR M).2) := by
  unfold fb_mr rf_KR; rw [rf_md, rf_mm M 3 (by decide)]
theorem rf_KD_ok {M : me_M} (hJ : rf_J M) : (rf_KD M).1 = rf_nb (rf_mk (rf_KD M).2) ∧ rf_S M (fun j => 7 ≤ j) (rf_KD M).2 := by
  obtain ⟨h1, h2⟩ := rf_mmK_S hJ (a := 4) (lo := 7) (Or.inr rfl) (fun h hh => by unfold rf_rv; rw [if_neg (by omega), show 7 + h - 7 = h by omega]) (rf_K0_S M) 7 (Nat.le_refl _)
  rw [rf_K0_nb] at h1
  refine ⟨h1, fun i hi => ?_⟩
  refine (h2 i hi).trans ⟨?_, ?_⟩
  · rintro ⟨z, m, p, x, y, w, q⟩; exact ⟨z, m, p, x, y.elim (fun f => f.elim) (fun y => y.1), w, q⟩
  · rintro ⟨z, m, p, x, y, w, q⟩; exact ⟨z, m, p, x, Or.inr ⟨y, by omega⟩, w, q⟩
theorem rf_KR_ok {M : me_M} (hJ : rf_J M) : (rf_KD M).1 + (rf_KR M).1 = rf_nb (rf_mk (rf_KR M).2) ∧ rf_S M (fun _ => True) (rf_KR M).2 := by
  obtain ⟨e1, e2⟩ := rf_KD_ok hJ
  obtain ⟨h1, h2⟩ := rf_mmK_S hJ (a := 3) (lo := 0) (Or.inl rfl) (fun h hh => by unfold rf_rv; rw [if_pos (by omega), show 0 + h = h by omega]) e2 7 (Nat.le_refl _)
  refine ⟨by show (rf_KD M).1 + (rf_mmK M 3 (rf_KD M).2 7).1 = rf_nb (rf_mk (rf_mmK M 3 (rf_KD M).2 7).2); omega, fun i hi => ?_⟩
  refine (h2 i hi).trans ⟨?_, ?_⟩
  · rintro ⟨z, m, p, x, y, w, q⟩; exact ⟨z, m, p, x, trivial, w, q⟩
  · rintro ⟨z, m, p, x, y, w, q⟩; exact ⟨z, m, p, x, by by_cases h : 7 ≤ m; exact Or.inl h; exact Or.inr ⟨by omega, by omega⟩, w, q⟩
/-! the reference's count of different numbers, by nodes -/
/-- numbers and nodes: 0 is no node; one place and one number is one node -/
def rf_N (M U : me_M) : Prop := (∀ m p, m < 14 → p < 21 → (rf_nd M m p = 0 ↔ U 3 (21 * m + p) = 0)) ∧ (∀ m p, m < 14 → p < 21 → 0 ≤ U 3 (21 * m + p)) ∧ (∀ m m' p, m < 14 → m' < 14 → p < 21 → rf_nd M m p ≠ 0 → (rf_nd M m p = rf_nd M m' p ↔ U 3 (21 * m + p) = U 3 (21 * m' + p)))
end
section
/-! the reference's count of different numbers is the count of nodes -/
noncomputable def rf_B (P : Prop) : Bool := @decide P (Classical.propDecidable P)
theorem rf_B_iff {P : Prop} : rf_B P = true ↔ P := @decide_eq_true_iff P (Classical.propDecidable P)
theorem rf_B_f {P : Prop} : rf_B P = false ↔ ¬ P := @decide_eq_false_iff_not P (Classical.propDecidable P)
/-- the nodes at places below P in the maps lo .. lo + hi - 1, and at place P in the first n of them -/
def rf_se (M : me_M) (lo hi P n i : Nat) : Prop := i ≠ 0 ∧ ∃ m p, m < 14 ∧ p < 21 ∧ rf_nd M m p = i ∧ lo ≤ m ∧ ((p < P ∧ m < lo + hi) ∨ (p = P ∧ m < lo + n))
noncomputable def rf_seb (M : me_M) (lo hi P n : Nat) : Nat → Bool := fun i => rf_B (rf_se M lo hi P n i)
theorem rf_in {U : me_M} {x : Int32} {p lo n : Nat} : mo_in U x p lo n = true ↔ ∃ i, i < n ∧ U 3 (21 * (lo + i) + p) = x := by
  induction n with
  | zero => exact ⟨fun h => (by cases h), fun ⟨i, h, _⟩ => by omega⟩
  | succ n ih =>
    unfold mo_in
    rw [Bool.or_eq_true, ih, decide_eq_true_iff]
    constructor
    · rintro (⟨i, h, e⟩ | e)
      · exact ⟨i, by omega, e⟩
      · exact ⟨n, by omega, e⟩
    · rintro ⟨i, h, e⟩
      by_cases hi : i = n
      · subst hi; exact Or.inr e
      · exact Or.inl ⟨i, by omega, e⟩
theorem rf_pos {x : Int32} (h : 0 ≤ x) : 0 < x ↔ x ≠ 0 := by
  rw [Int32.lt_iff_toInt_lt, Int32.toInt_zero]
  rw [Int32.le_iff_toInt_le, Int32.toInt_zero] at h
  constructor
  · intro h1 h2
    rw [h2, Int32.toInt_zero] at h1
    omega
  · intro h1
    have : x.toInt ≠ 0 := fun e => h1 (Int32.toInt_inj.mp (by rw [e, Int32.toInt_zero]))
    omega
theorem rf_d1 {M U : me_M} (hJ : rf_J M) (hN : rf_N M U) {lo hi P : Nat} (hlo : lo + hi ≤ 14) (hP : P < 21) (n : Nat) (hn : n ≤ hi) : mo_d1 U P lo n + rf_nb (rf_seb M lo hi P 0) = rf_nb (rf_seb M lo hi P n) := by
  obtain ⟨j1, j2, j3⟩ := hJ
  obtain ⟨n1, n2, n3⟩ := hN
  induction n with
  | zero => exact Nat.zero_add _
  | succ n ih =>
    have hm : lo + n < 14 := by omega
    have hsee := rf_see (P := rf_seb M lo hi P n) (Q := rf_seb M lo hi P (n + 1)) (a := rf_nd M (lo + n) P) (j1 _ hm P hP) (fun i hi => by
      unfold rf_seb
      rw [Bool.eq_iff_iff, Bool.or_eq_true, Bool.and_eq_true, rf_B_iff, rf_B_iff, decide_eq_true_iff, decide_eq_true_iff]
      constructor
      · rintro ⟨h0, m, p, a, b, e, c, d | ⟨d1, d2⟩⟩
        · exact Or.inl ⟨h0, m, p, a, b, e, c, Or.inl d⟩
        · by_cases q : m = lo + n
          · subst q; subst d1; exact Or.inr ⟨e.symm, by rw [e]; exact h0⟩
          · exact Or.inl ⟨h0, m, p, a, b, e, c, Or.inr ⟨d1, by omega⟩⟩
      · rintro (⟨h0, m, p, a, b, e, c, d | ⟨d1, d2⟩⟩ | ⟨e, h0⟩)
        · exact ⟨h0, m, p, a, b, e, c, Or.inl d⟩
        · exact ⟨h0, m, p, a, b, e, c, Or.inr ⟨d1, by omega⟩⟩
        · exact ⟨by rw [e]; exact h0, lo + n, P, hm, hP, e.symm, by omega, Or.inr ⟨rfl, by omega⟩⟩)
    rw [hsee, ← ih (by omega)]
    have hcond : (decide (0 < U 3 (21 * (lo + n) + P)) && !mo_in U (U 3 (21 * (lo + n) + P)) P lo n) = true ↔ (rf_nd M (lo + n) P ≠ 0 ∧ rf_seb M lo hi P n (rf_nd M (lo + n) P) = false) := by
      unfold rf_seb
      rw [Bool.and_eq_true, decide_eq_true_iff, rf_pos (n2 _ _ hm hP), Bool.not_eq_true', rf_B_f]
      have e0 : rf_nd M (lo + n) P ≠ 0 ↔ U 3 (21 * (lo + n) + P) ≠ 0 := not_congr (n1 _ _ hm hP)
      rw [← e0]
      refine and_congr_right fun h0 => ?_
      rw [← Bool.not_eq_true, rf_in]
      refine not_congr ⟨?_, ?_⟩
      · rintro ⟨i, hi, e⟩
        refine ⟨h0, lo + i, P, by omega, hP, ?_, by omega, Or.inr ⟨rfl, by omega⟩⟩
        exact ((n3 (lo + n) (lo + i) P hm (by omega) hP h0).mpr e.symm).symm
      · rintro ⟨-, m, p, a, b, e, c, d⟩
        have hp : P = p := j3 (lo + n) m P p hm a hP b h0 e.symm
        subst hp
        rcases d with d | d
        · omega
        · refine ⟨m - lo, by omega, ?_⟩
          rw [show lo + (m - lo) = m by omega]
          exact ((n3 (lo + n) m P hm a hP h0).mp e.symm).symm
    show (me_cn _ n + if _ then 1 else 0) + _ = _
    by_cases hc : rf_nd M (lo + n) P ≠ 0 ∧ rf_seb M lo hi P n (rf_nd M (lo + n) P) = false
    · rw [if_pos hc, if_pos (hcond.mpr hc)]
      show mo_d1 U P lo n + 1 + _ = mo_d1 U P lo n + _ + 1
      omega
    · rw [if_neg hc, if_neg (fun h => hc (hcond.mp h))]
      rfl
theorem rf_df {M U : me_M} (hJ : rf_J M) (hN : rf_N M U) {lo hi : Nat} (hlo : lo + hi ≤ 14) (P : Nat) (hP : P ≤ 21) : mo_df U lo hi P = rf_nb (rf_seb M lo hi P 0) := by
  induction P with
  | zero =>
    show 0 = _
    symm
    unfold rf_nb
    rw [me_cn_congr (Q := fun _ => false) (fun i _ => by
      unfold rf_seb
      rw [rf_B_f]
      rintro ⟨-, m, p, -, -, -, h1, h2⟩
      omega)]
    have : ∀ n, me_cn (fun _ => false) n = 0 := by
      intro n
      induction n with
      | zero => rfl
      | succ n ih => unfold me_cn; rw [ih]; rfl
    exact this 61
  | succ P ih =>
    show mo_df U lo hi P + mo_d1 U P lo hi = _
    rw [ih (by omega), Nat.add_comm, rf_d1 hJ hN hlo (by omega) hi (Nat.le_refl _)]
    unfold rf_nb
    refine me_cn_congr fun i _ => ?_
    unfold rf_seb
    rw [Bool.eq_iff_iff, rf_B_iff, rf_B_iff]
    constructor
    · rintro ⟨h0, m, p, a, b, e, c, d⟩; exact ⟨h0, m, p, a, b, e, c, Or.inl (by omega)⟩
    · rintro ⟨h0, m, p, a, b, e, c, d⟩; exact ⟨h0, m, p, a, b, e, c, by omega⟩
/-- .. and so the number of the marked, where just those maps are marked -/
theorem rf_df_S {M U : me_M} (hJ : rf_J M) (hN : rf_N M U) {lo hi : Nat} (hlo : lo + hi ≤ 14) {S : Nat → Prop} {K : Nat → Int32} (hS : rf_S M S K) (hs : ∀ m, m < 14 → (S m ↔ lo ≤ m ∧ m < lo + hi)) : mo_df U lo hi 21 = rf_nb (rf_mk K) := by
  rw [rf_df hJ hN hlo 21 (Nat.le_refl _)]
  unfold rf_nb
  refine me_cn_congr fun i hi => ?_
  unfold rf_seb rf_mk
  rw [Bool.eq_iff_iff, rf_B_iff, decide_eq_true_iff, hS i hi]
  constructor
  · rintro ⟨h0, m, p, a, b, e, c, d⟩; exact ⟨h0, m, p, a, (hs m a).mpr (by omega), b, e⟩
  · rintro ⟨h0, m, p, a, b, c, e⟩; exact ⟨h0, m, p, a, c, e, ((hs m a).mp b).1, Or.inl ⟨c, ((hs m a).mp b).2⟩⟩
theorem rf_nb60 {M : me_M} {S : Nat → Prop} {K : Nat → Int32} (hS : rf_S M S K) : rf_nb (rf_mk K) ≤ 60 := by
  have h0 : rf_mk K 0 = false := by
    cases h : rf_mk K 0 with
    | false => rfl
    | true => exact absurd rfl ((hS 0 (by omega)).mp (by simpa [rf_mk] using h)).1
  have : ∀ n, me_cn (rf_mk K) (n + 1) ≤ n := by
    intro n
    induction n with
    | zero => unfold me_cn me_cn; rw [h0]; decide
    | succ n ih => unfold me_cn; split <;> omega
  exact this 60
theorem rf_free {M U : me_M} (hJ : rf_J M) (hN : rf_N M U) : mo_df U 0 14 21 = (rf_KD M).1 + (rf_KR M).1 ∧ mo_df U 7 7 21 = (rf_KD M).1 ∧ (rf_KD M).1 + (rf_KR M).1 ≤ 60 := by
  obtain ⟨a1, a2⟩ := rf_KD_ok hJ
  obtain ⟨b1, b2⟩ := rf_KR_ok hJ
  refine ⟨by rw [b1]; exact rf_df_S hJ hN (by omega) b2 (fun m hm => ⟨fun _ => ⟨by omega, by omega⟩, fun _ => trivial⟩), by rw [a1]; exact rf_df_S hJ hN (by omega) a2 (fun m hm => ⟨fun h => ⟨h, by omega⟩, fun h => h.1⟩), by rw [b1]; exact rf_nb60 b2⟩
end
section
/-! what holds between a FrozenBranches (memory M) and its reference (memory U) between two calls -/
def rf_A (M U : me_M) : Prop := (∀ m, m < 14 → (U 0 m = 0 ∧ rf_rv M m = -1) ∨ (U 0 m = 1 ∧ rf_rv M m = nI (rf_rn M m) ∧ rf_rn M m ≤ 60)) ∧ U 0 0 = 1 ∧ U 0 7 = 1
def rf_Wf (M : me_M) : Prop := ∀ m, m < 14 → fb_wf M (rf_rn M m)
def rf_Z (M : me_M) : Prop := (∀ t, t < 4 → M 6 t = 0) ∧ M 0 0 = 0 ∧ M 1 0 = 0
def rf_01 (U : me_M) : Prop := ∀ j, j < 896 → U 1 j = 0 ∨ U 1 j = 1
def rf_O (M U : me_M) : Prop := (∀ m p t, m < 14 → p < 5 → t < 4 → bt (M 0 (rf_nd M m p)) t = decide (fb_ch M (rf_nd M m p) t ≠ 0)) ∧ (∀ m p t, m < 14 → p < 21 → 4 ≤ t → t < 32 → bt (M 0 (rf_nd M m p)) t = false) ∧ (∀ m k, m < 14 → k < 64 → bt (M 0 (rf_nd M m (5 + k / 4))) (k % 4) = decide (U 1 (64 * m + k) ≠ 0))
def rf_V (M U : me_M) : Prop := ∀ m k, m < 14 → k < 64 → U 1 (64 * m + k) ≠ 0 → M (6 + rf_nd M m (5 + k / 4)) (k % 4) = U 2 (64 * m + k)
def rf_L (M U : me_M) : Prop := ∀ m l k, m < 14 → l < 3 → k < 64 → rf_nd M m (mo_pl l k) ≠ 0 → ∃ k', k' < 64 ∧ mo_pl l k' = mo_pl l k ∧ U 1 (64 * m + k') ≠ 0
def rf_P (M : me_M) : Prop := ∀ m m' p p', m < 14 → m' < 14 → p < 21 → p' < 21 → rf_nd M m p ≠ 0 → rf_nd M m p = rf_nd M m' p' → p = p'
def rf_G (U : me_M) (N : Nat) : Prop := ∃ ma mk, U 4 1 = nI ma ∧ U 4 2 = nI mk ∧ mk ≤ ma ∧ ma ≤ N ∧ ∀ m p, m < 14 → p < 21 → ∃ x, x ≤ ma ∧ U 3 (21 * m + p) = nI x
def rf_R (M U : me_M) : Prop := (∀ p, p < 21 → rf_nd M 0 p ≠ 0 → (M 1 (rf_nd M 0 p) ≠ 0 ↔ U 4 2 < U 3 p)) ∧ ∀ m p, 0 < m → m < 14 → p < 21 → rf_nd M m p ≠ 0 → M 1 (rf_nd M m p) = 0 ∧ U 3 (21 * m + p) ≤ U 4 2
def rf_Sc (M U : me_M) : Prop := M 5 0 = U 4 5 ∧ (M 5 0 = 0 ∨ M 5 0 = 1) ∧ M 5 1 = U 4 3 ∧ M 5 2 = U 4 4 ∧ (M 5 2 = -1 ∨ ∃ x, x ≤ 100 ∧ M 5 2 = nI x)
def rf_I (M U : me_M) (N : Nat) : Prop := rf_A M U ∧ rf_Wf M ∧ rf_Z M ∧ rf_01 U ∧ rf_O M U ∧ rf_V M U ∧ rf_L M U ∧ rf_P M ∧ rf_N M U ∧ rf_G U N ∧ rf_R M U ∧ rf_Sc M U
theorem rf_nd_1 (M : me_M) (m : Nat) {t : Nat} (ht : t < 4) : rf_nd M m (1 + t) = fb_ch M (rf_nd M m 0) t := by
  unfold rf_nd rf_nr
  rw [if_neg (by omega), if_pos (by omega), if_pos rfl, show 1 + t - 1 = t by omega]
theorem rf_nd_2 (M : me_M) (m : Nat) {s t : Nat} (hs : s < 4) (ht : t < 4) : rf_nd M m (5 + (4 * s + t)) = fb_ch M (rf_nd M m (1 + s)) t := by
  rw [rf_nd_1 M m hs]
  unfold rf_nd
  show rf_nr M (rf_rn M m) (5 + (4 * s + t)) = fb_ch M (fb_ch M (rf_rn M m) s) t
  unfold rf_nr
  rw [if_neg (by omega), if_neg (by omega), show (5 + (4 * s + t) - 5) / 4 = s by omega, show (5 + (4 * s + t) - 5) % 4 = t by omega]
theorem rf_pl0 (k : Nat) : mo_pl 0 k = 0 := rfl
theorem rf_pl1 (k : Nat) : mo_pl 1 k = 1 + k / 16 := rfl
theorem rf_pl2 (k : Nat) : mo_pl 2 k = 5 + k / 4 := rfl
theorem rf_tn0 {k : Nat} (hk : k < 64) : fb_tn k 0 = k / 16 := by
  show k / 4 ^ 2 % 4 = k / 16
  rw [show (4 : Nat) ^ 2 = 16 from rfl]; omega
theorem rf_tn1 (k : Nat) : fb_tn k 1 = k / 4 % 4 := rfl
theorem rf_tn2 (k : Nat) : fb_tn k 2 = k % 4 := by
  show k / 4 ^ 0 % 4 = k % 4
  rw [show (4 : Nat) ^ 0 = 1 from rfl, Nat.div_one]
theorem rf_I_J {M U : me_M} {N : Nat} (h : rf_I M U N) : rf_J M := by
  obtain ⟨hA, hW, hZ, h01, hO, hV, hL, hP, hN, hG, hR, hS⟩ := h
  refine ⟨fun m hm p hp => ?_, fun p hp => ?_, hP⟩
  · obtain ⟨w1, w2, w3⟩ := hW m hm
    unfold rf_nr
    split
    · omega
    · split
      · have := (w2 (p - 1) (by omega)).2; omega
      · have := (w3 ((p - 5) / 4) (by omega) ((p - 5) % 4) (by omega)).2; omega
  · have hz : ∀ t, t < 4 → fb_ch M 0 t = 0 := fun t ht => by
      unfold fb_ch
      rw [show M (6 + 0) t = 0 from hZ.1 t ht]
      rfl
    unfold rf_nr
    split
    · rfl
    · split
      · exact hz _ (by omega)
      · rw [hz ((p - 5) / 4) (by omega)]; exact hz _ (by omega)
theorem rf_nd_lt {M U : me_M} {N : Nat} (h : rf_I M U N) {m p : Nat} (hm : m < 14) (hp : p < 21) : rf_nd M m p < 61 := (rf_I_J h).1 m hm p hp
theorem rf_ch0 {M : me_M} (hZ : rf_Z M) {t : Nat} (ht : t < 4) : fb_ch M 0 t = 0 := by
  unfold fb_ch
  rw [show M (6 + 0) t = 0 from hZ.1 t ht]
  rfl
/-- every place is the root, a child of the root, or a child's child -/
theorem rf_places {P : Nat → Prop} (h0 : P 0) (h1 : ∀ t, t < 4 → P (1 + t)) (h2 : ∀ s t, s < 4 → t < 4 → P (5 + (4 * s + t))) {p : Nat} (hp : p < 21) : P p := by
  by_cases e0 : p = 0
  · rw [e0]; exact h0
  · by_cases e1 : p < 5
    · have := h1 (p - 1) (by omega)
      rwa [show 1 + (p - 1) = p by omega] at this
    · have := h2 ((p - 5) / 4) ((p - 5) % 4) (by omega) (by omega)
      rwa [show 5 + (4 * ((p - 5) / 4) + (p - 5) % 4) = p by omega] at this
end
section
/-! a path changed in the current map: where the nodes are then -/
section
variable {M M' : me_M} {k L : Nat} {c : Nat → Nat} {b : Bool} {w : Int32}
/-- what a change leaves of the memory of the class: c l the nodes of the path, L levels of it; w at its end; b: is the key bound then -/
def rf_C (M M' : me_M) (k L : Nat) (c : Nat → Nat) (b : Bool) (w : Int32) : Prop :=
  L ≤ 3 ∧ (∀ l, l < L → 1 ≤ c l ∧ c l ≤ 60) ∧ (∀ l, l < L → ∀ m p, 0 < m → m < 14 → p < 21 → c l ≠ rf_nd M m p) ∧ (∀ l, l < L → ∀ p, p < 21 → (∀ l', l' < 3 → mo_pl l' k ≠ p) → c l ≠ rf_nd M 0 p) ∧
  (∀ l l', l < L → l' < L → c l = c l' → l = l') ∧
  (∀ x, (∀ l, l < L → x ≠ c l) → (∀ t, t < 4 → M' (6 + x) t = M (6 + x) t) ∧ M' 0 x = M 0 x ∧ M' 1 x = M 1 x) ∧
  (∀ l, l < L → (∀ t, t < 4 → M' (6 + c l) t = if t = fb_tn k l then (if l + 1 < L then nI (c (l + 1)) else w) else M (6 + rf_nd M 0 (mo_pl l k)) t) ∧ (∀ j, j < 32 → bt (M' 0 (c l)) j = if j = fb_tn k l then (decide (l + 1 < L) || b) else bt (M 0 (rf_nd M 0 (mo_pl l k))) j) ∧ M' 1 (c l) ≠ 0) ∧
  (M' 3 0 = if 0 < L then nI (c 0) else 0) ∧ (∀ j, 0 < j → M' 3 j = M 3 j) ∧ M' 4 = M 4 ∧ M' 5 = M 5 ∧ (L < 3 → w = 0) ∧ (b = true → L = 3) ∧
  (∀ l, l < 3 → L ≤ l → ∀ j, j < 32 → bt (M 0 (rf_nd M 0 (mo_pl l k))) j = decide (j = fb_tn k l))
def rf_d (L : Nat) (c : Nat → Nat) (l : Nat) : Nat := if l < L then c l else 0
theorem rf_C_rv (h : rf_C M M' k L c b w) {m : Nat} (h0 : 0 < m) (hm : m < 14) : rf_rv M' m = rf_rv M m := by
  obtain ⟨hL, hc, hd1, hd2, hd3, hx, hl, hr0, hr, h4, h5, hw, hb, hrem⟩ := h
  unfold rf_rv
  split
  · exact hr m h0
  · rw [h4]
theorem rf_C_0 (h : rf_C M M' k L c b w) : ∀ l, l < L → 0 ≠ c l := fun l hl => by have := (h.2.1 l hl).1; omega
theorem rf_C_Z (hZ : rf_Z M) (h : rf_C M M' k L c b w) : rf_Z M' := by
  have h0 := rf_C_0 h
  obtain ⟨hL, hc, hd1, hd2, hd3, hx, hl, hr0, hr, h4, h5, hw, hb, hrem⟩ := h
  obtain ⟨q1, q2, q3⟩ := hx 0 h0
  exact ⟨fun t ht => (q1 t ht).trans (hZ.1 t ht), q2.trans hZ.2.1, q3.trans hZ.2.2⟩
theorem rf_C_ch (h : rf_C M M' k L c b w) {x : Nat} (hx : ∀ l, l < L → x ≠ c l) {t : Nat} (ht : t < 4) : fb_ch M' x t = fb_ch M x t := by
  unfold fb_ch
  rw [(h.2.2.2.2.2.1 x hx).1 t ht]
theorem rf_C_m (h : rf_C M M' k L c b w) {m p : Nat} (h0 : 0 < m) (hm : m < 14) (hp : p < 21) : rf_nd M' m p = rf_nd M m p := by
  have e0 : rf_nd M' m 0 = rf_nd M m 0 := by
    show rf_rn M' m = rf_rn M m
    unfold rf_rn
    rw [rf_C_rv h h0 hm]
  have e1 : ∀ t, t < 4 → rf_nd M' m (1 + t) = rf_nd M m (1 + t) := fun t ht => by
    rw [rf_nd_1 M' m ht, rf_nd_1 M m ht, e0]
    exact rf_C_ch h (fun l hl e => h.2.2.1 l hl m 0 h0 hm (by omega) e.symm) ht
  refine rf_places (P := fun p => rf_nd M' m p = rf_nd M m p) e0 e1 (fun s t hs ht => ?_) hp
  rw [rf_nd_2 M' m hs ht, rf_nd_2 M m hs ht, e1 s hs]
  exact rf_C_ch h (fun l hl e => h.2.2.1 l hl m (1 + s) h0 hm (by omega) e.symm) ht
theorem rf_C_on (hZ : rf_Z M) (h : rf_C M M' k L c b w) (l : Nat) : fb_ch M' (rf_d L c l) (fb_tn k l) = if l < 2 then rf_d L c (l + 1) else fb_ch M' (rf_d L c l) (fb_tn k l) := by
  split
  case isFalse => rfl
  case isTrue h2 =>
    have hch : ∀ t, t < 4 → fb_ch M' 0 t = 0 := fun t ht => rf_ch0 (rf_C_Z hZ h) ht
    obtain ⟨hL, hc, hd1, hd2, hd3, hx, hl, hr0, hr, h4, h5, hw, hb, hrem⟩ := h
    unfold rf_d
    by_cases q : l < L
    · rw [if_pos q]
      unfold fb_ch
      rw [(hl l q).1 _ (fb_tn_lt k l), if_pos rfl]
      by_cases q1 : l + 1 < L
      · rw [if_pos q1, if_pos q1, nI_clamp (by have := (hc (l + 1) q1).2; omega)]
      · rw [if_neg q1, if_neg q1, hw (by omega)]; rfl
    · rw [if_neg q, if_neg (by omega)]
      exact hch _ (fb_tn_lt k l)
theorem rf_C_off {U : me_M} (hZ : rf_Z M) (hO : rf_O M U) (hk : k < 64) (h : rf_C M M' k L c b w) {l t : Nat} (h2 : l < 2) (ht : t < 4) (hne : t ≠ fb_tn k l) : fb_ch M' (rf_d L c l) t = fb_ch M (rf_nd M 0 (mo_pl l k)) t := by
  have hch : ∀ t, t < 4 → fb_ch M' 0 t = 0 := fun t ht => rf_ch0 (rf_C_Z hZ h) ht
  obtain ⟨hL, hc, hd1, hd2, hd3, hx, hl, hr0, hr, h4, h5, hw, hb, hrem⟩ := h
  unfold rf_d
  by_cases q : l < L
  · rw [if_pos q]
    unfold fb_ch
    rw [(hl l q).1 t ht, if_neg hne]
  · rw [if_neg q, hch t ht]
    have h1 := hrem l (by omega) (by omega) t (by omega)
    have hp : mo_pl l k < 5 := by
      match l, h2 with
      | 0, _ => rw [rf_pl0]; omega
      | 1, _ => rw [rf_pl1]; omega
    rw [hO.1 0 (mo_pl l k) t (by omega) hp ht, decide_eq_false hne, decide_eq_false_iff_not] at h1
    exact (Classical.not_not.mp h1).symm
theorem rf_C_nd0 (h : rf_C M M' k L c b w) : rf_nd M' 0 0 = rf_d L c 0 := by
  obtain ⟨hL, hc, hd1, hd2, hd3, hx, hl, hr0, hr, h4, h5, hw, hb, hrem⟩ := h
  show (rf_rv M' 0).toNatClampNeg = _
  unfold rf_rv rf_d
  rw [if_pos (by omega), hr0]
  by_cases q : 0 < L
  · rw [if_pos q, if_pos q, nI_clamp (by have := (hc 0 q).2; omega)]
  · rw [if_neg q, if_neg q]; rfl
theorem rf_C_nd {U : me_M} (hZ : rf_Z M) (hO : rf_O M U) (hk : k < 64) (h : rf_C M M' k L c b w) : (∀ l, l < 3 → rf_nd M' 0 (mo_pl l k) = rf_d L c l) ∧ ∀ p, p < 21 → (∀ l, l < 3 → mo_pl l k ≠ p) → rf_nd M' 0 p = rf_nd M 0 p := by
  have e0 := rf_C_nd0 h
  have t0 := rf_tn0 hk
  have a1 : rf_nd M' 0 (1 + k / 16) = rf_d L c 1 := by
    rw [rf_nd_1 M' 0 (by omega), e0, ← t0, rf_C_on hZ h 0, if_pos (by omega)]
  have a2 : rf_nd M' 0 (5 + k / 4) = rf_d L c 2 := by
    have e : 5 + k / 4 = 5 + (4 * (k / 16) + k / 4 % 4) := by omega
    rw [e, rf_nd_2 M' 0 (by omega) (by omega), a1, ← rf_tn1 k, rf_C_on hZ h 1, if_pos (by omega)]
  have f1 : ∀ t, t < 4 → t ≠ k / 16 → rf_nd M' 0 (1 + t) = rf_nd M 0 (1 + t) := fun t ht hne => by
    rw [rf_nd_1 M' 0 ht, rf_nd_1 M 0 ht, e0]
    exact rf_C_off hZ hO hk h (l := 0) (by omega) ht (by rw [t0]; exact hne)
  refine ⟨fun l hl => ?_, fun p hp => ?_⟩
  · match l, hl with
    | 0, _ => exact e0
    | 1, _ => exact a1
    | 2, _ => exact a2
  · refine rf_places (P := fun p => (∀ l, l < 3 → mo_pl l k ≠ p) → rf_nd M' 0 p = rf_nd M 0 p) (fun q => absurd rfl (q 0 (by omega))) (fun t ht q => f1 t ht (fun e => q 1 (by omega) (by rw [rf_pl1, e]))) (fun s t hs ht q => ?_) hp
    rw [rf_nd_2 M' 0 hs ht, rf_nd_2 M 0 hs ht]
    by_cases es : s = k / 16
    · have hne : t ≠ fb_tn k 1 := fun e => q 2 (by omega) (by rw [rf_pl2, es, e, rf_tn1]; omega)
      rw [es, a1, rf_C_off hZ hO hk h (l := 1) (by omega) ht hne, rf_pl1]
    · rw [f1 s hs es]
      refine rf_C_ch h (fun l hl e => h.2.2.2.1 l hl (1 + s) (by omega) (fun l' hl' => ?_) e.symm) ht
      match l', hl' with
      | 0, _ => rw [rf_pl0]; omega
      | 1, _ => rw [rf_pl1]; omega
      | 2, _ => rw [rf_pl2]; omega
end
end
section
/-! a path changed on both sides: what held holds -/
section
variable {M M' U U' : me_M} {k L N N' : Nat} {c : Nat → Nat} {b : Bool} {w : Int32}
/-- what a change leaves of the memory of the reference -/
def rf_UC (M U U' : me_M) (k L : Nat) (b : Bool) (w : Int32) (N' : Nat) : Prop :=
  U' 0 = U 0 ∧ (∀ j, j ≠ k → U' 1 j = U 1 j ∧ U' 2 j = U 2 j) ∧ (U' 1 k = if b = true then 1 else 0) ∧ (b = true → U' 2 k = w) ∧
  (∀ m p, 0 < m → p < 21 → U' 3 (21 * m + p) = U 3 (21 * m + p)) ∧ (∀ p, p < 21 → (∀ l, l < 3 → mo_pl l k ≠ p) → U' 3 p = U 3 p) ∧
  (∃ ma ma', U 4 1 = nI ma ∧ U' 4 1 = nI ma' ∧ ma ≤ ma' ∧ ma' ≤ N' ∧ ∀ l, l < L → (M 1 (rf_nd M 0 (mo_pl l k)) ≠ 0 ∧ rf_nd M 0 (mo_pl l k) ≠ 0 ∧ U' 3 (mo_pl l k) = U 3 (mo_pl l k)) ∨ ∃ x, ma < x ∧ x ≤ ma' ∧ U' 3 (mo_pl l k) = nI x) ∧
  (∀ l, l < 3 → L ≤ l → U' 3 (mo_pl l k) = 0) ∧ (∀ j, j ≠ 0 → j ≠ 1 → U' 4 j = U 4 j) ∧
  (0 < L → b = false → ∃ k', k' < 64 ∧ k' ≠ k ∧ U 1 k' ≠ 0 ∧ ∀ l, l < L → mo_pl l k' = mo_pl l k)
def rf_old (k m p : Nat) : Prop := 0 < m ∨ ∀ l, l < 3 → mo_pl l k ≠ p
theorem rf_split (k m p : Nat) : (m = 0 ∧ ∃ l, l < 3 ∧ mo_pl l k = p) ∨ rf_old k m p := by
  by_cases hm : m = 0
  · by_cases h : ∃ l, l < 3 ∧ mo_pl l k = p
    · exact Or.inl ⟨hm, h⟩
    · exact Or.inr (Or.inr fun l hl e => h ⟨l, hl, e⟩)
  · exact Or.inr (Or.inl (by omega))
theorem rf_pl_inj {l l' k k' : Nat} (hl : l < 3) (hl' : l' < 3) (hk : k < 64) (hk' : k' < 64) (h : mo_pl l k = mo_pl l' k') : l = l' := by
  match l, l', hl, hl' with
  | 0, 0, _, _ => rfl
  | 0, 1, _, _ => rw [rf_pl0, rf_pl1] at h; omega
  | 0, 2, _, _ => rw [rf_pl0, rf_pl2] at h; omega
  | 1, 0, _, _ => rw [rf_pl0, rf_pl1] at h; omega
  | 1, 1, _, _ => rfl
  | 1, 2, _, _ => rw [rf_pl1, rf_pl2] at h; omega
  | 2, 0, _, _ => rw [rf_pl0, rf_pl2] at h; omega
  | 2, 1, _, _ => rw [rf_pl1, rf_pl2] at h; omega
  | 2, 2, _, _ => rfl
theorem rf_wf_iff (M : me_M) (m : Nat) : fb_wf M (rf_rn M m) ↔ rf_rn M m ≤ 60 ∧ ∀ p, p < 5 → fb_w1 M (rf_nd M m p) := by
  constructor
  · rintro ⟨h1, h2, h3⟩
    refine ⟨h1, fun p hp => ?_⟩
    by_cases e : p = 0
    · rw [e]; exact h2
    · have := h3 (p - 1) (by omega)
      rw [show p = 1 + (p - 1) by omega, rf_nd_1 M m (by omega)]
      exact this
  · rintro ⟨h1, h2⟩
    refine ⟨h1, h2 0 (by omega), fun t ht => ?_⟩
    have := h2 (1 + t) (by omega)
    rw [rf_nd_1 M m ht] at this
    exact this
theorem rf_step (hI : rf_I M U N) (hk : k < 64) (hC : rf_C M M' k L c b w) (hU : rf_UC M U U' k L b w N') (hNN : N ≤ N') (hN9 : N' < 2 ^ 31) : rf_I M' U' N' := by
  obtain ⟨hA, hW, hZ, h01, hO, hV, hL, hP, hN, hG, hR, hS⟩ := id hI
  have hZ' := rf_C_Z hZ hC
  obtain ⟨hon, hoff⟩ := rf_C_nd hZ hO hk hC
  have hm := fun {m p : Nat} (h0 : 0 < m) (h1 : m < 14) (h2 : p < 21) => rf_C_m hC h0 h1 h2 (p := p)
  have hcon := rf_C_on hZ hC
  have hcoff := fun {l t : Nat} => rf_C_off (l := l) (t := t) hZ hO hk hC
  have hch0 : ∀ t, t < 4 → fb_ch M' 0 t = 0 := fun t ht => rf_ch0 hZ' ht
  have hrv := fun {m : Nat} (h0 : 0 < m) (h1 : m < 14) => rf_C_rv hC h0 h1
  have hchx := fun {x : Nat} (hx : ∀ l, l < L → x ≠ c l) {t : Nat} (ht : t < 4) => rf_C_ch hC hx ht
  obtain ⟨cL, cc, cd1, cd2, cd3, cx, cl, cr0, cr, c4, c5, cw, cb, crem⟩ := id hC
  obtain ⟨u0, u12, u1k, u2k, u3m, u3f, ⟨ma, ma', g1, g1', g2, g3, g4⟩, u3z, u4, uex⟩ := hU
  -- old places
  have old : ∀ {m p : Nat}, m < 14 → p < 21 → rf_old k m p → rf_nd M' m p = rf_nd M m p ∧ (∀ l, l < L → rf_nd M m p ≠ c l) ∧ U' 3 (21 * m + p) = U 3 (21 * m + p) := by
    intro m p h1 h2 ho
    by_cases hz : 0 < m
    · exact ⟨hm hz h1 h2, fun l hl e => cd1 l hl m p hz h1 h2 e.symm, u3m m p hz h2⟩
    · have e0 : m = 0 := by omega
      subst e0
      have hf : ∀ l, l < 3 → mo_pl l k ≠ p := ho.elim (fun q => absurd q hz) id
      exact ⟨hoff p h2 hf, fun l hl e => cd2 l hl p h2 hf e.symm, by rw [show 21 * 0 + p = p by omega]; exact u3f p h2 hf⟩
  have oldk : ∀ {m k2 : Nat}, k2 < 64 → (0 < m ∨ k2 ≠ k) → U' 1 (64 * m + k2) = U 1 (64 * m + k2) ∧ U' 2 (64 * m + k2) = U 2 (64 * m + k2) := by
    intro m k2 h1 ho
    exact u12 _ (by omega)
  have dpos : ∀ {l : Nat}, rf_d L c l ≠ 0 → l < L ∧ rf_d L c l = c l := by
    intro l h
    unfold rf_d at h ⊢
    by_cases q : l < L
    · rw [if_pos q]; exact ⟨q, rfl⟩
    · rw [if_neg q] at h; exact absurd rfl h
  have dlt : ∀ {l : Nat}, l < L → rf_d L c l = c l := fun h => if_pos h
  have dge : ∀ {l : Nat}, ¬ l < L → rf_d L c l = 0 := fun h => if_neg h
  have hnum : ∀ m p, m < 14 → p < 21 → ∃ x, x ≤ ma' ∧ U' 3 (21 * m + p) = nI x := by
    obtain ⟨ma2, mk2, e1, e2, e3, e4, e5⟩ := hG
    have hma : ma2 = ma ∨ ma2 ≠ ma := Classical.em _
    intro m p h1 h2
    have hle : ma2 = ma := by
      have := (nI_eq (a := ma2) (b := ma) (by omega) (by omega)).mp (e1.symm.trans g1)
      exact this
    subst hle
    rcases rf_split k m p with ⟨rfl, l, hl, rfl⟩ | ho
    · rw [show 21 * 0 + mo_pl l k = mo_pl l k by omega]
      by_cases q : l < L
      · rcases g4 l q with ⟨-, -, e⟩ | ⟨x, hx1, hx2, e⟩
        · obtain ⟨x, hx, ex⟩ := e5 0 (mo_pl l k) (by omega) h2
          rw [show 21 * 0 + mo_pl l k = mo_pl l k by omega] at ex
          exact ⟨x, by omega, e.trans ex⟩
        · exact ⟨x, hx2, e⟩
      · exact ⟨0, by omega, u3z l hl (by omega)⟩
    · rw [(old h1 h2 ho).2.2]
      obtain ⟨x, hx, ex⟩ := e5 m p h1 h2
      exact ⟨x, by omega, ex⟩
  obtain ⟨n1, n2, n3⟩ := hN
  have sep : ∀ {l m : Nat}, l < L → 0 < m → m < 14 → U' 3 (mo_pl l k) ≠ U 3 (21 * m + mo_pl l k) := by
    intro l m hl h0 h1 e
    have hp : mo_pl l k < 21 := rf_pl_lt hk
    obtain ⟨ma2, mk2, e1, e2, e3, e4, e5⟩ := hG
    have hle : ma2 = ma := (nI_eq (a := ma2) (b := ma) (by omega) (by omega)).mp (e1.symm.trans g1)
    subst hle
    rcases g4 l hl with ⟨f1, f2, f3⟩ | ⟨x, hx1, hx2, ex⟩
    · have h9 := (hR.1 (mo_pl l k) hp f2).mp f1
      rw [f3] at e
      by_cases hz : rf_nd M m (mo_pl l k) = 0
      · rw [(n1 m (mo_pl l k) h1 hp).mp hz] at e
        exact f2 ((n1 0 (mo_pl l k) (by omega) hp).mpr (by rw [show 21 * 0 + mo_pl l k = mo_pl l k by omega]; exact e))
      · have h8 := (hR.2 m (mo_pl l k) h0 h1 hp hz).2
        rw [← e] at h8
        exact absurd h9 (Int32.not_lt.mpr h8)
    · obtain ⟨y, hy, ey⟩ := e5 m (mo_pl l k) h1 hp
      rw [ex, ey] at e
      have := (nI_eq (a := x) (b := y) (by omega) (by omega)).mp e
      omega
  have nz : ∀ {l : Nat}, l < L → U' 3 (mo_pl l k) ≠ 0 := by
    intro l hl
    have hp : mo_pl l k < 21 := rf_pl_lt hk
    rcases g4 l hl with ⟨f1, f2, f3⟩ | ⟨x, hx1, hx2, ex⟩
    · rw [f3]
      intro e
      exact f2 ((n1 0 (mo_pl l k) (by omega) hp).mpr (by rw [show 21 * 0 + mo_pl l k = mo_pl l k by omega]; exact e))
    · rw [ex]; exact nI_ne0 (by omega) (by omega)
  have h1' : ∀ m p, m < 14 → p < 21 → (rf_nd M' m p = 0 ↔ U' 3 (21 * m + p) = 0) := by
    intro m p a1 a2
    rcases rf_split k m p with ⟨rfl, l, hl, rfl⟩ | ho
    · rw [hon l hl, show 21 * 0 + mo_pl l k = mo_pl l k by omega]
      by_cases q : l < L
      · rw [dlt q]
        exact ⟨fun e => by have := (cc l q).1; omega, fun e => absurd e (nz q)⟩
      · rw [dge q, u3z l hl (by omega)]
        exact ⟨fun _ => rfl, fun _ => rfl⟩
    · rw [(old a1 a2 ho).1, (old a1 a2 ho).2.2]
      exact n1 m p a1 a2
  refine ⟨⟨fun m a1 => ?_, by rw [u0]; exact hA.2.1, by rw [u0]; exact hA.2.2⟩, fun m a1 => ?_, hZ', fun j hj => ?_, ⟨fun m p t a1 a2 a3 => ?_, fun m p t a1 a2 a3 a4 => ?_, fun m k2 a1 a2 => ?_⟩, fun m k2 a1 a2 a3 => ?_, fun m l k2 a1 a2 a3 a4 => ?_, fun m m' p p' a1 a2 a3 a4 a5 a6 => ?_,
    ⟨h1', fun m p a1 a2 => ?_, fun m m' p a1 a2 a3 a4 => ?_⟩, ?_, ⟨fun p a1 a2 => ?_, fun m p a0 a1 a2 a3 => ?_⟩, ?_⟩
  · -- A
    by_cases e0 : m = 0
    · subst e0
      refine Or.inr ⟨by rw [u0]; exact hA.2.1, ?_⟩
      have e1 : rf_rn M' 0 = rf_d L c 0 := rf_C_nd0 hC
      rw [e1]
      show M' 3 0 = _ ∧ _
      rw [cr0]
      by_cases q : 0 < L
      · rw [if_pos q, dlt q]; exact ⟨rfl, (cc 0 q).2⟩
      · rw [if_neg q, dge q]; exact ⟨rfl, by omega⟩
    · have h9 := hrv (by omega) a1
      have e1 : rf_rn M' m = rf_rn M m := by unfold rf_rn; rw [h9]
      rw [u0, h9, e1]
      exact hA.1 m a1
  · -- Wf
    refine (rf_wf_iff M' m).mpr ⟨?_, fun p hp => ?_⟩
    · by_cases e0 : m = 0
      · subst e0
        have e1 : rf_rn M' 0 = rf_d L c 0 := rf_C_nd0 hC
        rw [e1]
        by_cases q : 0 < L
        · rw [dlt q]; exact (cc 0 q).2
        · rw [dge q]; omega
      · have e1 : rf_rn M' m = rf_rn M m := by unfold rf_rn; rw [hrv (by omega) a1]
        rw [e1]; exact (hW m a1).1
    · rcases rf_split k m p with ⟨rfl, l, hl, rfl⟩ | ho
      · rw [hon l hl]
        have l2 : l < 2 := by
          match l, hl with
          | 0, _ => omega
          | 1, _ => omega
          | 2, _ => rw [rf_pl2] at hp; omega
        intro t ht
        by_cases q : l < L
        · rw [dlt q]
          by_cases e : t = fb_tn k l
          · subst e
            have h9 := hcon l
            rw [if_pos l2, dlt q] at h9
            rw [h9, (cl l q).1 _ ht, if_pos rfl]
            by_cases q1 : l + 1 < L
            · rw [if_pos q1, dlt q1]; exact ⟨rfl, (cc _ q1).2⟩
            · rw [if_neg q1, dge q1, cw (by omega)]; exact ⟨rfl, by omega⟩
          · have h9 := hcoff l2 ht e
            rw [dlt q] at h9
            rw [h9, (cl l q).1 t ht, if_neg e]
            exact ((rf_wf_iff M 0).mp (hW 0 a1)).2 (mo_pl l k) hp t ht
        · rw [dge q, hch0 t ht]
          exact ⟨hZ'.1 t ht, by omega⟩
      · obtain ⟨o1, o2, -⟩ := old a1 (by omega) ho
        rw [o1]
        intro t ht
        rw [hchx o2 ht, (cx _ o2).1 t ht]
        exact ((rf_wf_iff M m).mp (hW m a1)).2 p hp t ht
  · -- 01
    by_cases e : j = k
    · rw [e, u1k]; split
      · exact Or.inr rfl
      · exact Or.inl rfl
    · rw [(u12 j e).1]; exact h01 j hj
  · -- O, levels 0 and 1
    rcases rf_split k m p with ⟨rfl, l, hl, rfl⟩ | ho
    · rw [hon l hl]
      have l2 : l < 2 := by
        match l, hl with
        | 0, _ => omega
        | 1, _ => omega
        | 2, _ => rw [rf_pl2] at a2; omega
      by_cases q : l < L
      · by_cases e : t = fb_tn k l
        · subst e
          have h9 := hcon l
          rw [if_pos l2] at h9
          rw [h9, dlt q, (cl l q).2.1 _ (by omega), if_pos rfl]
          by_cases q1 : l + 1 < L
          · rw [dlt q1, decide_eq_true q1, Bool.true_or, decide_eq_true (by have := (cc _ q1).1; omega)]
          · have hb : b = false := by
              cases hb : b with
              | false => rfl
              | true => have := cb hb; omega
            rw [dge q1, decide_eq_false q1, hb, decide_eq_false (by omega)]; rfl
        · rw [hcoff l2 a3 e, dlt q, (cl l q).2.1 t (by omega), if_neg e]
          exact hO.1 0 (mo_pl l k) t a1 a2 a3
      · rw [dge q, hch0 t a3, hZ'.2.1, b_0, decide_eq_false (by omega)]
    · obtain ⟨o1, o2, -⟩ := old a1 (by omega) ho
      rw [o1, hchx o2 a3, (cx _ o2).2.1]
      exact hO.1 m p t a1 a2 a3
  · -- O, no further bits
    rcases rf_split k m p with ⟨rfl, l, hl, rfl⟩ | ho
    · rw [hon l hl]
      by_cases q : l < L
      · rw [dlt q, (cl l q).2.1 t a4, if_neg (by have := fb_tn_lt k l; omega)]
        exact hO.2.1 0 (mo_pl l k) t a1 a2 a3 a4
      · rw [dge q, hZ'.2.1, b_0]
    · obtain ⟨o1, o2, -⟩ := old a1 a2 ho
      rw [o1, (cx _ o2).2.1]
      exact hO.2.1 m p t a1 a2 a3 a4
  · -- O, level 2
    rcases rf_split k m (5 + k2 / 4) with ⟨rfl, l, hl, e⟩ | ho
    · have el : l = 2 := rf_pl_inj hl (by omega) hk a2 (e.trans (rf_pl2 k2).symm)
      subst el
      have e4 : k / 4 = k2 / 4 := by rw [rf_pl2] at e; omega
      rw [← e, hon 2 hl, show 64 * 0 + k2 = k2 by omega]
      by_cases q : 2 < L
      · rw [dlt q, (cl 2 q).2.1 _ (by omega), rf_tn2, decide_eq_false (show ¬ 2 + 1 < L by omega), Bool.false_or]
        by_cases e5 : k2 = k
        · subst e5
          rw [if_pos rfl, u1k]
          cases b <;> decide
        · rw [if_neg (by omega), (u12 k2 e5).1, e]
          have := hO.2.2 0 k2 a1 a2
          rw [show 64 * 0 + k2 = k2 by omega] at this
          exact this
      · rw [dge q, hZ'.2.1, b_0]
        by_cases e5 : k2 = k
        · have hb : b = false := by
            cases hb : b with
            | false => rfl
            | true => have := cb hb; omega
          rw [e5, u1k, hb]; decide
        · rw [(u12 k2 e5).1]
          have h9 := hO.2.2 0 k2 a1 a2
          rw [show 64 * 0 + k2 = k2 by omega, ← e, crem 2 hl (by omega) _ (by omega), rf_tn2, decide_eq_false (by omega)] at h9
          exact h9
    · obtain ⟨o1, o2, -⟩ := old a1 (by omega) ho
      rw [o1, (cx _ o2).2.1, (oldk a2 (ho.elim Or.inl (fun q => Or.inr (fun e5 => q 2 (by omega) (by rw [rf_pl2, e5]))))).1]
      exact hO.2.2 m k2 a1 a2
  · -- V
    rcases rf_split k m (5 + k2 / 4) with ⟨rfl, l, hl, e⟩ | ho
    · have el : l = 2 := rf_pl_inj hl (by omega) hk a2 (e.trans (rf_pl2 k2).symm)
      subst el
      have e4 : k / 4 = k2 / 4 := by rw [rf_pl2] at e; omega
      rw [show 64 * 0 + k2 = k2 by omega] at a3 ⊢
      by_cases q : 2 < L
      · rw [← e, hon 2 hl, dlt q, (cl 2 q).1 _ (by omega), rf_tn2]
        by_cases e5 : k2 = k
        · subst e5
          rw [if_pos rfl, if_neg (by omega)]
          have hb : b = true := by
            cases hb : b with
            | true => rfl
            | false => rw [u1k, hb] at a3; exact absurd rfl a3
          exact (u2k hb).symm
        · rw [if_neg (by omega), (u12 k2 e5).2, e]
          rw [(u12 k2 e5).1] at a3
          have := hV 0 k2 a1 a2 (by rw [show 64 * 0 + k2 = k2 by omega]; exact a3)
          rw [show 64 * 0 + k2 = k2 by omega] at this
          exact this
      · exfalso
        by_cases e5 : k2 = k
        · have hb : b = false := by
            cases hb : b with
            | false => rfl
            | true => have := cb hb; omega
          rw [e5, u1k, hb] at a3
          exact a3 rfl
        · rw [(u12 k2 e5).1] at a3
          have h9 := hO.2.2 0 k2 a1 a2
          rw [show 64 * 0 + k2 = k2 by omega, ← e, crem 2 hl (by omega) _ (by omega), rf_tn2, decide_eq_false (by omega)] at h9
          exact absurd a3 (of_decide_eq_false h9.symm)
    · obtain ⟨o1, o2, -⟩ := old a1 (by omega) ho
      have ok := oldk (m := m) a2 (ho.elim Or.inl (fun q => Or.inr (fun e5 => q 2 (by omega) (by rw [rf_pl2, e5]))))
      rw [ok.1] at a3
      rw [o1, (cx _ o2).1 _ (by omega), ok.2]
      exact hV m k2 a1 a2 a3
  · -- L
    rcases rf_split k m (mo_pl l k2) with ⟨rfl, l1, hl1, e⟩ | ho
    · have el : l1 = l := rf_pl_inj hl1 a2 hk a3 e
      subst el
      rw [← e, hon l1 hl1] at a4
      obtain ⟨q, -⟩ := dpos a4
      cases hb : b with
      | true => exact ⟨k, hk, e, by rw [show 64 * 0 + k = k by omega, u1k, hb]; decide⟩
      | false =>
        obtain ⟨k', h1, h2, h3, h4⟩ := uex (by omega) hb
        exact ⟨k', h1, (h4 l1 q).trans e, by rw [show 64 * 0 + k' = k' by omega, (u12 k' h2).1]; exact h3⟩
    · obtain ⟨o1, o2, -⟩ := old a1 (rf_pl_lt a3) ho
      rw [o1] at a4
      obtain ⟨k', h1, h2, h3⟩ := hL m l k2 a1 a2 a3 a4
      refine ⟨k', h1, h2, ?_⟩
      rw [(oldk h1 (ho.elim Or.inl (fun q => Or.inr (fun e5 => q l a2 (by rw [← e5]; exact h2))))).1]
      exact h3
  · -- P
    rcases rf_split k m p with ⟨rfl, l, hl, rfl⟩ | ho
    · rw [hon l hl] at a5 a6
      obtain ⟨q, qe⟩ := dpos a5
      rcases rf_split k m' p' with ⟨rfl, l', hl', rfl⟩ | ho'
      · rw [hon l' hl'] at a6
        obtain ⟨q', qe'⟩ := dpos (l := l') (by rw [← a6]; exact a5)
        rw [cd3 l l' q q' (by rw [← qe, ← qe']; exact a6)]
      · obtain ⟨o1, o2, -⟩ := old a2 a4 ho'
        rw [qe, o1] at a6
        exact absurd a6.symm (o2 l q)
    · obtain ⟨o1, o2, -⟩ := old a1 a3 ho
      rw [o1] at a5 a6
      rcases rf_split k m' p' with ⟨rfl, l', hl', rfl⟩ | ho'
      · rw [hon l' hl'] at a6
        obtain ⟨q', qe'⟩ := dpos (l := l') (by rw [← a6]; exact a5)
        rw [qe'] at a6
        exact absurd a6 (o2 l' q')
      · rw [(old a2 a4 ho').1] at a6
        exact hP m m' p p' a1 a2 a3 a4 a5 a6
  · -- N, not negative
    obtain ⟨x, hx, ex⟩ := hnum m p a1 a2
    rw [ex]; exact nI_pos' (by omega)
  · -- N, equal
    by_cases em : m = m'
    · subst em; exact ⟨fun _ => rfl, fun _ => rfl⟩
    · rcases rf_split k m p with ⟨rfl, l, hl, rfl⟩ | ho
      · rw [hon l hl] at a4 ⊢
        obtain ⟨q, qe⟩ := dpos a4
        obtain ⟨o1, o2, o3⟩ := old a2 a3 (Or.inl (by omega : 0 < m'))
        rw [o1, o3, qe, show 21 * 0 + mo_pl l k = mo_pl l k by omega]
        exact ⟨fun e => absurd e.symm (o2 l q), fun e => absurd e (sep q (by omega) a2)⟩
      · obtain ⟨o1, o2, o3⟩ := old a1 a3 ho
        rw [o1] at a4
        rw [o1, o3]
        rcases rf_split k m' p with ⟨rfl, l, hl, rfl⟩ | ho'
        · rw [hon l hl, show 21 * 0 + mo_pl l k = mo_pl l k by omega]
          by_cases q : l < L
          · rw [dlt q]
            exact ⟨fun e => absurd e (o2 l q), fun e => absurd e.symm (sep q (by omega) a1)⟩
          · rw [dge q, u3z l hl (by omega)]
            exact n1 m _ a1 a3
        · rw [(old a2 a3 ho').1, (old a2 a3 ho').2.2]
          exact n3 m m' p a1 a2 a3 a4
  · -- G
    obtain ⟨ma2, mk2, e1, e2, e3, e4, e5⟩ := hG
    have hle : ma2 = ma := (nI_eq (a := ma2) (b := ma) (by omega) (by omega)).mp (e1.symm.trans g1)
    exact ⟨ma', mk2, g1', (u4 2 (by decide) (by decide)).trans e2, by omega, g3, hnum⟩
  · -- R, the current map
    rcases rf_split k 0 p with ⟨-, l, hl, rfl⟩ | ho
    · rw [hon l hl] at a2 ⊢
      obtain ⟨q, qe⟩ := dpos a2
      rw [qe, u4 2 (by decide) (by decide)]
      refine ⟨fun _ => ?_, fun _ => (cl l q).2.2⟩
      rcases g4 l q with ⟨f1, f2, f3⟩ | ⟨x, hx1, hx2, ex⟩
      · rw [f3]; exact (hR.1 (mo_pl l k) a1 f2).mp f1
      · obtain ⟨ma2, mk2, e1, e2, e3, e4, e5⟩ := hG
        have hle : ma2 = ma := (nI_eq (a := ma2) (b := ma) (by omega) (by omega)).mp (e1.symm.trans g1)
        rw [ex, e2]; exact nI_lt (by omega) (by omega)
    · obtain ⟨o1, o2, o3⟩ := old (m := 0) (by omega) a1 ho
      rw [show 21 * 0 + p = p by omega] at o3
      rw [o1] at a2 ⊢
      rw [(cx _ o2).2.2, o3, u4 2 (by decide) (by decide)]
      exact hR.1 p a1 a2
  · -- R, the others
    obtain ⟨o1, o2, o3⟩ := old a1 a2 (Or.inl a0)
    rw [o1] at a3 ⊢
    rw [(cx _ o2).2.2, o3, u4 2 (by decide) (by decide)]
    exact hR.2 m p a0 a1 a2 a3
  · -- the single numbers
    obtain ⟨s1, s2, s3, s4, s5⟩ := hS
    refine ⟨?_, ?_, ?_, ?_, ?_⟩
    · rw [c5, u4 5 (by decide) (by decide)]; exact s1
    · rw [c5]; exact s2
    · rw [c5, u4 3 (by decide) (by decide)]; exact s3
    · rw [c5, u4 4 (by decide) (by decide)]; exact s4
    · rw [c5]; exact s5
end
end
section
/-! the path of a key made the current map's own: which nodes it has then -/
theorem rf_tu (M : me_M) (f n : Nat) (hf : 60 ≤ n + f) (h : ∃ a, n ≤ a ∧ a ≤ 60 ∧ M 2 a = 0) : n ≤ fb_tu M f n ∧ fb_tu M f n ≤ 60 ∧ M 2 (fb_tu M f n) = 0 := by
  induction f generalizing n with
  | zero =>
    obtain ⟨a, h1, h2, h3⟩ := h
    have e : a = n := by omega
    subst e
    exact ⟨Nat.le_refl _, h2, h3⟩
  | succ f ih =>
    obtain ⟨a, h1, h2, h3⟩ := h
    unfold fb_tu
    by_cases q : n < 60 ∧ M 2 n ≠ 0
    · rw [if_pos q]
      have hne : a ≠ n := fun e => q.2 (by rw [← e]; exact h3)
      obtain ⟨r1, r2, r3⟩ := ih (n + 1) (by omega) ⟨a, by omega, h2, h3⟩
      exact ⟨by omega, r2, r3⟩
    · rw [if_neg q]
      refine ⟨Nat.le_refl _, by omega, ?_⟩
      by_cases e : M 2 n = 0
      · exact e
      · have : a = n := by
          have : ¬ n < 60 := fun z => q ⟨z, e⟩
          omega
        rw [← this]; exact h3
theorem rf_unm (K : Nat → Int32) (h : rf_nb (rf_mk K) < 60) : ∃ a, 1 ≤ a ∧ a ≤ 60 ∧ K a = 0 := by
  apply Classical.byContradiction
  intro hn
  have hall : ∀ a, 1 ≤ a → a ≤ 60 → rf_mk K a = true := fun a h1 h2 => by
    cases hk : rf_mk K a with
    | true => rfl
    | false =>
      refine absurd ⟨a, h1, h2, ?_⟩ hn
      have : ¬ K a ≠ 0 := by simpa [rf_mk] using hk
      exact Classical.not_not.mp this
  have : ∀ n, n ≤ 60 → n ≤ me_cn (rf_mk K) (n + 1) := by
    intro n
    induction n with
    | zero => intro _; omega
    | succ n ih =>
      intro hn
      have h1 := ih (by omega)
      have h2 := hall (n + 1) (by omega) hn
      show n + 1 ≤ me_cn (rf_mk K) (n + 1) + if rf_mk K (n + 1) = true then 1 else 0
      rw [if_pos h2]
      omega
  have h9 : 60 ≤ me_cn (rf_mk K) 61 := this 60 (Nat.le_refl _)
  unfold rf_nb at h
  omega
theorem rf_own (M : me_M) (n : Nat) (hfree : M 1 n = 0 → rf_nb (rf_mk (M 2)) < 60) :
    (M 1 n ≠ 0 ∧ fb_own M n = (n, M)) ∨
    (M 1 n = 0 ∧ ∃ a, 1 ≤ a ∧ a ≤ 60 ∧ M 2 a = 0 ∧ (fb_own M n).1 = a ∧ (fb_own M n).2 2 = upd (M 2) a 1 ∧ (fb_own M n).2 0 = upd (M 0) a (M 0 n) ∧ (fb_own M n).2 1 = upd (M 1) a 1 ∧
      (∀ t, t < 4 → (fb_own M n).2 (6 + a) t = M (6 + n) t) ∧ (∀ x, x ≠ a → (fb_own M n).2 (6 + x) = M (6 + x)) ∧ (fb_own M n).2 3 = M 3 ∧ (fb_own M n).2 4 = M 4 ∧ (fb_own M n).2 5 = M 5) := by
  by_cases h : M 1 n = 0
  · refine Or.inr ⟨h, fb_tu M 60 1, ?_⟩
    obtain ⟨a1, a2, a3⟩ := rf_tu M 60 1 (by omega) (rf_unm (M 2) (hfree h))
    have e : fb_own M n = (fb_tu M 60 1, me_up (me_up (me_set (me_up M 2 (fb_tu M 60 1) 1) (6 + fb_tu M 60 1) (va_cpy (M (6 + n)) (M (6 + fb_tu M 60 1)) 0 0 4)) 0 (fb_tu M 60 1) (M 0 n)) 1 (fb_tu M 60 1) 1) := by
      unfold fb_own
      rw [if_neg (fun z => z h)]
    rw [e]
    generalize fb_tu M 60 1 = a at a1 a2 a3 ⊢
    refine ⟨a1, a2, a3, rfl, ?_, ?_, ?_, ?_, ?_, ?_, ?_, ?_⟩
    · dsimp only
      rw [me_up_n _ _ _ (by decide), me_up_n _ _ _ (by decide), me_set_n _ _ (by omega), me_up_a]
    · dsimp only
      rw [me_up_n _ _ _ (by decide), me_up_a, me_set_n _ _ (by omega), me_up_n _ _ _ (by decide)]
    · dsimp only
      rw [me_up_a, me_up_n _ _ _ (by decide), me_set_n _ _ (by omega), me_up_n _ _ _ (by decide)]
    · intro t ht
      dsimp only
      rw [me_up_n _ _ _ (by omega), me_up_n _ _ _ (by omega), me_set_s]
      unfold va_cpy
      rw [if_pos (by omega), show 0 + (t - 0) = t by omega]
    · intro x hx
      dsimp only
      rw [me_up_n _ _ _ (by omega), me_up_n _ _ _ (by omega), me_set_n _ _ (by omega), me_up_n _ _ _ (by omega)]
    · dsimp only
      rw [me_up_n _ _ _ (by decide), me_up_n _ _ _ (by decide), me_set_n _ _ (by omega), me_up_n _ _ _ (by decide)]
    · dsimp only
      rw [me_up_n _ _ _ (by decide), me_up_n _ _ _ (by decide), me_set_n _ _ (by omega), me_up_n _ _ _ (by decide)]
    · dsimp only
      rw [me_up_n _ _ _ (by decide), me_up_n _ _ _ (by decide), me_set_n _ _ (by omega), me_up_n _ _ _ (by decide)]
  · refine Or.inl ⟨h, ?_⟩
    unfold fb_own
    rw [if_pos h]
/-- the node of level j on the path of k in the current map -/
def rf_n (M : me_M) (k j : Nat) : Nat := rf_nd M 0 (mo_pl j k)
/-- the path is the current map's own down to level l: nodes c, memory Q; K the marks of all nodes in use -/
def rf_Q (M : me_M) (K : Nat → Int32) (k l : Nat) (c : Nat → Nat) (Q : me_M) : Prop :=
  (∀ j, j ≤ l → (1 ≤ c j ∧ c j ≤ 60) ∧ ((M 1 (rf_n M k j) ≠ 0 ∧ c j = rf_n M k j) ∨ (M 1 (rf_n M k j) = 0 ∧ K (c j) = 0)) ∧ Q 2 (c j) ≠ 0 ∧ Q 1 (c j) ≠ 0) ∧
  (∀ j j', j ≤ l → j' ≤ l → c j = c j' → j = j') ∧
  (∀ x, (∀ j, j ≤ l → x ≠ c j) → (∀ t, t < 4 → Q (6 + x) t = M (6 + x) t) ∧ Q 0 x = M 0 x ∧ Q 1 x = M 1 x) ∧
  (∀ j, j ≤ l → (∀ t, t < 4 → Q (6 + c j) t = if t = fb_tn k j ∧ j < l then nI (c (j + 1)) else M (6 + rf_n M k j) t) ∧ (Q 0 (c j) = if j < l then M 0 (rf_n M k j) ||| fb_bit k j else M 0 (rf_n M k j))) ∧
  (∀ x, K x ≠ 0 → Q 2 x ≠ 0) ∧ rf_nb (rf_mk (Q 2)) = rf_nb (rf_mk K) + me_cn (fun j => decide (M 1 (rf_n M k j) = 0)) (l + 1) ∧ Q 3 = M 3 ∧ Q 4 = M 4 ∧ Q 5 = M 5
section
variable {M U : me_M} {N k l : Nat} {K : Nat → Int32} {c : Nat → Nat} {Q : me_M}
/-- the first node -/
theorem rf_Q0 (hI : rf_I M U N) (hk : k < 64) (hS : rf_S M (fun _ => True) K) (hroom : rf_nb (rf_mk K) + me_cn (fun j => decide (M 1 (rf_n M k j) = 0)) 1 ≤ 60) :
    rf_Q M K k 0 (fun _ => (fb_own (me_set M 2 K) (rf_rn M 0)).1) (fb_own (me_set M 2 K) (rf_rn M 0)).2 := by
  have e0 : rf_n M k 0 = rf_rn M 0 := rfl
  have hlt : rf_rn M 0 < 61 := rf_nd_lt hI (m := 0) (p := 0) (by omega) (by omega)
  have hZ : M 1 0 = 0 := hI.2.2.1.2.2
  have hcn : me_cn (fun j => decide (M 1 (rf_n M k j) = 0)) 1 = if M 1 (rf_rn M 0) = 0 then 1 else 0 := by
    show 0 + (if decide (M 1 (rf_n M k 0) = 0) = true then 1 else 0) = _
    rw [e0, Nat.zero_add]
    by_cases q : M 1 (rf_rn M 0) = 0
    · rw [if_pos q, if_pos (decide_eq_true q)]
    · rw [if_neg q, if_neg (fun z => q (of_decide_eq_true z))]
  have s2 : me_set M 2 K 2 = K := me_set_s _ _ _
  have sn : ∀ {x : Nat}, x ≠ 2 → me_set M 2 K x = M x := fun h => me_set_n _ _ h
  rcases rf_own (me_set M 2 K) (rf_rn M 0) (fun h => by rw [s2]; rw [sn (by decide)] at h; rw [hcn, if_pos h] at hroom; omega) with ⟨h, e⟩ | ⟨h, a, a1, a2, a3, e1, e2, e3, e4, e5, e6, e7, e8, e9⟩
  · rw [sn (by decide)] at h
    have hne : rf_rn M 0 ≠ 0 := fun z => h (by rw [z]; exact hZ)
    have hK : K (rf_rn M 0) ≠ 0 := (hS _ hlt).mpr ⟨hne, 0, 0, by omega, trivial, by omega, rfl⟩
    rw [e]
    refine ⟨fun j hj => ?_, fun j j' h1 h2 _ => by omega, fun x hx => ?_, fun j hj => ?_, fun x hx => ?_, ?_, sn (x := 3) (by decide), sn (x := 4) (by decide), sn (x := 5) (by decide)⟩
    · have ej : j = 0 := by omega
      subst ej
      exact ⟨⟨by show 1 ≤ rf_rn M 0; omega, by show rf_rn M 0 ≤ 60; omega⟩, Or.inl ⟨h, rfl⟩, by show me_set M 2 K 2 (rf_rn M 0) ≠ 0; rw [s2]; exact hK, by show me_set M 2 K 1 (rf_rn M 0) ≠ 0; rw [sn (by decide)]; exact h⟩
    · refine ⟨fun t _ => ?_, ?_, ?_⟩
      · show me_set M 2 K (6 + x) t = _
        rw [sn (by omega)]
      · show me_set M 2 K 0 x = _
        rw [sn (by decide)]
      · show me_set M 2 K 1 x = _
        rw [sn (by decide)]
    · have ej : j = 0 := by omega
      subst ej
      refine ⟨fun t _ => ?_, ?_⟩
      · show me_set M 2 K (6 + rf_rn M 0) t = _
        rw [sn (by omega), if_neg (by omega)]; rfl
      · show me_set M 2 K 0 (rf_rn M 0) = _
        rw [sn (by decide), if_neg (by omega)]; rfl
    · show me_set M 2 K 2 x ≠ 0
      rw [s2]; exact hx
    · show rf_nb (rf_mk (me_set M 2 K 2)) = _
      rw [s2, hcn, if_neg h]; rfl
  · rw [sn (by decide)] at h
    rw [s2] at a3 e2
    rw [sn (by decide)] at e3 e4
    refine ⟨fun j hj => ?_, fun j j' h1 h2 _ => by omega, fun x hx => ?_, fun j hj => ?_, fun x hx => ?_, ?_, e7.trans (sn (by decide)), e8.trans (sn (by decide)), e9.trans (sn (by decide))⟩
    · have ej : j = 0 := by omega
      subst ej
      refine ⟨?_, Or.inr ⟨h, ?_⟩, ?_, ?_⟩
      · show 1 ≤ (fb_own (me_set M 2 K) (rf_rn M 0)).1 ∧ _
        rw [e1]; exact ⟨a1, a2⟩
      · show K (fb_own (me_set M 2 K) (rf_rn M 0)).1 = 0
        rw [e1]; exact a3
      · show (fb_own (me_set M 2 K) (rf_rn M 0)).2 2 (fb_own (me_set M 2 K) (rf_rn M 0)).1 ≠ 0
        rw [e1, e2]; unfold upd; rw [if_pos rfl]; decide
      · show (fb_own (me_set M 2 K) (rf_rn M 0)).2 1 (fb_own (me_set M 2 K) (rf_rn M 0)).1 ≠ 0
        rw [e1, e4]; unfold upd; rw [if_pos rfl]; decide
    · have hxa : x ≠ a := by rw [← e1]; exact hx 0 (by omega)
      refine ⟨fun t _ => ?_, ?_, ?_⟩
      · rw [e6 x hxa, sn (by omega)]
      · rw [e3]; unfold upd; rw [if_neg hxa]
      · rw [e4]; unfold upd; rw [if_neg hxa]
    · have ej : j = 0 := by omega
      subst ej
      refine ⟨fun t ht => ?_, ?_⟩
      · show (fb_own (me_set M 2 K) (rf_rn M 0)).2 (6 + (fb_own (me_set M 2 K) (rf_rn M 0)).1) t = _
        rw [e1, e5 t ht, sn (by omega), if_neg (by omega)]; rfl
      · show (fb_own (me_set M 2 K) (rf_rn M 0)).2 0 (fb_own (me_set M 2 K) (rf_rn M 0)).1 = _
        rw [e1, e3, if_neg (by omega)]; unfold upd; rw [if_pos rfl]; rfl
    · rw [e2]; unfold upd
      split
      · decide
      · exact hx
    · rw [e2, hcn, if_pos h]
      unfold rf_nb
      refine rf_cn_up (a := a) (by omega) (by simp [rf_mk, a3]) (by simp [rf_mk, upd]) (fun i _ hi => by simp [rf_mk, upd, hi])
end
end
section
/-! .. one level further down -/
section
variable {M U : me_M} {N k l : Nat} {K : Nat → Int32} {c : Nat → Nat} {Q : me_M}
theorem rf_n_succ (M : me_M) {k l : Nat} (hk : k < 64) (hl : l < 2) : rf_n M k (l + 1) = fb_ch M (rf_n M k l) (fb_tn k l) := by
  unfold rf_n rf_nd
  rw [← rf_na M _ hk (by omega), ← rf_na M _ hk (by omega)]
  rfl
theorem rf_Q_new (hI : rf_I M U N) (hk : k < 64) (hS : rf_S M (fun _ => True) K) (hl : l < 2) (hQ : rf_Q M K k l c Q) : ∀ j, j ≤ l → rf_n M k (l + 1) ≠ c j := by
  obtain ⟨q1, q2, q3, q4, q5, q6, q7, q8, q9⟩ := hQ
  intro j hj e
  obtain ⟨⟨b1, b2⟩, h, -, -⟩ := q1 j hj
  have hz : rf_n M k (l + 1) ≠ 0 := by omega
  have hp : ∀ i, mo_pl i k < 21 := fun i => rf_pl_lt hk
  rcases h with ⟨-, h⟩ | ⟨-, h⟩
  · have h9 := hI.2.2.2.2.2.2.2.1 0 0 (mo_pl (l + 1) k) (mo_pl j k) (by omega) (by omega) (hp _) (hp _) hz (by rw [h] at e; exact e)
    have := rf_pl_inj (by omega) (by omega) hk hk h9
    omega
  · rw [← e] at h
    exact absurd h ((hS _ (rf_nd_lt hI (m := 0) (by omega) (hp _))).mpr ⟨hz, 0, mo_pl (l + 1) k, by omega, trivial, hp _, rfl⟩)
/-- the node below is made own: z its number then, Q1 the memory -/
theorem rf_Q_own (hI : rf_I M U N) (hk : k < 64) (hS : rf_S M (fun _ => True) K) (hl : l < 2) (hQ : rf_Q M K k l c Q) (hroom : rf_nb (rf_mk K) + me_cn (fun j => decide (M 1 (rf_n M k j) = 0)) (l + 2) ≤ 60) :
    ∃ z Q1, fb_own Q (rf_n M k (l + 1)) = (z, Q1) ∧ (1 ≤ z ∧ z ≤ 60) ∧ ((M 1 (rf_n M k (l + 1)) ≠ 0 ∧ z = rf_n M k (l + 1)) ∨ (M 1 (rf_n M k (l + 1)) = 0 ∧ K z = 0)) ∧ Q1 2 z ≠ 0 ∧ Q1 1 z ≠ 0 ∧ (∀ j, j ≤ l → z ≠ c j) ∧
      (∀ x, x ≠ z → Q1 (6 + x) = Q (6 + x) ∧ Q1 0 x = Q 0 x ∧ Q1 1 x = Q 1 x) ∧ (∀ t, t < 4 → Q1 (6 + z) t = M (6 + rf_n M k (l + 1)) t) ∧ Q1 0 z = M 0 (rf_n M k (l + 1)) ∧ (∀ x, Q 2 x ≠ 0 → Q1 2 x ≠ 0) ∧
      rf_nb (rf_mk (Q1 2)) = rf_nb (rf_mk K) + me_cn (fun j => decide (M 1 (rf_n M k j) = 0)) (l + 2) ∧ Q1 3 = M 3 ∧ Q1 4 = M 4 ∧ Q1 5 = M 5 := by
  have hnew := rf_Q_new hI hk hS hl hQ
  obtain ⟨q1, q2, q3, q4, q5, q6, q7, q8, q9⟩ := hQ
  have hlt : rf_n M k (l + 1) < 61 := rf_nd_lt hI (m := 0) (by omega) (rf_pl_lt hk)
  obtain ⟨r1, r2, r3⟩ := q3 _ hnew
  have hcn : me_cn (fun j => decide (M 1 (rf_n M k j) = 0)) (l + 2) = me_cn (fun j => decide (M 1 (rf_n M k j) = 0)) (l + 1) + if M 1 (rf_n M k (l + 1)) = 0 then 1 else 0 := by
    show _ + (if decide (M 1 (rf_n M k (l + 1)) = 0) = true then 1 else 0) = _
    by_cases q : M 1 (rf_n M k (l + 1)) = 0
    · rw [if_pos q, if_pos (decide_eq_true q)]
    · rw [if_neg q, if_neg (fun z => q (of_decide_eq_true z))]
  rcases rf_own Q (rf_n M k (l + 1)) (fun h => by rw [r3] at h; rw [hcn, if_pos h] at hroom; omega) with ⟨h, e⟩ | ⟨h, a, a1, a2, a3, e1, e2, e3, e4, e5, e6, e7, e8, e9⟩
  · rw [r3] at h
    have hne : rf_n M k (l + 1) ≠ 0 := fun z => h (by rw [z]; exact hI.2.2.1.2.2)
    have hK : K (rf_n M k (l + 1)) ≠ 0 := (hS _ hlt).mpr ⟨hne, 0, mo_pl (l + 1) k, by omega, trivial, rf_pl_lt hk, rfl⟩
    exact ⟨_, _, e, ⟨by omega, by omega⟩, Or.inl ⟨h, rfl⟩, q5 _ hK, by rw [r3]; exact h, hnew, fun x _ => ⟨rfl, rfl, rfl⟩, r1, r2, fun x hx => hx, by rw [hcn, if_neg h]; exact q6, q7, q8, q9⟩
  · rw [r3] at h
    have hac : ∀ j, j ≤ l → a ≠ c j := fun j hj e => (q1 j hj).2.2.1 (by rw [← e]; exact a3)
    refine ⟨a, (fb_own Q (rf_n M k (l + 1))).2, by rw [← e1], ⟨a1, a2⟩, Or.inr ⟨h, ?_⟩, ?_, ?_, hac, fun x hx => ⟨e6 x hx, ?_, ?_⟩, fun t ht => (e5 t ht).trans (r1 t ht), ?_, fun x hx => ?_, ?_, e7.trans q7, e8.trans q8, e9.trans q9⟩
    · apply Classical.byContradiction
      intro hK
      exact q5 a hK a3
    · rw [e2]; unfold upd; rw [if_pos rfl]; decide
    · rw [e4]; unfold upd; rw [if_pos rfl]; decide
    · rw [e3]; unfold upd; rw [if_neg hx]
    · rw [e4]; unfold upd; rw [if_neg hx]
    · rw [e3]; unfold upd; rw [if_pos rfl]; exact r2
    · rw [e2]; unfold upd
      split
      · decide
      · exact hx
    · rw [e2, hcn, if_pos h, ← Nat.add_assoc, ← q6]
      unfold rf_nb
      refine rf_cn_up (a := a) (by omega) (by simp [rf_mk, a3]) (by simp [rf_mk, upd]) (fun i _ hi => by simp [rf_mk, upd, hi])
theorem rf_Q_step (hI : rf_I M U N) (hk : k < 64) (hS : rf_S M (fun _ => True) K) (hl : l < 2) (hQ : rf_Q M K k l c Q) (hroom : rf_nb (rf_mk K) + me_cn (fun j => decide (M 1 (rf_n M k j) = 0)) (l + 2) ≤ 60) :
    rf_Q M K k (l + 1) (fun j => if j ≤ l then c j else (fb_own Q (fb_ch Q (c l) (fb_tn k l))).1) (fb_open (fb_own Q (fb_ch Q (c l) (fb_tn k l))).2 (c l) k l (nI (fb_own Q (fb_ch Q (c l) (fb_tn k l))).1)) := by
  have hch : fb_ch Q (c l) (fb_tn k l) = rf_n M k (l + 1) := by
    rw [rf_n_succ M hk hl]
    unfold fb_ch
    rw [(hQ.2.2.2.1 l (Nat.le_refl _)).1 _ (fb_tn_lt k l), if_neg (by omega)]
  rw [hch]
  obtain ⟨z, Q1, e, zb, zk, z2, z1, zc, zx, zr, zo, zm, zn, z3, z4, z5⟩ := rf_Q_own hI hk hS hl hQ hroom
  rw [e]
  obtain ⟨q1, q2, q3, q4, q5, q6, q7, q8, q9⟩ := hQ
  show rf_Q M K k (l + 1) (fun j => if j ≤ l then c j else z) (fb_open Q1 (c l) k l (nI z))
  obtain ⟨d, hd⟩ : ∃ d : Nat → Nat, d = fun j => if j ≤ l then c j else z := ⟨_, rfl⟩
  rw [← hd]
  have cj : ∀ {j : Nat}, j ≤ l → d j = c j := fun h => by rw [hd]; exact if_pos h
  have cz : d (l + 1) = z := by rw [hd]; exact if_neg (by omega)
  have hcl : c l ≠ z := fun e => zc l (Nat.le_refl _) e.symm
  -- what open leaves
  have o2 : ∀ {a : Nat}, a ≠ 0 → (∀ x, a ≠ 6 + x) → fb_open Q1 (c l) k l (nI z) a = Q1 a := by
    intro a h1 h2
    unfold fb_open
    rw [me_up_n _ _ _ h1, me_up_n _ _ _ (h2 _)]
  have o6 : ∀ {x t : Nat}, (x ≠ c l ∨ t ≠ fb_tn k l) → fb_open Q1 (c l) k l (nI z) (6 + x) t = Q1 (6 + x) t := by
    intro x t h
    unfold fb_open
    rw [me_up_n _ _ _ (by omega)]
    by_cases ex : x = c l
    · subst ex
      exact me_up_j _ _ _ (h.elim (fun q => absurd rfl q) id)
    · rw [me_up_n _ _ _ (by omega)]
  have o6c : fb_open Q1 (c l) k l (nI z) (6 + c l) (fb_tn k l) = nI z := by
    unfold fb_open
    rw [me_up_n _ _ _ (by omega)]
    exact me_up_s _ _ _ _
  have o0 : ∀ {x : Nat}, x ≠ c l → fb_open Q1 (c l) k l (nI z) 0 x = Q1 0 x := by
    intro x h
    unfold fb_open
    rw [me_up_j _ _ _ h, me_up_n _ _ _ (by omega)]
  have o0c : fb_open Q1 (c l) k l (nI z) 0 (c l) = Q1 0 (c l) ||| fb_bit k l := by
    unfold fb_open
    exact me_up_s _ _ _ _
  have t1 := o2 (a := 1) (by decide) (by omega)
  have t2 := o2 (a := 2) (by decide) (by omega)
  refine ⟨fun j hj => ?_, fun j j' h1 h2 h3 => ?_, fun x hx => ?_, fun j hj => ?_, fun x hx => ?_, by rw [t2]; exact zn, (o2 (by decide) (by omega)).trans z3, (o2 (by decide) (by omega)).trans z4, (o2 (by decide) (by omega)).trans z5⟩
  · by_cases h : j ≤ l
    · obtain ⟨w1, w2, w3, w4⟩ := q1 j h
      have hne : c j ≠ z := fun e => zc j h e.symm
      rw [cj h, t1, t2]
      exact ⟨w1, w2, zm _ w3, by rw [(zx _ hne).2.2]; exact w4⟩
    · have ej : j = l + 1 := by omega
      subst ej
      rw [cz, t1, t2]
      exact ⟨zb, zk, z2, z1⟩
  · by_cases h : j ≤ l
    · by_cases h' : j' ≤ l
      · rw [cj h, cj h'] at h3
        exact q2 j j' h h' h3
      · have ej : j' = l + 1 := by omega
        subst ej
        rw [cj h, cz] at h3
        exact absurd h3.symm (zc j h)
    · have ej : j = l + 1 := by omega
      subst ej
      by_cases h' : j' ≤ l
      · rw [cj h', cz] at h3
        exact absurd h3 (zc j' h')
      · omega
  · have hxz : x ≠ z := by have := hx (l + 1) (by omega); rw [cz] at this; exact this
    have hxc : ∀ j, j ≤ l → x ≠ c j := fun j hj => by have := hx j (by omega); rw [cj hj] at this; exact this
    have hxl := hxc l (Nat.le_refl _)
    obtain ⟨p1, p2, p3⟩ := zx x hxz
    obtain ⟨s1, s2, s3⟩ := q3 x hxc
    refine ⟨fun t ht => ?_, ?_, ?_⟩
    · rw [o6 (Or.inl hxl), p1]; exact s1 t ht
    · rw [o0 hxl, p2]; exact s2
    · rw [t1, p3]; exact s3
  · by_cases h : j ≤ l
    · have hne : c j ≠ z := fun e => zc j h e.symm
      obtain ⟨p1, p2, p3⟩ := zx _ hne
      obtain ⟨s1, s2⟩ := q4 j h
      rw [cj h]
      by_cases e : j = l
      · subst e
        rw [cz]
        refine ⟨fun t ht => ?_, ?_⟩
        · by_cases et : t = fb_tn k j
          · subst et; rw [o6c, if_pos ⟨rfl, by omega⟩]
          · rw [o6 (Or.inr et), p1, s1 t ht, if_neg (fun q => et q.1), if_neg (fun q => et q.1)]
        · rw [o0c, p2, s2, if_neg (by omega), if_pos (by omega)]
      · have hlj : c j ≠ c l := fun q => e (q2 j l h (Nat.le_refl _) q)
        rw [cj (show j + 1 ≤ l by omega)]
        refine ⟨fun t ht => ?_, ?_⟩
        · rw [o6 (Or.inl hlj), p1, s1 t ht]
          by_cases et : t = fb_tn k j
          · rw [if_pos ⟨et, by omega⟩, if_pos ⟨et, by omega⟩]
          · rw [if_neg (fun q => et q.1), if_neg (fun q => et q.1)]
        · rw [o0 hlj, p2, s2, if_pos (by omega), if_pos (by omega)]
    · have ej : j = l + 1 := by omega
      subst ej
      rw [cz]
      refine ⟨fun t ht => ?_, ?_⟩
      · rw [o6 (Or.inl hcl.symm), zr t ht, if_neg (by omega)]
      · rw [o0 hcl.symm, zo, if_neg (by omega)]
  · rw [t2]; exact zm _ (q5 x hx)
end
end
section
/-! .. and what a put or a remove leaves -/
section
variable {M U : me_M} {N k l : Nat} {K : Nat → Int32} {c : Nat → Nat} {Q X : me_M} {b : Bool} {w : Int32}
theorem rf_opl (hI : rf_I M U N) (hk : k < 64) (hS : rf_S M (fun _ => True) K) (i : Nat) (hi : i ≤ 2) (hroom : rf_nb (rf_mk K) + me_cn (fun j => decide (M 1 (rf_n M k j) = 0)) (i + 1) ≤ 60) :
    ∃ c, rf_Q M K k i c (fb_opl k (fb_own (me_set M 2 K) (rf_rn M 0)) i).2 ∧ (fb_opl k (fb_own (me_set M 2 K) (rf_rn M 0)) i).1 = c i ∧ (fb_own (me_set M 2 K) (rf_rn M 0)).1 = c 0 := by
  induction i with
  | zero => exact ⟨_, rf_Q0 hI hk hS hroom, rfl, rfl⟩
  | succ i ih =>
    have hmono : me_cn (fun j => decide (M 1 (rf_n M k j) = 0)) (i + 1) ≤ me_cn (fun j => decide (M 1 (rf_n M k j) = 0)) (i + 1 + 1) := Nat.le_add_right _ _
    obtain ⟨c, hQ, e1, e2⟩ := ih (by omega) (by omega)
    have h := rf_Q_step hI hk hS (by omega) hQ hroom
    rw [← e1] at h
    refine ⟨_, h, ?_, ?_⟩
    · show _ = if i + 1 ≤ i then _ else _
      rw [if_neg (by omega)]; rfl
    · show _ = if 0 ≤ i then _ else _
      rw [if_pos (by omega)]; exact e2
/-- the way down from c 0, once the path is own -/
theorem rf_Q_na (hQ : rf_Q M K k l c Q) (hX : ∀ j, j < l → X (6 + c j) (fb_tn k j) = Q (6 + c j) (fb_tn k j)) (i : Nat) (hi : i ≤ l) : fb_na X (c 0) k i = c i := by
  induction i with
  | zero => rfl
  | succ i ih =>
    show fb_ch X (fb_na X (c 0) k i) (fb_tn k i) = c (i + 1)
    rw [ih (by omega)]
    unfold fb_ch
    rw [hX i (by omega), (hQ.2.2.2.1 i (by omega)).1 _ (fb_tn_lt k i), if_pos ⟨rfl, by omega⟩]
    exact nI_clamp (by have := ((hQ.1 (i + 1) hi).1).2; omega)
theorem rf_Q_C (hI : rf_I M U N) (hk : k < 64) (hS : rf_S M (fun _ => True) K) (hl : l ≤ 2) (hQ : rf_Q M K k l c Q)
    (x1 : X 1 = Q 1) (x3 : X 3 = upd (Q 3) 0 (nI (c 0))) (x4 : X 4 = Q 4) (x5 : X 5 = Q 5)
    (x6 : ∀ x t, t < 4 → (x ≠ c l ∨ t ≠ fb_tn k l) → X (6 + x) t = Q (6 + x) t) (x6c : X (6 + c l) (fb_tn k l) = w) (x0 : ∀ x, x ≠ c l → X 0 x = Q 0 x)
    (x0c : ∀ j, j < 32 → bt (X 0 (c l)) j = if j = fb_tn k l then b else bt (Q 0 (c l)) j) (hw : l < 2 → w = 0) (hb : b = true → l = 2)
    (hrem : ∀ i, i < 3 → l < i → ∀ j, j < 32 → bt (M 0 (rf_n M k i)) j = decide (j = fb_tn k i)) : rf_C M X k (l + 1) c b w := by
  obtain ⟨hA, hW, hZ, h01, hO, hV, hL, hP, hN, hG, hR, hSc⟩ := id hI
  obtain ⟨q1, q2, q3, q4, q5, q6, q7, q8, q9⟩ := hQ
  have hp : ∀ i, mo_pl i k < 21 := fun i => rf_pl_lt hk
  refine ⟨by omega, fun j hj => (q1 j (by omega)).1, fun j hj m p h0 h1 h2 e => ?_, fun j hj p h2 hoff e => ?_, fun j j' h1 h2 h3 => q2 j j' (by omega) (by omega) h3, fun x hx => ?_, fun j hj => ?_, ?_, fun j hj => ?_, x4.trans q8, x5.trans q9, fun h => hw (by omega), fun h => by have := hb h; omega, fun i h1 h2 j h3 => hrem i h1 (by omega) j h3⟩
  · obtain ⟨⟨b1, b2⟩, h, -, -⟩ := q1 j (by omega)
    have hz : rf_nd M m p ≠ 0 := by omega
    rcases h with ⟨h8, h9⟩ | ⟨-, h⟩
    · rw [← h9, e] at h8
      exact h8 (hR.2 m p h0 h1 h2 hz).1
    · rw [e] at h
      exact (hS _ (rf_nd_lt hI h1 h2)).mpr ⟨hz, m, p, h1, trivial, h2, rfl⟩ h
  · obtain ⟨⟨b1, b2⟩, h, -, -⟩ := q1 j (by omega)
    have hz : rf_nd M 0 p ≠ 0 := by omega
    rcases h with ⟨h8, h9⟩ | ⟨-, h⟩
    · rw [h9] at e
      exact hoff j (by omega) (hP 0 0 p (mo_pl j k) (by omega) (by omega) h2 (hp j) hz e.symm).symm
    · rw [e] at h
      exact (hS _ (rf_nd_lt hI (m := 0) (by omega) h2)).mpr ⟨hz, 0, p, by omega, trivial, h2, rfl⟩ h
  · have hxl : x ≠ c l := hx l (by omega)
    obtain ⟨s1, s2, s3⟩ := q3 x (fun j hj => hx j (by omega))
    exact ⟨fun t ht => (x6 x t ht (Or.inl hxl)).trans (s1 t ht), (x0 x hxl).trans s2, by rw [x1]; exact s3⟩
  · obtain ⟨s1, s2⟩ := q4 j (by omega)
    have e9 : rf_nd M 0 (mo_pl j k) = rf_n M k j := rfl
    rw [e9]
    refine ⟨fun t ht => ?_, fun i hi => ?_, by rw [x1]; exact (q1 j (by omega)).2.2.2⟩
    · by_cases e : j = l
      · subst e
        by_cases et : t = fb_tn k j
        · subst et; rw [x6c, if_pos rfl, if_neg (by omega)]
        · rw [x6 _ t ht (Or.inr et), s1 t ht, if_neg (fun q => et q.1), if_neg et]
      · have hne : c j ≠ c l := fun q => e (q2 j l (by omega) (Nat.le_refl _) q)
        rw [x6 _ t ht (Or.inl hne), s1 t ht]
        by_cases et : t = fb_tn k j
        · rw [if_pos ⟨et, by omega⟩, if_pos et, if_pos (by omega)]
        · rw [if_neg (fun q => et q.1), if_neg et]
    · by_cases e : j = l
      · subst e
        rw [x0c i hi, s2, if_neg (show ¬ j < j by omega), decide_eq_false (show ¬ j + 1 < j + 1 by omega), Bool.false_or]
      · have hne : c j ≠ c l := fun q => e (q2 j l (by omega) (Nat.le_refl _) q)
        rw [x0 _ hne, s2, if_pos (show j < l by omega), rf_or _ _ _ hi, decide_eq_true (show j + 1 < l + 1 by omega), Bool.true_or]
        by_cases et : i = fb_tn k j
        · rw [if_pos et, decide_eq_true et, Bool.or_true]
        · rw [if_neg et, decide_eq_false et, Bool.or_false]
  · rw [x3, if_pos (by omega)]; unfold upd; rw [if_pos rfl]
  · rw [x3, q7]; unfold upd; rw [if_neg (by omega)]
theorem fb_op_s (M : me_M) (r k L : Nat) : fb_op M r k (L + 1) = ((fb_own M r).1, (fb_opl k (fb_own M r) L).2) := rfl
theorem fb_cut_s (M : me_M) (r k L : Nat) : fb_cut M r k (L + 1) = me_up (me_up M (6 + fb_na M r k L) (fb_tn k L) 0) 0 (fb_na M r k L) (M 0 (fb_na M r k L) &&& (fb_bit k L ^^^ (-1))) := rfl
theorem rf_put_C (hI : rf_I M U N) (hk : k < 64) (hS : rf_S M (fun _ => True) K) (v : Int32) (hroom : rf_nb (rf_mk K) + me_cn (fun j => decide (M 1 (rf_n M k j) = 0)) 3 ≤ 60) :
    ∃ c, (fb_op (me_set M 2 K) (rf_rn M 0) k 3).1 ≤ 60 ∧ rf_C M (fb_bind (me_up (fb_op (me_set M 2 K) (rf_rn M 0) k 3).2 3 0 (nI (fb_op (me_set M 2 K) (rf_rn M 0) k 3).1)) (fb_op (me_set M 2 K) (rf_rn M 0) k 3).1 k v) k 3 c true v := by
  obtain ⟨c, hQ, -, e2⟩ := rf_opl hI hk hS 2 (by omega) hroom
  have e9 : fb_op (me_set M 2 K) (rf_rn M 0) k 3 = ((fb_own (me_set M 2 K) (rf_rn M 0)).1, (fb_opl k (fb_own (me_set M 2 K) (rf_rn M 0)) 2).2) := fb_op_s _ _ _ 2
  rw [e9, e2]
  dsimp only
  generalize (fb_opl k (fb_own (me_set M 2 K) (rf_rn M 0)) 2).2 = Q at hQ ⊢
  refine ⟨c, ((hQ.1 0 (by omega)).1).2, ?_⟩
  have r3 : ∀ {a : Nat}, a ≠ 3 → me_up Q 3 0 (nI (c 0)) a = Q a := fun h => me_up_n _ _ _ h
  have hna : fb_na (me_up Q 3 0 (nI (c 0))) (c 0) k 2 = c 2 := rf_Q_na hQ (fun j _ => by rw [r3 (by omega)]) 2 (Nat.le_refl _)
  unfold fb_bind
  rw [hna]
  unfold fb_open
  refine rf_Q_C (l := 2) hI hk hS (Nat.le_refl _) hQ ?_ ?_ ?_ ?_ (fun x t ht h => ?_) ?_ (fun x hx => ?_) (fun j hj => ?_) (fun h => by omega) (fun _ => rfl) (fun i h1 h2 => by omega)
  · rw [me_up_n _ _ _ (by decide), me_up_n _ _ _ (by omega), r3 (by decide)]
  · rw [me_up_n _ _ _ (by decide), me_up_n _ _ _ (by omega)]; exact me_set_s _ _ _
  · rw [me_up_n _ _ _ (by decide), me_up_n _ _ _ (by omega), r3 (by decide)]
  · rw [me_up_n _ _ _ (by decide), me_up_n _ _ _ (by omega), r3 (by decide)]
  · rw [me_up_n _ _ _ (by omega)]
    by_cases ex : x = c 2
    · subst ex
      rw [me_up_j _ _ _ (h.elim (fun q => absurd rfl q) id), r3 (by omega)]
    · rw [me_up_n _ _ _ (by omega), r3 (by omega)]
  · rw [me_up_n _ _ _ (by omega)]; exact me_up_s _ _ _ _
  · rw [me_up_j _ _ _ hx, me_up_n _ _ _ (by omega), r3 (by decide)]
  · rw [me_up_s, r3 (by decide), rf_or _ _ _ hj]
    by_cases et : j = fb_tn k 2
    · rw [if_pos et, decide_eq_true et, Bool.or_true]
    · rw [if_neg et, decide_eq_false et, Bool.or_false]
theorem rf_cut_C (hI : rf_I M U N) (hk : k < 64) (hS : rf_S M (fun _ => True) K) (L : Nat) (hL : L ≤ 3) (hroom : rf_nb (rf_mk K) + me_cn (fun j => decide (M 1 (rf_n M k j) = 0)) L ≤ 60)
    (hrem : ∀ i, i < 3 → L ≤ i → ∀ j, j < 32 → bt (M 0 (rf_n M k i)) j = decide (j = fb_tn k i)) :
    ∃ c, (fb_op (me_set M 2 K) (rf_rn M 0) k L).1 ≤ 60 ∧ rf_C M (fb_cut (me_up (fb_op (me_set M 2 K) (rf_rn M 0) k L).2 3 0 (nI (fb_op (me_set M 2 K) (rf_rn M 0) k L).1)) (fb_op (me_set M 2 K) (rf_rn M 0) k L).1 k L) k L c false 0 := by
  match L, hL with
  | 0, _ =>
    refine ⟨fun _ => 0, by show 0 ≤ 60; omega, ?_⟩
    show rf_C M (me_up (me_set M 2 K) 3 0 (nI 0)) k 0 (fun _ => 0) false 0
    have r : ∀ {a : Nat}, a ≠ 3 → a ≠ 2 → me_up (me_set M 2 K) 3 0 (nI 0) a = M a := fun h1 h2 => by rw [me_up_n _ _ _ h1, me_set_n _ _ h2]
    refine ⟨by omega, fun l h => by omega, fun l h => by omega, fun l h => by omega, fun l l' h => by omega, fun x _ => ⟨fun t _ => by rw [r (by omega) (by omega)], by rw [r (by decide) (by decide)], by rw [r (by decide) (by decide)]⟩, fun l h => by omega, ?_, fun j hj => ?_, r (by decide) (by decide), r (by decide) (by decide), fun _ => rfl, fun h => (by cases h), hrem⟩
    · rw [if_neg (by omega)]; exact me_up_s _ _ _ _
    · rw [me_up_j _ _ _ (by omega), me_set_n _ _ (by decide)]
  | l + 1, hL =>
    obtain ⟨c, hQ, -, e2⟩ := rf_opl hI hk hS l (by omega) hroom
    rw [fb_op_s, e2]
    dsimp only
    generalize (fb_opl k (fb_own (me_set M 2 K) (rf_rn M 0)) l).2 = Q at hQ ⊢
    refine ⟨c, ((hQ.1 0 (by omega)).1).2, ?_⟩
    have r3 : ∀ {a : Nat}, a ≠ 3 → me_up Q 3 0 (nI (c 0)) a = Q a := fun h => me_up_n _ _ _ h
    have hna : fb_na (me_up Q 3 0 (nI (c 0))) (c 0) k l = c l := rf_Q_na hQ (fun j _ => by rw [r3 (by omega)]) l (Nat.le_refl _)
    rw [fb_cut_s, hna]
    refine rf_Q_C (l := l) hI hk hS (by omega) hQ ?_ ?_ ?_ ?_ (fun x t ht h => ?_) ?_ (fun x hx => ?_) (fun j hj => ?_) (fun h => rfl) (fun h => (by cases h)) (fun i h1 h2 => hrem i h1 (by omega))
    · rw [me_up_n _ _ _ (by decide), me_up_n _ _ _ (by omega), r3 (by decide)]
    · rw [me_up_n _ _ _ (by decide), me_up_n _ _ _ (by omega)]; exact me_set_s _ _ _
    · rw [me_up_n _ _ _ (by decide), me_up_n _ _ _ (by omega), r3 (by decide)]
    · rw [me_up_n _ _ _ (by decide), me_up_n _ _ _ (by omega), r3 (by decide)]
    · rw [me_up_n _ _ _ (by omega)]
      by_cases ex : x = c l
      · subst ex
        rw [me_up_j _ _ _ (h.elim (fun q => absurd rfl q) id), r3 (by omega)]
      · rw [me_up_n _ _ _ (by omega), r3 (by omega)]
    · rw [me_up_n _ _ _ (by omega)]; exact me_up_s _ _ _ _
    · rw [me_up_j _ _ _ hx, me_up_n _ _ _ (by omega), r3 (by decide)]
    · rw [me_up_s, r3 (by decide), rf_off _ _ _ hj]
      by_cases et : j = fb_tn k l
      · rw [if_pos et, decide_eq_true et, Bool.not_true, Bool.and_false]
      · rw [if_neg et, decide_eq_false et, Bool.not_false, Bool.and_true]
end
end
section
/-! the reference's change -/
section
variable {M U U' : me_M} {k L N : Nat} {more : Int32}
theorem mo_below_of {V : me_M} (h : V 1 = U 1) (l k : Nat) : mo_below V l k = mo_below U l k := by
  unfold mo_below mo_bi; rw [h]
theorem rf_cl (hk : k < 64) {ma : Nat} (hma : U 4 1 = nI ma) (i : Nat) (hi : i ≤ 3) :
    mo_cl U k more i 0 = U 0 ∧ mo_cl U k more i 1 = U 1 ∧ mo_cl U k more i 2 = U 2 ∧ (∀ j, j ≠ 1 → mo_cl U k more i 4 j = U 4 j) ∧ (mo_cl U k more i 4 1 = nI (ma + me_cn (fun l => mo_makes U l k more) i)) ∧
    (∀ j, (∀ l, l < i → mo_pl l k ≠ j) → mo_cl U k more i 3 j = U 3 j) ∧
    (∀ l, l < i → mo_cl U k more i 3 (mo_pl l k) = if 0 < nI (mo_below U l k) + more then (if mo_makes U l k more = true then nI (ma + me_cn (fun l => mo_makes U l k more) l + 1) else U 3 (mo_pl l k)) else 0) := by
  induction i with
  | zero => exact ⟨rfl, rfl, rfl, fun _ _ => rfl, hma, fun _ _ => rfl, fun l h => by omega⟩
  | succ i ih =>
    obtain ⟨h0, h1, h2, h4, h41, h3, h3p⟩ := ih (by omega)
    have hcl : mo_cl U k more (i + 1) = mo_c2 (mo_cl U k more i) k more i := rfl
    generalize mo_cl U k more i = V at h0 h1 h2 h4 h41 h3 h3p hcl
    have hb : mo_below V i k = mo_below U i k := mo_below_of h1 i k
    have hpl : V 3 (mo_pl i k) = U 3 (mo_pl i k) := h3 _ (fun l hl e => by have := rf_pl_inj (by omega) (by omega) hk hk e; omega)
    have hmk : mo_makes V i k more = mo_makes U i k more := by
      unfold mo_makes
      rw [hb, hpl, h4 2 (by decide)]
    rw [hcl]
    have hc1 : ∀ a, a ≠ 3 → a ≠ 4 → mo_c1 V k more i a = V a := by
      intro a ha hb
      unfold mo_c1
      split
      · rw [me_up_n _ _ _ ha, me_up_n _ _ _ hb]
      · rfl
    have hc2 : ∀ a, a ≠ 3 → mo_c2 V k more i a = mo_c1 V k more i a := fun a ha => me_up_n _ _ _ ha
    have hc14 : ∀ j, j ≠ 1 → mo_c1 V k more i 4 j = V 4 j := by
      intro j hj
      unfold mo_c1
      split
      · rw [me_up_n _ _ _ (by decide), me_up_j _ _ _ hj]
      · rfl
    have hc13 : ∀ j, mo_pl i k ≠ j → mo_c1 V k more i 3 j = V 3 j := by
      intro j hj
      unfold mo_c1
      split
      · rw [me_up_j _ _ _ (fun e => hj e.symm), me_up_n _ _ _ (by decide)]
      · rfl
    have hcn : me_cn (fun l => mo_makes U l k more) (i + 1) = me_cn (fun l => mo_makes U l k more) i + if mo_makes U i k more = true then 1 else 0 := rfl
    refine ⟨(hc2 0 (by decide)).trans ((hc1 0 (by decide) (by decide)).trans h0), (hc2 1 (by decide)).trans ((hc1 1 (by decide) (by decide)).trans h1), (hc2 2 (by decide)).trans ((hc1 2 (by decide) (by decide)).trans h2), fun j hj => ?_, ?_, fun j hj => ?_, fun l hl => ?_⟩
    · rw [hc2 4 (by decide), hc14 j hj]; exact h4 j hj
    · rw [hc2 4 (by decide), hcn]
      unfold mo_c1
      rw [hmk]
      by_cases q : mo_makes U i k more = true
      · rw [if_pos q, if_pos q, me_up_n _ _ _ (by decide), me_up_s, h41, nI_1]; rfl
      · rw [if_neg q, if_neg q, h41]; rfl
    · have hji : mo_pl i k ≠ j := hj i (by omega)
      unfold mo_c2
      rw [me_up_j _ _ _ (fun e => hji e.symm), hc13 j hji]
      exact h3 j (fun l hl => hj l (by omega))
    · by_cases e : l = i
      · subst e
        unfold mo_c2
        rw [me_up_s, hb]
        by_cases q : 0 < nI (mo_below U l k) + more
        · rw [if_pos q, if_pos q]
          unfold mo_c1
          rw [hmk]
          by_cases q2 : mo_makes U l k more = true
          · rw [if_pos q2, if_pos q2, me_up_s, h41, nI_1]
          · rw [if_neg q2, if_neg q2, hpl]
        · rw [if_neg q, if_neg q]
      · have hne : mo_pl i k ≠ mo_pl l k := fun q => e (rf_pl_inj (by omega) (by omega) hk hk q).symm
        unfold mo_c2
        rw [me_up_j _ _ _ (fun q => hne q.symm), hc13 _ hne]
        exact h3p l (by omega)
theorem rf_change (hI : rf_I M U N) (hk : k < 64) (hL : L ≤ 3) (hkp : ∀ l, l < 3 → (0 < nI (mo_below U l k) + more ↔ l < L)) {b : Bool} {w : Int32} (hmore : 0 ≤ more ↔ b = true)
    (e0 : U' 0 = mo_change U k more 0) (e1 : U' 1 = mo_change U k more 1) (e3 : U' 3 = mo_change U k more 3) (e2 : ∀ j, j ≠ k → U' 2 j = U 2 j) (e2k : b = true → U' 2 k = w) (e4 : ∀ j, j ≠ 0 → U' 4 j = mo_change U k more 4 j)
    (hex : 0 < L → b = false → ∃ k', k' < 64 ∧ k' ≠ k ∧ U 1 k' ≠ 0 ∧ ∀ l, l < L → mo_pl l k' = mo_pl l k) (hN9 : N + 3 < 2 ^ 31) : rf_UC M U U' k L b w (N + 3) := by
  obtain ⟨hA, hW, hZ, h01, hO, hV, hLv, hP, hN, ⟨ma, mk, g1, g2, g3, g4, g5⟩, hR, hSc⟩ := id hI
  obtain ⟨c0, c1, c2, c4, c41, c3, c3p⟩ := rf_cl (more := more) hk g1 3 (Nat.le_refl _)
  have ch : ∀ a, a ≠ 1 → mo_change U k more a = mo_cl U k more 3 a := fun a ha => me_up_n _ _ _ ha
  have hle : me_cn (fun l => mo_makes U l k more) 3 ≤ 3 := me_cn_le _ _
  refine ⟨e0.trans ((ch 0 (by decide)).trans c0), fun j hj => ⟨?_, e2 j hj⟩, ?_, e2k, fun m p h0 hp => ?_, fun p hp hoff => ?_, ⟨ma, ma + me_cn (fun l => mo_makes U l k more) 3, g1, ?_, by omega, by omega, fun l hl => ?_⟩, fun l h1 h2 => ?_, fun j h0 h1 => ?_, hex⟩
  · rw [e1]
    unfold mo_change
    rw [me_up_j _ _ _ hj, c1]
  · rw [e1]
    unfold mo_change
    rw [me_up_s]
    by_cases q : 0 ≤ more
    · rw [if_pos q, if_pos (hmore.mp q)]
    · rw [if_neg q, if_neg (fun z => q (hmore.mpr z))]
  · rw [e3, ch 3 (by decide)]
    exact c3 _ (fun l hl e => by have := rf_pl_lt (l := l) hk; omega)
  · rw [e3, ch 3 (by decide)]
    exact c3 _ hoff
  · rw [e4 1 (by decide), ch 4 (by decide)]; exact c41
  · have hp : mo_pl l k < 21 := rf_pl_lt hk
    rw [e3, ch 3 (by decide), c3p l (by omega), if_pos ((hkp l (by omega)).mpr hl)]
    by_cases q : mo_makes U l k more = true
    · rw [if_pos q]
      refine Or.inr ⟨_, by omega, ?_, rfl⟩
      have : ∀ {a b : Nat}, a ≤ b → me_cn (fun l => mo_makes U l k more) a ≤ me_cn (fun l => mo_makes U l k more) b := by
        intro a b hab
        induction b with
        | zero => rw [show a = 0 by omega]; exact Nat.le_refl _
        | succ b ih =>
          by_cases e : a = b + 1
          · rw [e]; exact Nat.le_refl _
          · exact Nat.le_trans (ih (by omega)) (Nat.le_add_right _ _)
      have h9 := this (a := l + 1) (b := 3) (by omega)
      have h8 : me_cn (fun l => mo_makes U l k more) (l + 1) = me_cn (fun l => mo_makes U l k more) l + 1 := by
        show _ + (if mo_makes U l k more = true then 1 else 0) = _
        rw [if_pos q]
      omega
    · rw [if_neg q]
      have h9 : ¬ U 3 (mo_pl l k) ≤ U 4 2 := by
        intro z
        apply q
        unfold mo_makes
        rw [decide_eq_true ((hkp l (by omega)).mpr hl), decide_eq_true z]; rfl
      have hlt : U 4 2 < U 3 (mo_pl l k) := Int32.not_le.mp h9
      have hz : rf_nd M 0 (mo_pl l k) ≠ 0 := by
        intro z
        have z2 := (hN.1 0 (mo_pl l k) (by omega) hp).mp z
        rw [show 21 * 0 + mo_pl l k = mo_pl l k by omega] at z2
        rw [z2, g2] at hlt
        exact nI_pos (by omega) hlt
      exact Or.inl ⟨(hR.1 _ hp hz).mpr hlt, hz, rfl⟩
  · rw [e3, ch 3 (by decide), c3p l h1, if_neg (fun z => by have := (hkp l h1).mp z; omega)]
  · rw [e4 j h0, ch 4 (by decide)]; exact c4 j h1
end
end
section
/-! maps given to other handles, or dropped, on both sides -/
section
variable {M M' U U' : me_M} {N : Nat}
/-- map m is then what map m0 was -/
def rf_as (M M' U U' : me_M) (m m0 : Nat) : Prop := m0 < 14 ∧ rf_rv M' m = rf_rv M m0 ∧ U' 0 m = U 0 m0 ∧ (∀ k, k < 64 → U' 1 (64 * m + k) = U 1 (64 * m0 + k) ∧ U' 2 (64 * m + k) = U 2 (64 * m0 + k)) ∧ ∀ p, p < 21 → U' 3 (21 * m + p) = U 3 (21 * m0 + p)
/-- there is no map m then -/
def rf_no (M' U' : me_M) (m : Nat) : Prop := rf_rv M' m = -1 ∧ U' 0 m = 0 ∧ (∀ k, k < 64 → U' 1 (64 * m + k) = 0) ∧ ∀ p, p < 21 → U' 3 (21 * m + p) = 0
theorem rf_re (hI : rf_I M U N) (hN9 : N < 2 ^ 31) (h0 : M' 0 = M 0) (h6 : ∀ x, M' (6 + x) = M (6 + x)) (hg : ∀ m, m < 14 → (∃ m0, rf_as M M' U U' m m0) ∨ rf_no M' U' m)
    (ha0 : U' 0 0 = 1) (ha7 : U' 0 7 = 1) (h10 : M' 1 0 = 0) (h41 : U' 4 1 = U 4 1)
    (hf : (U' 4 2 = U 4 1 ∧ ∀ x, x < 61 → M' 1 x = 0) ∨ (U' 4 2 = U 4 2 ∧ M' 1 = M 1 ∧ ∀ m, 0 < m → m < 14 → (∃ m0, 0 < m0 ∧ rf_as M M' U U' m m0) ∨ rf_no M' U' m))
    (hS : rf_Sc M' U') : rf_I M' U' N := by
  have hJ := rf_I_J hI
  have hlt := fun {m p : Nat} (hm : m < 14) (hp : p < 21) => rf_nd_lt hI hm hp
  obtain ⟨hA, hW, hZ, h01, hO, hV, hL, hP, ⟨n1, n2, n3⟩, ⟨ma, mk, g1, g2, g3, g4, g5⟩, hR, -⟩ := hI
  have hch : ∀ x t, fb_ch M' x t = fb_ch M x t := fun x t => by unfold fb_ch; rw [h6]
  have hnr : ∀ r p, rf_nr M' r p = rf_nr M r p := fun r p => by unfold rf_nr; simp only [hch]
  have nas : ∀ {m m0 : Nat}, rf_as M M' U U' m m0 → ∀ p, rf_nd M' m p = rf_nd M m0 p := by
    intro m m0 h p
    unfold rf_nd rf_rn
    rw [h.2.1, hnr]
  have nno : ∀ {m : Nat}, rf_no M' U' m → ∀ p, p < 21 → rf_nd M' m p = 0 := by
    intro m h p hp
    unfold rf_nd rf_rn
    rw [h.1, rf_m1, hnr]
    exact hJ.2.1 p hp
  have hZ' : rf_Z M' := ⟨fun t ht => by rw [show M' 6 t = M' (6 + 0) t from rfl, h6]; exact hZ.1 t ht, by rw [h0]; exact hZ.2.1, h10⟩
  have h1' : ∀ m p, m < 14 → p < 21 → (rf_nd M' m p = 0 ↔ U' 3 (21 * m + p) = 0) := by
    intro m p a1 a2
    rcases hg m a1 with ⟨m0, h⟩ | h
    · rw [nas h, h.2.2.2.2 p a2]; exact n1 m0 p h.1 a2
    · rw [nno h p a2, h.2.2.2 p a2]; exact ⟨fun _ => rfl, fun _ => rfl⟩
  have hnum : ∀ m p, m < 14 → p < 21 → ∃ x, x ≤ ma ∧ U' 3 (21 * m + p) = nI x := by
    intro m p a1 a2
    rcases hg m a1 with ⟨m0, h⟩ | h
    · rw [h.2.2.2.2 p a2]; exact g5 m0 p h.1 a2
    · exact ⟨0, by omega, h.2.2.2 p a2⟩
  refine ⟨⟨fun m a1 => ?_, ha0, ha7⟩, fun m a1 => ?_, hZ', fun j hj => ?_, ⟨fun m p t a1 a2 a3 => ?_, fun m p t a1 a2 a3 a4 => ?_, fun m k a1 a2 => ?_⟩, fun m k a1 a2 a3 => ?_, fun m l k a1 a2 a3 a4 => ?_, fun m m' p p' a1 a2 a3 a4 a5 a6 => ?_,
    ⟨h1', fun m p a1 a2 => ?_, fun m m' p a1 a2 a3 a4 => ?_⟩, ?_, ⟨fun p a1 a2 => ?_, fun m p a0 a1 a2 a3 => ?_⟩, hS⟩
  · rcases hg m a1 with ⟨m0, h⟩ | h
    · have e : rf_rn M' m = rf_rn M m0 := by unfold rf_rn; rw [h.2.1]
      rw [h.2.2.1, h.2.1, e]; exact hA.1 m0 h.1
    · exact Or.inl ⟨h.2.1, h.1⟩
  · have hw : ∀ r, fb_wf M r → fb_wf M' r := by
      rintro r ⟨w1, w2, w3⟩
      refine ⟨w1, fun t ht => ?_, fun t ht s hs => ?_⟩
      · rw [h6, hch]; exact w2 t ht
      · rw [hch, h6, hch]; exact w3 t ht s hs
    rcases hg m a1 with ⟨m0, h⟩ | h
    · have e : rf_rn M' m = rf_rn M m0 := by unfold rf_rn; rw [h.2.1]
      rw [e]; exact hw _ (hW m0 h.1)
    · have e : rf_rn M' m = 0 := by unfold rf_rn; rw [h.1]; exact rf_m1
      rw [e]
      have hz : ∀ t, t < 4 → fb_ch M' 0 t = 0 := fun t ht => rf_ch0 hZ' ht
      refine ⟨by omega, fun t ht => ?_, fun t ht s hs => ?_⟩
      · rw [hz t ht]; exact ⟨hZ'.1 t ht, by omega⟩
      · rw [hz t ht, hz s hs]; exact ⟨hZ'.1 s hs, by omega⟩
  · have e : j = 64 * (j / 64) + j % 64 := by omega
    rcases hg (j / 64) (by omega) with ⟨m0, h⟩ | h
    · rw [e, (h.2.2.2.1 (j % 64) (by omega)).1]; exact h01 _ (by have := h.1; omega)
    · rw [e, h.2.2.1 (j % 64) (by omega)]; exact Or.inl rfl
  · rcases hg m a1 with ⟨m0, h⟩ | h
    · rw [nas h, h0, hch]; exact hO.1 m0 p t h.1 a2 a3
    · rw [nno h p (by omega), hZ'.2.1, b_0, rf_ch0 hZ' a3, decide_eq_false (by omega)]
  · rcases hg m a1 with ⟨m0, h⟩ | h
    · rw [nas h, h0]; exact hO.2.1 m0 p t h.1 a2 a3 a4
    · rw [nno h p a2, hZ'.2.1, b_0]
  · rcases hg m a1 with ⟨m0, h⟩ | h
    · rw [nas h, h0, (h.2.2.2.1 k a2).1]; exact hO.2.2 m0 k h.1 a2
    · rw [nno h _ (by omega), hZ'.2.1, b_0, h.2.2.1 k a2]; decide
  · rcases hg m a1 with ⟨m0, h⟩ | h
    · rw [(h.2.2.2.1 k a2).1] at a3
      rw [nas h, h6, (h.2.2.2.1 k a2).2]; exact hV m0 k h.1 a2 a3
    · exact absurd (h.2.2.1 k a2) a3
  · rcases hg m a1 with ⟨m0, h⟩ | h
    · rw [nas h] at a4
      obtain ⟨k', e1, e2, e3⟩ := hL m0 l k h.1 a2 a3 a4
      exact ⟨k', e1, e2, by rw [(h.2.2.2.1 k' e1).1]; exact e3⟩
    · exact absurd (nno h _ (rf_pl_lt a3)) a4
  · rcases hg m a1 with ⟨m0, h⟩ | h
    · rw [nas h] at a5 a6
      rcases hg m' a2 with ⟨m0', h'⟩ | h'
      · rw [nas h'] at a6
        exact hP m0 m0' p p' h.1 h'.1 a3 a4 a5 a6
      · rw [nno h' p' a4] at a6; exact absurd a6 a5
    · exact absurd (nno h p a3) a5
  · obtain ⟨x, hx, ex⟩ := hnum m p a1 a2
    rw [ex]; exact nI_pos' (by omega)
  · rcases hg m a1 with ⟨m0, h⟩ | h
    · rw [nas h] at a4 ⊢
      rw [h.2.2.2.2 p a3]
      rcases hg m' a2 with ⟨m0', h'⟩ | h'
      · rw [nas h', h'.2.2.2.2 p a3]
        exact n3 m0 m0' p h.1 h'.1 a3 a4
      · rw [nno h' p a3, h'.2.2.2 p a3]
        exact n1 m0 p h.1 a3
    · exact absurd (nno h p a3) a4
  · rcases hf with ⟨f1, -⟩ | ⟨f1, -⟩
    · exact ⟨ma, ma, h41.trans g1, f1.trans g1, Nat.le_refl _, g4, hnum⟩
    · exact ⟨ma, mk, h41.trans g1, f1.trans g2, g3, g4, hnum⟩
  · rcases hf with ⟨f1, f2⟩ | ⟨f1, f2, f3⟩
    · obtain ⟨x, hx, ex⟩ := hnum 0 p (by omega) a1
      rw [show 21 * 0 + p = p by omega] at ex
      have hb : rf_nd M' 0 p < 61 := by
        rcases hg 0 (by omega) with ⟨m0, h⟩ | h
        · rw [nas h]; exact hlt h.1 a1
        · rw [nno h p a1]; omega
      rw [f2 _ hb, f1, g1, ex]
      exact ⟨fun z => absurd rfl z, fun z => absurd z (nI_nlt hx (by omega))⟩
    · rcases hg 0 (by omega) with ⟨m0, h⟩ | h
      · have e3 := h.2.2.2.2 p a1
        rw [show 21 * 0 + p = p by omega] at e3
        rw [nas h] at a2 ⊢
        rw [f2, f1, e3]
        by_cases z : m0 = 0
        · rw [z] at a2 ⊢
          rw [show 21 * 0 + p = p by omega]; exact hR.1 p a1 a2
        · obtain ⟨r1, r2⟩ := hR.2 m0 p (by omega) h.1 a1 a2
          exact ⟨fun q => absurd r1 q, fun q => absurd q (Int32.not_lt.mpr r2)⟩
      · exact absurd (nno h p a1) a2
  · rcases hf with ⟨f1, f2⟩ | ⟨f1, f2, f3⟩
    · obtain ⟨x, hx, ex⟩ := hnum m p a1 a2
      have hb : rf_nd M' m p < 61 := by
        rcases hg m a1 with ⟨m0, h⟩ | h
        · rw [nas h]; exact hlt h.1 a2
        · rw [nno h p a2]; omega
      rw [f2 _ hb, f1, g1, ex]
      exact ⟨rfl, nI_le hx (by omega)⟩
    · rcases f3 m a0 a1 with ⟨m0, hm0, h⟩ | h
      · rw [nas h] at a3 ⊢
        rw [f2, f1, h.2.2.2.2 p a2]
        exact hR.2 m0 p hm0 h.1 a2 a3
      · exact absurd (nno h p a2) a3
end
end
section
/-! is a key alone below a node of its path: how many levels a path keeps -/
def rf_al (U : me_M) (k l : Nat) : Prop := ∀ k', k' < 64 → k' ≠ k → mo_pl l k' = mo_pl l k → U 1 k' = 0
section
variable {M U : me_M} {N k : Nat}
theorem rf_al_up {l : Nat} (hl : l < 2) (h : rf_al U k l) : rf_al U k (l + 1) := by
  intro k' h1 h2 h3
  refine h k' h1 h2 ?_
  match l, hl with
  | 0, _ => rfl
  | 1, _ => rw [rf_pl2, rf_pl2] at h3; rw [rf_pl1, rf_pl1]; omega
/-- a bound key has its whole path -/
theorem rf_bound (hI : rf_I M U N) {m : Nat} (hm : m < 14) (hk : k < 64) (hb : U 1 (64 * m + k) ≠ 0) : rf_nd M m (5 + k / 4) ≠ 0 ∧ rf_nd M m (1 + k / 16) ≠ 0 ∧ rf_nd M m 0 ≠ 0 := by
  obtain ⟨hA, hW, hZ, h01, hO, hV, hL, hP, hN, hG, hR, hS⟩ := hI
  have h2 : rf_nd M m (5 + k / 4) ≠ 0 := by
    intro e
    have h := hO.2.2 m k hm hk
    rw [e, hZ.2.1, b_0, decide_eq_true hb] at h
    cases h
  have h1 : rf_nd M m (1 + k / 16) ≠ 0 := by
    intro e
    apply h2
    rw [show 5 + k / 4 = 5 + (4 * (k / 16) + k / 4 % 4) by omega, rf_nd_2 M m (by omega) (by omega), e]
    exact rf_ch0 hZ (by omega)
  refine ⟨h2, h1, fun e => h1 ?_⟩
  rw [rf_nd_1 M m (by omega), e]
  exact rf_ch0 hZ (by omega)
theorem rf_unb (hI : rf_I M U N) (hk : k < 64) (h : rf_nd M 0 (5 + k / 4) = 0) : U 1 k = 0 := by
  apply Classical.byContradiction
  intro hb
  exact (rf_bound hI (m := 0) (by omega) hk (by rw [show 64 * 0 + k = k by omega]; exact hb)).1 h
theorem rf_al2 (hI : rf_I M U N) (hk : k < 64) (hb : U 1 k ≠ 0) : (∀ j, j < 32 → bt (M 0 (rf_n M k 2)) j = decide (j = fb_tn k 2)) ↔ rf_al U k 2 := by
  obtain ⟨hA, hW, hZ, h01, hO, hV, hL, hP, hN, hG, hR, hS⟩ := id hI
  have hbit : ∀ k', k' < 64 → k' / 4 = k / 4 → bt (M 0 (rf_n M k 2)) (k' % 4) = decide (U 1 k' ≠ 0) := by
    intro k' h1 h2
    have h := hO.2.2 0 k' (by omega) h1
    rw [show 64 * 0 + k' = k' by omega, h2] at h
    exact h
  rw [rf_tn2]
  constructor
  · intro h k' h1 h2 h3
    rw [rf_pl2, rf_pl2] at h3
    have h4 := hbit k' h1 (by omega)
    rw [h _ (by omega), decide_eq_false (by omega)] at h4
    exact Classical.not_not.mp (of_decide_eq_false h4.symm)
  · intro h j hj
    by_cases h4 : j < 4
    · have e := hbit (4 * (k / 4) + j) (by omega) (by omega)
      rw [show (4 * (k / 4) + j) % 4 = j by omega] at e
      rw [e]
      by_cases ej : j = k % 4
      · rw [decide_eq_true ej, show 4 * (k / 4) + j = k by omega]
        exact decide_eq_true hb
      · rw [decide_eq_false ej, h (4 * (k / 4) + j) (by omega) (by omega) (by rw [rf_pl2, rf_pl2]; omega)]
        decide
    · rw [decide_eq_false (by omega)]
      exact hO.2.1 0 (mo_pl 2 k) j (by omega) (rf_pl_lt hk) (by omega) hj
theorem rf_al1 (hI : rf_I M U N) (hk : k < 64) (hb : U 1 k ≠ 0) (h2 : rf_al U k 2) : (∀ j, j < 32 → bt (M 0 (rf_n M k 1)) j = decide (j = fb_tn k 1)) ↔ rf_al U k 1 := by
  obtain ⟨hA, hW, hZ, h01, hO, hV, hL, hP, hN, hG, hR, hS⟩ := id hI
  have hbit : ∀ j, j < 4 → bt (M 0 (rf_n M k 1)) j = decide (rf_nd M 0 (5 + (4 * (k / 16) + j)) ≠ 0) := by
    intro j hj
    have h := hO.1 0 (1 + k / 16) j (by omega) (by omega) hj
    rw [← rf_nd_2 M 0 (by omega) hj] at h
    exact h
  rw [rf_tn1]
  constructor
  · intro h k' h1 h3 h4
    rw [rf_pl1, rf_pl1] at h4
    by_cases e : k' / 4 = k / 4
    · exact h2 k' h1 h3 (by rw [rf_pl2, rf_pl2, e])
    · have h5 := hbit (k' / 4 % 4) (by omega)
      rw [h _ (by omega), decide_eq_false (by omega), show 5 + (4 * (k / 16) + k' / 4 % 4) = 5 + k' / 4 by omega] at h5
      exact rf_unb hI h1 (Classical.not_not.mp (of_decide_eq_false h5.symm))
  · intro h j hj
    by_cases h4 : j < 4
    · rw [hbit j h4]
      by_cases ej : j = k / 4 % 4
      · rw [decide_eq_true ej, show 5 + (4 * (k / 16) + j) = 5 + k / 4 by omega]
        exact decide_eq_true (rf_bound hI (m := 0) (by omega) hk (by rw [show 64 * 0 + k = k by omega]; exact hb)).1
      · rw [decide_eq_false ej]
        refine decide_eq_false (fun hz => ?_)
        have e9 : mo_pl 2 (4 * (4 * (k / 16) + j)) = 5 + (4 * (k / 16) + j) := by rw [rf_pl2]; omega
        obtain ⟨k', q1, q2, q3⟩ := hL 0 2 (4 * (4 * (k / 16) + j)) (by omega) (by omega) (by omega) (by rw [e9]; exact hz)
        rw [show 64 * 0 + k' = k' by omega] at q3
        rw [rf_pl2, rf_pl2] at q2
        exact q3 (h k' q1 (by omega) (by rw [rf_pl1, rf_pl1]; omega))
    · rw [decide_eq_false (by omega)]
      exact hO.2.1 0 (mo_pl 1 k) j (by omega) (rf_pl_lt hk) (by omega) hj
theorem rf_al0 (hI : rf_I M U N) (hk : k < 64) (hb : U 1 k ≠ 0) (h2 : rf_al U k 1) : (∀ j, j < 32 → bt (M 0 (rf_n M k 0)) j = decide (j = fb_tn k 0)) ↔ rf_al U k 0 := by
  obtain ⟨hA, hW, hZ, h01, hO, hV, hL, hP, hN, hG, hR, hS⟩ := id hI
  have hbit : ∀ j, j < 4 → bt (M 0 (rf_n M k 0)) j = decide (rf_nd M 0 (1 + j) ≠ 0) := by
    intro j hj
    have h := hO.1 0 0 j (by omega) (by omega) hj
    rw [← rf_nd_1 M 0 hj] at h
    exact h
  rw [rf_tn0 hk]
  constructor
  · intro h k' h1 h3 h4
    by_cases e : k' / 16 = k / 16
    · exact h2 k' h1 h3 (by rw [rf_pl1, rf_pl1, e])
    · have h5 := hbit (k' / 16) (by omega)
      rw [h _ (by omega), decide_eq_false (by omega)] at h5
      apply Classical.byContradiction
      intro hb'
      exact (rf_bound hI (m := 0) (by omega) h1 (by rw [show 64 * 0 + k' = k' by omega]; exact hb')).2.1 (Classical.not_not.mp (of_decide_eq_false h5.symm))
  · intro h j hj
    by_cases h4 : j < 4
    · rw [hbit j h4]
      by_cases ej : j = k / 16
      · rw [decide_eq_true ej, ej]
        exact decide_eq_true (rf_bound hI (m := 0) (by omega) hk (by rw [show 64 * 0 + k = k by omega]; exact hb)).2.1
      · rw [decide_eq_false ej]
        refine decide_eq_false (fun hz => ?_)
        have e9 : mo_pl 1 (16 * j) = 1 + j := by rw [rf_pl1]; omega
        obtain ⟨k', q1, q2, q3⟩ := hL 0 1 (16 * j) (by omega) (by omega) (by omega) (by rw [e9]; exact hz)
        rw [show 64 * 0 + k' = k' by omega] at q3
        rw [rf_pl1, rf_pl1] at q2
        exact q3 (h k' q1 (by omega) rfl)
    · rw [decide_eq_false (by omega)]
      exact hO.2.1 0 (mo_pl 0 k) j (by omega) (rf_pl_lt hk) (by omega) hj
theorem rf_hne (hk : k < 64) {l : Nat} (hl : l < 3) : fb_hne M (rf_rn M 0) k l = true ↔ ∀ j, j < 32 → bt (M 0 (rf_n M k l)) j = decide (j = fb_tn k l) := by
  unfold fb_hne
  rw [decide_eq_true_iff, rf_na M _ hk hl, rf_alone]
  rfl
theorem rf_lw (hI : rf_I M U N) (hk : k < 64) (hb : U 1 k ≠ 0) : fb_lw M (rf_rn M 0) k 3 ≤ 3 ∧ (∀ l, l < 3 → (l < fb_lw M (rf_rn M 0) k 3 ↔ ¬ rf_al U k l)) ∧ (∀ i, i < 3 → fb_lw M (rf_rn M 0) k 3 ≤ i → ∀ j, j < 32 → bt (M 0 (rf_n M k i)) j = decide (j = fb_tn k i)) := by
  have a2 := (rf_hne (M := M) hk (l := 2) (by omega)).trans (rf_al2 hI hk hb)
  have s0 : ∀ {l : Nat}, rf_al U k l → l < 3 → rf_al U k 2 := by
    intro l h hl
    match l, hl with
    | 0, _ => exact rf_al_up (by omega) (rf_al_up (by omega) h)
    | 1, _ => exact rf_al_up (by omega) h
    | 2, _ => exact h
  by_cases h2 : rf_al U k 2
  · have a1 := (rf_hne (M := M) hk (l := 1) (by omega)).trans (rf_al1 hI hk hb h2)
    by_cases h1 : rf_al U k 1
    · have a0 := (rf_hne (M := M) hk (l := 0) (by omega)).trans (rf_al0 hI hk hb h1)
      by_cases h0 : rf_al U k 0
      · have e : fb_lw M (rf_rn M 0) k 3 = 0 := by
          show (if fb_hne M (rf_rn M 0) k 2 then (if fb_hne M (rf_rn M 0) k 1 then (if fb_hne M (rf_rn M 0) k 0 then 0 else 0 + 1) else 1 + 1) else 2 + 1) = 0
          rw [if_pos (a2.mpr h2), if_pos (a1.mpr h1), if_pos (a0.mpr h0)]
        rw [e]
        refine ⟨by omega, fun l hl => ⟨fun z => by omega, fun z => ?_⟩, fun i hi _ => ?_⟩
        · match l, hl with
          | 0, _ => exact absurd h0 z
          | 1, _ => exact absurd h1 z
          | 2, _ => exact absurd h2 z
        · match i, hi with
          | 0, _ => exact (rf_hne hk (by omega)).mp (a0.mpr h0)
          | 1, _ => exact (rf_hne hk (by omega)).mp (a1.mpr h1)
          | 2, _ => exact (rf_hne hk (by omega)).mp (a2.mpr h2)
      · have e : fb_lw M (rf_rn M 0) k 3 = 1 := by
          show (if fb_hne M (rf_rn M 0) k 2 then (if fb_hne M (rf_rn M 0) k 1 then (if fb_hne M (rf_rn M 0) k 0 then 0 else 0 + 1) else 1 + 1) else 2 + 1) = 1
          rw [if_pos (a2.mpr h2), if_pos (a1.mpr h1), if_neg (fun z => h0 (a0.mp z))]
        rw [e]
        refine ⟨by omega, fun l hl => ?_, fun i hi hle => ?_⟩
        · match l, hl with
          | 0, _ => exact ⟨fun _ => h0, fun _ => by omega⟩
          | 1, _ => exact ⟨fun z => by omega, fun z => absurd h1 z⟩
          | 2, _ => exact ⟨fun z => by omega, fun z => absurd h2 z⟩
        · match i, hi with
          | 0, _ => omega
          | 1, _ => exact (rf_hne hk (by omega)).mp (a1.mpr h1)
          | 2, _ => exact (rf_hne hk (by omega)).mp (a2.mpr h2)
    · have e : fb_lw M (rf_rn M 0) k 3 = 2 := by
        show (if fb_hne M (rf_rn M 0) k 2 then (if fb_hne M (rf_rn M 0) k 1 then (if fb_hne M (rf_rn M 0) k 0 then 0 else 0 + 1) else 1 + 1) else 2 + 1) = 2
        rw [if_pos (a2.mpr h2), if_neg (fun z => h1 (a1.mp z))]
      have h0 : ¬ rf_al U k 0 := fun z => h1 (rf_al_up (by omega) z)
      rw [e]
      refine ⟨by omega, fun l hl => ?_, fun i hi hle => ?_⟩
      · match l, hl with
        | 0, _ => exact ⟨fun _ => h0, fun _ => by omega⟩
        | 1, _ => exact ⟨fun _ => h1, fun _ => by omega⟩
        | 2, _ => exact ⟨fun z => by omega, fun z => absurd h2 z⟩
      · match i, hi with
        | 0, _ => omega
        | 1, _ => omega
        | 2, _ => exact (rf_hne hk (by omega)).mp (a2.mpr h2)
  · have e : fb_lw M (rf_rn M 0) k 3 = 3 := by
      show (if fb_hne M (rf_rn M 0) k 2 then (if fb_hne M (rf_rn M 0) k 1 then (if fb_hne M (rf_rn M 0) k 0 then 0 else 0 + 1) else 1 + 1) else 2 + 1) = 3
      rw [if_neg (fun z => h2 (a2.mp z))]
    rw [e]
    exact ⟨by omega, fun l hl => ⟨fun _ z => h2 (s0 z hl), fun _ => hl⟩, fun i hi hle => by omega⟩
/-- where it isn't alone above the cut, another key is bound there -/
theorem rf_lw_ex {L : Nat} (hL : L ≤ 3) (h : ∀ l, l < 3 → (l < L ↔ ¬ rf_al U k l)) (h0 : 0 < L) : ∃ k', k' < 64 ∧ k' ≠ k ∧ U 1 k' ≠ 0 ∧ ∀ l, l < L → mo_pl l k' = mo_pl l k := by
  have h1 := (h (L - 1) (by omega)).mp (by omega)
  have h2 : ∃ k', k' < 64 ∧ k' ≠ k ∧ mo_pl (L - 1) k' = mo_pl (L - 1) k ∧ U 1 k' ≠ 0 := by
    apply Classical.byContradiction
    intro hn
    refine h1 fun k' a b e => ?_
    apply Classical.byContradiction
    intro hb
    exact hn ⟨k', a, b, e, hb⟩
  obtain ⟨k', a, b, e, d⟩ := h2
  refine ⟨k', a, b, d, fun l hl => ?_⟩
  match L, l, hL, hl, e with
  | 1, 0, _, _, e => exact e
  | 2, 0, _, _, e => rfl
  | 2, 1, _, _, e => exact e
  | 3, 0, _, _, e => rfl
  | 3, 1, _, _, e =>
    have e : mo_pl 2 k' = mo_pl 2 k := e
    rw [rf_pl2, rf_pl2] at e; rw [rf_pl1, rf_pl1]; omega
  | 3, 2, _, _, e => exact e
/-- the reference's count below a node: 2 or more just where the key isn't alone -/
theorem rf_many {l : Nat} (hl : l < 3) : mo_many l ≤ 64 ∧ 0 < mo_many l ∧ ∀ k k', k < 64 → k' < 64 → (mo_pl l k' = mo_pl l k ↔ k - k % mo_many l ≤ k' ∧ k' < k - k % mo_many l + mo_many l) := by
  match l, hl with
  | 0, _ => exact ⟨by decide, by decide, fun k k' h h' => by rw [rf_pl0, rf_pl0]; show _ ↔ k - k % 64 ≤ k' ∧ k' < k - k % 64 + 64; omega⟩
  | 1, _ => exact ⟨by decide, by decide, fun k k' h h' => by rw [rf_pl1, rf_pl1]; show _ ↔ k - k % 16 ≤ k' ∧ k' < k - k % 16 + 16; omega⟩
  | 2, _ => exact ⟨by decide, by decide, fun k k' h h' => by rw [rf_pl2, rf_pl2]; show _ ↔ k - k % 4 ≤ k' ∧ k' < k - k % 4 + 4; omega⟩
theorem rf_blk {l : Nat} (hl : l < 3) (hk : k < 64) : k - k % mo_many l + mo_many l ≤ 64 := by
  match l, hl with
  | 0, _ => show k - k % 64 + 64 ≤ 64; omega
  | 1, _ => show k - k % 16 + 16 ≤ 64; omega
  | 2, _ => show k - k % 4 + 4 ≤ 64; omega
theorem rf_below_pos (hk : k < 64) (hb : U 1 k ≠ 0) {l : Nat} (hl : l < 3) : 0 < mo_below U l k := by
  obtain ⟨m1, m2, m3⟩ := rf_many hl
  unfold mo_below mo_bi
  have hm := Nat.mod_lt k m2
  have hle := Nat.mod_le k (mo_many l)
  refine rf_cn_pos (i := k % mo_many l) hm ?_
  rw [decide_eq_true_iff, show 64 * 0 + (k - k % mo_many l + k % mo_many l) = k by omega]
  exact hb
theorem rf_below_2 (hk : k < 64) (hb : U 1 k ≠ 0) {l : Nat} (hl : l < 3) : 2 ≤ mo_below U l k ↔ ¬ rf_al U k l := by
  obtain ⟨m1, m2, m3⟩ := rf_many hl
  have hblk := rf_blk hl hk
  have hm := Nat.mod_lt k m2
  have hle := Nat.mod_le k (mo_many l)
  unfold mo_below mo_bi
  have hP0 : decide (U 1 (64 * 0 + (k - k % mo_many l + k % mo_many l)) ≠ 0) = true := by
    rw [decide_eq_true_iff, show 64 * 0 + (k - k % mo_many l + k % mo_many l) = k by omega]; exact hb
  have hup := rf_cn_up (P := fun i => decide (U 1 (64 * 0 + (k - k % mo_many l + i)) ≠ 0) && !decide (i = k % mo_many l)) (Q := fun i => decide (U 1 (64 * 0 + (k - k % mo_many l + i)) ≠ 0)) (a := k % mo_many l) (n := mo_many l) hm (by simp) hP0 (fun i _ hi => by simp [hi])
  rw [hup]
  constructor
  · intro h hal
    have hpos : 0 < me_cn (fun i => decide (U 1 (64 * 0 + (k - k % mo_many l + i)) ≠ 0) && !decide (i = k % mo_many l)) (mo_many l) := by omega
    obtain ⟨i, h1, h2⟩ := rf_cn_ex hpos
    simp only [Bool.and_eq_true, decide_eq_true_iff, Bool.not_eq_true', decide_eq_false_iff_not] at h2
    have hk' : k - k % mo_many l + i < 64 := by omega
    have := hal (k - k % mo_many l + i) hk' (by omega) ((m3 k _ hk hk').mpr ⟨by omega, by omega⟩)
    rw [show 64 * 0 + (k - k % mo_many l + i) = k - k % mo_many l + i by omega] at h2
    exact h2.1 this
  · intro h
    have h2 : ∃ k', k' < 64 ∧ k' ≠ k ∧ mo_pl l k' = mo_pl l k ∧ U 1 k' ≠ 0 := by
      apply Classical.byContradiction
      intro hn
      refine h fun k' a b e => ?_
      apply Classical.byContradiction
      intro hb
      exact hn ⟨k', a, b, e, hb⟩
    obtain ⟨k', a, b, e, d⟩ := h2
    obtain ⟨e1, e2⟩ := (m3 k k' hk a).mp e
    have := rf_cn_pos (P := fun i => decide (U 1 (64 * 0 + (k - k % mo_many l + i)) ≠ 0) && !decide (i = k % mo_many l)) (i := k' - (k - k % mo_many l)) (n := mo_many l) (by omega) (by
      simp only [Bool.and_eq_true, decide_eq_true_iff, Bool.not_eq_true', decide_eq_false_iff_not]
      rw [show 64 * 0 + (k - k % mo_many l + (k' - (k - k % mo_many l))) = k' by omega]
      exact ⟨d, by omega⟩)
    omega
theorem rf_below_le {l : Nat} (hl : l < 3) : mo_below U l k ≤ 64 := Nat.le_trans (me_cn_le _ _) (rf_many hl).1
end
end
section
/-! put and remove: both sides make the same number of nodes, and both have room or neither has -/
section
variable {M U : me_M} {N k : Nat}
theorem rf_I_cong {M' U' : me_M} (hI : rf_I M U N) (hN9 : N < 2 ^ 31) (h0 : M' 0 = M 0) (h1 : M' 1 = M 1) (h3 : M' 3 = M 3) (h4 : M' 4 = M 4) (h5 : M' 5 = M 5) (h6 : ∀ x, M' (6 + x) = M (6 + x))
    (u0 : U' 0 = U 0) (u1 : U' 1 = U 1) (u2 : U' 2 = U 2) (u3 : U' 3 = U 3) (u4 : ∀ j, j ≠ 0 → U' 4 j = U 4 j) : rf_I M' U' N := by
  have has : ∀ m, m < 14 → rf_as M M' U U' m m := fun m hm => ⟨hm, by unfold rf_rv; rw [h3, h4], by rw [u0], fun k _ => ⟨by rw [u1], by rw [u2]⟩, fun p _ => by rw [u3]⟩
  obtain ⟨hA, hW, hZ, h01, hO, hV, hL, hP, hN, hG, hR, s1, s2, s3, s4, s5⟩ := id hI
  refine rf_re hI hN9 h0 h6 (fun m hm => Or.inl ⟨m, has m hm⟩) (by rw [u0]; exact hA.2.1) (by rw [u0]; exact hA.2.2) (by rw [h1]; exact hZ.2.2) (u4 1 (by decide)) (Or.inr ⟨u4 2 (by decide), h1, fun m h hm => Or.inl ⟨m, h, has m hm⟩⟩) ?_
  exact ⟨by rw [h5, u4 5 (by decide)]; exact s1, by rw [h5]; exact s2, by rw [h5, u4 3 (by decide)]; exact s3, by rw [h5, u4 4 (by decide)]; exact s4, by rw [h5]; exact s5⟩
theorem rf_I_K (hI : rf_I M U N) (hN9 : N < 2 ^ 31) (K : Nat → Int32) : rf_I (me_set M 2 K) U N :=
  rf_I_cong hI hN9 (me_set_n _ _ (by decide)) (me_set_n _ _ (by decide)) (me_set_n _ _ (by decide)) (me_set_n _ _ (by decide)) (me_set_n _ _ (by decide)) (fun x => me_set_n _ _ (by omega)) rfl rfl rfl rfl (fun _ _ => rfl)
theorem rf_I_c (hI : rf_I M U N) (hN9 : N < 2 ^ 31) (x : Int32) : rf_I M (me_up U 4 0 x) N :=
  rf_I_cong hI hN9 rfl rfl rfl rfl rfl (fun _ => rfl) (me_up_n _ _ _ (by decide)) (me_up_n _ _ _ (by decide)) (me_up_n _ _ _ (by decide)) (me_up_n _ _ _ (by decide)) (fun j hj => me_up_j _ _ _ hj)
theorem rf_I_N {N' : Nat} (hI : rf_I M U N) (h : N ≤ N') : rf_I M U N' := by
  obtain ⟨hA, hW, hZ, h01, hO, hV, hL, hP, hN, ⟨ma, mk, g1, g2, g3, g4, g5⟩, hR, hS⟩ := hI
  exact ⟨hA, hW, hZ, h01, hO, hV, hL, hP, hN, ⟨ma, mk, g1, g2, g3, by omega, g5⟩, hR, hS⟩
theorem rf_ntm (K : Nat → Int32) (hk : k < 64) {L : Nat} (hL : L ≤ 3) : fb_ntm (me_set M 2 K) (rf_rn M 0) k L = me_cn (fun j => decide (M 1 (rf_n M k j) = 0)) L := by
  unfold fb_ntm
  refine me_cn_congr fun l hl => ?_
  rw [me_set_n _ _ (by decide), rf_set2_na, rf_na M _ hk (by omega)]
  rfl
theorem rf_cn_cut (P : Nat → Bool) {L n : Nat} (h : L ≤ n) : me_cn (fun l => decide (l < L) && P l) n = me_cn P L := by
  induction n with
  | zero => rw [show L = 0 by omega]; rfl
  | succ n ih =>
    by_cases e : L = n + 1
    · subst e
      exact me_cn_congr fun i hi => by rw [decide_eq_true hi, Bool.true_and]
    · show me_cn (fun l => decide (l < L) && P l) n + (if (decide (n < L) && P n) = true then 1 else 0) = _
      rw [ih (by omega), decide_eq_false (by omega), Bool.false_and]
      rfl
theorem rf_stale (hI : rf_I M U N) (hN9 : N < 2 ^ 31) (hk : k < 64) {l : Nat} (hl : l < 3) : U 3 (mo_pl l k) ≤ U 4 2 ↔ M 1 (rf_n M k l) = 0 := by
  obtain ⟨hA, hW, hZ, h01, hO, hV, hL, hP, hN, ⟨ma, mk, g1, g2, g3, g4, g5⟩, hR, hS⟩ := hI
  have hp : mo_pl l k < 21 := rf_pl_lt hk
  by_cases hz : rf_nd M 0 (mo_pl l k) = 0
  · have e := (hN.1 0 (mo_pl l k) (by omega) hp).mp hz
    rw [show 21 * 0 + mo_pl l k = mo_pl l k by omega] at e
    rw [e, g2]
    have e2 : rf_n M k l = 0 := hz
    rw [e2]
    exact ⟨fun _ => hZ.2.2, fun _ => nI_pos' (by omega)⟩
  · have h := hR.1 (mo_pl l k) hp hz
    have e2 : rf_n M k l = rf_nd M 0 (mo_pl l k) := rfl
    rw [e2]
    constructor
    · intro h1
      apply Classical.byContradiction
      intro h2
      exact absurd (h.mp h2) (Int32.not_lt.mpr h1)
    · intro h1
      exact Int32.not_lt.mp (fun h2 => h.mpr h2 h1)
theorem rf_fn (hI : rf_I M U N) (hN9 : N < 2 ^ 31) (hk : k < 64) {L : Nat} (hL : L ≤ 3) {more : Int32} (hkp : ∀ l, l < 3 → (0 < nI (mo_below U l k) + more ↔ l < L)) : mo_fn U k more = me_cn (fun j => decide (M 1 (rf_n M k j) = 0)) L := by
  unfold mo_fn
  rw [← rf_cn_cut _ hL]
  refine me_cn_congr fun l hl => ?_
  unfold mo_makes
  rw [Bool.eq_iff_iff, Bool.and_eq_true, Bool.and_eq_true, decide_eq_true_iff, decide_eq_true_iff, decide_eq_true_iff, decide_eq_true_iff, hkp l hl, rf_stale hI hN9 hk hl]
theorem rf_60 : (60 : Int32) = nI 60 := rfl
theorem rf_freeI (hI : rf_I M U N) : fb_free M = nI (60 - ((rf_KD M).1 + (rf_KR M).1)) ∧ mo_free U = nI (60 - ((rf_KD M).1 + (rf_KR M).1)) ∧ (rf_KD M).1 + (rf_KR M).1 ≤ 60 ∧ rf_nb (rf_mk (rf_KR M).2) = (rf_KD M).1 + (rf_KR M).1 ∧ rf_S M (fun _ => True) (rf_KR M).2 := by
  have hJ := rf_I_J hI
  obtain ⟨f1, f2, f3⟩ := rf_free hJ hI.2.2.2.2.2.2.2.2.1
  obtain ⟨b1, b2⟩ := rf_KR_ok hJ
  refine ⟨?_, ?_, f3, b1.symm, b2⟩
  · unfold fb_free
    rw [rf_mr, rf_md]
    show nI 60 - nI (rf_KD M).1 - nI (rf_KR M).1 = _
    rw [pk_sub (by omega), pk_sub (by omega), Nat.sub_sub]
  · unfold mo_free
    rw [f1, rf_60, pk_sub (by omega)]
/-- both have room, or neither -/
theorem rf_room (hI : rf_I M U N) (hN9 : N < 2 ^ 31) (hk : k < 64) {L : Nat} (hL : L ≤ 3) {more : Int32} (hkp : ∀ l, l < 3 → (0 < nI (mo_below U l k) + more ↔ l < L)) :
    (fb_free M < nI (fb_ntm (me_set M 2 (rf_KR M).2) (rf_rn M 0) k L) ↔ ¬ nI (mo_fn U k more) ≤ mo_free U) ∧ (nI (mo_fn U k more) ≤ mo_free U → rf_nb (rf_mk (rf_KR M).2) + me_cn (fun j => decide (M 1 (rf_n M k j) = 0)) L ≤ 60) := by
  obtain ⟨f1, f2, f3, f4, f5⟩ := rf_freeI hI
  have hle := me_cn_le (fun j => decide (M 1 (rf_n M k j) = 0)) L
  rw [rf_ntm _ hk hL, rf_fn hI hN9 hk hL hkp, f1, f2, f4, nI_ltI (by omega) (by omega), nI_leI (by omega) (by omega)]
  omega
end
end
section
/-! the calls, as Java has them: of the class (which exception: 0 none, 1 IllegalState, 2 IllegalArgument, 3 UnsupportedOperation, 4 NoSuchElement; answer; memory), of the reference (answer, memory) -/
def fb_isk (k : Int32) : Bool := decide (0 ≤ k) && decide (k < 64)
def fb_ism (M : me_M) (h : Int32) : Bool := decide (0 ≤ h) && decide (h < 7) && decide (M 3 h.toNatClampNeg ≠ -1)
def fb_iss (M : me_M) (h : Int32) : Bool := decide (h ≠ 0) && fb_ism M h
def fb_r (M : me_M) (h : Nat) : Nat := (M 3 h).toNatClampNeg
abbrev fb_X : Type := Nat × Int32 × me_M
def fb_ocp (M : me_M) (k L : Nat) : Bool × me_M := if fb_free M < nI (fb_ntm (fb_mr M).2 (fb_r M 0) k L) then (true, (fb_mr M).2) else (false, me_up (fb_op (fb_mr M).2 (fb_r M 0) k L).2 3 0 (nI (fb_op (fb_mr M).2 (fb_r M 0) k L).1))
def fb_put2 (M : me_M) (k : Nat) (v : Int32) : fb_X := if (fb_bd M (fb_r M 0) k && decide (fb_val M (fb_r M 0) k = v)) = true then (0, 2, M) else
  if (fb_ocp M k 3).1 = true then (3, 0, (fb_ocp M k 3).2) else (0, if fb_bd M (fb_r M 0) k = true then 1 else 0, fb_bind (fb_ocp M k 3).2 (fb_r (fb_ocp M k 3).2 0) k v)
def fb_put (M : me_M) (k v : Int32) : fb_X := if M 5 0 ≠ 0 then (1, 0, M) else if fb_isk k = false then (2, 0, M) else fb_put2 M k.toNatClampNeg v
def fb_remove2 (M : me_M) (k L : Nat) : fb_X := if (fb_ocp M k L).1 = true then (3, 0, (fb_ocp M k L).2) else (0, fb_val M (fb_r M 0) k, fb_cut (fb_ocp M k L).2 (fb_r (fb_ocp M k L).2 0) k L)
def fb_remove (M : me_M) (k : Int32) : fb_X := if M 5 0 ≠ 0 then (1, 0, M) else if (fb_isk k && fb_bd M (fb_r M 0) k.toNatClampNeg) = false then (4, 0, M) else fb_remove2 M k.toNatClampNeg (fb_lw M (fb_r M 0) k.toNatClampNeg 3)
def fb_get (M : me_M) (h k : Int32) : fb_X := if M 5 0 ≠ 0 then (1, 0, M) else if fb_ism M h = false then (2, 0, M) else if (fb_isk k && fb_bd M (fb_r M h.toNatClampNeg) k.toNatClampNeg) = false then (4, 0, M) else (0, fb_val M (fb_r M h.toNatClampNeg) k.toNatClampNeg, M)
def fb_nx (P : Nat → Bool) : Nat → Nat → Int32
  | 0, _ => -1
  | f + 1, k => if k < 64 then (if P k = true then nI k else fb_nx P f (k + 1)) else -1
def fb_next (M : me_M) (h from_ : Int32) : fb_X := if M 5 0 ≠ 0 then (1, 0, M) else if fb_ism M h = false then (2, 0, M) else (0, fb_nx (fb_bd M (fb_r M h.toNatClampNeg)) 64 from_.toNatClampNeg, M)
def fb_count (M : me_M) (h : Int32) : fb_X := if M 5 0 ≠ 0 then (1, 0, M) else if fb_ism M h = false then (2, 0, M) else (0, nI (fb_kb M (fb_r M h.toNatClampNeg)), M)
def fb_nodes (M : me_M) (h : Int32) : fb_X := if M 5 0 ≠ 0 then (1, 0, M) else if fb_ism M h = false then (2, 0, M) else (0, nI (fb_mark (fb_unmark M) (fb_r M h.toNatClampNeg)).1, (fb_mark (fb_unmark M) (fb_r M h.toNatClampNeg)).2)
def fb_sh (M : me_M) (a b : Nat) : Int32 × me_M :=
  (nI (fb_mark (fb_unmark M) b).1 - nI (fb_mark (fb_mark (fb_unmark (fb_mark (fb_unmark M) b).2) a).2 b).1, (fb_mark (fb_mark (fb_unmark (fb_mark (fb_unmark M) b).2) a).2 b).2)
def fb_shared (M : me_M) (a b : Int32) : fb_X := if M 5 0 ≠ 0 then (1, 0, M) else if (fb_ism M a && fb_ism M b) = false then (2, 0, M) else (0, fb_sh M (fb_r M a.toNatClampNeg) (fb_r M b.toNatClampNeg))
def fb_differ (M : me_M) (a b : Int32) : fb_X := if M 5 0 ≠ 0 then (1, 0, M) else if (fb_ism M a && fb_ism M b) = false then (2, 0, M) else (0, nI (me_cn (fun k => !fb_alike M (fb_r M a.toNatClampNeg) (fb_r M b.toNatClampNeg) k) 64), M)
def fb_snapshot (M : me_M) : fb_X := if M 5 0 ≠ 0 then (1, 0, M) else if fb_lu M 6 1 = 7 then (3, 0, M) else (0, nI (fb_lu M 6 1), fb_freeze (me_up M 3 (fb_lu M 6 1) (M 3 0)))
def fb_rollback (M : me_M) (h : Int32) : fb_X := if M 5 0 ≠ 0 then (1, 0, M) else if fb_iss M h = false then (2, 0, M) else (0, nI (fb_kb M (fb_r M h.toNatClampNeg)), me_up M 3 0 (M 3 h.toNatClampNeg))
def fb_drop (M : me_M) (h : Int32) : fb_X := if M 5 0 ≠ 0 then (1, 0, M) else if fb_iss M h = false then (2, 0, M) else (0, fb_free (me_up (fb_mr M).2 3 h.toNatClampNeg (-1)) - fb_free M, (fb_mr (me_up (fb_mr M).2 3 h.toNatClampNeg (-1))).2)
def fb_due0 (M : me_M) : Int32 := nI (fb_mr M).1 + 1
def fb_commit (M : me_M) : fb_X := if M 5 0 ≠ 0 then (1, 0, M) else
  if M 5 2 ≠ -1 ∧ M 5 2 < fb_due0 M then (1, 0, me_up (me_up (me_up (fb_mr M).2 5 1 (M 5 1 + M 5 2)) 5 2 (-1)) 5 0 1) else
  (0, fb_due0 M, fb_freeze (me_set (me_up (if M 5 2 ≠ -1 then me_up (fb_mr M).2 5 2 (M 5 2 - fb_due0 M) else (fb_mr M).2) 5 1 (M 5 1 + fb_due0 M)) 4 (va_cpy (M 3) (M 4) 0 0 7)))
def fb_freeC (M : me_M) : fb_X := if M 5 0 ≠ 0 then (1, 0, M) else (0, fb_free M, (fb_mr M).2)
def fb_due (M : me_M) : fb_X := if M 5 0 ≠ 0 then (1, 0, M) else (0, fb_due0 M, (fb_mr M).2)
def fb_order (M : me_M) (n : Int32) : fb_X := if n < 0 ∨ 100 < n then (0, 0, M) else (0, 1, me_up M 5 2 n)
def fb_recover (M : me_M) : fb_X := if M 5 0 = 0 then (0, -1, M) else (0, nI (me_cn (fun h => decide (M 4 (h + 1) ≠ -1)) 6), me_up (me_set M 3 (va_cpy (M 4) (M 3) 0 0 7)) 5 0 0)
/-! the reference -/
def mo_ism (U : me_M) (h : Int32) : Bool := decide (0 ≤ h) && decide (h < 7) && decide (U 0 h.toNatClampNeg ≠ 0)
def mo_iss (U : me_M) (h : Int32) : Bool := decide (0 < h) && mo_ism U h
def mo_put2 (U : me_M) (k : Nat) (v : Int32) : Int32 × me_M :=
  if U 1 k ≠ 0 ∧ U 2 k = v then (2, U) else
  if nI (mo_fn U k (if U 1 k ≠ 0 then 0 else 1)) ≤ mo_free U then (if U 1 k ≠ 0 then 1 else 0, me_up (mo_change U k (if U 1 k ≠ 0 then 0 else 1)) 2 k v) else (0, me_up U 4 0 3)
def mo_put (U : me_M) (k v : Int32) : Int32 × me_M :=
  if U 4 5 ≠ 0 then (0, me_up U 4 0 1) else if fb_isk k = false then (0, me_up U 4 0 2) else mo_put2 (me_up U 4 0 0) k.toNatClampNeg v
def mo_remove (U : me_M) (k : Int32) : Int32 × me_M :=
  if U 4 5 ≠ 0 then (0, me_up U 4 0 1) else if (fb_isk k && decide (U 1 k.toNatClampNeg ≠ 0)) = false then (0, me_up U 4 0 2) else
  if nI (mo_fn U k.toNatClampNeg (-1)) ≤ mo_free U then (U 2 k.toNatClampNeg, mo_change (me_up U 4 0 0) k.toNatClampNeg (-1)) else (0, me_up U 4 0 3)
def mo_get (U : me_M) (h k : Int32) : Int32 × me_M :=
  if U 4 5 ≠ 0 then (0, me_up U 4 0 1) else if mo_ism U h = false then (0, me_up U 4 0 2) else if (fb_isk k && decide (U 1 (64 * h.toNatClampNeg + k.toNatClampNeg) ≠ 0)) = false then (0, me_up U 4 0 3) else (U 2 (64 * h.toNatClampNeg + k.toNatClampNeg), me_up U 4 0 0)
/-- the least key from lo on that has P, below 64; found so far: downwards -/
def mo_nx (P : Nat → Bool) (from_ : Int32) : Nat → Int32 → Int32
  | 0, f => f
  | n + 1, f => if from_ ≤ nI n then mo_nx P from_ n (if P n = true then nI n else f) else f
def mo_next (U : me_M) (h from_ : Int32) : Int32 × me_M :=
  if U 4 5 ≠ 0 then (0, me_up U 4 0 1) else if mo_ism U h = false then (0, me_up U 4 0 2) else (mo_nx (fun k => decide (U 1 (64 * h.toNatClampNeg + k) ≠ 0)) from_ 64 (-1), me_up U 4 0 0)
def mo_count (U : me_M) (h : Int32) : Int32 × me_M :=
  if U 4 5 ≠ 0 then (0, me_up U 4 0 1) else if mo_ism U h = false then (0, me_up U 4 0 2) else (nI (mo_bi U h.toNatClampNeg 0 64), me_up U 4 0 0)
def mo_nodes (U : me_M) (h : Int32) : Int32 × me_M :=
  if U 4 5 ≠ 0 then (0, me_up U 4 0 1) else if mo_ism U h = false then (0, me_up U 4 0 2) else (nI (mo_df U h.toNatClampNeg 1 21), me_up U 4 0 0)
def mo_shared (U : me_M) (a b : Int32) : Int32 × me_M :=
  if U 4 5 ≠ 0 then (0, me_up U 4 0 1) else if (mo_ism U a && mo_ism U b) = false then (0, me_up U 4 0 2) else (nI (me_cn (fun p => decide (0 < U 3 (21 * a.toNatClampNeg + p)) && decide (U 3 (21 * b.toNatClampNeg + p) = U 3 (21 * a.toNatClampNeg + p))) 21), me_up U 4 0 0)
def mo_alike (U : me_M) (a b k : Nat) : Bool := (decide (U 1 (64 * a + k) ≠ 0) == decide (U 1 (64 * b + k) ≠ 0)) && (!decide (U 1 (64 * a + k) ≠ 0) || decide (U 2 (64 * a + k) = U 2 (64 * b + k)))
def mo_differ (U : me_M) (a b : Int32) : Int32 × me_M :=
  if U 4 5 ≠ 0 then (0, me_up U 4 0 1) else if (mo_ism U a && mo_ism U b) = false then (0, me_up U 4 0 2) else (nI (me_cn (fun k => !mo_alike U a.toNatClampNeg b.toNatClampNeg k) 64), me_up U 4 0 0)
def mo_lu (U : me_M) : Nat → Nat → Nat
  | 0, h => h
  | f + 1, h => if h < 7 ∧ U 0 h ≠ 0 then mo_lu U f (h + 1) else h
def mo_snapshot (U : me_M) : Int32 × me_M :=
  if U 4 5 ≠ 0 then (0, me_up U 4 0 1) else if mo_lu U 6 1 = 7 then (0, me_up U 4 0 2) else (nI (mo_lu U 6 1), me_up (mo_copy (me_up U 4 0 0) 0 (mo_lu U 6 1)) 4 2 (U 4 1))
def mo_rollback (U : me_M) (h : Int32) : Int32 × me_M :=
  if U 4 5 ≠ 0 then (0, me_up U 4 0 1) else if mo_iss U h = false then (0, me_up U 4 0 2) else (nI (mo_bi (mo_copy (me_up U 4 0 0) h.toNatClampNeg 0) 0 0 64), mo_copy (me_up U 4 0 0) h.toNatClampNeg 0)
def mo_drop (U : me_M) (h : Int32) : Int32 × me_M :=
  if U 4 5 ≠ 0 then (0, me_up U 4 0 1) else if mo_iss U h = false then (0, me_up U 4 0 2) else (mo_free (mo_empty (me_up U 4 0 0) h.toNatClampNeg) - mo_free U, mo_empty (me_up U 4 0 0) h.toNatClampNeg)
def mo_due0 (U : me_M) : Int32 := nI (mo_df U 0 14 21) - nI (mo_df U 7 7 21) + 1
/-- copies of n maps, from f on to t on -/
def mo_cps (U : me_M) (f t : Nat) : Nat → me_M
  | 0 => U
  | n + 1 => mo_copy (mo_cps U f t n) (f + n) (t + n)
def mo_commit (U : me_M) : Int32 × me_M :=
  if U 4 5 ≠ 0 then (0, me_up U 4 0 1) else
  if 0 ≤ U 4 4 ∧ U 4 4 < mo_due0 U then (0, me_up (me_up (me_up (me_up (me_up U 4 0 0) 4 3 (U 4 3 + U 4 4)) 4 4 (-1)) 4 5 1) 4 0 1) else
  (mo_due0 U, me_up (mo_cps (me_up (me_up (me_up U 4 0 0) 4 4 (if U 4 4 < 0 then U 4 4 else U 4 4 - mo_due0 U)) 4 3 (U 4 3 + mo_due0 U)) 0 7 7) 4 2 (U 4 1))
def mo_freeC (U : me_M) : Int32 × me_M := if U 4 5 ≠ 0 then (0, me_up U 4 0 1) else (mo_free U, me_up U 4 0 0)
def mo_due (U : me_M) : Int32 × me_M := if U 4 5 ≠ 0 then (0, me_up U 4 0 1) else (mo_due0 U, me_up U 4 0 0)
def mo_order (U : me_M) (n : Int32) : Int32 × me_M := if n < 0 ∨ 100 < n then (0, me_up U 4 0 0) else (1, me_up (me_up U 4 0 0) 4 4 n)
def mo_recover (U : me_M) : Int32 × me_M := if U 4 5 = 0 then (-1, me_up U 4 0 0) else (nI (me_cn (fun h => decide (U 0 (7 + (h + 1)) ≠ 0)) 6), me_up (mo_cps (me_up U 4 0 0) 7 0 7) 4 5 0)
end
section
/-! each call answers alike on both sides, and what held holds -/
section
variable {M U : me_M} {N : Nat}
/-- exceptions of the class as the law counts them for a call; answers alike; what holds then -/
def rf_E (cd : Nat → Int32) (a : fb_X) (b : Int32 × me_M) (N' : Nat) : Prop := b.2 4 0 = cd a.1 ∧ (a.1 = 0 → a.2.1 = b.1) ∧ rf_I a.2.2 b.2 N'
theorem rf_Ex (cd : Nat → Int32) {M' V : me_M} {x : Nat} {r b : Int32} (hx : x ≠ 0) (c : Int32) (hc : cd x = c) (hI : rf_I M' (me_up V 4 0 c) N) : rf_E cd (x, r, M') (b, me_up V 4 0 c) N := ⟨by show me_up V 4 0 c 4 0 = cd x; rw [me_up_s, hc], fun z => absurd z hx, hI⟩
theorem rf_Er (cd : Nat → Int32) {M' V : me_M} {r b : Int32} (hc : cd 0 = 0) (e : r = b) (hI : rf_I M' (me_up V 4 0 0) N) : rf_E cd (0, r, M') (b, me_up V 4 0 0) N := ⟨by show me_up V 4 0 0 4 0 = cd 0; rw [me_up_s, hc], fun _ => e, hI⟩
def rf_cP : Nat → Int32 := fun x => if x = 1 then 1 else if x = 2 then 2 else if x = 3 then 3 else 0
def rf_cR : Nat → Int32 := fun x => if x = 1 then 1 else if x = 4 then 2 else if x = 3 then 3 else 0
def rf_cG : Nat → Int32 := fun x => if x = 1 then 1 else if x = 2 then 2 else if x = 4 then 3 else 0
def rf_cS : Nat → Int32 := fun x => if x = 1 then 1 else if x = 3 then 2 else 0
theorem rf_isk {k : Int32} (h : fb_isk k = true) : k.toNatClampNeg < 64 ∧ k = nI k.toNatClampNeg := by
  unfold fb_isk at h
  rw [Bool.and_eq_true, decide_eq_true_iff, decide_eq_true_iff] at h
  obtain ⟨j, hj, e⟩ := nI_of2 (M := 63) (n := 63) (by decide) (Int32.not_lt.mpr h.1) (by
    have h1 := h.2
    rw [Int32.lt_iff_toInt_lt] at h1
    rw [Int32.le_iff_toInt_le]
    have e1 : (64 : Int32).toInt = 64 := by decide
    have e2 : (63 : Int32).toInt = 63 := by decide
    rw [e1] at h1; rw [e2]; omega)
  subst e
  rw [nI_clamp (by omega)]
  exact ⟨by omega, rfl⟩
theorem rf_h7 {h : Int32} (h1 : 0 ≤ h) (h2 : h < 7) : h.toNatClampNeg < 7 ∧ h = nI h.toNatClampNeg := by
  obtain ⟨j, hj, e⟩ := nI_of2 (M := 6) (n := 6) (by decide) (Int32.not_lt.mpr h1) (by
    rw [Int32.lt_iff_toInt_lt] at h2
    rw [Int32.le_iff_toInt_le]
    have e1 : (7 : Int32).toInt = 7 := by decide
    have e2 : (6 : Int32).toInt = 6 := by decide
    rw [e1] at h2; rw [e2]; omega)
  subst e
  rw [nI_clamp (by omega)]
  exact ⟨by omega, rfl⟩
theorem rf_rn7 (M : me_M) {h : Nat} (hh : h < 7) : fb_r M h = rf_rn M h := by
  unfold fb_r rf_rn rf_rv; rw [if_pos hh]
theorem rf_m1n (x : Nat) (hx : x < 2 ^ 31) : nI x ≠ -1 := by
  intro e
  have h := congrArg Int32.toInt e
  rw [nI_toInt hx] at h
  have : ((-1 : Int32)).toInt = -1 := by decide
  omega
theorem rf_there (hI : rf_I M U N) {h : Nat} (hh : h < 7) : M 3 h ≠ -1 ↔ U 0 h ≠ 0 := by
  have e : rf_rv M h = M 3 h := if_pos hh
  rcases hI.1.1 h (by omega) with ⟨h1, h2⟩ | ⟨h1, h2, h3⟩
  · rw [← e, h1, h2]; exact ⟨fun z => absurd rfl z, fun z => absurd rfl z⟩
  · rw [← e, h1, h2]; exact ⟨fun _ => by decide, fun _ => rf_m1n _ (by omega)⟩
theorem rf_ism (hI : rf_I M U N) (h : Int32) : fb_ism M h = mo_ism U h := by
  unfold fb_ism mo_ism
  by_cases h1 : 0 ≤ h
  · by_cases h2 : h < 7
    · rw [decide_eq_true h1, decide_eq_true h2, Bool.true_and, Bool.true_and, Bool.true_and, Bool.eq_iff_iff, decide_eq_true_iff, decide_eq_true_iff]
      exact rf_there hI (rf_h7 h1 h2).1
    · rw [decide_eq_false h2, Bool.and_false, Bool.false_and, Bool.false_and]
  · rw [decide_eq_false h1, Bool.false_and, Bool.false_and, Bool.false_and]
theorem rf_ismlt {h : Int32} (hh : fb_ism M h = true) : h.toNatClampNeg < 7 := by
  unfold fb_ism at hh
  rw [Bool.and_eq_true, Bool.and_eq_true, decide_eq_true_iff, decide_eq_true_iff] at hh
  exact (rf_h7 hh.1.1 hh.1.2).1
theorem rf_bd (hI : rf_I M U N) {m k : Nat} (hm : m < 14) (hk : k < 64) : fb_bd M (rf_rn M m) k = decide (U 1 (64 * m + k) ≠ 0) := by
  have h := hI.2.2.2.2.1.2.2 m k hm hk
  unfold fb_bd
  rw [← h, rf_na M _ hk (by omega), Bool.eq_iff_iff, decide_eq_true_iff, rf_and, rf_tn2, rf_pl2]
  exact Iff.rfl
theorem rf_val (hI : rf_I M U N) {m k : Nat} (hm : m < 14) (hk : k < 64) (hb : U 1 (64 * m + k) ≠ 0) : fb_val M (rf_rn M m) k = U 2 (64 * m + k) := by
  have h := hI.2.2.2.2.2.1 m k hm hk hb
  unfold fb_val
  rw [rf_na M _ hk (by omega), rf_tn2, rf_pl2]
  exact h
theorem rf_kp_put {k : Nat} (hk : k < 64) {more : Int32} (hmore : more = if U 1 k ≠ 0 then 0 else 1) : ∀ l, l < 3 → (0 < nI (mo_below U l k) + more ↔ l < 3) := by
  intro l hl
  have hle := rf_below_le (U := U) (k := k) hl
  refine ⟨fun _ => hl, fun _ => ?_⟩
  rw [hmore]
  by_cases hb : U 1 k ≠ 0
  · rw [if_pos hb, Int32.add_zero]
    show nI 0 < _
    exact nI_lt (rf_below_pos hk hb hl) (by omega)
  · rw [if_neg hb, nI_1]
    show nI 0 < _
    exact nI_lt (by omega) (by omega)
theorem rf_kp_rem {k : Nat} (hk : k < 64) (hb : U 1 k ≠ 0) {L : Nat} (hL : ∀ l, l < 3 → (l < L ↔ ¬ rf_al U k l)) : ∀ l, l < 3 → (0 < nI (mo_below U l k) + (-1) ↔ l < L) := by
  intro l hl
  have hle := rf_below_le (U := U) (k := k) hl
  have hpos := rf_below_pos hk hb hl
  rw [sb_m1 hpos, hL l hl, ← rf_below_2 hk hb hl]
  show nI 0 < _ ↔ _
  rw [nI_ltI (by omega) (by omega)]
  omega
theorem rf_ocp (hI : rf_I M U N) (hN9 : N < 2 ^ 31) {k : Nat} (hk : k < 64) {L : Nat} (hL : L ≤ 3) {more : Int32} (hkp : ∀ l, l < 3 → (0 < nI (mo_below U l k) + more ↔ l < L)) :
    (¬ nI (mo_fn U k more) ≤ mo_free U ∧ fb_ocp M k L = (true, me_set M 2 (rf_KR M).2)) ∨
    (nI (mo_fn U k more) ≤ mo_free U ∧ rf_nb (rf_mk (rf_KR M).2) + me_cn (fun j => decide (M 1 (rf_n M k j) = 0)) L ≤ 60 ∧ fb_ocp M k L = (false, me_up (fb_op (me_set M 2 (rf_KR M).2) (rf_rn M 0) k L).2 3 0 (nI (fb_op (me_set M 2 (rf_KR M).2) (rf_rn M 0) k L).1))) := by
  obtain ⟨r1, r2⟩ := rf_room hI hN9 hk hL hkp
  unfold fb_ocp
  rw [rf_mr, rf_rn7 M (by omega)]
  by_cases h : nI (mo_fn U k more) ≤ mo_free U
  · refine Or.inr ⟨h, r2 h, ?_⟩
    rw [if_neg (fun z => r1.mp z h)]
  · refine Or.inl ⟨h, ?_⟩
    rw [if_pos (r1.mpr h)]
theorem rf_r_up (X : me_M) {c : Nat} (hc : c ≤ 60) : fb_r (me_up X 3 0 (nI c)) 0 = c := by
  unfold fb_r; rw [me_up_s, nI_clamp (by omega)]
theorem rp_put2 (hI : rf_I M U N) (hN9 : N + 3 < 2 ^ 31) (h0 : U 4 0 = 0) {k : Nat} (hk : k < 64) (v : Int32) : rf_E rf_cP (fb_put2 M k v) (mo_put2 U k v) (N + 3) := by
  have e64 : 64 * 0 + k = k := by omega
  have hbd := rf_bd hI (m := 0) (by omega) hk
  rw [e64] at hbd
  have hr0 : fb_r M 0 = rf_rn M 0 := rf_rn7 M (by omega)
  unfold fb_put2 mo_put2
  rw [hr0, hbd]
  have hI3 := rf_I_N hI (show N ≤ N + 3 by omega)
  by_cases hs : U 1 k ≠ 0 ∧ U 2 k = v
  · have hv := rf_val hI (m := 0) (by omega) hk (by rw [e64]; exact hs.1)
    rw [e64] at hv
    rw [if_pos hs, if_pos (by rw [decide_eq_true hs.1, hv, decide_eq_true hs.2]; rfl)]
    exact ⟨h0, fun _ => rfl, hI3⟩
  · have hs2 : ¬ (decide (U 1 k ≠ 0) && decide (fb_val M (rf_rn M 0) k = v)) = true := by
      rw [Bool.and_eq_true, decide_eq_true_iff, decide_eq_true_iff]
      rintro ⟨z1, z2⟩
      have hv := rf_val hI (m := 0) (by omega) hk (by rw [e64]; exact z1)
      rw [e64] at hv
      exact hs ⟨z1, by rw [← hv]; exact z2⟩
    rw [if_neg hs, if_neg hs2]
    have hkp := rf_kp_put (U := U) hk rfl
    rcases rf_ocp hI (by omega) hk (Nat.le_refl 3) hkp with ⟨f1, f2⟩ | ⟨f1, f2, f3⟩
    · rw [f2, if_neg f1]
      dsimp only
      rw [if_pos rfl]
      exact rf_Ex _ (by decide) _ rfl (rf_I_c (rf_I_N (rf_I_K hI (by omega) _) (by omega)) (by omega) _)
    · rw [f3, if_pos f1]
      dsimp only
      rw [if_neg Bool.false_ne_true]
      obtain ⟨f4, f5, f6, f7, f8⟩ := rf_freeI hI
      obtain ⟨c, c1, c2⟩ := rf_put_C hI hk f8 v f2
      have hbm : 0 ≤ (if U 1 k ≠ 0 then (0 : Int32) else 1) ↔ true = true := ⟨fun _ => rfl, fun _ => by split <;> decide⟩
      have hU := rf_change (U' := me_up (mo_change U k (if U 1 k ≠ 0 then 0 else 1)) 2 k v) (b := true) (w := v) hI hk (Nat.le_refl 3) hkp hbm (me_up_n _ _ _ (by decide)) (me_up_n _ _ _ (by decide)) (me_up_n _ _ _ (by decide)) (fun j hj => by
          rw [me_up_j _ _ _ hj]
          have hg := hI.2.2.2.2.2.2.2.2.2.1
          obtain ⟨ma, mk, g1, -⟩ := hg
          obtain ⟨-, -, q2, -⟩ := rf_cl (more := if U 1 k ≠ 0 then 0 else 1) hk g1 3 (Nat.le_refl _)
          unfold mo_change
          rw [me_up_n _ _ _ (by decide), q2]) (fun _ => me_up_s _ _ _ _) (fun j _ => by rw [me_up_n _ _ _ (by decide)]) (fun _ z => (by cases z)) hN9
      refine ⟨?_, fun _ => ?_, ?_⟩
      · dsimp only
        rw [me_up_n _ _ _ (by decide)]
        obtain ⟨ma, mk, g1, -⟩ := hI.2.2.2.2.2.2.2.2.2.1
        obtain ⟨-, -, -, q4, -⟩ := rf_cl (more := if U 1 k ≠ 0 then 0 else 1) hk g1 3 (Nat.le_refl _)
        unfold mo_change
        rw [me_up_n _ _ _ (by decide), q4 0 (by decide)]
        exact h0
      · show (if decide (U 1 k ≠ 0) = true then (1 : Int32) else 0) = if U 1 k ≠ 0 then 1 else 0
        by_cases hb : U 1 k ≠ 0
        · rw [if_pos hb, if_pos (decide_eq_true hb)]
        · rw [if_neg hb, if_neg (fun z => hb (of_decide_eq_true z))]
      · show rf_I (fb_bind _ (fb_r _ 0) k v) _ _
        rw [rf_r_up _ c1]
        exact rf_step hI hk c2 hU (by omega) hN9
theorem rp_put (hI : rf_I M U N) (hN9 : N + 3 < 2 ^ 31) (k v : Int32) : rf_E rf_cP (fb_put M k v) (mo_put U k v) (N + 3) := by
  have hI3 := rf_I_N hI (show N ≤ N + 3 by omega)
  have hd : M 5 0 = U 4 5 := hI.2.2.2.2.2.2.2.2.2.2.2.1
  unfold fb_put mo_put
  rw [hd]
  by_cases h1 : U 4 5 ≠ 0
  · rw [if_pos h1, if_pos h1]
    exact rf_Ex _ (by decide) _ rfl (rf_I_c hI3 (by omega) _)
  · rw [if_neg h1, if_neg h1]
    by_cases h2 : fb_isk k = false
    · rw [if_pos h2, if_pos h2]
      exact rf_Ex _ (by decide) _ rfl (rf_I_c hI3 (by omega) _)
    · rw [if_neg h2, if_neg h2]
      exact rp_put2 (rf_I_c hI (by omega) 0) hN9 (me_up_s _ _ _ _) (rf_isk (by simpa using h2)).1 v
end
end
section
/-! .. remove, and the calls that only read -/
section
variable {M U V : me_M} {N : Nat}
theorem mo_in_of (h : V 3 = U 3) (x : Int32) (p lo n : Nat) : mo_in V x p lo n = mo_in U x p lo n := by
  induction n with
  | zero => rfl
  | succ n ih => unfold mo_in; rw [ih, h]
theorem mo_d1_of (h : V 3 = U 3) (p lo n : Nat) : mo_d1 V p lo n = mo_d1 U p lo n := by
  unfold mo_d1
  refine me_cn_congr fun i _ => ?_
  rw [h, mo_in_of h]
theorem mo_df_of (h : V 3 = U 3) (lo n P : Nat) : mo_df V lo n P = mo_df U lo n P := by
  induction P with
  | zero => rfl
  | succ P ih => unfold mo_df; rw [ih, mo_d1_of h]
theorem mo_free_of (h : V 3 = U 3) : mo_free V = mo_free U := by unfold mo_free; rw [mo_df_of h]
theorem mo_fn_of (h1 : V 1 = U 1) (h3 : V 3 = U 3) (h4 : V 4 2 = U 4 2) (k : Nat) (more : Int32) : mo_fn V k more = mo_fn U k more := by
  unfold mo_fn
  refine me_cn_congr fun l _ => ?_
  unfold mo_makes
  rw [mo_below_of h1, h3, h4]
theorem rp_remove2 (hI : rf_I M U N) (hN9 : N + 3 < 2 ^ 31) (h0 : U 4 0 = 0) {k : Nat} (hk : k < 64) (hb : U 1 k ≠ 0) :
    (nI (mo_fn U k (-1)) ≤ mo_free U → rf_E rf_cR (fb_remove2 M k (fb_lw M (rf_rn M 0) k 3)) (U 2 k, mo_change U k (-1)) (N + 3)) ∧
    (¬ nI (mo_fn U k (-1)) ≤ mo_free U → fb_remove2 M k (fb_lw M (rf_rn M 0) k 3) = (3, 0, me_set M 2 (rf_KR M).2)) := by
  have e64 : 64 * 0 + k = k := by omega
  obtain ⟨l1, l2, l3⟩ := rf_lw hI hk hb
  have hkp := rf_kp_rem hk hb l2
  unfold fb_remove2
  rcases rf_ocp hI (by omega) hk l1 hkp with ⟨f1, f2⟩ | ⟨f1, f2, f3⟩
  · refine ⟨fun z => absurd z f1, fun _ => ?_⟩
    rw [f2]
    dsimp only
    rw [if_pos rfl]
  · refine ⟨fun _ => ?_, fun z => absurd f1 z⟩
    rw [f3]
    dsimp only
    rw [if_neg Bool.false_ne_true]
    obtain ⟨f4, f5, f6, f7, f8⟩ := rf_freeI hI
    obtain ⟨c, c1, c2⟩ := rf_cut_C hI hk f8 _ l1 f2 l3
    have hbm : 0 ≤ (-1 : Int32) ↔ false = true := ⟨fun z => absurd z (by decide), fun z => (by cases z)⟩
    obtain ⟨ma, mk, g1, -⟩ := id hI.2.2.2.2.2.2.2.2.2.1
    obtain ⟨-, -, q2, q4, -⟩ := rf_cl (more := -1) hk g1 3 (Nat.le_refl _)
    have hU := rf_change (U' := mo_change U k (-1)) (b := false) (w := 0) hI hk l1 hkp hbm rfl rfl rfl (fun j _ => by
        unfold mo_change
        rw [me_up_n _ _ _ (by decide), q2]) (fun z => (by cases z)) (fun j _ => rfl) (fun z _ => rf_lw_ex l1 l2 z) hN9
    refine ⟨?_, fun _ => ?_, ?_⟩
    · dsimp only
      unfold mo_change
      rw [me_up_n _ _ _ (by decide), q4 0 (by decide)]
      exact h0
    · show fb_val M (fb_r M 0) k = U 2 k
      rw [rf_rn7 M (by omega)]
      have hv := rf_val hI (m := 0) (by omega) hk (by rw [e64]; exact hb)
      rw [e64] at hv
      exact hv
    · show rf_I (fb_cut _ (fb_r _ 0) k _) _ _
      rw [rf_r_up _ c1]
      exact rf_step hI hk c2 hU (by omega) hN9
theorem rp_remove (hI : rf_I M U N) (hN9 : N + 3 < 2 ^ 31) (k : Int32) : rf_E rf_cR (fb_remove M k) (mo_remove U k) (N + 3) := by
  have hI3 := rf_I_N hI (show N ≤ N + 3 by omega)
  have hd : M 5 0 = U 4 5 := hI.2.2.2.2.2.2.2.2.2.2.2.1
  unfold fb_remove mo_remove
  rw [hd, rf_rn7 M (by omega)]
  by_cases h1 : U 4 5 ≠ 0
  · rw [if_pos h1, if_pos h1]
    exact rf_Ex _ (by decide) _ rfl (rf_I_c hI3 (by omega) _)
  · rw [if_neg h1, if_neg h1]
    by_cases h2 : fb_isk k = true
    · obtain ⟨hk, ek⟩ := rf_isk h2
      have hbd := rf_bd hI (m := 0) (by omega) hk
      rw [show 64 * 0 + k.toNatClampNeg = k.toNatClampNeg by omega] at hbd
      rw [h2, hbd, Bool.true_and]
      by_cases hb : U 1 k.toNatClampNeg ≠ 0
      · rw [if_neg (by rw [decide_eq_true hb]; decide), if_neg (by rw [decide_eq_true hb]; decide)]
        have hI1 := rf_I_c hI (by omega) 0
        have e1 : me_up U 4 0 0 1 = U 1 := me_up_n _ _ _ (by decide)
        have e2 : me_up U 4 0 0 2 = U 2 := me_up_n _ _ _ (by decide)
        have e3 : me_up U 4 0 0 3 = U 3 := me_up_n _ _ _ (by decide)
        have e4 : me_up U 4 0 0 4 2 = U 4 2 := me_up_j _ _ _ (by decide)
        obtain ⟨r1, r2⟩ := rp_remove2 hI1 hN9 (me_up_s _ _ _ _) hk (by rw [e1]; exact hb)
        rw [mo_fn_of e1 e3 e4, mo_free_of e3] at r1 r2
        by_cases hf : nI (mo_fn U k.toNatClampNeg (-1)) ≤ mo_free U
        · rw [if_pos hf]
          have := r1 hf
          rw [e2] at this
          exact this
        · rw [if_neg hf, r2 hf]
          exact rf_Ex _ (by decide) _ rfl (rf_I_c (rf_I_N (rf_I_K hI (by omega) _) (by omega)) (by omega) _)
      · have hb' : decide (U 1 k.toNatClampNeg ≠ 0) = false := decide_eq_false hb
        rw [if_pos hb', if_pos hb']
        exact rf_Ex _ (by decide) _ rfl (rf_I_c hI3 (by omega) _)
    · have h2' : fb_isk k = false := by simpa using h2
      rw [h2', Bool.false_and, Bool.false_and, if_pos rfl, if_pos rfl]
      exact rf_Ex _ (by decide) _ rfl (rf_I_c hI3 (by omega) _)
theorem rp_get (hI : rf_I M U N) (hN9 : N < 2 ^ 31) (h k : Int32) : rf_E rf_cG (fb_get M h k) (mo_get U h k) N := by
  have hd : M 5 0 = U 4 5 := hI.2.2.2.2.2.2.2.2.2.2.2.1
  unfold fb_get mo_get
  rw [hd, rf_ism hI]
  have hc := fun x => rf_I_c hI hN9 x
  by_cases h1 : U 4 5 ≠ 0
  · rw [if_pos h1, if_pos h1]
    exact rf_Ex _ (by decide) _ rfl (hc _)
  · rw [if_neg h1, if_neg h1]
    by_cases h2 : mo_ism U h = false
    · rw [if_pos h2, if_pos h2]
      exact rf_Ex _ (by decide) _ rfl (hc _)
    · rw [if_neg h2, if_neg h2]
      have hh : h.toNatClampNeg < 7 := rf_ismlt (M := M) (by rw [rf_ism hI]; simpa using h2)
      rw [rf_rn7 M hh]
      by_cases h3 : fb_isk k = true
      · obtain ⟨hk, -⟩ := rf_isk h3
        rw [h3, rf_bd hI (by omega) hk, Bool.true_and]
        by_cases hb : U 1 (64 * h.toNatClampNeg + k.toNatClampNeg) ≠ 0
        · rw [if_neg (by rw [decide_eq_true hb]; decide), if_neg (by rw [decide_eq_true hb]; decide), rf_val hI (by omega) hk hb]
          exact rf_Er _ rfl (rfl) (hc _)
        · have hb' : decide (U 1 (64 * h.toNatClampNeg + k.toNatClampNeg) ≠ 0) = false := decide_eq_false hb
          rw [if_pos hb', if_pos hb']
          exact rf_Ex _ (by decide) _ rfl (hc _)
      · have h3' : fb_isk k = false := by simpa using h3
        rw [h3', Bool.false_and, Bool.false_and, if_pos rfl, if_pos rfl]
        exact rf_Ex _ (by decide) _ rfl (hc _)
/-- the class seeks upwards, the reference downwards -/
theorem rf_nx_up (P : Nat → Bool) (f k : Nat) (hf : 64 ≤ k + f) : (∃ j, k ≤ j ∧ j < 64 ∧ P j = true ∧ (∀ i, k ≤ i → i < j → P i = false) ∧ fb_nx P f k = nI j) ∨ ((∀ i, k ≤ i → i < 64 → P i = false) ∧ fb_nx P f k = -1) := by
  induction f generalizing k with
  | zero => exact Or.inr ⟨fun i h1 h2 => by omega, rfl⟩
  | succ f ih =>
    unfold fb_nx
    by_cases h : k < 64
    · rw [if_pos h]
      cases hp : P k with
      | true => exact Or.inl ⟨k, Nat.le_refl _, h, hp, fun i h1 h2 => by omega, if_pos rfl⟩
      | false =>
        rw [if_neg (by decide)]
        rcases ih (k + 1) (by omega) with ⟨j, h1, h2, h3, h4, h5⟩ | ⟨h1, h2⟩
        · refine Or.inl ⟨j, by omega, h2, h3, fun i q1 q2 => ?_, h5⟩
          by_cases e : i = k
          · rw [e]; exact hp
          · exact h4 i (by omega) q2
        · refine Or.inr ⟨fun i q1 q2 => ?_, h2⟩
          by_cases e : i = k
          · rw [e]; exact hp
          · exact h1 i (by omega) q2
    · rw [if_neg h]
      exact Or.inr ⟨fun i h1 h2 => by omega, rfl⟩
theorem rf_nx_dn (P : Nat → Bool) (fr : Int32) (n : Nat) (hn : n ≤ 64) (f : Int32) : (∃ j, j < n ∧ fr ≤ nI j ∧ P j = true ∧ (∀ i, fr ≤ nI i → i < j → P i = false) ∧ mo_nx P fr n f = nI j) ∨ ((∀ i, fr ≤ nI i → i < n → P i = false) ∧ mo_nx P fr n f = f) := by
  induction n generalizing f with
  | zero => exact Or.inr ⟨fun i _ h => by omega, rfl⟩
  | succ n ih =>
    unfold mo_nx
    by_cases h : fr ≤ nI n
    · rw [if_pos h]
      rcases ih (by omega) (if P n = true then nI n else f) with ⟨j, h1, h2, h3, h4, h5⟩ | ⟨h1, h2⟩
      · exact Or.inl ⟨j, by omega, h2, h3, h4, h5⟩
      · cases hp : P n with
        | true =>
          rw [hp, if_pos rfl] at h2
          exact Or.inl ⟨n, by omega, h, hp, h1, by rw [if_pos rfl]; exact h2⟩
        | false =>
          rw [hp, if_neg (by decide)] at h2
          refine Or.inr ⟨fun i q1 q2 => ?_, by rw [if_neg (by decide)]; exact h2⟩
          by_cases e : i = n
          · rw [e]; exact hp
          · exact h1 i q1 (by omega)
    · rw [if_neg h]
      refine Or.inr ⟨fun i q1 q2 => ?_, rfl⟩
      exfalso
      exact h (Int32.le_trans q1 (nI_le (by omega) (by omega)))
theorem rf_nx (P : Nat → Bool) (fr : Int32) : fb_nx P 64 fr.toNatClampNeg = mo_nx P fr 64 (-1) := by
  have hle : ∀ i, i < 64 → (fr ≤ nI i ↔ fr.toNatClampNeg ≤ i) := by
    intro i hi
    rw [Int32.le_iff_toInt_le, nI_toInt (by omega)]
    show _ ↔ fr.toInt.toNat ≤ i
    omega
  rcases rf_nx_up P 64 fr.toNatClampNeg (by omega) with ⟨j, h1, h2, h3, h4, h5⟩ | ⟨h1, h2⟩
  · rcases rf_nx_dn P fr 64 (Nat.le_refl _) (-1) with ⟨j', g1, g2, g3, g4, g5⟩ | ⟨g1, g2⟩
    · rw [h5, g5]
      by_cases e : j = j'
      · rw [e]
      · exfalso
        rcases Nat.lt_or_gt_of_ne e with q | q
        · have := g4 j ((hle j h2).mpr h1) q
          rw [this] at h3; cases h3
        · have := h4 j' ((hle j' g1).mp g2) q
          rw [this] at g3; cases g3
    · have := g1 j ((hle j h2).mpr h1) h2
      rw [this] at h3; cases h3
  · rcases rf_nx_dn P fr 64 (Nat.le_refl _) (-1) with ⟨j', g1, g2, g3, g4, g5⟩ | ⟨g1, g2⟩
    · have := h1 j' ((hle j' g1).mp g2) g1
      rw [this] at g3; cases g3
    · rw [h2, g2]
theorem fb_nx_of {P Q : Nat → Bool} (h : ∀ i, i < 64 → P i = Q i) (f k : Nat) : fb_nx P f k = fb_nx Q f k := by
  induction f generalizing k with
  | zero => rfl
  | succ f ih =>
    unfold fb_nx
    by_cases e : k < 64
    · rw [if_pos e, if_pos e, h k e, ih]
    · rw [if_neg e, if_neg e]
theorem rp_next (hI : rf_I M U N) (hN9 : N < 2 ^ 31) (h fr : Int32) : rf_E rf_cG (fb_next M h fr) (mo_next U h fr) N := by
  have hd : M 5 0 = U 4 5 := hI.2.2.2.2.2.2.2.2.2.2.2.1
  unfold fb_next mo_next
  rw [hd, rf_ism hI]
  have hc := fun x => rf_I_c hI hN9 x
  by_cases h1 : U 4 5 ≠ 0
  · rw [if_pos h1, if_pos h1]
    exact rf_Ex _ (by decide) _ rfl (hc _)
  · rw [if_neg h1, if_neg h1]
    by_cases h2 : mo_ism U h = false
    · rw [if_pos h2, if_pos h2]
      exact rf_Ex _ (by decide) _ rfl (hc _)
    · rw [if_neg h2, if_neg h2]
      have hh : h.toNatClampNeg < 7 := rf_ismlt (M := M) (by rw [rf_ism hI]; simpa using h2)
      rw [rf_rn7 M hh]
      refine rf_Er _ rfl (?_) (hc _)
      show fb_nx (fb_bd M (rf_rn M h.toNatClampNeg)) 64 fr.toNatClampNeg = mo_nx _ fr 64 (-1)
      rw [← rf_nx]
      exact fb_nx_of (fun i hi => rf_bd hI (by omega) hi) _ _
theorem rp_count (hI : rf_I M U N) (hN9 : N < 2 ^ 31) (h : Int32) : rf_E rf_cG (fb_count M h) (mo_count U h) N := by
  have hd : M 5 0 = U 4 5 := hI.2.2.2.2.2.2.2.2.2.2.2.1
  unfold fb_count mo_count
  rw [hd, rf_ism hI]
  have hc := fun x => rf_I_c hI hN9 x
  by_cases h1 : U 4 5 ≠ 0
  · rw [if_pos h1, if_pos h1]
    exact rf_Ex _ (by decide) _ rfl (hc _)
  · rw [if_neg h1, if_neg h1]
    by_cases h2 : mo_ism U h = false
    · rw [if_pos h2, if_pos h2]
      exact rf_Ex _ (by decide) _ rfl (hc _)
    · rw [if_neg h2, if_neg h2]
      have hh : h.toNatClampNeg < 7 := rf_ismlt (M := M) (by rw [rf_ism hI]; simpa using h2)
      rw [rf_rn7 M hh]
      refine rf_Er _ rfl (?_) (hc _)
      show nI (fb_kb M (rf_rn M h.toNatClampNeg)) = nI (mo_bi U h.toNatClampNeg 0 64)
      unfold fb_kb mo_bi
      rw [me_cn_congr fun i hi => by rw [rf_bd hI (by omega) hi, show 64 * h.toNatClampNeg + i = 64 * h.toNatClampNeg + (0 + i) by omega]]
theorem rp_differ (hI : rf_I M U N) (hN9 : N < 2 ^ 31) (a b : Int32) : rf_E rf_cG (fb_differ M a b) (mo_differ U a b) N := by
  have hd : M 5 0 = U 4 5 := hI.2.2.2.2.2.2.2.2.2.2.2.1
  unfold fb_differ mo_differ
  rw [hd, rf_ism hI, rf_ism hI]
  have hc := fun x => rf_I_c hI hN9 x
  by_cases h1 : U 4 5 ≠ 0
  · rw [if_pos h1, if_pos h1]
    exact rf_Ex _ (by decide) _ rfl (hc _)
  · rw [if_neg h1, if_neg h1]
    by_cases h2 : (mo_ism U a && mo_ism U b) = false
    · rw [if_pos h2, if_pos h2]
      exact rf_Ex _ (by decide) _ rfl (hc _)
    · rw [if_neg h2, if_neg h2]
      have h3 : mo_ism U a = true ∧ mo_ism U b = true := by simpa using h2
      have ha : a.toNatClampNeg < 7 := rf_ismlt (M := M) (by rw [rf_ism hI]; exact h3.1)
      have hb : b.toNatClampNeg < 7 := rf_ismlt (M := M) (by rw [rf_ism hI]; exact h3.2)
      rw [rf_rn7 M ha, rf_rn7 M hb]
      refine rf_Er _ rfl (?_) (hc _)
      show nI _ = nI _
      rw [me_cn_congr fun k hk => ?_]
      show (!fb_alike M (rf_rn M a.toNatClampNeg) (rf_rn M b.toNatClampNeg) k) = !mo_alike U a.toNatClampNeg b.toNatClampNeg k
      unfold fb_alike mo_alike
      rw [rf_bd hI (by omega) hk, rf_bd hI (by omega) hk]
      by_cases p1 : U 1 (64 * a.toNatClampNeg + k) ≠ 0
      · by_cases p2 : U 1 (64 * b.toNatClampNeg + k) ≠ 0
        · rw [rf_val hI (by omega) hk p1, rf_val hI (by omega) hk p2, decide_eq_true p1, decide_eq_true p2]
          simp
        · rw [decide_eq_true p1, decide_eq_false p2]; simp
      · by_cases p2 : U 1 (64 * b.toNatClampNeg + k) ≠ 0
        · rw [decide_eq_false p1, decide_eq_true p2]; simp
        · rw [decide_eq_false p1, decide_eq_false p2]; simp
end
end
section
/-! .. the calls on whole maps -/
section
variable {M U V X Y : me_M} {N : Nat}
/-- map m in X is what map m0 is in U -/
def rf_cp (U X : me_M) (m m0 : Nat) : Prop := X 0 m = U 0 m0 ∧ (∀ k, k < 64 → X 1 (64 * m + k) = U 1 (64 * m0 + k) ∧ X 2 (64 * m + k) = U 2 (64 * m0 + k)) ∧ ∀ p, p < 21 → X 3 (21 * m + p) = U 3 (21 * m0 + p)
theorem rf_cp_t {m m0 m1 : Nat} (h1 : rf_cp U X m m0) (h2 : rf_cp X Y m1 m) : rf_cp U Y m1 m0 :=
  ⟨h2.1.trans h1.1, fun k hk => ⟨(h2.2.1 k hk).1.trans (h1.2.1 k hk).1, (h2.2.1 k hk).2.trans (h1.2.1 k hk).2⟩, fun p hp => (h2.2.2 p hp).trans (h1.2.2 p hp)⟩
theorem rf_cp_i {m : Nat} (h0 : X 0 = U 0) (h1 : X 1 = U 1) (h2 : X 2 = U 2) (h3 : X 3 = U 3) : rf_cp U X m m := ⟨by rw [h0], fun k _ => ⟨by rw [h1], by rw [h2]⟩, fun p _ => by rw [h3]⟩
theorem rf_copy (U : me_M) (f t m : Nat) : rf_cp U (mo_copy U f t) m (if m = t then f else m) ∧ mo_copy U f t 4 = U 4 := by
  have c0 : mo_copy U f t 0 = upd (U 0) t (U 0 f) := by
    unfold mo_copy
    rw [me_set_n _ _ (by decide), me_set_n _ _ (by decide), me_set_n _ _ (by decide)]
    exact me_set_s _ _ _
  have c1 : mo_copy U f t 1 = va_cpy (U 1) (U 1) (64 * f) (64 * t) 64 := by
    unfold mo_copy
    rw [me_set_n _ _ (by decide), me_set_n _ _ (by decide)]
    exact me_set_s _ _ _
  have c2 : mo_copy U f t 2 = va_cpy (U 2) (U 2) (64 * f) (64 * t) 64 := by
    unfold mo_copy
    rw [me_set_n _ _ (by decide)]
    exact me_set_s _ _ _
  have c3 : mo_copy U f t 3 = va_cpy (U 3) (U 3) (21 * f) (21 * t) 21 := me_set_s _ _ _
  have c4 : mo_copy U f t 4 = U 4 := by
    unfold mo_copy
    rw [me_set_n _ _ (by decide), me_set_n _ _ (by decide), me_set_n _ _ (by decide), me_up_n _ _ _ (by decide)]
  refine ⟨⟨?_, fun k hk => ⟨?_, ?_⟩, fun p hp => ?_⟩, c4⟩
  · rw [c0]; unfold upd
    by_cases e : m = t
    · rw [if_pos e, if_pos e]
    · rw [if_neg e, if_neg e]
  · rw [c1]; unfold va_cpy
    by_cases e : m = t
    · rw [if_pos e, if_pos (by subst e; omega), show 64 * f + (64 * m + k - 64 * t) = 64 * f + k by subst e; omega]
    · rw [if_neg e, if_neg (by omega)]
  · rw [c2]; unfold va_cpy
    by_cases e : m = t
    · rw [if_pos e, if_pos (by subst e; omega), show 64 * f + (64 * m + k - 64 * t) = 64 * f + k by subst e; omega]
    · rw [if_neg e, if_neg (by omega)]
  · rw [c3]; unfold va_cpy
    by_cases e : m = t
    · rw [if_pos e, if_pos (by subst e; omega), show 21 * f + (21 * m + p - 21 * t) = 21 * f + p by subst e; omega]
    · rw [if_neg e, if_neg (by omega)]
theorem rf_cps (U : me_M) {f t : Nat} (n : Nat) (h : f + n ≤ t ∨ t + n ≤ f) : (∀ m, rf_cp U (mo_cps U f t n) m (if t ≤ m ∧ m < t + n then f + (m - t) else m)) ∧ mo_cps U f t n 4 = U 4 := by
  induction n with
  | zero => exact ⟨fun m => by rw [if_neg (by omega)]; exact rf_cp_i rfl rfl rfl rfl, rfl⟩
  | succ n ih =>
    obtain ⟨i1, i2⟩ := ih (by omega)
    refine ⟨fun m => ?_, (rf_copy _ _ _ 0).2.trans i2⟩
    have h1 := (rf_copy (mo_cps U f t n) (f + n) (t + n) m).1
    by_cases e : m = t + n
    · rw [if_pos e] at h1
      have h2 := i1 (f + n)
      rw [if_neg (by omega)] at h2
      rw [if_pos (by omega), show f + (m - t) = f + n by omega]
      exact rf_cp_t h2 h1
    · rw [if_neg e] at h1
      have h2 := i1 m
      by_cases e2 : t ≤ m ∧ m < t + n
      · rw [if_pos e2] at h2
        rw [if_pos (by omega)]
        exact rf_cp_t h2 h1
      · rw [if_neg e2] at h2
        rw [if_neg (by omega)]
        exact rf_cp_t h2 h1
theorem rf_as_of {M' : me_M} {m m0 : Nat} (hm : m0 < 14) (h : rf_rv M' m = rf_rv M m0) (hc : rf_cp U X m m0) : rf_as M M' U X m m0 := ⟨hm, h, hc⟩
theorem rf_code (U : me_M) (x : Int32) (m : Nat) : rf_cp U (me_up U 4 0 x) m m := rf_cp_i (me_up_n _ _ _ (by decide)) (me_up_n _ _ _ (by decide)) (me_up_n _ _ _ (by decide)) (me_up_n _ _ _ (by decide))
theorem rf_freeze (M : me_M) : (∀ x, x < 61 → fb_freeze M 1 x = 0) ∧ ∀ a, a ≠ 1 → fb_freeze M a = M a := by
  constructor
  · intro x hx
    unfold fb_freeze me_zero
    rw [me_set_s, if_pos ⟨by omega, hx⟩]
  · intro a ha
    exact me_set_n _ _ ha
theorem rf_lu (hI : rf_I M U N) (f h : Nat) : fb_lu M f h = mo_lu U f h := by
  induction f generalizing h with
  | zero => rfl
  | succ f ih =>
    unfold fb_lu mo_lu
    by_cases e : h < 7
    · by_cases e2 : U 0 h ≠ 0
      · rw [if_pos ⟨e, (rf_there hI e).mpr e2⟩, if_pos ⟨e, e2⟩, ih]
      · rw [if_neg (fun z => e2 ((rf_there hI e).mp z.2)), if_neg (fun z => e2 z.2)]
    · rw [if_neg (fun z => e z.1), if_neg (fun z => e z.1)]
theorem rf_lu_in (U : me_M) (f h : Nat) (hf : h + f = 7) : h ≤ mo_lu U f h ∧ mo_lu U f h ≤ 7 := by
  induction f generalizing h with
  | zero => exact ⟨Nat.le_refl _, by show h ≤ 7; omega⟩
  | succ f ih =>
    unfold mo_lu
    split
    · have := ih (h + 1) (by omega)
      omega
    · omega
theorem rp_snapshot (hI : rf_I M U N) (hN9 : N < 2 ^ 31) : rf_E rf_cS (fb_snapshot M) (mo_snapshot U) N := by
  have hd : M 5 0 = U 4 5 := hI.2.2.2.2.2.2.2.2.2.2.2.1
  unfold fb_snapshot mo_snapshot
  rw [hd, rf_lu hI]
  have hc := fun x => rf_I_c hI hN9 x
  by_cases h1 : U 4 5 ≠ 0
  · rw [if_pos h1, if_pos h1]
    exact rf_Ex _ (by decide) _ rfl (hc _)
  · rw [if_neg h1, if_neg h1]
    by_cases h2 : mo_lu U 6 1 = 7
    · rw [if_pos h2, if_pos h2]
      exact rf_Ex _ (by decide) _ rfl (hc _)
    · rw [if_neg h2, if_neg h2]
      have hin := rf_lu_in U 6 1 (by omega)
      generalize mo_lu U 6 1 = h at h2 hin ⊢
      have hcp : ∀ m, rf_cp U (me_up (mo_copy (me_up U 4 0 0) 0 h) 4 2 (U 4 1)) m (if m = h then 0 else m) := fun m =>
        rf_cp_t (rf_cp_t (rf_code U 0 _) (rf_copy (me_up U 4 0 0) 0 h m).1) (rf_cp_i (me_up_n _ _ _ (by decide)) (me_up_n _ _ _ (by decide)) (me_up_n _ _ _ (by decide)) (me_up_n _ _ _ (by decide)))
      have h4 : ∀ j, j ≠ 2 → me_up (mo_copy (me_up U 4 0 0) 0 h) 4 2 (U 4 1) 4 j = me_up U 4 0 0 4 j := fun j hj => by rw [me_up_j _ _ _ hj, (rf_copy (me_up U 4 0 0) 0 h 0).2]
      obtain ⟨z1, z2⟩ := rf_freeze (me_up M 3 h (M 3 0))
      have hrv : ∀ m, m < 14 → rf_rv (fb_freeze (me_up M 3 h (M 3 0))) m = rf_rv M (if m = h then 0 else m) := by
        intro m hm
        unfold rf_rv
        rw [z2 3 (by decide), z2 4 (by decide), me_up_n _ _ _ (show (4 : Nat) ≠ 3 by decide)]
        by_cases e : m = h
        · rw [if_pos e, if_pos (by omega), if_pos (by omega), e, me_up_s]
        · rw [if_neg e]
          by_cases e7 : m < 7
          · rw [if_pos e7, if_pos e7, me_up_j _ _ _ e]
          · rw [if_neg e7, if_neg e7]
      obtain ⟨hA, hW, hZ, h01, hO, hV, hL, hP, hN, hG, hR, s1, s2, s3, s4, s5⟩ := id hI
      refine ⟨?_, fun _ => rfl, ?_⟩
      · dsimp only
        rw [h4 0 (by decide), me_up_s]; rfl
      · show rf_I (fb_freeze (me_up M 3 h (M 3 0))) (me_up (mo_copy (me_up U 4 0 0) 0 h) 4 2 (U 4 1)) N
        refine rf_re hI hN9 (by rw [z2 0 (by decide), me_up_n _ _ _ (by decide)]) (fun x => by rw [z2 _ (by omega), me_up_n _ _ _ (by omega)]) (fun m hm => Or.inl ⟨_, rf_as_of (by split <;> omega) (hrv m hm) (hcp m)⟩) ?_ ?_ (z1 0 (by omega)) ?_ (Or.inl ⟨me_up_s _ _ _ _, z1⟩) ?_
        · rw [(hcp 0).1]
          split
          · exact hA.2.1
          · exact hA.2.1
        · rw [(hcp 7).1, if_neg (by omega)]; exact hA.2.2
        · rw [h4 1 (by decide), me_up_j _ _ _ (by decide)]
        · refine ⟨?_, ?_, ?_, ?_, ?_⟩
          · rw [z2 5 (by decide), me_up_n _ _ _ (by decide), h4 5 (by decide), me_up_j _ _ _ (by decide)]; exact s1
          · rw [z2 5 (by decide), me_up_n _ _ _ (by decide)]; exact s2
          · rw [z2 5 (by decide), me_up_n _ _ _ (by decide), h4 3 (by decide), me_up_j _ _ _ (by decide)]; exact s3
          · rw [z2 5 (by decide), me_up_n _ _ _ (by decide), h4 4 (by decide), me_up_j _ _ _ (by decide)]; exact s4
          · rw [z2 5 (by decide), me_up_n _ _ _ (by decide)]; exact s5
theorem rf_iss (hI : rf_I M U N) (h : Int32) : fb_iss M h = mo_iss U h := by
  unfold fb_iss mo_iss
  rw [rf_ism hI]
  cases e : mo_ism U h with
  | false => rw [Bool.and_false, Bool.and_false]
  | true =>
    rw [Bool.and_true, Bool.and_true, Bool.eq_iff_iff, decide_eq_true_iff, decide_eq_true_iff]
    unfold mo_ism at e
    rw [Bool.and_eq_true, Bool.and_eq_true, decide_eq_true_iff] at e
    exact (rf_pos e.1.1).symm
theorem rf_issin (hI : rf_I M U N) {h : Int32} (hh : mo_iss U h = true) : 0 < h.toNatClampNeg ∧ h.toNatClampNeg < 7 ∧ U 0 h.toNatClampNeg = 1 ∧ h = nI h.toNatClampNeg := by
  unfold mo_iss at hh
  rw [Bool.and_eq_true, decide_eq_true_iff] at hh
  have h2 := hh.2
  unfold mo_ism at h2
  rw [Bool.and_eq_true, Bool.and_eq_true, decide_eq_true_iff, decide_eq_true_iff, decide_eq_true_iff] at h2
  obtain ⟨a, b⟩ := rf_h7 h2.1.1 h2.1.2
  refine ⟨?_, a, ?_, b⟩
  · apply Nat.pos_of_ne_zero
    intro z
    rw [z] at b
    rw [b] at hh
    exact absurd hh.1 (by decide)
  · rcases hI.1.1 h.toNatClampNeg (by omega) with ⟨q, -⟩ | ⟨q, -⟩
    · exact absurd q h2.2
    · exact q
theorem rp_rollback (hI : rf_I M U N) (hN9 : N < 2 ^ 31) (h : Int32) : rf_E rf_cG (fb_rollback M h) (mo_rollback U h) N := by
  have hd : M 5 0 = U 4 5 := hI.2.2.2.2.2.2.2.2.2.2.2.1
  unfold fb_rollback mo_rollback
  rw [hd, rf_iss hI]
  have hc := fun x => rf_I_c hI hN9 x
  by_cases h1 : U 4 5 ≠ 0
  · rw [if_pos h1, if_pos h1]
    exact rf_Ex _ (by decide) _ rfl (hc _)
  · rw [if_neg h1, if_neg h1]
    by_cases h2 : mo_iss U h = false
    · rw [if_pos h2, if_pos h2]
      exact rf_Ex _ (by decide) _ rfl (hc _)
    · rw [if_neg h2, if_neg h2]
      obtain ⟨p0, p7, pt, -⟩ := rf_issin hI (h := h) (by simpa using h2)
      rw [rf_rn7 M p7]
      generalize h.toNatClampNeg = n at p0 p7 pt ⊢
      have hcp : ∀ m, rf_cp U (mo_copy (me_up U 4 0 0) n 0) m (if m = 0 then n else m) := fun m => rf_cp_t (rf_code U 0 _) (rf_copy (me_up U 4 0 0) n 0 m).1
      have h4 : mo_copy (me_up U 4 0 0) n 0 4 = me_up U 4 0 0 4 := (rf_copy (me_up U 4 0 0) n 0 0).2
      have hrv : ∀ m, m < 14 → rf_rv (me_up M 3 0 (M 3 n)) m = rf_rv M (if m = 0 then n else m) := by
        intro m hm
        unfold rf_rv
        rw [me_up_n _ _ _ (show (4 : Nat) ≠ 3 by decide)]
        by_cases e : m = 0
        · rw [if_pos e, if_pos (by omega), if_pos p7, e, me_up_s]
        · rw [if_neg e]
          by_cases e7 : m < 7
          · rw [if_pos e7, if_pos e7, me_up_j _ _ _ e]
          · rw [if_neg e7, if_neg e7]
      obtain ⟨hA, hW, hZ, h01, hO, hV, hL, hP, hN, hG, hR, s1, s2, s3, s4, s5⟩ := id hI
      refine ⟨?_, fun _ => ?_, ?_⟩
      · dsimp only
        rw [h4, me_up_s]; rfl
      · show nI (fb_kb M (rf_rn M n)) = nI (mo_bi (mo_copy (me_up U 4 0 0) n 0) 0 0 64)
        unfold fb_kb mo_bi
        rw [me_cn_congr fun i hi => ?_]
        have := (hcp 0).2.1 i hi
        rw [if_pos rfl] at this
        rw [rf_bd hI (by omega) hi, show 64 * 0 + (0 + i) = 64 * 0 + i by omega, this.1]
      · show rf_I (me_up M 3 0 (M 3 n)) (mo_copy (me_up U 4 0 0) n 0) N
        refine rf_re hI hN9 (me_up_n _ _ _ (by decide)) (fun x => me_up_n _ _ _ (by omega)) (fun m hm => Or.inl ⟨_, rf_as_of (by split <;> omega) (hrv m hm) (hcp m)⟩) ?_ ?_ ?_ ?_ (Or.inr ⟨?_, me_up_n _ _ _ (by decide), fun m h0 hm => Or.inl ⟨_, ?_, rf_as_of (by split <;> omega) (hrv m hm) (hcp m)⟩⟩) ?_
        · rw [(hcp 0).1, if_pos rfl]; exact pt
        · rw [(hcp 7).1, if_neg (by omega)]; exact hA.2.2
        · rw [me_up_n _ _ _ (by decide)]; exact hZ.2.2
        · rw [h4, me_up_j _ _ _ (by decide)]
        · rw [h4, me_up_j _ _ _ (by decide)]
        · rw [if_neg (by omega)]; exact h0
        · refine ⟨?_, ?_, ?_, ?_, ?_⟩
          · rw [me_up_n _ _ _ (by decide), h4, me_up_j _ _ _ (by decide)]; exact s1
          · rw [me_up_n _ _ _ (by decide)]; exact s2
          · rw [me_up_n _ _ _ (by decide), h4, me_up_j _ _ _ (by decide)]; exact s3
          · rw [me_up_n _ _ _ (by decide), h4, me_up_j _ _ _ (by decide)]; exact s4
          · rw [me_up_n _ _ _ (by decide)]; exact s5
end
end
section
/-! .. and the rest -/
section
variable {M U V X Y : me_M} {N : Nat}
theorem rf_empty (U : me_M) (t m : Nat) : (m ≠ t → rf_cp U (mo_empty U t) m m) ∧ (mo_empty U t 0 t = 0 ∧ (∀ k, k < 64 → mo_empty U t 1 (64 * t + k) = 0) ∧ ∀ p, p < 21 → mo_empty U t 3 (21 * t + p) = 0) ∧ mo_empty U t 4 = U 4 := by
  have c0 : mo_empty U t 0 = upd (U 0) t 0 := by
    unfold mo_empty me_zero
    rw [me_set_n _ _ (by decide), me_set_n _ _ (by decide)]
    exact me_set_s _ _ _
  have c1 : mo_empty U t 1 = fun j => if 64 * t ≤ j ∧ j < 64 * t + 64 then 0 else U 1 j := by
    unfold mo_empty me_zero
    rw [me_set_n _ _ (by decide), me_set_s, me_up_n _ _ _ (by decide)]
  have c2 : mo_empty U t 2 = U 2 := by
    unfold mo_empty me_zero
    rw [me_set_n _ _ (by decide), me_set_n _ _ (by decide), me_up_n _ _ _ (by decide)]
  have c3 : mo_empty U t 3 = fun j => if 21 * t ≤ j ∧ j < 21 * t + 21 then 0 else U 3 j := by
    unfold mo_empty me_zero
    rw [me_set_s, me_set_n _ _ (by decide), me_up_n _ _ _ (by decide)]
  have c4 : mo_empty U t 4 = U 4 := by
    unfold mo_empty me_zero
    rw [me_set_n _ _ (by decide), me_set_n _ _ (by decide), me_up_n _ _ _ (by decide)]
  refine ⟨fun e => ⟨?_, fun k hk => ⟨?_, by rw [c2]⟩, fun p hp => ?_⟩, ⟨?_, fun k hk => ?_, fun p hp => ?_⟩, c4⟩
  · rw [c0]; unfold upd; rw [if_neg e]
  · rw [c1]; show (if _ then _ else _) = _; rw [if_neg (by omega)]
  · rw [c3]; show (if _ then _ else _) = _; rw [if_neg (by omega)]
  · rw [c0]; unfold upd; rw [if_pos rfl]
  · rw [c1]; show (if _ then _ else _) = _; rw [if_pos (by omega)]
  · rw [c3]; show (if _ then _ else _) = _; rw [if_pos (by omega)]
theorem rp_drop (hI : rf_I M U N) (hN9 : N < 2 ^ 31) (h : Int32) : rf_E rf_cG (fb_drop M h) (mo_drop U h) N := by
  have hd : M 5 0 = U 4 5 := hI.2.2.2.2.2.2.2.2.2.2.2.1
  unfold fb_drop mo_drop
  rw [hd, rf_iss hI]
  have hc := fun x => rf_I_c hI hN9 x
  by_cases h1 : U 4 5 ≠ 0
  · rw [if_pos h1, if_pos h1]
    exact rf_Ex _ (by decide) _ rfl (hc _)
  · rw [if_neg h1, if_neg h1]
    by_cases h2 : mo_iss U h = false
    · rw [if_pos h2, if_pos h2]
      exact rf_Ex _ (by decide) _ rfl (hc _)
    · rw [if_neg h2, if_neg h2]
      obtain ⟨p0, p7, pt, -⟩ := rf_issin hI (h := h) (by simpa using h2)
      rw [rf_mr]
      generalize h.toNatClampNeg = n at p0 p7 pt ⊢
      have hcp : ∀ m, m ≠ n → rf_cp U (mo_empty (me_up U 4 0 0) n) m m := fun m hm => rf_cp_t (rf_code U 0 _) ((rf_empty (me_up U 4 0 0) n m).1 hm)
      obtain ⟨-, ⟨z0, z1, z3⟩, h4⟩ := rf_empty (me_up U 4 0 0) n 0
      have r : ∀ {a : Nat}, a ≠ 3 → a ≠ 2 → me_up (me_set M 2 (rf_KR M).2) 3 n (-1) a = M a := fun q1 q2 => by rw [me_up_n _ _ _ q1, me_set_n _ _ q2]
      have hrv : ∀ m, m < 14 → m ≠ n → rf_rv (me_up (me_set M 2 (rf_KR M).2) 3 n (-1)) m = rf_rv M m := by
        intro m hm e
        unfold rf_rv
        rw [r (a := 4) (by decide) (by decide), me_up_j _ _ _ e, me_set_n _ _ (by decide)]
      obtain ⟨hA, hW, hZ, h01, hO, hV, hL, hP, hN, hG, hR, s1, s2, s3, s4, s5⟩ := id hI
      have hno : rf_no (me_up (me_set M 2 (rf_KR M).2) 3 n (-1)) (mo_empty (me_up U 4 0 0) n) n := ⟨by unfold rf_rv; rw [if_pos p7, me_up_s], z0, z1, z3⟩
      have hI2 : rf_I (me_up (me_set M 2 (rf_KR M).2) 3 n (-1)) (mo_empty (me_up U 4 0 0) n) N := by
        refine rf_re hI hN9 (r (by decide) (by decide)) (fun x => r (by omega) (by omega)) (fun m hm => ?_) ?_ ?_ ?_ ?_ (Or.inr ⟨?_, r (by decide) (by decide), fun m h0 hm => ?_⟩) ?_
        · by_cases e : m = n
          · subst e; exact Or.inr hno
          · exact Or.inl ⟨m, rf_as_of hm (hrv m hm e) (hcp m e)⟩
        · rw [(hcp 0 (by omega)).1]; exact hA.2.1
        · rw [(hcp 7 (by omega)).1]; exact hA.2.2
        · rw [r (by decide) (by decide)]; exact hZ.2.2
        · rw [h4, me_up_j _ _ _ (by decide)]
        · rw [h4, me_up_j _ _ _ (by decide)]
        · by_cases e : m = n
          · subst e; exact Or.inr hno
          · exact Or.inl ⟨m, h0, rf_as_of hm (hrv m hm e) (hcp m e)⟩
        · refine ⟨?_, ?_, ?_, ?_, ?_⟩
          · rw [r (by decide) (by decide), h4, me_up_j _ _ _ (by decide)]; exact s1
          · rw [r (by decide) (by decide)]; exact s2
          · rw [r (by decide) (by decide), h4, me_up_j _ _ _ (by decide)]; exact s3
          · rw [r (by decide) (by decide), h4, me_up_j _ _ _ (by decide)]; exact s4
          · rw [r (by decide) (by decide)]; exact s5
      obtain ⟨a1, a2, -⟩ := rf_freeI hI
      obtain ⟨b1, b2, -⟩ := rf_freeI hI2
      refine ⟨?_, fun _ => ?_, ?_⟩
      · show mo_empty (me_up U 4 0 0) n 4 0 = _
        rw [h4, me_up_s]; rfl
      · show fb_free (me_up (me_set M 2 (rf_KR M).2) 3 n (-1)) - fb_free M = mo_free (mo_empty (me_up U 4 0 0) n) - mo_free U
        rw [a1, a2, b1, b2]
      · show rf_I (fb_mr (me_up (me_set M 2 (rf_KR M).2) 3 n (-1))).2 (mo_empty (me_up U 4 0 0) n) N
        rw [rf_mr]
        exact rf_I_K hI2 hN9 _
theorem rf_due (hI : rf_I M U N) : fb_due0 M = nI ((rf_KR M).1 + 1) ∧ mo_due0 U = nI ((rf_KR M).1 + 1) ∧ (rf_KR M).1 ≤ 60 := by
  obtain ⟨f1, f2, f3⟩ := rf_free (rf_I_J hI) hI.2.2.2.2.2.2.2.2.1
  refine ⟨?_, ?_, by omega⟩
  · unfold fb_due0
    rw [rf_mr, nI_1]
  · unfold mo_due0
    rw [f1, f2, pk_sub (by omega), nI_1, show (rf_KD M).1 + (rf_KR M).1 - (rf_KD M).1 = (rf_KR M).1 by omega]
theorem rp_free (hI : rf_I M U N) (hN9 : N < 2 ^ 31) : rf_E rf_cG (fb_freeC M) (mo_freeC U) N := by
  have hd : M 5 0 = U 4 5 := hI.2.2.2.2.2.2.2.2.2.2.2.1
  unfold fb_freeC mo_freeC
  rw [hd]
  by_cases h1 : U 4 5 ≠ 0
  · rw [if_pos h1, if_pos h1]
    exact rf_Ex _ (by decide) _ rfl (rf_I_c hI hN9 _)
  · rw [if_neg h1, if_neg h1, rf_mr]
    obtain ⟨a1, a2, -⟩ := rf_freeI hI
    exact rf_Er _ rfl (a1.trans a2.symm) (rf_I_c (rf_I_K hI hN9 _) hN9 _)
theorem rp_due (hI : rf_I M U N) (hN9 : N < 2 ^ 31) : rf_E rf_cG (fb_due M) (mo_due U) N := by
  have hd : M 5 0 = U 4 5 := hI.2.2.2.2.2.2.2.2.2.2.2.1
  unfold fb_due mo_due
  rw [hd]
  by_cases h1 : U 4 5 ≠ 0
  · rw [if_pos h1, if_pos h1]
    exact rf_Ex _ (by decide) _ rfl (rf_I_c hI hN9 _)
  · rw [if_neg h1, if_neg h1, rf_mr]
    obtain ⟨a1, a2, -⟩ := rf_due hI
    exact rf_Er _ rfl (a1.trans a2.symm) (rf_I_c (rf_I_K hI hN9 _) hN9 _)
/-- only single numbers change -/
theorem rf_I_S {M' U' : me_M} (hI : rf_I M U N) (hN9 : N < 2 ^ 31) (h0 : M' 0 = M 0) (h1 : M' 1 = M 1) (h3 : M' 3 = M 3) (h4 : M' 4 = M 4) (h6 : ∀ x, M' (6 + x) = M (6 + x))
    (u0 : U' 0 = U 0) (u1 : U' 1 = U 1) (u2 : U' 2 = U 2) (u3 : U' 3 = U 3) (u41 : U' 4 1 = U 4 1) (u42 : U' 4 2 = U 4 2) (hS : rf_Sc M' U') : rf_I M' U' N := by
  have has : ∀ m, m < 14 → rf_as M M' U U' m m := fun m hm => ⟨hm, by unfold rf_rv; rw [h3, h4], by rw [u0], fun k _ => ⟨by rw [u1], by rw [u2]⟩, fun p _ => by rw [u3]⟩
  exact rf_re hI hN9 h0 h6 (fun m hm => Or.inl ⟨m, has m hm⟩) (by rw [u0]; exact hI.1.2.1) (by rw [u0]; exact hI.1.2.2) (by rw [h1]; exact hI.2.2.1.2.2) u41 (Or.inr ⟨u42, h1, fun m h hm => Or.inl ⟨m, h, has m hm⟩⟩) hS
theorem rp_order (hI : rf_I M U N) (hN9 : N < 2 ^ 31) (n : Int32) : rf_E rf_cG (fb_order M n) (mo_order U n) N := by
  obtain ⟨s1, s2, s3, s4, s5⟩ := id hI.2.2.2.2.2.2.2.2.2.2.2
  unfold fb_order mo_order
  by_cases h : n < 0 ∨ 100 < n
  · rw [if_pos h, if_pos h]
    exact rf_Er _ rfl (rfl) (rf_I_c hI hN9 _)
  · rw [if_neg h, if_neg h]
    have h1 : ¬ n < 0 := fun z => h (Or.inl z)
    have h2 : n ≤ 100 := Int32.not_lt.mp (fun z => h (Or.inr z))
    obtain ⟨x, hx, ex⟩ := nI_of2 (M := 100) (n := 100) (by decide) h1 h2
    refine ⟨?_, fun _ => rfl, ?_⟩
    · dsimp only
      rw [me_up_j _ _ _ (by decide), me_up_s]; rfl
    · show rf_I (me_up M 5 2 n) (me_up (me_up U 4 0 0) 4 4 n) N
      have u : ∀ {a : Nat}, a ≠ 4 → me_up (me_up U 4 0 0) 4 4 n a = U a := fun q => by rw [me_up_n _ _ _ q, me_up_n _ _ _ q]
      have u4 : ∀ {j : Nat}, j ≠ 4 → j ≠ 0 → me_up (me_up U 4 0 0) 4 4 n 4 j = U 4 j := fun q1 q2 => by rw [me_up_j _ _ _ q1, me_up_j _ _ _ q2]
      refine rf_I_S hI hN9 (me_up_n _ _ _ (by decide)) (me_up_n _ _ _ (by decide)) (me_up_n _ _ _ (by decide)) (me_up_n _ _ _ (by decide)) (fun x => me_up_n _ _ _ (by omega)) (u (by decide)) (u (by decide)) (u (by decide)) (u (by decide)) (u4 (by decide) (by decide)) (u4 (by decide) (by decide)) ⟨?_, ?_, ?_, ?_, ?_⟩
      · rw [me_up_j _ _ _ (by decide), u4 (by decide) (by decide)]; exact s1
      · rw [me_up_j _ _ _ (by decide)]; exact s2
      · rw [me_up_j _ _ _ (by decide), u4 (by decide) (by decide)]; exact s3
      · rw [me_up_s, me_up_s]
      · rw [me_up_s]; exact Or.inr ⟨x, hx, ex⟩
theorem rf_cpy7 (f g : Nat → Int32) {j : Nat} (hj : j < 7) : va_cpy f g 0 0 7 j = f j := by
  unfold va_cpy
  rw [if_pos (by omega), show 0 + (j - 0) = j by omega]
theorem rp_recover (hI : rf_I M U N) (hN9 : N < 2 ^ 31) : rf_E rf_cG (fb_recover M) (mo_recover U) N := by
  obtain ⟨hA, hW, hZ, h01, hO, hV, hL, hP, hN, hG, hR, s1, s2, s3, s4, s5⟩ := id hI
  unfold fb_recover mo_recover
  rw [s1]
  by_cases h : U 4 5 = 0
  · rw [if_pos h, if_pos h]
    exact rf_Er _ rfl (rfl) (rf_I_c hI hN9 _)
  · rw [if_neg h, if_neg h]
    obtain ⟨c1, c4⟩ := rf_cps (me_up U 4 0 0) (f := 7) (t := 0) 7 (by omega)
    have hcp : ∀ m, rf_cp U (me_up (mo_cps (me_up U 4 0 0) 7 0 7) 4 5 0) m (if m < 7 then 7 + m else m) := fun m => by
      have h1 := c1 m
      have e : (if 0 ≤ m ∧ m < 0 + 7 then 7 + (m - 0) else m) = if m < 7 then 7 + m else m := by
        by_cases q : m < 7
        · rw [if_pos q, if_pos (by omega)]; omega
        · rw [if_neg q, if_neg (by omega)]
      rw [e] at h1
      exact rf_cp_t (rf_cp_t (rf_code U 0 _) h1) (rf_cp_i (me_up_n _ _ _ (by decide)) (me_up_n _ _ _ (by decide)) (me_up_n _ _ _ (by decide)) (me_up_n _ _ _ (by decide)))
    have r : ∀ {a : Nat}, a ≠ 3 → a ≠ 5 → me_up (me_set M 3 (va_cpy (M 4) (M 3) 0 0 7)) 5 0 0 a = M a := fun q1 q2 => by rw [me_up_n _ _ _ q2, me_set_n _ _ q1]
    have r5 : ∀ {j : Nat}, j ≠ 0 → me_up (me_set M 3 (va_cpy (M 4) (M 3) 0 0 7)) 5 0 0 5 j = M 5 j := fun q => by rw [me_up_j _ _ _ q, me_set_n _ _ (by decide)]
    have u4 : ∀ {j : Nat}, j ≠ 5 → j ≠ 0 → me_up (mo_cps (me_up U 4 0 0) 7 0 7) 4 5 0 4 j = U 4 j := fun q1 q2 => by rw [me_up_j _ _ _ q1, c4, me_up_j _ _ _ q2]
    have hrv : ∀ m, m < 14 → rf_rv (me_up (me_set M 3 (va_cpy (M 4) (M 3) 0 0 7)) 5 0 0) m = rf_rv M (if m < 7 then 7 + m else m) := by
      intro m hm
      unfold rf_rv
      rw [r (a := 4) (by decide) (by decide)]
      by_cases e : m < 7
      · rw [if_pos e, if_pos e, if_neg (by omega), me_up_n _ _ _ (by decide), me_set_s, rf_cpy7 _ _ e, show 7 + m - 7 = m by omega]
      · rw [if_neg e, if_neg e, if_neg e]
    refine ⟨?_, fun _ => ?_, ?_⟩
    · dsimp only
      rw [me_up_j _ _ _ (by decide), c4, me_up_s]; rfl
    · show nI _ = nI _
      rw [me_cn_congr fun i hi => ?_]
      rw [Bool.eq_iff_iff, decide_eq_true_iff, decide_eq_true_iff]
      have e : rf_rv M (7 + (i + 1)) = M 4 (i + 1) := by unfold rf_rv; rw [if_neg (by omega), show 7 + (i + 1) - 7 = i + 1 by omega]
      rcases hA.1 (7 + (i + 1)) (by omega) with ⟨q1, q2⟩ | ⟨q1, q2, q3⟩
      · rw [← e, q1, q2]; exact ⟨fun z => absurd rfl z, fun z => absurd rfl z⟩
      · rw [← e, q1, q2]; exact ⟨fun _ => by decide, fun _ => rf_m1n _ (by omega)⟩
    · show rf_I (me_up (me_set M 3 (va_cpy (M 4) (M 3) 0 0 7)) 5 0 0) (me_up (mo_cps (me_up U 4 0 0) 7 0 7) 4 5 0) N
      refine rf_re hI hN9 (r (by decide) (by decide)) (fun x => r (by omega) (by omega)) (fun m hm => Or.inl ⟨_, rf_as_of (by split <;> omega) (hrv m hm) (hcp m)⟩) ?_ ?_ ?_ (u4 (by decide) (by decide)) (Or.inr ⟨u4 (by decide) (by decide), r (by decide) (by decide), fun m h0 hm => Or.inl ⟨_, by split <;> omega, rf_as_of (by split <;> omega) (hrv m hm) (hcp m)⟩⟩) ⟨?_, ?_, ?_, ?_, ?_⟩
      · rw [(hcp 0).1]; exact hA.2.2
      · rw [(hcp 7).1]; exact hA.2.2
      · rw [r (by decide) (by decide)]; exact hZ.2.2
      · rw [me_up_s, me_up_s]
      · rw [me_up_s]; exact Or.inl rfl
      · rw [r5 (by decide), u4 (by decide) (by decide)]; exact s3
      · rw [r5 (by decide), u4 (by decide) (by decide)]; exact s4
      · rw [r5 (by decide)]; exact s5
theorem rp_commit (hI : rf_I M U N) (hN9 : N < 2 ^ 31) : rf_E rf_cG (fb_commit M) (mo_commit U) N := by
  obtain ⟨hA, hW, hZ, h01, hO, hV, hL, hP, hN, hG, hR, s1, s2, s3, s4, s5⟩ := id hI
  obtain ⟨d1, d2, d3⟩ := rf_due hI
  unfold fb_commit mo_commit
  rw [s1, rf_mr, d1, d2, s3, s4]
  by_cases h : U 4 5 ≠ 0
  · rw [if_pos h, if_pos h]
    exact rf_Ex _ (by decide) _ rfl (rf_I_c hI hN9 _)
  · rw [if_neg h, if_neg h]
    have hneg : U 4 4 ≠ -1 ↔ 0 ≤ U 4 4 := by
      rw [s4] at s5
      rcases s5 with q | ⟨x, hx, q⟩
      · rw [q]; exact ⟨fun z => absurd rfl z, fun z => absurd z (by decide)⟩
      · rw [q]; exact ⟨fun _ => nI_pos' (by omega), fun _ => rf_m1n _ (by omega)⟩
    by_cases hf : 0 ≤ U 4 4 ∧ U 4 4 < nI ((rf_KR M).1 + 1)
    · rw [if_pos hf, if_pos ⟨hneg.mpr hf.1, hf.2⟩]
      refine rf_Ex _ (by decide) _ rfl (?_)
      show rf_I (me_up (me_up (me_up (me_set M 2 (rf_KR M).2) 5 1 (U 4 3 + U 4 4)) 5 2 (-1)) 5 0 1) (me_up (me_up (me_up (me_up (me_up U 4 0 0) 4 3 (U 4 3 + U 4 4)) 4 4 (-1)) 4 5 1) 4 0 1) N
      have r : ∀ {a : Nat}, a ≠ 5 → a ≠ 2 → me_up (me_up (me_up (me_set M 2 (rf_KR M).2) 5 1 (U 4 3 + U 4 4)) 5 2 (-1)) 5 0 1 a = M a := fun q1 q2 => by rw [me_up_n _ _ _ q1, me_up_n _ _ _ q1, me_up_n _ _ _ q1, me_set_n _ _ q2]
      have u : ∀ {a : Nat}, a ≠ 4 → me_up (me_up (me_up (me_up (me_up U 4 0 0) 4 3 (U 4 3 + U 4 4)) 4 4 (-1)) 4 5 1) 4 0 1 a = U a := fun q => by rw [me_up_n _ _ _ q, me_up_n _ _ _ q, me_up_n _ _ _ q, me_up_n _ _ _ q, me_up_n _ _ _ q]
      have u4 : ∀ {j : Nat}, j ≠ 0 → j ≠ 3 → j ≠ 4 → j ≠ 5 → me_up (me_up (me_up (me_up (me_up U 4 0 0) 4 3 (U 4 3 + U 4 4)) 4 4 (-1)) 4 5 1) 4 0 1 4 j = U 4 j := fun q0 q3 q4 q5 => by rw [me_up_j _ _ _ q0, me_up_j _ _ _ q5, me_up_j _ _ _ q4, me_up_j _ _ _ q3, me_up_j _ _ _ q0]
      refine rf_I_S hI hN9 (r (by decide) (by decide)) (r (by decide) (by decide)) (r (by decide) (by decide)) (r (by decide) (by decide)) (fun x => r (by omega) (by omega)) (u (by decide)) (u (by decide)) (u (by decide)) (u (by decide)) (u4 (by decide) (by decide) (by decide) (by decide)) (u4 (by decide) (by decide) (by decide) (by decide)) ⟨?_, ?_, ?_, ?_, ?_⟩
      · rw [me_up_s, me_up_j _ _ _ (by decide), me_up_s]
      · rw [me_up_s]; exact Or.inr rfl
      · rw [me_up_j _ _ _ (by decide), me_up_j _ _ _ (by decide), me_up_s, me_up_j _ _ _ (by decide), me_up_j _ _ _ (by decide), me_up_j _ _ _ (by decide), me_up_s]
      · rw [me_up_j _ _ _ (by decide), me_up_s, me_up_j _ _ _ (by decide), me_up_j _ _ _ (by decide), me_up_s]
      · rw [me_up_j _ _ _ (by decide), me_up_s]; exact Or.inl rfl
    · rw [if_neg hf, if_neg (fun z => hf ⟨hneg.mp z.1, z.2⟩)]
      obtain ⟨c1, c4⟩ := rf_cps (me_up (me_up (me_up U 4 0 0) 4 4 (if U 4 4 < 0 then U 4 4 else U 4 4 - nI ((rf_KR M).1 + 1))) 4 3 (U 4 3 + nI ((rf_KR M).1 + 1))) (f := 0) (t := 7) 7 (by omega)
      have hcp : ∀ m, rf_cp U (me_up (mo_cps (me_up (me_up (me_up U 4 0 0) 4 4 (if U 4 4 < 0 then U 4 4 else U 4 4 - nI ((rf_KR M).1 + 1))) 4 3 (U 4 3 + nI ((rf_KR M).1 + 1))) 0 7 7) 4 2 (U 4 1)) m (if 7 ≤ m ∧ m < 7 + 7 then 0 + (m - 7) else m) := fun m => by
        have e : ∀ {a : Nat}, a ≠ 4 → me_up (me_up (me_up U 4 0 0) 4 4 (if U 4 4 < 0 then U 4 4 else U 4 4 - nI ((rf_KR M).1 + 1))) 4 3 (U 4 3 + nI ((rf_KR M).1 + 1)) a = U a := fun q => by rw [me_up_n _ _ _ q, me_up_n _ _ _ q, me_up_n _ _ _ q]
        exact rf_cp_t (rf_cp_t (rf_cp_i (e (by decide)) (e (by decide)) (e (by decide)) (e (by decide))) (c1 m)) (rf_cp_i (me_up_n _ _ _ (by decide)) (me_up_n _ _ _ (by decide)) (me_up_n _ _ _ (by decide)) (me_up_n _ _ _ (by decide)))
      generalize hU9 : me_up (mo_cps (me_up (me_up (me_up U 4 0 0) 4 4 (if U 4 4 < 0 then U 4 4 else U 4 4 - nI ((rf_KR M).1 + 1))) 4 3 (U 4 3 + nI ((rf_KR M).1 + 1))) 0 7 7) 4 2 (U 4 1) = U9 at hcp ⊢
      have v2 : U9 4 2 = U 4 1 := by rw [← hU9, me_up_s]
      have v4 : ∀ {j : Nat}, j ≠ 2 → U9 4 j = me_up (me_up (me_up U 4 0 0) 4 4 (if U 4 4 < 0 then U 4 4 else U 4 4 - nI ((rf_KR M).1 + 1))) 4 3 (U 4 3 + nI ((rf_KR M).1 + 1)) 4 j := fun q => by rw [← hU9, me_up_j _ _ _ q, c4]
      have v0 : U9 4 0 = 0 := by rw [v4 (by decide), me_up_j _ _ _ (by decide), me_up_j _ _ _ (by decide), me_up_s]
      have v1 : U9 4 1 = U 4 1 := by rw [v4 (by decide), me_up_j _ _ _ (by decide), me_up_j _ _ _ (by decide), me_up_j _ _ _ (by decide)]
      have v3 : U9 4 3 = U 4 3 + nI ((rf_KR M).1 + 1) := by rw [v4 (by decide), me_up_s]
      have v44 : U9 4 4 = if U 4 4 < 0 then U 4 4 else U 4 4 - nI ((rf_KR M).1 + 1) := by rw [v4 (by decide), me_up_j _ _ _ (by decide), me_up_s]
      have v5 : U9 4 5 = U 4 5 := by rw [v4 (by decide), me_up_j _ _ _ (by decide), me_up_j _ _ _ (by decide), me_up_j _ _ _ (by decide)]
      clear hU9
      -- the class's side
      generalize hX9 : (if U 4 4 ≠ -1 then me_up (me_set M 2 (rf_KR M).2) 5 2 (U 4 4 - nI ((rf_KR M).1 + 1)) else me_set M 2 (rf_KR M).2) = X9
      have x : ∀ {a : Nat}, a ≠ 5 → a ≠ 2 → X9 a = M a := by
        intro a q1 q2
        rw [← hX9]
        by_cases e : U 4 4 ≠ -1
        · rw [if_pos e, me_up_n _ _ _ q1, me_set_n _ _ q2]
        · rw [if_neg e, me_set_n _ _ q2]
      have x50 : X9 5 0 = M 5 0 := by
        rw [← hX9]
        by_cases e : U 4 4 ≠ -1
        · rw [if_pos e, me_up_j _ _ _ (by decide), me_set_n _ _ (by decide)]
        · rw [if_neg e, me_set_n _ _ (by decide)]
      have x52 : X9 5 2 = if U 4 4 < 0 then U 4 4 else U 4 4 - nI ((rf_KR M).1 + 1) := by
        rw [← hX9]
        by_cases e : U 4 4 ≠ -1
        · rw [if_pos e, me_up_s, if_neg (Int32.not_lt.mpr (hneg.mp e))]
        · rw [if_neg e, me_set_n _ _ (by decide), s4, if_pos (Int32.not_le.mp (fun z => e (hneg.mpr z)))]
      obtain ⟨z1, z2⟩ := rf_freeze (me_set (me_up X9 5 1 (U 4 3 + nI ((rf_KR M).1 + 1))) 4 (va_cpy (M 3) (M 4) 0 0 7))
      have hrv : ∀ m, m < 14 → rf_rv (fb_freeze (me_set (me_up X9 5 1 (U 4 3 + nI ((rf_KR M).1 + 1))) 4 (va_cpy (M 3) (M 4) 0 0 7))) m = rf_rv M (if 7 ≤ m ∧ m < 7 + 7 then 0 + (m - 7) else m) := by
        intro m hm
        unfold rf_rv
        rw [z2 3 (by decide), z2 4 (by decide), me_set_s, me_set_n _ _ (by decide), me_up_n _ _ _ (by decide), x (by decide) (by decide)]
        by_cases e : m < 7
        · rw [if_pos e, if_neg (show ¬ (7 ≤ m ∧ m < 7 + 7) by omega), if_pos e]
        · rw [if_neg e, if_pos (show 7 ≤ m ∧ m < 7 + 7 by omega), if_pos (show 0 + (m - 7) < 7 by omega), rf_cpy7 _ _ (by omega), Nat.zero_add]
      refine ⟨v0, fun _ => rfl, ?_⟩
      show rf_I (fb_freeze (me_set (me_up X9 5 1 (U 4 3 + nI ((rf_KR M).1 + 1))) 4 (va_cpy (M 3) (M 4) 0 0 7))) U9 N
      have y5 : fb_freeze (me_set (me_up X9 5 1 (U 4 3 + nI ((rf_KR M).1 + 1))) 4 (va_cpy (M 3) (M 4) 0 0 7)) 5 = me_up X9 5 1 (U 4 3 + nI ((rf_KR M).1 + 1)) 5 := by rw [z2 5 (by decide), me_set_n _ _ (by decide)]
      refine rf_re hI hN9 ?_ (fun q => ?_) (fun m hm => Or.inl ⟨_, rf_as_of (by split <;> omega) (hrv m hm) (hcp m)⟩) ?_ ?_ (z1 0 (by omega)) v1 (Or.inl ⟨v2, z1⟩) ⟨?_, ?_, ?_, ?_, ?_⟩
      · rw [z2 0 (by decide), me_set_n _ _ (by decide), me_up_n _ _ _ (by decide), x (by decide) (by decide)]
      · rw [z2 _ (by omega), me_set_n _ _ (by omega), me_up_n _ _ _ (by omega), x (by omega) (by omega)]
      · rw [(hcp 0).1, if_neg (by omega)]; exact hA.2.1
      · rw [(hcp 7).1, if_pos (by omega)]; exact hA.2.1
      · rw [y5, me_up_j _ _ _ (by decide), x50, v5]; exact s1
      · rw [y5, me_up_j _ _ _ (by decide), x50]; exact s2
      · rw [y5, me_up_s, v3]
      · rw [y5, me_up_j _ _ _ (by decide), x52, v44]
      · rw [y5, me_up_j _ _ _ (by decide), x52]
        rw [s4] at s5
        rcases s5 with q | ⟨y, hy, q⟩
        · rw [q]; exact Or.inl rfl
        · rw [q] at hf hneg ⊢
          rw [if_neg (nI_pos (by omega))]
          have hle : (rf_KR M).1 + 1 ≤ y := by
            apply Classical.byContradiction
            intro z
            exact hf ⟨nI_pos' (by omega), nI_lt (by omega) (by omega)⟩
          rw [pk_sub hle]
          exact Or.inr ⟨_, by omega, rfl⟩
end
end
section
/-! nodes, shared -/
section
variable {M U : me_M} {N : Nat}
theorem rf_S0 (M : me_M) {K : Nat → Int32} (h : ∀ i, i < 61 → K i = 0) : rf_S M (fun _ => False) K ∧ rf_nb (rf_mk K) = 0 := by
  refine ⟨fun i hi => ⟨fun z => absurd (h i hi) z, fun z => by obtain ⟨-, m, p, -, q, -⟩ := z; exact q.elim⟩, ?_⟩
  unfold rf_nb
  rw [me_cn_congr (Q := fun _ => false) (fun i hi => by simp [rf_mk, h i hi])]
  have : ∀ n, me_cn (fun _ => false) n = 0 := by
    intro n
    induction n with
    | zero => rfl
    | succ n ih => unfold me_cn; rw [ih]; rfl
  exact this 61
theorem rp_nodes (hI : rf_I M U N) (hN9 : N < 2 ^ 31) (h : Int32) : rf_E rf_cG (fb_nodes M h) (mo_nodes U h) N := by
  have hd : M 5 0 = U 4 5 := hI.2.2.2.2.2.2.2.2.2.2.2.1
  unfold fb_nodes mo_nodes
  rw [hd, rf_ism hI]
  have hc := fun x => rf_I_c hI hN9 x
  by_cases h1 : U 4 5 ≠ 0
  · rw [if_pos h1, if_pos h1]
    exact rf_Ex _ (by decide) _ rfl (hc _)
  · rw [if_neg h1, if_neg h1]
    by_cases h2 : mo_ism U h = false
    · rw [if_pos h2, if_pos h2]
      exact rf_Ex _ (by decide) _ rfl (hc _)
    · rw [if_neg h2, if_neg h2]
      have hh : h.toNatClampNeg < 7 := rf_ismlt (M := M) (by rw [rf_ism hI]; simpa using h2)
      rw [rf_rn7 M hh, rf_unmark, rf_mark]
      have hJ := rf_I_J hI
      obtain ⟨m1, m2⟩ := rf_mkK_S hJ (rf_K0_S M) (show h.toNatClampNeg < 14 by omega)
      rw [rf_K0_nb, Nat.add_zero] at m1
      refine rf_Er _ rfl (?_) (rf_I_c (rf_I_K hI hN9 _) hN9 _)
      show nI (rf_mkK M (rf_rn M h.toNatClampNeg) (rf_K0 M)).1 = nI (mo_df U h.toNatClampNeg 1 21)
      rw [m1, rf_df_S hJ hI.2.2.2.2.2.2.2.2.1 (by omega) m2 (fun m _ => ⟨fun q => q.elim (fun f => f.elim) (fun e => by omega), fun q => Or.inr (by omega)⟩)]
theorem rf_cn_ie (P Q : Nat → Bool) (n : Nat) : me_cn P n + me_cn Q n = me_cn (fun i => P i || Q i) n + me_cn (fun i => P i && Q i) n := by
  induction n with
  | zero => rfl
  | succ n ih =>
    unfold me_cn
    cases P n <;> cases Q n <;> simp <;> omega
theorem rf_cn_pl (hI : rf_I M U N) {a b : Nat} (ha : a < 14) (hb : b < 14) (P : Nat) (hP : P ≤ 21) :
    me_cn (fun p => decide (rf_nd M a p ≠ 0) && decide (rf_nd M b p = rf_nd M a p)) P = rf_nb (fun i => rf_B (i ≠ 0 ∧ ∃ p, p < P ∧ rf_nd M a p = i ∧ rf_nd M b p = i)) := by
  induction P with
  | zero =>
    show 0 = _
    symm
    unfold rf_nb
    rw [me_cn_congr (Q := fun _ => false) (fun i _ => by rw [rf_B_f]; rintro ⟨-, p, h, -⟩; omega)]
    have : ∀ n, me_cn (fun _ => false) n = 0 := by
      intro n
      induction n with
      | zero => rfl
      | succ n ih => unfold me_cn; rw [ih]; rfl
    exact this 61
  | succ P ih =>
    show me_cn _ P + (if _ then 1 else 0) = _
    rw [ih (by omega)]
    have hPp := hI.2.2.2.2.2.2.2.1
    have hlt : rf_nd M a P < 61 := rf_nd_lt hI ha (by omega)
    by_cases e : rf_nd M b P = rf_nd M a P
    · rw [rf_see (P := fun i => rf_B (i ≠ 0 ∧ ∃ p, p < P ∧ rf_nd M a p = i ∧ rf_nd M b p = i)) (Q := fun i => rf_B (i ≠ 0 ∧ ∃ p, p < P + 1 ∧ rf_nd M a p = i ∧ rf_nd M b p = i)) (a := rf_nd M a P) hlt (fun i _ => by
        rw [Bool.eq_iff_iff, Bool.or_eq_true, Bool.and_eq_true, rf_B_iff, rf_B_iff, decide_eq_true_iff, decide_eq_true_iff]
        constructor
        · rintro ⟨h0, p, h1, h2, h3⟩
          by_cases q : p = P
          · subst q; exact Or.inr ⟨h2.symm, by rw [h2]; exact h0⟩
          · exact Or.inl ⟨h0, p, by omega, h2, h3⟩
        · rintro (⟨h0, p, h1, h2, h3⟩ | ⟨h1, h2⟩)
          · exact ⟨h0, p, by omega, h2, h3⟩
          · exact ⟨by rw [h1]; exact h2, P, by omega, h1.symm, by rw [h1]; exact e⟩)]
      by_cases hz : rf_nd M a P ≠ 0
      · have hn : rf_B (rf_nd M a P ≠ 0 ∧ ∃ p, p < P ∧ rf_nd M a p = rf_nd M a P ∧ rf_nd M b p = rf_nd M a P) = false := by
          rw [rf_B_f]
          rintro ⟨-, p, h1, h2, -⟩
          have := hPp a a P p ha ha (by omega) (by omega) hz h2.symm
          omega
        rw [if_pos (show (decide (rf_nd M a P ≠ 0) && decide (rf_nd M b P = rf_nd M a P)) = true by rw [decide_eq_true hz, decide_eq_true e]; rfl), if_pos ⟨hz, hn⟩]
      · rw [if_neg (show ¬ (decide (rf_nd M a P ≠ 0) && decide (rf_nd M b P = rf_nd M a P)) = true by rw [decide_eq_false hz, Bool.false_and]; exact Bool.false_ne_true), if_neg (fun z => hz z.1)]
    · rw [if_neg (show ¬ (decide (rf_nd M a P ≠ 0) && decide (rf_nd M b P = rf_nd M a P)) = true by rw [decide_eq_false e, Bool.and_false]; exact Bool.false_ne_true), Nat.add_zero]
      unfold rf_nb
      refine me_cn_congr fun i _ => ?_
      rw [Bool.eq_iff_iff, rf_B_iff, rf_B_iff]
      constructor
      · rintro ⟨h0, p, h1, h2, h3⟩; exact ⟨h0, p, by omega, h2, h3⟩
      · rintro ⟨h0, p, h1, h2, h3⟩
        by_cases q : p = P
        · subst q; exact absurd (h3.trans h2.symm) e
        · exact ⟨h0, p, by omega, h2, h3⟩
theorem rf_shared (hI : rf_I M U N) {a b : Nat} (ha : a < 14) (hb : b < 14) : ∃ K, fb_sh M (rf_rn M a) (rf_rn M b) = (nI (me_cn (fun p => decide (0 < U 3 (21 * a + p)) && decide (U 3 (21 * b + p) = U 3 (21 * a + p))) 21), me_set M 2 K) := by
  have hJ := rf_I_J hI
  obtain ⟨n1, n2, n3⟩ := hI.2.2.2.2.2.2.2.2.1
  unfold fb_sh
  rw [rf_unmark, rf_mark]
  obtain ⟨b1, b2⟩ := rf_mkK_S hJ (rf_K0_S M) hb
  rw [rf_K0_nb, Nat.add_zero] at b1
  generalize hK1 : (rf_mkK M (rf_rn M b) (rf_K0 M)).2 = K1 at b1 b2 ⊢
  have hun : fb_unmark (me_set M 2 K1) = me_set M 2 (rf_K0 (me_set M 2 K1)) := by
    rw [rf_unmark, me_set_2]
  show ∃ K, (nI (rf_mkK M (rf_rn M b) (rf_K0 M)).1 - nI (fb_mark (fb_mark (fb_unmark (me_set M 2 K1)) (rf_rn M a)).2 (rf_rn M b)).1, (fb_mark (fb_mark (fb_unmark (me_set M 2 K1)) (rf_rn M a)).2 (rf_rn M b)).2) = _
  rw [hun, rf_mark]
  obtain ⟨z1, z2⟩ := rf_S0 M (K := rf_K0 (me_set M 2 K1)) (fun i hi => by unfold rf_K0; rw [if_pos ⟨by omega, hi⟩])
  obtain ⟨a1, a2⟩ := rf_mkK_S hJ z1 ha
  rw [z2, Nat.add_zero] at a1
  generalize (rf_mkK M (rf_rn M a) (rf_K0 (me_set M 2 K1))).2 = Ka at a1 a2 ⊢
  obtain ⟨c1, c2⟩ := rf_mkK_S hJ a2 hb
  show ∃ K, (nI (rf_mkK M (rf_rn M b) (rf_K0 M)).1 - nI (fb_mark (me_set M 2 Ka) (rf_rn M b)).1, (fb_mark (me_set M 2 Ka) (rf_rn M b)).2) = _
  rw [rf_mark]
  generalize (rf_mkK M (rf_rn M b) Ka).2 = Kc at c1 c2 ⊢
  refine ⟨Kc, ?_⟩
  have hcnt : me_cn (fun p => decide (0 < U 3 (21 * a + p)) && decide (U 3 (21 * b + p) = U 3 (21 * a + p))) 21 = rf_nb (fun i => rf_mk Ka i && rf_mk K1 i) := by
    rw [me_cn_congr (Q := fun p => decide (rf_nd M a p ≠ 0) && decide (rf_nd M b p = rf_nd M a p)) (fun p hp => by
      rw [Bool.eq_iff_iff, Bool.and_eq_true, Bool.and_eq_true, decide_eq_true_iff, decide_eq_true_iff, decide_eq_true_iff, decide_eq_true_iff, rf_pos (n2 a p ha hp)]
      have e0 : rf_nd M a p ≠ 0 ↔ U 3 (21 * a + p) ≠ 0 := not_congr (n1 a p ha hp)
      rw [← e0]
      refine and_congr_right fun h0 => ?_
      have := n3 a b p ha hb hp h0
      exact ⟨fun q => (this.mpr q.symm).symm, fun q => (this.mp q.symm).symm⟩), rf_cn_pl hI ha hb 21 (Nat.le_refl _)]
    unfold rf_nb
    refine me_cn_congr fun i hi => ?_
    unfold rf_mk
    rw [Bool.eq_iff_iff, rf_B_iff, Bool.and_eq_true, decide_eq_true_iff, decide_eq_true_iff, a2 i hi, b2 i hi]
    constructor
    · rintro ⟨h0, p, h1, h2, h3⟩
      exact ⟨⟨h0, a, p, ha, Or.inr rfl, h1, h2⟩, ⟨h0, b, p, hb, Or.inr rfl, h1, h3⟩⟩
    · rintro ⟨⟨h0, m, p, q1, q2, q3, q4⟩, -, m', p', r1, r2, r3, r4⟩
      have em : m = a := q2.elim (fun f => f.elim) id
      have em' : m' = b := r2.elim (fun f => f.elim) id
      subst em; subst em'
      have := hI.2.2.2.2.2.2.2.1 m m' p p' q1 r1 q3 r3 (by rw [q4]; exact h0) (q4.trans r4.symm)
      subst this
      exact ⟨h0, p, q3, q4, r4⟩
  have hor : rf_nb (rf_mk Kc) = rf_nb (fun i => rf_mk Ka i || rf_mk K1 i) := by
    unfold rf_nb
    refine me_cn_congr fun i hi => ?_
    unfold rf_mk
    rw [Bool.eq_iff_iff, Bool.or_eq_true, decide_eq_true_iff, decide_eq_true_iff, decide_eq_true_iff, a2 i hi, b2 i hi, c2 i hi]
    constructor
    · rintro ⟨h0, m, p, q1, q2 | q2, q3, q4⟩
      · exact Or.inl ⟨h0, m, p, q1, q2, q3, q4⟩
      · exact Or.inr ⟨h0, m, p, q1, Or.inr q2, q3, q4⟩
    · rintro (⟨h0, m, p, q1, q2, q3, q4⟩ | ⟨h0, m, p, q1, q2, q3, q4⟩)
      · exact ⟨h0, m, p, q1, Or.inl q2, q3, q4⟩
      · exact ⟨h0, m, p, q1, q2.elim (fun f => f.elim) Or.inr, q3, q4⟩
  have hie := rf_cn_ie (rf_mk Ka) (rf_mk K1) 61
  unfold rf_nb at hcnt hor b1 c1
  rw [Prod.mk.injEq]
  refine ⟨?_, rfl⟩
  rw [pk_sub (by omega), hcnt]
  congr 1
  omega
theorem rp_shared (hI : rf_I M U N) (hN9 : N < 2 ^ 31) (a b : Int32) : rf_E rf_cG (fb_shared M a b) (mo_shared U a b) N := by
  have hd : M 5 0 = U 4 5 := hI.2.2.2.2.2.2.2.2.2.2.2.1
  unfold fb_shared mo_shared
  rw [hd, rf_ism hI, rf_ism hI]
  have hc := fun x => rf_I_c hI hN9 x
  by_cases h1 : U 4 5 ≠ 0
  · rw [if_pos h1, if_pos h1]
    exact rf_Ex _ (by decide) _ rfl (hc _)
  · rw [if_neg h1, if_neg h1]
    by_cases h2 : (mo_ism U a && mo_ism U b) = false
    · rw [if_pos h2, if_pos h2]
      exact rf_Ex _ (by decide) _ rfl (hc _)
    · rw [if_neg h2, if_neg h2]
      have h3 : mo_ism U a = true ∧ mo_ism U b = true := by simpa using h2
      have ha : a.toNatClampNeg < 7 := rf_ismlt (M := M) (by rw [rf_ism hI]; exact h3.1)
      have hb : b.toNatClampNeg < 7 := rf_ismlt (M := M) (by rw [rf_ism hI]; exact h3.2)
      rw [rf_rn7 M ha, rf_rn7 M hb]
      obtain ⟨K, e⟩ := rf_shared hI (show a.toNatClampNeg < 14 by omega) (show b.toNatClampNeg < 14 by omega)
      rw [e]
      exact rf_Er _ rfl (rfl) (rf_I_c (rf_I_K hI hN9 _) hN9 _)
end
end
section
/-! two new objects -/
theorem rf_I0 {M U : me_M} (m0 : ∀ j, j < 61 → M 0 j = 0) (m1 : ∀ j, j < 61 → M 1 j = 0) (m6 : ∀ t, t < 4 → M 6 t = 0) (m30 : M 3 0 = 0) (m3 : ∀ h, 0 < h → h < 7 → M 3 h = -1) (m40 : M 4 0 = 0) (m4 : ∀ h, 0 < h → h < 7 → M 4 h = -1)
    (m50 : M 5 0 = 0) (m51 : M 5 1 = 0) (m52 : M 5 2 = -1) (u00 : U 0 0 = 1) (u07 : U 0 7 = 1) (u0 : ∀ m, m < 14 → m ≠ 0 → m ≠ 7 → U 0 m = 0) (u1 : ∀ j, j < 896 → U 1 j = 0) (u3 : ∀ j, j < 294 → U 3 j = 0)
    (u41 : U 4 1 = 0) (u42 : U 4 2 = 0) (u43 : U 4 3 = 0) (u44 : U 4 4 = -1) (u45 : U 4 5 = 0) : rf_I M U 0 := by
  have hrv : ∀ m, m < 14 → rf_rv M m = if m = 0 ∨ m = 7 then 0 else -1 := by
    intro m hm
    unfold rf_rv
    by_cases e : m < 7
    · rw [if_pos e]
      by_cases e0 : m = 0
      · rw [if_pos (Or.inl e0), e0]; exact m30
      · rw [if_neg (by omega)]; exact m3 m (by omega) e
    · rw [if_neg e]
      by_cases e7 : m = 7
      · rw [if_pos (Or.inr e7), e7]; exact m40
      · rw [if_neg (by omega)]; exact m4 (m - 7) (by omega) (by omega)
  have hrn : ∀ m, m < 14 → rf_rn M m = 0 := by
    intro m hm
    unfold rf_rn
    rw [hrv m hm]
    split
    · rfl
    · exact rf_m1
  have hZ : rf_Z M := ⟨m6, m0 0 (by omega), m1 0 (by omega)⟩
  have hnd : ∀ m p, m < 14 → p < 21 → rf_nd M m p = 0 := by
    intro m p hm hp
    have e0 : rf_nd M m 0 = 0 := hrn m hm
    have e1 : ∀ t, t < 4 → rf_nd M m (1 + t) = 0 := fun t ht => by rw [rf_nd_1 M m ht, e0]; exact rf_ch0 hZ ht
    exact rf_places (P := fun p => rf_nd M m p = 0) e0 e1 (fun s t hs ht => by rw [rf_nd_2 M m hs ht, e1 s hs]; exact rf_ch0 hZ ht) hp
  refine ⟨⟨fun m hm => ?_, u00, u07⟩, fun m hm => ?_, hZ, fun j hj => Or.inl (u1 j hj), ⟨fun m p t a1 a2 a3 => ?_, fun m p t a1 a2 a3 a4 => ?_, fun m k a1 a2 => ?_⟩, fun m k a1 a2 a3 => absurd (u1 _ (by omega)) a3, fun m l k a1 a2 a3 a4 => absurd (hnd m _ a1 (rf_pl_lt a3)) a4,
    fun m m' p p' a1 a2 a3 a4 a5 a6 => absurd (hnd m p a1 a3) a5, ⟨fun m p a1 a2 => ?_, fun m p a1 a2 => ?_, fun m m' p a1 a2 a3 a4 => absurd (hnd m p a1 a3) a4⟩, ⟨0, 0, u41, u42, Nat.le_refl _, Nat.le_refl _, fun m p a1 a2 => ⟨0, Nat.le_refl _, u3 _ (by omega)⟩⟩,
    ⟨fun p a1 a2 => absurd (hnd 0 p (by omega) a1) a2, fun m p a0 a1 a2 a3 => absurd (hnd m p a1 a2) a3⟩, ?_⟩
  · rw [hrv m hm, hrn m hm]
    by_cases e : m = 0 ∨ m = 7
    · rw [if_pos e]
      refine Or.inr ⟨?_, rfl, by omega⟩
      rcases e with e | e
      · rw [e]; exact u00
      · rw [e]; exact u07
    · rw [if_neg e]
      exact Or.inl ⟨u0 m hm (fun z => e (Or.inl z)) (fun z => e (Or.inr z)), rfl⟩
  · rw [hrn m hm]
    have hz : ∀ t, t < 4 → fb_ch M 0 t = 0 := fun t ht => rf_ch0 hZ ht
    refine ⟨by omega, fun t ht => ?_, fun t ht s hs => ?_⟩
    · rw [hz t ht]; exact ⟨hZ.1 t ht, by omega⟩
    · rw [hz t ht, hz s hs]; exact ⟨hZ.1 s hs, by omega⟩
  · rw [hnd m p a1 (by omega), hZ.2.1, b_0, rf_ch0 hZ a3, decide_eq_false (by omega)]
  · rw [hnd m p a1 a2, hZ.2.1, b_0]
  · rw [hnd m _ a1 (by omega), hZ.2.1, b_0, u1 _ (by omega)]; decide
  · rw [hnd m p a1 a2, u3 _ (by omega)]; exact ⟨fun _ => rfl, fun _ => rfl⟩
  · rw [u3 _ (by omega)]; decide
  · exact ⟨m50.trans u45.symm, Or.inl m50, m51.trans u43.symm, m52.trans u44.symm, Or.inl m52⟩
end
section
-- ===== PART A: goes FIRST, ahead of the names: the tables' words, and 'selects' of the private methods out of them =====
/-- a private method of a class that the tables say can be made, by its rows of tables_1 -/
def lw_okq (q : MethodName × Nat) : Prop := (q.1.cls ≠ "java/lang/invoke/MethodHandle" ∧ q.1.cls ≠ "java/lang/invoke/VarHandle") ∧ Cond.instantiable q.1.cls q.2 ∈ tables_1 ∧ Cond.privateMethod q.1 ∈ tables_1 ∧ Cond.instanceMethod q.1 ∈ tables_1
theorem lw_p0 : lw_okq (⟨"FrozenBranches", "snapshotsThere", "()I"⟩, 6) := ⟨⟨by decide +kernel, by decide +kernel⟩, List.mem_of_getElem? (i := 15) (by decide +kernel), List.mem_of_getElem? (i := 79) (by decide +kernel), List.mem_of_getElem? (i := 80) (by decide +kernel)⟩
theorem lw_p1 : lw_okq (⟨"FrozenBranches", "requireUp", "()V"⟩, 6) := ⟨⟨by decide +kernel, by decide +kernel⟩, List.mem_of_getElem? (i := 15) (by decide +kernel), List.mem_of_getElem? (i := 101) (by decide +kernel), List.mem_of_getElem? (i := 102) (by decide +kernel)⟩
theorem lw_p2 : lw_okq (⟨"java/lang/Throwable", "fillInStackTrace", "(I)Ljava/lang/Throwable;"⟩, 6) := ⟨⟨by decide +kernel, by decide +kernel⟩, List.mem_of_getElem? (i := 144) (by decide +kernel), List.mem_of_getElem? (i := 142) (by decide +kernel), List.mem_of_getElem? (i := 143) (by decide +kernel)⟩
theorem lw_p3 : lw_okq (⟨"FrozenBranches", "isKey", "(I)Z"⟩, 6) := ⟨⟨by decide +kernel, by decide +kernel⟩, List.mem_of_getElem? (i := 15) (by decide +kernel), List.mem_of_getElem? (i := 174) (by decide +kernel), List.mem_of_getElem? (i := 175) (by decide +kernel)⟩
theorem lw_p4 : lw_okq (⟨"FrozenBranches$Room", "nodeAt", "(III)I"⟩, 4) := ⟨⟨by decide +kernel, by decide +kernel⟩, List.mem_of_getElem? (i := 23) (by decide +kernel), List.mem_of_getElem? (i := 198) (by decide +kernel), List.mem_of_getElem? (i := 199) (by decide +kernel)⟩
theorem lw_p5 : lw_okq (⟨"FrozenBranches", "ownCurrentPath", "(II)V"⟩, 6) := ⟨⟨by decide +kernel, by decide +kernel⟩, List.mem_of_getElem? (i := 15) (by decide +kernel), List.mem_of_getElem? (i := 212) (by decide +kernel), List.mem_of_getElem? (i := 213) (by decide +kernel)⟩
theorem lw_p6 : lw_okq (⟨"FrozenBranches", "freeNodes", "()I"⟩, 6) := ⟨⟨by decide +kernel, by decide +kernel⟩, List.mem_of_getElem? (i := 15) (by decide +kernel), List.mem_of_getElem? (i := 216) (by decide +kernel), List.mem_of_getElem? (i := 217) (by decide +kernel)⟩
theorem lw_p7 : lw_okq (⟨"FrozenBranches", "markMaps", "([I)I"⟩, 6) := ⟨⟨by decide +kernel, by decide +kernel⟩, List.mem_of_getElem? (i := 15) (by decide +kernel), List.mem_of_getElem? (i := 224) (by decide +kernel), List.mem_of_getElem? (i := 225) (by decide +kernel)⟩
theorem lw_p8 : lw_okq (⟨"FrozenBranches$Room", "own", "(I)I"⟩, 4) := ⟨⟨by decide +kernel, by decide +kernel⟩, List.mem_of_getElem? (i := 23) (by decide +kernel), List.mem_of_getElem? (i := 256) (by decide +kernel), List.mem_of_getElem? (i := 257) (by decide +kernel)⟩
theorem lw_p9 : lw_okq (⟨"FrozenBranches$Room", "takeUnmarked", "()I"⟩, 4) := ⟨⟨by decide +kernel, by decide +kernel⟩, List.mem_of_getElem? (i := 23) (by decide +kernel), List.mem_of_getElem? (i := 260) (by decide +kernel), List.mem_of_getElem? (i := 261) (by decide +kernel)⟩
theorem lw_p10 : lw_okq (⟨"FrozenBranches$Room", "open", "(IIII)V"⟩, 4) := ⟨⟨by decide +kernel, by decide +kernel⟩, List.mem_of_getElem? (i := 23) (by decide +kernel), List.mem_of_getElem? (i := 265) (by decide +kernel), List.mem_of_getElem? (i := 266) (by decide +kernel)⟩
theorem lw_p11 : lw_okq (⟨"FrozenBranches", "requireBound", "(II)V"⟩, 6) := ⟨⟨by decide +kernel, by decide +kernel⟩, List.mem_of_getElem? (i := 15) (by decide +kernel), List.mem_of_getElem? (i := 281) (by decide +kernel), List.mem_of_getElem? (i := 282) (by decide +kernel)⟩
theorem lw_p12 : lw_okq (⟨"FrozenBranches$Room", "holdsNothingElse", "(III)Z"⟩, 4) := ⟨⟨by decide +kernel, by decide +kernel⟩, List.mem_of_getElem? (i := 23) (by decide +kernel), List.mem_of_getElem? (i := 305) (by decide +kernel), List.mem_of_getElem? (i := 306) (by decide +kernel)⟩
theorem lw_p13 : lw_okq (⟨"FrozenBranches", "requireMap", "(I)V"⟩, 6) := ⟨⟨by decide +kernel, by decide +kernel⟩, List.mem_of_getElem? (i := 15) (by decide +kernel), List.mem_of_getElem? (i := 320) (by decide +kernel), List.mem_of_getElem? (i := 321) (by decide +kernel)⟩
theorem lw_p14 : lw_okq (⟨"FrozenBranches", "isMap", "(I)Z"⟩, 6) := ⟨⟨by decide +kernel, by decide +kernel⟩, List.mem_of_getElem? (i := 15) (by decide +kernel), List.mem_of_getElem? (i := 324) (by decide +kernel), List.mem_of_getElem? (i := 325) (by decide +kernel)⟩
theorem lw_p15 : lw_okq (⟨"FrozenBranches", "keysBound", "(I)I"⟩, 6) := ⟨⟨by decide +kernel, by decide +kernel⟩, List.mem_of_getElem? (i := 15) (by decide +kernel), List.mem_of_getElem? (i := 346) (by decide +kernel), List.mem_of_getElem? (i := 347) (by decide +kernel)⟩
def lw_privs_1 : List (MethodName × Nat) := [(⟨"FrozenBranches", "snapshotsThere", "()I"⟩, 6), (⟨"FrozenBranches", "requireUp", "()V"⟩, 6), (⟨"java/lang/Throwable", "fillInStackTrace", "(I)Ljava/lang/Throwable;"⟩, 6), (⟨"FrozenBranches", "isKey", "(I)Z"⟩, 6), (⟨"FrozenBranches$Room", "nodeAt", "(III)I"⟩, 4), (⟨"FrozenBranches", "ownCurrentPath", "(II)V"⟩, 6), (⟨"FrozenBranches", "freeNodes", "()I"⟩, 6), (⟨"FrozenBranches", "markMaps", "([I)I"⟩, 6), (⟨"FrozenBranches$Room", "own", "(I)I"⟩, 4), (⟨"FrozenBranches$Room", "takeUnmarked", "()I"⟩, 4), (⟨"FrozenBranches$Room", "open", "(IIII)V"⟩, 4), (⟨"FrozenBranches", "requireBound", "(II)V"⟩, 6), (⟨"FrozenBranches$Room", "holdsNothingElse", "(III)Z"⟩, 4), (⟨"FrozenBranches", "requireMap", "(I)V"⟩, 6), (⟨"FrozenBranches", "isMap", "(I)Z"⟩, 6), (⟨"FrozenBranches", "keysBound", "(I)I"⟩, 6)]
theorem lw_r1 : ∀ q ∈ lw_privs_1, lw_okq q := List.forall_mem_cons.mpr ⟨lw_p0, List.forall_mem_cons.mpr ⟨lw_p1, List.forall_mem_cons.mpr ⟨lw_p2, List.forall_mem_cons.mpr ⟨lw_p3, List.forall_mem_cons.mpr ⟨lw_p4, List.forall_mem_cons.mpr ⟨lw_p5, List.forall_mem_cons.mpr ⟨lw_p6, List.forall_mem_cons.mpr ⟨lw_p7, List.forall_mem_cons.mpr ⟨lw_p8, List.forall_mem_cons.mpr ⟨lw_p9, List.forall_mem_cons.mpr ⟨lw_p10, List.forall_mem_cons.mpr ⟨lw_p11, List.forall_mem_cons.mpr ⟨lw_p12, List.forall_mem_cons.mpr ⟨lw_p13, List.forall_mem_cons.mpr ⟨lw_p14, List.forall_mem_cons.mpr ⟨lw_p15, fun _ h => absurd h List.not_mem_nil⟩⟩⟩⟩⟩⟩⟩⟩⟩⟩⟩⟩⟩⟩⟩⟩
theorem lw_p16 : lw_okq (⟨"FrozenBranches", "isBoundAlike", "(III)Z"⟩, 6) := ⟨⟨by decide +kernel, by decide +kernel⟩, List.mem_of_getElem? (i := 15) (by decide +kernel), List.mem_of_getElem? (i := 371) (by decide +kernel), List.mem_of_getElem? (i := 372) (by decide +kernel)⟩
theorem lw_p17 : lw_okq (⟨"FrozenBranches", "leastUnusedSnapshot", "()I"⟩, 6) := ⟨⟨by decide +kernel, by decide +kernel⟩, List.mem_of_getElem? (i := 15) (by decide +kernel), List.mem_of_getElem? (i := 382) (by decide +kernel), List.mem_of_getElem? (i := 383) (by decide +kernel)⟩
theorem lw_p18 : lw_okq (⟨"FrozenBranches", "requireSnapshot", "(I)V"⟩, 6) := ⟨⟨by decide +kernel, by decide +kernel⟩, List.mem_of_getElem? (i := 15) (by decide +kernel), List.mem_of_getElem? (i := 398) (by decide +kernel), List.mem_of_getElem? (i := 399) (by decide +kernel)⟩
theorem lw_p19 : lw_okq (⟨"FrozenBranches", "writesNeeded", "()I"⟩, 6) := ⟨⟨by decide +kernel, by decide +kernel⟩, List.mem_of_getElem? (i := 15) (by decide +kernel), List.mem_of_getElem? (i := 417) (by decide +kernel), List.mem_of_getElem? (i := 418) (by decide +kernel)⟩
theorem lw_p20 : lw_okq (⟨"FrozenBranches", "failsWithin", "(I)Z"⟩, 6) := ⟨⟨by decide +kernel, by decide +kernel⟩, List.mem_of_getElem? (i := 15) (by decide +kernel), List.mem_of_getElem? (i := 421) (by decide +kernel), List.mem_of_getElem? (i := 422) (by decide +kernel)⟩
theorem lw_p21 : lw_okq (⟨"FrozenBranches", "losePower", "()V"⟩, 6) := ⟨⟨by decide +kernel, by decide +kernel⟩, List.mem_of_getElem? (i := 15) (by decide +kernel), List.mem_of_getElem? (i := 425) (by decide +kernel), List.mem_of_getElem? (i := 426) (by decide +kernel)⟩
theorem lw_p22 : lw_okq (⟨"FrozenBranchesModel", "fits", "(II)Z"⟩, 10) := ⟨⟨by decide +kernel, by decide +kernel⟩, List.mem_of_getElem? (i := 444) (by decide +kernel), List.mem_of_getElem? (i := 492) (by decide +kernel), List.mem_of_getElem? (i := 493) (by decide +kernel)⟩
theorem lw_p23 : lw_okq (⟨"FrozenBranchesModel", "makes", "(III)Z"⟩, 10) := ⟨⟨by decide +kernel, by decide +kernel⟩, List.mem_of_getElem? (i := 444) (by decide +kernel), List.mem_of_getElem? (i := 496) (by decide +kernel), List.mem_of_getElem? (i := 497) (by decide +kernel)⟩
theorem lw_p24 : lw_okq (⟨"FrozenBranchesModel", "below", "(II)I"⟩, 10) := ⟨⟨by decide +kernel, by decide +kernel⟩, List.mem_of_getElem? (i := 444) (by decide +kernel), List.mem_of_getElem? (i := 500) (by decide +kernel), List.mem_of_getElem? (i := 501) (by decide +kernel)⟩
theorem lw_p25 : lw_okq (⟨"FrozenBranchesModel", "boundIn", "(III)I"⟩, 10) := ⟨⟨by decide +kernel, by decide +kernel⟩, List.mem_of_getElem? (i := 444) (by decide +kernel), List.mem_of_getElem? (i := 504) (by decide +kernel), List.mem_of_getElem? (i := 505) (by decide +kernel)⟩
theorem lw_p26 : lw_okq (⟨"FrozenBranchesModel", "freeNow", "()I"⟩, 10) := ⟨⟨by decide +kernel, by decide +kernel⟩, List.mem_of_getElem? (i := 444) (by decide +kernel), List.mem_of_getElem? (i := 511) (by decide +kernel), List.mem_of_getElem? (i := 512) (by decide +kernel)⟩
theorem lw_p27 : lw_okq (⟨"FrozenBranchesModel", "different", "(II)I"⟩, 10) := ⟨⟨by decide +kernel, by decide +kernel⟩, List.mem_of_getElem? (i := 444) (by decide +kernel), List.mem_of_getElem? (i := 515) (by decide +kernel), List.mem_of_getElem? (i := 516) (by decide +kernel)⟩
theorem lw_p28 : lw_okq (⟨"FrozenBranchesModel", "isIn", "(IIII)Z"⟩, 10) := ⟨⟨by decide +kernel, by decide +kernel⟩, List.mem_of_getElem? (i := 444) (by decide +kernel), List.mem_of_getElem? (i := 519) (by decide +kernel), List.mem_of_getElem? (i := 520) (by decide +kernel)⟩
theorem lw_p29 : lw_okq (⟨"FrozenBranchesModel", "change", "(II)V"⟩, 10) := ⟨⟨by decide +kernel, by decide +kernel⟩, List.mem_of_getElem? (i := 444) (by decide +kernel), List.mem_of_getElem? (i := 523) (by decide +kernel), List.mem_of_getElem? (i := 524) (by decide +kernel)⟩
theorem lw_p30 : lw_okq (⟨"FrozenBranchesModel", "isMap", "(I)Z"⟩, 10) := ⟨⟨by decide +kernel, by decide +kernel⟩, List.mem_of_getElem? (i := 444) (by decide +kernel), List.mem_of_getElem? (i := 535) (by decide +kernel), List.mem_of_getElem? (i := 536) (by decide +kernel)⟩
theorem lw_p31 : lw_okq (⟨"FrozenBranchesModel", "copy", "(II)V"⟩, 10) := ⟨⟨by decide +kernel, by decide +kernel⟩, List.mem_of_getElem? (i := 444) (by decide +kernel), List.mem_of_getElem? (i := 563) (by decide +kernel), List.mem_of_getElem? (i := 564) (by decide +kernel)⟩
def lw_privs_2 : List (MethodName × Nat) := [(⟨"FrozenBranches", "isBoundAlike", "(III)Z"⟩, 6), (⟨"FrozenBranches", "leastUnusedSnapshot", "()I"⟩, 6), (⟨"FrozenBranches", "requireSnapshot", "(I)V"⟩, 6), (⟨"FrozenBranches", "writesNeeded", "()I"⟩, 6), (⟨"FrozenBranches", "failsWithin", "(I)Z"⟩, 6), (⟨"FrozenBranches", "losePower", "()V"⟩, 6), (⟨"FrozenBranchesModel", "fits", "(II)Z"⟩, 10), (⟨"FrozenBranchesModel", "makes", "(III)Z"⟩, 10), (⟨"FrozenBranchesModel", "below", "(II)I"⟩, 10), (⟨"FrozenBranchesModel", "boundIn", "(III)I"⟩, 10), (⟨"FrozenBranchesModel", "freeNow", "()I"⟩, 10), (⟨"FrozenBranchesModel", "different", "(II)I"⟩, 10), (⟨"FrozenBranchesModel", "isIn", "(IIII)Z"⟩, 10), (⟨"FrozenBranchesModel", "change", "(II)V"⟩, 10), (⟨"FrozenBranchesModel", "isMap", "(I)Z"⟩, 10), (⟨"FrozenBranchesModel", "copy", "(II)V"⟩, 10)]
theorem lw_r2 : ∀ q ∈ lw_privs_2, lw_okq q := List.forall_mem_cons.mpr ⟨lw_p16, List.forall_mem_cons.mpr ⟨lw_p17, List.forall_mem_cons.mpr ⟨lw_p18, List.forall_mem_cons.mpr ⟨lw_p19, List.forall_mem_cons.mpr ⟨lw_p20, List.forall_mem_cons.mpr ⟨lw_p21, List.forall_mem_cons.mpr ⟨lw_p22, List.forall_mem_cons.mpr ⟨lw_p23, List.forall_mem_cons.mpr ⟨lw_p24, List.forall_mem_cons.mpr ⟨lw_p25, List.forall_mem_cons.mpr ⟨lw_p26, List.forall_mem_cons.mpr ⟨lw_p27, List.forall_mem_cons.mpr ⟨lw_p28, List.forall_mem_cons.mpr ⟨lw_p29, List.forall_mem_cons.mpr ⟨lw_p30, List.forall_mem_cons.mpr ⟨lw_p31, fun _ h => absurd h List.not_mem_nil⟩⟩⟩⟩⟩⟩⟩⟩⟩⟩⟩⟩⟩⟩⟩⟩
theorem lw_p32 : lw_okq (⟨"FrozenBranchesModel", "isSnapshot", "(I)Z"⟩, 10) := ⟨⟨by decide +kernel, by decide +kernel⟩, List.mem_of_getElem? (i := 444) (by decide +kernel), List.mem_of_getElem? (i := 571) (by decide +kernel), List.mem_of_getElem? (i := 572) (by decide +kernel)⟩
theorem lw_p33 : lw_okq (⟨"FrozenBranchesModel", "empty", "(I)V"⟩, 10) := ⟨⟨by decide +kernel, by decide +kernel⟩, List.mem_of_getElem? (i := 444) (by decide +kernel), List.mem_of_getElem? (i := 579) (by decide +kernel), List.mem_of_getElem? (i := 580) (by decide +kernel)⟩
theorem lw_p34 : lw_okq (⟨"FrozenBranchesModel", "dueNow", "()I"⟩, 10) := ⟨⟨by decide +kernel, by decide +kernel⟩, List.mem_of_getElem? (i := 444) (by decide +kernel), List.mem_of_getElem? (i := 587) (by decide +kernel), List.mem_of_getElem? (i := 588) (by decide +kernel)⟩
def lw_privs_3 : List (MethodName × Nat) := [(⟨"FrozenBranchesModel", "isSnapshot", "(I)Z"⟩, 10), (⟨"FrozenBranchesModel", "empty", "(I)V"⟩, 10), (⟨"FrozenBranchesModel", "dueNow", "()I"⟩, 10)]
theorem lw_r3 : ∀ q ∈ lw_privs_3, lw_okq q := List.forall_mem_cons.mpr ⟨lw_p32, List.forall_mem_cons.mpr ⟨lw_p33, List.forall_mem_cons.mpr ⟨lw_p34, fun _ h => absurd h List.not_mem_nil⟩⟩⟩
def lw_privs : List (MethodName × Nat) := lw_privs_1 ++ (lw_privs_2 ++ (lw_privs_3))
def lw_tbl : List Cond := k2_sels lw_privs ++ tables_1
theorem lw_privs_ok : ∀ q ∈ lw_privs, lw_okq q := by
  show ∀ q ∈ lw_privs_1 ++ (lw_privs_2 ++ (lw_privs_3)), lw_okq q
  exact List.forall_mem_append.mpr ⟨lw_r1, List.forall_mem_append.mpr ⟨lw_r2, lw_r3⟩⟩
end
section
/-! names (printed by wip/whole/gen/names.py out of the listing): classes nr_, fields nt_, methods ny_, their bytes nb_; the list of good words wl; decode rows nd_ -/
def nr_FB : String := "FrozenBranches"
def nr_RM : String := "FrozenBranches$Room"
def nr_MO : String := "FrozenBranchesModel"
def nr_LW : String := "FrozenBranchesLaw"
def wl : List Cond := lw_tbl.filter goodWord
theorem wl_t1 {w : Cond} (i : Nat) (h : tables_1_1[i]? = some w) (g : goodWord w = true) : w ∈ wl := List.mem_filter.mpr ⟨List.mem_append_right _ (List.mem_append_left _ (List.mem_of_getElem? h)), g⟩
theorem wl_t2 {w : Cond} (i : Nat) (h : tables_1_2[i]? = some w) (g : goodWord w = true) : w ∈ wl := List.mem_filter.mpr ⟨List.mem_append_right _ (List.mem_append_right _ (List.mem_append_left _ (List.mem_of_getElem? h))), g⟩
theorem wl_t3 {w : Cond} (i : Nat) (h : tables_1_3[i]? = some w) (g : goodWord w = true) : w ∈ wl := List.mem_filter.mpr ⟨List.mem_append_right _ (List.mem_append_right _ (List.mem_append_right _ (List.mem_of_getElem? h))), g⟩
theorem wl_sel {w : Cond} (i : Nat) (h : (k2_sels lw_privs)[i]? = some w) (g : goodWord w = true) : w ∈ wl := List.mem_filter.mpr ⟨List.mem_append_left _ (List.mem_of_getElem? h), g⟩
theorem wl_good {w : Cond} (h : w ∈ wl) : goodWord w = true := (List.mem_filter.mp h).2
theorem wl_in {w : Cond} (h : w ∈ wl) : w ∈ lw_tbl := (List.mem_filter.mp h).1
def nt_FB : u_T := fun k => match k with
  | 0 => ("FrozenBranches", "room", "LFrozenBranches$Room;", true)
  | 1 => ("FrozenBranches", "roots", "[I", true)
  | 2 => ("FrozenBranches", "diskRoots", "[I", true)
  | 3 => ("FrozenBranches", "powerless", "Z", false)
  | 4 => ("FrozenBranches", "writesMade", "I", false)
  | _ => ("FrozenBranches", "writesBeforeFailure", "I", false)
def nt_FB_ty : Nat → FieldType := fun k => match k with
  | 0 => .object "FrozenBranches$Room"
  | 1 => .array .int
  | 2 => .array .int
  | 3 => .boolean
  | 4 => .int
  | _ => .int
theorem nt_FB_nm : ∀ a, a < 6 → ∀ b, b < 6 → a ≠ b → (nt_FB a).2.1 ≠ (nt_FB b).2.1 := by decide +kernel
theorem nt_FB_ok : ∀ k, k < 6 → parseFieldDescriptor (nt_FB k).2.2.1 = some (nt_FB_ty k) := by decide +kernel
theorem nt_FB_in : ∀ w ∈ u_ws nr_FB nt_FB 6, w ∈ wl := by
  intro w hw
  obtain ⟨k, hk, rfl⟩ := List.mem_map.mp hw
  have hk := List.mem_range.mp hk
  match k, hk with
  | 0, _ => exact wl_t1 57 rfl rfl
  | 1, _ => exact wl_t1 59 rfl rfl
  | 2, _ => exact wl_t1 61 rfl rfl
  | 3, _ => exact wl_t1 63 rfl rfl
  | 4, _ => exact wl_t1 65 rfl rfl
  | 5, _ => exact wl_t1 67 rfl rfl
def nt_RM : u_T := fun k => match k with
  | 0 => ("FrozenBranches$Room", "ways", "[[I", true)
  | 1 => ("FrozenBranches$Room", "openTurns", "[I", true)
  | 2 => ("FrozenBranches$Room", "fresh", "[Z", true)
  | _ => ("FrozenBranches$Room", "marked", "[Z", true)
def nt_RM_ty : Nat → FieldType := fun k => match k with
  | 0 => .array (.array .int)
  | 1 => .array .int
  | 2 => .array .boolean
  | _ => .array .boolean
theorem nt_RM_nm : ∀ a, a < 4 → ∀ b, b < 4 → a ≠ b → (nt_RM a).2.1 ≠ (nt_RM b).2.1 := by decide +kernel
theorem nt_RM_ok : ∀ k, k < 4 → parseFieldDescriptor (nt_RM k).2.2.1 = some (nt_RM_ty k) := by decide +kernel
theorem nt_RM_in : ∀ w ∈ u_ws nr_RM nt_RM 4, w ∈ wl := by
  intro w hw
  obtain ⟨k, hk, rfl⟩ := List.mem_map.mp hw
  have hk := List.mem_range.mp hk
  match k, hk with
  | 0, _ => exact wl_t1 34 rfl rfl
  | 1, _ => exact wl_t1 36 rfl rfl
  | 2, _ => exact wl_t1 38 rfl rfl
  | 3, _ => exact wl_t1 40 rfl rfl
def nt_MO : u_T := fun k => match k with
  | 0 => ("FrozenBranchesModel", "code", "I", false)
  | 1 => ("FrozenBranchesModel", "there", "[Z", true)
  | 2 => ("FrozenBranchesModel", "bound", "[Z", true)
  | 3 => ("FrozenBranchesModel", "values", "[I", true)
  | 4 => ("FrozenBranchesModel", "numbers", "[I", true)
  | 5 => ("FrozenBranchesModel", "made", "I", false)
  | 6 => ("FrozenBranchesModel", "mark", "I", false)
  | 7 => ("FrozenBranchesModel", "writes", "I", false)
  | 8 => ("FrozenBranchesModel", "failAfter", "I", false)
  | _ => ("FrozenBranchesModel", "down", "Z", false)
def nt_MO_ty : Nat → FieldType := fun k => match k with
  | 0 => .int
  | 1 => .array .boolean
  | 2 => .array .boolean
  | 3 => .array .int
  | 4 => .array .int
  | 5 => .int
  | 6 => .int
  | 7 => .int
  | 8 => .int
  | _ => .boolean
theorem nt_MO_nm : ∀ a, a < 10 → ∀ b, b < 10 → a ≠ b → (nt_MO a).2.1 ≠ (nt_MO b).2.1 := by decide +kernel
theorem nt_MO_ok : ∀ k, k < 10 → parseFieldDescriptor (nt_MO k).2.2.1 = some (nt_MO_ty k) := by decide +kernel
theorem nt_MO_in : ∀ w ∈ u_ws nr_MO nt_MO 10, w ∈ wl := by
  intro w hw
  obtain ⟨k, hk, rfl⟩ := List.mem_map.mp hw
  have hk := List.mem_range.mp hk
  match k, hk with
  | 0, _ => exact wl_t2 219 rfl rfl
  | 1, _ => exact wl_t2 221 rfl rfl
  | 2, _ => exact wl_t2 223 rfl rfl
  | 3, _ => exact wl_t2 225 rfl rfl
  | 4, _ => exact wl_t2 227 rfl rfl
  | 5, _ => exact wl_t2 229 rfl rfl
  | 6, _ => exact wl_t2 231 rfl rfl
  | 7, _ => exact wl_t2 233 rfl rfl
  | 8, _ => exact wl_t2 235 rfl rfl
  | 9, _ => exact wl_t2 237 rfl rfl
abbrev sy_cl : List vw_C := [(nr_FB, nt_FB, 6), (nr_RM, nt_RM, 4), (nr_MO, nt_MO, 10)]
end
section
/-! names and decode rows of FrozenBranches$Room (printed by names.py) -/
abbrev nb_RM_init : ByteArray := prog_2_method_1_code
def ny_RM_init : MethodName := ⟨nr_RM, "<init>", "()V"⟩
theorem nc_RM_init : Cond.code ny_RM_init nb_RM_init 1 none ∈ wl := wl_t1 26 rfl rfl
theorem nd_RM_init_0 : decode nb_RM_init 0 = .ok (.aload_n 0, 1) := by decide +kernel
theorem nd_RM_init_1 : decode nb_RM_init 1 = .ok (.invokespecial 3, 3) := by decide +kernel
theorem nd_RM_init_4 : decode nb_RM_init 4 = .ok (.aload_n 0, 1) := by decide +kernel
theorem nd_RM_init_5 : decode nb_RM_init 5 = .ok (.bipush 61, 2) := by decide +kernel
theorem nd_RM_init_7 : decode nb_RM_init 7 = .ok (.iconst 4, 1) := by decide +kernel
theorem nd_RM_init_8 : decode nb_RM_init 8 = .ok (.multianewarray 11 2, 4) := by decide +kernel
theorem nd_RM_init_12 : decode nb_RM_init 12 = .ok (.putfield 13, 3) := by decide +kernel
theorem nd_RM_init_15 : decode nb_RM_init 15 = .ok (.aload_n 0, 1) := by decide +kernel
theorem nd_RM_init_16 : decode nb_RM_init 16 = .ok (.bipush 61, 2) := by decide +kernel
theorem nd_RM_init_18 : decode nb_RM_init 18 = .ok (.newarray .int, 2) := by decide +kernel
theorem nd_RM_init_20 : decode nb_RM_init 20 = .ok (.putfield 16, 3) := by decide +kernel
theorem nd_RM_init_23 : decode nb_RM_init 23 = .ok (.aload_n 0, 1) := by decide +kernel
theorem nd_RM_init_24 : decode nb_RM_init 24 = .ok (.bipush 61, 2) := by decide +kernel
theorem nd_RM_init_26 : decode nb_RM_init 26 = .ok (.newarray .boolean, 2) := by decide +kernel
theorem nd_RM_init_28 : decode nb_RM_init 28 = .ok (.putfield 20, 3) := by decide +kernel
theorem nd_RM_init_31 : decode nb_RM_init 31 = .ok (.aload_n 0, 1) := by decide +kernel
theorem nd_RM_init_32 : decode nb_RM_init 32 = .ok (.bipush 61, 2) := by decide +kernel
theorem nd_RM_init_34 : decode nb_RM_init 34 = .ok (.newarray .boolean, 2) := by decide +kernel
theorem nd_RM_init_36 : decode nb_RM_init 36 = .ok (.putfield 24, 3) := by decide +kernel
theorem nd_RM_init_39 : decode nb_RM_init 39 = .ok (.return_, 1) := by decide +kernel
abbrev nb_RM_binds : ByteArray := prog_2_method_2_code
def ny_RM_binds : MethodName := ⟨nr_RM, "binds", "(II)Z"⟩
theorem nc_RM_binds : Cond.code ny_RM_binds nb_RM_binds 4 (some .boolean) ∈ wl := wl_t1 196 rfl rfl
theorem nd_RM_binds_0 : decode nb_RM_binds 0 = .ok (.aload_n 0, 1) := by decide +kernel
theorem nd_RM_binds_1 : decode nb_RM_binds 1 = .ok (.iload_n 1, 1) := by decide +kernel
theorem nd_RM_binds_2 : decode nb_RM_binds 2 = .ok (.iload_n 2, 1) := by decide +kernel
theorem nd_RM_binds_3 : decode nb_RM_binds 3 = .ok (.iconst 2, 1) := by decide +kernel
theorem nd_RM_binds_4 : decode nb_RM_binds 4 = .ok (.invokevirtual 27, 3) := by decide +kernel
theorem nd_RM_binds_7 : decode nb_RM_binds 7 = .ok (.istore_n 3, 1) := by decide +kernel
theorem nd_RM_binds_8 : decode nb_RM_binds 8 = .ok (.aload_n 0, 1) := by decide +kernel
theorem nd_RM_binds_9 : decode nb_RM_binds 9 = .ok (.getfield 16, 3) := by decide +kernel
theorem nd_RM_binds_12 : decode nb_RM_binds 12 = .ok (.iload_n 3, 1) := by decide +kernel
theorem nd_RM_binds_13 : decode nb_RM_binds 13 = .ok (.iaload, 1) := by decide +kernel
theorem nd_RM_binds_14 : decode nb_RM_binds 14 = .ok (.iload_n 2, 1) := by decide +kernel
theorem nd_RM_binds_15 : decode nb_RM_binds 15 = .ok (.iconst 2, 1) := by decide +kernel
theorem nd_RM_binds_16 : decode nb_RM_binds 16 = .ok (.invokestatic 31, 3) := by decide +kernel
theorem nd_RM_binds_19 : decode nb_RM_binds 19 = .ok (.iand, 1) := by decide +kernel
theorem nd_RM_binds_20 : decode nb_RM_binds 20 = .ok (.ifCond .eq 7, 3) := by decide +kernel
theorem nd_RM_binds_23 : decode nb_RM_binds 23 = .ok (.iconst 1, 1) := by decide +kernel
theorem nd_RM_binds_24 : decode nb_RM_binds 24 = .ok (.goto 4, 3) := by decide +kernel
theorem nd_RM_binds_27 : decode nb_RM_binds 27 = .ok (.iconst 0, 1) := by decide +kernel
theorem nd_RM_binds_28 : decode nb_RM_binds 28 = .ok (.ireturn, 1) := by decide +kernel
abbrev nb_RM_valueOf : ByteArray := prog_2_method_3_code
def ny_RM_valueOf : MethodName := ⟨nr_RM, "valueOf", "(II)I"⟩
theorem nc_RM_valueOf : Cond.code ny_RM_valueOf nb_RM_valueOf 3 (some .int) ∈ wl := wl_t1 210 rfl rfl
theorem nd_RM_valueOf_0 : decode nb_RM_valueOf 0 = .ok (.aload_n 0, 1) := by decide +kernel
theorem nd_RM_valueOf_1 : decode nb_RM_valueOf 1 = .ok (.getfield 13, 3) := by decide +kernel
theorem nd_RM_valueOf_4 : decode nb_RM_valueOf 4 = .ok (.aload_n 0, 1) := by decide +kernel
theorem nd_RM_valueOf_5 : decode nb_RM_valueOf 5 = .ok (.iload_n 1, 1) := by decide +kernel
theorem nd_RM_valueOf_6 : decode nb_RM_valueOf 6 = .ok (.iload_n 2, 1) := by decide +kernel
theorem nd_RM_valueOf_7 : decode nb_RM_valueOf 7 = .ok (.iconst 2, 1) := by decide +kernel
theorem nd_RM_valueOf_8 : decode nb_RM_valueOf 8 = .ok (.invokevirtual 27, 3) := by decide +kernel
theorem nd_RM_valueOf_11 : decode nb_RM_valueOf 11 = .ok (.aaload, 1) := by decide +kernel
theorem nd_RM_valueOf_12 : decode nb_RM_valueOf 12 = .ok (.iload_n 2, 1) := by decide +kernel
theorem nd_RM_valueOf_13 : decode nb_RM_valueOf 13 = .ok (.iconst 2, 1) := by decide +kernel
theorem nd_RM_valueOf_14 : decode nb_RM_valueOf 14 = .ok (.invokestatic 35, 3) := by decide +kernel
theorem nd_RM_valueOf_17 : decode nb_RM_valueOf 17 = .ok (.iaload, 1) := by decide +kernel
theorem nd_RM_valueOf_18 : decode nb_RM_valueOf 18 = .ok (.ireturn, 1) := by decide +kernel
abbrev nb_RM_levelsWithout : ByteArray := prog_2_method_4_code
def ny_RM_levelsWithout : MethodName := ⟨nr_RM, "levelsWithout", "(II)I"⟩
theorem nc_RM_levelsWithout : Cond.code ny_RM_levelsWithout nb_RM_levelsWithout 4 (some .int) ∈ wl := wl_t2 63 rfl rfl
theorem nd_RM_levelsWithout_0 : decode nb_RM_levelsWithout 0 = .ok (.iconst 3, 1) := by decide +kernel
theorem nd_RM_levelsWithout_1 : decode nb_RM_levelsWithout 1 = .ok (.istore_n 3, 1) := by decide +kernel
theorem nd_RM_levelsWithout_2 : decode nb_RM_levelsWithout 2 = .ok (.iload_n 3, 1) := by decide +kernel
theorem nd_RM_levelsWithout_3 : decode nb_RM_levelsWithout 3 = .ok (.ifCond .le 21, 3) := by decide +kernel
theorem nd_RM_levelsWithout_6 : decode nb_RM_levelsWithout 6 = .ok (.aload_n 0, 1) := by decide +kernel
theorem nd_RM_levelsWithout_7 : decode nb_RM_levelsWithout 7 = .ok (.iload_n 1, 1) := by decide +kernel
theorem nd_RM_levelsWithout_8 : decode nb_RM_levelsWithout 8 = .ok (.iload_n 2, 1) := by decide +kernel
theorem nd_RM_levelsWithout_9 : decode nb_RM_levelsWithout 9 = .ok (.iload_n 3, 1) := by decide +kernel
theorem nd_RM_levelsWithout_10 : decode nb_RM_levelsWithout 10 = .ok (.iconst 1, 1) := by decide +kernel
theorem nd_RM_levelsWithout_11 : decode nb_RM_levelsWithout 11 = .ok (.isub, 1) := by decide +kernel
theorem nd_RM_levelsWithout_12 : decode nb_RM_levelsWithout 12 = .ok (.invokevirtual 38, 3) := by decide +kernel
theorem nd_RM_levelsWithout_15 : decode nb_RM_levelsWithout 15 = .ok (.ifCond .eq 9, 3) := by decide +kernel
theorem nd_RM_levelsWithout_18 : decode nb_RM_levelsWithout 18 = .ok (.iinc 3 (-1), 3) := by decide +kernel
theorem nd_RM_levelsWithout_21 : decode nb_RM_levelsWithout 21 = .ok (.goto (-19), 3) := by decide +kernel
theorem nd_RM_levelsWithout_24 : decode nb_RM_levelsWithout 24 = .ok (.iload_n 3, 1) := by decide +kernel
theorem nd_RM_levelsWithout_25 : decode nb_RM_levelsWithout 25 = .ok (.ireturn, 1) := by decide +kernel
abbrev nb_RM_nodesToMake : ByteArray := prog_2_method_5_code
def ny_RM_nodesToMake : MethodName := ⟨nr_RM, "nodesToMake", "(III)I"⟩
theorem nc_RM_nodesToMake : Cond.code ny_RM_nodesToMake nb_RM_nodesToMake 6 (some .int) ∈ wl := wl_t1 234 rfl rfl
theorem nd_RM_nodesToMake_0 : decode nb_RM_nodesToMake 0 = .ok (.iconst 0, 1) := by decide +kernel
theorem nd_RM_nodesToMake_1 : decode nb_RM_nodesToMake 1 = .ok (.istore 4, 2) := by decide +kernel
theorem nd_RM_nodesToMake_3 : decode nb_RM_nodesToMake 3 = .ok (.iconst 0, 1) := by decide +kernel
theorem nd_RM_nodesToMake_4 : decode nb_RM_nodesToMake 4 = .ok (.istore 5, 2) := by decide +kernel
theorem nd_RM_nodesToMake_6 : decode nb_RM_nodesToMake 6 = .ok (.iload 5, 2) := by decide +kernel
theorem nd_RM_nodesToMake_8 : decode nb_RM_nodesToMake 8 = .ok (.iload_n 3, 1) := by decide +kernel
theorem nd_RM_nodesToMake_9 : decode nb_RM_nodesToMake 9 = .ok (.if_icmp .ge 28, 3) := by decide +kernel
theorem nd_RM_nodesToMake_12 : decode nb_RM_nodesToMake 12 = .ok (.aload_n 0, 1) := by decide +kernel
theorem nd_RM_nodesToMake_13 : decode nb_RM_nodesToMake 13 = .ok (.getfield 20, 3) := by decide +kernel
theorem nd_RM_nodesToMake_16 : decode nb_RM_nodesToMake 16 = .ok (.aload_n 0, 1) := by decide +kernel
theorem nd_RM_nodesToMake_17 : decode nb_RM_nodesToMake 17 = .ok (.iload_n 1, 1) := by decide +kernel
theorem nd_RM_nodesToMake_18 : decode nb_RM_nodesToMake 18 = .ok (.iload_n 2, 1) := by decide +kernel
theorem nd_RM_nodesToMake_19 : decode nb_RM_nodesToMake 19 = .ok (.iload 5, 2) := by decide +kernel
theorem nd_RM_nodesToMake_21 : decode nb_RM_nodesToMake 21 = .ok (.invokevirtual 27, 3) := by decide +kernel
theorem nd_RM_nodesToMake_24 : decode nb_RM_nodesToMake 24 = .ok (.baload, 1) := by decide +kernel
theorem nd_RM_nodesToMake_25 : decode nb_RM_nodesToMake 25 = .ok (.ifCond .ne 6, 3) := by decide +kernel
theorem nd_RM_nodesToMake_28 : decode nb_RM_nodesToMake 28 = .ok (.iinc 4 1, 3) := by decide +kernel
theorem nd_RM_nodesToMake_31 : decode nb_RM_nodesToMake 31 = .ok (.iinc 5 1, 3) := by decide +kernel
theorem nd_RM_nodesToMake_34 : decode nb_RM_nodesToMake 34 = .ok (.goto (-28), 3) := by decide +kernel
theorem nd_RM_nodesToMake_37 : decode nb_RM_nodesToMake 37 = .ok (.iload 4, 2) := by decide +kernel
theorem nd_RM_nodesToMake_39 : decode nb_RM_nodesToMake 39 = .ok (.ireturn, 1) := by decide +kernel
abbrev nb_RM_ownPath : ByteArray := prog_2_method_6_code
def ny_RM_ownPath : MethodName := ⟨nr_RM, "ownPath", "(III)I"⟩
theorem nc_RM_ownPath : Cond.code ny_RM_ownPath nb_RM_ownPath 8 (some .int) ∈ wl := wl_t2 14 rfl rfl
theorem nd_RM_ownPath_0 : decode nb_RM_ownPath 0 = .ok (.iload_n 3, 1) := by decide +kernel
theorem nd_RM_ownPath_1 : decode nb_RM_ownPath 1 = .ok (.ifCond .gt 5, 3) := by decide +kernel
theorem nd_RM_ownPath_4 : decode nb_RM_ownPath 4 = .ok (.iconst 0, 1) := by decide +kernel
theorem nd_RM_ownPath_5 : decode nb_RM_ownPath 5 = .ok (.ireturn, 1) := by decide +kernel
theorem nd_RM_ownPath_6 : decode nb_RM_ownPath 6 = .ok (.aload_n 0, 1) := by decide +kernel
theorem nd_RM_ownPath_7 : decode nb_RM_ownPath 7 = .ok (.iload_n 1, 1) := by decide +kernel
theorem nd_RM_ownPath_8 : decode nb_RM_ownPath 8 = .ok (.invokevirtual 42, 3) := by decide +kernel
theorem nd_RM_ownPath_11 : decode nb_RM_ownPath 11 = .ok (.istore 4, 2) := by decide +kernel
theorem nd_RM_ownPath_13 : decode nb_RM_ownPath 13 = .ok (.iload 4, 2) := by decide +kernel
theorem nd_RM_ownPath_15 : decode nb_RM_ownPath 15 = .ok (.istore 5, 2) := by decide +kernel
theorem nd_RM_ownPath_17 : decode nb_RM_ownPath 17 = .ok (.iconst 0, 1) := by decide +kernel
theorem nd_RM_ownPath_18 : decode nb_RM_ownPath 18 = .ok (.istore 6, 2) := by decide +kernel
theorem nd_RM_ownPath_20 : decode nb_RM_ownPath 20 = .ok (.iload 6, 2) := by decide +kernel
theorem nd_RM_ownPath_22 : decode nb_RM_ownPath 22 = .ok (.iload_n 3, 1) := by decide +kernel
theorem nd_RM_ownPath_23 : decode nb_RM_ownPath 23 = .ok (.iconst 1, 1) := by decide +kernel
theorem nd_RM_ownPath_24 : decode nb_RM_ownPath 24 = .ok (.isub, 1) := by decide +kernel
theorem nd_RM_ownPath_25 : decode nb_RM_ownPath 25 = .ok (.if_icmp .ge 44, 3) := by decide +kernel
theorem nd_RM_ownPath_28 : decode nb_RM_ownPath 28 = .ok (.aload_n 0, 1) := by decide +kernel
theorem nd_RM_ownPath_29 : decode nb_RM_ownPath 29 = .ok (.aload_n 0, 1) := by decide +kernel
theorem nd_RM_ownPath_30 : decode nb_RM_ownPath 30 = .ok (.getfield 13, 3) := by decide +kernel
theorem nd_RM_ownPath_33 : decode nb_RM_ownPath 33 = .ok (.iload 5, 2) := by decide +kernel
theorem nd_RM_ownPath_35 : decode nb_RM_ownPath 35 = .ok (.aaload, 1) := by decide +kernel
theorem nd_RM_ownPath_36 : decode nb_RM_ownPath 36 = .ok (.iload_n 2, 1) := by decide +kernel
theorem nd_RM_ownPath_37 : decode nb_RM_ownPath 37 = .ok (.iload 6, 2) := by decide +kernel
theorem nd_RM_ownPath_39 : decode nb_RM_ownPath 39 = .ok (.invokestatic 35, 3) := by decide +kernel
theorem nd_RM_ownPath_42 : decode nb_RM_ownPath 42 = .ok (.iaload, 1) := by decide +kernel
theorem nd_RM_ownPath_43 : decode nb_RM_ownPath 43 = .ok (.invokevirtual 42, 3) := by decide +kernel
theorem nd_RM_ownPath_46 : decode nb_RM_ownPath 46 = .ok (.istore 7, 2) := by decide +kernel
theorem nd_RM_ownPath_48 : decode nb_RM_ownPath 48 = .ok (.aload_n 0, 1) := by decide +kernel
theorem nd_RM_ownPath_49 : decode nb_RM_ownPath 49 = .ok (.iload 5, 2) := by decide +kernel
theorem nd_RM_ownPath_51 : decode nb_RM_ownPath 51 = .ok (.iload_n 2, 1) := by decide +kernel
theorem nd_RM_ownPath_52 : decode nb_RM_ownPath 52 = .ok (.iload 6, 2) := by decide +kernel
theorem nd_RM_ownPath_54 : decode nb_RM_ownPath 54 = .ok (.iload 7, 2) := by decide +kernel
theorem nd_RM_ownPath_56 : decode nb_RM_ownPath 56 = .ok (.invokevirtual 46, 3) := by decide +kernel
theorem nd_RM_ownPath_59 : decode nb_RM_ownPath 59 = .ok (.iload 7, 2) := by decide +kernel
theorem nd_RM_ownPath_61 : decode nb_RM_ownPath 61 = .ok (.istore 5, 2) := by decide +kernel
theorem nd_RM_ownPath_63 : decode nb_RM_ownPath 63 = .ok (.iinc 6 1, 3) := by decide +kernel
theorem nd_RM_ownPath_66 : decode nb_RM_ownPath 66 = .ok (.goto (-46), 3) := by decide +kernel
theorem nd_RM_ownPath_69 : decode nb_RM_ownPath 69 = .ok (.iload 4, 2) := by decide +kernel
theorem nd_RM_ownPath_71 : decode nb_RM_ownPath 71 = .ok (.ireturn, 1) := by decide +kernel
abbrev nb_RM_bind : ByteArray := prog_2_method_7_code
def ny_RM_bind : MethodName := ⟨nr_RM, "bind", "(III)V"⟩
theorem nc_RM_bind : Cond.code ny_RM_bind nb_RM_bind 4 none ∈ wl := wl_t2 31 rfl rfl
theorem nd_RM_bind_0 : decode nb_RM_bind 0 = .ok (.aload_n 0, 1) := by decide +kernel
theorem nd_RM_bind_1 : decode nb_RM_bind 1 = .ok (.aload_n 0, 1) := by decide +kernel
theorem nd_RM_bind_2 : decode nb_RM_bind 2 = .ok (.iload_n 1, 1) := by decide +kernel
theorem nd_RM_bind_3 : decode nb_RM_bind 3 = .ok (.iload_n 2, 1) := by decide +kernel
theorem nd_RM_bind_4 : decode nb_RM_bind 4 = .ok (.iconst 2, 1) := by decide +kernel
theorem nd_RM_bind_5 : decode nb_RM_bind 5 = .ok (.invokevirtual 27, 3) := by decide +kernel
theorem nd_RM_bind_8 : decode nb_RM_bind 8 = .ok (.iload_n 2, 1) := by decide +kernel
theorem nd_RM_bind_9 : decode nb_RM_bind 9 = .ok (.iconst 2, 1) := by decide +kernel
theorem nd_RM_bind_10 : decode nb_RM_bind 10 = .ok (.iload_n 3, 1) := by decide +kernel
theorem nd_RM_bind_11 : decode nb_RM_bind 11 = .ok (.invokevirtual 46, 3) := by decide +kernel
theorem nd_RM_bind_14 : decode nb_RM_bind 14 = .ok (.return_, 1) := by decide +kernel
abbrev nb_RM_cut : ByteArray := prog_2_method_8_code
def ny_RM_cut : MethodName := ⟨nr_RM, "cut", "(III)V"⟩
theorem nc_RM_cut : Cond.code ny_RM_cut nb_RM_cut 5 none ∈ wl := wl_t2 71 rfl rfl
theorem nd_RM_cut_0 : decode nb_RM_cut 0 = .ok (.iload_n 3, 1) := by decide +kernel
theorem nd_RM_cut_1 : decode nb_RM_cut 1 = .ok (.ifCond .gt 4, 3) := by decide +kernel
theorem nd_RM_cut_4 : decode nb_RM_cut 4 = .ok (.return_, 1) := by decide +kernel
theorem nd_RM_cut_5 : decode nb_RM_cut 5 = .ok (.aload_n 0, 1) := by decide +kernel
theorem nd_RM_cut_6 : decode nb_RM_cut 6 = .ok (.iload_n 1, 1) := by decide +kernel
theorem nd_RM_cut_7 : decode nb_RM_cut 7 = .ok (.iload_n 2, 1) := by decide +kernel
theorem nd_RM_cut_8 : decode nb_RM_cut 8 = .ok (.iload_n 3, 1) := by decide +kernel
theorem nd_RM_cut_9 : decode nb_RM_cut 9 = .ok (.iconst 1, 1) := by decide +kernel
theorem nd_RM_cut_10 : decode nb_RM_cut 10 = .ok (.isub, 1) := by decide +kernel
theorem nd_RM_cut_11 : decode nb_RM_cut 11 = .ok (.invokevirtual 27, 3) := by decide +kernel
theorem nd_RM_cut_14 : decode nb_RM_cut 14 = .ok (.istore 4, 2) := by decide +kernel
theorem nd_RM_cut_16 : decode nb_RM_cut 16 = .ok (.aload_n 0, 1) := by decide +kernel
theorem nd_RM_cut_17 : decode nb_RM_cut 17 = .ok (.getfield 13, 3) := by decide +kernel
theorem nd_RM_cut_20 : decode nb_RM_cut 20 = .ok (.iload 4, 2) := by decide +kernel
theorem nd_RM_cut_22 : decode nb_RM_cut 22 = .ok (.aaload, 1) := by decide +kernel
theorem nd_RM_cut_23 : decode nb_RM_cut 23 = .ok (.iload_n 2, 1) := by decide +kernel
theorem nd_RM_cut_24 : decode nb_RM_cut 24 = .ok (.iload_n 3, 1) := by decide +kernel
theorem nd_RM_cut_25 : decode nb_RM_cut 25 = .ok (.iconst 1, 1) := by decide +kernel
theorem nd_RM_cut_26 : decode nb_RM_cut 26 = .ok (.isub, 1) := by decide +kernel
theorem nd_RM_cut_27 : decode nb_RM_cut 27 = .ok (.invokestatic 35, 3) := by decide +kernel
theorem nd_RM_cut_30 : decode nb_RM_cut 30 = .ok (.iconst 0, 1) := by decide +kernel
theorem nd_RM_cut_31 : decode nb_RM_cut 31 = .ok (.iastore, 1) := by decide +kernel
theorem nd_RM_cut_32 : decode nb_RM_cut 32 = .ok (.aload_n 0, 1) := by decide +kernel
theorem nd_RM_cut_33 : decode nb_RM_cut 33 = .ok (.getfield 16, 3) := by decide +kernel
theorem nd_RM_cut_36 : decode nb_RM_cut 36 = .ok (.iload 4, 2) := by decide +kernel
theorem nd_RM_cut_38 : decode nb_RM_cut 38 = .ok (.dup2, 1) := by decide +kernel
theorem nd_RM_cut_39 : decode nb_RM_cut 39 = .ok (.iaload, 1) := by decide +kernel
theorem nd_RM_cut_40 : decode nb_RM_cut 40 = .ok (.iload_n 2, 1) := by decide +kernel
theorem nd_RM_cut_41 : decode nb_RM_cut 41 = .ok (.iload_n 3, 1) := by decide +kernel
theorem nd_RM_cut_42 : decode nb_RM_cut 42 = .ok (.iconst 1, 1) := by decide +kernel
theorem nd_RM_cut_43 : decode nb_RM_cut 43 = .ok (.isub, 1) := by decide +kernel
theorem nd_RM_cut_44 : decode nb_RM_cut 44 = .ok (.invokestatic 31, 3) := by decide +kernel
theorem nd_RM_cut_47 : decode nb_RM_cut 47 = .ok (.iconst (-1), 1) := by decide +kernel
theorem nd_RM_cut_48 : decode nb_RM_cut 48 = .ok (.ixor, 1) := by decide +kernel
theorem nd_RM_cut_49 : decode nb_RM_cut 49 = .ok (.iand, 1) := by decide +kernel
theorem nd_RM_cut_50 : decode nb_RM_cut 50 = .ok (.iastore, 1) := by decide +kernel
theorem nd_RM_cut_51 : decode nb_RM_cut 51 = .ok (.return_, 1) := by decide +kernel
abbrev nb_RM_freeze : ByteArray := prog_2_method_9_code
def ny_RM_freeze : MethodName := ⟨nr_RM, "freeze", "()V"⟩
theorem nc_RM_freeze : Cond.code ny_RM_freeze nb_RM_freeze 2 none ∈ wl := wl_t2 149 rfl rfl
theorem nd_RM_freeze_0 : decode nb_RM_freeze 0 = .ok (.iconst 0, 1) := by decide +kernel
theorem nd_RM_freeze_1 : decode nb_RM_freeze 1 = .ok (.istore_n 1, 1) := by decide +kernel
theorem nd_RM_freeze_2 : decode nb_RM_freeze 2 = .ok (.iload_n 1, 1) := by decide +kernel
theorem nd_RM_freeze_3 : decode nb_RM_freeze 3 = .ok (.aload_n 0, 1) := by decide +kernel
theorem nd_RM_freeze_4 : decode nb_RM_freeze 4 = .ok (.getfield 20, 3) := by decide +kernel
theorem nd_RM_freeze_7 : decode nb_RM_freeze 7 = .ok (.arraylength, 1) := by decide +kernel
theorem nd_RM_freeze_8 : decode nb_RM_freeze 8 = .ok (.if_icmp .ge 16, 3) := by decide +kernel
theorem nd_RM_freeze_11 : decode nb_RM_freeze 11 = .ok (.aload_n 0, 1) := by decide +kernel
theorem nd_RM_freeze_12 : decode nb_RM_freeze 12 = .ok (.getfield 20, 3) := by decide +kernel
theorem nd_RM_freeze_15 : decode nb_RM_freeze 15 = .ok (.iload_n 1, 1) := by decide +kernel
theorem nd_RM_freeze_16 : decode nb_RM_freeze 16 = .ok (.iconst 0, 1) := by decide +kernel
theorem nd_RM_freeze_17 : decode nb_RM_freeze 17 = .ok (.bastore, 1) := by decide +kernel
theorem nd_RM_freeze_18 : decode nb_RM_freeze 18 = .ok (.iinc 1 1, 3) := by decide +kernel
theorem nd_RM_freeze_21 : decode nb_RM_freeze 21 = .ok (.goto (-19), 3) := by decide +kernel
theorem nd_RM_freeze_24 : decode nb_RM_freeze 24 = .ok (.return_, 1) := by decide +kernel
abbrev nb_RM_unmarkAll : ByteArray := prog_2_method_10_code
def ny_RM_unmarkAll : MethodName := ⟨nr_RM, "unmarkAll", "()V"⟩
theorem nc_RM_unmarkAll : Cond.code ny_RM_unmarkAll nb_RM_unmarkAll 2 none ∈ wl := wl_t1 222 rfl rfl
theorem nd_RM_unmarkAll_0 : decode nb_RM_unmarkAll 0 = .ok (.iconst 0, 1) := by decide +kernel
theorem nd_RM_unmarkAll_1 : decode nb_RM_unmarkAll 1 = .ok (.istore_n 1, 1) := by decide +kernel
theorem nd_RM_unmarkAll_2 : decode nb_RM_unmarkAll 2 = .ok (.iload_n 1, 1) := by decide +kernel
theorem nd_RM_unmarkAll_3 : decode nb_RM_unmarkAll 3 = .ok (.aload_n 0, 1) := by decide +kernel
theorem nd_RM_unmarkAll_4 : decode nb_RM_unmarkAll 4 = .ok (.getfield 24, 3) := by decide +kernel
theorem nd_RM_unmarkAll_7 : decode nb_RM_unmarkAll 7 = .ok (.arraylength, 1) := by decide +kernel
theorem nd_RM_unmarkAll_8 : decode nb_RM_unmarkAll 8 = .ok (.if_icmp .ge 16, 3) := by decide +kernel
theorem nd_RM_unmarkAll_11 : decode nb_RM_unmarkAll 11 = .ok (.aload_n 0, 1) := by decide +kernel
theorem nd_RM_unmarkAll_12 : decode nb_RM_unmarkAll 12 = .ok (.getfield 24, 3) := by decide +kernel
theorem nd_RM_unmarkAll_15 : decode nb_RM_unmarkAll 15 = .ok (.iload_n 1, 1) := by decide +kernel
theorem nd_RM_unmarkAll_16 : decode nb_RM_unmarkAll 16 = .ok (.iconst 0, 1) := by decide +kernel
theorem nd_RM_unmarkAll_17 : decode nb_RM_unmarkAll 17 = .ok (.bastore, 1) := by decide +kernel
theorem nd_RM_unmarkAll_18 : decode nb_RM_unmarkAll 18 = .ok (.iinc 1 1, 3) := by decide +kernel
theorem nd_RM_unmarkAll_21 : decode nb_RM_unmarkAll 21 = .ok (.goto (-19), 3) := by decide +kernel
theorem nd_RM_unmarkAll_24 : decode nb_RM_unmarkAll 24 = .ok (.return_, 1) := by decide +kernel
abbrev nb_RM_mark : ByteArray := prog_2_method_11_code
def ny_RM_mark : MethodName := ⟨nr_RM, "mark", "(I)I"⟩
theorem nc_RM_mark : Cond.code ny_RM_mark nb_RM_mark 6 (some .int) ∈ wl := wl_t1 230 rfl rfl
theorem nd_RM_mark_0 : decode nb_RM_mark 0 = .ok (.iload_n 1, 1) := by decide +kernel
theorem nd_RM_mark_1 : decode nb_RM_mark 1 = .ok (.ifCond .eq 12, 3) := by decide +kernel
theorem nd_RM_mark_4 : decode nb_RM_mark 4 = .ok (.aload_n 0, 1) := by decide +kernel
theorem nd_RM_mark_5 : decode nb_RM_mark 5 = .ok (.getfield 24, 3) := by decide +kernel
theorem nd_RM_mark_8 : decode nb_RM_mark 8 = .ok (.iload_n 1, 1) := by decide +kernel
theorem nd_RM_mark_9 : decode nb_RM_mark 9 = .ok (.baload, 1) := by decide +kernel
theorem nd_RM_mark_10 : decode nb_RM_mark 10 = .ok (.ifCond .eq 5, 3) := by decide +kernel
theorem nd_RM_mark_13 : decode nb_RM_mark 13 = .ok (.iconst 0, 1) := by decide +kernel
theorem nd_RM_mark_14 : decode nb_RM_mark 14 = .ok (.ireturn, 1) := by decide +kernel
theorem nd_RM_mark_15 : decode nb_RM_mark 15 = .ok (.iconst 0, 1) := by decide +kernel
theorem nd_RM_mark_16 : decode nb_RM_mark 16 = .ok (.istore_n 2, 1) := by decide +kernel
theorem nd_RM_mark_17 : decode nb_RM_mark 17 = .ok (.iconst 0, 1) := by decide +kernel
theorem nd_RM_mark_18 : decode nb_RM_mark 18 = .ok (.istore_n 3, 1) := by decide +kernel
theorem nd_RM_mark_19 : decode nb_RM_mark 19 = .ok (.iload_n 3, 1) := by decide +kernel
theorem nd_RM_mark_20 : decode nb_RM_mark 20 = .ok (.bipush 64, 2) := by decide +kernel
theorem nd_RM_mark_22 : decode nb_RM_mark 22 = .ok (.if_icmp .ge 60, 3) := by decide +kernel
theorem nd_RM_mark_25 : decode nb_RM_mark 25 = .ok (.iconst 0, 1) := by decide +kernel
theorem nd_RM_mark_26 : decode nb_RM_mark 26 = .ok (.istore 4, 2) := by decide +kernel
theorem nd_RM_mark_28 : decode nb_RM_mark 28 = .ok (.iload 4, 2) := by decide +kernel
theorem nd_RM_mark_30 : decode nb_RM_mark 30 = .ok (.iconst 3, 1) := by decide +kernel
theorem nd_RM_mark_31 : decode nb_RM_mark 31 = .ok (.if_icmp .ge 45, 3) := by decide +kernel
theorem nd_RM_mark_34 : decode nb_RM_mark 34 = .ok (.aload_n 0, 1) := by decide +kernel
theorem nd_RM_mark_35 : decode nb_RM_mark 35 = .ok (.iload_n 1, 1) := by decide +kernel
theorem nd_RM_mark_36 : decode nb_RM_mark 36 = .ok (.iload_n 3, 1) := by decide +kernel
theorem nd_RM_mark_37 : decode nb_RM_mark 37 = .ok (.iload 4, 2) := by decide +kernel
theorem nd_RM_mark_39 : decode nb_RM_mark 39 = .ok (.invokevirtual 27, 3) := by decide +kernel
theorem nd_RM_mark_42 : decode nb_RM_mark 42 = .ok (.istore 5, 2) := by decide +kernel
theorem nd_RM_mark_44 : decode nb_RM_mark 44 = .ok (.iload 5, 2) := by decide +kernel
theorem nd_RM_mark_46 : decode nb_RM_mark 46 = .ok (.ifCond .eq 24, 3) := by decide +kernel
theorem nd_RM_mark_49 : decode nb_RM_mark 49 = .ok (.aload_n 0, 1) := by decide +kernel
theorem nd_RM_mark_50 : decode nb_RM_mark 50 = .ok (.getfield 24, 3) := by decide +kernel
theorem nd_RM_mark_53 : decode nb_RM_mark 53 = .ok (.iload 5, 2) := by decide +kernel
theorem nd_RM_mark_55 : decode nb_RM_mark 55 = .ok (.baload, 1) := by decide +kernel
theorem nd_RM_mark_56 : decode nb_RM_mark 56 = .ok (.ifCond .ne 14, 3) := by decide +kernel
theorem nd_RM_mark_59 : decode nb_RM_mark 59 = .ok (.aload_n 0, 1) := by decide +kernel
theorem nd_RM_mark_60 : decode nb_RM_mark 60 = .ok (.getfield 24, 3) := by decide +kernel
theorem nd_RM_mark_63 : decode nb_RM_mark 63 = .ok (.iload 5, 2) := by decide +kernel
theorem nd_RM_mark_65 : decode nb_RM_mark 65 = .ok (.iconst 1, 1) := by decide +kernel
theorem nd_RM_mark_66 : decode nb_RM_mark 66 = .ok (.bastore, 1) := by decide +kernel
theorem nd_RM_mark_67 : decode nb_RM_mark 67 = .ok (.iinc 2 1, 3) := by decide +kernel
theorem nd_RM_mark_70 : decode nb_RM_mark 70 = .ok (.iinc 4 1, 3) := by decide +kernel
theorem nd_RM_mark_73 : decode nb_RM_mark 73 = .ok (.goto (-45), 3) := by decide +kernel
theorem nd_RM_mark_76 : decode nb_RM_mark 76 = .ok (.iinc 3 4, 3) := by decide +kernel
theorem nd_RM_mark_79 : decode nb_RM_mark 79 = .ok (.goto (-60), 3) := by decide +kernel
theorem nd_RM_mark_82 : decode nb_RM_mark 82 = .ok (.iload_n 2, 1) := by decide +kernel
theorem nd_RM_mark_83 : decode nb_RM_mark 83 = .ok (.ireturn, 1) := by decide +kernel
abbrev nb_RM_nodeAt : ByteArray := prog_2_method_12_code
def ny_RM_nodeAt : MethodName := ⟨nr_RM, "nodeAt", "(III)I"⟩
theorem nc_RM_nodeAt : Cond.code ny_RM_nodeAt nb_RM_nodeAt 6 (some .int) ∈ wl := wl_t1 200 rfl rfl
theorem nd_RM_nodeAt_0 : decode nb_RM_nodeAt 0 = .ok (.iload_n 1, 1) := by decide +kernel
theorem nd_RM_nodeAt_1 : decode nb_RM_nodeAt 1 = .ok (.istore 4, 2) := by decide +kernel
theorem nd_RM_nodeAt_3 : decode nb_RM_nodeAt 3 = .ok (.iconst 0, 1) := by decide +kernel
theorem nd_RM_nodeAt_4 : decode nb_RM_nodeAt 4 = .ok (.istore 5, 2) := by decide +kernel
theorem nd_RM_nodeAt_6 : decode nb_RM_nodeAt 6 = .ok (.iload 5, 2) := by decide +kernel
theorem nd_RM_nodeAt_8 : decode nb_RM_nodeAt 8 = .ok (.iload_n 3, 1) := by decide +kernel
theorem nd_RM_nodeAt_9 : decode nb_RM_nodeAt 9 = .ok (.if_icmp .ge 25, 3) := by decide +kernel
theorem nd_RM_nodeAt_12 : decode nb_RM_nodeAt 12 = .ok (.aload_n 0, 1) := by decide +kernel
theorem nd_RM_nodeAt_13 : decode nb_RM_nodeAt 13 = .ok (.getfield 13, 3) := by decide +kernel
theorem nd_RM_nodeAt_16 : decode nb_RM_nodeAt 16 = .ok (.iload 4, 2) := by decide +kernel
theorem nd_RM_nodeAt_18 : decode nb_RM_nodeAt 18 = .ok (.aaload, 1) := by decide +kernel
theorem nd_RM_nodeAt_19 : decode nb_RM_nodeAt 19 = .ok (.iload_n 2, 1) := by decide +kernel
theorem nd_RM_nodeAt_20 : decode nb_RM_nodeAt 20 = .ok (.iload 5, 2) := by decide +kernel
theorem nd_RM_nodeAt_22 : decode nb_RM_nodeAt 22 = .ok (.invokestatic 35, 3) := by decide +kernel
theorem nd_RM_nodeAt_25 : decode nb_RM_nodeAt 25 = .ok (.iaload, 1) := by decide +kernel
theorem nd_RM_nodeAt_26 : decode nb_RM_nodeAt 26 = .ok (.istore 4, 2) := by decide +kernel
theorem nd_RM_nodeAt_28 : decode nb_RM_nodeAt 28 = .ok (.iinc 5 1, 3) := by decide +kernel
theorem nd_RM_nodeAt_31 : decode nb_RM_nodeAt 31 = .ok (.goto (-25), 3) := by decide +kernel
theorem nd_RM_nodeAt_34 : decode nb_RM_nodeAt 34 = .ok (.iload 4, 2) := by decide +kernel
theorem nd_RM_nodeAt_36 : decode nb_RM_nodeAt 36 = .ok (.ireturn, 1) := by decide +kernel
abbrev nb_RM_holdsNothingElse : ByteArray := prog_2_method_13_code
def ny_RM_holdsNothingElse : MethodName := ⟨nr_RM, "holdsNothingElse", "(III)Z"⟩
theorem nc_RM_holdsNothingElse : Cond.code ny_RM_holdsNothingElse nb_RM_holdsNothingElse 4 (some .boolean) ∈ wl := wl_t2 67 rfl rfl
theorem nd_RM_holdsNothingElse_0 : decode nb_RM_holdsNothingElse 0 = .ok (.aload_n 0, 1) := by decide +kernel
theorem nd_RM_holdsNothingElse_1 : decode nb_RM_holdsNothingElse 1 = .ok (.getfield 16, 3) := by decide +kernel
theorem nd_RM_holdsNothingElse_4 : decode nb_RM_holdsNothingElse 4 = .ok (.aload_n 0, 1) := by decide +kernel
theorem nd_RM_holdsNothingElse_5 : decode nb_RM_holdsNothingElse 5 = .ok (.iload_n 1, 1) := by decide +kernel
theorem nd_RM_holdsNothingElse_6 : decode nb_RM_holdsNothingElse 6 = .ok (.iload_n 2, 1) := by decide +kernel
theorem nd_RM_holdsNothingElse_7 : decode nb_RM_holdsNothingElse 7 = .ok (.iload_n 3, 1) := by decide +kernel
theorem nd_RM_holdsNothingElse_8 : decode nb_RM_holdsNothingElse 8 = .ok (.invokevirtual 27, 3) := by decide +kernel
theorem nd_RM_holdsNothingElse_11 : decode nb_RM_holdsNothingElse 11 = .ok (.iaload, 1) := by decide +kernel
theorem nd_RM_holdsNothingElse_12 : decode nb_RM_holdsNothingElse 12 = .ok (.iload_n 2, 1) := by decide +kernel
theorem nd_RM_holdsNothingElse_13 : decode nb_RM_holdsNothingElse 13 = .ok (.iload_n 3, 1) := by decide +kernel
theorem nd_RM_holdsNothingElse_14 : decode nb_RM_holdsNothingElse 14 = .ok (.invokestatic 31, 3) := by decide +kernel
theorem nd_RM_holdsNothingElse_17 : decode nb_RM_holdsNothingElse 17 = .ok (.if_icmp .ne 7, 3) := by decide +kernel
theorem nd_RM_holdsNothingElse_20 : decode nb_RM_holdsNothingElse 20 = .ok (.iconst 1, 1) := by decide +kernel
theorem nd_RM_holdsNothingElse_21 : decode nb_RM_holdsNothingElse 21 = .ok (.goto 4, 3) := by decide +kernel
theorem nd_RM_holdsNothingElse_24 : decode nb_RM_holdsNothingElse 24 = .ok (.iconst 0, 1) := by decide +kernel
theorem nd_RM_holdsNothingElse_25 : decode nb_RM_holdsNothingElse 25 = .ok (.ireturn, 1) := by decide +kernel
abbrev nb_RM_open : ByteArray := prog_2_method_14_code
def ny_RM_open : MethodName := ⟨nr_RM, "open", "(IIII)V"⟩
theorem nc_RM_open : Cond.code ny_RM_open nb_RM_open 5 none ∈ wl := wl_t2 27 rfl rfl
theorem nd_RM_open_0 : decode nb_RM_open 0 = .ok (.aload_n 0, 1) := by decide +kernel
theorem nd_RM_open_1 : decode nb_RM_open 1 = .ok (.getfield 13, 3) := by decide +kernel
theorem nd_RM_open_4 : decode nb_RM_open 4 = .ok (.iload_n 1, 1) := by decide +kernel
theorem nd_RM_open_5 : decode nb_RM_open 5 = .ok (.aaload, 1) := by decide +kernel
theorem nd_RM_open_6 : decode nb_RM_open 6 = .ok (.iload_n 2, 1) := by decide +kernel
theorem nd_RM_open_7 : decode nb_RM_open 7 = .ok (.iload_n 3, 1) := by decide +kernel
theorem nd_RM_open_8 : decode nb_RM_open 8 = .ok (.invokestatic 35, 3) := by decide +kernel
theorem nd_RM_open_11 : decode nb_RM_open 11 = .ok (.iload 4, 2) := by decide +kernel
theorem nd_RM_open_13 : decode nb_RM_open 13 = .ok (.iastore, 1) := by decide +kernel
theorem nd_RM_open_14 : decode nb_RM_open 14 = .ok (.aload_n 0, 1) := by decide +kernel
theorem nd_RM_open_15 : decode nb_RM_open 15 = .ok (.getfield 16, 3) := by decide +kernel
theorem nd_RM_open_18 : decode nb_RM_open 18 = .ok (.iload_n 1, 1) := by decide +kernel
theorem nd_RM_open_19 : decode nb_RM_open 19 = .ok (.dup2, 1) := by decide +kernel
theorem nd_RM_open_20 : decode nb_RM_open 20 = .ok (.iaload, 1) := by decide +kernel
theorem nd_RM_open_21 : decode nb_RM_open 21 = .ok (.iload_n 2, 1) := by decide +kernel
theorem nd_RM_open_22 : decode nb_RM_open 22 = .ok (.iload_n 3, 1) := by decide +kernel
theorem nd_RM_open_23 : decode nb_RM_open 23 = .ok (.invokestatic 31, 3) := by decide +kernel
theorem nd_RM_open_26 : decode nb_RM_open 26 = .ok (.ior, 1) := by decide +kernel
theorem nd_RM_open_27 : decode nb_RM_open 27 = .ok (.iastore, 1) := by decide +kernel
theorem nd_RM_open_28 : decode nb_RM_open 28 = .ok (.return_, 1) := by decide +kernel
abbrev nb_RM_own : ByteArray := prog_2_method_15_code
def ny_RM_own : MethodName := ⟨nr_RM, "own", "(I)I"⟩
theorem nc_RM_own : Cond.code ny_RM_own nb_RM_own 3 (some .int) ∈ wl := wl_t2 18 rfl rfl
theorem nd_RM_own_0 : decode nb_RM_own 0 = .ok (.aload_n 0, 1) := by decide +kernel
theorem nd_RM_own_1 : decode nb_RM_own 1 = .ok (.getfield 20, 3) := by decide +kernel
theorem nd_RM_own_4 : decode nb_RM_own 4 = .ok (.iload_n 1, 1) := by decide +kernel
theorem nd_RM_own_5 : decode nb_RM_own 5 = .ok (.baload, 1) := by decide +kernel
theorem nd_RM_own_6 : decode nb_RM_own 6 = .ok (.ifCond .eq 5, 3) := by decide +kernel
theorem nd_RM_own_9 : decode nb_RM_own 9 = .ok (.iload_n 1, 1) := by decide +kernel
theorem nd_RM_own_10 : decode nb_RM_own 10 = .ok (.ireturn, 1) := by decide +kernel
theorem nd_RM_own_11 : decode nb_RM_own 11 = .ok (.aload_n 0, 1) := by decide +kernel
theorem nd_RM_own_12 : decode nb_RM_own 12 = .ok (.invokevirtual 50, 3) := by decide +kernel
theorem nd_RM_own_15 : decode nb_RM_own 15 = .ok (.istore_n 2, 1) := by decide +kernel
theorem nd_RM_own_16 : decode nb_RM_own 16 = .ok (.aload_n 0, 1) := by decide +kernel
theorem nd_RM_own_17 : decode nb_RM_own 17 = .ok (.getfield 13, 3) := by decide +kernel
theorem nd_RM_own_20 : decode nb_RM_own 20 = .ok (.iload_n 1, 1) := by decide +kernel
theorem nd_RM_own_21 : decode nb_RM_own 21 = .ok (.aaload, 1) := by decide +kernel
theorem nd_RM_own_22 : decode nb_RM_own 22 = .ok (.iconst 0, 1) := by decide +kernel
theorem nd_RM_own_23 : decode nb_RM_own 23 = .ok (.aload_n 0, 1) := by decide +kernel
theorem nd_RM_own_24 : decode nb_RM_own 24 = .ok (.getfield 13, 3) := by decide +kernel
theorem nd_RM_own_27 : decode nb_RM_own 27 = .ok (.iload_n 2, 1) := by decide +kernel
theorem nd_RM_own_28 : decode nb_RM_own 28 = .ok (.aaload, 1) := by decide +kernel
theorem nd_RM_own_29 : decode nb_RM_own 29 = .ok (.iconst 0, 1) := by decide +kernel
theorem nd_RM_own_30 : decode nb_RM_own 30 = .ok (.iconst 4, 1) := by decide +kernel
theorem nd_RM_own_31 : decode nb_RM_own 31 = .ok (.invokestatic 54, 3) := by decide +kernel
theorem nd_RM_own_34 : decode nb_RM_own 34 = .ok (.aload_n 0, 1) := by decide +kernel
theorem nd_RM_own_35 : decode nb_RM_own 35 = .ok (.getfield 16, 3) := by decide +kernel
theorem nd_RM_own_38 : decode nb_RM_own 38 = .ok (.iload_n 2, 1) := by decide +kernel
theorem nd_RM_own_39 : decode nb_RM_own 39 = .ok (.aload_n 0, 1) := by decide +kernel
theorem nd_RM_own_40 : decode nb_RM_own 40 = .ok (.getfield 16, 3) := by decide +kernel
theorem nd_RM_own_43 : decode nb_RM_own 43 = .ok (.iload_n 1, 1) := by decide +kernel
theorem nd_RM_own_44 : decode nb_RM_own 44 = .ok (.iaload, 1) := by decide +kernel
theorem nd_RM_own_45 : decode nb_RM_own 45 = .ok (.iastore, 1) := by decide +kernel
theorem nd_RM_own_46 : decode nb_RM_own 46 = .ok (.aload_n 0, 1) := by decide +kernel
theorem nd_RM_own_47 : decode nb_RM_own 47 = .ok (.getfield 20, 3) := by decide +kernel
theorem nd_RM_own_50 : decode nb_RM_own 50 = .ok (.iload_n 2, 1) := by decide +kernel
theorem nd_RM_own_51 : decode nb_RM_own 51 = .ok (.iconst 1, 1) := by decide +kernel
theorem nd_RM_own_52 : decode nb_RM_own 52 = .ok (.bastore, 1) := by decide +kernel
theorem nd_RM_own_53 : decode nb_RM_own 53 = .ok (.iload_n 2, 1) := by decide +kernel
theorem nd_RM_own_54 : decode nb_RM_own 54 = .ok (.ireturn, 1) := by decide +kernel
abbrev nb_RM_takeUnmarked : ByteArray := prog_2_method_16_code
def ny_RM_takeUnmarked : MethodName := ⟨nr_RM, "takeUnmarked", "()I"⟩
theorem nc_RM_takeUnmarked : Cond.code ny_RM_takeUnmarked nb_RM_takeUnmarked 2 (some .int) ∈ wl := wl_t2 22 rfl rfl
theorem nd_RM_takeUnmarked_0 : decode nb_RM_takeUnmarked 0 = .ok (.iconst 1, 1) := by decide +kernel
theorem nd_RM_takeUnmarked_1 : decode nb_RM_takeUnmarked 1 = .ok (.istore_n 1, 1) := by decide +kernel
theorem nd_RM_takeUnmarked_2 : decode nb_RM_takeUnmarked 2 = .ok (.iload_n 1, 1) := by decide +kernel
theorem nd_RM_takeUnmarked_3 : decode nb_RM_takeUnmarked 3 = .ok (.bipush 60, 2) := by decide +kernel
theorem nd_RM_takeUnmarked_5 : decode nb_RM_takeUnmarked 5 = .ok (.if_icmp .ge 18, 3) := by decide +kernel
theorem nd_RM_takeUnmarked_8 : decode nb_RM_takeUnmarked 8 = .ok (.aload_n 0, 1) := by decide +kernel
theorem nd_RM_takeUnmarked_9 : decode nb_RM_takeUnmarked 9 = .ok (.getfield 24, 3) := by decide +kernel
theorem nd_RM_takeUnmarked_12 : decode nb_RM_takeUnmarked 12 = .ok (.iload_n 1, 1) := by decide +kernel
theorem nd_RM_takeUnmarked_13 : decode nb_RM_takeUnmarked 13 = .ok (.baload, 1) := by decide +kernel
theorem nd_RM_takeUnmarked_14 : decode nb_RM_takeUnmarked 14 = .ok (.ifCond .eq 9, 3) := by decide +kernel
theorem nd_RM_takeUnmarked_17 : decode nb_RM_takeUnmarked 17 = .ok (.iinc 1 1, 3) := by decide +kernel
theorem nd_RM_takeUnmarked_20 : decode nb_RM_takeUnmarked 20 = .ok (.goto (-18), 3) := by decide +kernel
theorem nd_RM_takeUnmarked_23 : decode nb_RM_takeUnmarked 23 = .ok (.aload_n 0, 1) := by decide +kernel
theorem nd_RM_takeUnmarked_24 : decode nb_RM_takeUnmarked 24 = .ok (.getfield 24, 3) := by decide +kernel
theorem nd_RM_takeUnmarked_27 : decode nb_RM_takeUnmarked 27 = .ok (.iload_n 1, 1) := by decide +kernel
theorem nd_RM_takeUnmarked_28 : decode nb_RM_takeUnmarked 28 = .ok (.iconst 1, 1) := by decide +kernel
theorem nd_RM_takeUnmarked_29 : decode nb_RM_takeUnmarked 29 = .ok (.bastore, 1) := by decide +kernel
theorem nd_RM_takeUnmarked_30 : decode nb_RM_takeUnmarked 30 = .ok (.iload_n 1, 1) := by decide +kernel
theorem nd_RM_takeUnmarked_31 : decode nb_RM_takeUnmarked 31 = .ok (.ireturn, 1) := by decide +kernel
abbrev nb_RM_turnOf : ByteArray := prog_2_method_17_code
def ny_RM_turnOf : MethodName := ⟨nr_RM, "turnOf", "(II)I"⟩
theorem nc_RM_turnOf : Cond.code ny_RM_turnOf nb_RM_turnOf 2 (some .int) ∈ wl := wl_t1 203 rfl rfl
theorem nd_RM_turnOf_0 : decode nb_RM_turnOf 0 = .ok (.iload_n 0, 1) := by decide +kernel
theorem nd_RM_turnOf_1 : decode nb_RM_turnOf 1 = .ok (.iconst 2, 1) := by decide +kernel
theorem nd_RM_turnOf_2 : decode nb_RM_turnOf 2 = .ok (.iconst 2, 1) := by decide +kernel
theorem nd_RM_turnOf_3 : decode nb_RM_turnOf 3 = .ok (.iload_n 1, 1) := by decide +kernel
theorem nd_RM_turnOf_4 : decode nb_RM_turnOf 4 = .ok (.isub, 1) := by decide +kernel
theorem nd_RM_turnOf_5 : decode nb_RM_turnOf 5 = .ok (.imul, 1) := by decide +kernel
theorem nd_RM_turnOf_6 : decode nb_RM_turnOf 6 = .ok (.ishr, 1) := by decide +kernel
theorem nd_RM_turnOf_7 : decode nb_RM_turnOf 7 = .ok (.iconst 3, 1) := by decide +kernel
theorem nd_RM_turnOf_8 : decode nb_RM_turnOf 8 = .ok (.iand, 1) := by decide +kernel
theorem nd_RM_turnOf_9 : decode nb_RM_turnOf 9 = .ok (.ireturn, 1) := by decide +kernel
abbrev nb_RM_bitOf : ByteArray := prog_2_method_18_code
def ny_RM_bitOf : MethodName := ⟨nr_RM, "bitOf", "(II)I"⟩
theorem nc_RM_bitOf : Cond.code ny_RM_bitOf nb_RM_bitOf 2 (some .int) ∈ wl := wl_t1 206 rfl rfl
theorem nd_RM_bitOf_0 : decode nb_RM_bitOf 0 = .ok (.iconst 1, 1) := by decide +kernel
theorem nd_RM_bitOf_1 : decode nb_RM_bitOf 1 = .ok (.iload_n 0, 1) := by decide +kernel
theorem nd_RM_bitOf_2 : decode nb_RM_bitOf 2 = .ok (.iload_n 1, 1) := by decide +kernel
theorem nd_RM_bitOf_3 : decode nb_RM_bitOf 3 = .ok (.invokestatic 35, 3) := by decide +kernel
theorem nd_RM_bitOf_6 : decode nb_RM_bitOf 6 = .ok (.ishl, 1) := by decide +kernel
theorem nd_RM_bitOf_7 : decode nb_RM_bitOf 7 = .ok (.ireturn, 1) := by decide +kernel
end
section
/-! names and decode rows of FrozenBranches (printed by names.py) -/
abbrev nb_FB_init : ByteArray := prog_1_method_1_code
def ny_FB_init : MethodName := ⟨nr_FB, "<init>", "()V"⟩
theorem nc_FB_init : Cond.code ny_FB_init nb_FB_init 1 none ∈ wl := wl_t1 18 rfl rfl
theorem nd_FB_init_0 : decode nb_FB_init 0 = .ok (.aload_n 0, 1) := by decide +kernel
theorem nd_FB_init_1 : decode nb_FB_init 1 = .ok (.invokespecial 1, 3) := by decide +kernel
theorem nd_FB_init_4 : decode nb_FB_init 4 = .ok (.aload_n 0, 1) := by decide +kernel
theorem nd_FB_init_5 : decode nb_FB_init 5 = .ok (.new 7, 3) := by decide +kernel
theorem nd_FB_init_8 : decode nb_FB_init 8 = .ok (.dup, 1) := by decide +kernel
theorem nd_FB_init_9 : decode nb_FB_init 9 = .ok (.invokespecial 9, 3) := by decide +kernel
theorem nd_FB_init_12 : decode nb_FB_init 12 = .ok (.putfield 10, 3) := by decide +kernel
theorem nd_FB_init_15 : decode nb_FB_init 15 = .ok (.aload_n 0, 1) := by decide +kernel
theorem nd_FB_init_16 : decode nb_FB_init 16 = .ok (.bipush 7, 2) := by decide +kernel
theorem nd_FB_init_18 : decode nb_FB_init 18 = .ok (.newarray .int, 2) := by decide +kernel
theorem nd_FB_init_20 : decode nb_FB_init 20 = .ok (.putfield 16, 3) := by decide +kernel
theorem nd_FB_init_23 : decode nb_FB_init 23 = .ok (.aload_n 0, 1) := by decide +kernel
theorem nd_FB_init_24 : decode nb_FB_init 24 = .ok (.bipush 7, 2) := by decide +kernel
theorem nd_FB_init_26 : decode nb_FB_init 26 = .ok (.newarray .int, 2) := by decide +kernel
theorem nd_FB_init_28 : decode nb_FB_init 28 = .ok (.putfield 20, 3) := by decide +kernel
theorem nd_FB_init_31 : decode nb_FB_init 31 = .ok (.aload_n 0, 1) := by decide +kernel
theorem nd_FB_init_32 : decode nb_FB_init 32 = .ok (.iconst (-1), 1) := by decide +kernel
theorem nd_FB_init_33 : decode nb_FB_init 33 = .ok (.putfield 23, 3) := by decide +kernel
theorem nd_FB_init_36 : decode nb_FB_init 36 = .ok (.aload_n 0, 1) := by decide +kernel
theorem nd_FB_init_37 : decode nb_FB_init 37 = .ok (.getfield 16, 3) := by decide +kernel
theorem nd_FB_init_40 : decode nb_FB_init 40 = .ok (.iconst (-1), 1) := by decide +kernel
theorem nd_FB_init_41 : decode nb_FB_init 41 = .ok (.invokestatic 27, 3) := by decide +kernel
theorem nd_FB_init_44 : decode nb_FB_init 44 = .ok (.aload_n 0, 1) := by decide +kernel
theorem nd_FB_init_45 : decode nb_FB_init 45 = .ok (.getfield 16, 3) := by decide +kernel
theorem nd_FB_init_48 : decode nb_FB_init 48 = .ok (.iconst 0, 1) := by decide +kernel
theorem nd_FB_init_49 : decode nb_FB_init 49 = .ok (.iconst 0, 1) := by decide +kernel
theorem nd_FB_init_50 : decode nb_FB_init 50 = .ok (.iastore, 1) := by decide +kernel
theorem nd_FB_init_51 : decode nb_FB_init 51 = .ok (.aload_n 0, 1) := by decide +kernel
theorem nd_FB_init_52 : decode nb_FB_init 52 = .ok (.getfield 16, 3) := by decide +kernel
theorem nd_FB_init_55 : decode nb_FB_init 55 = .ok (.iconst 0, 1) := by decide +kernel
theorem nd_FB_init_56 : decode nb_FB_init 56 = .ok (.aload_n 0, 1) := by decide +kernel
theorem nd_FB_init_57 : decode nb_FB_init 57 = .ok (.getfield 20, 3) := by decide +kernel
theorem nd_FB_init_60 : decode nb_FB_init 60 = .ok (.iconst 0, 1) := by decide +kernel
theorem nd_FB_init_61 : decode nb_FB_init 61 = .ok (.aload_n 0, 1) := by decide +kernel
theorem nd_FB_init_62 : decode nb_FB_init 62 = .ok (.getfield 16, 3) := by decide +kernel
theorem nd_FB_init_65 : decode nb_FB_init 65 = .ok (.arraylength, 1) := by decide +kernel
theorem nd_FB_init_66 : decode nb_FB_init 66 = .ok (.invokestatic 33, 3) := by decide +kernel
theorem nd_FB_init_69 : decode nb_FB_init 69 = .ok (.return_, 1) := by decide +kernel
abbrev nb_FB_put : ByteArray := prog_1_method_2_code
def ny_FB_put : MethodName := ⟨nr_FB, "put", "(II)I"⟩
theorem nc_FB_put : Cond.code ny_FB_put nb_FB_put 4 (some .int) ∈ wl := wl_t1 99 rfl rfl
theorem nd_FB_put_0 : decode nb_FB_put 0 = .ok (.aload_n 0, 1) := by decide +kernel
theorem nd_FB_put_1 : decode nb_FB_put 1 = .ok (.invokevirtual 39, 3) := by decide +kernel
theorem nd_FB_put_4 : decode nb_FB_put 4 = .ok (.aload_n 0, 1) := by decide +kernel
theorem nd_FB_put_5 : decode nb_FB_put 5 = .ok (.iload_n 1, 1) := by decide +kernel
theorem nd_FB_put_6 : decode nb_FB_put 6 = .ok (.invokevirtual 42, 3) := by decide +kernel
theorem nd_FB_put_9 : decode nb_FB_put 9 = .ok (.ifCond .ne 13, 3) := by decide +kernel
theorem nd_FB_put_12 : decode nb_FB_put 12 = .ok (.new 46, 3) := by decide +kernel
theorem nd_FB_put_15 : decode nb_FB_put 15 = .ok (.dup, 1) := by decide +kernel
theorem nd_FB_put_16 : decode nb_FB_put 16 = .ok (.ldc 48, 2) := by decide +kernel
theorem nd_FB_put_18 : decode nb_FB_put 18 = .ok (.invokespecial 50, 3) := by decide +kernel
theorem nd_FB_put_21 : decode nb_FB_put 21 = .ok (.athrow, 1) := by decide +kernel
theorem nd_FB_put_22 : decode nb_FB_put 22 = .ok (.aload_n 0, 1) := by decide +kernel
theorem nd_FB_put_23 : decode nb_FB_put 23 = .ok (.getfield 10, 3) := by decide +kernel
theorem nd_FB_put_26 : decode nb_FB_put 26 = .ok (.aload_n 0, 1) := by decide +kernel
theorem nd_FB_put_27 : decode nb_FB_put 27 = .ok (.getfield 16, 3) := by decide +kernel
theorem nd_FB_put_30 : decode nb_FB_put 30 = .ok (.iconst 0, 1) := by decide +kernel
theorem nd_FB_put_31 : decode nb_FB_put 31 = .ok (.iaload, 1) := by decide +kernel
theorem nd_FB_put_32 : decode nb_FB_put 32 = .ok (.iload_n 1, 1) := by decide +kernel
theorem nd_FB_put_33 : decode nb_FB_put 33 = .ok (.invokevirtual 53, 3) := by decide +kernel
theorem nd_FB_put_36 : decode nb_FB_put 36 = .ok (.istore_n 3, 1) := by decide +kernel
theorem nd_FB_put_37 : decode nb_FB_put 37 = .ok (.iload_n 3, 1) := by decide +kernel
theorem nd_FB_put_38 : decode nb_FB_put 38 = .ok (.ifCond .eq 23, 3) := by decide +kernel
theorem nd_FB_put_41 : decode nb_FB_put 41 = .ok (.aload_n 0, 1) := by decide +kernel
theorem nd_FB_put_42 : decode nb_FB_put 42 = .ok (.getfield 10, 3) := by decide +kernel
theorem nd_FB_put_45 : decode nb_FB_put 45 = .ok (.aload_n 0, 1) := by decide +kernel
theorem nd_FB_put_46 : decode nb_FB_put 46 = .ok (.getfield 16, 3) := by decide +kernel
theorem nd_FB_put_49 : decode nb_FB_put 49 = .ok (.iconst 0, 1) := by decide +kernel
theorem nd_FB_put_50 : decode nb_FB_put 50 = .ok (.iaload, 1) := by decide +kernel
theorem nd_FB_put_51 : decode nb_FB_put 51 = .ok (.iload_n 1, 1) := by decide +kernel
theorem nd_FB_put_52 : decode nb_FB_put 52 = .ok (.invokevirtual 57, 3) := by decide +kernel
theorem nd_FB_put_55 : decode nb_FB_put 55 = .ok (.iload_n 2, 1) := by decide +kernel
theorem nd_FB_put_56 : decode nb_FB_put 56 = .ok (.if_icmp .ne 5, 3) := by decide +kernel
theorem nd_FB_put_59 : decode nb_FB_put 59 = .ok (.iconst 2, 1) := by decide +kernel
theorem nd_FB_put_60 : decode nb_FB_put 60 = .ok (.ireturn, 1) := by decide +kernel
theorem nd_FB_put_61 : decode nb_FB_put 61 = .ok (.aload_n 0, 1) := by decide +kernel
theorem nd_FB_put_62 : decode nb_FB_put 62 = .ok (.iload_n 1, 1) := by decide +kernel
theorem nd_FB_put_63 : decode nb_FB_put 63 = .ok (.iconst 3, 1) := by decide +kernel
theorem nd_FB_put_64 : decode nb_FB_put 64 = .ok (.invokevirtual 61, 3) := by decide +kernel
theorem nd_FB_put_67 : decode nb_FB_put 67 = .ok (.aload_n 0, 1) := by decide +kernel
theorem nd_FB_put_68 : decode nb_FB_put 68 = .ok (.getfield 10, 3) := by decide +kernel
theorem nd_FB_put_71 : decode nb_FB_put 71 = .ok (.aload_n 0, 1) := by decide +kernel
theorem nd_FB_put_72 : decode nb_FB_put 72 = .ok (.getfield 16, 3) := by decide +kernel
theorem nd_FB_put_75 : decode nb_FB_put 75 = .ok (.iconst 0, 1) := by decide +kernel
theorem nd_FB_put_76 : decode nb_FB_put 76 = .ok (.iaload, 1) := by decide +kernel
theorem nd_FB_put_77 : decode nb_FB_put 77 = .ok (.iload_n 1, 1) := by decide +kernel
theorem nd_FB_put_78 : decode nb_FB_put 78 = .ok (.iload_n 2, 1) := by decide +kernel
theorem nd_FB_put_79 : decode nb_FB_put 79 = .ok (.invokevirtual 65, 3) := by decide +kernel
theorem nd_FB_put_82 : decode nb_FB_put 82 = .ok (.iload_n 3, 1) := by decide +kernel
theorem nd_FB_put_83 : decode nb_FB_put 83 = .ok (.ifCond .eq 7, 3) := by decide +kernel
theorem nd_FB_put_86 : decode nb_FB_put 86 = .ok (.iconst 1, 1) := by decide +kernel
theorem nd_FB_put_87 : decode nb_FB_put 87 = .ok (.goto 4, 3) := by decide +kernel
theorem nd_FB_put_90 : decode nb_FB_put 90 = .ok (.iconst 0, 1) := by decide +kernel
theorem nd_FB_put_91 : decode nb_FB_put 91 = .ok (.ireturn, 1) := by decide +kernel
abbrev nb_FB_remove : ByteArray := prog_1_method_3_code
def ny_FB_remove : MethodName := ⟨nr_FB, "remove", "(I)I"⟩
theorem nc_FB_remove : Cond.code ny_FB_remove nb_FB_remove 4 (some .int) ∈ wl := wl_t2 39 rfl rfl
theorem nd_FB_remove_0 : decode nb_FB_remove 0 = .ok (.aload_n 0, 1) := by decide +kernel
theorem nd_FB_remove_1 : decode nb_FB_remove 1 = .ok (.invokevirtual 39, 3) := by decide +kernel
theorem nd_FB_remove_4 : decode nb_FB_remove 4 = .ok (.aload_n 0, 1) := by decide +kernel
theorem nd_FB_remove_5 : decode nb_FB_remove 5 = .ok (.aload_n 0, 1) := by decide +kernel
theorem nd_FB_remove_6 : decode nb_FB_remove 6 = .ok (.getfield 16, 3) := by decide +kernel
theorem nd_FB_remove_9 : decode nb_FB_remove 9 = .ok (.iconst 0, 1) := by decide +kernel
theorem nd_FB_remove_10 : decode nb_FB_remove 10 = .ok (.iaload, 1) := by decide +kernel
theorem nd_FB_remove_11 : decode nb_FB_remove 11 = .ok (.iload_n 1, 1) := by decide +kernel
theorem nd_FB_remove_12 : decode nb_FB_remove 12 = .ok (.invokevirtual 69, 3) := by decide +kernel
theorem nd_FB_remove_15 : decode nb_FB_remove 15 = .ok (.aload_n 0, 1) := by decide +kernel
theorem nd_FB_remove_16 : decode nb_FB_remove 16 = .ok (.getfield 10, 3) := by decide +kernel
theorem nd_FB_remove_19 : decode nb_FB_remove 19 = .ok (.aload_n 0, 1) := by decide +kernel
theorem nd_FB_remove_20 : decode nb_FB_remove 20 = .ok (.getfield 16, 3) := by decide +kernel
theorem nd_FB_remove_23 : decode nb_FB_remove 23 = .ok (.iconst 0, 1) := by decide +kernel
theorem nd_FB_remove_24 : decode nb_FB_remove 24 = .ok (.iaload, 1) := by decide +kernel
theorem nd_FB_remove_25 : decode nb_FB_remove 25 = .ok (.iload_n 1, 1) := by decide +kernel
theorem nd_FB_remove_26 : decode nb_FB_remove 26 = .ok (.invokevirtual 57, 3) := by decide +kernel
theorem nd_FB_remove_29 : decode nb_FB_remove 29 = .ok (.istore_n 2, 1) := by decide +kernel
theorem nd_FB_remove_30 : decode nb_FB_remove 30 = .ok (.aload_n 0, 1) := by decide +kernel
theorem nd_FB_remove_31 : decode nb_FB_remove 31 = .ok (.getfield 10, 3) := by decide +kernel
theorem nd_FB_remove_34 : decode nb_FB_remove 34 = .ok (.aload_n 0, 1) := by decide +kernel
theorem nd_FB_remove_35 : decode nb_FB_remove 35 = .ok (.getfield 16, 3) := by decide +kernel
theorem nd_FB_remove_38 : decode nb_FB_remove 38 = .ok (.iconst 0, 1) := by decide +kernel
theorem nd_FB_remove_39 : decode nb_FB_remove 39 = .ok (.iaload, 1) := by decide +kernel
theorem nd_FB_remove_40 : decode nb_FB_remove 40 = .ok (.iload_n 1, 1) := by decide +kernel
theorem nd_FB_remove_41 : decode nb_FB_remove 41 = .ok (.invokevirtual 72, 3) := by decide +kernel
theorem nd_FB_remove_44 : decode nb_FB_remove 44 = .ok (.istore_n 3, 1) := by decide +kernel
theorem nd_FB_remove_45 : decode nb_FB_remove 45 = .ok (.aload_n 0, 1) := by decide +kernel
theorem nd_FB_remove_46 : decode nb_FB_remove 46 = .ok (.iload_n 1, 1) := by decide +kernel
theorem nd_FB_remove_47 : decode nb_FB_remove 47 = .ok (.iload_n 3, 1) := by decide +kernel
theorem nd_FB_remove_48 : decode nb_FB_remove 48 = .ok (.invokevirtual 61, 3) := by decide +kernel
theorem nd_FB_remove_51 : decode nb_FB_remove 51 = .ok (.aload_n 0, 1) := by decide +kernel
theorem nd_FB_remove_52 : decode nb_FB_remove 52 = .ok (.getfield 10, 3) := by decide +kernel
theorem nd_FB_remove_55 : decode nb_FB_remove 55 = .ok (.aload_n 0, 1) := by decide +kernel
theorem nd_FB_remove_56 : decode nb_FB_remove 56 = .ok (.getfield 16, 3) := by decide +kernel
theorem nd_FB_remove_59 : decode nb_FB_remove 59 = .ok (.iconst 0, 1) := by decide +kernel
theorem nd_FB_remove_60 : decode nb_FB_remove 60 = .ok (.iaload, 1) := by decide +kernel
theorem nd_FB_remove_61 : decode nb_FB_remove 61 = .ok (.iload_n 1, 1) := by decide +kernel
theorem nd_FB_remove_62 : decode nb_FB_remove 62 = .ok (.iload_n 3, 1) := by decide +kernel
theorem nd_FB_remove_63 : decode nb_FB_remove 63 = .ok (.invokevirtual 75, 3) := by decide +kernel
theorem nd_FB_remove_66 : decode nb_FB_remove 66 = .ok (.iload_n 2, 1) := by decide +kernel
theorem nd_FB_remove_67 : decode nb_FB_remove 67 = .ok (.ireturn, 1) := by decide +kernel
abbrev nb_FB_get : ByteArray := prog_1_method_4_code
def ny_FB_get : MethodName := ⟨nr_FB, "get", "(II)I"⟩
theorem nc_FB_get : Cond.code ny_FB_get nb_FB_get 3 (some .int) ∈ wl := wl_t2 78 rfl rfl
theorem nd_FB_get_0 : decode nb_FB_get 0 = .ok (.aload_n 0, 1) := by decide +kernel
theorem nd_FB_get_1 : decode nb_FB_get 1 = .ok (.invokevirtual 39, 3) := by decide +kernel
theorem nd_FB_get_4 : decode nb_FB_get 4 = .ok (.aload_n 0, 1) := by decide +kernel
theorem nd_FB_get_5 : decode nb_FB_get 5 = .ok (.iload_n 1, 1) := by decide +kernel
theorem nd_FB_get_6 : decode nb_FB_get 6 = .ok (.invokevirtual 78, 3) := by decide +kernel
theorem nd_FB_get_9 : decode nb_FB_get 9 = .ok (.aload_n 0, 1) := by decide +kernel
theorem nd_FB_get_10 : decode nb_FB_get 10 = .ok (.aload_n 0, 1) := by decide +kernel
theorem nd_FB_get_11 : decode nb_FB_get 11 = .ok (.getfield 16, 3) := by decide +kernel
theorem nd_FB_get_14 : decode nb_FB_get 14 = .ok (.iload_n 1, 1) := by decide +kernel
theorem nd_FB_get_15 : decode nb_FB_get 15 = .ok (.iaload, 1) := by decide +kernel
theorem nd_FB_get_16 : decode nb_FB_get 16 = .ok (.iload_n 2, 1) := by decide +kernel
theorem nd_FB_get_17 : decode nb_FB_get 17 = .ok (.invokevirtual 69, 3) := by decide +kernel
theorem nd_FB_get_20 : decode nb_FB_get 20 = .ok (.aload_n 0, 1) := by decide +kernel
theorem nd_FB_get_21 : decode nb_FB_get 21 = .ok (.getfield 10, 3) := by decide +kernel
theorem nd_FB_get_24 : decode nb_FB_get 24 = .ok (.aload_n 0, 1) := by decide +kernel
theorem nd_FB_get_25 : decode nb_FB_get 25 = .ok (.getfield 16, 3) := by decide +kernel
theorem nd_FB_get_28 : decode nb_FB_get 28 = .ok (.iload_n 1, 1) := by decide +kernel
theorem nd_FB_get_29 : decode nb_FB_get 29 = .ok (.iaload, 1) := by decide +kernel
theorem nd_FB_get_30 : decode nb_FB_get 30 = .ok (.iload_n 2, 1) := by decide +kernel
theorem nd_FB_get_31 : decode nb_FB_get 31 = .ok (.invokevirtual 57, 3) := by decide +kernel
theorem nd_FB_get_34 : decode nb_FB_get 34 = .ok (.ireturn, 1) := by decide +kernel
abbrev nb_FB_next : ByteArray := prog_1_method_5_code
def ny_FB_next : MethodName := ⟨nr_FB, "next", "(II)I"⟩
theorem nc_FB_next : Cond.code ny_FB_next nb_FB_next 4 (some .int) ∈ wl := wl_t2 94 rfl rfl
theorem nd_FB_next_0 : decode nb_FB_next 0 = .ok (.aload_n 0, 1) := by decide +kernel
theorem nd_FB_next_1 : decode nb_FB_next 1 = .ok (.invokevirtual 39, 3) := by decide +kernel
theorem nd_FB_next_4 : decode nb_FB_next 4 = .ok (.aload_n 0, 1) := by decide +kernel
theorem nd_FB_next_5 : decode nb_FB_next 5 = .ok (.iload_n 1, 1) := by decide +kernel
theorem nd_FB_next_6 : decode nb_FB_next 6 = .ok (.invokevirtual 78, 3) := by decide +kernel
theorem nd_FB_next_9 : decode nb_FB_next 9 = .ok (.iload_n 2, 1) := by decide +kernel
theorem nd_FB_next_10 : decode nb_FB_next 10 = .ok (.iconst 0, 1) := by decide +kernel
theorem nd_FB_next_11 : decode nb_FB_next 11 = .ok (.invokestatic 82, 3) := by decide +kernel
theorem nd_FB_next_14 : decode nb_FB_next 14 = .ok (.istore_n 3, 1) := by decide +kernel
theorem nd_FB_next_15 : decode nb_FB_next 15 = .ok (.iload_n 3, 1) := by decide +kernel
theorem nd_FB_next_16 : decode nb_FB_next 16 = .ok (.bipush 64, 2) := by decide +kernel
theorem nd_FB_next_18 : decode nb_FB_next 18 = .ok (.if_icmp .ge 28, 3) := by decide +kernel
theorem nd_FB_next_21 : decode nb_FB_next 21 = .ok (.aload_n 0, 1) := by decide +kernel
theorem nd_FB_next_22 : decode nb_FB_next 22 = .ok (.getfield 10, 3) := by decide +kernel
theorem nd_FB_next_25 : decode nb_FB_next 25 = .ok (.aload_n 0, 1) := by decide +kernel
theorem nd_FB_next_26 : decode nb_FB_next 26 = .ok (.getfield 16, 3) := by decide +kernel
theorem nd_FB_next_29 : decode nb_FB_next 29 = .ok (.iload_n 1, 1) := by decide +kernel
theorem nd_FB_next_30 : decode nb_FB_next 30 = .ok (.iaload, 1) := by decide +kernel
theorem nd_FB_next_31 : decode nb_FB_next 31 = .ok (.iload_n 3, 1) := by decide +kernel
theorem nd_FB_next_32 : decode nb_FB_next 32 = .ok (.invokevirtual 53, 3) := by decide +kernel
theorem nd_FB_next_35 : decode nb_FB_next 35 = .ok (.ifCond .eq 5, 3) := by decide +kernel
theorem nd_FB_next_38 : decode nb_FB_next 38 = .ok (.iload_n 3, 1) := by decide +kernel
theorem nd_FB_next_39 : decode nb_FB_next 39 = .ok (.ireturn, 1) := by decide +kernel
theorem nd_FB_next_40 : decode nb_FB_next 40 = .ok (.iinc 3 1, 3) := by decide +kernel
theorem nd_FB_next_43 : decode nb_FB_next 43 = .ok (.goto (-28), 3) := by decide +kernel
theorem nd_FB_next_46 : decode nb_FB_next 46 = .ok (.iconst (-1), 1) := by decide +kernel
theorem nd_FB_next_47 : decode nb_FB_next 47 = .ok (.ireturn, 1) := by decide +kernel
abbrev nb_FB_count : ByteArray := prog_1_method_6_code
def ny_FB_count : MethodName := ⟨nr_FB, "count", "(I)I"⟩
theorem nc_FB_count : Cond.code ny_FB_count nb_FB_count 2 (some .int) ∈ wl := wl_t2 104 rfl rfl
theorem nd_FB_count_0 : decode nb_FB_count 0 = .ok (.aload_n 0, 1) := by decide +kernel
theorem nd_FB_count_1 : decode nb_FB_count 1 = .ok (.invokevirtual 39, 3) := by decide +kernel
theorem nd_FB_count_4 : decode nb_FB_count 4 = .ok (.aload_n 0, 1) := by decide +kernel
theorem nd_FB_count_5 : decode nb_FB_count 5 = .ok (.iload_n 1, 1) := by decide +kernel
theorem nd_FB_count_6 : decode nb_FB_count 6 = .ok (.invokevirtual 78, 3) := by decide +kernel
theorem nd_FB_count_9 : decode nb_FB_count 9 = .ok (.aload_n 0, 1) := by decide +kernel
theorem nd_FB_count_10 : decode nb_FB_count 10 = .ok (.aload_n 0, 1) := by decide +kernel
theorem nd_FB_count_11 : decode nb_FB_count 11 = .ok (.getfield 16, 3) := by decide +kernel
theorem nd_FB_count_14 : decode nb_FB_count 14 = .ok (.iload_n 1, 1) := by decide +kernel
theorem nd_FB_count_15 : decode nb_FB_count 15 = .ok (.iaload, 1) := by decide +kernel
theorem nd_FB_count_16 : decode nb_FB_count 16 = .ok (.invokevirtual 87, 3) := by decide +kernel
theorem nd_FB_count_19 : decode nb_FB_count 19 = .ok (.ireturn, 1) := by decide +kernel
abbrev nb_FB_nodes : ByteArray := prog_1_method_7_code
def ny_FB_nodes : MethodName := ⟨nr_FB, "nodes", "(I)I"⟩
theorem nc_FB_nodes : Cond.code ny_FB_nodes nb_FB_nodes 2 (some .int) ∈ wl := wl_t2 115 rfl rfl
theorem nd_FB_nodes_0 : decode nb_FB_nodes 0 = .ok (.aload_n 0, 1) := by decide +kernel
theorem nd_FB_nodes_1 : decode nb_FB_nodes 1 = .ok (.invokevirtual 39, 3) := by decide +kernel
theorem nd_FB_nodes_4 : decode nb_FB_nodes 4 = .ok (.aload_n 0, 1) := by decide +kernel
theorem nd_FB_nodes_5 : decode nb_FB_nodes 5 = .ok (.iload_n 1, 1) := by decide +kernel
theorem nd_FB_nodes_6 : decode nb_FB_nodes 6 = .ok (.invokevirtual 78, 3) := by decide +kernel
theorem nd_FB_nodes_9 : decode nb_FB_nodes 9 = .ok (.aload_n 0, 1) := by decide +kernel
theorem nd_FB_nodes_10 : decode nb_FB_nodes 10 = .ok (.getfield 10, 3) := by decide +kernel
theorem nd_FB_nodes_13 : decode nb_FB_nodes 13 = .ok (.invokevirtual 91, 3) := by decide +kernel
theorem nd_FB_nodes_16 : decode nb_FB_nodes 16 = .ok (.aload_n 0, 1) := by decide +kernel
theorem nd_FB_nodes_17 : decode nb_FB_nodes 17 = .ok (.getfield 10, 3) := by decide +kernel
theorem nd_FB_nodes_20 : decode nb_FB_nodes 20 = .ok (.aload_n 0, 1) := by decide +kernel
theorem nd_FB_nodes_21 : decode nb_FB_nodes 21 = .ok (.getfield 16, 3) := by decide +kernel
theorem nd_FB_nodes_24 : decode nb_FB_nodes 24 = .ok (.iload_n 1, 1) := by decide +kernel
theorem nd_FB_nodes_25 : decode nb_FB_nodes 25 = .ok (.iaload, 1) := by decide +kernel
theorem nd_FB_nodes_26 : decode nb_FB_nodes 26 = .ok (.invokevirtual 94, 3) := by decide +kernel
theorem nd_FB_nodes_29 : decode nb_FB_nodes 29 = .ok (.ireturn, 1) := by decide +kernel
abbrev nb_FB_shared : ByteArray := prog_1_method_8_code
def ny_FB_shared : MethodName := ⟨nr_FB, "shared", "(II)I"⟩
theorem nc_FB_shared : Cond.code ny_FB_shared nb_FB_shared 5 (some .int) ∈ wl := wl_t2 122 rfl rfl
theorem nd_FB_shared_0 : decode nb_FB_shared 0 = .ok (.aload_n 0, 1) := by decide +kernel
theorem nd_FB_shared_1 : decode nb_FB_shared 1 = .ok (.invokevirtual 39, 3) := by decide +kernel
theorem nd_FB_shared_4 : decode nb_FB_shared 4 = .ok (.aload_n 0, 1) := by decide +kernel
theorem nd_FB_shared_5 : decode nb_FB_shared 5 = .ok (.iload_n 1, 1) := by decide +kernel
theorem nd_FB_shared_6 : decode nb_FB_shared 6 = .ok (.invokevirtual 78, 3) := by decide +kernel
theorem nd_FB_shared_9 : decode nb_FB_shared 9 = .ok (.aload_n 0, 1) := by decide +kernel
theorem nd_FB_shared_10 : decode nb_FB_shared 10 = .ok (.iload_n 2, 1) := by decide +kernel
theorem nd_FB_shared_11 : decode nb_FB_shared 11 = .ok (.invokevirtual 78, 3) := by decide +kernel
theorem nd_FB_shared_14 : decode nb_FB_shared 14 = .ok (.aload_n 0, 1) := by decide +kernel
theorem nd_FB_shared_15 : decode nb_FB_shared 15 = .ok (.getfield 10, 3) := by decide +kernel
theorem nd_FB_shared_18 : decode nb_FB_shared 18 = .ok (.invokevirtual 91, 3) := by decide +kernel
theorem nd_FB_shared_21 : decode nb_FB_shared 21 = .ok (.aload_n 0, 1) := by decide +kernel
theorem nd_FB_shared_22 : decode nb_FB_shared 22 = .ok (.getfield 10, 3) := by decide +kernel
theorem nd_FB_shared_25 : decode nb_FB_shared 25 = .ok (.aload_n 0, 1) := by decide +kernel
theorem nd_FB_shared_26 : decode nb_FB_shared 26 = .ok (.getfield 16, 3) := by decide +kernel
theorem nd_FB_shared_29 : decode nb_FB_shared 29 = .ok (.iload_n 2, 1) := by decide +kernel
theorem nd_FB_shared_30 : decode nb_FB_shared 30 = .ok (.iaload, 1) := by decide +kernel
theorem nd_FB_shared_31 : decode nb_FB_shared 31 = .ok (.invokevirtual 94, 3) := by decide +kernel
theorem nd_FB_shared_34 : decode nb_FB_shared 34 = .ok (.istore_n 3, 1) := by decide +kernel
theorem nd_FB_shared_35 : decode nb_FB_shared 35 = .ok (.aload_n 0, 1) := by decide +kernel
theorem nd_FB_shared_36 : decode nb_FB_shared 36 = .ok (.getfield 10, 3) := by decide +kernel
theorem nd_FB_shared_39 : decode nb_FB_shared 39 = .ok (.invokevirtual 91, 3) := by decide +kernel
theorem nd_FB_shared_42 : decode nb_FB_shared 42 = .ok (.aload_n 0, 1) := by decide +kernel
theorem nd_FB_shared_43 : decode nb_FB_shared 43 = .ok (.getfield 10, 3) := by decide +kernel
theorem nd_FB_shared_46 : decode nb_FB_shared 46 = .ok (.aload_n 0, 1) := by decide +kernel
theorem nd_FB_shared_47 : decode nb_FB_shared 47 = .ok (.getfield 16, 3) := by decide +kernel
theorem nd_FB_shared_50 : decode nb_FB_shared 50 = .ok (.iload_n 1, 1) := by decide +kernel
theorem nd_FB_shared_51 : decode nb_FB_shared 51 = .ok (.iaload, 1) := by decide +kernel
theorem nd_FB_shared_52 : decode nb_FB_shared 52 = .ok (.invokevirtual 94, 3) := by decide +kernel
theorem nd_FB_shared_55 : decode nb_FB_shared 55 = .ok (.pop, 1) := by decide +kernel
theorem nd_FB_shared_56 : decode nb_FB_shared 56 = .ok (.aload_n 0, 1) := by decide +kernel
theorem nd_FB_shared_57 : decode nb_FB_shared 57 = .ok (.getfield 10, 3) := by decide +kernel
theorem nd_FB_shared_60 : decode nb_FB_shared 60 = .ok (.aload_n 0, 1) := by decide +kernel
theorem nd_FB_shared_61 : decode nb_FB_shared 61 = .ok (.getfield 16, 3) := by decide +kernel
theorem nd_FB_shared_64 : decode nb_FB_shared 64 = .ok (.iload_n 2, 1) := by decide +kernel
theorem nd_FB_shared_65 : decode nb_FB_shared 65 = .ok (.iaload, 1) := by decide +kernel
theorem nd_FB_shared_66 : decode nb_FB_shared 66 = .ok (.invokevirtual 94, 3) := by decide +kernel
theorem nd_FB_shared_69 : decode nb_FB_shared 69 = .ok (.istore 4, 2) := by decide +kernel
theorem nd_FB_shared_71 : decode nb_FB_shared 71 = .ok (.iload_n 3, 1) := by decide +kernel
theorem nd_FB_shared_72 : decode nb_FB_shared 72 = .ok (.iload 4, 2) := by decide +kernel
theorem nd_FB_shared_74 : decode nb_FB_shared 74 = .ok (.isub, 1) := by decide +kernel
theorem nd_FB_shared_75 : decode nb_FB_shared 75 = .ok (.ireturn, 1) := by decide +kernel
abbrev nb_FB_differ : ByteArray := prog_1_method_9_code
def ny_FB_differ : MethodName := ⟨nr_FB, "differ", "(II)I"⟩
theorem nc_FB_differ : Cond.code ny_FB_differ nb_FB_differ 5 (some .int) ∈ wl := wl_t2 129 rfl rfl
theorem nd_FB_differ_0 : decode nb_FB_differ 0 = .ok (.aload_n 0, 1) := by decide +kernel
theorem nd_FB_differ_1 : decode nb_FB_differ 1 = .ok (.invokevirtual 39, 3) := by decide +kernel
theorem nd_FB_differ_4 : decode nb_FB_differ 4 = .ok (.aload_n 0, 1) := by decide +kernel
theorem nd_FB_differ_5 : decode nb_FB_differ 5 = .ok (.iload_n 1, 1) := by decide +kernel
theorem nd_FB_differ_6 : decode nb_FB_differ 6 = .ok (.invokevirtual 78, 3) := by decide +kernel
theorem nd_FB_differ_9 : decode nb_FB_differ 9 = .ok (.aload_n 0, 1) := by decide +kernel
theorem nd_FB_differ_10 : decode nb_FB_differ 10 = .ok (.iload_n 2, 1) := by decide +kernel
theorem nd_FB_differ_11 : decode nb_FB_differ 11 = .ok (.invokevirtual 78, 3) := by decide +kernel
theorem nd_FB_differ_14 : decode nb_FB_differ 14 = .ok (.iconst 0, 1) := by decide +kernel
theorem nd_FB_differ_15 : decode nb_FB_differ 15 = .ok (.istore_n 3, 1) := by decide +kernel
theorem nd_FB_differ_16 : decode nb_FB_differ 16 = .ok (.iconst 0, 1) := by decide +kernel
theorem nd_FB_differ_17 : decode nb_FB_differ 17 = .ok (.istore 4, 2) := by decide +kernel
theorem nd_FB_differ_19 : decode nb_FB_differ 19 = .ok (.iload 4, 2) := by decide +kernel
theorem nd_FB_differ_21 : decode nb_FB_differ 21 = .ok (.bipush 64, 2) := by decide +kernel
theorem nd_FB_differ_23 : decode nb_FB_differ 23 = .ok (.if_icmp .ge 33, 3) := by decide +kernel
theorem nd_FB_differ_26 : decode nb_FB_differ 26 = .ok (.aload_n 0, 1) := by decide +kernel
theorem nd_FB_differ_27 : decode nb_FB_differ 27 = .ok (.aload_n 0, 1) := by decide +kernel
theorem nd_FB_differ_28 : decode nb_FB_differ 28 = .ok (.getfield 16, 3) := by decide +kernel
theorem nd_FB_differ_31 : decode nb_FB_differ 31 = .ok (.iload_n 1, 1) := by decide +kernel
theorem nd_FB_differ_32 : decode nb_FB_differ 32 = .ok (.iaload, 1) := by decide +kernel
theorem nd_FB_differ_33 : decode nb_FB_differ 33 = .ok (.aload_n 0, 1) := by decide +kernel
theorem nd_FB_differ_34 : decode nb_FB_differ 34 = .ok (.getfield 16, 3) := by decide +kernel
theorem nd_FB_differ_37 : decode nb_FB_differ 37 = .ok (.iload_n 2, 1) := by decide +kernel
theorem nd_FB_differ_38 : decode nb_FB_differ 38 = .ok (.iaload, 1) := by decide +kernel
theorem nd_FB_differ_39 : decode nb_FB_differ 39 = .ok (.iload 4, 2) := by decide +kernel
theorem nd_FB_differ_41 : decode nb_FB_differ 41 = .ok (.invokevirtual 97, 3) := by decide +kernel
theorem nd_FB_differ_44 : decode nb_FB_differ 44 = .ok (.ifCond .ne 6, 3) := by decide +kernel
theorem nd_FB_differ_47 : decode nb_FB_differ 47 = .ok (.iinc 3 1, 3) := by decide +kernel
theorem nd_FB_differ_50 : decode nb_FB_differ 50 = .ok (.iinc 4 1, 3) := by decide +kernel
theorem nd_FB_differ_53 : decode nb_FB_differ 53 = .ok (.goto (-34), 3) := by decide +kernel
theorem nd_FB_differ_56 : decode nb_FB_differ 56 = .ok (.iload_n 3, 1) := by decide +kernel
theorem nd_FB_differ_57 : decode nb_FB_differ 57 = .ok (.ireturn, 1) := by decide +kernel
abbrev nb_FB_snapshot : ByteArray := prog_1_method_10_code
def ny_FB_snapshot : MethodName := ⟨nr_FB, "snapshot", "()I"⟩
theorem nc_FB_snapshot : Cond.code ny_FB_snapshot nb_FB_snapshot 2 (some .int) ∈ wl := wl_t2 140 rfl rfl
theorem nd_FB_snapshot_0 : decode nb_FB_snapshot 0 = .ok (.aload_n 0, 1) := by decide +kernel
theorem nd_FB_snapshot_1 : decode nb_FB_snapshot 1 = .ok (.invokevirtual 39, 3) := by decide +kernel
theorem nd_FB_snapshot_4 : decode nb_FB_snapshot 4 = .ok (.aload_n 0, 1) := by decide +kernel
theorem nd_FB_snapshot_5 : decode nb_FB_snapshot 5 = .ok (.invokevirtual 101, 3) := by decide +kernel
theorem nd_FB_snapshot_8 : decode nb_FB_snapshot 8 = .ok (.istore_n 1, 1) := by decide +kernel
theorem nd_FB_snapshot_9 : decode nb_FB_snapshot 9 = .ok (.iload_n 1, 1) := by decide +kernel
theorem nd_FB_snapshot_10 : decode nb_FB_snapshot 10 = .ok (.iconst (-1), 1) := by decide +kernel
theorem nd_FB_snapshot_11 : decode nb_FB_snapshot 11 = .ok (.if_icmp .ne 13, 3) := by decide +kernel
theorem nd_FB_snapshot_14 : decode nb_FB_snapshot 14 = .ok (.new 105, 3) := by decide +kernel
theorem nd_FB_snapshot_17 : decode nb_FB_snapshot 17 = .ok (.dup, 1) := by decide +kernel
theorem nd_FB_snapshot_18 : decode nb_FB_snapshot 18 = .ok (.ldc 107, 2) := by decide +kernel
theorem nd_FB_snapshot_20 : decode nb_FB_snapshot 20 = .ok (.invokespecial 109, 3) := by decide +kernel
theorem nd_FB_snapshot_23 : decode nb_FB_snapshot 23 = .ok (.athrow, 1) := by decide +kernel
theorem nd_FB_snapshot_24 : decode nb_FB_snapshot 24 = .ok (.aload_n 0, 1) := by decide +kernel
theorem nd_FB_snapshot_25 : decode nb_FB_snapshot 25 = .ok (.getfield 16, 3) := by decide +kernel
theorem nd_FB_snapshot_28 : decode nb_FB_snapshot 28 = .ok (.iload_n 1, 1) := by decide +kernel
theorem nd_FB_snapshot_29 : decode nb_FB_snapshot 29 = .ok (.aload_n 0, 1) := by decide +kernel
theorem nd_FB_snapshot_30 : decode nb_FB_snapshot 30 = .ok (.getfield 16, 3) := by decide +kernel
theorem nd_FB_snapshot_33 : decode nb_FB_snapshot 33 = .ok (.iconst 0, 1) := by decide +kernel
theorem nd_FB_snapshot_34 : decode nb_FB_snapshot 34 = .ok (.iaload, 1) := by decide +kernel
theorem nd_FB_snapshot_35 : decode nb_FB_snapshot 35 = .ok (.iastore, 1) := by decide +kernel
theorem nd_FB_snapshot_36 : decode nb_FB_snapshot 36 = .ok (.aload_n 0, 1) := by decide +kernel
theorem nd_FB_snapshot_37 : decode nb_FB_snapshot 37 = .ok (.getfield 10, 3) := by decide +kernel
theorem nd_FB_snapshot_40 : decode nb_FB_snapshot 40 = .ok (.invokevirtual 110, 3) := by decide +kernel
theorem nd_FB_snapshot_43 : decode nb_FB_snapshot 43 = .ok (.iload_n 1, 1) := by decide +kernel
theorem nd_FB_snapshot_44 : decode nb_FB_snapshot 44 = .ok (.ireturn, 1) := by decide +kernel
abbrev nb_FB_rollback : ByteArray := prog_1_method_11_code
def ny_FB_rollback : MethodName := ⟨nr_FB, "rollback", "(I)I"⟩
theorem nc_FB_rollback : Cond.code ny_FB_rollback nb_FB_rollback 2 (some .int) ∈ wl := wl_t2 156 rfl rfl
theorem nd_FB_rollback_0 : decode nb_FB_rollback 0 = .ok (.aload_n 0, 1) := by decide +kernel
theorem nd_FB_rollback_1 : decode nb_FB_rollback 1 = .ok (.invokevirtual 39, 3) := by decide +kernel
theorem nd_FB_rollback_4 : decode nb_FB_rollback 4 = .ok (.aload_n 0, 1) := by decide +kernel
theorem nd_FB_rollback_5 : decode nb_FB_rollback 5 = .ok (.iload_n 1, 1) := by decide +kernel
theorem nd_FB_rollback_6 : decode nb_FB_rollback 6 = .ok (.invokevirtual 113, 3) := by decide +kernel
theorem nd_FB_rollback_9 : decode nb_FB_rollback 9 = .ok (.aload_n 0, 1) := by decide +kernel
theorem nd_FB_rollback_10 : decode nb_FB_rollback 10 = .ok (.getfield 16, 3) := by decide +kernel
theorem nd_FB_rollback_13 : decode nb_FB_rollback 13 = .ok (.iconst 0, 1) := by decide +kernel
theorem nd_FB_rollback_14 : decode nb_FB_rollback 14 = .ok (.aload_n 0, 1) := by decide +kernel
theorem nd_FB_rollback_15 : decode nb_FB_rollback 15 = .ok (.getfield 16, 3) := by decide +kernel
theorem nd_FB_rollback_18 : decode nb_FB_rollback 18 = .ok (.iload_n 1, 1) := by decide +kernel
theorem nd_FB_rollback_19 : decode nb_FB_rollback 19 = .ok (.iaload, 1) := by decide +kernel
theorem nd_FB_rollback_20 : decode nb_FB_rollback 20 = .ok (.iastore, 1) := by decide +kernel
theorem nd_FB_rollback_21 : decode nb_FB_rollback 21 = .ok (.aload_n 0, 1) := by decide +kernel
theorem nd_FB_rollback_22 : decode nb_FB_rollback 22 = .ok (.aload_n 0, 1) := by decide +kernel
theorem nd_FB_rollback_23 : decode nb_FB_rollback 23 = .ok (.getfield 16, 3) := by decide +kernel
theorem nd_FB_rollback_26 : decode nb_FB_rollback 26 = .ok (.iconst 0, 1) := by decide +kernel
theorem nd_FB_rollback_27 : decode nb_FB_rollback 27 = .ok (.iaload, 1) := by decide +kernel
theorem nd_FB_rollback_28 : decode nb_FB_rollback 28 = .ok (.invokevirtual 87, 3) := by decide +kernel
theorem nd_FB_rollback_31 : decode nb_FB_rollback 31 = .ok (.ireturn, 1) := by decide +kernel
abbrev nb_FB_drop : ByteArray := prog_1_method_12_code
def ny_FB_drop : MethodName := ⟨nr_FB, "drop", "(I)I"⟩
theorem nc_FB_drop : Cond.code ny_FB_drop nb_FB_drop 3 (some .int) ∈ wl := wl_t2 168 rfl rfl
theorem nd_FB_drop_0 : decode nb_FB_drop 0 = .ok (.aload_n 0, 1) := by decide +kernel
theorem nd_FB_drop_1 : decode nb_FB_drop 1 = .ok (.invokevirtual 39, 3) := by decide +kernel
theorem nd_FB_drop_4 : decode nb_FB_drop 4 = .ok (.aload_n 0, 1) := by decide +kernel
theorem nd_FB_drop_5 : decode nb_FB_drop 5 = .ok (.iload_n 1, 1) := by decide +kernel
theorem nd_FB_drop_6 : decode nb_FB_drop 6 = .ok (.invokevirtual 113, 3) := by decide +kernel
theorem nd_FB_drop_9 : decode nb_FB_drop 9 = .ok (.aload_n 0, 1) := by decide +kernel
theorem nd_FB_drop_10 : decode nb_FB_drop 10 = .ok (.invokevirtual 116, 3) := by decide +kernel
theorem nd_FB_drop_13 : decode nb_FB_drop 13 = .ok (.istore_n 2, 1) := by decide +kernel
theorem nd_FB_drop_14 : decode nb_FB_drop 14 = .ok (.aload_n 0, 1) := by decide +kernel
theorem nd_FB_drop_15 : decode nb_FB_drop 15 = .ok (.getfield 16, 3) := by decide +kernel
theorem nd_FB_drop_18 : decode nb_FB_drop 18 = .ok (.iload_n 1, 1) := by decide +kernel
theorem nd_FB_drop_19 : decode nb_FB_drop 19 = .ok (.iconst (-1), 1) := by decide +kernel
theorem nd_FB_drop_20 : decode nb_FB_drop 20 = .ok (.iastore, 1) := by decide +kernel
theorem nd_FB_drop_21 : decode nb_FB_drop 21 = .ok (.aload_n 0, 1) := by decide +kernel
theorem nd_FB_drop_22 : decode nb_FB_drop 22 = .ok (.invokevirtual 116, 3) := by decide +kernel
theorem nd_FB_drop_25 : decode nb_FB_drop 25 = .ok (.iload_n 2, 1) := by decide +kernel
theorem nd_FB_drop_26 : decode nb_FB_drop 26 = .ok (.isub, 1) := by decide +kernel
theorem nd_FB_drop_27 : decode nb_FB_drop 27 = .ok (.ireturn, 1) := by decide +kernel
abbrev nb_FB_commit : ByteArray := prog_1_method_13_code
def ny_FB_commit : MethodName := ⟨nr_FB, "commit", "()I"⟩
theorem nc_FB_commit : Cond.code ny_FB_commit nb_FB_commit 2 (some .int) ∈ wl := wl_t2 175 rfl rfl
theorem nd_FB_commit_0 : decode nb_FB_commit 0 = .ok (.aload_n 0, 1) := by decide +kernel
theorem nd_FB_commit_1 : decode nb_FB_commit 1 = .ok (.invokevirtual 39, 3) := by decide +kernel
theorem nd_FB_commit_4 : decode nb_FB_commit 4 = .ok (.aload_n 0, 1) := by decide +kernel
theorem nd_FB_commit_5 : decode nb_FB_commit 5 = .ok (.invokevirtual 119, 3) := by decide +kernel
theorem nd_FB_commit_8 : decode nb_FB_commit 8 = .ok (.istore_n 1, 1) := by decide +kernel
theorem nd_FB_commit_9 : decode nb_FB_commit 9 = .ok (.aload_n 0, 1) := by decide +kernel
theorem nd_FB_commit_10 : decode nb_FB_commit 10 = .ok (.iload_n 1, 1) := by decide +kernel
theorem nd_FB_commit_11 : decode nb_FB_commit 11 = .ok (.invokevirtual 122, 3) := by decide +kernel
theorem nd_FB_commit_14 : decode nb_FB_commit 14 = .ok (.ifCond .eq 17, 3) := by decide +kernel
theorem nd_FB_commit_17 : decode nb_FB_commit 17 = .ok (.aload_n 0, 1) := by decide +kernel
theorem nd_FB_commit_18 : decode nb_FB_commit 18 = .ok (.invokevirtual 125, 3) := by decide +kernel
theorem nd_FB_commit_21 : decode nb_FB_commit 21 = .ok (.new 128, 3) := by decide +kernel
theorem nd_FB_commit_24 : decode nb_FB_commit 24 = .ok (.dup, 1) := by decide +kernel
theorem nd_FB_commit_25 : decode nb_FB_commit 25 = .ok (.ldc 130, 2) := by decide +kernel
theorem nd_FB_commit_27 : decode nb_FB_commit 27 = .ok (.invokespecial 132, 3) := by decide +kernel
theorem nd_FB_commit_30 : decode nb_FB_commit 30 = .ok (.athrow, 1) := by decide +kernel
theorem nd_FB_commit_31 : decode nb_FB_commit 31 = .ok (.aload_n 0, 1) := by decide +kernel
theorem nd_FB_commit_32 : decode nb_FB_commit 32 = .ok (.getfield 23, 3) := by decide +kernel
theorem nd_FB_commit_35 : decode nb_FB_commit 35 = .ok (.iconst (-1), 1) := by decide +kernel
theorem nd_FB_commit_36 : decode nb_FB_commit 36 = .ok (.if_icmp .eq 13, 3) := by decide +kernel
theorem nd_FB_commit_39 : decode nb_FB_commit 39 = .ok (.aload_n 0, 1) := by decide +kernel
theorem nd_FB_commit_40 : decode nb_FB_commit 40 = .ok (.dup, 1) := by decide +kernel
theorem nd_FB_commit_41 : decode nb_FB_commit 41 = .ok (.getfield 23, 3) := by decide +kernel
theorem nd_FB_commit_44 : decode nb_FB_commit 44 = .ok (.iload_n 1, 1) := by decide +kernel
theorem nd_FB_commit_45 : decode nb_FB_commit 45 = .ok (.isub, 1) := by decide +kernel
theorem nd_FB_commit_46 : decode nb_FB_commit 46 = .ok (.putfield 23, 3) := by decide +kernel
theorem nd_FB_commit_49 : decode nb_FB_commit 49 = .ok (.aload_n 0, 1) := by decide +kernel
theorem nd_FB_commit_50 : decode nb_FB_commit 50 = .ok (.dup, 1) := by decide +kernel
theorem nd_FB_commit_51 : decode nb_FB_commit 51 = .ok (.getfield 133, 3) := by decide +kernel
theorem nd_FB_commit_54 : decode nb_FB_commit 54 = .ok (.iload_n 1, 1) := by decide +kernel
theorem nd_FB_commit_55 : decode nb_FB_commit 55 = .ok (.iadd, 1) := by decide +kernel
theorem nd_FB_commit_56 : decode nb_FB_commit 56 = .ok (.putfield 133, 3) := by decide +kernel
theorem nd_FB_commit_59 : decode nb_FB_commit 59 = .ok (.aload_n 0, 1) := by decide +kernel
theorem nd_FB_commit_60 : decode nb_FB_commit 60 = .ok (.getfield 16, 3) := by decide +kernel
theorem nd_FB_commit_63 : decode nb_FB_commit 63 = .ok (.iconst 0, 1) := by decide +kernel
theorem nd_FB_commit_64 : decode nb_FB_commit 64 = .ok (.aload_n 0, 1) := by decide +kernel
theorem nd_FB_commit_65 : decode nb_FB_commit 65 = .ok (.getfield 20, 3) := by decide +kernel
theorem nd_FB_commit_68 : decode nb_FB_commit 68 = .ok (.iconst 0, 1) := by decide +kernel
theorem nd_FB_commit_69 : decode nb_FB_commit 69 = .ok (.aload_n 0, 1) := by decide +kernel
theorem nd_FB_commit_70 : decode nb_FB_commit 70 = .ok (.getfield 16, 3) := by decide +kernel
theorem nd_FB_commit_73 : decode nb_FB_commit 73 = .ok (.arraylength, 1) := by decide +kernel
theorem nd_FB_commit_74 : decode nb_FB_commit 74 = .ok (.invokestatic 33, 3) := by decide +kernel
theorem nd_FB_commit_77 : decode nb_FB_commit 77 = .ok (.aload_n 0, 1) := by decide +kernel
theorem nd_FB_commit_78 : decode nb_FB_commit 78 = .ok (.getfield 10, 3) := by decide +kernel
theorem nd_FB_commit_81 : decode nb_FB_commit 81 = .ok (.invokevirtual 110, 3) := by decide +kernel
theorem nd_FB_commit_84 : decode nb_FB_commit 84 = .ok (.iload_n 1, 1) := by decide +kernel
theorem nd_FB_commit_85 : decode nb_FB_commit 85 = .ok (.ireturn, 1) := by decide +kernel
abbrev nb_FB_free : ByteArray := prog_1_method_14_code
def ny_FB_free : MethodName := ⟨nr_FB, "free", "()I"⟩
theorem nc_FB_free : Cond.code ny_FB_free nb_FB_free 1 (some .int) ∈ wl := wl_t2 195 rfl rfl
theorem nd_FB_free_0 : decode nb_FB_free 0 = .ok (.aload_n 0, 1) := by decide +kernel
theorem nd_FB_free_1 : decode nb_FB_free 1 = .ok (.invokevirtual 39, 3) := by decide +kernel
theorem nd_FB_free_4 : decode nb_FB_free 4 = .ok (.aload_n 0, 1) := by decide +kernel
theorem nd_FB_free_5 : decode nb_FB_free 5 = .ok (.invokevirtual 116, 3) := by decide +kernel
theorem nd_FB_free_8 : decode nb_FB_free 8 = .ok (.ireturn, 1) := by decide +kernel
abbrev nb_FB_due : ByteArray := prog_1_method_15_code
def ny_FB_due : MethodName := ⟨nr_FB, "due", "()I"⟩
theorem nc_FB_due : Cond.code ny_FB_due nb_FB_due 1 (some .int) ∈ wl := wl_t2 202 rfl rfl
theorem nd_FB_due_0 : decode nb_FB_due 0 = .ok (.aload_n 0, 1) := by decide +kernel
theorem nd_FB_due_1 : decode nb_FB_due 1 = .ok (.invokevirtual 39, 3) := by decide +kernel
theorem nd_FB_due_4 : decode nb_FB_due 4 = .ok (.aload_n 0, 1) := by decide +kernel
theorem nd_FB_due_5 : decode nb_FB_due 5 = .ok (.invokevirtual 119, 3) := by decide +kernel
theorem nd_FB_due_8 : decode nb_FB_due 8 = .ok (.ireturn, 1) := by decide +kernel
abbrev nb_FB_order : ByteArray := prog_1_method_16_code
def ny_FB_order : MethodName := ⟨nr_FB, "order", "(I)Z"⟩
theorem nc_FB_order : Cond.code ny_FB_order nb_FB_order 2 (some .boolean) ∈ wl := wl_t1 73 rfl rfl
theorem nd_FB_order_0 : decode nb_FB_order 0 = .ok (.iload_n 1, 1) := by decide +kernel
theorem nd_FB_order_1 : decode nb_FB_order 1 = .ok (.ifCond .lt 9, 3) := by decide +kernel
theorem nd_FB_order_4 : decode nb_FB_order 4 = .ok (.iload_n 1, 1) := by decide +kernel
theorem nd_FB_order_5 : decode nb_FB_order 5 = .ok (.bipush 100, 2) := by decide +kernel
theorem nd_FB_order_7 : decode nb_FB_order 7 = .ok (.if_icmp .le 5, 3) := by decide +kernel
theorem nd_FB_order_10 : decode nb_FB_order 10 = .ok (.iconst 0, 1) := by decide +kernel
theorem nd_FB_order_11 : decode nb_FB_order 11 = .ok (.ireturn, 1) := by decide +kernel
theorem nd_FB_order_12 : decode nb_FB_order 12 = .ok (.aload_n 0, 1) := by decide +kernel
theorem nd_FB_order_13 : decode nb_FB_order 13 = .ok (.iload_n 1, 1) := by decide +kernel
theorem nd_FB_order_14 : decode nb_FB_order 14 = .ok (.putfield 23, 3) := by decide +kernel
theorem nd_FB_order_17 : decode nb_FB_order 17 = .ok (.iconst 1, 1) := by decide +kernel
theorem nd_FB_order_18 : decode nb_FB_order 18 = .ok (.ireturn, 1) := by decide +kernel
abbrev nb_FB_recover : ByteArray := prog_1_method_17_code
def ny_FB_recover : MethodName := ⟨nr_FB, "recover", "()I"⟩
theorem nc_FB_recover : Cond.code ny_FB_recover nb_FB_recover 1 (some .int) ∈ wl := wl_t1 77 rfl rfl
theorem nd_FB_recover_0 : decode nb_FB_recover 0 = .ok (.aload_n 0, 1) := by decide +kernel
theorem nd_FB_recover_1 : decode nb_FB_recover 1 = .ok (.getfield 136, 3) := by decide +kernel
theorem nd_FB_recover_4 : decode nb_FB_recover 4 = .ok (.ifCond .ne 5, 3) := by decide +kernel
theorem nd_FB_recover_7 : decode nb_FB_recover 7 = .ok (.iconst (-1), 1) := by decide +kernel
theorem nd_FB_recover_8 : decode nb_FB_recover 8 = .ok (.ireturn, 1) := by decide +kernel
theorem nd_FB_recover_9 : decode nb_FB_recover 9 = .ok (.aload_n 0, 1) := by decide +kernel
theorem nd_FB_recover_10 : decode nb_FB_recover 10 = .ok (.getfield 20, 3) := by decide +kernel
theorem nd_FB_recover_13 : decode nb_FB_recover 13 = .ok (.iconst 0, 1) := by decide +kernel
theorem nd_FB_recover_14 : decode nb_FB_recover 14 = .ok (.aload_n 0, 1) := by decide +kernel
theorem nd_FB_recover_15 : decode nb_FB_recover 15 = .ok (.getfield 16, 3) := by decide +kernel
theorem nd_FB_recover_18 : decode nb_FB_recover 18 = .ok (.iconst 0, 1) := by decide +kernel
theorem nd_FB_recover_19 : decode nb_FB_recover 19 = .ok (.aload_n 0, 1) := by decide +kernel
theorem nd_FB_recover_20 : decode nb_FB_recover 20 = .ok (.getfield 16, 3) := by decide +kernel
theorem nd_FB_recover_23 : decode nb_FB_recover 23 = .ok (.arraylength, 1) := by decide +kernel
theorem nd_FB_recover_24 : decode nb_FB_recover 24 = .ok (.invokestatic 33, 3) := by decide +kernel
theorem nd_FB_recover_27 : decode nb_FB_recover 27 = .ok (.aload_n 0, 1) := by decide +kernel
theorem nd_FB_recover_28 : decode nb_FB_recover 28 = .ok (.iconst 0, 1) := by decide +kernel
theorem nd_FB_recover_29 : decode nb_FB_recover 29 = .ok (.putfield 136, 3) := by decide +kernel
theorem nd_FB_recover_32 : decode nb_FB_recover 32 = .ok (.aload_n 0, 1) := by decide +kernel
theorem nd_FB_recover_33 : decode nb_FB_recover 33 = .ok (.invokevirtual 140, 3) := by decide +kernel
theorem nd_FB_recover_36 : decode nb_FB_recover 36 = .ok (.ireturn, 1) := by decide +kernel
abbrev nb_FB_writes : ByteArray := prog_1_method_18_code
def ny_FB_writes : MethodName := ⟨nr_FB, "writes", "()I"⟩
theorem nc_FB_writes : Cond.code ny_FB_writes nb_FB_writes 1 (some .int) ∈ wl := wl_t1 85 rfl rfl
theorem nd_FB_writes_0 : decode nb_FB_writes 0 = .ok (.aload_n 0, 1) := by decide +kernel
theorem nd_FB_writes_1 : decode nb_FB_writes 1 = .ok (.getfield 133, 3) := by decide +kernel
theorem nd_FB_writes_4 : decode nb_FB_writes 4 = .ok (.ireturn, 1) := by decide +kernel
abbrev nb_FB_down : ByteArray := prog_1_method_19_code
def ny_FB_down : MethodName := ⟨nr_FB, "down", "()Z"⟩
theorem nc_FB_down : Cond.code ny_FB_down nb_FB_down 1 (some .boolean) ∈ wl := wl_t1 89 rfl rfl
theorem nd_FB_down_0 : decode nb_FB_down 0 = .ok (.aload_n 0, 1) := by decide +kernel
theorem nd_FB_down_1 : decode nb_FB_down 1 = .ok (.getfield 136, 3) := by decide +kernel
theorem nd_FB_down_4 : decode nb_FB_down 4 = .ok (.ireturn, 1) := by decide +kernel
abbrev nb_FB_requireUp : ByteArray := prog_1_method_20_code
def ny_FB_requireUp : MethodName := ⟨nr_FB, "requireUp", "()V"⟩
theorem nc_FB_requireUp : Cond.code ny_FB_requireUp nb_FB_requireUp 1 none ∈ wl := wl_t1 103 rfl rfl
theorem nd_FB_requireUp_0 : decode nb_FB_requireUp 0 = .ok (.aload_n 0, 1) := by decide +kernel
theorem nd_FB_requireUp_1 : decode nb_FB_requireUp 1 = .ok (.getfield 136, 3) := by decide +kernel
theorem nd_FB_requireUp_4 : decode nb_FB_requireUp 4 = .ok (.ifCond .eq 13, 3) := by decide +kernel
theorem nd_FB_requireUp_7 : decode nb_FB_requireUp 7 = .ok (.new 128, 3) := by decide +kernel
theorem nd_FB_requireUp_10 : decode nb_FB_requireUp 10 = .ok (.dup, 1) := by decide +kernel
theorem nd_FB_requireUp_11 : decode nb_FB_requireUp 11 = .ok (.ldc 143, 2) := by decide +kernel
theorem nd_FB_requireUp_13 : decode nb_FB_requireUp 13 = .ok (.invokespecial 132, 3) := by decide +kernel
theorem nd_FB_requireUp_16 : decode nb_FB_requireUp 16 = .ok (.athrow, 1) := by decide +kernel
theorem nd_FB_requireUp_17 : decode nb_FB_requireUp 17 = .ok (.return_, 1) := by decide +kernel
abbrev nb_FB_requireMap : ByteArray := prog_1_method_21_code
def ny_FB_requireMap : MethodName := ⟨nr_FB, "requireMap", "(I)V"⟩
theorem nc_FB_requireMap : Cond.code ny_FB_requireMap nb_FB_requireMap 2 none ∈ wl := wl_t2 82 rfl rfl
theorem nd_FB_requireMap_0 : decode nb_FB_requireMap 0 = .ok (.aload_n 0, 1) := by decide +kernel
theorem nd_FB_requireMap_1 : decode nb_FB_requireMap 1 = .ok (.iload_n 1, 1) := by decide +kernel
theorem nd_FB_requireMap_2 : decode nb_FB_requireMap 2 = .ok (.invokevirtual 145, 3) := by decide +kernel
theorem nd_FB_requireMap_5 : decode nb_FB_requireMap 5 = .ok (.ifCond .ne 13, 3) := by decide +kernel
theorem nd_FB_requireMap_8 : decode nb_FB_requireMap 8 = .ok (.new 46, 3) := by decide +kernel
theorem nd_FB_requireMap_11 : decode nb_FB_requireMap 11 = .ok (.dup, 1) := by decide +kernel
theorem nd_FB_requireMap_12 : decode nb_FB_requireMap 12 = .ok (.ldc 148, 2) := by decide +kernel
theorem nd_FB_requireMap_14 : decode nb_FB_requireMap 14 = .ok (.invokespecial 50, 3) := by decide +kernel
theorem nd_FB_requireMap_17 : decode nb_FB_requireMap 17 = .ok (.athrow, 1) := by decide +kernel
theorem nd_FB_requireMap_18 : decode nb_FB_requireMap 18 = .ok (.return_, 1) := by decide +kernel
abbrev nb_FB_requireSnapshot : ByteArray := prog_1_method_22_code
def ny_FB_requireSnapshot : MethodName := ⟨nr_FB, "requireSnapshot", "(I)V"⟩
theorem nc_FB_requireSnapshot : Cond.code ny_FB_requireSnapshot nb_FB_requireSnapshot 2 none ∈ wl := wl_t2 160 rfl rfl
theorem nd_FB_requireSnapshot_0 : decode nb_FB_requireSnapshot 0 = .ok (.iload_n 1, 1) := by decide +kernel
theorem nd_FB_requireSnapshot_1 : decode nb_FB_requireSnapshot 1 = .ok (.ifCond .eq 11, 3) := by decide +kernel
theorem nd_FB_requireSnapshot_4 : decode nb_FB_requireSnapshot 4 = .ok (.aload_n 0, 1) := by decide +kernel
theorem nd_FB_requireSnapshot_5 : decode nb_FB_requireSnapshot 5 = .ok (.iload_n 1, 1) := by decide +kernel
theorem nd_FB_requireSnapshot_6 : decode nb_FB_requireSnapshot 6 = .ok (.invokevirtual 145, 3) := by decide +kernel
theorem nd_FB_requireSnapshot_9 : decode nb_FB_requireSnapshot 9 = .ok (.ifCond .ne 13, 3) := by decide +kernel
theorem nd_FB_requireSnapshot_12 : decode nb_FB_requireSnapshot 12 = .ok (.new 46, 3) := by decide +kernel
theorem nd_FB_requireSnapshot_15 : decode nb_FB_requireSnapshot 15 = .ok (.dup, 1) := by decide +kernel
theorem nd_FB_requireSnapshot_16 : decode nb_FB_requireSnapshot 16 = .ok (.ldc 150, 2) := by decide +kernel
theorem nd_FB_requireSnapshot_18 : decode nb_FB_requireSnapshot 18 = .ok (.invokespecial 50, 3) := by decide +kernel
theorem nd_FB_requireSnapshot_21 : decode nb_FB_requireSnapshot 21 = .ok (.athrow, 1) := by decide +kernel
theorem nd_FB_requireSnapshot_22 : decode nb_FB_requireSnapshot 22 = .ok (.return_, 1) := by decide +kernel
abbrev nb_FB_requireBound : ByteArray := prog_1_method_23_code
def ny_FB_requireBound : MethodName := ⟨nr_FB, "requireBound", "(II)V"⟩
theorem nc_FB_requireBound : Cond.code ny_FB_requireBound nb_FB_requireBound 3 none ∈ wl := wl_t2 43 rfl rfl
theorem nd_FB_requireBound_0 : decode nb_FB_requireBound 0 = .ok (.aload_n 0, 1) := by decide +kernel
theorem nd_FB_requireBound_1 : decode nb_FB_requireBound 1 = .ok (.iload_n 2, 1) := by decide +kernel
theorem nd_FB_requireBound_2 : decode nb_FB_requireBound 2 = .ok (.invokevirtual 42, 3) := by decide +kernel
theorem nd_FB_requireBound_5 : decode nb_FB_requireBound 5 = .ok (.ifCond .eq 15, 3) := by decide +kernel
theorem nd_FB_requireBound_8 : decode nb_FB_requireBound 8 = .ok (.aload_n 0, 1) := by decide +kernel
theorem nd_FB_requireBound_9 : decode nb_FB_requireBound 9 = .ok (.getfield 10, 3) := by decide +kernel
theorem nd_FB_requireBound_12 : decode nb_FB_requireBound 12 = .ok (.iload_n 1, 1) := by decide +kernel
theorem nd_FB_requireBound_13 : decode nb_FB_requireBound 13 = .ok (.iload_n 2, 1) := by decide +kernel
theorem nd_FB_requireBound_14 : decode nb_FB_requireBound 14 = .ok (.invokevirtual 53, 3) := by decide +kernel
theorem nd_FB_requireBound_17 : decode nb_FB_requireBound 17 = .ok (.ifCond .ne 13, 3) := by decide +kernel
theorem nd_FB_requireBound_20 : decode nb_FB_requireBound 20 = .ok (.new 152, 3) := by decide +kernel
theorem nd_FB_requireBound_23 : decode nb_FB_requireBound 23 = .ok (.dup, 1) := by decide +kernel
theorem nd_FB_requireBound_24 : decode nb_FB_requireBound 24 = .ok (.ldc 154, 2) := by decide +kernel
theorem nd_FB_requireBound_26 : decode nb_FB_requireBound 26 = .ok (.invokespecial 156, 3) := by decide +kernel
theorem nd_FB_requireBound_29 : decode nb_FB_requireBound 29 = .ok (.athrow, 1) := by decide +kernel
theorem nd_FB_requireBound_30 : decode nb_FB_requireBound 30 = .ok (.return_, 1) := by decide +kernel
abbrev nb_FB_ownCurrentPath : ByteArray := prog_1_method_24_code
def ny_FB_ownCurrentPath : MethodName := ⟨nr_FB, "ownCurrentPath", "(II)V"⟩
theorem nc_FB_ownCurrentPath : Cond.code ny_FB_ownCurrentPath nb_FB_ownCurrentPath 4 none ∈ wl := wl_t1 214 rfl rfl
theorem nd_FB_ownCurrentPath_0 : decode nb_FB_ownCurrentPath 0 = .ok (.aload_n 0, 1) := by decide +kernel
theorem nd_FB_ownCurrentPath_1 : decode nb_FB_ownCurrentPath 1 = .ok (.invokevirtual 116, 3) := by decide +kernel
theorem nd_FB_ownCurrentPath_4 : decode nb_FB_ownCurrentPath 4 = .ok (.istore_n 3, 1) := by decide +kernel
theorem nd_FB_ownCurrentPath_5 : decode nb_FB_ownCurrentPath 5 = .ok (.aload_n 0, 1) := by decide +kernel
theorem nd_FB_ownCurrentPath_6 : decode nb_FB_ownCurrentPath 6 = .ok (.getfield 10, 3) := by decide +kernel
theorem nd_FB_ownCurrentPath_9 : decode nb_FB_ownCurrentPath 9 = .ok (.aload_n 0, 1) := by decide +kernel
theorem nd_FB_ownCurrentPath_10 : decode nb_FB_ownCurrentPath 10 = .ok (.getfield 16, 3) := by decide +kernel
theorem nd_FB_ownCurrentPath_13 : decode nb_FB_ownCurrentPath 13 = .ok (.iconst 0, 1) := by decide +kernel
theorem nd_FB_ownCurrentPath_14 : decode nb_FB_ownCurrentPath 14 = .ok (.iaload, 1) := by decide +kernel
theorem nd_FB_ownCurrentPath_15 : decode nb_FB_ownCurrentPath 15 = .ok (.iload_n 1, 1) := by decide +kernel
theorem nd_FB_ownCurrentPath_16 : decode nb_FB_ownCurrentPath 16 = .ok (.iload_n 2, 1) := by decide +kernel
theorem nd_FB_ownCurrentPath_17 : decode nb_FB_ownCurrentPath 17 = .ok (.invokevirtual 157, 3) := by decide +kernel
theorem nd_FB_ownCurrentPath_20 : decode nb_FB_ownCurrentPath 20 = .ok (.iload_n 3, 1) := by decide +kernel
theorem nd_FB_ownCurrentPath_21 : decode nb_FB_ownCurrentPath 21 = .ok (.if_icmp .le 13, 3) := by decide +kernel
theorem nd_FB_ownCurrentPath_24 : decode nb_FB_ownCurrentPath 24 = .ok (.new 105, 3) := by decide +kernel
theorem nd_FB_ownCurrentPath_27 : decode nb_FB_ownCurrentPath 27 = .ok (.dup, 1) := by decide +kernel
theorem nd_FB_ownCurrentPath_28 : decode nb_FB_ownCurrentPath 28 = .ok (.ldc 161, 2) := by decide +kernel
theorem nd_FB_ownCurrentPath_30 : decode nb_FB_ownCurrentPath 30 = .ok (.invokespecial 109, 3) := by decide +kernel
theorem nd_FB_ownCurrentPath_33 : decode nb_FB_ownCurrentPath 33 = .ok (.athrow, 1) := by decide +kernel
theorem nd_FB_ownCurrentPath_34 : decode nb_FB_ownCurrentPath 34 = .ok (.aload_n 0, 1) := by decide +kernel
theorem nd_FB_ownCurrentPath_35 : decode nb_FB_ownCurrentPath 35 = .ok (.getfield 16, 3) := by decide +kernel
theorem nd_FB_ownCurrentPath_38 : decode nb_FB_ownCurrentPath 38 = .ok (.iconst 0, 1) := by decide +kernel
theorem nd_FB_ownCurrentPath_39 : decode nb_FB_ownCurrentPath 39 = .ok (.aload_n 0, 1) := by decide +kernel
theorem nd_FB_ownCurrentPath_40 : decode nb_FB_ownCurrentPath 40 = .ok (.getfield 10, 3) := by decide +kernel
theorem nd_FB_ownCurrentPath_43 : decode nb_FB_ownCurrentPath 43 = .ok (.aload_n 0, 1) := by decide +kernel
theorem nd_FB_ownCurrentPath_44 : decode nb_FB_ownCurrentPath 44 = .ok (.getfield 16, 3) := by decide +kernel
theorem nd_FB_ownCurrentPath_47 : decode nb_FB_ownCurrentPath 47 = .ok (.iconst 0, 1) := by decide +kernel
theorem nd_FB_ownCurrentPath_48 : decode nb_FB_ownCurrentPath 48 = .ok (.iaload, 1) := by decide +kernel
theorem nd_FB_ownCurrentPath_49 : decode nb_FB_ownCurrentPath 49 = .ok (.iload_n 1, 1) := by decide +kernel
theorem nd_FB_ownCurrentPath_50 : decode nb_FB_ownCurrentPath 50 = .ok (.iload_n 2, 1) := by decide +kernel
theorem nd_FB_ownCurrentPath_51 : decode nb_FB_ownCurrentPath 51 = .ok (.invokevirtual 163, 3) := by decide +kernel
theorem nd_FB_ownCurrentPath_54 : decode nb_FB_ownCurrentPath 54 = .ok (.iastore, 1) := by decide +kernel
theorem nd_FB_ownCurrentPath_55 : decode nb_FB_ownCurrentPath 55 = .ok (.return_, 1) := by decide +kernel
abbrev nb_FB_isKey : ByteArray := prog_1_method_25_code
def ny_FB_isKey : MethodName := ⟨nr_FB, "isKey", "(I)Z"⟩
theorem nc_FB_isKey : Cond.code ny_FB_isKey nb_FB_isKey 2 (some .boolean) ∈ wl := wl_t1 176 rfl rfl
theorem nd_FB_isKey_0 : decode nb_FB_isKey 0 = .ok (.iload_n 1, 1) := by decide +kernel
theorem nd_FB_isKey_1 : decode nb_FB_isKey 1 = .ok (.ifCond .lt 13, 3) := by decide +kernel
theorem nd_FB_isKey_4 : decode nb_FB_isKey 4 = .ok (.iload_n 1, 1) := by decide +kernel
theorem nd_FB_isKey_5 : decode nb_FB_isKey 5 = .ok (.bipush 64, 2) := by decide +kernel
theorem nd_FB_isKey_7 : decode nb_FB_isKey 7 = .ok (.if_icmp .ge 7, 3) := by decide +kernel
theorem nd_FB_isKey_10 : decode nb_FB_isKey 10 = .ok (.iconst 1, 1) := by decide +kernel
theorem nd_FB_isKey_11 : decode nb_FB_isKey 11 = .ok (.goto 4, 3) := by decide +kernel
theorem nd_FB_isKey_14 : decode nb_FB_isKey 14 = .ok (.iconst 0, 1) := by decide +kernel
theorem nd_FB_isKey_15 : decode nb_FB_isKey 15 = .ok (.ireturn, 1) := by decide +kernel
abbrev nb_FB_isMap : ByteArray := prog_1_method_26_code
def ny_FB_isMap : MethodName := ⟨nr_FB, "isMap", "(I)Z"⟩
theorem nc_FB_isMap : Cond.code ny_FB_isMap nb_FB_isMap 2 (some .boolean) ∈ wl := wl_t2 86 rfl rfl
theorem nd_FB_isMap_0 : decode nb_FB_isMap 0 = .ok (.iload_n 1, 1) := by decide +kernel
theorem nd_FB_isMap_1 : decode nb_FB_isMap 1 = .ok (.ifCond .lt 26, 3) := by decide +kernel
theorem nd_FB_isMap_4 : decode nb_FB_isMap 4 = .ok (.iload_n 1, 1) := by decide +kernel
theorem nd_FB_isMap_5 : decode nb_FB_isMap 5 = .ok (.aload_n 0, 1) := by decide +kernel
theorem nd_FB_isMap_6 : decode nb_FB_isMap 6 = .ok (.getfield 16, 3) := by decide +kernel
theorem nd_FB_isMap_9 : decode nb_FB_isMap 9 = .ok (.arraylength, 1) := by decide +kernel
theorem nd_FB_isMap_10 : decode nb_FB_isMap 10 = .ok (.if_icmp .ge 17, 3) := by decide +kernel
theorem nd_FB_isMap_13 : decode nb_FB_isMap 13 = .ok (.aload_n 0, 1) := by decide +kernel
theorem nd_FB_isMap_14 : decode nb_FB_isMap 14 = .ok (.getfield 16, 3) := by decide +kernel
theorem nd_FB_isMap_17 : decode nb_FB_isMap 17 = .ok (.iload_n 1, 1) := by decide +kernel
theorem nd_FB_isMap_18 : decode nb_FB_isMap 18 = .ok (.iaload, 1) := by decide +kernel
theorem nd_FB_isMap_19 : decode nb_FB_isMap 19 = .ok (.iconst (-1), 1) := by decide +kernel
theorem nd_FB_isMap_20 : decode nb_FB_isMap 20 = .ok (.if_icmp .eq 7, 3) := by decide +kernel
theorem nd_FB_isMap_23 : decode nb_FB_isMap 23 = .ok (.iconst 1, 1) := by decide +kernel
theorem nd_FB_isMap_24 : decode nb_FB_isMap 24 = .ok (.goto 4, 3) := by decide +kernel
theorem nd_FB_isMap_27 : decode nb_FB_isMap 27 = .ok (.iconst 0, 1) := by decide +kernel
theorem nd_FB_isMap_28 : decode nb_FB_isMap 28 = .ok (.ireturn, 1) := by decide +kernel
abbrev nb_FB_isBoundAlike : ByteArray := prog_1_method_27_code
def ny_FB_isBoundAlike : MethodName := ⟨nr_FB, "isBoundAlike", "(III)Z"⟩
theorem nc_FB_isBoundAlike : Cond.code ny_FB_isBoundAlike nb_FB_isBoundAlike 4 (some .boolean) ∈ wl := wl_t2 133 rfl rfl
theorem nd_FB_isBoundAlike_0 : decode nb_FB_isBoundAlike 0 = .ok (.aload_n 0, 1) := by decide +kernel
theorem nd_FB_isBoundAlike_1 : decode nb_FB_isBoundAlike 1 = .ok (.getfield 10, 3) := by decide +kernel
theorem nd_FB_isBoundAlike_4 : decode nb_FB_isBoundAlike 4 = .ok (.iload_n 1, 1) := by decide +kernel
theorem nd_FB_isBoundAlike_5 : decode nb_FB_isBoundAlike 5 = .ok (.iload_n 3, 1) := by decide +kernel
theorem nd_FB_isBoundAlike_6 : decode nb_FB_isBoundAlike 6 = .ok (.invokevirtual 53, 3) := by decide +kernel
theorem nd_FB_isBoundAlike_9 : decode nb_FB_isBoundAlike 9 = .ok (.ifCond .eq 15, 3) := by decide +kernel
theorem nd_FB_isBoundAlike_12 : decode nb_FB_isBoundAlike 12 = .ok (.aload_n 0, 1) := by decide +kernel
theorem nd_FB_isBoundAlike_13 : decode nb_FB_isBoundAlike 13 = .ok (.getfield 10, 3) := by decide +kernel
theorem nd_FB_isBoundAlike_16 : decode nb_FB_isBoundAlike 16 = .ok (.iload_n 2, 1) := by decide +kernel
theorem nd_FB_isBoundAlike_17 : decode nb_FB_isBoundAlike 17 = .ok (.iload_n 3, 1) := by decide +kernel
theorem nd_FB_isBoundAlike_18 : decode nb_FB_isBoundAlike 18 = .ok (.invokevirtual 53, 3) := by decide +kernel
theorem nd_FB_isBoundAlike_21 : decode nb_FB_isBoundAlike 21 = .ok (.ifCond .ne 30, 3) := by decide +kernel
theorem nd_FB_isBoundAlike_24 : decode nb_FB_isBoundAlike 24 = .ok (.aload_n 0, 1) := by decide +kernel
theorem nd_FB_isBoundAlike_25 : decode nb_FB_isBoundAlike 25 = .ok (.getfield 10, 3) := by decide +kernel
theorem nd_FB_isBoundAlike_28 : decode nb_FB_isBoundAlike 28 = .ok (.iload_n 1, 1) := by decide +kernel
theorem nd_FB_isBoundAlike_29 : decode nb_FB_isBoundAlike 29 = .ok (.iload_n 3, 1) := by decide +kernel
theorem nd_FB_isBoundAlike_30 : decode nb_FB_isBoundAlike 30 = .ok (.invokevirtual 53, 3) := by decide +kernel
theorem nd_FB_isBoundAlike_33 : decode nb_FB_isBoundAlike 33 = .ok (.aload_n 0, 1) := by decide +kernel
theorem nd_FB_isBoundAlike_34 : decode nb_FB_isBoundAlike 34 = .ok (.getfield 10, 3) := by decide +kernel
theorem nd_FB_isBoundAlike_37 : decode nb_FB_isBoundAlike 37 = .ok (.iload_n 2, 1) := by decide +kernel
theorem nd_FB_isBoundAlike_38 : decode nb_FB_isBoundAlike 38 = .ok (.iload_n 3, 1) := by decide +kernel
theorem nd_FB_isBoundAlike_39 : decode nb_FB_isBoundAlike 39 = .ok (.invokevirtual 53, 3) := by decide +kernel
theorem nd_FB_isBoundAlike_42 : decode nb_FB_isBoundAlike 42 = .ok (.if_icmp .ne 7, 3) := by decide +kernel
theorem nd_FB_isBoundAlike_45 : decode nb_FB_isBoundAlike 45 = .ok (.iconst 1, 1) := by decide +kernel
theorem nd_FB_isBoundAlike_46 : decode nb_FB_isBoundAlike 46 = .ok (.goto 4, 3) := by decide +kernel
theorem nd_FB_isBoundAlike_49 : decode nb_FB_isBoundAlike 49 = .ok (.iconst 0, 1) := by decide +kernel
theorem nd_FB_isBoundAlike_50 : decode nb_FB_isBoundAlike 50 = .ok (.ireturn, 1) := by decide +kernel
theorem nd_FB_isBoundAlike_51 : decode nb_FB_isBoundAlike 51 = .ok (.aload_n 0, 1) := by decide +kernel
theorem nd_FB_isBoundAlike_52 : decode nb_FB_isBoundAlike 52 = .ok (.getfield 10, 3) := by decide +kernel
theorem nd_FB_isBoundAlike_55 : decode nb_FB_isBoundAlike 55 = .ok (.iload_n 1, 1) := by decide +kernel
theorem nd_FB_isBoundAlike_56 : decode nb_FB_isBoundAlike 56 = .ok (.iload_n 3, 1) := by decide +kernel
theorem nd_FB_isBoundAlike_57 : decode nb_FB_isBoundAlike 57 = .ok (.invokevirtual 57, 3) := by decide +kernel
theorem nd_FB_isBoundAlike_60 : decode nb_FB_isBoundAlike 60 = .ok (.aload_n 0, 1) := by decide +kernel
theorem nd_FB_isBoundAlike_61 : decode nb_FB_isBoundAlike 61 = .ok (.getfield 10, 3) := by decide +kernel
theorem nd_FB_isBoundAlike_64 : decode nb_FB_isBoundAlike 64 = .ok (.iload_n 2, 1) := by decide +kernel
theorem nd_FB_isBoundAlike_65 : decode nb_FB_isBoundAlike 65 = .ok (.iload_n 3, 1) := by decide +kernel
theorem nd_FB_isBoundAlike_66 : decode nb_FB_isBoundAlike 66 = .ok (.invokevirtual 57, 3) := by decide +kernel
theorem nd_FB_isBoundAlike_69 : decode nb_FB_isBoundAlike 69 = .ok (.if_icmp .ne 7, 3) := by decide +kernel
theorem nd_FB_isBoundAlike_72 : decode nb_FB_isBoundAlike 72 = .ok (.iconst 1, 1) := by decide +kernel
theorem nd_FB_isBoundAlike_73 : decode nb_FB_isBoundAlike 73 = .ok (.goto 4, 3) := by decide +kernel
theorem nd_FB_isBoundAlike_76 : decode nb_FB_isBoundAlike 76 = .ok (.iconst 0, 1) := by decide +kernel
theorem nd_FB_isBoundAlike_77 : decode nb_FB_isBoundAlike 77 = .ok (.ireturn, 1) := by decide +kernel
abbrev nb_FB_keysBound : ByteArray := prog_1_method_28_code
def ny_FB_keysBound : MethodName := ⟨nr_FB, "keysBound", "(I)I"⟩
theorem nc_FB_keysBound : Cond.code ny_FB_keysBound nb_FB_keysBound 4 (some .int) ∈ wl := wl_t2 108 rfl rfl
theorem nd_FB_keysBound_0 : decode nb_FB_keysBound 0 = .ok (.iconst 0, 1) := by decide +kernel
theorem nd_FB_keysBound_1 : decode nb_FB_keysBound 1 = .ok (.istore_n 2, 1) := by decide +kernel
theorem nd_FB_keysBound_2 : decode nb_FB_keysBound 2 = .ok (.iconst 0, 1) := by decide +kernel
theorem nd_FB_keysBound_3 : decode nb_FB_keysBound 3 = .ok (.istore_n 3, 1) := by decide +kernel
theorem nd_FB_keysBound_4 : decode nb_FB_keysBound 4 = .ok (.iload_n 3, 1) := by decide +kernel
theorem nd_FB_keysBound_5 : decode nb_FB_keysBound 5 = .ok (.bipush 64, 2) := by decide +kernel
theorem nd_FB_keysBound_7 : decode nb_FB_keysBound 7 = .ok (.if_icmp .ge 24, 3) := by decide +kernel
theorem nd_FB_keysBound_10 : decode nb_FB_keysBound 10 = .ok (.aload_n 0, 1) := by decide +kernel
theorem nd_FB_keysBound_11 : decode nb_FB_keysBound 11 = .ok (.getfield 10, 3) := by decide +kernel
theorem nd_FB_keysBound_14 : decode nb_FB_keysBound 14 = .ok (.iload_n 1, 1) := by decide +kernel
theorem nd_FB_keysBound_15 : decode nb_FB_keysBound 15 = .ok (.iload_n 3, 1) := by decide +kernel
theorem nd_FB_keysBound_16 : decode nb_FB_keysBound 16 = .ok (.invokevirtual 53, 3) := by decide +kernel
theorem nd_FB_keysBound_19 : decode nb_FB_keysBound 19 = .ok (.ifCond .eq 6, 3) := by decide +kernel
theorem nd_FB_keysBound_22 : decode nb_FB_keysBound 22 = .ok (.iinc 2 1, 3) := by decide +kernel
theorem nd_FB_keysBound_25 : decode nb_FB_keysBound 25 = .ok (.iinc 3 1, 3) := by decide +kernel
theorem nd_FB_keysBound_28 : decode nb_FB_keysBound 28 = .ok (.goto (-24), 3) := by decide +kernel
theorem nd_FB_keysBound_31 : decode nb_FB_keysBound 31 = .ok (.iload_n 2, 1) := by decide +kernel
theorem nd_FB_keysBound_32 : decode nb_FB_keysBound 32 = .ok (.ireturn, 1) := by decide +kernel
abbrev nb_FB_leastUnusedSnapshot : ByteArray := prog_1_method_29_code
def ny_FB_leastUnusedSnapshot : MethodName := ⟨nr_FB, "leastUnusedSnapshot", "()I"⟩
theorem nc_FB_leastUnusedSnapshot : Cond.code ny_FB_leastUnusedSnapshot nb_FB_leastUnusedSnapshot 2 (some .int) ∈ wl := wl_t2 144 rfl rfl
theorem nd_FB_leastUnusedSnapshot_0 : decode nb_FB_leastUnusedSnapshot 0 = .ok (.iconst 1, 1) := by decide +kernel
theorem nd_FB_leastUnusedSnapshot_1 : decode nb_FB_leastUnusedSnapshot 1 = .ok (.istore_n 1, 1) := by decide +kernel
theorem nd_FB_leastUnusedSnapshot_2 : decode nb_FB_leastUnusedSnapshot 2 = .ok (.iload_n 1, 1) := by decide +kernel
theorem nd_FB_leastUnusedSnapshot_3 : decode nb_FB_leastUnusedSnapshot 3 = .ok (.aload_n 0, 1) := by decide +kernel
theorem nd_FB_leastUnusedSnapshot_4 : decode nb_FB_leastUnusedSnapshot 4 = .ok (.getfield 16, 3) := by decide +kernel
theorem nd_FB_leastUnusedSnapshot_7 : decode nb_FB_leastUnusedSnapshot 7 = .ok (.arraylength, 1) := by decide +kernel
theorem nd_FB_leastUnusedSnapshot_8 : decode nb_FB_leastUnusedSnapshot 8 = .ok (.if_icmp .ge 21, 3) := by decide +kernel
theorem nd_FB_leastUnusedSnapshot_11 : decode nb_FB_leastUnusedSnapshot 11 = .ok (.aload_n 0, 1) := by decide +kernel
theorem nd_FB_leastUnusedSnapshot_12 : decode nb_FB_leastUnusedSnapshot 12 = .ok (.getfield 16, 3) := by decide +kernel
theorem nd_FB_leastUnusedSnapshot_15 : decode nb_FB_leastUnusedSnapshot 15 = .ok (.iload_n 1, 1) := by decide +kernel
theorem nd_FB_leastUnusedSnapshot_16 : decode nb_FB_leastUnusedSnapshot 16 = .ok (.iaload, 1) := by decide +kernel
theorem nd_FB_leastUnusedSnapshot_17 : decode nb_FB_leastUnusedSnapshot 17 = .ok (.iconst (-1), 1) := by decide +kernel
theorem nd_FB_leastUnusedSnapshot_18 : decode nb_FB_leastUnusedSnapshot 18 = .ok (.if_icmp .ne 5, 3) := by decide +kernel
theorem nd_FB_leastUnusedSnapshot_21 : decode nb_FB_leastUnusedSnapshot 21 = .ok (.iload_n 1, 1) := by decide +kernel
theorem nd_FB_leastUnusedSnapshot_22 : decode nb_FB_leastUnusedSnapshot 22 = .ok (.ireturn, 1) := by decide +kernel
theorem nd_FB_leastUnusedSnapshot_23 : decode nb_FB_leastUnusedSnapshot 23 = .ok (.iinc 1 1, 3) := by decide +kernel
theorem nd_FB_leastUnusedSnapshot_26 : decode nb_FB_leastUnusedSnapshot 26 = .ok (.goto (-24), 3) := by decide +kernel
theorem nd_FB_leastUnusedSnapshot_29 : decode nb_FB_leastUnusedSnapshot 29 = .ok (.iconst (-1), 1) := by decide +kernel
theorem nd_FB_leastUnusedSnapshot_30 : decode nb_FB_leastUnusedSnapshot 30 = .ok (.ireturn, 1) := by decide +kernel
abbrev nb_FB_snapshotsThere : ByteArray := prog_1_method_30_code
def ny_FB_snapshotsThere : MethodName := ⟨nr_FB, "snapshotsThere", "()I"⟩
theorem nc_FB_snapshotsThere : Cond.code ny_FB_snapshotsThere nb_FB_snapshotsThere 3 (some .int) ∈ wl := wl_t1 81 rfl rfl
theorem nd_FB_snapshotsThere_0 : decode nb_FB_snapshotsThere 0 = .ok (.iconst 0, 1) := by decide +kernel
theorem nd_FB_snapshotsThere_1 : decode nb_FB_snapshotsThere 1 = .ok (.istore_n 1, 1) := by decide +kernel
theorem nd_FB_snapshotsThere_2 : decode nb_FB_snapshotsThere 2 = .ok (.iconst 1, 1) := by decide +kernel
theorem nd_FB_snapshotsThere_3 : decode nb_FB_snapshotsThere 3 = .ok (.istore_n 2, 1) := by decide +kernel
theorem nd_FB_snapshotsThere_4 : decode nb_FB_snapshotsThere 4 = .ok (.iload_n 2, 1) := by decide +kernel
theorem nd_FB_snapshotsThere_5 : decode nb_FB_snapshotsThere 5 = .ok (.aload_n 0, 1) := by decide +kernel
theorem nd_FB_snapshotsThere_6 : decode nb_FB_snapshotsThere 6 = .ok (.getfield 16, 3) := by decide +kernel
theorem nd_FB_snapshotsThere_9 : decode nb_FB_snapshotsThere 9 = .ok (.arraylength, 1) := by decide +kernel
theorem nd_FB_snapshotsThere_10 : decode nb_FB_snapshotsThere 10 = .ok (.if_icmp .ge 22, 3) := by decide +kernel
theorem nd_FB_snapshotsThere_13 : decode nb_FB_snapshotsThere 13 = .ok (.aload_n 0, 1) := by decide +kernel
theorem nd_FB_snapshotsThere_14 : decode nb_FB_snapshotsThere 14 = .ok (.getfield 16, 3) := by decide +kernel
theorem nd_FB_snapshotsThere_17 : decode nb_FB_snapshotsThere 17 = .ok (.iload_n 2, 1) := by decide +kernel
theorem nd_FB_snapshotsThere_18 : decode nb_FB_snapshotsThere 18 = .ok (.iaload, 1) := by decide +kernel
theorem nd_FB_snapshotsThere_19 : decode nb_FB_snapshotsThere 19 = .ok (.iconst (-1), 1) := by decide +kernel
theorem nd_FB_snapshotsThere_20 : decode nb_FB_snapshotsThere 20 = .ok (.if_icmp .eq 6, 3) := by decide +kernel
theorem nd_FB_snapshotsThere_23 : decode nb_FB_snapshotsThere 23 = .ok (.iinc 1 1, 3) := by decide +kernel
theorem nd_FB_snapshotsThere_26 : decode nb_FB_snapshotsThere 26 = .ok (.iinc 2 1, 3) := by decide +kernel
theorem nd_FB_snapshotsThere_29 : decode nb_FB_snapshotsThere 29 = .ok (.goto (-25), 3) := by decide +kernel
theorem nd_FB_snapshotsThere_32 : decode nb_FB_snapshotsThere 32 = .ok (.iload_n 1, 1) := by decide +kernel
theorem nd_FB_snapshotsThere_33 : decode nb_FB_snapshotsThere 33 = .ok (.ireturn, 1) := by decide +kernel
abbrev nb_FB_freeNodes : ByteArray := prog_1_method_31_code
def ny_FB_freeNodes : MethodName := ⟨nr_FB, "freeNodes", "()I"⟩
theorem nc_FB_freeNodes : Cond.code ny_FB_freeNodes nb_FB_freeNodes 1 (some .int) ∈ wl := wl_t1 218 rfl rfl
theorem nd_FB_freeNodes_0 : decode nb_FB_freeNodes 0 = .ok (.aload_n 0, 1) := by decide +kernel
theorem nd_FB_freeNodes_1 : decode nb_FB_freeNodes 1 = .ok (.getfield 10, 3) := by decide +kernel
theorem nd_FB_freeNodes_4 : decode nb_FB_freeNodes 4 = .ok (.invokevirtual 91, 3) := by decide +kernel
theorem nd_FB_freeNodes_7 : decode nb_FB_freeNodes 7 = .ok (.bipush 60, 2) := by decide +kernel
theorem nd_FB_freeNodes_9 : decode nb_FB_freeNodes 9 = .ok (.aload_n 0, 1) := by decide +kernel
theorem nd_FB_freeNodes_10 : decode nb_FB_freeNodes 10 = .ok (.aload_n 0, 1) := by decide +kernel
theorem nd_FB_freeNodes_11 : decode nb_FB_freeNodes 11 = .ok (.getfield 20, 3) := by decide +kernel
theorem nd_FB_freeNodes_14 : decode nb_FB_freeNodes 14 = .ok (.invokevirtual 166, 3) := by decide +kernel
theorem nd_FB_freeNodes_17 : decode nb_FB_freeNodes 17 = .ok (.isub, 1) := by decide +kernel
theorem nd_FB_freeNodes_18 : decode nb_FB_freeNodes 18 = .ok (.aload_n 0, 1) := by decide +kernel
theorem nd_FB_freeNodes_19 : decode nb_FB_freeNodes 19 = .ok (.aload_n 0, 1) := by decide +kernel
theorem nd_FB_freeNodes_20 : decode nb_FB_freeNodes 20 = .ok (.getfield 16, 3) := by decide +kernel
theorem nd_FB_freeNodes_23 : decode nb_FB_freeNodes 23 = .ok (.invokevirtual 166, 3) := by decide +kernel
theorem nd_FB_freeNodes_26 : decode nb_FB_freeNodes 26 = .ok (.isub, 1) := by decide +kernel
theorem nd_FB_freeNodes_27 : decode nb_FB_freeNodes 27 = .ok (.ireturn, 1) := by decide +kernel
abbrev nb_FB_writesNeeded : ByteArray := prog_1_method_32_code
def ny_FB_writesNeeded : MethodName := ⟨nr_FB, "writesNeeded", "()I"⟩
theorem nc_FB_writesNeeded : Cond.code ny_FB_writesNeeded nb_FB_writesNeeded 1 (some .int) ∈ wl := wl_t2 179 rfl rfl
theorem nd_FB_writesNeeded_0 : decode nb_FB_writesNeeded 0 = .ok (.aload_n 0, 1) := by decide +kernel
theorem nd_FB_writesNeeded_1 : decode nb_FB_writesNeeded 1 = .ok (.getfield 10, 3) := by decide +kernel
theorem nd_FB_writesNeeded_4 : decode nb_FB_writesNeeded 4 = .ok (.invokevirtual 91, 3) := by decide +kernel
theorem nd_FB_writesNeeded_7 : decode nb_FB_writesNeeded 7 = .ok (.aload_n 0, 1) := by decide +kernel
theorem nd_FB_writesNeeded_8 : decode nb_FB_writesNeeded 8 = .ok (.aload_n 0, 1) := by decide +kernel
theorem nd_FB_writesNeeded_9 : decode nb_FB_writesNeeded 9 = .ok (.getfield 20, 3) := by decide +kernel
theorem nd_FB_writesNeeded_12 : decode nb_FB_writesNeeded 12 = .ok (.invokevirtual 166, 3) := by decide +kernel
theorem nd_FB_writesNeeded_15 : decode nb_FB_writesNeeded 15 = .ok (.pop, 1) := by decide +kernel
theorem nd_FB_writesNeeded_16 : decode nb_FB_writesNeeded 16 = .ok (.aload_n 0, 1) := by decide +kernel
theorem nd_FB_writesNeeded_17 : decode nb_FB_writesNeeded 17 = .ok (.aload_n 0, 1) := by decide +kernel
theorem nd_FB_writesNeeded_18 : decode nb_FB_writesNeeded 18 = .ok (.getfield 16, 3) := by decide +kernel
theorem nd_FB_writesNeeded_21 : decode nb_FB_writesNeeded 21 = .ok (.invokevirtual 166, 3) := by decide +kernel
theorem nd_FB_writesNeeded_24 : decode nb_FB_writesNeeded 24 = .ok (.iconst 1, 1) := by decide +kernel
theorem nd_FB_writesNeeded_25 : decode nb_FB_writesNeeded 25 = .ok (.iadd, 1) := by decide +kernel
theorem nd_FB_writesNeeded_26 : decode nb_FB_writesNeeded 26 = .ok (.ireturn, 1) := by decide +kernel
abbrev nb_FB_markMaps : ByteArray := prog_1_method_33_code
def ny_FB_markMaps : MethodName := ⟨nr_FB, "markMaps", "([I)I"⟩
theorem nc_FB_markMaps : Cond.code ny_FB_markMaps nb_FB_markMaps 4 (some .int) ∈ wl := wl_t1 226 rfl rfl
theorem nd_FB_markMaps_0 : decode nb_FB_markMaps 0 = .ok (.iconst 0, 1) := by decide +kernel
theorem nd_FB_markMaps_1 : decode nb_FB_markMaps 1 = .ok (.istore_n 2, 1) := by decide +kernel
theorem nd_FB_markMaps_2 : decode nb_FB_markMaps 2 = .ok (.iconst 0, 1) := by decide +kernel
theorem nd_FB_markMaps_3 : decode nb_FB_markMaps 3 = .ok (.istore_n 3, 1) := by decide +kernel
theorem nd_FB_markMaps_4 : decode nb_FB_markMaps 4 = .ok (.iload_n 3, 1) := by decide +kernel
theorem nd_FB_markMaps_5 : decode nb_FB_markMaps 5 = .ok (.aload_n 1, 1) := by decide +kernel
theorem nd_FB_markMaps_6 : decode nb_FB_markMaps 6 = .ok (.arraylength, 1) := by decide +kernel
theorem nd_FB_markMaps_7 : decode nb_FB_markMaps 7 = .ok (.if_icmp .ge 29, 3) := by decide +kernel
theorem nd_FB_markMaps_10 : decode nb_FB_markMaps 10 = .ok (.aload_n 1, 1) := by decide +kernel
theorem nd_FB_markMaps_11 : decode nb_FB_markMaps 11 = .ok (.iload_n 3, 1) := by decide +kernel
theorem nd_FB_markMaps_12 : decode nb_FB_markMaps 12 = .ok (.iaload, 1) := by decide +kernel
theorem nd_FB_markMaps_13 : decode nb_FB_markMaps 13 = .ok (.iconst (-1), 1) := by decide +kernel
theorem nd_FB_markMaps_14 : decode nb_FB_markMaps 14 = .ok (.if_icmp .eq 16, 3) := by decide +kernel
theorem nd_FB_markMaps_17 : decode nb_FB_markMaps 17 = .ok (.iload_n 2, 1) := by decide +kernel
theorem nd_FB_markMaps_18 : decode nb_FB_markMaps 18 = .ok (.aload_n 0, 1) := by decide +kernel
theorem nd_FB_markMaps_19 : decode nb_FB_markMaps 19 = .ok (.getfield 10, 3) := by decide +kernel
theorem nd_FB_markMaps_22 : decode nb_FB_markMaps 22 = .ok (.aload_n 1, 1) := by decide +kernel
theorem nd_FB_markMaps_23 : decode nb_FB_markMaps 23 = .ok (.iload_n 3, 1) := by decide +kernel
theorem nd_FB_markMaps_24 : decode nb_FB_markMaps 24 = .ok (.iaload, 1) := by decide +kernel
theorem nd_FB_markMaps_25 : decode nb_FB_markMaps 25 = .ok (.invokevirtual 94, 3) := by decide +kernel
theorem nd_FB_markMaps_28 : decode nb_FB_markMaps 28 = .ok (.iadd, 1) := by decide +kernel
theorem nd_FB_markMaps_29 : decode nb_FB_markMaps 29 = .ok (.istore_n 2, 1) := by decide +kernel
theorem nd_FB_markMaps_30 : decode nb_FB_markMaps 30 = .ok (.iinc 3 1, 3) := by decide +kernel
theorem nd_FB_markMaps_33 : decode nb_FB_markMaps 33 = .ok (.goto (-29), 3) := by decide +kernel
theorem nd_FB_markMaps_36 : decode nb_FB_markMaps 36 = .ok (.iload_n 2, 1) := by decide +kernel
theorem nd_FB_markMaps_37 : decode nb_FB_markMaps 37 = .ok (.ireturn, 1) := by decide +kernel
abbrev nb_FB_failsWithin : ByteArray := prog_1_method_34_code
def ny_FB_failsWithin : MethodName := ⟨nr_FB, "failsWithin", "(I)Z"⟩
theorem nc_FB_failsWithin : Cond.code ny_FB_failsWithin nb_FB_failsWithin 2 (some .boolean) ∈ wl := wl_t2 183 rfl rfl
theorem nd_FB_failsWithin_0 : decode nb_FB_failsWithin 0 = .ok (.aload_n 0, 1) := by decide +kernel
theorem nd_FB_failsWithin_1 : decode nb_FB_failsWithin 1 = .ok (.getfield 23, 3) := by decide +kernel
theorem nd_FB_failsWithin_4 : decode nb_FB_failsWithin 4 = .ok (.iconst (-1), 1) := by decide +kernel
theorem nd_FB_failsWithin_5 : decode nb_FB_failsWithin 5 = .ok (.if_icmp .eq 15, 3) := by decide +kernel
theorem nd_FB_failsWithin_8 : decode nb_FB_failsWithin 8 = .ok (.aload_n 0, 1) := by decide +kernel
theorem nd_FB_failsWithin_9 : decode nb_FB_failsWithin 9 = .ok (.getfield 23, 3) := by decide +kernel
theorem nd_FB_failsWithin_12 : decode nb_FB_failsWithin 12 = .ok (.iload_n 1, 1) := by decide +kernel
theorem nd_FB_failsWithin_13 : decode nb_FB_failsWithin 13 = .ok (.if_icmp .ge 7, 3) := by decide +kernel
theorem nd_FB_failsWithin_16 : decode nb_FB_failsWithin 16 = .ok (.iconst 1, 1) := by decide +kernel
theorem nd_FB_failsWithin_17 : decode nb_FB_failsWithin 17 = .ok (.goto 4, 3) := by decide +kernel
theorem nd_FB_failsWithin_20 : decode nb_FB_failsWithin 20 = .ok (.iconst 0, 1) := by decide +kernel
theorem nd_FB_failsWithin_21 : decode nb_FB_failsWithin 21 = .ok (.ireturn, 1) := by decide +kernel
abbrev nb_FB_losePower : ByteArray := prog_1_method_35_code
def ny_FB_losePower : MethodName := ⟨nr_FB, "losePower", "()V"⟩
theorem nc_FB_losePower : Cond.code ny_FB_losePower nb_FB_losePower 1 none ∈ wl := wl_t2 187 rfl rfl
theorem nd_FB_losePower_0 : decode nb_FB_losePower 0 = .ok (.aload_n 0, 1) := by decide +kernel
theorem nd_FB_losePower_1 : decode nb_FB_losePower 1 = .ok (.dup, 1) := by decide +kernel
theorem nd_FB_losePower_2 : decode nb_FB_losePower 2 = .ok (.getfield 133, 3) := by decide +kernel
theorem nd_FB_losePower_5 : decode nb_FB_losePower 5 = .ok (.aload_n 0, 1) := by decide +kernel
theorem nd_FB_losePower_6 : decode nb_FB_losePower 6 = .ok (.getfield 23, 3) := by decide +kernel
theorem nd_FB_losePower_9 : decode nb_FB_losePower 9 = .ok (.iadd, 1) := by decide +kernel
theorem nd_FB_losePower_10 : decode nb_FB_losePower 10 = .ok (.putfield 133, 3) := by decide +kernel
theorem nd_FB_losePower_13 : decode nb_FB_losePower 13 = .ok (.aload_n 0, 1) := by decide +kernel
theorem nd_FB_losePower_14 : decode nb_FB_losePower 14 = .ok (.iconst (-1), 1) := by decide +kernel
theorem nd_FB_losePower_15 : decode nb_FB_losePower 15 = .ok (.putfield 23, 3) := by decide +kernel
theorem nd_FB_losePower_18 : decode nb_FB_losePower 18 = .ok (.aload_n 0, 1) := by decide +kernel
theorem nd_FB_losePower_19 : decode nb_FB_losePower 19 = .ok (.iconst 1, 1) := by decide +kernel
theorem nd_FB_losePower_20 : decode nb_FB_losePower 20 = .ok (.putfield 136, 3) := by decide +kernel
theorem nd_FB_losePower_23 : decode nb_FB_losePower 23 = .ok (.return_, 1) := by decide +kernel
end
section
/-! names and decode rows of FrozenBranchesModel (printed by names.py) -/
abbrev nb_MO_init : ByteArray := prog_4_method_1_code
def ny_MO_init : MethodName := ⟨nr_MO, "<init>", "()V"⟩
theorem nc_MO_init : Cond.code ny_MO_init nb_MO_init 1 none ∈ wl := wl_t2 207 rfl rfl
theorem nd_MO_init_0 : decode nb_MO_init 0 = .ok (.aload_n 0, 1) := by decide +kernel
theorem nd_MO_init_1 : decode nb_MO_init 1 = .ok (.invokespecial 1, 3) := by decide +kernel
theorem nd_MO_init_4 : decode nb_MO_init 4 = .ok (.aload_n 0, 1) := by decide +kernel
theorem nd_MO_init_5 : decode nb_MO_init 5 = .ok (.bipush 14, 2) := by decide +kernel
theorem nd_MO_init_7 : decode nb_MO_init 7 = .ok (.newarray .boolean, 2) := by decide +kernel
theorem nd_MO_init_9 : decode nb_MO_init 9 = .ok (.putfield 7, 3) := by decide +kernel
theorem nd_MO_init_12 : decode nb_MO_init 12 = .ok (.aload_n 0, 1) := by decide +kernel
theorem nd_MO_init_13 : decode nb_MO_init 13 = .ok (.sipush 896, 3) := by decide +kernel
theorem nd_MO_init_16 : decode nb_MO_init 16 = .ok (.newarray .boolean, 2) := by decide +kernel
theorem nd_MO_init_18 : decode nb_MO_init 18 = .ok (.putfield 13, 3) := by decide +kernel
theorem nd_MO_init_21 : decode nb_MO_init 21 = .ok (.aload_n 0, 1) := by decide +kernel
theorem nd_MO_init_22 : decode nb_MO_init 22 = .ok (.sipush 896, 3) := by decide +kernel
theorem nd_MO_init_25 : decode nb_MO_init 25 = .ok (.newarray .int, 2) := by decide +kernel
theorem nd_MO_init_27 : decode nb_MO_init 27 = .ok (.putfield 16, 3) := by decide +kernel
theorem nd_MO_init_30 : decode nb_MO_init 30 = .ok (.aload_n 0, 1) := by decide +kernel
theorem nd_MO_init_31 : decode nb_MO_init 31 = .ok (.sipush 294, 3) := by decide +kernel
theorem nd_MO_init_34 : decode nb_MO_init 34 = .ok (.newarray .int, 2) := by decide +kernel
theorem nd_MO_init_36 : decode nb_MO_init 36 = .ok (.putfield 20, 3) := by decide +kernel
theorem nd_MO_init_39 : decode nb_MO_init 39 = .ok (.aload_n 0, 1) := by decide +kernel
theorem nd_MO_init_40 : decode nb_MO_init 40 = .ok (.iconst (-1), 1) := by decide +kernel
theorem nd_MO_init_41 : decode nb_MO_init 41 = .ok (.putfield 23, 3) := by decide +kernel
theorem nd_MO_init_44 : decode nb_MO_init 44 = .ok (.aload_n 0, 1) := by decide +kernel
theorem nd_MO_init_45 : decode nb_MO_init 45 = .ok (.getfield 7, 3) := by decide +kernel
theorem nd_MO_init_48 : decode nb_MO_init 48 = .ok (.iconst 0, 1) := by decide +kernel
theorem nd_MO_init_49 : decode nb_MO_init 49 = .ok (.iconst 1, 1) := by decide +kernel
theorem nd_MO_init_50 : decode nb_MO_init 50 = .ok (.bastore, 1) := by decide +kernel
theorem nd_MO_init_51 : decode nb_MO_init 51 = .ok (.aload_n 0, 1) := by decide +kernel
theorem nd_MO_init_52 : decode nb_MO_init 52 = .ok (.getfield 7, 3) := by decide +kernel
theorem nd_MO_init_55 : decode nb_MO_init 55 = .ok (.bipush 7, 2) := by decide +kernel
theorem nd_MO_init_57 : decode nb_MO_init 57 = .ok (.iconst 1, 1) := by decide +kernel
theorem nd_MO_init_58 : decode nb_MO_init 58 = .ok (.bastore, 1) := by decide +kernel
theorem nd_MO_init_59 : decode nb_MO_init 59 = .ok (.return_, 1) := by decide +kernel
abbrev nb_MO_thrown : ByteArray := prog_4_method_2_code
def ny_MO_thrown : MethodName := ⟨nr_MO, "thrown", "()I"⟩
theorem nc_MO_thrown : Cond.code ny_MO_thrown nb_MO_thrown 1 (some .int) ∈ wl := wl_t3 3 rfl rfl
theorem nd_MO_thrown_0 : decode nb_MO_thrown 0 = .ok (.aload_n 0, 1) := by decide +kernel
theorem nd_MO_thrown_1 : decode nb_MO_thrown 1 = .ok (.getfield 27, 3) := by decide +kernel
theorem nd_MO_thrown_4 : decode nb_MO_thrown 4 = .ok (.ireturn, 1) := by decide +kernel
abbrev nb_MO_copy : ByteArray := prog_4_method_3_code
def ny_MO_copy : MethodName := ⟨nr_MO, "copy", "(II)V"⟩
theorem nc_MO_copy : Cond.code ny_MO_copy nb_MO_copy 4 none ∈ wl := wl_t3 85 rfl rfl
theorem nd_MO_copy_0 : decode nb_MO_copy 0 = .ok (.aload_n 0, 1) := by decide +kernel
theorem nd_MO_copy_1 : decode nb_MO_copy 1 = .ok (.getfield 7, 3) := by decide +kernel
theorem nd_MO_copy_4 : decode nb_MO_copy 4 = .ok (.iload_n 2, 1) := by decide +kernel
theorem nd_MO_copy_5 : decode nb_MO_copy 5 = .ok (.aload_n 0, 1) := by decide +kernel
theorem nd_MO_copy_6 : decode nb_MO_copy 6 = .ok (.getfield 7, 3) := by decide +kernel
theorem nd_MO_copy_9 : decode nb_MO_copy 9 = .ok (.iload_n 1, 1) := by decide +kernel
theorem nd_MO_copy_10 : decode nb_MO_copy 10 = .ok (.baload, 1) := by decide +kernel
theorem nd_MO_copy_11 : decode nb_MO_copy 11 = .ok (.bastore, 1) := by decide +kernel
theorem nd_MO_copy_12 : decode nb_MO_copy 12 = .ok (.iconst 0, 1) := by decide +kernel
theorem nd_MO_copy_13 : decode nb_MO_copy 13 = .ok (.istore_n 3, 1) := by decide +kernel
theorem nd_MO_copy_14 : decode nb_MO_copy 14 = .ok (.iload_n 3, 1) := by decide +kernel
theorem nd_MO_copy_15 : decode nb_MO_copy 15 = .ok (.bipush 64, 2) := by decide +kernel
theorem nd_MO_copy_17 : decode nb_MO_copy 17 = .ok (.if_icmp .ge 53, 3) := by decide +kernel
theorem nd_MO_copy_20 : decode nb_MO_copy 20 = .ok (.aload_n 0, 1) := by decide +kernel
theorem nd_MO_copy_21 : decode nb_MO_copy 21 = .ok (.getfield 13, 3) := by decide +kernel
theorem nd_MO_copy_24 : decode nb_MO_copy 24 = .ok (.bipush 64, 2) := by decide +kernel
theorem nd_MO_copy_26 : decode nb_MO_copy 26 = .ok (.iload_n 2, 1) := by decide +kernel
theorem nd_MO_copy_27 : decode nb_MO_copy 27 = .ok (.imul, 1) := by decide +kernel
theorem nd_MO_copy_28 : decode nb_MO_copy 28 = .ok (.iload_n 3, 1) := by decide +kernel
theorem nd_MO_copy_29 : decode nb_MO_copy 29 = .ok (.iadd, 1) := by decide +kernel
theorem nd_MO_copy_30 : decode nb_MO_copy 30 = .ok (.aload_n 0, 1) := by decide +kernel
theorem nd_MO_copy_31 : decode nb_MO_copy 31 = .ok (.getfield 13, 3) := by decide +kernel
theorem nd_MO_copy_34 : decode nb_MO_copy 34 = .ok (.bipush 64, 2) := by decide +kernel
theorem nd_MO_copy_36 : decode nb_MO_copy 36 = .ok (.iload_n 1, 1) := by decide +kernel
theorem nd_MO_copy_37 : decode nb_MO_copy 37 = .ok (.imul, 1) := by decide +kernel
theorem nd_MO_copy_38 : decode nb_MO_copy 38 = .ok (.iload_n 3, 1) := by decide +kernel
theorem nd_MO_copy_39 : decode nb_MO_copy 39 = .ok (.iadd, 1) := by decide +kernel
theorem nd_MO_copy_40 : decode nb_MO_copy 40 = .ok (.baload, 1) := by decide +kernel
theorem nd_MO_copy_41 : decode nb_MO_copy 41 = .ok (.bastore, 1) := by decide +kernel
theorem nd_MO_copy_42 : decode nb_MO_copy 42 = .ok (.aload_n 0, 1) := by decide +kernel
theorem nd_MO_copy_43 : decode nb_MO_copy 43 = .ok (.getfield 16, 3) := by decide +kernel
theorem nd_MO_copy_46 : decode nb_MO_copy 46 = .ok (.bipush 64, 2) := by decide +kernel
theorem nd_MO_copy_48 : decode nb_MO_copy 48 = .ok (.iload_n 2, 1) := by decide +kernel
theorem nd_MO_copy_49 : decode nb_MO_copy 49 = .ok (.imul, 1) := by decide +kernel
theorem nd_MO_copy_50 : decode nb_MO_copy 50 = .ok (.iload_n 3, 1) := by decide +kernel
theorem nd_MO_copy_51 : decode nb_MO_copy 51 = .ok (.iadd, 1) := by decide +kernel
theorem nd_MO_copy_52 : decode nb_MO_copy 52 = .ok (.aload_n 0, 1) := by decide +kernel
theorem nd_MO_copy_53 : decode nb_MO_copy 53 = .ok (.getfield 16, 3) := by decide +kernel
theorem nd_MO_copy_56 : decode nb_MO_copy 56 = .ok (.bipush 64, 2) := by decide +kernel
theorem nd_MO_copy_58 : decode nb_MO_copy 58 = .ok (.iload_n 1, 1) := by decide +kernel
theorem nd_MO_copy_59 : decode nb_MO_copy 59 = .ok (.imul, 1) := by decide +kernel
theorem nd_MO_copy_60 : decode nb_MO_copy 60 = .ok (.iload_n 3, 1) := by decide +kernel
theorem nd_MO_copy_61 : decode nb_MO_copy 61 = .ok (.iadd, 1) := by decide +kernel
theorem nd_MO_copy_62 : decode nb_MO_copy 62 = .ok (.iaload, 1) := by decide +kernel
theorem nd_MO_copy_63 : decode nb_MO_copy 63 = .ok (.iastore, 1) := by decide +kernel
theorem nd_MO_copy_64 : decode nb_MO_copy 64 = .ok (.iinc 3 1, 3) := by decide +kernel
theorem nd_MO_copy_67 : decode nb_MO_copy 67 = .ok (.goto (-53), 3) := by decide +kernel
theorem nd_MO_copy_70 : decode nb_MO_copy 70 = .ok (.iconst 0, 1) := by decide +kernel
theorem nd_MO_copy_71 : decode nb_MO_copy 71 = .ok (.istore_n 3, 1) := by decide +kernel
theorem nd_MO_copy_72 : decode nb_MO_copy 72 = .ok (.iload_n 3, 1) := by decide +kernel
theorem nd_MO_copy_73 : decode nb_MO_copy 73 = .ok (.bipush 21, 2) := by decide +kernel
theorem nd_MO_copy_75 : decode nb_MO_copy 75 = .ok (.if_icmp .ge 31, 3) := by decide +kernel
theorem nd_MO_copy_78 : decode nb_MO_copy 78 = .ok (.aload_n 0, 1) := by decide +kernel
theorem nd_MO_copy_79 : decode nb_MO_copy 79 = .ok (.getfield 20, 3) := by decide +kernel
theorem nd_MO_copy_82 : decode nb_MO_copy 82 = .ok (.bipush 21, 2) := by decide +kernel
theorem nd_MO_copy_84 : decode nb_MO_copy 84 = .ok (.iload_n 2, 1) := by decide +kernel
theorem nd_MO_copy_85 : decode nb_MO_copy 85 = .ok (.imul, 1) := by decide +kernel
theorem nd_MO_copy_86 : decode nb_MO_copy 86 = .ok (.iload_n 3, 1) := by decide +kernel
theorem nd_MO_copy_87 : decode nb_MO_copy 87 = .ok (.iadd, 1) := by decide +kernel
theorem nd_MO_copy_88 : decode nb_MO_copy 88 = .ok (.aload_n 0, 1) := by decide +kernel
theorem nd_MO_copy_89 : decode nb_MO_copy 89 = .ok (.getfield 20, 3) := by decide +kernel
theorem nd_MO_copy_92 : decode nb_MO_copy 92 = .ok (.bipush 21, 2) := by decide +kernel
theorem nd_MO_copy_94 : decode nb_MO_copy 94 = .ok (.iload_n 1, 1) := by decide +kernel
theorem nd_MO_copy_95 : decode nb_MO_copy 95 = .ok (.imul, 1) := by decide +kernel
theorem nd_MO_copy_96 : decode nb_MO_copy 96 = .ok (.iload_n 3, 1) := by decide +kernel
theorem nd_MO_copy_97 : decode nb_MO_copy 97 = .ok (.iadd, 1) := by decide +kernel
theorem nd_MO_copy_98 : decode nb_MO_copy 98 = .ok (.iaload, 1) := by decide +kernel
theorem nd_MO_copy_99 : decode nb_MO_copy 99 = .ok (.iastore, 1) := by decide +kernel
theorem nd_MO_copy_100 : decode nb_MO_copy 100 = .ok (.iinc 3 1, 3) := by decide +kernel
theorem nd_MO_copy_103 : decode nb_MO_copy 103 = .ok (.goto (-31), 3) := by decide +kernel
theorem nd_MO_copy_106 : decode nb_MO_copy 106 = .ok (.return_, 1) := by decide +kernel
abbrev nb_MO_empty : ByteArray := prog_4_method_4_code
def ny_MO_empty : MethodName := ⟨nr_MO, "empty", "(I)V"⟩
theorem nc_MO_empty : Cond.code ny_MO_empty nb_MO_empty 3 none ∈ wl := wl_t3 101 rfl rfl
theorem nd_MO_empty_0 : decode nb_MO_empty 0 = .ok (.aload_n 0, 1) := by decide +kernel
theorem nd_MO_empty_1 : decode nb_MO_empty 1 = .ok (.getfield 7, 3) := by decide +kernel
theorem nd_MO_empty_4 : decode nb_MO_empty 4 = .ok (.iload_n 1, 1) := by decide +kernel
theorem nd_MO_empty_5 : decode nb_MO_empty 5 = .ok (.iconst 0, 1) := by decide +kernel
theorem nd_MO_empty_6 : decode nb_MO_empty 6 = .ok (.bastore, 1) := by decide +kernel
theorem nd_MO_empty_7 : decode nb_MO_empty 7 = .ok (.iconst 0, 1) := by decide +kernel
theorem nd_MO_empty_8 : decode nb_MO_empty 8 = .ok (.istore_n 2, 1) := by decide +kernel
theorem nd_MO_empty_9 : decode nb_MO_empty 9 = .ok (.iload_n 2, 1) := by decide +kernel
theorem nd_MO_empty_10 : decode nb_MO_empty 10 = .ok (.bipush 64, 2) := by decide +kernel
theorem nd_MO_empty_12 : decode nb_MO_empty 12 = .ok (.if_icmp .ge 21, 3) := by decide +kernel
theorem nd_MO_empty_15 : decode nb_MO_empty 15 = .ok (.aload_n 0, 1) := by decide +kernel
theorem nd_MO_empty_16 : decode nb_MO_empty 16 = .ok (.getfield 13, 3) := by decide +kernel
theorem nd_MO_empty_19 : decode nb_MO_empty 19 = .ok (.bipush 64, 2) := by decide +kernel
theorem nd_MO_empty_21 : decode nb_MO_empty 21 = .ok (.iload_n 1, 1) := by decide +kernel
theorem nd_MO_empty_22 : decode nb_MO_empty 22 = .ok (.imul, 1) := by decide +kernel
theorem nd_MO_empty_23 : decode nb_MO_empty 23 = .ok (.iload_n 2, 1) := by decide +kernel
theorem nd_MO_empty_24 : decode nb_MO_empty 24 = .ok (.iadd, 1) := by decide +kernel
theorem nd_MO_empty_25 : decode nb_MO_empty 25 = .ok (.iconst 0, 1) := by decide +kernel
theorem nd_MO_empty_26 : decode nb_MO_empty 26 = .ok (.bastore, 1) := by decide +kernel
theorem nd_MO_empty_27 : decode nb_MO_empty 27 = .ok (.iinc 2 1, 3) := by decide +kernel
theorem nd_MO_empty_30 : decode nb_MO_empty 30 = .ok (.goto (-21), 3) := by decide +kernel
theorem nd_MO_empty_33 : decode nb_MO_empty 33 = .ok (.iconst 0, 1) := by decide +kernel
theorem nd_MO_empty_34 : decode nb_MO_empty 34 = .ok (.istore_n 2, 1) := by decide +kernel
theorem nd_MO_empty_35 : decode nb_MO_empty 35 = .ok (.iload_n 2, 1) := by decide +kernel
theorem nd_MO_empty_36 : decode nb_MO_empty 36 = .ok (.bipush 21, 2) := by decide +kernel
theorem nd_MO_empty_38 : decode nb_MO_empty 38 = .ok (.if_icmp .ge 21, 3) := by decide +kernel
theorem nd_MO_empty_41 : decode nb_MO_empty 41 = .ok (.aload_n 0, 1) := by decide +kernel
theorem nd_MO_empty_42 : decode nb_MO_empty 42 = .ok (.getfield 20, 3) := by decide +kernel
theorem nd_MO_empty_45 : decode nb_MO_empty 45 = .ok (.bipush 21, 2) := by decide +kernel
theorem nd_MO_empty_47 : decode nb_MO_empty 47 = .ok (.iload_n 1, 1) := by decide +kernel
theorem nd_MO_empty_48 : decode nb_MO_empty 48 = .ok (.imul, 1) := by decide +kernel
theorem nd_MO_empty_49 : decode nb_MO_empty 49 = .ok (.iload_n 2, 1) := by decide +kernel
theorem nd_MO_empty_50 : decode nb_MO_empty 50 = .ok (.iadd, 1) := by decide +kernel
theorem nd_MO_empty_51 : decode nb_MO_empty 51 = .ok (.iconst 0, 1) := by decide +kernel
theorem nd_MO_empty_52 : decode nb_MO_empty 52 = .ok (.iastore, 1) := by decide +kernel
theorem nd_MO_empty_53 : decode nb_MO_empty 53 = .ok (.iinc 2 1, 3) := by decide +kernel
theorem nd_MO_empty_56 : decode nb_MO_empty 56 = .ok (.goto (-21), 3) := by decide +kernel
theorem nd_MO_empty_59 : decode nb_MO_empty 59 = .ok (.return_, 1) := by decide +kernel
abbrev nb_MO_isKey : ByteArray := prog_4_method_5_code
def ny_MO_isKey : MethodName := ⟨nr_MO, "isKey", "(I)Z"⟩
theorem nc_MO_isKey : Cond.code ny_MO_isKey nb_MO_isKey 1 (some .boolean) ∈ wl := wl_t3 10 rfl rfl
theorem nd_MO_isKey_0 : decode nb_MO_isKey 0 = .ok (.iload_n 0, 1) := by decide +kernel
theorem nd_MO_isKey_1 : decode nb_MO_isKey 1 = .ok (.ifCond .lt 13, 3) := by decide +kernel
theorem nd_MO_isKey_4 : decode nb_MO_isKey 4 = .ok (.iload_n 0, 1) := by decide +kernel
theorem nd_MO_isKey_5 : decode nb_MO_isKey 5 = .ok (.bipush 64, 2) := by decide +kernel
theorem nd_MO_isKey_7 : decode nb_MO_isKey 7 = .ok (.if_icmp .ge 7, 3) := by decide +kernel
theorem nd_MO_isKey_10 : decode nb_MO_isKey 10 = .ok (.iconst 1, 1) := by decide +kernel
theorem nd_MO_isKey_11 : decode nb_MO_isKey 11 = .ok (.goto 4, 3) := by decide +kernel
theorem nd_MO_isKey_14 : decode nb_MO_isKey 14 = .ok (.iconst 0, 1) := by decide +kernel
theorem nd_MO_isKey_15 : decode nb_MO_isKey 15 = .ok (.ireturn, 1) := by decide +kernel
abbrev nb_MO_isMap : ByteArray := prog_4_method_6_code
def ny_MO_isMap : MethodName := ⟨nr_MO, "isMap", "(I)Z"⟩
theorem nc_MO_isMap : Cond.code ny_MO_isMap nb_MO_isMap 2 (some .boolean) ∈ wl := wl_t3 57 rfl rfl
theorem nd_MO_isMap_0 : decode nb_MO_isMap 0 = .ok (.iload_n 1, 1) := by decide +kernel
theorem nd_MO_isMap_1 : decode nb_MO_isMap 1 = .ok (.ifCond .lt 22, 3) := by decide +kernel
theorem nd_MO_isMap_4 : decode nb_MO_isMap 4 = .ok (.iload_n 1, 1) := by decide +kernel
theorem nd_MO_isMap_5 : decode nb_MO_isMap 5 = .ok (.bipush 7, 2) := by decide +kernel
theorem nd_MO_isMap_7 : decode nb_MO_isMap 7 = .ok (.if_icmp .ge 16, 3) := by decide +kernel
theorem nd_MO_isMap_10 : decode nb_MO_isMap 10 = .ok (.aload_n 0, 1) := by decide +kernel
theorem nd_MO_isMap_11 : decode nb_MO_isMap 11 = .ok (.getfield 7, 3) := by decide +kernel
theorem nd_MO_isMap_14 : decode nb_MO_isMap 14 = .ok (.iload_n 1, 1) := by decide +kernel
theorem nd_MO_isMap_15 : decode nb_MO_isMap 15 = .ok (.baload, 1) := by decide +kernel
theorem nd_MO_isMap_16 : decode nb_MO_isMap 16 = .ok (.ifCond .eq 7, 3) := by decide +kernel
theorem nd_MO_isMap_19 : decode nb_MO_isMap 19 = .ok (.iconst 1, 1) := by decide +kernel
theorem nd_MO_isMap_20 : decode nb_MO_isMap 20 = .ok (.goto 4, 3) := by decide +kernel
theorem nd_MO_isMap_23 : decode nb_MO_isMap 23 = .ok (.iconst 0, 1) := by decide +kernel
theorem nd_MO_isMap_24 : decode nb_MO_isMap 24 = .ok (.ireturn, 1) := by decide +kernel
abbrev nb_MO_isSnapshot : ByteArray := prog_4_method_7_code
def ny_MO_isSnapshot : MethodName := ⟨nr_MO, "isSnapshot", "(I)Z"⟩
theorem nc_MO_isSnapshot : Cond.code ny_MO_isSnapshot nb_MO_isSnapshot 2 (some .boolean) ∈ wl := wl_t3 93 rfl rfl
theorem nd_MO_isSnapshot_0 : decode nb_MO_isSnapshot 0 = .ok (.iload_n 1, 1) := by decide +kernel
theorem nd_MO_isSnapshot_1 : decode nb_MO_isSnapshot 1 = .ok (.ifCond .le 15, 3) := by decide +kernel
theorem nd_MO_isSnapshot_4 : decode nb_MO_isSnapshot 4 = .ok (.aload_n 0, 1) := by decide +kernel
theorem nd_MO_isSnapshot_5 : decode nb_MO_isSnapshot 5 = .ok (.iload_n 1, 1) := by decide +kernel
theorem nd_MO_isSnapshot_6 : decode nb_MO_isSnapshot 6 = .ok (.invokevirtual 30, 3) := by decide +kernel
theorem nd_MO_isSnapshot_9 : decode nb_MO_isSnapshot 9 = .ok (.ifCond .eq 7, 3) := by decide +kernel
theorem nd_MO_isSnapshot_12 : decode nb_MO_isSnapshot 12 = .ok (.iconst 1, 1) := by decide +kernel
theorem nd_MO_isSnapshot_13 : decode nb_MO_isSnapshot 13 = .ok (.goto 4, 3) := by decide +kernel
theorem nd_MO_isSnapshot_16 : decode nb_MO_isSnapshot 16 = .ok (.iconst 0, 1) := by decide +kernel
theorem nd_MO_isSnapshot_17 : decode nb_MO_isSnapshot 17 = .ok (.ireturn, 1) := by decide +kernel
abbrev nb_MO_boundIn : ByteArray := prog_4_method_8_code
def ny_MO_boundIn : MethodName := ⟨nr_MO, "boundIn", "(III)I"⟩
theorem nc_MO_boundIn : Cond.code ny_MO_boundIn nb_MO_boundIn 6 (some .int) ∈ wl := wl_t3 26 rfl rfl
theorem nd_MO_boundIn_0 : decode nb_MO_boundIn 0 = .ok (.iconst 0, 1) := by decide +kernel
theorem nd_MO_boundIn_1 : decode nb_MO_boundIn 1 = .ok (.istore 4, 2) := by decide +kernel
theorem nd_MO_boundIn_3 : decode nb_MO_boundIn 3 = .ok (.iload_n 2, 1) := by decide +kernel
theorem nd_MO_boundIn_4 : decode nb_MO_boundIn 4 = .ok (.istore 5, 2) := by decide +kernel
theorem nd_MO_boundIn_6 : decode nb_MO_boundIn 6 = .ok (.iload 5, 2) := by decide +kernel
theorem nd_MO_boundIn_8 : decode nb_MO_boundIn 8 = .ok (.iload_n 2, 1) := by decide +kernel
theorem nd_MO_boundIn_9 : decode nb_MO_boundIn 9 = .ok (.iload_n 3, 1) := by decide +kernel
theorem nd_MO_boundIn_10 : decode nb_MO_boundIn 10 = .ok (.iadd, 1) := by decide +kernel
theorem nd_MO_boundIn_11 : decode nb_MO_boundIn 11 = .ok (.if_icmp .ge 35, 3) := by decide +kernel
theorem nd_MO_boundIn_14 : decode nb_MO_boundIn 14 = .ok (.aload_n 0, 1) := by decide +kernel
theorem nd_MO_boundIn_15 : decode nb_MO_boundIn 15 = .ok (.getfield 13, 3) := by decide +kernel
theorem nd_MO_boundIn_18 : decode nb_MO_boundIn 18 = .ok (.bipush 64, 2) := by decide +kernel
theorem nd_MO_boundIn_20 : decode nb_MO_boundIn 20 = .ok (.iload_n 1, 1) := by decide +kernel
theorem nd_MO_boundIn_21 : decode nb_MO_boundIn 21 = .ok (.imul, 1) := by decide +kernel
theorem nd_MO_boundIn_22 : decode nb_MO_boundIn 22 = .ok (.iload 5, 2) := by decide +kernel
theorem nd_MO_boundIn_24 : decode nb_MO_boundIn 24 = .ok (.iadd, 1) := by decide +kernel
theorem nd_MO_boundIn_25 : decode nb_MO_boundIn 25 = .ok (.baload, 1) := by decide +kernel
theorem nd_MO_boundIn_26 : decode nb_MO_boundIn 26 = .ok (.ifCond .eq 10, 3) := by decide +kernel
theorem nd_MO_boundIn_29 : decode nb_MO_boundIn 29 = .ok (.iload 4, 2) := by decide +kernel
theorem nd_MO_boundIn_31 : decode nb_MO_boundIn 31 = .ok (.iconst 1, 1) := by decide +kernel
theorem nd_MO_boundIn_32 : decode nb_MO_boundIn 32 = .ok (.iadd, 1) := by decide +kernel
theorem nd_MO_boundIn_33 : decode nb_MO_boundIn 33 = .ok (.goto 5, 3) := by decide +kernel
theorem nd_MO_boundIn_36 : decode nb_MO_boundIn 36 = .ok (.iload 4, 2) := by decide +kernel
theorem nd_MO_boundIn_38 : decode nb_MO_boundIn 38 = .ok (.istore 4, 2) := by decide +kernel
theorem nd_MO_boundIn_40 : decode nb_MO_boundIn 40 = .ok (.iinc 5 1, 3) := by decide +kernel
theorem nd_MO_boundIn_43 : decode nb_MO_boundIn 43 = .ok (.goto (-37), 3) := by decide +kernel
theorem nd_MO_boundIn_46 : decode nb_MO_boundIn 46 = .ok (.iload 4, 2) := by decide +kernel
theorem nd_MO_boundIn_48 : decode nb_MO_boundIn 48 = .ok (.ireturn, 1) := by decide +kernel
abbrev nb_MO_isIn : ByteArray := prog_4_method_9_code
def ny_MO_isIn : MethodName := ⟨nr_MO, "isIn", "(IIII)Z"⟩
theorem nc_MO_isIn : Cond.code ny_MO_isIn nb_MO_isIn 7 (some .boolean) ∈ wl := wl_t3 41 rfl rfl
theorem nd_MO_isIn_0 : decode nb_MO_isIn 0 = .ok (.iconst 0, 1) := by decide +kernel
theorem nd_MO_isIn_1 : decode nb_MO_isIn 1 = .ok (.istore 5, 2) := by decide +kernel
theorem nd_MO_isIn_3 : decode nb_MO_isIn 3 = .ok (.iload_n 3, 1) := by decide +kernel
theorem nd_MO_isIn_4 : decode nb_MO_isIn 4 = .ok (.istore 6, 2) := by decide +kernel
theorem nd_MO_isIn_6 : decode nb_MO_isIn 6 = .ok (.iload 6, 2) := by decide +kernel
theorem nd_MO_isIn_8 : decode nb_MO_isIn 8 = .ok (.iload 4, 2) := by decide +kernel
theorem nd_MO_isIn_10 : decode nb_MO_isIn 10 = .ok (.if_icmp .ge 37, 3) := by decide +kernel
theorem nd_MO_isIn_13 : decode nb_MO_isIn 13 = .ok (.iload 5, 2) := by decide +kernel
theorem nd_MO_isIn_15 : decode nb_MO_isIn 15 = .ok (.ifCond .ne 19, 3) := by decide +kernel
theorem nd_MO_isIn_18 : decode nb_MO_isIn 18 = .ok (.aload_n 0, 1) := by decide +kernel
theorem nd_MO_isIn_19 : decode nb_MO_isIn 19 = .ok (.getfield 20, 3) := by decide +kernel
theorem nd_MO_isIn_22 : decode nb_MO_isIn 22 = .ok (.bipush 21, 2) := by decide +kernel
theorem nd_MO_isIn_24 : decode nb_MO_isIn 24 = .ok (.iload 6, 2) := by decide +kernel
theorem nd_MO_isIn_26 : decode nb_MO_isIn 26 = .ok (.imul, 1) := by decide +kernel
theorem nd_MO_isIn_27 : decode nb_MO_isIn 27 = .ok (.iload_n 2, 1) := by decide +kernel
theorem nd_MO_isIn_28 : decode nb_MO_isIn 28 = .ok (.iadd, 1) := by decide +kernel
theorem nd_MO_isIn_29 : decode nb_MO_isIn 29 = .ok (.iaload, 1) := by decide +kernel
theorem nd_MO_isIn_30 : decode nb_MO_isIn 30 = .ok (.iload_n 1, 1) := by decide +kernel
theorem nd_MO_isIn_31 : decode nb_MO_isIn 31 = .ok (.if_icmp .ne 7, 3) := by decide +kernel
theorem nd_MO_isIn_34 : decode nb_MO_isIn 34 = .ok (.iconst 1, 1) := by decide +kernel
theorem nd_MO_isIn_35 : decode nb_MO_isIn 35 = .ok (.goto 4, 3) := by decide +kernel
theorem nd_MO_isIn_38 : decode nb_MO_isIn 38 = .ok (.iconst 0, 1) := by decide +kernel
theorem nd_MO_isIn_39 : decode nb_MO_isIn 39 = .ok (.istore 5, 2) := by decide +kernel
theorem nd_MO_isIn_41 : decode nb_MO_isIn 41 = .ok (.iinc 6 1, 3) := by decide +kernel
theorem nd_MO_isIn_44 : decode nb_MO_isIn 44 = .ok (.goto (-38), 3) := by decide +kernel
theorem nd_MO_isIn_47 : decode nb_MO_isIn 47 = .ok (.iload 5, 2) := by decide +kernel
theorem nd_MO_isIn_49 : decode nb_MO_isIn 49 = .ok (.ireturn, 1) := by decide +kernel
abbrev nb_MO_different : ByteArray := prog_4_method_10_code
def ny_MO_different : MethodName := ⟨nr_MO, "different", "(II)I"⟩
theorem nc_MO_different : Cond.code ny_MO_different nb_MO_different 7 (some .int) ∈ wl := wl_t3 37 rfl rfl
theorem nd_MO_different_0 : decode nb_MO_different 0 = .ok (.iconst 0, 1) := by decide +kernel
theorem nd_MO_different_1 : decode nb_MO_different 1 = .ok (.istore_n 3, 1) := by decide +kernel
theorem nd_MO_different_2 : decode nb_MO_different 2 = .ok (.iconst 0, 1) := by decide +kernel
theorem nd_MO_different_3 : decode nb_MO_different 3 = .ok (.istore 4, 2) := by decide +kernel
theorem nd_MO_different_5 : decode nb_MO_different 5 = .ok (.iload 4, 2) := by decide +kernel
theorem nd_MO_different_7 : decode nb_MO_different 7 = .ok (.bipush 21, 2) := by decide +kernel
theorem nd_MO_different_9 : decode nb_MO_different 9 = .ok (.if_icmp .ge 66, 3) := by decide +kernel
theorem nd_MO_different_12 : decode nb_MO_different 12 = .ok (.iload_n 1, 1) := by decide +kernel
theorem nd_MO_different_13 : decode nb_MO_different 13 = .ok (.istore 5, 2) := by decide +kernel
theorem nd_MO_different_15 : decode nb_MO_different 15 = .ok (.iload 5, 2) := by decide +kernel
theorem nd_MO_different_17 : decode nb_MO_different 17 = .ok (.iload_n 2, 1) := by decide +kernel
theorem nd_MO_different_18 : decode nb_MO_different 18 = .ok (.if_icmp .ge 51, 3) := by decide +kernel
theorem nd_MO_different_21 : decode nb_MO_different 21 = .ok (.aload_n 0, 1) := by decide +kernel
theorem nd_MO_different_22 : decode nb_MO_different 22 = .ok (.getfield 20, 3) := by decide +kernel
theorem nd_MO_different_25 : decode nb_MO_different 25 = .ok (.bipush 21, 2) := by decide +kernel
theorem nd_MO_different_27 : decode nb_MO_different 27 = .ok (.iload 5, 2) := by decide +kernel
theorem nd_MO_different_29 : decode nb_MO_different 29 = .ok (.imul, 1) := by decide +kernel
theorem nd_MO_different_30 : decode nb_MO_different 30 = .ok (.iload 4, 2) := by decide +kernel
theorem nd_MO_different_32 : decode nb_MO_different 32 = .ok (.iadd, 1) := by decide +kernel
theorem nd_MO_different_33 : decode nb_MO_different 33 = .ok (.iaload, 1) := by decide +kernel
theorem nd_MO_different_34 : decode nb_MO_different 34 = .ok (.istore 6, 2) := by decide +kernel
theorem nd_MO_different_36 : decode nb_MO_different 36 = .ok (.iload 6, 2) := by decide +kernel
theorem nd_MO_different_38 : decode nb_MO_different 38 = .ok (.ifCond .le 23, 3) := by decide +kernel
theorem nd_MO_different_41 : decode nb_MO_different 41 = .ok (.aload_n 0, 1) := by decide +kernel
theorem nd_MO_different_42 : decode nb_MO_different 42 = .ok (.iload 6, 2) := by decide +kernel
theorem nd_MO_different_44 : decode nb_MO_different 44 = .ok (.iload 4, 2) := by decide +kernel
theorem nd_MO_different_46 : decode nb_MO_different 46 = .ok (.iload_n 1, 1) := by decide +kernel
theorem nd_MO_different_47 : decode nb_MO_different 47 = .ok (.iload 5, 2) := by decide +kernel
theorem nd_MO_different_49 : decode nb_MO_different 49 = .ok (.invokevirtual 34, 3) := by decide +kernel
theorem nd_MO_different_52 : decode nb_MO_different 52 = .ok (.ifCond .ne 9, 3) := by decide +kernel
theorem nd_MO_different_55 : decode nb_MO_different 55 = .ok (.iload_n 3, 1) := by decide +kernel
theorem nd_MO_different_56 : decode nb_MO_different 56 = .ok (.iconst 1, 1) := by decide +kernel
theorem nd_MO_different_57 : decode nb_MO_different 57 = .ok (.iadd, 1) := by decide +kernel
theorem nd_MO_different_58 : decode nb_MO_different 58 = .ok (.goto 4, 3) := by decide +kernel
theorem nd_MO_different_61 : decode nb_MO_different 61 = .ok (.iload_n 3, 1) := by decide +kernel
theorem nd_MO_different_62 : decode nb_MO_different 62 = .ok (.istore_n 3, 1) := by decide +kernel
theorem nd_MO_different_63 : decode nb_MO_different 63 = .ok (.iinc 5 1, 3) := by decide +kernel
theorem nd_MO_different_66 : decode nb_MO_different 66 = .ok (.goto (-51), 3) := by decide +kernel
theorem nd_MO_different_69 : decode nb_MO_different 69 = .ok (.iinc 4 1, 3) := by decide +kernel
theorem nd_MO_different_72 : decode nb_MO_different 72 = .ok (.goto (-67), 3) := by decide +kernel
theorem nd_MO_different_75 : decode nb_MO_different 75 = .ok (.iload_n 3, 1) := by decide +kernel
theorem nd_MO_different_76 : decode nb_MO_different 76 = .ok (.ireturn, 1) := by decide +kernel
abbrev nb_MO_freeNow : ByteArray := prog_4_method_11_code
def ny_MO_freeNow : MethodName := ⟨nr_MO, "freeNow", "()I"⟩
theorem nc_MO_freeNow : Cond.code ny_MO_freeNow nb_MO_freeNow 1 (some .int) ∈ wl := wl_t3 33 rfl rfl
theorem nd_MO_freeNow_0 : decode nb_MO_freeNow 0 = .ok (.bipush 60, 2) := by decide +kernel
theorem nd_MO_freeNow_2 : decode nb_MO_freeNow 2 = .ok (.aload_n 0, 1) := by decide +kernel
theorem nd_MO_freeNow_3 : decode nb_MO_freeNow 3 = .ok (.iconst 0, 1) := by decide +kernel
theorem nd_MO_freeNow_4 : decode nb_MO_freeNow 4 = .ok (.bipush 14, 2) := by decide +kernel
theorem nd_MO_freeNow_6 : decode nb_MO_freeNow 6 = .ok (.invokevirtual 38, 3) := by decide +kernel
theorem nd_MO_freeNow_9 : decode nb_MO_freeNow 9 = .ok (.isub, 1) := by decide +kernel
theorem nd_MO_freeNow_10 : decode nb_MO_freeNow 10 = .ok (.ireturn, 1) := by decide +kernel
abbrev nb_MO_placeOf : ByteArray := prog_4_method_12_code
def ny_MO_placeOf : MethodName := ⟨nr_MO, "placeOf", "(II)I"⟩
theorem nc_MO_placeOf : Cond.code ny_MO_placeOf nb_MO_placeOf 2 (some .int) ∈ wl := wl_t3 29 rfl rfl
theorem nd_MO_placeOf_0 : decode nb_MO_placeOf 0 = .ok (.iload_n 0, 1) := by decide +kernel
theorem nd_MO_placeOf_1 : decode nb_MO_placeOf 1 = .ok (.ifCond .ne 7, 3) := by decide +kernel
theorem nd_MO_placeOf_4 : decode nb_MO_placeOf 4 = .ok (.iconst 0, 1) := by decide +kernel
theorem nd_MO_placeOf_5 : decode nb_MO_placeOf 5 = .ok (.goto 22, 3) := by decide +kernel
theorem nd_MO_placeOf_8 : decode nb_MO_placeOf 8 = .ok (.iload_n 0, 1) := by decide +kernel
theorem nd_MO_placeOf_9 : decode nb_MO_placeOf 9 = .ok (.iconst 1, 1) := by decide +kernel
theorem nd_MO_placeOf_10 : decode nb_MO_placeOf 10 = .ok (.if_icmp .ne 12, 3) := by decide +kernel
theorem nd_MO_placeOf_13 : decode nb_MO_placeOf 13 = .ok (.iconst 1, 1) := by decide +kernel
theorem nd_MO_placeOf_14 : decode nb_MO_placeOf 14 = .ok (.iload_n 1, 1) := by decide +kernel
theorem nd_MO_placeOf_15 : decode nb_MO_placeOf 15 = .ok (.bipush 16, 2) := by decide +kernel
theorem nd_MO_placeOf_17 : decode nb_MO_placeOf 17 = .ok (.idiv, 1) := by decide +kernel
theorem nd_MO_placeOf_18 : decode nb_MO_placeOf 18 = .ok (.iadd, 1) := by decide +kernel
theorem nd_MO_placeOf_19 : decode nb_MO_placeOf 19 = .ok (.goto 8, 3) := by decide +kernel
theorem nd_MO_placeOf_22 : decode nb_MO_placeOf 22 = .ok (.iconst 5, 1) := by decide +kernel
theorem nd_MO_placeOf_23 : decode nb_MO_placeOf 23 = .ok (.iload_n 1, 1) := by decide +kernel
theorem nd_MO_placeOf_24 : decode nb_MO_placeOf 24 = .ok (.iconst 4, 1) := by decide +kernel
theorem nd_MO_placeOf_25 : decode nb_MO_placeOf 25 = .ok (.idiv, 1) := by decide +kernel
theorem nd_MO_placeOf_26 : decode nb_MO_placeOf 26 = .ok (.iadd, 1) := by decide +kernel
theorem nd_MO_placeOf_27 : decode nb_MO_placeOf 27 = .ok (.ireturn, 1) := by decide +kernel
abbrev nb_MO_below : ByteArray := prog_4_method_13_code
def ny_MO_below : MethodName := ⟨nr_MO, "below", "(II)I"⟩
theorem nc_MO_below : Cond.code ny_MO_below nb_MO_below 4 (some .int) ∈ wl := wl_t3 22 rfl rfl
theorem nd_MO_below_0 : decode nb_MO_below 0 = .ok (.iload_n 1, 1) := by decide +kernel
theorem nd_MO_below_1 : decode nb_MO_below 1 = .ok (.ifCond .ne 8, 3) := by decide +kernel
theorem nd_MO_below_4 : decode nb_MO_below 4 = .ok (.bipush 64, 2) := by decide +kernel
theorem nd_MO_below_6 : decode nb_MO_below 6 = .ok (.goto 14, 3) := by decide +kernel
theorem nd_MO_below_9 : decode nb_MO_below 9 = .ok (.iload_n 1, 1) := by decide +kernel
theorem nd_MO_below_10 : decode nb_MO_below 10 = .ok (.iconst 1, 1) := by decide +kernel
theorem nd_MO_below_11 : decode nb_MO_below 11 = .ok (.if_icmp .ne 8, 3) := by decide +kernel
theorem nd_MO_below_14 : decode nb_MO_below 14 = .ok (.bipush 16, 2) := by decide +kernel
theorem nd_MO_below_16 : decode nb_MO_below 16 = .ok (.goto 4, 3) := by decide +kernel
theorem nd_MO_below_19 : decode nb_MO_below 19 = .ok (.iconst 4, 1) := by decide +kernel
theorem nd_MO_below_20 : decode nb_MO_below 20 = .ok (.istore_n 3, 1) := by decide +kernel
theorem nd_MO_below_21 : decode nb_MO_below 21 = .ok (.aload_n 0, 1) := by decide +kernel
theorem nd_MO_below_22 : decode nb_MO_below 22 = .ok (.iconst 0, 1) := by decide +kernel
theorem nd_MO_below_23 : decode nb_MO_below 23 = .ok (.iload_n 2, 1) := by decide +kernel
theorem nd_MO_below_24 : decode nb_MO_below 24 = .ok (.iload_n 2, 1) := by decide +kernel
theorem nd_MO_below_25 : decode nb_MO_below 25 = .ok (.iload_n 3, 1) := by decide +kernel
theorem nd_MO_below_26 : decode nb_MO_below 26 = .ok (.irem, 1) := by decide +kernel
theorem nd_MO_below_27 : decode nb_MO_below 27 = .ok (.isub, 1) := by decide +kernel
theorem nd_MO_below_28 : decode nb_MO_below 28 = .ok (.iload_n 3, 1) := by decide +kernel
theorem nd_MO_below_29 : decode nb_MO_below 29 = .ok (.invokevirtual 42, 3) := by decide +kernel
theorem nd_MO_below_32 : decode nb_MO_below 32 = .ok (.ireturn, 1) := by decide +kernel
abbrev nb_MO_makes : ByteArray := prog_4_method_14_code
def ny_MO_makes : MethodName := ⟨nr_MO, "makes", "(III)Z"⟩
theorem nc_MO_makes : Cond.code ny_MO_makes nb_MO_makes 4 (some .boolean) ∈ wl := wl_t3 18 rfl rfl
theorem nd_MO_makes_0 : decode nb_MO_makes 0 = .ok (.aload_n 0, 1) := by decide +kernel
theorem nd_MO_makes_1 : decode nb_MO_makes 1 = .ok (.iload_n 1, 1) := by decide +kernel
theorem nd_MO_makes_2 : decode nb_MO_makes 2 = .ok (.iload_n 2, 1) := by decide +kernel
theorem nd_MO_makes_3 : decode nb_MO_makes 3 = .ok (.invokevirtual 46, 3) := by decide +kernel
theorem nd_MO_makes_6 : decode nb_MO_makes 6 = .ok (.iload_n 3, 1) := by decide +kernel
theorem nd_MO_makes_7 : decode nb_MO_makes 7 = .ok (.iadd, 1) := by decide +kernel
theorem nd_MO_makes_8 : decode nb_MO_makes 8 = .ok (.ifCond .le 24, 3) := by decide +kernel
theorem nd_MO_makes_11 : decode nb_MO_makes 11 = .ok (.aload_n 0, 1) := by decide +kernel
theorem nd_MO_makes_12 : decode nb_MO_makes 12 = .ok (.getfield 20, 3) := by decide +kernel
theorem nd_MO_makes_15 : decode nb_MO_makes 15 = .ok (.iload_n 1, 1) := by decide +kernel
theorem nd_MO_makes_16 : decode nb_MO_makes 16 = .ok (.iload_n 2, 1) := by decide +kernel
theorem nd_MO_makes_17 : decode nb_MO_makes 17 = .ok (.invokestatic 49, 3) := by decide +kernel
theorem nd_MO_makes_20 : decode nb_MO_makes 20 = .ok (.iaload, 1) := by decide +kernel
theorem nd_MO_makes_21 : decode nb_MO_makes 21 = .ok (.aload_n 0, 1) := by decide +kernel
theorem nd_MO_makes_22 : decode nb_MO_makes 22 = .ok (.getfield 52, 3) := by decide +kernel
theorem nd_MO_makes_25 : decode nb_MO_makes 25 = .ok (.if_icmp .gt 7, 3) := by decide +kernel
theorem nd_MO_makes_28 : decode nb_MO_makes 28 = .ok (.iconst 1, 1) := by decide +kernel
theorem nd_MO_makes_29 : decode nb_MO_makes 29 = .ok (.goto 4, 3) := by decide +kernel
theorem nd_MO_makes_32 : decode nb_MO_makes 32 = .ok (.iconst 0, 1) := by decide +kernel
theorem nd_MO_makes_33 : decode nb_MO_makes 33 = .ok (.ireturn, 1) := by decide +kernel
abbrev nb_MO_fits : ByteArray := prog_4_method_15_code
def ny_MO_fits : MethodName := ⟨nr_MO, "fits", "(II)Z"⟩
theorem nc_MO_fits : Cond.code ny_MO_fits nb_MO_fits 5 (some .boolean) ∈ wl := wl_t3 14 rfl rfl
theorem nd_MO_fits_0 : decode nb_MO_fits 0 = .ok (.iconst 0, 1) := by decide +kernel
theorem nd_MO_fits_1 : decode nb_MO_fits 1 = .ok (.istore_n 3, 1) := by decide +kernel
theorem nd_MO_fits_2 : decode nb_MO_fits 2 = .ok (.iconst 0, 1) := by decide +kernel
theorem nd_MO_fits_3 : decode nb_MO_fits 3 = .ok (.istore 4, 2) := by decide +kernel
theorem nd_MO_fits_5 : decode nb_MO_fits 5 = .ok (.iload 4, 2) := by decide +kernel
theorem nd_MO_fits_7 : decode nb_MO_fits 7 = .ok (.iconst 3, 1) := by decide +kernel
theorem nd_MO_fits_8 : decode nb_MO_fits 8 = .ok (.if_icmp .ge 28, 3) := by decide +kernel
theorem nd_MO_fits_11 : decode nb_MO_fits 11 = .ok (.aload_n 0, 1) := by decide +kernel
theorem nd_MO_fits_12 : decode nb_MO_fits 12 = .ok (.iload 4, 2) := by decide +kernel
theorem nd_MO_fits_14 : decode nb_MO_fits 14 = .ok (.iload_n 1, 1) := by decide +kernel
theorem nd_MO_fits_15 : decode nb_MO_fits 15 = .ok (.iload_n 2, 1) := by decide +kernel
theorem nd_MO_fits_16 : decode nb_MO_fits 16 = .ok (.invokevirtual 55, 3) := by decide +kernel
theorem nd_MO_fits_19 : decode nb_MO_fits 19 = .ok (.ifCond .eq 9, 3) := by decide +kernel
theorem nd_MO_fits_22 : decode nb_MO_fits 22 = .ok (.iload_n 3, 1) := by decide +kernel
theorem nd_MO_fits_23 : decode nb_MO_fits 23 = .ok (.iconst 1, 1) := by decide +kernel
theorem nd_MO_fits_24 : decode nb_MO_fits 24 = .ok (.iadd, 1) := by decide +kernel
theorem nd_MO_fits_25 : decode nb_MO_fits 25 = .ok (.goto 4, 3) := by decide +kernel
theorem nd_MO_fits_28 : decode nb_MO_fits 28 = .ok (.iload_n 3, 1) := by decide +kernel
theorem nd_MO_fits_29 : decode nb_MO_fits 29 = .ok (.istore_n 3, 1) := by decide +kernel
theorem nd_MO_fits_30 : decode nb_MO_fits 30 = .ok (.iinc 4 1, 3) := by decide +kernel
theorem nd_MO_fits_33 : decode nb_MO_fits 33 = .ok (.goto (-28), 3) := by decide +kernel
theorem nd_MO_fits_36 : decode nb_MO_fits 36 = .ok (.iload_n 3, 1) := by decide +kernel
theorem nd_MO_fits_37 : decode nb_MO_fits 37 = .ok (.aload_n 0, 1) := by decide +kernel
theorem nd_MO_fits_38 : decode nb_MO_fits 38 = .ok (.invokevirtual 59, 3) := by decide +kernel
theorem nd_MO_fits_41 : decode nb_MO_fits 41 = .ok (.if_icmp .gt 7, 3) := by decide +kernel
theorem nd_MO_fits_44 : decode nb_MO_fits 44 = .ok (.iconst 1, 1) := by decide +kernel
theorem nd_MO_fits_45 : decode nb_MO_fits 45 = .ok (.goto 4, 3) := by decide +kernel
theorem nd_MO_fits_48 : decode nb_MO_fits 48 = .ok (.iconst 0, 1) := by decide +kernel
theorem nd_MO_fits_49 : decode nb_MO_fits 49 = .ok (.ireturn, 1) := by decide +kernel
abbrev nb_MO_change : ByteArray := prog_4_method_16_code
def ny_MO_change : MethodName := ⟨nr_MO, "change", "(II)V"⟩
theorem nc_MO_change : Cond.code ny_MO_change nb_MO_change 5 none ∈ wl := wl_t3 45 rfl rfl
theorem nd_MO_change_0 : decode nb_MO_change 0 = .ok (.iconst 0, 1) := by decide +kernel
theorem nd_MO_change_1 : decode nb_MO_change 1 = .ok (.istore_n 3, 1) := by decide +kernel
theorem nd_MO_change_2 : decode nb_MO_change 2 = .ok (.iload_n 3, 1) := by decide +kernel
theorem nd_MO_change_3 : decode nb_MO_change 3 = .ok (.iconst 3, 1) := by decide +kernel
theorem nd_MO_change_4 : decode nb_MO_change 4 = .ok (.if_icmp .ge 76, 3) := by decide +kernel
theorem nd_MO_change_7 : decode nb_MO_change 7 = .ok (.iload_n 3, 1) := by decide +kernel
theorem nd_MO_change_8 : decode nb_MO_change 8 = .ok (.iload_n 1, 1) := by decide +kernel
theorem nd_MO_change_9 : decode nb_MO_change 9 = .ok (.invokestatic 49, 3) := by decide +kernel
theorem nd_MO_change_12 : decode nb_MO_change 12 = .ok (.istore 4, 2) := by decide +kernel
theorem nd_MO_change_14 : decode nb_MO_change 14 = .ok (.aload_n 0, 1) := by decide +kernel
theorem nd_MO_change_15 : decode nb_MO_change 15 = .ok (.iload_n 3, 1) := by decide +kernel
theorem nd_MO_change_16 : decode nb_MO_change 16 = .ok (.iload_n 1, 1) := by decide +kernel
theorem nd_MO_change_17 : decode nb_MO_change 17 = .ok (.iload_n 2, 1) := by decide +kernel
theorem nd_MO_change_18 : decode nb_MO_change 18 = .ok (.invokevirtual 55, 3) := by decide +kernel
theorem nd_MO_change_21 : decode nb_MO_change 21 = .ok (.ifCond .eq 24, 3) := by decide +kernel
theorem nd_MO_change_24 : decode nb_MO_change 24 = .ok (.aload_n 0, 1) := by decide +kernel
theorem nd_MO_change_25 : decode nb_MO_change 25 = .ok (.aload_n 0, 1) := by decide +kernel
theorem nd_MO_change_26 : decode nb_MO_change 26 = .ok (.getfield 63, 3) := by decide +kernel
theorem nd_MO_change_29 : decode nb_MO_change 29 = .ok (.iconst 1, 1) := by decide +kernel
theorem nd_MO_change_30 : decode nb_MO_change 30 = .ok (.iadd, 1) := by decide +kernel
theorem nd_MO_change_31 : decode nb_MO_change 31 = .ok (.putfield 63, 3) := by decide +kernel
theorem nd_MO_change_34 : decode nb_MO_change 34 = .ok (.aload_n 0, 1) := by decide +kernel
theorem nd_MO_change_35 : decode nb_MO_change 35 = .ok (.getfield 20, 3) := by decide +kernel
theorem nd_MO_change_38 : decode nb_MO_change 38 = .ok (.iload 4, 2) := by decide +kernel
theorem nd_MO_change_40 : decode nb_MO_change 40 = .ok (.aload_n 0, 1) := by decide +kernel
theorem nd_MO_change_41 : decode nb_MO_change 41 = .ok (.getfield 63, 3) := by decide +kernel
theorem nd_MO_change_44 : decode nb_MO_change 44 = .ok (.iastore, 1) := by decide +kernel
theorem nd_MO_change_45 : decode nb_MO_change 45 = .ok (.aload_n 0, 1) := by decide +kernel
theorem nd_MO_change_46 : decode nb_MO_change 46 = .ok (.getfield 20, 3) := by decide +kernel
theorem nd_MO_change_49 : decode nb_MO_change 49 = .ok (.iload 4, 2) := by decide +kernel
theorem nd_MO_change_51 : decode nb_MO_change 51 = .ok (.aload_n 0, 1) := by decide +kernel
theorem nd_MO_change_52 : decode nb_MO_change 52 = .ok (.iload_n 3, 1) := by decide +kernel
theorem nd_MO_change_53 : decode nb_MO_change 53 = .ok (.iload_n 1, 1) := by decide +kernel
theorem nd_MO_change_54 : decode nb_MO_change 54 = .ok (.invokevirtual 46, 3) := by decide +kernel
theorem nd_MO_change_57 : decode nb_MO_change 57 = .ok (.iload_n 2, 1) := by decide +kernel
theorem nd_MO_change_58 : decode nb_MO_change 58 = .ok (.iadd, 1) := by decide +kernel
theorem nd_MO_change_59 : decode nb_MO_change 59 = .ok (.ifCond .le 13, 3) := by decide +kernel
theorem nd_MO_change_62 : decode nb_MO_change 62 = .ok (.aload_n 0, 1) := by decide +kernel
theorem nd_MO_change_63 : decode nb_MO_change 63 = .ok (.getfield 20, 3) := by decide +kernel
theorem nd_MO_change_66 : decode nb_MO_change 66 = .ok (.iload 4, 2) := by decide +kernel
theorem nd_MO_change_68 : decode nb_MO_change 68 = .ok (.iaload, 1) := by decide +kernel
theorem nd_MO_change_69 : decode nb_MO_change 69 = .ok (.goto 4, 3) := by decide +kernel
theorem nd_MO_change_72 : decode nb_MO_change 72 = .ok (.iconst 0, 1) := by decide +kernel
theorem nd_MO_change_73 : decode nb_MO_change 73 = .ok (.iastore, 1) := by decide +kernel
theorem nd_MO_change_74 : decode nb_MO_change 74 = .ok (.iinc 3 1, 3) := by decide +kernel
theorem nd_MO_change_77 : decode nb_MO_change 77 = .ok (.goto (-75), 3) := by decide +kernel
theorem nd_MO_change_80 : decode nb_MO_change 80 = .ok (.aload_n 0, 1) := by decide +kernel
theorem nd_MO_change_81 : decode nb_MO_change 81 = .ok (.getfield 13, 3) := by decide +kernel
theorem nd_MO_change_84 : decode nb_MO_change 84 = .ok (.iload_n 1, 1) := by decide +kernel
theorem nd_MO_change_85 : decode nb_MO_change 85 = .ok (.iload_n 2, 1) := by decide +kernel
theorem nd_MO_change_86 : decode nb_MO_change 86 = .ok (.ifCond .gt 7, 3) := by decide +kernel
theorem nd_MO_change_89 : decode nb_MO_change 89 = .ok (.iload_n 2, 1) := by decide +kernel
theorem nd_MO_change_90 : decode nb_MO_change 90 = .ok (.ifCond .ne 7, 3) := by decide +kernel
theorem nd_MO_change_93 : decode nb_MO_change 93 = .ok (.iconst 1, 1) := by decide +kernel
theorem nd_MO_change_94 : decode nb_MO_change 94 = .ok (.goto 4, 3) := by decide +kernel
theorem nd_MO_change_97 : decode nb_MO_change 97 = .ok (.iconst 0, 1) := by decide +kernel
theorem nd_MO_change_98 : decode nb_MO_change 98 = .ok (.bastore, 1) := by decide +kernel
theorem nd_MO_change_99 : decode nb_MO_change 99 = .ok (.return_, 1) := by decide +kernel
abbrev nb_MO_put : ByteArray := prog_4_method_17_code
def ny_MO_put : MethodName := ⟨nr_MO, "put", "(II)I"⟩
theorem nc_MO_put : Cond.code ny_MO_put nb_MO_put 5 (some .int) ∈ wl := wl_t3 7 rfl rfl
theorem nd_MO_put_0 : decode nb_MO_put 0 = .ok (.aload_n 0, 1) := by decide +kernel
theorem nd_MO_put_1 : decode nb_MO_put 1 = .ok (.aload_n 0, 1) := by decide +kernel
theorem nd_MO_put_2 : decode nb_MO_put 2 = .ok (.getfield 66, 3) := by decide +kernel
theorem nd_MO_put_5 : decode nb_MO_put 5 = .ok (.ifCond .eq 7, 3) := by decide +kernel
theorem nd_MO_put_8 : decode nb_MO_put 8 = .ok (.iconst 1, 1) := by decide +kernel
theorem nd_MO_put_9 : decode nb_MO_put 9 = .ok (.goto 15, 3) := by decide +kernel
theorem nd_MO_put_12 : decode nb_MO_put 12 = .ok (.iload_n 1, 1) := by decide +kernel
theorem nd_MO_put_13 : decode nb_MO_put 13 = .ok (.invokestatic 70, 3) := by decide +kernel
theorem nd_MO_put_16 : decode nb_MO_put 16 = .ok (.ifCond .ne 7, 3) := by decide +kernel
theorem nd_MO_put_19 : decode nb_MO_put 19 = .ok (.iconst 2, 1) := by decide +kernel
theorem nd_MO_put_20 : decode nb_MO_put 20 = .ok (.goto 4, 3) := by decide +kernel
theorem nd_MO_put_23 : decode nb_MO_put 23 = .ok (.iconst 0, 1) := by decide +kernel
theorem nd_MO_put_24 : decode nb_MO_put 24 = .ok (.putfield 27, 3) := by decide +kernel
theorem nd_MO_put_27 : decode nb_MO_put 27 = .ok (.aload_n 0, 1) := by decide +kernel
theorem nd_MO_put_28 : decode nb_MO_put 28 = .ok (.getfield 27, 3) := by decide +kernel
theorem nd_MO_put_31 : decode nb_MO_put 31 = .ok (.ifCond .le 5, 3) := by decide +kernel
theorem nd_MO_put_34 : decode nb_MO_put 34 = .ok (.iconst 0, 1) := by decide +kernel
theorem nd_MO_put_35 : decode nb_MO_put 35 = .ok (.ireturn, 1) := by decide +kernel
theorem nd_MO_put_36 : decode nb_MO_put 36 = .ok (.aload_n 0, 1) := by decide +kernel
theorem nd_MO_put_37 : decode nb_MO_put 37 = .ok (.getfield 13, 3) := by decide +kernel
theorem nd_MO_put_40 : decode nb_MO_put 40 = .ok (.iload_n 1, 1) := by decide +kernel
theorem nd_MO_put_41 : decode nb_MO_put 41 = .ok (.baload, 1) := by decide +kernel
theorem nd_MO_put_42 : decode nb_MO_put 42 = .ok (.istore_n 3, 1) := by decide +kernel
theorem nd_MO_put_43 : decode nb_MO_put 43 = .ok (.iload_n 3, 1) := by decide +kernel
theorem nd_MO_put_44 : decode nb_MO_put 44 = .ok (.ifCond .eq 15, 3) := by decide +kernel
theorem nd_MO_put_47 : decode nb_MO_put 47 = .ok (.aload_n 0, 1) := by decide +kernel
theorem nd_MO_put_48 : decode nb_MO_put 48 = .ok (.getfield 16, 3) := by decide +kernel
theorem nd_MO_put_51 : decode nb_MO_put 51 = .ok (.iload_n 1, 1) := by decide +kernel
theorem nd_MO_put_52 : decode nb_MO_put 52 = .ok (.iaload, 1) := by decide +kernel
theorem nd_MO_put_53 : decode nb_MO_put 53 = .ok (.iload_n 2, 1) := by decide +kernel
theorem nd_MO_put_54 : decode nb_MO_put 54 = .ok (.if_icmp .ne 5, 3) := by decide +kernel
theorem nd_MO_put_57 : decode nb_MO_put 57 = .ok (.iconst 2, 1) := by decide +kernel
theorem nd_MO_put_58 : decode nb_MO_put 58 = .ok (.ireturn, 1) := by decide +kernel
theorem nd_MO_put_59 : decode nb_MO_put 59 = .ok (.iload_n 3, 1) := by decide +kernel
theorem nd_MO_put_60 : decode nb_MO_put 60 = .ok (.ifCond .eq 7, 3) := by decide +kernel
theorem nd_MO_put_63 : decode nb_MO_put 63 = .ok (.iconst 0, 1) := by decide +kernel
theorem nd_MO_put_64 : decode nb_MO_put 64 = .ok (.goto 4, 3) := by decide +kernel
theorem nd_MO_put_67 : decode nb_MO_put 67 = .ok (.iconst 1, 1) := by decide +kernel
theorem nd_MO_put_68 : decode nb_MO_put 68 = .ok (.istore 4, 2) := by decide +kernel
theorem nd_MO_put_70 : decode nb_MO_put 70 = .ok (.aload_n 0, 1) := by decide +kernel
theorem nd_MO_put_71 : decode nb_MO_put 71 = .ok (.iload_n 1, 1) := by decide +kernel
theorem nd_MO_put_72 : decode nb_MO_put 72 = .ok (.iload 4, 2) := by decide +kernel
theorem nd_MO_put_74 : decode nb_MO_put 74 = .ok (.invokevirtual 73, 3) := by decide +kernel
theorem nd_MO_put_77 : decode nb_MO_put 77 = .ok (.ifCond .ne 10, 3) := by decide +kernel
theorem nd_MO_put_80 : decode nb_MO_put 80 = .ok (.aload_n 0, 1) := by decide +kernel
theorem nd_MO_put_81 : decode nb_MO_put 81 = .ok (.iconst 3, 1) := by decide +kernel
theorem nd_MO_put_82 : decode nb_MO_put 82 = .ok (.putfield 27, 3) := by decide +kernel
theorem nd_MO_put_85 : decode nb_MO_put 85 = .ok (.iconst 0, 1) := by decide +kernel
theorem nd_MO_put_86 : decode nb_MO_put 86 = .ok (.ireturn, 1) := by decide +kernel
theorem nd_MO_put_87 : decode nb_MO_put 87 = .ok (.aload_n 0, 1) := by decide +kernel
theorem nd_MO_put_88 : decode nb_MO_put 88 = .ok (.iload_n 1, 1) := by decide +kernel
theorem nd_MO_put_89 : decode nb_MO_put 89 = .ok (.iload 4, 2) := by decide +kernel
theorem nd_MO_put_91 : decode nb_MO_put 91 = .ok (.invokevirtual 77, 3) := by decide +kernel
theorem nd_MO_put_94 : decode nb_MO_put 94 = .ok (.aload_n 0, 1) := by decide +kernel
theorem nd_MO_put_95 : decode nb_MO_put 95 = .ok (.getfield 16, 3) := by decide +kernel
theorem nd_MO_put_98 : decode nb_MO_put 98 = .ok (.iload_n 1, 1) := by decide +kernel
theorem nd_MO_put_99 : decode nb_MO_put 99 = .ok (.iload_n 2, 1) := by decide +kernel
theorem nd_MO_put_100 : decode nb_MO_put 100 = .ok (.iastore, 1) := by decide +kernel
theorem nd_MO_put_101 : decode nb_MO_put 101 = .ok (.iload_n 3, 1) := by decide +kernel
theorem nd_MO_put_102 : decode nb_MO_put 102 = .ok (.ifCond .eq 7, 3) := by decide +kernel
theorem nd_MO_put_105 : decode nb_MO_put 105 = .ok (.iconst 1, 1) := by decide +kernel
theorem nd_MO_put_106 : decode nb_MO_put 106 = .ok (.goto 4, 3) := by decide +kernel
theorem nd_MO_put_109 : decode nb_MO_put 109 = .ok (.iconst 0, 1) := by decide +kernel
theorem nd_MO_put_110 : decode nb_MO_put 110 = .ok (.ireturn, 1) := by decide +kernel
abbrev nb_MO_remove : ByteArray := prog_4_method_18_code
def ny_MO_remove : MethodName := ⟨nr_MO, "remove", "(I)I"⟩
theorem nc_MO_remove : Cond.code ny_MO_remove nb_MO_remove 2 (some .int) ∈ wl := wl_t3 49 rfl rfl
theorem nd_MO_remove_0 : decode nb_MO_remove 0 = .ok (.aload_n 0, 1) := by decide +kernel
theorem nd_MO_remove_1 : decode nb_MO_remove 1 = .ok (.aload_n 0, 1) := by decide +kernel
theorem nd_MO_remove_2 : decode nb_MO_remove 2 = .ok (.getfield 66, 3) := by decide +kernel
theorem nd_MO_remove_5 : decode nb_MO_remove 5 = .ok (.ifCond .eq 7, 3) := by decide +kernel
theorem nd_MO_remove_8 : decode nb_MO_remove 8 = .ok (.iconst 1, 1) := by decide +kernel
theorem nd_MO_remove_9 : decode nb_MO_remove 9 = .ok (.goto 37, 3) := by decide +kernel
theorem nd_MO_remove_12 : decode nb_MO_remove 12 = .ok (.iload_n 1, 1) := by decide +kernel
theorem nd_MO_remove_13 : decode nb_MO_remove 13 = .ok (.invokestatic 70, 3) := by decide +kernel
theorem nd_MO_remove_16 : decode nb_MO_remove 16 = .ok (.ifCond .eq 12, 3) := by decide +kernel
theorem nd_MO_remove_19 : decode nb_MO_remove 19 = .ok (.aload_n 0, 1) := by decide +kernel
theorem nd_MO_remove_20 : decode nb_MO_remove 20 = .ok (.getfield 13, 3) := by decide +kernel
theorem nd_MO_remove_23 : decode nb_MO_remove 23 = .ok (.iload_n 1, 1) := by decide +kernel
theorem nd_MO_remove_24 : decode nb_MO_remove 24 = .ok (.baload, 1) := by decide +kernel
theorem nd_MO_remove_25 : decode nb_MO_remove 25 = .ok (.ifCond .ne 7, 3) := by decide +kernel
theorem nd_MO_remove_28 : decode nb_MO_remove 28 = .ok (.iconst 2, 1) := by decide +kernel
theorem nd_MO_remove_29 : decode nb_MO_remove 29 = .ok (.goto 17, 3) := by decide +kernel
theorem nd_MO_remove_32 : decode nb_MO_remove 32 = .ok (.aload_n 0, 1) := by decide +kernel
theorem nd_MO_remove_33 : decode nb_MO_remove 33 = .ok (.iload_n 1, 1) := by decide +kernel
theorem nd_MO_remove_34 : decode nb_MO_remove 34 = .ok (.iconst (-1), 1) := by decide +kernel
theorem nd_MO_remove_35 : decode nb_MO_remove 35 = .ok (.invokevirtual 73, 3) := by decide +kernel
theorem nd_MO_remove_38 : decode nb_MO_remove 38 = .ok (.ifCond .ne 7, 3) := by decide +kernel
theorem nd_MO_remove_41 : decode nb_MO_remove 41 = .ok (.iconst 3, 1) := by decide +kernel
theorem nd_MO_remove_42 : decode nb_MO_remove 42 = .ok (.goto 4, 3) := by decide +kernel
theorem nd_MO_remove_45 : decode nb_MO_remove 45 = .ok (.iconst 0, 1) := by decide +kernel
theorem nd_MO_remove_46 : decode nb_MO_remove 46 = .ok (.putfield 27, 3) := by decide +kernel
theorem nd_MO_remove_49 : decode nb_MO_remove 49 = .ok (.aload_n 0, 1) := by decide +kernel
theorem nd_MO_remove_50 : decode nb_MO_remove 50 = .ok (.getfield 27, 3) := by decide +kernel
theorem nd_MO_remove_53 : decode nb_MO_remove 53 = .ok (.ifCond .le 5, 3) := by decide +kernel
theorem nd_MO_remove_56 : decode nb_MO_remove 56 = .ok (.iconst 0, 1) := by decide +kernel
theorem nd_MO_remove_57 : decode nb_MO_remove 57 = .ok (.ireturn, 1) := by decide +kernel
theorem nd_MO_remove_58 : decode nb_MO_remove 58 = .ok (.aload_n 0, 1) := by decide +kernel
theorem nd_MO_remove_59 : decode nb_MO_remove 59 = .ok (.iload_n 1, 1) := by decide +kernel
theorem nd_MO_remove_60 : decode nb_MO_remove 60 = .ok (.iconst (-1), 1) := by decide +kernel
theorem nd_MO_remove_61 : decode nb_MO_remove 61 = .ok (.invokevirtual 77, 3) := by decide +kernel
theorem nd_MO_remove_64 : decode nb_MO_remove 64 = .ok (.aload_n 0, 1) := by decide +kernel
theorem nd_MO_remove_65 : decode nb_MO_remove 65 = .ok (.getfield 16, 3) := by decide +kernel
theorem nd_MO_remove_68 : decode nb_MO_remove 68 = .ok (.iload_n 1, 1) := by decide +kernel
theorem nd_MO_remove_69 : decode nb_MO_remove 69 = .ok (.iaload, 1) := by decide +kernel
theorem nd_MO_remove_70 : decode nb_MO_remove 70 = .ok (.ireturn, 1) := by decide +kernel
abbrev nb_MO_get : ByteArray := prog_4_method_19_code
def ny_MO_get : MethodName := ⟨nr_MO, "get", "(II)I"⟩
theorem nc_MO_get : Cond.code ny_MO_get nb_MO_get 3 (some .int) ∈ wl := wl_t3 53 rfl rfl
theorem nd_MO_get_0 : decode nb_MO_get 0 = .ok (.aload_n 0, 1) := by decide +kernel
theorem nd_MO_get_1 : decode nb_MO_get 1 = .ok (.aload_n 0, 1) := by decide +kernel
theorem nd_MO_get_2 : decode nb_MO_get 2 = .ok (.getfield 66, 3) := by decide +kernel
theorem nd_MO_get_5 : decode nb_MO_get 5 = .ok (.ifCond .eq 7, 3) := by decide +kernel
theorem nd_MO_get_8 : decode nb_MO_get 8 = .ok (.iconst 1, 1) := by decide +kernel
theorem nd_MO_get_9 : decode nb_MO_get 9 = .ok (.goto 41, 3) := by decide +kernel
theorem nd_MO_get_12 : decode nb_MO_get 12 = .ok (.aload_n 0, 1) := by decide +kernel
theorem nd_MO_get_13 : decode nb_MO_get 13 = .ok (.iload_n 1, 1) := by decide +kernel
theorem nd_MO_get_14 : decode nb_MO_get 14 = .ok (.invokevirtual 30, 3) := by decide +kernel
theorem nd_MO_get_17 : decode nb_MO_get 17 = .ok (.ifCond .ne 7, 3) := by decide +kernel
theorem nd_MO_get_20 : decode nb_MO_get 20 = .ok (.iconst 2, 1) := by decide +kernel
theorem nd_MO_get_21 : decode nb_MO_get 21 = .ok (.goto 29, 3) := by decide +kernel
theorem nd_MO_get_24 : decode nb_MO_get 24 = .ok (.iload_n 2, 1) := by decide +kernel
theorem nd_MO_get_25 : decode nb_MO_get 25 = .ok (.invokestatic 70, 3) := by decide +kernel
theorem nd_MO_get_28 : decode nb_MO_get 28 = .ok (.ifCond .eq 17, 3) := by decide +kernel
theorem nd_MO_get_31 : decode nb_MO_get 31 = .ok (.aload_n 0, 1) := by decide +kernel
theorem nd_MO_get_32 : decode nb_MO_get 32 = .ok (.getfield 13, 3) := by decide +kernel
theorem nd_MO_get_35 : decode nb_MO_get 35 = .ok (.bipush 64, 2) := by decide +kernel
theorem nd_MO_get_37 : decode nb_MO_get 37 = .ok (.iload_n 1, 1) := by decide +kernel
theorem nd_MO_get_38 : decode nb_MO_get 38 = .ok (.imul, 1) := by decide +kernel
theorem nd_MO_get_39 : decode nb_MO_get 39 = .ok (.iload_n 2, 1) := by decide +kernel
theorem nd_MO_get_40 : decode nb_MO_get 40 = .ok (.iadd, 1) := by decide +kernel
theorem nd_MO_get_41 : decode nb_MO_get 41 = .ok (.baload, 1) := by decide +kernel
theorem nd_MO_get_42 : decode nb_MO_get 42 = .ok (.ifCond .ne 7, 3) := by decide +kernel
theorem nd_MO_get_45 : decode nb_MO_get 45 = .ok (.iconst 3, 1) := by decide +kernel
theorem nd_MO_get_46 : decode nb_MO_get 46 = .ok (.goto 4, 3) := by decide +kernel
theorem nd_MO_get_49 : decode nb_MO_get 49 = .ok (.iconst 0, 1) := by decide +kernel
theorem nd_MO_get_50 : decode nb_MO_get 50 = .ok (.putfield 27, 3) := by decide +kernel
theorem nd_MO_get_53 : decode nb_MO_get 53 = .ok (.aload_n 0, 1) := by decide +kernel
theorem nd_MO_get_54 : decode nb_MO_get 54 = .ok (.getfield 27, 3) := by decide +kernel
theorem nd_MO_get_57 : decode nb_MO_get 57 = .ok (.ifCond .le 7, 3) := by decide +kernel
theorem nd_MO_get_60 : decode nb_MO_get 60 = .ok (.iconst 0, 1) := by decide +kernel
theorem nd_MO_get_61 : decode nb_MO_get 61 = .ok (.goto 14, 3) := by decide +kernel
theorem nd_MO_get_64 : decode nb_MO_get 64 = .ok (.aload_n 0, 1) := by decide +kernel
theorem nd_MO_get_65 : decode nb_MO_get 65 = .ok (.getfield 16, 3) := by decide +kernel
theorem nd_MO_get_68 : decode nb_MO_get 68 = .ok (.bipush 64, 2) := by decide +kernel
theorem nd_MO_get_70 : decode nb_MO_get 70 = .ok (.iload_n 1, 1) := by decide +kernel
theorem nd_MO_get_71 : decode nb_MO_get 71 = .ok (.imul, 1) := by decide +kernel
theorem nd_MO_get_72 : decode nb_MO_get 72 = .ok (.iload_n 2, 1) := by decide +kernel
theorem nd_MO_get_73 : decode nb_MO_get 73 = .ok (.iadd, 1) := by decide +kernel
theorem nd_MO_get_74 : decode nb_MO_get 74 = .ok (.iaload, 1) := by decide +kernel
theorem nd_MO_get_75 : decode nb_MO_get 75 = .ok (.ireturn, 1) := by decide +kernel
abbrev nb_MO_next : ByteArray := prog_4_method_20_code
def ny_MO_next : MethodName := ⟨nr_MO, "next", "(II)I"⟩
theorem nc_MO_next : Cond.code ny_MO_next nb_MO_next 5 (some .int) ∈ wl := wl_t3 61 rfl rfl
theorem nd_MO_next_0 : decode nb_MO_next 0 = .ok (.aload_n 0, 1) := by decide +kernel
theorem nd_MO_next_1 : decode nb_MO_next 1 = .ok (.aload_n 0, 1) := by decide +kernel
theorem nd_MO_next_2 : decode nb_MO_next 2 = .ok (.getfield 66, 3) := by decide +kernel
theorem nd_MO_next_5 : decode nb_MO_next 5 = .ok (.ifCond .eq 7, 3) := by decide +kernel
theorem nd_MO_next_8 : decode nb_MO_next 8 = .ok (.iconst 1, 1) := by decide +kernel
theorem nd_MO_next_9 : decode nb_MO_next 9 = .ok (.goto 16, 3) := by decide +kernel
theorem nd_MO_next_12 : decode nb_MO_next 12 = .ok (.aload_n 0, 1) := by decide +kernel
theorem nd_MO_next_13 : decode nb_MO_next 13 = .ok (.iload_n 1, 1) := by decide +kernel
theorem nd_MO_next_14 : decode nb_MO_next 14 = .ok (.invokevirtual 30, 3) := by decide +kernel
theorem nd_MO_next_17 : decode nb_MO_next 17 = .ok (.ifCond .eq 7, 3) := by decide +kernel
theorem nd_MO_next_20 : decode nb_MO_next 20 = .ok (.iconst 0, 1) := by decide +kernel
theorem nd_MO_next_21 : decode nb_MO_next 21 = .ok (.goto 4, 3) := by decide +kernel
theorem nd_MO_next_24 : decode nb_MO_next 24 = .ok (.iconst 2, 1) := by decide +kernel
theorem nd_MO_next_25 : decode nb_MO_next 25 = .ok (.putfield 27, 3) := by decide +kernel
theorem nd_MO_next_28 : decode nb_MO_next 28 = .ok (.aload_n 0, 1) := by decide +kernel
theorem nd_MO_next_29 : decode nb_MO_next 29 = .ok (.getfield 27, 3) := by decide +kernel
theorem nd_MO_next_32 : decode nb_MO_next 32 = .ok (.ifCond .le 5, 3) := by decide +kernel
theorem nd_MO_next_35 : decode nb_MO_next 35 = .ok (.iconst 0, 1) := by decide +kernel
theorem nd_MO_next_36 : decode nb_MO_next 36 = .ok (.ireturn, 1) := by decide +kernel
theorem nd_MO_next_37 : decode nb_MO_next 37 = .ok (.iconst (-1), 1) := by decide +kernel
theorem nd_MO_next_38 : decode nb_MO_next 38 = .ok (.istore_n 3, 1) := by decide +kernel
theorem nd_MO_next_39 : decode nb_MO_next 39 = .ok (.bipush 63, 2) := by decide +kernel
theorem nd_MO_next_41 : decode nb_MO_next 41 = .ok (.istore 4, 2) := by decide +kernel
theorem nd_MO_next_43 : decode nb_MO_next 43 = .ok (.iload 4, 2) := by decide +kernel
theorem nd_MO_next_45 : decode nb_MO_next 45 = .ok (.ifCond .lt 37, 3) := by decide +kernel
theorem nd_MO_next_48 : decode nb_MO_next 48 = .ok (.iload 4, 2) := by decide +kernel
theorem nd_MO_next_50 : decode nb_MO_next 50 = .ok (.iload_n 2, 1) := by decide +kernel
theorem nd_MO_next_51 : decode nb_MO_next 51 = .ok (.if_icmp .lt 31, 3) := by decide +kernel
theorem nd_MO_next_54 : decode nb_MO_next 54 = .ok (.aload_n 0, 1) := by decide +kernel
theorem nd_MO_next_55 : decode nb_MO_next 55 = .ok (.getfield 13, 3) := by decide +kernel
theorem nd_MO_next_58 : decode nb_MO_next 58 = .ok (.bipush 64, 2) := by decide +kernel
theorem nd_MO_next_60 : decode nb_MO_next 60 = .ok (.iload_n 1, 1) := by decide +kernel
theorem nd_MO_next_61 : decode nb_MO_next 61 = .ok (.imul, 1) := by decide +kernel
theorem nd_MO_next_62 : decode nb_MO_next 62 = .ok (.iload 4, 2) := by decide +kernel
theorem nd_MO_next_64 : decode nb_MO_next 64 = .ok (.iadd, 1) := by decide +kernel
theorem nd_MO_next_65 : decode nb_MO_next 65 = .ok (.baload, 1) := by decide +kernel
theorem nd_MO_next_66 : decode nb_MO_next 66 = .ok (.ifCond .eq 8, 3) := by decide +kernel
theorem nd_MO_next_69 : decode nb_MO_next 69 = .ok (.iload 4, 2) := by decide +kernel
theorem nd_MO_next_71 : decode nb_MO_next 71 = .ok (.goto 4, 3) := by decide +kernel
theorem nd_MO_next_74 : decode nb_MO_next 74 = .ok (.iload_n 3, 1) := by decide +kernel
theorem nd_MO_next_75 : decode nb_MO_next 75 = .ok (.istore_n 3, 1) := by decide +kernel
theorem nd_MO_next_76 : decode nb_MO_next 76 = .ok (.iinc 4 (-1), 3) := by decide +kernel
theorem nd_MO_next_79 : decode nb_MO_next 79 = .ok (.goto (-36), 3) := by decide +kernel
theorem nd_MO_next_82 : decode nb_MO_next 82 = .ok (.iload_n 3, 1) := by decide +kernel
theorem nd_MO_next_83 : decode nb_MO_next 83 = .ok (.ireturn, 1) := by decide +kernel
abbrev nb_MO_count : ByteArray := prog_4_method_21_code
def ny_MO_count : MethodName := ⟨nr_MO, "count", "(I)I"⟩
theorem nc_MO_count : Cond.code ny_MO_count nb_MO_count 2 (some .int) ∈ wl := wl_t3 65 rfl rfl
theorem nd_MO_count_0 : decode nb_MO_count 0 = .ok (.aload_n 0, 1) := by decide +kernel
theorem nd_MO_count_1 : decode nb_MO_count 1 = .ok (.aload_n 0, 1) := by decide +kernel
theorem nd_MO_count_2 : decode nb_MO_count 2 = .ok (.getfield 66, 3) := by decide +kernel
theorem nd_MO_count_5 : decode nb_MO_count 5 = .ok (.ifCond .eq 7, 3) := by decide +kernel
theorem nd_MO_count_8 : decode nb_MO_count 8 = .ok (.iconst 1, 1) := by decide +kernel
theorem nd_MO_count_9 : decode nb_MO_count 9 = .ok (.goto 16, 3) := by decide +kernel
theorem nd_MO_count_12 : decode nb_MO_count 12 = .ok (.aload_n 0, 1) := by decide +kernel
theorem nd_MO_count_13 : decode nb_MO_count 13 = .ok (.iload_n 1, 1) := by decide +kernel
theorem nd_MO_count_14 : decode nb_MO_count 14 = .ok (.invokevirtual 30, 3) := by decide +kernel
theorem nd_MO_count_17 : decode nb_MO_count 17 = .ok (.ifCond .eq 7, 3) := by decide +kernel
theorem nd_MO_count_20 : decode nb_MO_count 20 = .ok (.iconst 0, 1) := by decide +kernel
theorem nd_MO_count_21 : decode nb_MO_count 21 = .ok (.goto 4, 3) := by decide +kernel
theorem nd_MO_count_24 : decode nb_MO_count 24 = .ok (.iconst 2, 1) := by decide +kernel
theorem nd_MO_count_25 : decode nb_MO_count 25 = .ok (.putfield 27, 3) := by decide +kernel
theorem nd_MO_count_28 : decode nb_MO_count 28 = .ok (.aload_n 0, 1) := by decide +kernel
theorem nd_MO_count_29 : decode nb_MO_count 29 = .ok (.getfield 27, 3) := by decide +kernel
theorem nd_MO_count_32 : decode nb_MO_count 32 = .ok (.ifCond .le 7, 3) := by decide +kernel
theorem nd_MO_count_35 : decode nb_MO_count 35 = .ok (.iconst 0, 1) := by decide +kernel
theorem nd_MO_count_36 : decode nb_MO_count 36 = .ok (.goto 11, 3) := by decide +kernel
theorem nd_MO_count_39 : decode nb_MO_count 39 = .ok (.aload_n 0, 1) := by decide +kernel
theorem nd_MO_count_40 : decode nb_MO_count 40 = .ok (.iload_n 1, 1) := by decide +kernel
theorem nd_MO_count_41 : decode nb_MO_count 41 = .ok (.iconst 0, 1) := by decide +kernel
theorem nd_MO_count_42 : decode nb_MO_count 42 = .ok (.bipush 64, 2) := by decide +kernel
theorem nd_MO_count_44 : decode nb_MO_count 44 = .ok (.invokevirtual 42, 3) := by decide +kernel
theorem nd_MO_count_47 : decode nb_MO_count 47 = .ok (.ireturn, 1) := by decide +kernel
abbrev nb_MO_nodes : ByteArray := prog_4_method_22_code
def ny_MO_nodes : MethodName := ⟨nr_MO, "nodes", "(I)I"⟩
theorem nc_MO_nodes : Cond.code ny_MO_nodes nb_MO_nodes 2 (some .int) ∈ wl := wl_t3 69 rfl rfl
theorem nd_MO_nodes_0 : decode nb_MO_nodes 0 = .ok (.aload_n 0, 1) := by decide +kernel
theorem nd_MO_nodes_1 : decode nb_MO_nodes 1 = .ok (.aload_n 0, 1) := by decide +kernel
theorem nd_MO_nodes_2 : decode nb_MO_nodes 2 = .ok (.getfield 66, 3) := by decide +kernel
theorem nd_MO_nodes_5 : decode nb_MO_nodes 5 = .ok (.ifCond .eq 7, 3) := by decide +kernel
theorem nd_MO_nodes_8 : decode nb_MO_nodes 8 = .ok (.iconst 1, 1) := by decide +kernel
theorem nd_MO_nodes_9 : decode nb_MO_nodes 9 = .ok (.goto 16, 3) := by decide +kernel
theorem nd_MO_nodes_12 : decode nb_MO_nodes 12 = .ok (.aload_n 0, 1) := by decide +kernel
theorem nd_MO_nodes_13 : decode nb_MO_nodes 13 = .ok (.iload_n 1, 1) := by decide +kernel
theorem nd_MO_nodes_14 : decode nb_MO_nodes 14 = .ok (.invokevirtual 30, 3) := by decide +kernel
theorem nd_MO_nodes_17 : decode nb_MO_nodes 17 = .ok (.ifCond .eq 7, 3) := by decide +kernel
theorem nd_MO_nodes_20 : decode nb_MO_nodes 20 = .ok (.iconst 0, 1) := by decide +kernel
theorem nd_MO_nodes_21 : decode nb_MO_nodes 21 = .ok (.goto 4, 3) := by decide +kernel
theorem nd_MO_nodes_24 : decode nb_MO_nodes 24 = .ok (.iconst 2, 1) := by decide +kernel
theorem nd_MO_nodes_25 : decode nb_MO_nodes 25 = .ok (.putfield 27, 3) := by decide +kernel
theorem nd_MO_nodes_28 : decode nb_MO_nodes 28 = .ok (.aload_n 0, 1) := by decide +kernel
theorem nd_MO_nodes_29 : decode nb_MO_nodes 29 = .ok (.getfield 27, 3) := by decide +kernel
theorem nd_MO_nodes_32 : decode nb_MO_nodes 32 = .ok (.ifCond .le 7, 3) := by decide +kernel
theorem nd_MO_nodes_35 : decode nb_MO_nodes 35 = .ok (.iconst 0, 1) := by decide +kernel
theorem nd_MO_nodes_36 : decode nb_MO_nodes 36 = .ok (.goto 11, 3) := by decide +kernel
theorem nd_MO_nodes_39 : decode nb_MO_nodes 39 = .ok (.aload_n 0, 1) := by decide +kernel
theorem nd_MO_nodes_40 : decode nb_MO_nodes 40 = .ok (.iload_n 1, 1) := by decide +kernel
theorem nd_MO_nodes_41 : decode nb_MO_nodes 41 = .ok (.iload_n 1, 1) := by decide +kernel
theorem nd_MO_nodes_42 : decode nb_MO_nodes 42 = .ok (.iconst 1, 1) := by decide +kernel
theorem nd_MO_nodes_43 : decode nb_MO_nodes 43 = .ok (.iadd, 1) := by decide +kernel
theorem nd_MO_nodes_44 : decode nb_MO_nodes 44 = .ok (.invokevirtual 38, 3) := by decide +kernel
theorem nd_MO_nodes_47 : decode nb_MO_nodes 47 = .ok (.ireturn, 1) := by decide +kernel
abbrev nb_MO_shared : ByteArray := prog_4_method_23_code
def ny_MO_shared : MethodName := ⟨nr_MO, "shared", "(II)I"⟩
theorem nc_MO_shared : Cond.code ny_MO_shared nb_MO_shared 6 (some .int) ∈ wl := wl_t3 73 rfl rfl
theorem nd_MO_shared_0 : decode nb_MO_shared 0 = .ok (.aload_n 0, 1) := by decide +kernel
theorem nd_MO_shared_1 : decode nb_MO_shared 1 = .ok (.aload_n 0, 1) := by decide +kernel
theorem nd_MO_shared_2 : decode nb_MO_shared 2 = .ok (.getfield 66, 3) := by decide +kernel
theorem nd_MO_shared_5 : decode nb_MO_shared 5 = .ok (.ifCond .eq 7, 3) := by decide +kernel
theorem nd_MO_shared_8 : decode nb_MO_shared 8 = .ok (.iconst 1, 1) := by decide +kernel
theorem nd_MO_shared_9 : decode nb_MO_shared 9 = .ok (.goto 24, 3) := by decide +kernel
theorem nd_MO_shared_12 : decode nb_MO_shared 12 = .ok (.aload_n 0, 1) := by decide +kernel
theorem nd_MO_shared_13 : decode nb_MO_shared 13 = .ok (.iload_n 1, 1) := by decide +kernel
theorem nd_MO_shared_14 : decode nb_MO_shared 14 = .ok (.invokevirtual 30, 3) := by decide +kernel
theorem nd_MO_shared_17 : decode nb_MO_shared 17 = .ok (.ifCond .eq 15, 3) := by decide +kernel
theorem nd_MO_shared_20 : decode nb_MO_shared 20 = .ok (.aload_n 0, 1) := by decide +kernel
theorem nd_MO_shared_21 : decode nb_MO_shared 21 = .ok (.iload_n 2, 1) := by decide +kernel
theorem nd_MO_shared_22 : decode nb_MO_shared 22 = .ok (.invokevirtual 30, 3) := by decide +kernel
theorem nd_MO_shared_25 : decode nb_MO_shared 25 = .ok (.ifCond .eq 7, 3) := by decide +kernel
theorem nd_MO_shared_28 : decode nb_MO_shared 28 = .ok (.iconst 0, 1) := by decide +kernel
theorem nd_MO_shared_29 : decode nb_MO_shared 29 = .ok (.goto 4, 3) := by decide +kernel
theorem nd_MO_shared_32 : decode nb_MO_shared 32 = .ok (.iconst 2, 1) := by decide +kernel
theorem nd_MO_shared_33 : decode nb_MO_shared 33 = .ok (.putfield 27, 3) := by decide +kernel
theorem nd_MO_shared_36 : decode nb_MO_shared 36 = .ok (.iconst 0, 1) := by decide +kernel
theorem nd_MO_shared_37 : decode nb_MO_shared 37 = .ok (.istore_n 3, 1) := by decide +kernel
theorem nd_MO_shared_38 : decode nb_MO_shared 38 = .ok (.iconst 0, 1) := by decide +kernel
theorem nd_MO_shared_39 : decode nb_MO_shared 39 = .ok (.istore 4, 2) := by decide +kernel
theorem nd_MO_shared_41 : decode nb_MO_shared 41 = .ok (.iload 4, 2) := by decide +kernel
theorem nd_MO_shared_43 : decode nb_MO_shared 43 = .ok (.bipush 21, 2) := by decide +kernel
theorem nd_MO_shared_45 : decode nb_MO_shared 45 = .ok (.if_icmp .ge 60, 3) := by decide +kernel
theorem nd_MO_shared_48 : decode nb_MO_shared 48 = .ok (.aload_n 0, 1) := by decide +kernel
theorem nd_MO_shared_49 : decode nb_MO_shared 49 = .ok (.getfield 27, 3) := by decide +kernel
theorem nd_MO_shared_52 : decode nb_MO_shared 52 = .ok (.ifCond .ne 53, 3) := by decide +kernel
theorem nd_MO_shared_55 : decode nb_MO_shared 55 = .ok (.aload_n 0, 1) := by decide +kernel
theorem nd_MO_shared_56 : decode nb_MO_shared 56 = .ok (.getfield 20, 3) := by decide +kernel
theorem nd_MO_shared_59 : decode nb_MO_shared 59 = .ok (.bipush 21, 2) := by decide +kernel
theorem nd_MO_shared_61 : decode nb_MO_shared 61 = .ok (.iload_n 1, 1) := by decide +kernel
theorem nd_MO_shared_62 : decode nb_MO_shared 62 = .ok (.imul, 1) := by decide +kernel
theorem nd_MO_shared_63 : decode nb_MO_shared 63 = .ok (.iload 4, 2) := by decide +kernel
theorem nd_MO_shared_65 : decode nb_MO_shared 65 = .ok (.iadd, 1) := by decide +kernel
theorem nd_MO_shared_66 : decode nb_MO_shared 66 = .ok (.iaload, 1) := by decide +kernel
theorem nd_MO_shared_67 : decode nb_MO_shared 67 = .ok (.istore 5, 2) := by decide +kernel
theorem nd_MO_shared_69 : decode nb_MO_shared 69 = .ok (.iload 5, 2) := by decide +kernel
theorem nd_MO_shared_71 : decode nb_MO_shared 71 = .ok (.ifCond .le 26, 3) := by decide +kernel
theorem nd_MO_shared_74 : decode nb_MO_shared 74 = .ok (.aload_n 0, 1) := by decide +kernel
theorem nd_MO_shared_75 : decode nb_MO_shared 75 = .ok (.getfield 20, 3) := by decide +kernel
theorem nd_MO_shared_78 : decode nb_MO_shared 78 = .ok (.bipush 21, 2) := by decide +kernel
theorem nd_MO_shared_80 : decode nb_MO_shared 80 = .ok (.iload_n 2, 1) := by decide +kernel
theorem nd_MO_shared_81 : decode nb_MO_shared 81 = .ok (.imul, 1) := by decide +kernel
theorem nd_MO_shared_82 : decode nb_MO_shared 82 = .ok (.iload 4, 2) := by decide +kernel
theorem nd_MO_shared_84 : decode nb_MO_shared 84 = .ok (.iadd, 1) := by decide +kernel
theorem nd_MO_shared_85 : decode nb_MO_shared 85 = .ok (.iaload, 1) := by decide +kernel
theorem nd_MO_shared_86 : decode nb_MO_shared 86 = .ok (.iload 5, 2) := by decide +kernel
theorem nd_MO_shared_88 : decode nb_MO_shared 88 = .ok (.if_icmp .ne 9, 3) := by decide +kernel
theorem nd_MO_shared_91 : decode nb_MO_shared 91 = .ok (.iload_n 3, 1) := by decide +kernel
theorem nd_MO_shared_92 : decode nb_MO_shared 92 = .ok (.iconst 1, 1) := by decide +kernel
theorem nd_MO_shared_93 : decode nb_MO_shared 93 = .ok (.iadd, 1) := by decide +kernel
theorem nd_MO_shared_94 : decode nb_MO_shared 94 = .ok (.goto 4, 3) := by decide +kernel
theorem nd_MO_shared_97 : decode nb_MO_shared 97 = .ok (.iload_n 3, 1) := by decide +kernel
theorem nd_MO_shared_98 : decode nb_MO_shared 98 = .ok (.istore_n 3, 1) := by decide +kernel
theorem nd_MO_shared_99 : decode nb_MO_shared 99 = .ok (.iinc 4 1, 3) := by decide +kernel
theorem nd_MO_shared_102 : decode nb_MO_shared 102 = .ok (.goto (-61), 3) := by decide +kernel
theorem nd_MO_shared_105 : decode nb_MO_shared 105 = .ok (.iload_n 3, 1) := by decide +kernel
theorem nd_MO_shared_106 : decode nb_MO_shared 106 = .ok (.ireturn, 1) := by decide +kernel
abbrev nb_MO_differ : ByteArray := prog_4_method_24_code
def ny_MO_differ : MethodName := ⟨nr_MO, "differ", "(II)I"⟩
theorem nc_MO_differ : Cond.code ny_MO_differ nb_MO_differ 8 (some .int) ∈ wl := wl_t3 77 rfl rfl
theorem nd_MO_differ_0 : decode nb_MO_differ 0 = .ok (.aload_n 0, 1) := by decide +kernel
theorem nd_MO_differ_1 : decode nb_MO_differ 1 = .ok (.aload_n 0, 1) := by decide +kernel
theorem nd_MO_differ_2 : decode nb_MO_differ 2 = .ok (.getfield 66, 3) := by decide +kernel
theorem nd_MO_differ_5 : decode nb_MO_differ 5 = .ok (.ifCond .eq 7, 3) := by decide +kernel
theorem nd_MO_differ_8 : decode nb_MO_differ 8 = .ok (.iconst 1, 1) := by decide +kernel
theorem nd_MO_differ_9 : decode nb_MO_differ 9 = .ok (.goto 24, 3) := by decide +kernel
theorem nd_MO_differ_12 : decode nb_MO_differ 12 = .ok (.aload_n 0, 1) := by decide +kernel
theorem nd_MO_differ_13 : decode nb_MO_differ 13 = .ok (.iload_n 1, 1) := by decide +kernel
theorem nd_MO_differ_14 : decode nb_MO_differ 14 = .ok (.invokevirtual 30, 3) := by decide +kernel
theorem nd_MO_differ_17 : decode nb_MO_differ 17 = .ok (.ifCond .eq 15, 3) := by decide +kernel
theorem nd_MO_differ_20 : decode nb_MO_differ 20 = .ok (.aload_n 0, 1) := by decide +kernel
theorem nd_MO_differ_21 : decode nb_MO_differ 21 = .ok (.iload_n 2, 1) := by decide +kernel
theorem nd_MO_differ_22 : decode nb_MO_differ 22 = .ok (.invokevirtual 30, 3) := by decide +kernel
theorem nd_MO_differ_25 : decode nb_MO_differ 25 = .ok (.ifCond .eq 7, 3) := by decide +kernel
theorem nd_MO_differ_28 : decode nb_MO_differ 28 = .ok (.iconst 0, 1) := by decide +kernel
theorem nd_MO_differ_29 : decode nb_MO_differ 29 = .ok (.goto 4, 3) := by decide +kernel
theorem nd_MO_differ_32 : decode nb_MO_differ 32 = .ok (.iconst 2, 1) := by decide +kernel
theorem nd_MO_differ_33 : decode nb_MO_differ 33 = .ok (.putfield 27, 3) := by decide +kernel
theorem nd_MO_differ_36 : decode nb_MO_differ 36 = .ok (.iconst 0, 1) := by decide +kernel
theorem nd_MO_differ_37 : decode nb_MO_differ 37 = .ok (.istore_n 3, 1) := by decide +kernel
theorem nd_MO_differ_38 : decode nb_MO_differ 38 = .ok (.iconst 0, 1) := by decide +kernel
theorem nd_MO_differ_39 : decode nb_MO_differ 39 = .ok (.istore 4, 2) := by decide +kernel
theorem nd_MO_differ_41 : decode nb_MO_differ 41 = .ok (.iload 4, 2) := by decide +kernel
theorem nd_MO_differ_43 : decode nb_MO_differ 43 = .ok (.bipush 64, 2) := by decide +kernel
theorem nd_MO_differ_45 : decode nb_MO_differ 45 = .ok (.if_icmp .ge 103, 3) := by decide +kernel
theorem nd_MO_differ_48 : decode nb_MO_differ 48 = .ok (.aload_n 0, 1) := by decide +kernel
theorem nd_MO_differ_49 : decode nb_MO_differ 49 = .ok (.getfield 27, 3) := by decide +kernel
theorem nd_MO_differ_52 : decode nb_MO_differ 52 = .ok (.ifCond .ne 96, 3) := by decide +kernel
theorem nd_MO_differ_55 : decode nb_MO_differ 55 = .ok (.aload_n 0, 1) := by decide +kernel
theorem nd_MO_differ_56 : decode nb_MO_differ 56 = .ok (.getfield 13, 3) := by decide +kernel
theorem nd_MO_differ_59 : decode nb_MO_differ 59 = .ok (.bipush 64, 2) := by decide +kernel
theorem nd_MO_differ_61 : decode nb_MO_differ 61 = .ok (.iload_n 1, 1) := by decide +kernel
theorem nd_MO_differ_62 : decode nb_MO_differ 62 = .ok (.imul, 1) := by decide +kernel
theorem nd_MO_differ_63 : decode nb_MO_differ 63 = .ok (.iload 4, 2) := by decide +kernel
theorem nd_MO_differ_65 : decode nb_MO_differ 65 = .ok (.iadd, 1) := by decide +kernel
theorem nd_MO_differ_66 : decode nb_MO_differ 66 = .ok (.baload, 1) := by decide +kernel
theorem nd_MO_differ_67 : decode nb_MO_differ 67 = .ok (.istore 5, 2) := by decide +kernel
theorem nd_MO_differ_69 : decode nb_MO_differ 69 = .ok (.aload_n 0, 1) := by decide +kernel
theorem nd_MO_differ_70 : decode nb_MO_differ 70 = .ok (.getfield 13, 3) := by decide +kernel
theorem nd_MO_differ_73 : decode nb_MO_differ 73 = .ok (.bipush 64, 2) := by decide +kernel
theorem nd_MO_differ_75 : decode nb_MO_differ 75 = .ok (.iload_n 2, 1) := by decide +kernel
theorem nd_MO_differ_76 : decode nb_MO_differ 76 = .ok (.imul, 1) := by decide +kernel
theorem nd_MO_differ_77 : decode nb_MO_differ 77 = .ok (.iload 4, 2) := by decide +kernel
theorem nd_MO_differ_79 : decode nb_MO_differ 79 = .ok (.iadd, 1) := by decide +kernel
theorem nd_MO_differ_80 : decode nb_MO_differ 80 = .ok (.baload, 1) := by decide +kernel
theorem nd_MO_differ_81 : decode nb_MO_differ 81 = .ok (.istore 6, 2) := by decide +kernel
theorem nd_MO_differ_83 : decode nb_MO_differ 83 = .ok (.iload 5, 2) := by decide +kernel
theorem nd_MO_differ_85 : decode nb_MO_differ 85 = .ok (.iload 6, 2) := by decide +kernel
theorem nd_MO_differ_87 : decode nb_MO_differ 87 = .ok (.if_icmp .ne 39, 3) := by decide +kernel
theorem nd_MO_differ_90 : decode nb_MO_differ 90 = .ok (.iload 5, 2) := by decide +kernel
theorem nd_MO_differ_92 : decode nb_MO_differ 92 = .ok (.ifCond .eq 30, 3) := by decide +kernel
theorem nd_MO_differ_95 : decode nb_MO_differ 95 = .ok (.aload_n 0, 1) := by decide +kernel
theorem nd_MO_differ_96 : decode nb_MO_differ 96 = .ok (.getfield 16, 3) := by decide +kernel
theorem nd_MO_differ_99 : decode nb_MO_differ 99 = .ok (.bipush 64, 2) := by decide +kernel
theorem nd_MO_differ_101 : decode nb_MO_differ 101 = .ok (.iload_n 1, 1) := by decide +kernel
theorem nd_MO_differ_102 : decode nb_MO_differ 102 = .ok (.imul, 1) := by decide +kernel
theorem nd_MO_differ_103 : decode nb_MO_differ 103 = .ok (.iload 4, 2) := by decide +kernel
theorem nd_MO_differ_105 : decode nb_MO_differ 105 = .ok (.iadd, 1) := by decide +kernel
theorem nd_MO_differ_106 : decode nb_MO_differ 106 = .ok (.iaload, 1) := by decide +kernel
theorem nd_MO_differ_107 : decode nb_MO_differ 107 = .ok (.aload_n 0, 1) := by decide +kernel
theorem nd_MO_differ_108 : decode nb_MO_differ 108 = .ok (.getfield 16, 3) := by decide +kernel
theorem nd_MO_differ_111 : decode nb_MO_differ 111 = .ok (.bipush 64, 2) := by decide +kernel
theorem nd_MO_differ_113 : decode nb_MO_differ 113 = .ok (.iload_n 2, 1) := by decide +kernel
theorem nd_MO_differ_114 : decode nb_MO_differ 114 = .ok (.imul, 1) := by decide +kernel
theorem nd_MO_differ_115 : decode nb_MO_differ 115 = .ok (.iload 4, 2) := by decide +kernel
theorem nd_MO_differ_117 : decode nb_MO_differ 117 = .ok (.iadd, 1) := by decide +kernel
theorem nd_MO_differ_118 : decode nb_MO_differ 118 = .ok (.iaload, 1) := by decide +kernel
theorem nd_MO_differ_119 : decode nb_MO_differ 119 = .ok (.if_icmp .ne 7, 3) := by decide +kernel
theorem nd_MO_differ_122 : decode nb_MO_differ 122 = .ok (.iconst 1, 1) := by decide +kernel
theorem nd_MO_differ_123 : decode nb_MO_differ 123 = .ok (.goto 4, 3) := by decide +kernel
theorem nd_MO_differ_126 : decode nb_MO_differ 126 = .ok (.iconst 0, 1) := by decide +kernel
theorem nd_MO_differ_127 : decode nb_MO_differ 127 = .ok (.istore 7, 2) := by decide +kernel
theorem nd_MO_differ_129 : decode nb_MO_differ 129 = .ok (.iload 7, 2) := by decide +kernel
theorem nd_MO_differ_131 : decode nb_MO_differ 131 = .ok (.ifCond .eq 7, 3) := by decide +kernel
theorem nd_MO_differ_134 : decode nb_MO_differ 134 = .ok (.iload_n 3, 1) := by decide +kernel
theorem nd_MO_differ_135 : decode nb_MO_differ 135 = .ok (.goto 6, 3) := by decide +kernel
theorem nd_MO_differ_138 : decode nb_MO_differ 138 = .ok (.iload_n 3, 1) := by decide +kernel
theorem nd_MO_differ_139 : decode nb_MO_differ 139 = .ok (.iconst 1, 1) := by decide +kernel
theorem nd_MO_differ_140 : decode nb_MO_differ 140 = .ok (.iadd, 1) := by decide +kernel
theorem nd_MO_differ_141 : decode nb_MO_differ 141 = .ok (.istore_n 3, 1) := by decide +kernel
theorem nd_MO_differ_142 : decode nb_MO_differ 142 = .ok (.iinc 4 1, 3) := by decide +kernel
theorem nd_MO_differ_145 : decode nb_MO_differ 145 = .ok (.goto (-104), 3) := by decide +kernel
theorem nd_MO_differ_148 : decode nb_MO_differ 148 = .ok (.iload_n 3, 1) := by decide +kernel
theorem nd_MO_differ_149 : decode nb_MO_differ 149 = .ok (.ireturn, 1) := by decide +kernel
abbrev nb_MO_snapshot : ByteArray := prog_4_method_25_code
def ny_MO_snapshot : MethodName := ⟨nr_MO, "snapshot", "()I"⟩
theorem nc_MO_snapshot : Cond.code ny_MO_snapshot nb_MO_snapshot 2 (some .int) ∈ wl := wl_t3 81 rfl rfl
theorem nd_MO_snapshot_0 : decode nb_MO_snapshot 0 = .ok (.iconst 1, 1) := by decide +kernel
theorem nd_MO_snapshot_1 : decode nb_MO_snapshot 1 = .ok (.istore_n 1, 1) := by decide +kernel
theorem nd_MO_snapshot_2 : decode nb_MO_snapshot 2 = .ok (.iload_n 1, 1) := by decide +kernel
theorem nd_MO_snapshot_3 : decode nb_MO_snapshot 3 = .ok (.bipush 7, 2) := by decide +kernel
theorem nd_MO_snapshot_5 : decode nb_MO_snapshot 5 = .ok (.if_icmp .ge 19, 3) := by decide +kernel
theorem nd_MO_snapshot_8 : decode nb_MO_snapshot 8 = .ok (.aload_n 0, 1) := by decide +kernel
theorem nd_MO_snapshot_9 : decode nb_MO_snapshot 9 = .ok (.getfield 7, 3) := by decide +kernel
theorem nd_MO_snapshot_12 : decode nb_MO_snapshot 12 = .ok (.iload_n 1, 1) := by decide +kernel
theorem nd_MO_snapshot_13 : decode nb_MO_snapshot 13 = .ok (.baload, 1) := by decide +kernel
theorem nd_MO_snapshot_14 : decode nb_MO_snapshot 14 = .ok (.ifCond .eq 10, 3) := by decide +kernel
theorem nd_MO_snapshot_17 : decode nb_MO_snapshot 17 = .ok (.iload_n 1, 1) := by decide +kernel
theorem nd_MO_snapshot_18 : decode nb_MO_snapshot 18 = .ok (.iconst 1, 1) := by decide +kernel
theorem nd_MO_snapshot_19 : decode nb_MO_snapshot 19 = .ok (.iadd, 1) := by decide +kernel
theorem nd_MO_snapshot_20 : decode nb_MO_snapshot 20 = .ok (.istore_n 1, 1) := by decide +kernel
theorem nd_MO_snapshot_21 : decode nb_MO_snapshot 21 = .ok (.goto (-19), 3) := by decide +kernel
theorem nd_MO_snapshot_24 : decode nb_MO_snapshot 24 = .ok (.aload_n 0, 1) := by decide +kernel
theorem nd_MO_snapshot_25 : decode nb_MO_snapshot 25 = .ok (.aload_n 0, 1) := by decide +kernel
theorem nd_MO_snapshot_26 : decode nb_MO_snapshot 26 = .ok (.getfield 66, 3) := by decide +kernel
theorem nd_MO_snapshot_29 : decode nb_MO_snapshot 29 = .ok (.ifCond .eq 7, 3) := by decide +kernel
theorem nd_MO_snapshot_32 : decode nb_MO_snapshot 32 = .ok (.iconst 1, 1) := by decide +kernel
theorem nd_MO_snapshot_33 : decode nb_MO_snapshot 33 = .ok (.goto 14, 3) := by decide +kernel
theorem nd_MO_snapshot_36 : decode nb_MO_snapshot 36 = .ok (.iload_n 1, 1) := by decide +kernel
theorem nd_MO_snapshot_37 : decode nb_MO_snapshot 37 = .ok (.bipush 7, 2) := by decide +kernel
theorem nd_MO_snapshot_39 : decode nb_MO_snapshot 39 = .ok (.if_icmp .ne 7, 3) := by decide +kernel
theorem nd_MO_snapshot_42 : decode nb_MO_snapshot 42 = .ok (.iconst 2, 1) := by decide +kernel
theorem nd_MO_snapshot_43 : decode nb_MO_snapshot 43 = .ok (.goto 4, 3) := by decide +kernel
theorem nd_MO_snapshot_46 : decode nb_MO_snapshot 46 = .ok (.iconst 0, 1) := by decide +kernel
theorem nd_MO_snapshot_47 : decode nb_MO_snapshot 47 = .ok (.putfield 27, 3) := by decide +kernel
theorem nd_MO_snapshot_50 : decode nb_MO_snapshot 50 = .ok (.aload_n 0, 1) := by decide +kernel
theorem nd_MO_snapshot_51 : decode nb_MO_snapshot 51 = .ok (.getfield 27, 3) := by decide +kernel
theorem nd_MO_snapshot_54 : decode nb_MO_snapshot 54 = .ok (.ifCond .le 5, 3) := by decide +kernel
theorem nd_MO_snapshot_57 : decode nb_MO_snapshot 57 = .ok (.iconst 0, 1) := by decide +kernel
theorem nd_MO_snapshot_58 : decode nb_MO_snapshot 58 = .ok (.ireturn, 1) := by decide +kernel
theorem nd_MO_snapshot_59 : decode nb_MO_snapshot 59 = .ok (.aload_n 0, 1) := by decide +kernel
theorem nd_MO_snapshot_60 : decode nb_MO_snapshot 60 = .ok (.iconst 0, 1) := by decide +kernel
theorem nd_MO_snapshot_61 : decode nb_MO_snapshot 61 = .ok (.iload_n 1, 1) := by decide +kernel
theorem nd_MO_snapshot_62 : decode nb_MO_snapshot 62 = .ok (.invokevirtual 81, 3) := by decide +kernel
theorem nd_MO_snapshot_65 : decode nb_MO_snapshot 65 = .ok (.aload_n 0, 1) := by decide +kernel
theorem nd_MO_snapshot_66 : decode nb_MO_snapshot 66 = .ok (.aload_n 0, 1) := by decide +kernel
theorem nd_MO_snapshot_67 : decode nb_MO_snapshot 67 = .ok (.getfield 63, 3) := by decide +kernel
theorem nd_MO_snapshot_70 : decode nb_MO_snapshot 70 = .ok (.putfield 52, 3) := by decide +kernel
theorem nd_MO_snapshot_73 : decode nb_MO_snapshot 73 = .ok (.iload_n 1, 1) := by decide +kernel
theorem nd_MO_snapshot_74 : decode nb_MO_snapshot 74 = .ok (.ireturn, 1) := by decide +kernel
abbrev nb_MO_rollback : ByteArray := prog_4_method_26_code
def ny_MO_rollback : MethodName := ⟨nr_MO, "rollback", "(I)I"⟩
theorem nc_MO_rollback : Cond.code ny_MO_rollback nb_MO_rollback 2 (some .int) ∈ wl := wl_t3 89 rfl rfl
theorem nd_MO_rollback_0 : decode nb_MO_rollback 0 = .ok (.aload_n 0, 1) := by decide +kernel
theorem nd_MO_rollback_1 : decode nb_MO_rollback 1 = .ok (.aload_n 0, 1) := by decide +kernel
theorem nd_MO_rollback_2 : decode nb_MO_rollback 2 = .ok (.getfield 66, 3) := by decide +kernel
theorem nd_MO_rollback_5 : decode nb_MO_rollback 5 = .ok (.ifCond .eq 7, 3) := by decide +kernel
theorem nd_MO_rollback_8 : decode nb_MO_rollback 8 = .ok (.iconst 1, 1) := by decide +kernel
theorem nd_MO_rollback_9 : decode nb_MO_rollback 9 = .ok (.goto 16, 3) := by decide +kernel
theorem nd_MO_rollback_12 : decode nb_MO_rollback 12 = .ok (.aload_n 0, 1) := by decide +kernel
theorem nd_MO_rollback_13 : decode nb_MO_rollback 13 = .ok (.iload_n 1, 1) := by decide +kernel
theorem nd_MO_rollback_14 : decode nb_MO_rollback 14 = .ok (.invokevirtual 84, 3) := by decide +kernel
theorem nd_MO_rollback_17 : decode nb_MO_rollback 17 = .ok (.ifCond .eq 7, 3) := by decide +kernel
theorem nd_MO_rollback_20 : decode nb_MO_rollback 20 = .ok (.iconst 0, 1) := by decide +kernel
theorem nd_MO_rollback_21 : decode nb_MO_rollback 21 = .ok (.goto 4, 3) := by decide +kernel
theorem nd_MO_rollback_24 : decode nb_MO_rollback 24 = .ok (.iconst 2, 1) := by decide +kernel
theorem nd_MO_rollback_25 : decode nb_MO_rollback 25 = .ok (.putfield 27, 3) := by decide +kernel
theorem nd_MO_rollback_28 : decode nb_MO_rollback 28 = .ok (.aload_n 0, 1) := by decide +kernel
theorem nd_MO_rollback_29 : decode nb_MO_rollback 29 = .ok (.getfield 27, 3) := by decide +kernel
theorem nd_MO_rollback_32 : decode nb_MO_rollback 32 = .ok (.ifCond .le 5, 3) := by decide +kernel
theorem nd_MO_rollback_35 : decode nb_MO_rollback 35 = .ok (.iconst 0, 1) := by decide +kernel
theorem nd_MO_rollback_36 : decode nb_MO_rollback 36 = .ok (.ireturn, 1) := by decide +kernel
theorem nd_MO_rollback_37 : decode nb_MO_rollback 37 = .ok (.aload_n 0, 1) := by decide +kernel
theorem nd_MO_rollback_38 : decode nb_MO_rollback 38 = .ok (.iload_n 1, 1) := by decide +kernel
theorem nd_MO_rollback_39 : decode nb_MO_rollback 39 = .ok (.iconst 0, 1) := by decide +kernel
theorem nd_MO_rollback_40 : decode nb_MO_rollback 40 = .ok (.invokevirtual 81, 3) := by decide +kernel
theorem nd_MO_rollback_43 : decode nb_MO_rollback 43 = .ok (.aload_n 0, 1) := by decide +kernel
theorem nd_MO_rollback_44 : decode nb_MO_rollback 44 = .ok (.iconst 0, 1) := by decide +kernel
theorem nd_MO_rollback_45 : decode nb_MO_rollback 45 = .ok (.iconst 0, 1) := by decide +kernel
theorem nd_MO_rollback_46 : decode nb_MO_rollback 46 = .ok (.bipush 64, 2) := by decide +kernel
theorem nd_MO_rollback_48 : decode nb_MO_rollback 48 = .ok (.invokevirtual 42, 3) := by decide +kernel
theorem nd_MO_rollback_51 : decode nb_MO_rollback 51 = .ok (.ireturn, 1) := by decide +kernel
abbrev nb_MO_drop : ByteArray := prog_4_method_27_code
def ny_MO_drop : MethodName := ⟨nr_MO, "drop", "(I)I"⟩
theorem nc_MO_drop : Cond.code ny_MO_drop nb_MO_drop 3 (some .int) ∈ wl := wl_t3 97 rfl rfl
theorem nd_MO_drop_0 : decode nb_MO_drop 0 = .ok (.aload_n 0, 1) := by decide +kernel
theorem nd_MO_drop_1 : decode nb_MO_drop 1 = .ok (.aload_n 0, 1) := by decide +kernel
theorem nd_MO_drop_2 : decode nb_MO_drop 2 = .ok (.getfield 66, 3) := by decide +kernel
theorem nd_MO_drop_5 : decode nb_MO_drop 5 = .ok (.ifCond .eq 7, 3) := by decide +kernel
theorem nd_MO_drop_8 : decode nb_MO_drop 8 = .ok (.iconst 1, 1) := by decide +kernel
theorem nd_MO_drop_9 : decode nb_MO_drop 9 = .ok (.goto 16, 3) := by decide +kernel
theorem nd_MO_drop_12 : decode nb_MO_drop 12 = .ok (.aload_n 0, 1) := by decide +kernel
theorem nd_MO_drop_13 : decode nb_MO_drop 13 = .ok (.iload_n 1, 1) := by decide +kernel
theorem nd_MO_drop_14 : decode nb_MO_drop 14 = .ok (.invokevirtual 84, 3) := by decide +kernel
theorem nd_MO_drop_17 : decode nb_MO_drop 17 = .ok (.ifCond .eq 7, 3) := by decide +kernel
theorem nd_MO_drop_20 : decode nb_MO_drop 20 = .ok (.iconst 0, 1) := by decide +kernel
theorem nd_MO_drop_21 : decode nb_MO_drop 21 = .ok (.goto 4, 3) := by decide +kernel
theorem nd_MO_drop_24 : decode nb_MO_drop 24 = .ok (.iconst 2, 1) := by decide +kernel
theorem nd_MO_drop_25 : decode nb_MO_drop 25 = .ok (.putfield 27, 3) := by decide +kernel
theorem nd_MO_drop_28 : decode nb_MO_drop 28 = .ok (.aload_n 0, 1) := by decide +kernel
theorem nd_MO_drop_29 : decode nb_MO_drop 29 = .ok (.getfield 27, 3) := by decide +kernel
theorem nd_MO_drop_32 : decode nb_MO_drop 32 = .ok (.ifCond .le 5, 3) := by decide +kernel
theorem nd_MO_drop_35 : decode nb_MO_drop 35 = .ok (.iconst 0, 1) := by decide +kernel
theorem nd_MO_drop_36 : decode nb_MO_drop 36 = .ok (.ireturn, 1) := by decide +kernel
theorem nd_MO_drop_37 : decode nb_MO_drop 37 = .ok (.aload_n 0, 1) := by decide +kernel
theorem nd_MO_drop_38 : decode nb_MO_drop 38 = .ok (.invokevirtual 59, 3) := by decide +kernel
theorem nd_MO_drop_41 : decode nb_MO_drop 41 = .ok (.istore_n 2, 1) := by decide +kernel
theorem nd_MO_drop_42 : decode nb_MO_drop 42 = .ok (.aload_n 0, 1) := by decide +kernel
theorem nd_MO_drop_43 : decode nb_MO_drop 43 = .ok (.iload_n 1, 1) := by decide +kernel
theorem nd_MO_drop_44 : decode nb_MO_drop 44 = .ok (.invokevirtual 87, 3) := by decide +kernel
theorem nd_MO_drop_47 : decode nb_MO_drop 47 = .ok (.aload_n 0, 1) := by decide +kernel
theorem nd_MO_drop_48 : decode nb_MO_drop 48 = .ok (.invokevirtual 59, 3) := by decide +kernel
theorem nd_MO_drop_51 : decode nb_MO_drop 51 = .ok (.iload_n 2, 1) := by decide +kernel
theorem nd_MO_drop_52 : decode nb_MO_drop 52 = .ok (.isub, 1) := by decide +kernel
theorem nd_MO_drop_53 : decode nb_MO_drop 53 = .ok (.ireturn, 1) := by decide +kernel
abbrev nb_MO_dueNow : ByteArray := prog_4_method_28_code
def ny_MO_dueNow : MethodName := ⟨nr_MO, "dueNow", "()I"⟩
theorem nc_MO_dueNow : Cond.code ny_MO_dueNow nb_MO_dueNow 1 (some .int) ∈ wl := wl_t3 109 rfl rfl
theorem nd_MO_dueNow_0 : decode nb_MO_dueNow 0 = .ok (.aload_n 0, 1) := by decide +kernel
theorem nd_MO_dueNow_1 : decode nb_MO_dueNow 1 = .ok (.iconst 0, 1) := by decide +kernel
theorem nd_MO_dueNow_2 : decode nb_MO_dueNow 2 = .ok (.bipush 14, 2) := by decide +kernel
theorem nd_MO_dueNow_4 : decode nb_MO_dueNow 4 = .ok (.invokevirtual 38, 3) := by decide +kernel
theorem nd_MO_dueNow_7 : decode nb_MO_dueNow 7 = .ok (.aload_n 0, 1) := by decide +kernel
theorem nd_MO_dueNow_8 : decode nb_MO_dueNow 8 = .ok (.bipush 7, 2) := by decide +kernel
theorem nd_MO_dueNow_10 : decode nb_MO_dueNow 10 = .ok (.bipush 14, 2) := by decide +kernel
theorem nd_MO_dueNow_12 : decode nb_MO_dueNow 12 = .ok (.invokevirtual 38, 3) := by decide +kernel
theorem nd_MO_dueNow_15 : decode nb_MO_dueNow 15 = .ok (.isub, 1) := by decide +kernel
theorem nd_MO_dueNow_16 : decode nb_MO_dueNow 16 = .ok (.iconst 1, 1) := by decide +kernel
theorem nd_MO_dueNow_17 : decode nb_MO_dueNow 17 = .ok (.iadd, 1) := by decide +kernel
theorem nd_MO_dueNow_18 : decode nb_MO_dueNow 18 = .ok (.ireturn, 1) := by decide +kernel
abbrev nb_MO_commit : ByteArray := prog_4_method_29_code
def ny_MO_commit : MethodName := ⟨nr_MO, "commit", "()I"⟩
theorem nc_MO_commit : Cond.code ny_MO_commit nb_MO_commit 3 (some .int) ∈ wl := wl_t3 105 rfl rfl
theorem nd_MO_commit_0 : decode nb_MO_commit 0 = .ok (.aload_n 0, 1) := by decide +kernel
theorem nd_MO_commit_1 : decode nb_MO_commit 1 = .ok (.aload_n 0, 1) := by decide +kernel
theorem nd_MO_commit_2 : decode nb_MO_commit 2 = .ok (.getfield 66, 3) := by decide +kernel
theorem nd_MO_commit_5 : decode nb_MO_commit 5 = .ok (.ifCond .eq 7, 3) := by decide +kernel
theorem nd_MO_commit_8 : decode nb_MO_commit 8 = .ok (.iconst 1, 1) := by decide +kernel
theorem nd_MO_commit_9 : decode nb_MO_commit 9 = .ok (.goto 4, 3) := by decide +kernel
theorem nd_MO_commit_12 : decode nb_MO_commit 12 = .ok (.iconst 0, 1) := by decide +kernel
theorem nd_MO_commit_13 : decode nb_MO_commit 13 = .ok (.putfield 27, 3) := by decide +kernel
theorem nd_MO_commit_16 : decode nb_MO_commit 16 = .ok (.aload_n 0, 1) := by decide +kernel
theorem nd_MO_commit_17 : decode nb_MO_commit 17 = .ok (.getfield 27, 3) := by decide +kernel
theorem nd_MO_commit_20 : decode nb_MO_commit 20 = .ok (.ifCond .le 5, 3) := by decide +kernel
theorem nd_MO_commit_23 : decode nb_MO_commit 23 = .ok (.iconst 0, 1) := by decide +kernel
theorem nd_MO_commit_24 : decode nb_MO_commit 24 = .ok (.ireturn, 1) := by decide +kernel
theorem nd_MO_commit_25 : decode nb_MO_commit 25 = .ok (.aload_n 0, 1) := by decide +kernel
theorem nd_MO_commit_26 : decode nb_MO_commit 26 = .ok (.invokevirtual 91, 3) := by decide +kernel
theorem nd_MO_commit_29 : decode nb_MO_commit 29 = .ok (.istore_n 1, 1) := by decide +kernel
theorem nd_MO_commit_30 : decode nb_MO_commit 30 = .ok (.aload_n 0, 1) := by decide +kernel
theorem nd_MO_commit_31 : decode nb_MO_commit 31 = .ok (.getfield 23, 3) := by decide +kernel
theorem nd_MO_commit_34 : decode nb_MO_commit 34 = .ok (.ifCond .lt 41, 3) := by decide +kernel
theorem nd_MO_commit_37 : decode nb_MO_commit 37 = .ok (.aload_n 0, 1) := by decide +kernel
theorem nd_MO_commit_38 : decode nb_MO_commit 38 = .ok (.getfield 23, 3) := by decide +kernel
theorem nd_MO_commit_41 : decode nb_MO_commit 41 = .ok (.iload_n 1, 1) := by decide +kernel
theorem nd_MO_commit_42 : decode nb_MO_commit 42 = .ok (.if_icmp .ge 33, 3) := by decide +kernel
theorem nd_MO_commit_45 : decode nb_MO_commit 45 = .ok (.aload_n 0, 1) := by decide +kernel
theorem nd_MO_commit_46 : decode nb_MO_commit 46 = .ok (.aload_n 0, 1) := by decide +kernel
theorem nd_MO_commit_47 : decode nb_MO_commit 47 = .ok (.getfield 94, 3) := by decide +kernel
theorem nd_MO_commit_50 : decode nb_MO_commit 50 = .ok (.aload_n 0, 1) := by decide +kernel
theorem nd_MO_commit_51 : decode nb_MO_commit 51 = .ok (.getfield 23, 3) := by decide +kernel
theorem nd_MO_commit_54 : decode nb_MO_commit 54 = .ok (.iadd, 1) := by decide +kernel
theorem nd_MO_commit_55 : decode nb_MO_commit 55 = .ok (.putfield 94, 3) := by decide +kernel
theorem nd_MO_commit_58 : decode nb_MO_commit 58 = .ok (.aload_n 0, 1) := by decide +kernel
theorem nd_MO_commit_59 : decode nb_MO_commit 59 = .ok (.iconst (-1), 1) := by decide +kernel
theorem nd_MO_commit_60 : decode nb_MO_commit 60 = .ok (.putfield 23, 3) := by decide +kernel
theorem nd_MO_commit_63 : decode nb_MO_commit 63 = .ok (.aload_n 0, 1) := by decide +kernel
theorem nd_MO_commit_64 : decode nb_MO_commit 64 = .ok (.iconst 1, 1) := by decide +kernel
theorem nd_MO_commit_65 : decode nb_MO_commit 65 = .ok (.putfield 66, 3) := by decide +kernel
theorem nd_MO_commit_68 : decode nb_MO_commit 68 = .ok (.aload_n 0, 1) := by decide +kernel
theorem nd_MO_commit_69 : decode nb_MO_commit 69 = .ok (.iconst 1, 1) := by decide +kernel
theorem nd_MO_commit_70 : decode nb_MO_commit 70 = .ok (.putfield 27, 3) := by decide +kernel
theorem nd_MO_commit_73 : decode nb_MO_commit 73 = .ok (.iconst 0, 1) := by decide +kernel
theorem nd_MO_commit_74 : decode nb_MO_commit 74 = .ok (.ireturn, 1) := by decide +kernel
theorem nd_MO_commit_75 : decode nb_MO_commit 75 = .ok (.aload_n 0, 1) := by decide +kernel
theorem nd_MO_commit_76 : decode nb_MO_commit 76 = .ok (.aload_n 0, 1) := by decide +kernel
theorem nd_MO_commit_77 : decode nb_MO_commit 77 = .ok (.getfield 23, 3) := by decide +kernel
theorem nd_MO_commit_80 : decode nb_MO_commit 80 = .ok (.ifCond .ge 10, 3) := by decide +kernel
theorem nd_MO_commit_83 : decode nb_MO_commit 83 = .ok (.aload_n 0, 1) := by decide +kernel
theorem nd_MO_commit_84 : decode nb_MO_commit 84 = .ok (.getfield 23, 3) := by decide +kernel
theorem nd_MO_commit_87 : decode nb_MO_commit 87 = .ok (.goto 9, 3) := by decide +kernel
theorem nd_MO_commit_90 : decode nb_MO_commit 90 = .ok (.aload_n 0, 1) := by decide +kernel
theorem nd_MO_commit_91 : decode nb_MO_commit 91 = .ok (.getfield 23, 3) := by decide +kernel
theorem nd_MO_commit_94 : decode nb_MO_commit 94 = .ok (.iload_n 1, 1) := by decide +kernel
theorem nd_MO_commit_95 : decode nb_MO_commit 95 = .ok (.isub, 1) := by decide +kernel
theorem nd_MO_commit_96 : decode nb_MO_commit 96 = .ok (.putfield 23, 3) := by decide +kernel
theorem nd_MO_commit_99 : decode nb_MO_commit 99 = .ok (.aload_n 0, 1) := by decide +kernel
theorem nd_MO_commit_100 : decode nb_MO_commit 100 = .ok (.aload_n 0, 1) := by decide +kernel
theorem nd_MO_commit_101 : decode nb_MO_commit 101 = .ok (.getfield 94, 3) := by decide +kernel
theorem nd_MO_commit_104 : decode nb_MO_commit 104 = .ok (.iload_n 1, 1) := by decide +kernel
theorem nd_MO_commit_105 : decode nb_MO_commit 105 = .ok (.iadd, 1) := by decide +kernel
theorem nd_MO_commit_106 : decode nb_MO_commit 106 = .ok (.putfield 94, 3) := by decide +kernel
theorem nd_MO_commit_109 : decode nb_MO_commit 109 = .ok (.iconst 0, 1) := by decide +kernel
theorem nd_MO_commit_110 : decode nb_MO_commit 110 = .ok (.istore_n 2, 1) := by decide +kernel
theorem nd_MO_commit_111 : decode nb_MO_commit 111 = .ok (.iload_n 2, 1) := by decide +kernel
theorem nd_MO_commit_112 : decode nb_MO_commit 112 = .ok (.bipush 7, 2) := by decide +kernel
theorem nd_MO_commit_114 : decode nb_MO_commit 114 = .ok (.if_icmp .ge 18, 3) := by decide +kernel
theorem nd_MO_commit_117 : decode nb_MO_commit 117 = .ok (.aload_n 0, 1) := by decide +kernel
theorem nd_MO_commit_118 : decode nb_MO_commit 118 = .ok (.iload_n 2, 1) := by decide +kernel
theorem nd_MO_commit_119 : decode nb_MO_commit 119 = .ok (.bipush 7, 2) := by decide +kernel
theorem nd_MO_commit_121 : decode nb_MO_commit 121 = .ok (.iload_n 2, 1) := by decide +kernel
theorem nd_MO_commit_122 : decode nb_MO_commit 122 = .ok (.iadd, 1) := by decide +kernel
theorem nd_MO_commit_123 : decode nb_MO_commit 123 = .ok (.invokevirtual 81, 3) := by decide +kernel
theorem nd_MO_commit_126 : decode nb_MO_commit 126 = .ok (.iinc 2 1, 3) := by decide +kernel
theorem nd_MO_commit_129 : decode nb_MO_commit 129 = .ok (.goto (-18), 3) := by decide +kernel
theorem nd_MO_commit_132 : decode nb_MO_commit 132 = .ok (.aload_n 0, 1) := by decide +kernel
theorem nd_MO_commit_133 : decode nb_MO_commit 133 = .ok (.aload_n 0, 1) := by decide +kernel
theorem nd_MO_commit_134 : decode nb_MO_commit 134 = .ok (.getfield 63, 3) := by decide +kernel
theorem nd_MO_commit_137 : decode nb_MO_commit 137 = .ok (.putfield 52, 3) := by decide +kernel
theorem nd_MO_commit_140 : decode nb_MO_commit 140 = .ok (.iload_n 1, 1) := by decide +kernel
theorem nd_MO_commit_141 : decode nb_MO_commit 141 = .ok (.ireturn, 1) := by decide +kernel
abbrev nb_MO_free : ByteArray := prog_4_method_30_code
def ny_MO_free : MethodName := ⟨nr_MO, "free", "()I"⟩
theorem nc_MO_free : Cond.code ny_MO_free nb_MO_free 1 (some .int) ∈ wl := wl_t3 113 rfl rfl
theorem nd_MO_free_0 : decode nb_MO_free 0 = .ok (.aload_n 0, 1) := by decide +kernel
theorem nd_MO_free_1 : decode nb_MO_free 1 = .ok (.aload_n 0, 1) := by decide +kernel
theorem nd_MO_free_2 : decode nb_MO_free 2 = .ok (.getfield 66, 3) := by decide +kernel
theorem nd_MO_free_5 : decode nb_MO_free 5 = .ok (.ifCond .eq 7, 3) := by decide +kernel
theorem nd_MO_free_8 : decode nb_MO_free 8 = .ok (.iconst 1, 1) := by decide +kernel
theorem nd_MO_free_9 : decode nb_MO_free 9 = .ok (.goto 4, 3) := by decide +kernel
theorem nd_MO_free_12 : decode nb_MO_free 12 = .ok (.iconst 0, 1) := by decide +kernel
theorem nd_MO_free_13 : decode nb_MO_free 13 = .ok (.putfield 27, 3) := by decide +kernel
theorem nd_MO_free_16 : decode nb_MO_free 16 = .ok (.aload_n 0, 1) := by decide +kernel
theorem nd_MO_free_17 : decode nb_MO_free 17 = .ok (.getfield 27, 3) := by decide +kernel
theorem nd_MO_free_20 : decode nb_MO_free 20 = .ok (.ifCond .le 7, 3) := by decide +kernel
theorem nd_MO_free_23 : decode nb_MO_free 23 = .ok (.iconst 0, 1) := by decide +kernel
theorem nd_MO_free_24 : decode nb_MO_free 24 = .ok (.goto 7, 3) := by decide +kernel
theorem nd_MO_free_27 : decode nb_MO_free 27 = .ok (.aload_n 0, 1) := by decide +kernel
theorem nd_MO_free_28 : decode nb_MO_free 28 = .ok (.invokevirtual 59, 3) := by decide +kernel
theorem nd_MO_free_31 : decode nb_MO_free 31 = .ok (.ireturn, 1) := by decide +kernel
abbrev nb_MO_due : ByteArray := prog_4_method_31_code
def ny_MO_due : MethodName := ⟨nr_MO, "due", "()I"⟩
theorem nc_MO_due : Cond.code ny_MO_due nb_MO_due 1 (some .int) ∈ wl := wl_t3 117 rfl rfl
theorem nd_MO_due_0 : decode nb_MO_due 0 = .ok (.aload_n 0, 1) := by decide +kernel
theorem nd_MO_due_1 : decode nb_MO_due 1 = .ok (.aload_n 0, 1) := by decide +kernel
theorem nd_MO_due_2 : decode nb_MO_due 2 = .ok (.getfield 66, 3) := by decide +kernel
theorem nd_MO_due_5 : decode nb_MO_due 5 = .ok (.ifCond .eq 7, 3) := by decide +kernel
theorem nd_MO_due_8 : decode nb_MO_due 8 = .ok (.iconst 1, 1) := by decide +kernel
theorem nd_MO_due_9 : decode nb_MO_due 9 = .ok (.goto 4, 3) := by decide +kernel
theorem nd_MO_due_12 : decode nb_MO_due 12 = .ok (.iconst 0, 1) := by decide +kernel
theorem nd_MO_due_13 : decode nb_MO_due 13 = .ok (.putfield 27, 3) := by decide +kernel
theorem nd_MO_due_16 : decode nb_MO_due 16 = .ok (.aload_n 0, 1) := by decide +kernel
theorem nd_MO_due_17 : decode nb_MO_due 17 = .ok (.getfield 27, 3) := by decide +kernel
theorem nd_MO_due_20 : decode nb_MO_due 20 = .ok (.ifCond .le 7, 3) := by decide +kernel
theorem nd_MO_due_23 : decode nb_MO_due 23 = .ok (.iconst 0, 1) := by decide +kernel
theorem nd_MO_due_24 : decode nb_MO_due 24 = .ok (.goto 7, 3) := by decide +kernel
theorem nd_MO_due_27 : decode nb_MO_due 27 = .ok (.aload_n 0, 1) := by decide +kernel
theorem nd_MO_due_28 : decode nb_MO_due 28 = .ok (.invokevirtual 91, 3) := by decide +kernel
theorem nd_MO_due_31 : decode nb_MO_due 31 = .ok (.ireturn, 1) := by decide +kernel
abbrev nb_MO_order : ByteArray := prog_4_method_32_code
def ny_MO_order : MethodName := ⟨nr_MO, "order", "(I)Z"⟩
theorem nc_MO_order : Cond.code ny_MO_order nb_MO_order 2 (some .boolean) ∈ wl := wl_t3 121 rfl rfl
theorem nd_MO_order_0 : decode nb_MO_order 0 = .ok (.aload_n 0, 1) := by decide +kernel
theorem nd_MO_order_1 : decode nb_MO_order 1 = .ok (.iconst 0, 1) := by decide +kernel
theorem nd_MO_order_2 : decode nb_MO_order 2 = .ok (.putfield 27, 3) := by decide +kernel
theorem nd_MO_order_5 : decode nb_MO_order 5 = .ok (.iload_n 1, 1) := by decide +kernel
theorem nd_MO_order_6 : decode nb_MO_order 6 = .ok (.ifCond .lt 9, 3) := by decide +kernel
theorem nd_MO_order_9 : decode nb_MO_order 9 = .ok (.iload_n 1, 1) := by decide +kernel
theorem nd_MO_order_10 : decode nb_MO_order 10 = .ok (.bipush 100, 2) := by decide +kernel
theorem nd_MO_order_12 : decode nb_MO_order 12 = .ok (.if_icmp .le 5, 3) := by decide +kernel
theorem nd_MO_order_15 : decode nb_MO_order 15 = .ok (.iconst 0, 1) := by decide +kernel
theorem nd_MO_order_16 : decode nb_MO_order 16 = .ok (.ireturn, 1) := by decide +kernel
theorem nd_MO_order_17 : decode nb_MO_order 17 = .ok (.aload_n 0, 1) := by decide +kernel
theorem nd_MO_order_18 : decode nb_MO_order 18 = .ok (.iload_n 1, 1) := by decide +kernel
theorem nd_MO_order_19 : decode nb_MO_order 19 = .ok (.putfield 23, 3) := by decide +kernel
theorem nd_MO_order_22 : decode nb_MO_order 22 = .ok (.iconst 1, 1) := by decide +kernel
theorem nd_MO_order_23 : decode nb_MO_order 23 = .ok (.ireturn, 1) := by decide +kernel
abbrev nb_MO_recover : ByteArray := prog_4_method_33_code
def ny_MO_recover : MethodName := ⟨nr_MO, "recover", "()I"⟩
theorem nc_MO_recover : Cond.code ny_MO_recover nb_MO_recover 3 (some .int) ∈ wl := wl_t3 125 rfl rfl
theorem nd_MO_recover_0 : decode nb_MO_recover 0 = .ok (.aload_n 0, 1) := by decide +kernel
theorem nd_MO_recover_1 : decode nb_MO_recover 1 = .ok (.iconst 0, 1) := by decide +kernel
theorem nd_MO_recover_2 : decode nb_MO_recover 2 = .ok (.putfield 27, 3) := by decide +kernel
theorem nd_MO_recover_5 : decode nb_MO_recover 5 = .ok (.aload_n 0, 1) := by decide +kernel
theorem nd_MO_recover_6 : decode nb_MO_recover 6 = .ok (.getfield 66, 3) := by decide +kernel
theorem nd_MO_recover_9 : decode nb_MO_recover 9 = .ok (.ifCond .ne 5, 3) := by decide +kernel
theorem nd_MO_recover_12 : decode nb_MO_recover 12 = .ok (.iconst (-1), 1) := by decide +kernel
theorem nd_MO_recover_13 : decode nb_MO_recover 13 = .ok (.ireturn, 1) := by decide +kernel
theorem nd_MO_recover_14 : decode nb_MO_recover 14 = .ok (.iconst 0, 1) := by decide +kernel
theorem nd_MO_recover_15 : decode nb_MO_recover 15 = .ok (.istore_n 1, 1) := by decide +kernel
theorem nd_MO_recover_16 : decode nb_MO_recover 16 = .ok (.iconst 0, 1) := by decide +kernel
theorem nd_MO_recover_17 : decode nb_MO_recover 17 = .ok (.istore_n 2, 1) := by decide +kernel
theorem nd_MO_recover_18 : decode nb_MO_recover 18 = .ok (.iload_n 2, 1) := by decide +kernel
theorem nd_MO_recover_19 : decode nb_MO_recover 19 = .ok (.bipush 7, 2) := by decide +kernel
theorem nd_MO_recover_21 : decode nb_MO_recover 21 = .ok (.if_icmp .ge 39, 3) := by decide +kernel
theorem nd_MO_recover_24 : decode nb_MO_recover 24 = .ok (.aload_n 0, 1) := by decide +kernel
theorem nd_MO_recover_25 : decode nb_MO_recover 25 = .ok (.bipush 7, 2) := by decide +kernel
theorem nd_MO_recover_27 : decode nb_MO_recover 27 = .ok (.iload_n 2, 1) := by decide +kernel
theorem nd_MO_recover_28 : decode nb_MO_recover 28 = .ok (.iadd, 1) := by decide +kernel
theorem nd_MO_recover_29 : decode nb_MO_recover 29 = .ok (.iload_n 2, 1) := by decide +kernel
theorem nd_MO_recover_30 : decode nb_MO_recover 30 = .ok (.invokevirtual 81, 3) := by decide +kernel
theorem nd_MO_recover_33 : decode nb_MO_recover 33 = .ok (.iload_n 2, 1) := by decide +kernel
theorem nd_MO_recover_34 : decode nb_MO_recover 34 = .ok (.ifCond .le 18, 3) := by decide +kernel
theorem nd_MO_recover_37 : decode nb_MO_recover 37 = .ok (.aload_n 0, 1) := by decide +kernel
theorem nd_MO_recover_38 : decode nb_MO_recover 38 = .ok (.getfield 7, 3) := by decide +kernel
theorem nd_MO_recover_41 : decode nb_MO_recover 41 = .ok (.iload_n 2, 1) := by decide +kernel
theorem nd_MO_recover_42 : decode nb_MO_recover 42 = .ok (.baload, 1) := by decide +kernel
theorem nd_MO_recover_43 : decode nb_MO_recover 43 = .ok (.ifCond .eq 9, 3) := by decide +kernel
theorem nd_MO_recover_46 : decode nb_MO_recover 46 = .ok (.iload_n 1, 1) := by decide +kernel
theorem nd_MO_recover_47 : decode nb_MO_recover 47 = .ok (.iconst 1, 1) := by decide +kernel
theorem nd_MO_recover_48 : decode nb_MO_recover 48 = .ok (.iadd, 1) := by decide +kernel
theorem nd_MO_recover_49 : decode nb_MO_recover 49 = .ok (.goto 4, 3) := by decide +kernel
theorem nd_MO_recover_52 : decode nb_MO_recover 52 = .ok (.iload_n 1, 1) := by decide +kernel
theorem nd_MO_recover_53 : decode nb_MO_recover 53 = .ok (.istore_n 1, 1) := by decide +kernel
theorem nd_MO_recover_54 : decode nb_MO_recover 54 = .ok (.iinc 2 1, 3) := by decide +kernel
theorem nd_MO_recover_57 : decode nb_MO_recover 57 = .ok (.goto (-39), 3) := by decide +kernel
theorem nd_MO_recover_60 : decode nb_MO_recover 60 = .ok (.aload_n 0, 1) := by decide +kernel
theorem nd_MO_recover_61 : decode nb_MO_recover 61 = .ok (.iconst 0, 1) := by decide +kernel
theorem nd_MO_recover_62 : decode nb_MO_recover 62 = .ok (.putfield 66, 3) := by decide +kernel
theorem nd_MO_recover_65 : decode nb_MO_recover 65 = .ok (.iload_n 1, 1) := by decide +kernel
theorem nd_MO_recover_66 : decode nb_MO_recover 66 = .ok (.ireturn, 1) := by decide +kernel
abbrev nb_MO_writes : ByteArray := prog_4_method_34_code
def ny_MO_writes : MethodName := ⟨nr_MO, "writes", "()I"⟩
theorem nc_MO_writes : Cond.code ny_MO_writes nb_MO_writes 1 (some .int) ∈ wl := wl_t3 129 rfl rfl
theorem nd_MO_writes_0 : decode nb_MO_writes 0 = .ok (.aload_n 0, 1) := by decide +kernel
theorem nd_MO_writes_1 : decode nb_MO_writes 1 = .ok (.iconst 0, 1) := by decide +kernel
theorem nd_MO_writes_2 : decode nb_MO_writes 2 = .ok (.putfield 27, 3) := by decide +kernel
theorem nd_MO_writes_5 : decode nb_MO_writes 5 = .ok (.aload_n 0, 1) := by decide +kernel
theorem nd_MO_writes_6 : decode nb_MO_writes 6 = .ok (.getfield 94, 3) := by decide +kernel
theorem nd_MO_writes_9 : decode nb_MO_writes 9 = .ok (.ireturn, 1) := by decide +kernel
abbrev nb_MO_down : ByteArray := prog_4_method_35_code
def ny_MO_down : MethodName := ⟨nr_MO, "down", "()Z"⟩
theorem nc_MO_down : Cond.code ny_MO_down nb_MO_down 1 (some .boolean) ∈ wl := wl_t3 133 rfl rfl
theorem nd_MO_down_0 : decode nb_MO_down 0 = .ok (.aload_n 0, 1) := by decide +kernel
theorem nd_MO_down_1 : decode nb_MO_down 1 = .ok (.iconst 0, 1) := by decide +kernel
theorem nd_MO_down_2 : decode nb_MO_down 2 = .ok (.putfield 27, 3) := by decide +kernel
theorem nd_MO_down_5 : decode nb_MO_down 5 = .ok (.aload_n 0, 1) := by decide +kernel
theorem nd_MO_down_6 : decode nb_MO_down 6 = .ok (.getfield 66, 3) := by decide +kernel
theorem nd_MO_down_9 : decode nb_MO_down 9 = .ok (.ireturn, 1) := by decide +kernel
end
section
/-! names and decode rows of FrozenBranchesLaw (printed by names.py) -/
abbrev nb_LW_put : ByteArray := method_3_code
def ny_LW_put : MethodName := ⟨nr_LW, "put", "(LFrozenBranches;II[J)I"⟩
theorem nd_LW_put_0 : decode nb_LW_put 0 = .ok (.aload_n 3, 1) := by decide +kernel
theorem nd_LW_put_1 : decode nb_LW_put 1 = .ok (.iconst 0, 1) := by decide +kernel
theorem nd_LW_put_2 : decode nb_LW_put 2 = .ok (.aload_n 0, 1) := by decide +kernel
theorem nd_LW_put_3 : decode nb_LW_put 3 = .ok (.iload_n 1, 1) := by decide +kernel
theorem nd_LW_put_4 : decode nb_LW_put 4 = .ok (.iload_n 2, 1) := by decide +kernel
theorem nd_LW_put_5 : decode nb_LW_put 5 = .ok (.invokevirtual 7, 3) := by decide +kernel
theorem nd_LW_put_8 : decode nb_LW_put 8 = .ok (.i2l, 1) := by decide +kernel
theorem nd_LW_put_9 : decode nb_LW_put 9 = .ok (.lastore, 1) := by decide +kernel
theorem nd_LW_put_10 : decode nb_LW_put 10 = .ok (.goto 15, 3) := by decide +kernel
theorem nd_LW_put_13 : decode nb_LW_put 13 = .ok (.astore 4, 2) := by decide +kernel
theorem nd_LW_put_15 : decode nb_LW_put 15 = .ok (.iconst 1, 1) := by decide +kernel
theorem nd_LW_put_16 : decode nb_LW_put 16 = .ok (.ireturn, 1) := by decide +kernel
theorem nd_LW_put_17 : decode nb_LW_put 17 = .ok (.astore 4, 2) := by decide +kernel
theorem nd_LW_put_19 : decode nb_LW_put 19 = .ok (.iconst 2, 1) := by decide +kernel
theorem nd_LW_put_20 : decode nb_LW_put 20 = .ok (.ireturn, 1) := by decide +kernel
theorem nd_LW_put_21 : decode nb_LW_put 21 = .ok (.astore 4, 2) := by decide +kernel
theorem nd_LW_put_23 : decode nb_LW_put 23 = .ok (.iconst 3, 1) := by decide +kernel
theorem nd_LW_put_24 : decode nb_LW_put 24 = .ok (.ireturn, 1) := by decide +kernel
theorem nd_LW_put_25 : decode nb_LW_put 25 = .ok (.iconst 0, 1) := by decide +kernel
theorem nd_LW_put_26 : decode nb_LW_put 26 = .ok (.ireturn, 1) := by decide +kernel
abbrev nb_LW_remove : ByteArray := method_4_code
def ny_LW_remove : MethodName := ⟨nr_LW, "remove", "(LFrozenBranches;I[J)I"⟩
theorem nd_LW_remove_0 : decode nb_LW_remove 0 = .ok (.aload_n 2, 1) := by decide +kernel
theorem nd_LW_remove_1 : decode nb_LW_remove 1 = .ok (.iconst 0, 1) := by decide +kernel
theorem nd_LW_remove_2 : decode nb_LW_remove 2 = .ok (.aload_n 0, 1) := by decide +kernel
theorem nd_LW_remove_3 : decode nb_LW_remove 3 = .ok (.iload_n 1, 1) := by decide +kernel
theorem nd_LW_remove_4 : decode nb_LW_remove 4 = .ok (.invokevirtual 19, 3) := by decide +kernel
theorem nd_LW_remove_7 : decode nb_LW_remove 7 = .ok (.i2l, 1) := by decide +kernel
theorem nd_LW_remove_8 : decode nb_LW_remove 8 = .ok (.lastore, 1) := by decide +kernel
theorem nd_LW_remove_9 : decode nb_LW_remove 9 = .ok (.goto 12, 3) := by decide +kernel
theorem nd_LW_remove_12 : decode nb_LW_remove 12 = .ok (.astore_n 3, 1) := by decide +kernel
theorem nd_LW_remove_13 : decode nb_LW_remove 13 = .ok (.iconst 1, 1) := by decide +kernel
theorem nd_LW_remove_14 : decode nb_LW_remove 14 = .ok (.ireturn, 1) := by decide +kernel
theorem nd_LW_remove_15 : decode nb_LW_remove 15 = .ok (.astore_n 3, 1) := by decide +kernel
theorem nd_LW_remove_16 : decode nb_LW_remove 16 = .ok (.iconst 2, 1) := by decide +kernel
theorem nd_LW_remove_17 : decode nb_LW_remove 17 = .ok (.ireturn, 1) := by decide +kernel
theorem nd_LW_remove_18 : decode nb_LW_remove 18 = .ok (.astore_n 3, 1) := by decide +kernel
theorem nd_LW_remove_19 : decode nb_LW_remove 19 = .ok (.iconst 3, 1) := by decide +kernel
theorem nd_LW_remove_20 : decode nb_LW_remove 20 = .ok (.ireturn, 1) := by decide +kernel
theorem nd_LW_remove_21 : decode nb_LW_remove 21 = .ok (.iconst 0, 1) := by decide +kernel
theorem nd_LW_remove_22 : decode nb_LW_remove 22 = .ok (.ireturn, 1) := by decide +kernel
abbrev nb_LW_get : ByteArray := method_5_code
def ny_LW_get : MethodName := ⟨nr_LW, "get", "(LFrozenBranches;II[J)I"⟩
theorem nd_LW_get_0 : decode nb_LW_get 0 = .ok (.aload_n 3, 1) := by decide +kernel
theorem nd_LW_get_1 : decode nb_LW_get 1 = .ok (.iconst 0, 1) := by decide +kernel
theorem nd_LW_get_2 : decode nb_LW_get 2 = .ok (.aload_n 0, 1) := by decide +kernel
theorem nd_LW_get_3 : decode nb_LW_get 3 = .ok (.iload_n 1, 1) := by decide +kernel
theorem nd_LW_get_4 : decode nb_LW_get 4 = .ok (.iload_n 2, 1) := by decide +kernel
theorem nd_LW_get_5 : decode nb_LW_get 5 = .ok (.invokevirtual 25, 3) := by decide +kernel
theorem nd_LW_get_8 : decode nb_LW_get 8 = .ok (.i2l, 1) := by decide +kernel
theorem nd_LW_get_9 : decode nb_LW_get 9 = .ok (.lastore, 1) := by decide +kernel
theorem nd_LW_get_10 : decode nb_LW_get 10 = .ok (.goto 15, 3) := by decide +kernel
theorem nd_LW_get_13 : decode nb_LW_get 13 = .ok (.astore 4, 2) := by decide +kernel
theorem nd_LW_get_15 : decode nb_LW_get 15 = .ok (.iconst 1, 1) := by decide +kernel
theorem nd_LW_get_16 : decode nb_LW_get 16 = .ok (.ireturn, 1) := by decide +kernel
theorem nd_LW_get_17 : decode nb_LW_get 17 = .ok (.astore 4, 2) := by decide +kernel
theorem nd_LW_get_19 : decode nb_LW_get 19 = .ok (.iconst 2, 1) := by decide +kernel
theorem nd_LW_get_20 : decode nb_LW_get 20 = .ok (.ireturn, 1) := by decide +kernel
theorem nd_LW_get_21 : decode nb_LW_get 21 = .ok (.astore 4, 2) := by decide +kernel
theorem nd_LW_get_23 : decode nb_LW_get 23 = .ok (.iconst 3, 1) := by decide +kernel
theorem nd_LW_get_24 : decode nb_LW_get 24 = .ok (.ireturn, 1) := by decide +kernel
theorem nd_LW_get_25 : decode nb_LW_get 25 = .ok (.iconst 0, 1) := by decide +kernel
theorem nd_LW_get_26 : decode nb_LW_get 26 = .ok (.ireturn, 1) := by decide +kernel
abbrev nb_LW_next : ByteArray := method_6_code
def ny_LW_next : MethodName := ⟨nr_LW, "next", "(LFrozenBranches;II[J)I"⟩
theorem nd_LW_next_0 : decode nb_LW_next 0 = .ok (.aload_n 3, 1) := by decide +kernel
theorem nd_LW_next_1 : decode nb_LW_next 1 = .ok (.iconst 0, 1) := by decide +kernel
theorem nd_LW_next_2 : decode nb_LW_next 2 = .ok (.aload_n 0, 1) := by decide +kernel
theorem nd_LW_next_3 : decode nb_LW_next 3 = .ok (.iload_n 1, 1) := by decide +kernel
theorem nd_LW_next_4 : decode nb_LW_next 4 = .ok (.iload_n 2, 1) := by decide +kernel
theorem nd_LW_next_5 : decode nb_LW_next 5 = .ok (.invokevirtual 28, 3) := by decide +kernel
theorem nd_LW_next_8 : decode nb_LW_next 8 = .ok (.i2l, 1) := by decide +kernel
theorem nd_LW_next_9 : decode nb_LW_next 9 = .ok (.lastore, 1) := by decide +kernel
theorem nd_LW_next_10 : decode nb_LW_next 10 = .ok (.goto 11, 3) := by decide +kernel
theorem nd_LW_next_13 : decode nb_LW_next 13 = .ok (.astore 4, 2) := by decide +kernel
theorem nd_LW_next_15 : decode nb_LW_next 15 = .ok (.iconst 1, 1) := by decide +kernel
theorem nd_LW_next_16 : decode nb_LW_next 16 = .ok (.ireturn, 1) := by decide +kernel
theorem nd_LW_next_17 : decode nb_LW_next 17 = .ok (.astore 4, 2) := by decide +kernel
theorem nd_LW_next_19 : decode nb_LW_next 19 = .ok (.iconst 2, 1) := by decide +kernel
theorem nd_LW_next_20 : decode nb_LW_next 20 = .ok (.ireturn, 1) := by decide +kernel
theorem nd_LW_next_21 : decode nb_LW_next 21 = .ok (.iconst 0, 1) := by decide +kernel
theorem nd_LW_next_22 : decode nb_LW_next 22 = .ok (.ireturn, 1) := by decide +kernel
abbrev nb_LW_count : ByteArray := method_7_code
def ny_LW_count : MethodName := ⟨nr_LW, "count", "(LFrozenBranches;I[J)I"⟩
theorem nd_LW_count_0 : decode nb_LW_count 0 = .ok (.aload_n 2, 1) := by decide +kernel
theorem nd_LW_count_1 : decode nb_LW_count 1 = .ok (.iconst 0, 1) := by decide +kernel
theorem nd_LW_count_2 : decode nb_LW_count 2 = .ok (.aload_n 0, 1) := by decide +kernel
theorem nd_LW_count_3 : decode nb_LW_count 3 = .ok (.iload_n 1, 1) := by decide +kernel
theorem nd_LW_count_4 : decode nb_LW_count 4 = .ok (.invokevirtual 31, 3) := by decide +kernel
theorem nd_LW_count_7 : decode nb_LW_count 7 = .ok (.i2l, 1) := by decide +kernel
theorem nd_LW_count_8 : decode nb_LW_count 8 = .ok (.lastore, 1) := by decide +kernel
theorem nd_LW_count_9 : decode nb_LW_count 9 = .ok (.goto 9, 3) := by decide +kernel
theorem nd_LW_count_12 : decode nb_LW_count 12 = .ok (.astore_n 3, 1) := by decide +kernel
theorem nd_LW_count_13 : decode nb_LW_count 13 = .ok (.iconst 1, 1) := by decide +kernel
theorem nd_LW_count_14 : decode nb_LW_count 14 = .ok (.ireturn, 1) := by decide +kernel
theorem nd_LW_count_15 : decode nb_LW_count 15 = .ok (.astore_n 3, 1) := by decide +kernel
theorem nd_LW_count_16 : decode nb_LW_count 16 = .ok (.iconst 2, 1) := by decide +kernel
theorem nd_LW_count_17 : decode nb_LW_count 17 = .ok (.ireturn, 1) := by decide +kernel
theorem nd_LW_count_18 : decode nb_LW_count 18 = .ok (.iconst 0, 1) := by decide +kernel
theorem nd_LW_count_19 : decode nb_LW_count 19 = .ok (.ireturn, 1) := by decide +kernel
abbrev nb_LW_nodes : ByteArray := method_8_code
def ny_LW_nodes : MethodName := ⟨nr_LW, "nodes", "(LFrozenBranches;I[J)I"⟩
theorem nd_LW_nodes_0 : decode nb_LW_nodes 0 = .ok (.aload_n 2, 1) := by decide +kernel
theorem nd_LW_nodes_1 : decode nb_LW_nodes 1 = .ok (.iconst 0, 1) := by decide +kernel
theorem nd_LW_nodes_2 : decode nb_LW_nodes 2 = .ok (.aload_n 0, 1) := by decide +kernel
theorem nd_LW_nodes_3 : decode nb_LW_nodes 3 = .ok (.iload_n 1, 1) := by decide +kernel
theorem nd_LW_nodes_4 : decode nb_LW_nodes 4 = .ok (.invokevirtual 34, 3) := by decide +kernel
theorem nd_LW_nodes_7 : decode nb_LW_nodes 7 = .ok (.i2l, 1) := by decide +kernel
theorem nd_LW_nodes_8 : decode nb_LW_nodes 8 = .ok (.lastore, 1) := by decide +kernel
theorem nd_LW_nodes_9 : decode nb_LW_nodes 9 = .ok (.goto 9, 3) := by decide +kernel
theorem nd_LW_nodes_12 : decode nb_LW_nodes 12 = .ok (.astore_n 3, 1) := by decide +kernel
theorem nd_LW_nodes_13 : decode nb_LW_nodes 13 = .ok (.iconst 1, 1) := by decide +kernel
theorem nd_LW_nodes_14 : decode nb_LW_nodes 14 = .ok (.ireturn, 1) := by decide +kernel
theorem nd_LW_nodes_15 : decode nb_LW_nodes 15 = .ok (.astore_n 3, 1) := by decide +kernel
theorem nd_LW_nodes_16 : decode nb_LW_nodes 16 = .ok (.iconst 2, 1) := by decide +kernel
theorem nd_LW_nodes_17 : decode nb_LW_nodes 17 = .ok (.ireturn, 1) := by decide +kernel
theorem nd_LW_nodes_18 : decode nb_LW_nodes 18 = .ok (.iconst 0, 1) := by decide +kernel
theorem nd_LW_nodes_19 : decode nb_LW_nodes 19 = .ok (.ireturn, 1) := by decide +kernel
abbrev nb_LW_shared : ByteArray := method_9_code
def ny_LW_shared : MethodName := ⟨nr_LW, "shared", "(LFrozenBranches;II[J)I"⟩
theorem nd_LW_shared_0 : decode nb_LW_shared 0 = .ok (.aload_n 3, 1) := by decide +kernel
theorem nd_LW_shared_1 : decode nb_LW_shared 1 = .ok (.iconst 0, 1) := by decide +kernel
theorem nd_LW_shared_2 : decode nb_LW_shared 2 = .ok (.aload_n 0, 1) := by decide +kernel
theorem nd_LW_shared_3 : decode nb_LW_shared 3 = .ok (.iload_n 1, 1) := by decide +kernel
theorem nd_LW_shared_4 : decode nb_LW_shared 4 = .ok (.iload_n 2, 1) := by decide +kernel
theorem nd_LW_shared_5 : decode nb_LW_shared 5 = .ok (.invokevirtual 37, 3) := by decide +kernel
theorem nd_LW_shared_8 : decode nb_LW_shared 8 = .ok (.i2l, 1) := by decide +kernel
theorem nd_LW_shared_9 : decode nb_LW_shared 9 = .ok (.lastore, 1) := by decide +kernel
theorem nd_LW_shared_10 : decode nb_LW_shared 10 = .ok (.goto 11, 3) := by decide +kernel
theorem nd_LW_shared_13 : decode nb_LW_shared 13 = .ok (.astore 4, 2) := by decide +kernel
theorem nd_LW_shared_15 : decode nb_LW_shared 15 = .ok (.iconst 1, 1) := by decide +kernel
theorem nd_LW_shared_16 : decode nb_LW_shared 16 = .ok (.ireturn, 1) := by decide +kernel
theorem nd_LW_shared_17 : decode nb_LW_shared 17 = .ok (.astore 4, 2) := by decide +kernel
theorem nd_LW_shared_19 : decode nb_LW_shared 19 = .ok (.iconst 2, 1) := by decide +kernel
theorem nd_LW_shared_20 : decode nb_LW_shared 20 = .ok (.ireturn, 1) := by decide +kernel
theorem nd_LW_shared_21 : decode nb_LW_shared 21 = .ok (.iconst 0, 1) := by decide +kernel
theorem nd_LW_shared_22 : decode nb_LW_shared 22 = .ok (.ireturn, 1) := by decide +kernel
abbrev nb_LW_differ : ByteArray := method_10_code
def ny_LW_differ : MethodName := ⟨nr_LW, "differ", "(LFrozenBranches;II[J)I"⟩
theorem nd_LW_differ_0 : decode nb_LW_differ 0 = .ok (.aload_n 3, 1) := by decide +kernel
theorem nd_LW_differ_1 : decode nb_LW_differ 1 = .ok (.iconst 0, 1) := by decide +kernel
theorem nd_LW_differ_2 : decode nb_LW_differ 2 = .ok (.aload_n 0, 1) := by decide +kernel
theorem nd_LW_differ_3 : decode nb_LW_differ 3 = .ok (.iload_n 1, 1) := by decide +kernel
theorem nd_LW_differ_4 : decode nb_LW_differ 4 = .ok (.iload_n 2, 1) := by decide +kernel
theorem nd_LW_differ_5 : decode nb_LW_differ 5 = .ok (.invokevirtual 40, 3) := by decide +kernel
theorem nd_LW_differ_8 : decode nb_LW_differ 8 = .ok (.i2l, 1) := by decide +kernel
theorem nd_LW_differ_9 : decode nb_LW_differ 9 = .ok (.lastore, 1) := by decide +kernel
theorem nd_LW_differ_10 : decode nb_LW_differ 10 = .ok (.goto 11, 3) := by decide +kernel
theorem nd_LW_differ_13 : decode nb_LW_differ 13 = .ok (.astore 4, 2) := by decide +kernel
theorem nd_LW_differ_15 : decode nb_LW_differ 15 = .ok (.iconst 1, 1) := by decide +kernel
theorem nd_LW_differ_16 : decode nb_LW_differ 16 = .ok (.ireturn, 1) := by decide +kernel
theorem nd_LW_differ_17 : decode nb_LW_differ 17 = .ok (.astore 4, 2) := by decide +kernel
theorem nd_LW_differ_19 : decode nb_LW_differ 19 = .ok (.iconst 2, 1) := by decide +kernel
theorem nd_LW_differ_20 : decode nb_LW_differ 20 = .ok (.ireturn, 1) := by decide +kernel
theorem nd_LW_differ_21 : decode nb_LW_differ 21 = .ok (.iconst 0, 1) := by decide +kernel
theorem nd_LW_differ_22 : decode nb_LW_differ 22 = .ok (.ireturn, 1) := by decide +kernel
abbrev nb_LW_snapshot : ByteArray := method_11_code
def ny_LW_snapshot : MethodName := ⟨nr_LW, "snapshot", "(LFrozenBranches;[J)I"⟩
theorem nd_LW_snapshot_0 : decode nb_LW_snapshot 0 = .ok (.aload_n 1, 1) := by decide +kernel
theorem nd_LW_snapshot_1 : decode nb_LW_snapshot 1 = .ok (.iconst 0, 1) := by decide +kernel
theorem nd_LW_snapshot_2 : decode nb_LW_snapshot 2 = .ok (.aload_n 0, 1) := by decide +kernel
theorem nd_LW_snapshot_3 : decode nb_LW_snapshot 3 = .ok (.invokevirtual 43, 3) := by decide +kernel
theorem nd_LW_snapshot_6 : decode nb_LW_snapshot 6 = .ok (.i2l, 1) := by decide +kernel
theorem nd_LW_snapshot_7 : decode nb_LW_snapshot 7 = .ok (.lastore, 1) := by decide +kernel
theorem nd_LW_snapshot_8 : decode nb_LW_snapshot 8 = .ok (.goto 9, 3) := by decide +kernel
theorem nd_LW_snapshot_11 : decode nb_LW_snapshot 11 = .ok (.astore_n 2, 1) := by decide +kernel
theorem nd_LW_snapshot_12 : decode nb_LW_snapshot 12 = .ok (.iconst 1, 1) := by decide +kernel
theorem nd_LW_snapshot_13 : decode nb_LW_snapshot 13 = .ok (.ireturn, 1) := by decide +kernel
theorem nd_LW_snapshot_14 : decode nb_LW_snapshot 14 = .ok (.astore_n 2, 1) := by decide +kernel
theorem nd_LW_snapshot_15 : decode nb_LW_snapshot 15 = .ok (.iconst 2, 1) := by decide +kernel
theorem nd_LW_snapshot_16 : decode nb_LW_snapshot 16 = .ok (.ireturn, 1) := by decide +kernel
theorem nd_LW_snapshot_17 : decode nb_LW_snapshot 17 = .ok (.iconst 0, 1) := by decide +kernel
theorem nd_LW_snapshot_18 : decode nb_LW_snapshot 18 = .ok (.ireturn, 1) := by decide +kernel
abbrev nb_LW_rollback : ByteArray := method_12_code
def ny_LW_rollback : MethodName := ⟨nr_LW, "rollback", "(LFrozenBranches;I[J)I"⟩
theorem nd_LW_rollback_0 : decode nb_LW_rollback 0 = .ok (.aload_n 2, 1) := by decide +kernel
theorem nd_LW_rollback_1 : decode nb_LW_rollback 1 = .ok (.iconst 0, 1) := by decide +kernel
theorem nd_LW_rollback_2 : decode nb_LW_rollback 2 = .ok (.aload_n 0, 1) := by decide +kernel
theorem nd_LW_rollback_3 : decode nb_LW_rollback 3 = .ok (.iload_n 1, 1) := by decide +kernel
theorem nd_LW_rollback_4 : decode nb_LW_rollback 4 = .ok (.invokevirtual 47, 3) := by decide +kernel
theorem nd_LW_rollback_7 : decode nb_LW_rollback 7 = .ok (.i2l, 1) := by decide +kernel
theorem nd_LW_rollback_8 : decode nb_LW_rollback 8 = .ok (.lastore, 1) := by decide +kernel
theorem nd_LW_rollback_9 : decode nb_LW_rollback 9 = .ok (.goto 9, 3) := by decide +kernel
theorem nd_LW_rollback_12 : decode nb_LW_rollback 12 = .ok (.astore_n 3, 1) := by decide +kernel
theorem nd_LW_rollback_13 : decode nb_LW_rollback 13 = .ok (.iconst 1, 1) := by decide +kernel
theorem nd_LW_rollback_14 : decode nb_LW_rollback 14 = .ok (.ireturn, 1) := by decide +kernel
theorem nd_LW_rollback_15 : decode nb_LW_rollback 15 = .ok (.astore_n 3, 1) := by decide +kernel
theorem nd_LW_rollback_16 : decode nb_LW_rollback 16 = .ok (.iconst 2, 1) := by decide +kernel
theorem nd_LW_rollback_17 : decode nb_LW_rollback 17 = .ok (.ireturn, 1) := by decide +kernel
theorem nd_LW_rollback_18 : decode nb_LW_rollback 18 = .ok (.iconst 0, 1) := by decide +kernel
theorem nd_LW_rollback_19 : decode nb_LW_rollback 19 = .ok (.ireturn, 1) := by decide +kernel
abbrev nb_LW_drop : ByteArray := method_13_code
def ny_LW_drop : MethodName := ⟨nr_LW, "drop", "(LFrozenBranches;I[J)I"⟩
theorem nd_LW_drop_0 : decode nb_LW_drop 0 = .ok (.aload_n 2, 1) := by decide +kernel
theorem nd_LW_drop_1 : decode nb_LW_drop 1 = .ok (.iconst 0, 1) := by decide +kernel
theorem nd_LW_drop_2 : decode nb_LW_drop 2 = .ok (.aload_n 0, 1) := by decide +kernel
theorem nd_LW_drop_3 : decode nb_LW_drop 3 = .ok (.iload_n 1, 1) := by decide +kernel
theorem nd_LW_drop_4 : decode nb_LW_drop 4 = .ok (.invokevirtual 50, 3) := by decide +kernel
theorem nd_LW_drop_7 : decode nb_LW_drop 7 = .ok (.i2l, 1) := by decide +kernel
theorem nd_LW_drop_8 : decode nb_LW_drop 8 = .ok (.lastore, 1) := by decide +kernel
theorem nd_LW_drop_9 : decode nb_LW_drop 9 = .ok (.goto 9, 3) := by decide +kernel
theorem nd_LW_drop_12 : decode nb_LW_drop 12 = .ok (.astore_n 3, 1) := by decide +kernel
theorem nd_LW_drop_13 : decode nb_LW_drop 13 = .ok (.iconst 1, 1) := by decide +kernel
theorem nd_LW_drop_14 : decode nb_LW_drop 14 = .ok (.ireturn, 1) := by decide +kernel
theorem nd_LW_drop_15 : decode nb_LW_drop 15 = .ok (.astore_n 3, 1) := by decide +kernel
theorem nd_LW_drop_16 : decode nb_LW_drop 16 = .ok (.iconst 2, 1) := by decide +kernel
theorem nd_LW_drop_17 : decode nb_LW_drop 17 = .ok (.ireturn, 1) := by decide +kernel
theorem nd_LW_drop_18 : decode nb_LW_drop 18 = .ok (.iconst 0, 1) := by decide +kernel
theorem nd_LW_drop_19 : decode nb_LW_drop 19 = .ok (.ireturn, 1) := by decide +kernel
abbrev nb_LW_commit : ByteArray := method_14_code
def ny_LW_commit : MethodName := ⟨nr_LW, "commit", "(LFrozenBranches;[J)I"⟩
theorem nd_LW_commit_0 : decode nb_LW_commit 0 = .ok (.aload_n 1, 1) := by decide +kernel
theorem nd_LW_commit_1 : decode nb_LW_commit 1 = .ok (.iconst 0, 1) := by decide +kernel
theorem nd_LW_commit_2 : decode nb_LW_commit 2 = .ok (.aload_n 0, 1) := by decide +kernel
theorem nd_LW_commit_3 : decode nb_LW_commit 3 = .ok (.invokevirtual 53, 3) := by decide +kernel
theorem nd_LW_commit_6 : decode nb_LW_commit 6 = .ok (.i2l, 1) := by decide +kernel
theorem nd_LW_commit_7 : decode nb_LW_commit 7 = .ok (.lastore, 1) := by decide +kernel
theorem nd_LW_commit_8 : decode nb_LW_commit 8 = .ok (.goto 6, 3) := by decide +kernel
theorem nd_LW_commit_11 : decode nb_LW_commit 11 = .ok (.astore_n 2, 1) := by decide +kernel
theorem nd_LW_commit_12 : decode nb_LW_commit 12 = .ok (.iconst 1, 1) := by decide +kernel
theorem nd_LW_commit_13 : decode nb_LW_commit 13 = .ok (.ireturn, 1) := by decide +kernel
theorem nd_LW_commit_14 : decode nb_LW_commit 14 = .ok (.iconst 0, 1) := by decide +kernel
theorem nd_LW_commit_15 : decode nb_LW_commit 15 = .ok (.ireturn, 1) := by decide +kernel
abbrev nb_LW_free : ByteArray := method_15_code
def ny_LW_free : MethodName := ⟨nr_LW, "free", "(LFrozenBranches;[J)I"⟩
theorem nd_LW_free_0 : decode nb_LW_free 0 = .ok (.aload_n 1, 1) := by decide +kernel
theorem nd_LW_free_1 : decode nb_LW_free 1 = .ok (.iconst 0, 1) := by decide +kernel
theorem nd_LW_free_2 : decode nb_LW_free 2 = .ok (.aload_n 0, 1) := by decide +kernel
theorem nd_LW_free_3 : decode nb_LW_free 3 = .ok (.invokevirtual 56, 3) := by decide +kernel
theorem nd_LW_free_6 : decode nb_LW_free 6 = .ok (.i2l, 1) := by decide +kernel
theorem nd_LW_free_7 : decode nb_LW_free 7 = .ok (.lastore, 1) := by decide +kernel
theorem nd_LW_free_8 : decode nb_LW_free 8 = .ok (.goto 6, 3) := by decide +kernel
theorem nd_LW_free_11 : decode nb_LW_free 11 = .ok (.astore_n 2, 1) := by decide +kernel
theorem nd_LW_free_12 : decode nb_LW_free 12 = .ok (.iconst 1, 1) := by decide +kernel
theorem nd_LW_free_13 : decode nb_LW_free 13 = .ok (.ireturn, 1) := by decide +kernel
theorem nd_LW_free_14 : decode nb_LW_free 14 = .ok (.iconst 0, 1) := by decide +kernel
theorem nd_LW_free_15 : decode nb_LW_free 15 = .ok (.ireturn, 1) := by decide +kernel
abbrev nb_LW_due : ByteArray := method_16_code
def ny_LW_due : MethodName := ⟨nr_LW, "due", "(LFrozenBranches;[J)I"⟩
theorem nd_LW_due_0 : decode nb_LW_due 0 = .ok (.aload_n 1, 1) := by decide +kernel
theorem nd_LW_due_1 : decode nb_LW_due 1 = .ok (.iconst 0, 1) := by decide +kernel
theorem nd_LW_due_2 : decode nb_LW_due 2 = .ok (.aload_n 0, 1) := by decide +kernel
theorem nd_LW_due_3 : decode nb_LW_due 3 = .ok (.invokevirtual 59, 3) := by decide +kernel
theorem nd_LW_due_6 : decode nb_LW_due 6 = .ok (.i2l, 1) := by decide +kernel
theorem nd_LW_due_7 : decode nb_LW_due 7 = .ok (.lastore, 1) := by decide +kernel
theorem nd_LW_due_8 : decode nb_LW_due 8 = .ok (.goto 6, 3) := by decide +kernel
theorem nd_LW_due_11 : decode nb_LW_due 11 = .ok (.astore_n 2, 1) := by decide +kernel
theorem nd_LW_due_12 : decode nb_LW_due 12 = .ok (.iconst 1, 1) := by decide +kernel
theorem nd_LW_due_13 : decode nb_LW_due 13 = .ok (.ireturn, 1) := by decide +kernel
theorem nd_LW_due_14 : decode nb_LW_due 14 = .ok (.iconst 0, 1) := by decide +kernel
theorem nd_LW_due_15 : decode nb_LW_due 15 = .ok (.ireturn, 1) := by decide +kernel
end
section
/-! rows that TURN printed for this claim (NAMES.whole, its first blocks), Bundle written out -/
theorem goodIn_r {big : List Cond} (ws : List Cond) (ps : List Nat) (hp : ws = ps.filterMap (fun i => big[i]?)) (h : ws.all goodWord = true) : GoodIn big ws := by
  intro w hw
  have h1 := List.all_eq_true.mp h w hw
  rw [hp] at hw
  obtain ⟨i, -, hi⟩ := List.mem_filterMap.mp hw
  have hm : w ∈ big := by first | exact List.mem_of_getElem? hi | exact List.getElem?_mem hi
  exact ⟨hm, good_of_word h1⟩
theorem goodIn_app {big a b : List Cond} (ha : GoodIn big a) (hb : GoodIn big b) : GoodIn big (a ++ b) := fun w h => (List.mem_append.mp h).elim (ha w) (hb w)
theorem goodIn_ca {big a b : List Cond} {c : Cond} (ha : GoodIn big (c :: a)) (hb : GoodIn big b) : GoodIn big (c :: (a ++ b)) := fun w h => (List.mem_cons.mp h).elim (fun e => ha w (List.mem_cons.mpr (Or.inl e))) (fun h => (List.mem_append.mp h).elim (fun h => ha w (List.mem_cons.mpr (Or.inr h))) (hb w))
theorem goodIn_sub {big ws : List Cond} (hm : ∀ w ∈ ws, w ∈ big) (h : ws.all goodWord = true) : GoodIn big ws := fun w hw => ⟨hm w hw, good_of_word (List.all_eq_true.mp h w hw)⟩

def vr_up {α : Type} (f : Nat → α) (l : List Nat) (v : α) : Nat → α := fun a => if a ∈ l then v else f a
theorem vr_up_in {α : Type} {f : Nat → α} {l : List Nat} {v : α} {a : Nat} (h : a ∈ l) : vr_up f l v a = v := if_pos h
theorem vr_up_ne {α : Type} {f : Nat → α} {l : List Nat} {v : α} {a : Nat} (h : a ∉ l) : vr_up f l v a = f a := if_neg h
theorem vr_rows {L l : List Nat} {f : Nat → va_E} {e : va_E} (h : ∀ a, a ∈ l → a ∉ L) : va_pl L f ++ l.map (fun a => (a, e)) = va_pl (L ++ l) (vr_up f l e) := by
  unfold va_pl
  rw [List.map_append]
  congr 1
  · apply List.map_congr_left
    intro a ha
    rw [vr_up_ne (fun q => h a q ha)]
  · apply List.map_congr_left
    intro a ha
    rw [vr_up_in ha]
theorem vr_lay {X rows : va_W} {x : Nat × va_E} {pl : va_W} {D : va_G} {cl : List vw_C} {H : Heap} (hP : va_P D cl (((X ++ pl) ++ [x]) ++ rows) H) : va_P D cl ((X ++ [x]) ++ (pl ++ rows)) H := by
  rw [List.append_assoc (X ++ pl)] at hP
  have h := va_P.swap hP
  rw [← List.append_assoc X] at h
  have h2 := va_P.swap h
  rw [List.append_assoc (X ++ [x])] at h2
  exact h2
theorem vr_layD {X rows : va_W} {x : Nat × va_E} {pl : va_W} {A : Nat → Prop} (hD : va_D A (((X ++ pl) ++ [x]) ++ rows)) : va_D A ((X ++ [x]) ++ (pl ++ rows)) := by
  rw [List.append_assoc (X ++ pl)] at hD
  have h := va_D.swap hD
  rw [← List.append_assoc X] at h
  have h2 := va_D.swap h
  rw [List.append_assoc (X ++ [x])] at h2
  exact h2
theorem vr_outer (c : ClassId) (N h0 : Nat) : ∀ i : Nat, Jvm.Free.Multi.outerC c N h0 i = arrV c N (fun j => va_rf (if j < i then some (h0 + 1 + j) else none))
  | 0 => by
    show ({ cls := c, slots := Array.replicate N .null, vm := .none } : Cell) = _
    rw [arrV_new]
    refine congrArg (arrV c N) (funext fun j => ?_)
    simp [va_rf]
  | i + 1 => by
    show (Jvm.Free.Multi.outerC c N h0 i).setSlot i (.ref (h0 + 1 + i)) = _
    rw [vr_outer c N h0 i, arrV_store]
    refine congrArg (arrV c N) (funext fun j => ?_)
    by_cases e : j = i
    · subst e
      simp [updV, va_rf]
    · by_cases h : j < i
      · simp [updV, e, h, Nat.lt_succ_of_lt h]
      · simp [updV, e, h, show ¬ j < i + 1 by omega]
section VGM
variable {p : Program} {l : Launch} {e : Env} {R : Room} {s : State} {m : MethodId} {args : Array Value} {below : List Frame} {meth : Method} {c : Code} {H : Heap} {locs : List Loc} {cells slots : Nat} {Q : State → Prop}
variable {cc : ByteArray} {pc : Nat} {ls : Array Slot} {rest : List Value} {D : va_G} {cl : List vw_C} {A : Nat → Prop} {a : Nat} {tys : List (ClassId × FieldType)} {ws : va_W} {H0 : Heap}
theorem va_mna {X : va_W} {L : List Nat} {f : Nat → va_E} {cc : ByteArray} (hexec : p.tables.exec = Jvm.exec) (hb : c.code = cc) {own : String} {index : Nat} {ty : FieldType} {cy : ClassId} (hown : s.vm.findClass own = some m.cls) (hclink : (Cond.classLink own index ("[" ++ (FieldType.array ty).toString)).before args s = true) (hover : (Cond.arrayOver (.array ty)).before args s = true) (harr : (Cond.arrayClass ty).before args s = true) (hcy : s.vm.findClass (FieldType.array ty).toString = some cy)
    (hK : va_K D cl tys s) (hP : va_P D cl (X ++ va_pl L f) H) (hD : va_D A (X ++ va_pl L f)) (hS : va_S A H0 H locs) (hA : ∀ q, H0.size ≤ q → A q) {n k : Int32} {N' K' : Nat} {z : vp_A} (hn : ¬ n < 0) (hk : ¬ k < 0) (hN : n.toNatClampNeg = N') (hM : k.toNatClampNeg = K')
    (hb1 : N' * 4 ≤ 536870912) (hb2 : K' * componentBytes ty ≤ 536870912) (hb3 : K' ≤ 536870912) (hdf : fits ty (defaultValue ty) = true) (hdd : (defaultValue ty).isDefault = true) (hcells : cells + (1 + N') ≤ R.cells) (hslots : slots + (N' + N' * K') ≤ R.slots) (hz : ∀ c : ClassId, Jvm.Free.Multi.innerC c K' (defaultValue ty) = vp_cell c z) (hdg : decode cc pc = .ok (.multianewarray index 2, 4))
    (kk : ∀ (q : Nat) (r : Nat → Nat) (cA : ClassId) (H1 : Heap), (∀ i j : Nat, i < N' → j < N' → r i = r j → i = j) → (∀ i : Nat, i < N' → r i ∉ L) → va_K D cl (tys ++ [(cA, .array ty)]) s →
      va_P D cl ((X ++ [(q, .inl (cA, N', .inr (.inr (.inr (.inr (fun i => if i < N' then some (r i) else none))))))]) ++ va_pl (L ++ (List.range N').map r) (vr_up f ((List.range N').map r) (.inl (cy, z)))) H1 → va_D A ((X ++ [(q, .inl (cA, N', .inr (.inr (.inr (.inr (fun i => if i < N' then some (r i) else none))))))]) ++ va_pl (L ++ (List.range N').map r) (vr_up f ((List.range N').map r) (.inl (cy, z)))) → va_S A H0 H1 locs →
      W p l e R s m args below meth c H1 locs (cells + 1 + N') (slots + N' + N' * K') Q (F0 m (pc + 4) ls (.ref q :: rest))) : W p l e R s m args below meth c H locs cells slots Q (F0 m pc ls (.int k :: .int n :: rest)) := by
  subst hN
  subst hM
  intro T hT Xs
  obtain ⟨vm₁, cA, comp, -, fA, fC, hO, -, X', step⟩ := Xs.multianewarray2F hexec hown hclink hover harr (g := F0 m pc ls (.int k :: .int n :: rest)) rfl (by rw [hb]; exact hdg) rfl hn hk hb1 hb2 hb3 hdf hdd hcells hslots
  have ec : some cy = some comp := hcy.symm.trans fC
  cases ec
  generalize hF : Jvm.Free.Multi.fill (T.setVm vm₁) cA cy n.toNatClampNeg k.toNatClampNeg (defaultValue ty) n.toNatClampNeg = F at X' step
  have hTh : (T.setVm vm₁).heap = H := hT
  obtain ⟨f1, f2, -, -⟩ := Jvm.Free.Multi.fill_facts (T.setVm vm₁) cA cy n.toNatClampNeg k.toNatClampNeg (defaultValue ty) n.toNatClampNeg
  rw [hF, hTh] at f1 f2
  have hold : ∀ x : Nat, x < H.size → F.heap[x]? = H[x]? := fun x hx => by
    have := Jvm.Free.Multi.fill_old (T.setVm vm₁) cA cy n.toNatClampNeg k.toNatClampNeg (defaultValue ty) (a := x) (by rw [hTh]; exact hx) n.toNatClampNeg
    rw [hF, hTh] at this
    exact this
  have hrow : ∀ j : Nat, j < n.toNatClampNeg → F.heap[H.size + 1 + j]? = some (vp_cell cy z) := fun j hj => by
    have := Jvm.Free.Multi.fill_inner (T.setVm vm₁) cA cy n.toNatClampNeg k.toNatClampNeg (defaultValue ty) n.toNatClampNeg j hj
    rw [hF, hTh, hz] at this
    exact this
  have hout : Jvm.Free.Multi.outerC cA n.toNatClampNeg H.size n.toNatClampNeg = vp_cell cA (n.toNatClampNeg, .inr (.inr (.inr (.inr (fun i => if i < n.toNatClampNeg then some (H.size + 1 + i) else none))))) := by
    rw [vp_cell_q]
    exact vr_outer cA n.toNatClampNeg H.size n.toNatClampNeg
  rw [hout] at f2
  have hlt : ∀ a, a ∈ L → a < H.size := fun a ha => by
    obtain ⟨k9, hk9⟩ := va_pl_get (X := X) (f := f) ha
    exact (hP k9 _ hk9).lt
  have hnl : ∀ i : Nat, i < n.toNatClampNeg → H.size + 1 + i ∉ L := fun i _ h => by
    have := hlt _ h
    omega
  have hnm : ∀ a, a ∈ (List.range n.toNatClampNeg).map (fun i => H.size + 1 + i) → a ∉ L := fun a ha h => by
    obtain ⟨i, -, rfl⟩ := List.mem_map.mp ha
    have := hlt _ h
    omega
  have hP0 : va_P D cl (X ++ va_pl L f) F.heap := hP.kept (fun k9 x hx => hold x.1 ((hP k9 x hx).lt))
  have hP1 : va_P D cl ((X ++ va_pl L f) ++ [(H.size, .inl (cA, n.toNatClampNeg, .inr (.inr (.inr (.inr (fun i => if i < n.toNatClampNeg then some (H.size + 1 + i) else none))))))]) F.heap := hP0.app (fun k9 x hx => by
    have h0 : k9 < 1 := (List.getElem?_eq_some_iff.mp hx).1
    rw [show k9 = 0 by omega] at hx
    cases hx
    exact f2)
  have hP2 : va_P D cl (((X ++ va_pl L f) ++ [(H.size, .inl (cA, n.toNatClampNeg, .inr (.inr (.inr (.inr (fun i => if i < n.toNatClampNeg then some (H.size + 1 + i) else none))))))]) ++ ((List.range n.toNatClampNeg).map (fun i => H.size + 1 + i)).map (fun a => (a, .inl (cy, z)))) F.heap := hP1.app (fun k9 x hx => by
    obtain ⟨a, ha, rfl⟩ := List.mem_map.mp (List.mem_of_getElem? hx)
    obtain ⟨i, hi, rfl⟩ := List.mem_map.mp ha
    exact hrow i (List.mem_range.mp hi))
  have hD2 : va_D A (((X ++ va_pl L f) ++ [(H.size, .inl (cA, n.toNatClampNeg, .inr (.inr (.inr (.inr (fun i => if i < n.toNatClampNeg then some (H.size + 1 + i) else none))))))]) ++ ((List.range n.toNatClampNeg).map (fun i => H.size + 1 + i)).map (fun a => (a, .inl (cy, z)))) := by
    have hD1 := hD.push (e := .inl (cA, n.toNatClampNeg, .inr (.inr (.inr (.inr (fun i => if i < n.toNatClampNeg then some (H.size + 1 + i) else none)))))) hP rfl (hA _ hS.1)
    generalize hW1 : (X ++ va_pl L f) ++ [(H.size, .inl (cA, n.toNatClampNeg, .inr (.inr (.inr (.inr (fun i => if i < n.toNatClampNeg then some (H.size + 1 + i) else none))))))] = W1 at hD1 hP1 ⊢
    have hle : ∀ (k9 : Nat) (x : Nat × va_E), W1[k9]? = some x → x.1 ≤ H.size := fun k9 x hx => by
      rw [← hW1] at hx
      by_cases hl : k9 < (X ++ va_pl L f).length
      · rw [List.getElem?_append_left hl] at hx
        exact Nat.le_of_lt ((hP k9 x hx).lt)
      · rw [List.getElem?_append_right (by omega)] at hx
        have h0 : k9 - (X ++ va_pl L f).length < 1 := (List.getElem?_eq_some_iff.mp hx).1
        rw [show k9 - (X ++ va_pl L f).length = 0 by omega] at hx
        cases hx
        exact Nat.le_refl _
    have hr : ∀ (k9 : Nat) (x : Nat × va_E), (((List.range n.toNatClampNeg).map (fun i => H.size + 1 + i)).map (fun a => ((a, .inl (cy, z)) : Nat × va_E)))[k9]? = some x → x.1 = H.size + 1 + k9 := fun k9 x hx => by
      rw [List.getElem?_map, List.getElem?_map] at hx
      by_cases h9 : k9 < n.toNatClampNeg
      · rw [List.getElem?_range h9] at hx
        cases hx
        rfl
      · have hn0 : (List.range n.toNatClampNeg)[k9]? = none := List.getElem?_eq_none (by rw [List.length_range]; omega)
        rw [hn0] at hx
        cases hx
    refine ⟨fun i j x y hi hj hxy => ?_, fun k9 x hx => ?_⟩
    · by_cases h1 : i < W1.length <;> by_cases h2 : j < W1.length
      · rw [List.getElem?_append_left h1] at hi
        rw [List.getElem?_append_left h2] at hj
        exact hD1.1 i j x y hi hj hxy
      · rw [List.getElem?_append_left h1] at hi
        rw [List.getElem?_append_right (by omega)] at hj
        have := hle _ _ hi
        have := hr _ _ hj
        omega
      · rw [List.getElem?_append_right (by omega)] at hi
        rw [List.getElem?_append_left h2] at hj
        have := hle _ _ hj
        have := hr _ _ hi
        omega
      · rw [List.getElem?_append_right (by omega)] at hi hj
        have := hr _ _ hi
        have := hr _ _ hj
        omega
    · by_cases h1 : k9 < W1.length
      · rw [List.getElem?_append_left h1] at hx
        exact hD1.2 k9 x hx
      · rw [List.getElem?_append_right (by omega)] at hx
        have := hr _ _ hx
        exact hA _ (by have := hS.1; omega)
  have hAr : ArrOfT s cA (.array ty) := fun N9 z9 => by
    obtain ⟨-, k9, hk9, cm9, hkk9⟩ := (hO 0 0 0).1
    exact ⟨(fun q hq => by cases hq), k9, hk9, cm9, hkk9⟩
  have hK2 : va_K D cl (tys ++ [(cA, .array ty)]) s := ⟨hK.1, fun k9 x hx => by
    by_cases hl : k9 < tys.length
    · rw [List.getElem?_append_left hl] at hx
      exact hK.2 k9 x hx
    · rw [List.getElem?_append_right (by omega)] at hx
      have h0 : k9 - tys.length < 1 := (List.getElem?_eq_some_iff.mp hx).1
      rw [show k9 - tys.length = 0 by omega] at hx
      cases hx
      exact ⟨hAr, fA⟩⟩
  obtain ⟨t, a1, b1⟩ := kk H.size (fun i => H.size + 1 + i) cA F.heap (fun i j _ _ h => by have h9 : H.size + 1 + i = H.size + 1 + j := h; omega) hnl hK2 (by rw [← vr_rows hnm]; exact vr_lay hP2) (by rw [← vr_rows hnm]; exact vr_layD hD2) ⟨by rw [f1]; have := hS.1; omega, fun x h1 h2 => (hold x (Nat.lt_of_lt_of_le h1 hS.1)).trans (hS.2.1 x h1 h2), hS.2.2⟩ F rfl X'
  refine ⟨t, step t ?_, b1⟩
  have e : T.heap.size = H.size := by rw [hT]
  rw [e]
  exact a1
end VGM

section VXA
def vx_T (XC : String → State → State → Prop) (st : State) (q : Addr) (t : State) (mc ms : Nat) (free : Addr → Prop) : Prop :=
  ∃ (E : String) (ce : Cell) (L : List Loc), XC E st t ∧ t.heap[q]? = some ce ∧ ce.vm = .none ∧ st.vm.findClass E = some ce.cls ∧ st.WarmedH t.vm ∧ st.sameButNew ({ t with vm := st.vm } : State) L mc ms ∧ ∀ z ∈ L, free z.base
def vx_Q (Qc : Array Value → State → Outcome → State → Prop) (XC : String → State → State → Prop) (mc ms : Nat) (free : Addr → Prop) : Array Value → State → Outcome → State → Prop := fun a st o t =>
  (Qc a st o t ∧ ∃ L, FrameEnd st o t L mc ms ∧ ∀ q ∈ L, free q.base) ∨ ∃ q, o = .threw q ∧ vx_T XC st q t mc ms free
def vx_Met (l : Launch) (y : MethodName) (ws : List Cond) (rm : Room) (Pc : Array Value → State → Prop) (Qc : Array Value → State → Outcome → State → Prop) (XC : String → State → State → Prop) (mc ms : Nat) (free : Addr → Prop) : Prop :=
  MetFree l y (headSpec ws rm) Pc (fun _ _ _ _ _ => True) (vx_Q Qc XC mc ms free)
def vx_Post (XC : String → State → State → Prop) (mc ms : Nat) (free : Addr → Prop) : Pt → Array Value → Addr → Pt → Prop := fun A a q B =>
  ∃ (g : JFrame) (mk : MethodId) (t : State) (L : List Loc) (E : String) (ce : Cell), B.U.heap = t.heap ∧ B.U.vm = t.vm ∧ XC E (A.U.calling g mk a) t ∧ t.heap[q]? = some ce ∧ ce.vm = .none ∧ A.U.vm.findClass E = some ce.cls ∧ B.locs = A.locs ++ L ∧ (∀ z ∈ L, free z.base) ∧ B.cells = A.cells + mc ∧ B.slots = A.slots + ms
def vx_Back (l : Launch) (R : Room) (p : Program) (e : Env) (below : List Frame) (s : State) (sargs : Array Value) (y : MethodName) (len W9 : Nat)
    (Pre : Pt → Array Value → Prop) (Post : Pt → Array Value → Option Value → Pt → Prop) (PostX : Pt → Array Value → Addr → Pt → Prop) : Prop :=
  ∀ (m : MethodId) (meth : Method) (c : Code) (A : Pt) (g : JFrame) (ig : Instr) (mk : MethodId) (a : Array Value),
    Stand p l e R s m sargs below meth c A.U A.locs A.cells A.slots → g.method = m → g.locals.size = c.maxLocals → decode c.code g.pc = .ok (ig, len) →
    2 * g.monitorRoom + (g.stack.map fun v => v.category).sum ≤ W9 → A.U.methodNamed? y = some mk → Pre A a →
    (∃ (v : Option Value) (B : Pt), Stand p l e R s m sargs below meth c B.U B.locs B.cells B.slots ∧ Post A a v B ∧
      Steps p.tables e below (doInvoke e (A.U.setTop g) [] mk a).1 (B.U.setTop { g with pc := g.pc + len, stack := v.toList ++ g.stack })) ∨
    (∃ (q : Addr) (B : Pt), Stand p l e R s m sargs below meth c B.U B.locs B.cells B.slots ∧ PostX A a q B ∧
      Steps p.tables e below (doInvoke e (A.U.setTop g) [] mk a).1 ((B.U.setTop g).pushFrame (.throwing q)))
section Payer
variable {l : Launch} {R : Room} {p : Program} {e : Env} {below : List Frame} {s : State} {sargs : Array Value} {y : MethodName} {len W9 : Nat}
theorem vx_back {ws : List Cond} {rm : Room} {Pc : Array Value → State → Prop} {Qc : Array Value → State → Outcome → State → Prop} {XC : String → State → State → Prop} {mc ms : Nat} {free : Addr → Prop} {bytes : ByteArray} {maxL : Nat} {ret : Option FieldType}
    (hM : vx_Met l y ws rm Pc Qc XC mc ms free) (hblind : FrameBlind Pc) (hrc : rm.cells = mc) (hrs : rm.slots = ms)
    (hframes : rm.frames + 1 ≤ R.frames) (hlocals : W9 + (maxL + 11) + rm.locals ≤ R.locals)
    (hws : ∀ w ∈ ws, ∀ a' U, s.WarmedH U.vm → w.before a' U = true) (hcode : Cond.code y bytes maxL ret ∈ ws) (hinit : ∀ a' U, s.WarmedH U.vm → (Cond.initialized y.cls).before a' U = true) :
    vx_Back l R p e below s sargs y len W9 (PreOf R mc ms Pc) (PostOf Qc mc ms free) (vx_Post XC mc ms free) := by
  intro m meth c A g ig mk a X hg hsize hdg hW hn hp
  have h1 : (headSpec ws rm).pre.before a A.U = true := atoms_intro fun w hw => hws w hw _ _ X.warmed
  have h2 : (Cond.code y bytes maxL ret).before a A.U = true := hws _ hcode _ _ X.warmed
  have h3 : (Cond.initialized y.cls).before a A.U = true := hinit _ _ X.warmed
  have h4 : A.cells + (headSpec ws rm).room.cells ≤ R.cells := by rw [show (headSpec ws rm).room.cells = mc from hrc]; exact hp.1
  have h5 : A.slots + (headSpec ws rm).room.slots ≤ R.slots := by rw [show (headSpec ws rm).room.slots = ms from hrs]; exact hp.2.1
  have hPc : Pc a (A.U.calling g mk a) := hblind _ _ _ _ hp.2.2
  obtain ⟨U, Ls, c0, s0⟩ := A
  dsimp only [Pt.U, Pt.locs, Pt.cells, Pt.slots] at h1 h2 h3 h4 h5 X hn hPc ⊢
  obtain ⟨methY, cY, hmY, hcY, -, hlY, -, -, -, -⟩ := Cond.code_spec hn h2
  obtain ⟨kY, hkY, -⟩ := className_of_methodNamed hn
  have hinitY : kY.init = .initialized := Cond.initialized_spec (findClass_of_methodNamed hn) hkY h3
  have h : At U g.method c below := by rw [hg]; exact X.here
  have hlocals9 : W9 + (maxL + 11) + (headSpec ws rm).room.locals ≤ R.locals := hlocals
  have happ : (headSpec ws rm).appliesLoose y e.platform (U.calling g mk a) = true :=
    Spec.appliesLoose_calling (g := g) h hdg hn hkY hinitY
      (X.room_calling (g := g) (R' := (headSpec ws rm).room) hsize hmY hcY hframes (by rw [hlY]; omega) h4 h5) h1
  obtain ⟨mid, hmid⟩ := h.above
  have hfr : (U.setTop g).frames = (.java g :: mid) ++ below := by rw [State.frames_setTop' g h.top, hmid]; rfl
  obtain ⟨o, s₂, hsteps, -, hend, hq⟩ := Steps.callFree hM p X.admits X.cas X.clock (acts := []) hfr happ hPc trivial
  have hq' : vx_Q Qc XC mc ms free a (U.calling g mk a) o s₂ := hq
  rw [State.frames_setTop' g h.top] at hend
  obtain ⟨g₀, hg0⟩ := Option.isSome_iff_exists.mp h.top
  obtain ⟨r, hr⟩ := State.topJava?_eq_some.mp hg0
  have hr' : (({ U with heap := s₂.heap, slotsUsed := s₂.slotsUsed } : State).setVm s₂.vm).frames = .java g₀ :: r := hr
  rcases hq' with ⟨hqc, L, hfe, hL⟩ | ⟨q, rfl, E, ce, L, hx, hce, hcv, hcl, hW₂, hsm, hL⟩
  · obtain ⟨⟨v, rfl⟩, hW₂, e2, q2, q3, q4, q5, q6⟩ := id hfe
    have e3 : s₂ = ({ (U.calling g mk a).setFrames s₂.frames with heap := s₂.heap, slotsUsed := s₂.slotsUsed } : State).setVm s₂.vm := by
      have : s₂ = ({ s₂ with vm := (U.calling g mk a).vm } : State).setVm s₂.vm := rfl
      rw [e2] at this
      exact this
    obtain ⟨c₂, i₂, len₂, hc₂, hd₂, hf₂⟩ := hend
    have hW' : U.WarmedH s₂.vm := hW₂
    have hcc : c₂ = c := by
      have h1 : s₂.code? g.method = U.code? g.method := by
        rw [State.code?_eq, State.code?_eq, hW'.alike.method?]
      exact Option.some.inj (hc₂.symm.trans (h1.trans h.code))
    subst hcc
    have hlen : len₂ = len := by rw [hdg] at hd₂; cases hd₂; rfl
    subst hlen
    have hs₂ : s₂ = (({ U with heap := s₂.heap, slotsUsed := s₂.slotsUsed } : State).setVm s₂.vm).setTop { g with pc := g.pc + len₂, stack := v.toList ++ g.stack } := by
      refine e3.trans ?_
      rw [hf₂, State.calling_eq h.top, State.setFrames_setFrames, State.setTop_of_frames _ hr', hr]
      rfl
    have hsame : U.sameButNew ({ U with heap := s₂.heap, slotsUsed := s₂.slotsUsed } : State) L mc ms := by
      refine ⟨?_, q2, q3, q4, q5, q6⟩
      obtain ⟨t, ht, -⟩ := State.frames_cons hr
      show ({ U with heap := s₂.heap, slotsUsed := s₂.slotsUsed } : State) = { U.setFrames U.frames with heap := s₂.heap, slotsUsed := s₂.slotsUsed }
      rw [State.setFrames_self ht]
    subst hg
    refine Or.inl ⟨v, ⟨(({ U with heap := s₂.heap, slotsUsed := s₂.slotsUsed } : State).setVm s₂.vm), Ls ++ L, c0 + mc, s0 + ms⟩,
      ⟨X.admits, X.cas, X.clock, X.frames, X.room, X.hears, X.method, X.code, (X.here.setHeapUsed s₂.heap s₂.slotsUsed).setVm hW'.alike, X.tail, State.WarmedH.trans X.warmed hW', X.limits, X.bytes, X.same.trans (hsame.setVm s.vm)⟩,
      ⟨g, mk, s₂, L, rfl, rfl, hqc, rfl, hL, rfl, rfl⟩, ?_⟩
    show Steps p.tables e below _ ((({ U with heap := s₂.heap, slotsUsed := s₂.slotsUsed } : State).setVm s₂.vm).setTop { g with pc := g.pc + len₂, stack := v.toList ++ g.stack })
    rw [← hs₂]
    exact hsteps
  · obtain ⟨e2, q2, q3, q4, q5, q6⟩ := id hsm
    have e3 : s₂ = ({ (U.calling g mk a).setFrames s₂.frames with heap := s₂.heap, slotsUsed := s₂.slotsUsed } : State).setVm s₂.vm := by
      have : s₂ = ({ s₂ with vm := (U.calling g mk a).vm } : State).setVm s₂.vm := rfl
      rw [e2] at this
      exact this
    have hf₂ : s₂.frames = .throwing q :: .java g :: U.frames.tail := hend
    have hW' : U.WarmedH s₂.vm := hW₂
    have hs₂ : s₂ = ((({ U with heap := s₂.heap, slotsUsed := s₂.slotsUsed } : State).setVm s₂.vm).setTop g).pushFrame (.throwing q) := by
      refine e3.trans ?_
      rw [hf₂, State.calling_eq h.top, State.setFrames_setFrames, State.pushFrame, State.frames_setTop _ hr', State.setTop_of_frames _ hr', State.setFrames_setFrames, hr]
      rfl
    have hsame : U.sameButNew ({ U with heap := s₂.heap, slotsUsed := s₂.slotsUsed } : State) L mc ms := by
      refine ⟨?_, q2, q3, q4, q5, q6⟩
      obtain ⟨t, ht, -⟩ := State.frames_cons hr
      show ({ U with heap := s₂.heap, slotsUsed := s₂.slotsUsed } : State) = { U.setFrames U.frames with heap := s₂.heap, slotsUsed := s₂.slotsUsed }
      rw [State.setFrames_self ht]
    subst hg
    refine Or.inr ⟨q, ⟨(({ U with heap := s₂.heap, slotsUsed := s₂.slotsUsed } : State).setVm s₂.vm), Ls ++ L, c0 + mc, s0 + ms⟩,
      ⟨X.admits, X.cas, X.clock, X.frames, X.room, X.hears, X.method, X.code, (X.here.setHeapUsed s₂.heap s₂.slotsUsed).setVm hW'.alike, X.tail, State.WarmedH.trans X.warmed hW', X.limits, X.bytes, X.same.trans (hsame.setVm s.vm)⟩,
      ⟨g, mk, s₂, L, E, ce, rfl, rfl, hx, hce, hcv, hcl, rfl, hL, rfl, rfl⟩, ?_⟩
    show Steps p.tables e below _ (((({ U with heap := s₂.heap, slotsUsed := s₂.slotsUsed } : State).setVm s₂.vm).setTop g).pushFrame (.throwing q))
    rw [← hs₂]
    exact hsteps
end Payer
section Calls
variable {p : Program} {l : Launch} {e : Env} {R : Room} {s : State} {m : MethodId} {args : Array Value} {below : List Frame} {meth : Method} {c : Code} {T : State} {locs : List Loc} {cells slots : Nat}
theorem vx_callV (X : Stand p l e R s m args below meth c T locs cells slots) (hexec : p.tables.exec = Jvm.exec) {own C : String} {index : Nat} {y : MethodName} {bytes : ByteArray} {maxL : Nat} {ret : Option FieldType}
    (hown : s.vm.findClass own = some m.cls) (hlink : (Cond.methodLink own index y).before args s = true) (hinst : (Cond.instanceMethod y).before args s = true) (hsel : (Cond.selects C y y).before args s = true)
    (hcode : (Cond.code y bytes maxL ret).before args s = true) (hy : y.cls ≠ "java/lang/invoke/MethodHandle" ∧ y.cls ≠ "java/lang/invoke/VarHandle")
    {W9 : Nat} {Pre : Pt → Array Value → Prop} {Post : Pt → Array Value → Option Value → Pt → Prop} {PostX : Pt → Array Value → Addr → Pt → Prop} (hK : vx_Back l R p e below s args y 3 W9 Pre Post PostX)
    {b : Addr} {cellB : Cell} (hcell : T.heap[b]? = some cellB) (hobj : cellB.vm.isStatics = false) (hcls : s.vm.findClass C = some cellB.cls)
    {g : JFrame} (hg : g.method = m) (hsize : g.locals.size = c.maxLocals) {argsL rest : List Value} (hlen : ∀ sig, parseMethodDescriptor y.desc = some sig → argsL.length = sig.parameters.length)
    (hstack : g.stack = argsL.reverse ++ .ref b :: rest) (hW : 2 * g.monitorRoom + (rest.map fun v => v.category).sum ≤ W9) (hdg : decode c.code g.pc = .ok (.invokevirtual index, 3))
    (hpre : ∀ vm₁, s.WarmedH vm₁ → Pre ⟨T.setVm vm₁, locs, cells, slots⟩ (Value.ref b :: argsL).toArray) :
    (∃ (v : Option Value) (vm₁ : Vm) (B : Pt), s.WarmedH vm₁ ∧ Stand p l e R s m args below meth c B.U B.locs B.cells B.slots ∧ Post ⟨T.setVm vm₁, locs, cells, slots⟩ (Value.ref b :: argsL).toArray v B ∧
      ∀ target, Steps p.tables e below (B.U.setTop { g with pc := g.pc + 3, stack := v.toList ++ rest }) target → Steps p.tables e below (T.setTop g) target) ∨
    (∃ (q : Addr) (vm₁ : Vm) (B : Pt), s.WarmedH vm₁ ∧ Stand p l e R s m args below meth c B.U B.locs B.cells B.slots ∧ PostX ⟨T.setVm vm₁, locs, cells, slots⟩ (Value.ref b :: argsL).toArray q B ∧
      Steps p.tables e below (T.setTop g) ((B.U.setTop { g with stack := rest }).pushFrame (.throwing q))) := by
  obtain ⟨mk, methM, hnamed, hmethM, hstM, habM⟩ := Cond.instanceMethod_spec hinst
  obtain ⟨methM', cM, hmethM', -, -, -, -, -, -, hsigM⟩ := Cond.code_spec hnamed hcode
  cases hmethM.symm.trans hmethM'
  obtain ⟨c2, r2, m2, q1, q2, q3, q4, kP, hkP, hkPi⟩ := Cond.selects_spec hsel
  cases hcls.symm.trans q1
  cases (State.methodFound?_of_named hnamed hy).symm.trans q2
  cases hnamed.symm.trans q3
  have hselP : selectMethod e.platform s.vm cellB.cls mk = .method mk := by rw [Launch.admits_selectMethod X.admits]; exact q4
  obtain ⟨vm₁, X₁, hstep₁⟩ := X.invokevirtual hexec hown hlink hnamed hmethM hstM hkP hkPi hy (a := b) (cell := cellB) hcell
    (fun z h => by rw [h] at hobj; cases hobj) hselP hmethM habM hkP hkPi (g := g) hg (argsL := argsL) (rest := rest) (hlen _ hsigM) hstack hdg
  rcases hK m meth c ⟨T.setVm vm₁, locs, cells, slots⟩ { g with stack := rest } (.invokevirtual index) mk (Value.ref b :: argsL).toArray X₁ hg hsize hdg hW (X₁.named hnamed) (hpre vm₁ X₁.warmed) with ⟨v, B, X', hpost, hsteps⟩ | ⟨q, B, X', hpost, hsteps⟩
  · exact Or.inl ⟨v, vm₁, B, X₁.warmed, X', hpost, fun target h => hstep₁ _ fun acts => by rw [doInvoke_state]; exact hsteps.trans h⟩
  · exact Or.inr ⟨q, vm₁, B, X₁.warmed, X', hpost, hstep₁ _ fun acts => by rw [doInvoke_state]; exact hsteps⟩
theorem vx_callS (X : Stand p l e R s m args below meth c T locs cells slots) (hexec : p.tables.exec = Jvm.exec) {own : String} {index : Nat} {y : MethodName} {bytes : ByteArray} {maxL : Nat} {ret : Option FieldType}
    (hown : s.vm.findClass own = some m.cls) (hlink : (Cond.methodLink own index y).before args s = true) (hstat : (Cond.static y).before args s = true) (hinit : (Cond.initialized y.cls).before args s = true)
    (hcode : (Cond.code y bytes maxL ret).before args s = true) (hy : y.cls ≠ "java/lang/invoke/MethodHandle" ∧ y.cls ≠ "java/lang/invoke/VarHandle")
    {W9 : Nat} {Pre : Pt → Array Value → Prop} {Post : Pt → Array Value → Option Value → Pt → Prop} {PostX : Pt → Array Value → Addr → Pt → Prop} (hK : vx_Back l R p e below s args y 3 W9 Pre Post PostX)
    {g : JFrame} (hg : g.method = m) (hsize : g.locals.size = c.maxLocals) {argsL rest : List Value} (hlen : ∀ sig, parseMethodDescriptor y.desc = some sig → argsL.length = sig.parameters.length)
    (hstack : g.stack = argsL.reverse ++ rest) (hW : 2 * g.monitorRoom + (rest.map fun v => v.category).sum ≤ W9) (hdg : decode c.code g.pc = .ok (.invokestatic index, 3))
    (hpre : ∀ vm₁, s.WarmedH vm₁ → Pre ⟨T.setVm vm₁, locs, cells, slots⟩ argsL.toArray) :
    (∃ (v : Option Value) (vm₁ : Vm) (B : Pt), s.WarmedH vm₁ ∧ Stand p l e R s m args below meth c B.U B.locs B.cells B.slots ∧ Post ⟨T.setVm vm₁, locs, cells, slots⟩ argsL.toArray v B ∧
      ∀ target, Steps p.tables e below (B.U.setTop { g with pc := g.pc + 3, stack := v.toList ++ rest }) target → Steps p.tables e below (T.setTop g) target) ∨
    (∃ (q : Addr) (vm₁ : Vm) (B : Pt), s.WarmedH vm₁ ∧ Stand p l e R s m args below meth c B.U B.locs B.cells B.slots ∧ PostX ⟨T.setVm vm₁, locs, cells, slots⟩ argsL.toArray q B ∧
      Steps p.tables e below (T.setTop g) ((B.U.setTop { g with stack := rest }).pushFrame (.throwing q))) := by
  obtain ⟨mk, hnamed⟩ := Cond.code_named hcode
  obtain ⟨methM, cM, hmethM, -, -, -, -, -, -, hsigM⟩ := Cond.code_spec hnamed hcode
  have hstatic : methM.isStatic = true := Cond.static_spec hnamed hmethM hstat
  obtain ⟨kP, hkP, -⟩ := className_of_methodNamed hnamed
  have hinitP : kP.init = .initialized := Cond.initialized_spec (findClass_of_methodNamed hnamed) hkP hinit
  obtain ⟨vm₁, X₁, hstep₁⟩ := X.invokestatic hexec hown hlink hnamed hmethM hstatic hkP hinitP hy (g := g) hg (argsL := argsL) (rest := rest) (hlen _ hsigM) hstack hdg
  rcases hK m meth c ⟨T.setVm vm₁, locs, cells, slots⟩ { g with stack := rest } (.invokestatic index) mk argsL.toArray X₁ hg hsize hdg hW (X₁.named hnamed) (hpre vm₁ X₁.warmed) with ⟨v, B, X', hpost, hsteps⟩ | ⟨q, B, X', hpost, hsteps⟩
  · exact Or.inl ⟨v, vm₁, B, X₁.warmed, X', hpost, fun target h => hstep₁ _ fun acts => by rw [doInvoke_state]; exact hsteps.trans h⟩
  · exact Or.inr ⟨q, vm₁, B, X₁.warmed, X', hpost, hstep₁ _ fun acts => by rw [doInvoke_state]; exact hsteps⟩
end Calls
theorem vx_cls {s : State} {T : State} {vm₁ : Vm} {E : String} {k : ClassId} (hW : s.WarmedH vm₁) (h : (T.setVm vm₁).vm.findClass E = some k) : s.vm.findClass E = some k := by
  have h1 : vm₁.findClass E = some k := h
  rw [hW.alike.findClass] at h1
  exact h1
def vx_W (p : Program) (l : Launch) (e : Env) (R : Room) (s : State) (m : MethodId) (args : Array Value) (below : List Frame) (meth : Method) (c : Code) (H : Heap) (locs : List Loc) (cells slots : Nat) (Q : State → Prop) (g : JFrame) (q : Addr) : Prop :=
  ∀ T : State, T.heap = H → Stand p l e R s m args below meth c T locs cells slots → ∃ t, Steps p.tables e below ((T.setTop g).pushFrame (.throwing q)) t ∧ Q t
def vx_Run (p : Program) (l : Launch) (e : Env) (R : Room) (s : State) (m : MethodId) (args : Array Value) (below : List Frame) (meth : Method) (c : Code) (H : Heap) (locs : List Loc) (cells slots mc ms : Nat) (g : JFrame) (rest : List Value) (Qa : State → Outcome → State → Prop) (XC : String → State → State → Prop) (free : Addr → Prop) : Prop :=
  ∀ T : State, T.heap = H → Stand p l e R s m args below meth c T locs cells slots →
    (∃ (v : Option Value) (st₀ t T' : State) (L : List Loc), st₀.heap = H ∧ Stand p l e R s m args below meth c T' (locs ++ L) (cells + mc) (slots + ms) ∧ (∀ q ∈ L, free q.base) ∧ T'.heap = t.heap ∧ T'.vm = t.vm ∧ Qa st₀ (.returned v) t ∧
      Goes p e below T g T' { g with pc := g.pc + 3, stack := v.toList ++ rest }) ∨
    (∃ (q : Addr) (st₀ t T' : State) (L : List Loc) (E : String) (ce : Cell), st₀.heap = H ∧ Stand p l e R s m args below meth c T' (locs ++ L) (cells + mc) (slots + ms) ∧ (∀ z ∈ L, free z.base) ∧ T'.heap = t.heap ∧ T'.vm = t.vm ∧ XC E st₀ t ∧ t.heap[q]? = some ce ∧ ce.vm = .none ∧ s.vm.findClass E = some ce.cls ∧
      Steps p.tables e below (T.setTop g) ((T'.setTop { g with stack := rest }).pushFrame (.throwing q)))
def vx_X {S : Type} (px : S → Prop) (B : String → S → State → Prop) (A : Nat → Prop) : String → State → State → Prop := fun E st t => ∃ u : S, px u ∧ B E u t ∧ va_F A st t
section Runs
variable {p : Program} {l : Launch} {e : Env} {R : Room} {s : State} {m : MethodId} {args : Array Value} {below : List Frame} {meth : Method} {c : Code} {H : Heap} {locs : List Loc} {cells slots : Nat}
variable {y : MethodName} {bytes cc : ByteArray} {maxL nL mc ms n index : Nat} {ret : Option FieldType} {ws : List Cond} {rm : Room} {Pc : Array Value → State → Prop} {Qc : Array Value → State → Outcome → State → Prop} {XC : String → State → State → Prop} {free : Addr → Prop} {Ts : List Cond} {own C : String} {b : Addr} {As rest : List Value} {g : JFrame}
theorem vx_callBack (cb : CallB R s args own index y bytes maxL ret ws rm mc ms n) (hM : vx_Met l y ws rm Pc Qc XC mc ms free) (hbl : FrameBlind Pc) : vx_Back l R p e below s args y 3 8 (PreOf R mc ms Pc) (PostOf Qc mc ms free) (vx_Post XC mc ms free) := by
  obtain ⟨hrc, hrs, hfr, hlo, hws, hcw, -, hini, -⟩ := cb
  exact vx_back (bytes := bytes) (maxL := maxL) (ret := ret) hM hbl hrc hrs hfr hlo hws hcw (fun a' U hW => word_at hW (Or.inl (by first | rfl | simp [Cond.onTables, Cond.keeps, Cond.steady])) hini)
theorem vx_runV (S : CallFix p m c cc nL s args Ts own) (hM : vx_Met l y ws rm Pc Qc XC mc ms free) (cw : CallW R s args own C index y bytes maxL ret ws rm mc ms n) (hp : PreV s H C b Pc As)
    (hg : g.method = m) (hn : As.length = n) (hsize : g.locals.size = nL) (hstack : g.stack = As.reverse ++ .ref b :: rest) (hW : 2 * g.monitorRoom + (rest.map fun v => v.category).sum ≤ 8) (hdg : decode cc g.pc = .ok (.invokevirtual index, 3)) (hf : cells + mc ≤ R.cells ∧ slots + ms ≤ R.slots) :
    vx_Run p l e R s m args below meth c H locs cells slots mc ms g rest (Qc (Value.ref b :: As).toArray) XC free := by
  have hK : vx_Back l R p e below s args y 3 8 (PreOf R mc ms Pc) (PostOf Qc mc ms free) (vx_Post XC mc ms free) := vx_callBack cw.1 hM hp.1
  obtain ⟨⟨-, -, -, -, -, -, hcode, -, hy, hlen, hl⟩, hin, hse⟩ := cw
  obtain ⟨hx, hb, hml, ho, -⟩ := S
  obtain ⟨-, ⟨cellB, hcB, hoB, hclB⟩, hPc⟩ := hp
  intro T hT X
  rcases vx_callV X hx (C := C) (bytes := bytes) (maxL := maxL) (ret := ret) ho hl hin hse hcode hy hK (by rw [hT]; exact hcB) hoB hclB hg (hsize.trans hml.symm) (argsL := As) (rest := rest) (fun sig h => hn.trans (hlen sig h)) hstack hW (by rw [hb]; exact hdg)
    (fun vm₁ hW₁ => ⟨hf.1, hf.2, hPc (T.setVm vm₁) hT hW₁⟩) with ⟨v, vm₁, ⟨U', l2, c2, s2⟩, hW₁, X', ⟨g', mk, t, L, e1, e2, hq, h1, hL, h2, h3⟩, st⟩ | ⟨q, vm₁, ⟨U', l2, c2, s2⟩, hW₁, X', ⟨g', mk, t, L, E, ce, e1, e2, hq, hce, hcv, hcl, h1, hL, h2, h3⟩, st⟩
  · dsimp only [Pt.U, Pt.locs, Pt.cells, Pt.slots] at X' e1 e2 h1 h2 h3 st
    subst h1; subst h2; subst h3
    exact Or.inl ⟨v, (T.setVm vm₁).calling g' mk (Value.ref b :: As).toArray, t, U', L, hT, X', hL, e1, e2, hq, st⟩
  · dsimp only [Pt.U, Pt.locs, Pt.cells, Pt.slots] at X' e1 e2 h1 h2 h3 st hcl
    subst h1; subst h2; subst h3
    exact Or.inr ⟨q, (T.setVm vm₁).calling g' mk (Value.ref b :: As).toArray, t, U', L, E, ce, hT, X', hL, e1, e2, hq, hce, hcv, vx_cls hW₁ hcl, st⟩
theorem vx_runS (S : CallFix p m c cc nL s args Ts own) (hM : vx_Met l y ws rm Pc Qc XC mc ms free) (cw : CallB R s args own index y bytes maxL ret ws rm mc ms n ∧ (Cond.static y).before args s = true) (hp : PreS s H Pc As)
    (hg : g.method = m) (hn : As.length = n) (hsize : g.locals.size = nL) (hstack : g.stack = As.reverse ++ rest) (hW : 2 * g.monitorRoom + (rest.map fun v => v.category).sum ≤ 8) (hdg : decode cc g.pc = .ok (.invokestatic index, 3)) (hf : cells + mc ≤ R.cells ∧ slots + ms ≤ R.slots) :
    vx_Run p l e R s m args below meth c H locs cells slots mc ms g rest (Qc As.toArray) XC free := by
  have hK : vx_Back l R p e below s args y 3 8 (PreOf R mc ms Pc) (PostOf Qc mc ms free) (vx_Post XC mc ms free) := vx_callBack cw.1 hM hp.1
  obtain ⟨⟨-, -, -, -, -, -, hcode, hini, hy, hlen, hl⟩, hstt⟩ := cw
  obtain ⟨hx, hb, hml, ho, -⟩ := S
  intro T hT X
  rcases vx_callS X hx (bytes := bytes) (maxL := maxL) (ret := ret) ho hl hstt hini hcode hy hK hg (hsize.trans hml.symm) (argsL := As) (rest := rest) (fun sig h => hn.trans (hlen sig h)) hstack hW (by rw [hb]; exact hdg)
    (fun vm₁ hW₁ => ⟨hf.1, hf.2, hp.2 (T.setVm vm₁) hT hW₁⟩) with ⟨v, vm₁, ⟨U', l2, c2, s2⟩, hW₁, X', ⟨g', mk, t, L, e1, e2, hq, h1, hL, h2, h3⟩, st⟩ | ⟨q, vm₁, ⟨U', l2, c2, s2⟩, hW₁, X', ⟨g', mk, t, L, E, ce, e1, e2, hq, hce, hcv, hcl, h1, hL, h2, h3⟩, st⟩
  · dsimp only [Pt.U, Pt.locs, Pt.cells, Pt.slots] at X' e1 e2 h1 h2 h3 st
    subst h1; subst h2; subst h3
    exact Or.inl ⟨v, (T.setVm vm₁).calling g' mk As.toArray, t, U', L, hT, X', hL, e1, e2, hq, st⟩
  · dsimp only [Pt.U, Pt.locs, Pt.cells, Pt.slots] at X' e1 e2 h1 h2 h3 st hcl
    subst h1; subst h2; subst h3
    exact Or.inr ⟨q, (T.setVm vm₁).calling g' mk As.toArray, t, U', L, E, ce, hT, X', hL, e1, e2, hq, hce, hcv, vx_cls hW₁ hcl, st⟩
end Runs
section Rows
variable {p : Program} {l : Launch} {e : Env} {R : Room} {s : State} {m : MethodId} {args : Array Value} {below : List Frame} {meth : Method} {c : Code} {H : Heap} {locs : List Loc} {cells slots : Nat} {Q : State → Prop}
variable {mc ms : Nat} {free : Addr → Prop} {A0 A1 : Nat → Prop} {H0 : Heap} {a : Array Value} {pc : Nat} {ls : Array Slot} {st0 rest : List Value}
theorem vx_keep {st₀ t T' : State} {L : List Loc} (h0 : st₀.heap = H) (e1 : T'.heap = t.heap) (hS : va_S A0 H0 H locs) (hA : ∀ q, q < H.size → A1 q → A0 q) (hf : ∀ q, free q → A0 q) (hL : ∀ q ∈ L, free q.base) (hF : va_F A1 st₀ t) :
    H.size ≤ T'.heap.size ∧ (∀ q : Nat, q < H.size → ¬ A1 q → T'.heap[q]? = H[q]?) ∧ va_S A0 H0 T'.heap (locs ++ L) := by
  obtain ⟨hz, hk⟩ := hF
  rw [h0] at hz hk
  exact ⟨by rw [e1]; exact hz, fun q h1 h2 => by rw [e1]; exact hk q h1 h2,
    ⟨Nat.le_trans hS.1 (by rw [e1]; exact hz), fun q h1 h2 => by rw [e1, hk q (Nat.lt_of_lt_of_le h1 hS.1) (fun z => h2 (hA q (Nat.lt_of_lt_of_le h1 hS.1) z))]; exact hS.2.1 q h1 h2, fun q hq => by
      rcases List.mem_append.mp hq with h | h
      · exact hS.2.2 q h
      · exact hf _ (hL q h)⟩⟩
theorem vx_calli {S SX : Type} {post : Int32 → S → Prop} {px : SX → Prop} {B : S → State → Prop} {BX : String → SX → State → Prop} {AX : Nat → Prop} (hr : vx_Run p l e R s m args below meth c H locs cells slots mc ms (F0 m pc ls st0) rest (va_Qi post B A1 a) (vx_X px BX AX) free) (hS : va_S A0 H0 H locs) (hA : ∀ q, q < H.size → A1 q → A0 q) (hf : ∀ q, free q → A0 q) (hAX : ∀ q, q < H.size → AX q → A0 q)
    (kx : ∀ (E : String) (ce : Cell) (q9 : Addr) (u : SX) (t : State) (H1 : Heap) (locs1 : List Loc), t.heap = H1 → s.vm.Alike t.vm → px u → BX E u t → H.size ≤ H1.size → (∀ q : Nat, q < H.size → ¬ AX q → H1[q]? = H[q]?) → va_S A0 H0 H1 locs1 → H1[q9]? = some ce → ce.vm = .none → s.vm.findClass E = some ce.cls → vx_W p l e R s m args below meth c H1 locs1 (cells + mc) (slots + ms) Q (F0 m pc ls rest) q9)
    (kk : ∀ (r : Int32) (u : S) (t : State) (H1 : Heap) (locs1 : List Loc), t.heap = H1 → s.vm.Alike t.vm → post r u → B u t → H.size ≤ H1.size → (∀ q : Nat, q < H.size → ¬ A1 q → H1[q]? = H[q]?) → va_S A0 H0 H1 locs1 → W p l e R s m args below meth c H1 locs1 (cells + mc) (slots + ms) Q (F0 m (pc + 3) ls (.int r :: rest))) : W p l e R s m args below meth c H locs cells slots Q (F0 m pc ls st0) := by
  intro T hT X
  rcases hr T hT X with ⟨v, st₀, t, T', L, h0, X', hL, e1, e2, ⟨⟨r, u, hv, hp, hb⟩, hF⟩, st⟩ | ⟨q, st₀, t, T', L, E, ce, h0, X', hL, e1, e2, ⟨u, hp, hb, hF⟩, hce, hcv, hcl, st⟩
  · cases hv
    obtain ⟨k1, k2, k3⟩ := vx_keep h0 e1 hS hA hf hL hF
    obtain ⟨t2, a1, b1⟩ := kk r u t T'.heap (locs ++ L) e1.symm (by rw [← e2]; exact X'.warmed.alike) hp hb k1 k2 k3 T' rfl X'
    exact ⟨t2, st t2 a1, b1⟩
  · obtain ⟨k1, k2, k3⟩ := vx_keep h0 e1 hS hAX hf hL hF
    obtain ⟨t2, a1, b1⟩ := kx E ce q u t T'.heap (locs ++ L) e1.symm (by rw [← e2]; exact X'.warmed.alike) hp hb k1 k2 k3 (by rw [e1]; exact hce) hcv hcl T' rfl X'
    exact ⟨t2, st.trans a1, b1⟩
theorem vx_calll {S SX : Type} {post : Int64 → S → Prop} {px : SX → Prop} {B : S → State → Prop} {BX : String → SX → State → Prop} {AX : Nat → Prop} (hr : vx_Run p l e R s m args below meth c H locs cells slots mc ms (F0 m pc ls st0) rest (va_Ql post B A1 a) (vx_X px BX AX) free) (hS : va_S A0 H0 H locs) (hA : ∀ q, q < H.size → A1 q → A0 q) (hf : ∀ q, free q → A0 q) (hAX : ∀ q, q < H.size → AX q → A0 q)
    (kx : ∀ (E : String) (ce : Cell) (q9 : Addr) (u : SX) (t : State) (H1 : Heap) (locs1 : List Loc), t.heap = H1 → s.vm.Alike t.vm → px u → BX E u t → H.size ≤ H1.size → (∀ q : Nat, q < H.size → ¬ AX q → H1[q]? = H[q]?) → va_S A0 H0 H1 locs1 → H1[q9]? = some ce → ce.vm = .none → s.vm.findClass E = some ce.cls → vx_W p l e R s m args below meth c H1 locs1 (cells + mc) (slots + ms) Q (F0 m pc ls rest) q9)
    (kk : ∀ (r : Int64) (u : S) (t : State) (H1 : Heap) (locs1 : List Loc), t.heap = H1 → s.vm.Alike t.vm → post r u → B u t → H.size ≤ H1.size → (∀ q : Nat, q < H.size → ¬ A1 q → H1[q]? = H[q]?) → va_S A0 H0 H1 locs1 → W p l e R s m args below meth c H1 locs1 (cells + mc) (slots + ms) Q (F0 m (pc + 3) ls (.long r :: rest))) : W p l e R s m args below meth c H locs cells slots Q (F0 m pc ls st0) := by
  intro T hT X
  rcases hr T hT X with ⟨v, st₀, t, T', L, h0, X', hL, e1, e2, ⟨⟨r, u, hv, hp, hb⟩, hF⟩, st⟩ | ⟨q, st₀, t, T', L, E, ce, h0, X', hL, e1, e2, ⟨u, hp, hb, hF⟩, hce, hcv, hcl, st⟩
  · cases hv
    obtain ⟨k1, k2, k3⟩ := vx_keep h0 e1 hS hA hf hL hF
    obtain ⟨t2, a1, b1⟩ := kk r u t T'.heap (locs ++ L) e1.symm (by rw [← e2]; exact X'.warmed.alike) hp hb k1 k2 k3 T' rfl X'
    exact ⟨t2, st t2 a1, b1⟩
  · obtain ⟨k1, k2, k3⟩ := vx_keep h0 e1 hS hAX hf hL hF
    obtain ⟨t2, a1, b1⟩ := kx E ce q u t T'.heap (locs ++ L) e1.symm (by rw [← e2]; exact X'.warmed.alike) hp hb k1 k2 k3 (by rw [e1]; exact hce) hcv hcl T' rfl X'
    exact ⟨t2, st.trans a1, b1⟩
theorem vx_callf {S SX : Type} {post : UInt32 → S → Prop} {px : SX → Prop} {B : S → State → Prop} {BX : String → SX → State → Prop} {AX : Nat → Prop} (hr : vx_Run p l e R s m args below meth c H locs cells slots mc ms (F0 m pc ls st0) rest (va_Qf post B A1 a) (vx_X px BX AX) free) (hS : va_S A0 H0 H locs) (hA : ∀ q, q < H.size → A1 q → A0 q) (hf : ∀ q, free q → A0 q) (hAX : ∀ q, q < H.size → AX q → A0 q)
    (kx : ∀ (E : String) (ce : Cell) (q9 : Addr) (u : SX) (t : State) (H1 : Heap) (locs1 : List Loc), t.heap = H1 → s.vm.Alike t.vm → px u → BX E u t → H.size ≤ H1.size → (∀ q : Nat, q < H.size → ¬ AX q → H1[q]? = H[q]?) → va_S A0 H0 H1 locs1 → H1[q9]? = some ce → ce.vm = .none → s.vm.findClass E = some ce.cls → vx_W p l e R s m args below meth c H1 locs1 (cells + mc) (slots + ms) Q (F0 m pc ls rest) q9)
    (kk : ∀ (r : UInt32) (u : S) (t : State) (H1 : Heap) (locs1 : List Loc), t.heap = H1 → s.vm.Alike t.vm → post r u → B u t → H.size ≤ H1.size → (∀ q : Nat, q < H.size → ¬ A1 q → H1[q]? = H[q]?) → va_S A0 H0 H1 locs1 → W p l e R s m args below meth c H1 locs1 (cells + mc) (slots + ms) Q (F0 m (pc + 3) ls (.float r :: rest))) : W p l e R s m args below meth c H locs cells slots Q (F0 m pc ls st0) := by
  intro T hT X
  rcases hr T hT X with ⟨v, st₀, t, T', L, h0, X', hL, e1, e2, ⟨⟨r, u, hv, hp, hb⟩, hF⟩, st⟩ | ⟨q, st₀, t, T', L, E, ce, h0, X', hL, e1, e2, ⟨u, hp, hb, hF⟩, hce, hcv, hcl, st⟩
  · cases hv
    obtain ⟨k1, k2, k3⟩ := vx_keep h0 e1 hS hA hf hL hF
    obtain ⟨t2, a1, b1⟩ := kk r u t T'.heap (locs ++ L) e1.symm (by rw [← e2]; exact X'.warmed.alike) hp hb k1 k2 k3 T' rfl X'
    exact ⟨t2, st t2 a1, b1⟩
  · obtain ⟨k1, k2, k3⟩ := vx_keep h0 e1 hS hAX hf hL hF
    obtain ⟨t2, a1, b1⟩ := kx E ce q u t T'.heap (locs ++ L) e1.symm (by rw [← e2]; exact X'.warmed.alike) hp hb k1 k2 k3 (by rw [e1]; exact hce) hcv hcl T' rfl X'
    exact ⟨t2, st.trans a1, b1⟩
theorem vx_calld {S SX : Type} {post : UInt64 → S → Prop} {px : SX → Prop} {B : S → State → Prop} {BX : String → SX → State → Prop} {AX : Nat → Prop} (hr : vx_Run p l e R s m args below meth c H locs cells slots mc ms (F0 m pc ls st0) rest (va_Qd post B A1 a) (vx_X px BX AX) free) (hS : va_S A0 H0 H locs) (hA : ∀ q, q < H.size → A1 q → A0 q) (hf : ∀ q, free q → A0 q) (hAX : ∀ q, q < H.size → AX q → A0 q)
    (kx : ∀ (E : String) (ce : Cell) (q9 : Addr) (u : SX) (t : State) (H1 : Heap) (locs1 : List Loc), t.heap = H1 → s.vm.Alike t.vm → px u → BX E u t → H.size ≤ H1.size → (∀ q : Nat, q < H.size → ¬ AX q → H1[q]? = H[q]?) → va_S A0 H0 H1 locs1 → H1[q9]? = some ce → ce.vm = .none → s.vm.findClass E = some ce.cls → vx_W p l e R s m args below meth c H1 locs1 (cells + mc) (slots + ms) Q (F0 m pc ls rest) q9)
    (kk : ∀ (r : UInt64) (u : S) (t : State) (H1 : Heap) (locs1 : List Loc), t.heap = H1 → s.vm.Alike t.vm → post r u → B u t → H.size ≤ H1.size → (∀ q : Nat, q < H.size → ¬ A1 q → H1[q]? = H[q]?) → va_S A0 H0 H1 locs1 → W p l e R s m args below meth c H1 locs1 (cells + mc) (slots + ms) Q (F0 m (pc + 3) ls (.double r :: rest))) : W p l e R s m args below meth c H locs cells slots Q (F0 m pc ls st0) := by
  intro T hT X
  rcases hr T hT X with ⟨v, st₀, t, T', L, h0, X', hL, e1, e2, ⟨⟨r, u, hv, hp, hb⟩, hF⟩, st⟩ | ⟨q, st₀, t, T', L, E, ce, h0, X', hL, e1, e2, ⟨u, hp, hb, hF⟩, hce, hcv, hcl, st⟩
  · cases hv
    obtain ⟨k1, k2, k3⟩ := vx_keep h0 e1 hS hA hf hL hF
    obtain ⟨t2, a1, b1⟩ := kk r u t T'.heap (locs ++ L) e1.symm (by rw [← e2]; exact X'.warmed.alike) hp hb k1 k2 k3 T' rfl X'
    exact ⟨t2, st t2 a1, b1⟩
  · obtain ⟨k1, k2, k3⟩ := vx_keep h0 e1 hS hAX hf hL hF
    obtain ⟨t2, a1, b1⟩ := kx E ce q u t T'.heap (locs ++ L) e1.symm (by rw [← e2]; exact X'.warmed.alike) hp hb k1 k2 k3 (by rw [e1]; exact hce) hcv hcl T' rfl X'
    exact ⟨t2, st.trans a1, b1⟩
theorem vx_callv {S SX : Type} {post : S → Prop} {px : SX → Prop} {B : S → State → Prop} {BX : String → SX → State → Prop} {AX : Nat → Prop} (hr : vx_Run p l e R s m args below meth c H locs cells slots mc ms (F0 m pc ls st0) rest (va_Qv post B A1 a) (vx_X px BX AX) free) (hS : va_S A0 H0 H locs) (hA : ∀ q, q < H.size → A1 q → A0 q) (hf : ∀ q, free q → A0 q) (hAX : ∀ q, q < H.size → AX q → A0 q)
    (kx : ∀ (E : String) (ce : Cell) (q9 : Addr) (u : SX) (t : State) (H1 : Heap) (locs1 : List Loc), t.heap = H1 → s.vm.Alike t.vm → px u → BX E u t → H.size ≤ H1.size → (∀ q : Nat, q < H.size → ¬ AX q → H1[q]? = H[q]?) → va_S A0 H0 H1 locs1 → H1[q9]? = some ce → ce.vm = .none → s.vm.findClass E = some ce.cls → vx_W p l e R s m args below meth c H1 locs1 (cells + mc) (slots + ms) Q (F0 m pc ls rest) q9)
    (kk : ∀ (u : S) (t : State) (H1 : Heap) (locs1 : List Loc), t.heap = H1 → s.vm.Alike t.vm → post u → B u t → H.size ≤ H1.size → (∀ q : Nat, q < H.size → ¬ A1 q → H1[q]? = H[q]?) → va_S A0 H0 H1 locs1 → W p l e R s m args below meth c H1 locs1 (cells + mc) (slots + ms) Q (F0 m (pc + 3) ls (rest))) : W p l e R s m args below meth c H locs cells slots Q (F0 m pc ls st0) := by
  intro T hT X
  rcases hr T hT X with ⟨v, st₀, t, T', L, h0, X', hL, e1, e2, ⟨⟨u, hv, hp, hb⟩, hF⟩, st⟩ | ⟨q, st₀, t, T', L, E, ce, h0, X', hL, e1, e2, ⟨u, hp, hb, hF⟩, hce, hcv, hcl, st⟩
  · cases hv
    obtain ⟨k1, k2, k3⟩ := vx_keep h0 e1 hS hA hf hL hF
    obtain ⟨t2, a1, b1⟩ := kk u t T'.heap (locs ++ L) e1.symm (by rw [← e2]; exact X'.warmed.alike) hp hb k1 k2 k3 T' rfl X'
    exact ⟨t2, st t2 a1, b1⟩
  · obtain ⟨k1, k2, k3⟩ := vx_keep h0 e1 hS hAX hf hL hF
    obtain ⟨t2, a1, b1⟩ := kx E ce q u t T'.heap (locs ++ L) e1.symm (by rw [← e2]; exact X'.warmed.alike) hp hb k1 k2 k3 (by rw [e1]; exact hce) hcv hcl T' rfl X'
    exact ⟨t2, st.trans a1, b1⟩
theorem vx_catch {own name : String} {E : String} {ce : Cell} {q : Addr} (hown : s.vm.findClass own = some m.cls) (pre : List ExceptionTableEntry) (x : ExceptionTableEntry) (suf : List ExceptionTableEntry) (hsplit : c.exceptionTable.toList = pre ++ x :: suf)
    (hpass : ∀ z ∈ pre, covers z pc = false ∨ (z.catchType ≠ 0 ∧ ∃ nm : String, (Cond.classLink own z.catchType nm).before args s = true ∧ va_Nc E nm s)) (hx : covers x pc = true) (h0 : x.catchType ≠ 0)
    (hlink : (Cond.classLink own x.catchType name).before args s = true) (hcast : (Cond.castable E name).before args s = true) (hcell : H[q]? = some ce) (hv : ce.vm = .none) (hcl : s.vm.findClass E = some ce.cls)
    (kk : W p l e R s m args below meth c H locs cells slots Q (F0 m x.handlerPc ls [.ref q])) : vx_W p l e R s m args below meth c H locs cells slots Q (F0 m pc ls rest) q := by
  intro T hT X
  have hpl : e.platform.magicAccessors = ({} : Platform).magicAccessors := by rw [X.admits.platform]
  obtain ⟨c3, c4, hc3, hc4, hasg⟩ := Cond.castable_spec hcast
  cases Option.some.inj (hc3.symm.trans hcl)
  obtain ⟨c5, hc5, hcl5⟩ := Cond.classLink_spec hown hlink e.platform hpl
  cases Option.some.inj (hc4.symm.trans hc5)
  obtain ⟨vm', X', st⟩ := X.thenCaughtThrough q (g := F0 m pc ls rest) rfl (Steps.refl _) (by rw [hT]; exact hcell) (by rw [hv]; rfl) (by obtain ⟨k9, h9, -⟩ := Vm.findClass_spec hcl; exact ⟨k9, h9⟩) pre x suf hsplit
    (fun z hz => by
      rcases hpass z hz with h | ⟨hz0, nm, hl1, hn1⟩
      · exact Or.inl h
      · obtain ⟨c6, hc6, hcl6⟩ := Cond.classLink_spec hown hl1 e.platform hpl
        obtain ⟨a8, b8, h1, h2, h3⟩ := hn1
        cases Option.some.inj (h1.symm.trans hcl)
        cases Option.some.inj (h2.symm.trans hc6)
        exact Or.inr ⟨hz0, _, hcl6, h3⟩) hx (Or.inr ⟨h0, c4, hcl5, hasg⟩)
  obtain ⟨t, a1, b1⟩ := kk (T.setVm vm') hT X'
  exact ⟨t, st.trans a1, b1⟩
end Rows
section Ends
variable {p : Program} {l : Launch} {e : Env} {R : Room} {s : State} {m : MethodId} {args : Array Value} {below : List Frame} {meth : Method} {c : Code} {H : Heap} {locs : List Loc} {cells slots : Nat} {Q : State → Prop}
variable {mc ms : Nat} {free : Addr → Prop} {A0 A1 : Nat → Prop} {H0 : Heap} {a : Array Value} {ls : Array Slot} {st0 rest : List Value}
variable {Qc : Array Value → State → Outcome → State → Prop} {XC : String → State → State → Prop}
def vx_MQ (below : List Frame) (Qc : Array Value → State → Outcome → State → Prop) (XC : String → State → State → Prop) (a : Array Value) (s : State) (mc ms : Nat) (free : Addr → Prop) : State → Prop := fun t =>
  ∃ o, t.status = .running ∧ Ended t below o ∧ vx_Q Qc XC mc ms free a s o t
theorem vx_ret {g : JFrame} {mc ms : Nat} (k : W p l e R s m args below meth c H locs cells slots (MQ below Qc args s mc ms free) g) : W p l e R s m args below meth c H locs cells slots (vx_MQ below Qc XC args s mc ms free) g := by
  intro T hT X
  obtain ⟨t, a1, o, b1, b2, b3, b4⟩ := k T hT X
  exact ⟨t, a1, o, b1, b2, Or.inl ⟨b3, b4⟩⟩
theorem vx_widen {g : JFrame} {q : Addr} {k n : Nat} (h1 : cells ≤ k) (h2 : slots ≤ n) (kk : vx_W p l e R s m args below meth c H locs k n Q g q) : vx_W p l e R s m args below meth c H locs cells slots Q g q := fun T hT X => kk T hT (stand_widen X h1 h2)
theorem vx_out {pc : Nat} {E : String} {ce : Cell} {q : Addr} {mc ms : Nat} (hout : ∀ x ∈ c.exceptionTable.toList, covers x pc = false) (hlocks : meth.locks = false) (hcell : H[q]? = some ce) (hv : ce.vm = .none) (hcl : s.vm.findClass E = some ce.cls)
    (hx : ∀ t : State, t.heap = H → s.vm.Alike t.vm → XC E s t) (hf : ∀ z ∈ locs, free z.base) (hc : cells ≤ mc) (hs : slots ≤ ms) :
    vx_W p l e R s m args below meth c H locs cells slots (vx_MQ below Qc XC args s mc ms free) (F0 m pc ls rest) q := by
  intro T hT X
  obtain ⟨st1, hrun, hend, hW, hsm⟩ := X.leaveThrown q (g := F0 m pc ls rest) rfl rfl rfl hout hlocks
  have hcell9 : (T.setFrames (.throwing q :: below)).heap[q]? = some ce := by
    show T.heap[q]? = some ce
    rw [hT]; exact hcell
  exact ⟨_, st1, .threw q, hrun, hend, Or.inr ⟨q, rfl, E, ce, locs, hx _ hT hW.alike, hcell9, hv, hcl, hW, hsm.mono hc hs, hf⟩⟩
theorem vx_frame {U : State} {k n : Nat} (h : s.sameButNew ({ U with vm := s.vm } : State) locs k n) : s.heap.size ≤ U.heap.size ∧ ∀ q : Nat, q < s.heap.size → (∀ z ∈ locs, z.base ≠ q) → U.heap[q]? = s.heap[q]? := by
  obtain ⟨-, h2, -, -, -, h6⟩ := h
  refine ⟨h2, fun q hq hz => ?_⟩
  obtain ⟨c9, e1, e2, e3, e4⟩ := h6 q _ (Array.getElem?_eq_getElem hq)
  have hs : c9.slots = (s.heap[q]).slots := Array.ext_getElem? fun i => e4 i fun hm => hz _ hm rfl
  have h9 : c9 = s.heap[q] := by
    rw [hs] at e2
    exact e2
  have e5 : U.heap[q]? = some c9 := e1
  rw [e5, h9, Array.getElem?_eq_getElem hq]
def vx_no (w : Cond) : Bool := decide (w ≠ .isRef (.static Bundle.tN "UNASSIGNED_STACK" Bundle.steD)) && decide (w ≠ .isRef (.static Bundle.tN "SUPPRESSED_SENTINEL" Bundle.listD)) && decide (w ≠ .laysStatic Bundle.tN "UNASSIGNED_STACK" Bundle.steD) && decide (w ≠ .laysStatic Bundle.tN "SUPPRESSED_SENTINEL" Bundle.listD)
def vx_at0 (own : String) (ic : Nat) (X : String) (names : List String) : List Cond := (Bundle.ownAtoms0 own ic X names).filter vx_no
def vx_atS (own : String) (ic : Nat) (X : String) (names : List String) : List Cond := (Bundle.ownAtoms own ic X names).filter vx_no
def vx_ot (w : Cond) : Bool := w.onTables || goodWord w
theorem vx_ot_at {args a' : Array Value} {s U : State} {w : Cond} (hW : s.WarmedH U.vm) (hvm : s.vm = U.vm) (hg : vx_ot w = true) (h : w.before args s = true) : w.before a' U = true := by
  simp only [vx_ot, Bool.or_eq_true] at hg
  rcases hg with hg | hg
  · exact va_tabs hg hvm h
  · exact word_at hW (good_of_word hg) h
theorem vx_hat {args : Array Value} {s : State} {L B : List Cond} (h1 : ∀ w ∈ L.filter goodWord, w.before args s = true) (h2 : ∀ w ∈ L.filter (fun w => !goodWord w), w ∈ B) (h3 : ∀ w ∈ B, w.before args s = true) : ∀ w ∈ L, w.before args s = true := by
  intro w hw
  by_cases g : goodWord w = true
  · exact h1 w (List.mem_filter.mpr ⟨hw, g⟩)
  · refine h3 w (h2 w (List.mem_filter.mpr ⟨hw, ?_⟩))
    show (!goodWord w) = true
    cases hgw : goodWord w
    · rfl
    · exact absurd hgw g
theorem vx_c {args : Array Value} {s : State} {w : Cond} {B : List Cond} (h : w.before args s = true) (t : ∀ w ∈ B, w.before args s = true) : ∀ w' ∈ w :: B, w'.before args s = true := fun w' h' => (List.mem_cons.mp h').elim (fun e => by rw [e]; exact h) (t w')
theorem vx_n {args : Array Value} {s : State} : ∀ w ∈ ([] : List Cond), w.before args s = true := fun _ h => nomatch h
theorem vx_own {args : Array Value} {s : State} {L : List Cond} (h1 : ∀ w ∈ L.filter vx_no, w.before args s = true)
    (hU : (Cond.isRef (.static Bundle.tN "UNASSIGNED_STACK" Bundle.steD)).before args s = true) (hN : (Cond.isRef (.static Bundle.tN "SUPPRESSED_SENTINEL" Bundle.listD)).before args s = true)
    (lU : (Cond.laysStatic Bundle.tN "UNASSIGNED_STACK" Bundle.steD).before args s = true) (lN : (Cond.laysStatic Bundle.tN "SUPPRESSED_SENTINEL" Bundle.listD).before args s = true) : ∀ w ∈ L, w.before args s = true := by
  intro w hw
  by_cases e1 : w = .isRef (.static Bundle.tN "UNASSIGNED_STACK" Bundle.steD)
  · rw [e1]; exact hU
  · by_cases e2 : w = .isRef (.static Bundle.tN "SUPPRESSED_SENTINEL" Bundle.listD)
    · rw [e2]; exact hN
    · by_cases e3 : w = .laysStatic Bundle.tN "UNASSIGNED_STACK" Bundle.steD
      · rw [e3]; exact lU
      · by_cases e4 : w = .laysStatic Bundle.tN "SUPPRESSED_SENTINEL" Bundle.listD
        · rw [e4]; exact lN
        · exact h1 w (List.mem_filter.mpr ⟨hw, by unfold vx_no; rw [decide_eq_true e1, decide_eq_true e2, decide_eq_true e3, decide_eq_true e4]; rfl⟩)
def vx_L (C n d : String) (A : Nat → Prop) (U : State) (H : Heap) : Prop := ∃ (c : ClassId) (k : Class) (i : Nat) (f : Field) (a : Nat) (cell : Cell), U.vm.findClass C = some c ∧ U.fieldFound? C n d = some (c, k, i, f) ∧ f.isStatic = true ∧ k.statics = some a ∧ H[a]? = some cell ∧ cell.vm.isStatics = true ∧ cell.cls = c ∧ f.slot < cell.slots.size ∧ k.staticTypes[f.slot]? = some f.type ∧ ¬ A a
theorem vx_L.moved {C n d : String} {A : Nat → Prop} {u U : State} {H : Heap} (hvm : u.vm.Alike U.vm) (h : vx_L C n d A u H) : vx_L C n d A U H := by
  obtain ⟨c, k, i, f, a, cell, h1, h2, h3, h4, h5, h6, h7, h8, h9, h10⟩ := h
  obtain ⟨k', hi', he⟩ := State.fieldFound?_setVm hvm h2
  exact ⟨c, k', i, f, a, cell, by rw [hvm.findClass]; exact h1, hi', h3, by rw [he]; exact h4, h5, h6, h7, h8, by rw [he]; exact h9, h10⟩
theorem vx_L.kept {C n d : String} {A : Nat → Prop} {U : State} {H H1 : Heap} (h : vx_L C n d A U H) (hq : ∀ a : Nat, a < H.size → ¬ A a → H1[a]? = H[a]?) : vx_L C n d A U H1 := by
  obtain ⟨c, k, i, f, a, cell, h1, h2, h3, h4, h5, h6, h7, h8, h9, h10⟩ := h
  exact ⟨c, k, i, f, a, cell, h1, h2, h3, h4, by rw [hq a (Array.getElem?_eq_some_iff.mp h5).1 h10]; exact h5, h6, h7, h8, h9, h10⟩
theorem vx_L.narrow {C n d : String} {A B : Nat → Prop} {U : State} {H : Heap} (h : vx_L C n d A U H) (hAB : ∀ q, B q → A q) : vx_L C n d B U H := by
  obtain ⟨c, k, i, f, a, cell, h1, h2, h3, h4, h5, h6, h7, h8, h9, h10⟩ := h
  exact ⟨c, k, i, f, a, cell, h1, h2, h3, h4, h5, h6, h7, h8, h9, fun z => h10 (hAB _ z)⟩
theorem vx_L.word {C n d : String} {A : Nat → Prop} {s : State} {args : Array Value} (h : vx_L C n d A s s.heap) : (Cond.laysStatic C n d).before args s = true := by
  obtain ⟨c, k, i, f, a, cell, h1, h2, h3, h4, h5, h6, h7, h8, h9, -⟩ := h
  show (Cond.laysStatic C n d).holds args s none s [] = true
  exact Cond.laysStatic_of h1 h2 h3 h4 h5 h6 h7 h8 h9
def vx_Zq (C n d : String) (A : Nat → Prop) (U : State) (H : Heap) : Prop := va_Zq C n d A U H ∧ vx_L C n d A U H
theorem vx_Zq.moved {C n d : String} {A : Nat → Prop} {u U : State} {H : Heap} (hvm : u.vm.Alike U.vm) (h : vx_Zq C n d A u H) : vx_Zq C n d A U H := ⟨va_Zq.moved hvm h.1, vx_L.moved hvm h.2⟩
theorem vx_Zq.kept {C n d : String} {A : Nat → Prop} {U : State} {H H1 : Heap} (h : vx_Zq C n d A U H) (hq : ∀ a : Nat, a < H.size → ¬ A a → H1[a]? = H[a]?) : vx_Zq C n d A U H1 := ⟨va_Zq.kept h.1 hq, vx_L.kept h.2 hq⟩
theorem vx_Zq.narrow {C n d : String} {A B : Nat → Prop} {U : State} {H : Heap} (h : vx_Zq C n d A U H) (hAB : ∀ q, B q → A q) : vx_Zq C n d B U H := ⟨va_Zq.narrow h.1 hAB, vx_L.narrow h.2 hAB⟩
theorem vx_Zqof {args : Array Value} {s : State} {C n d : String} {A : Nat → Prop} (hl : (Cond.laysStatic C n d).before args s = true) (hini : (Cond.initialized C).before args s = true) (h : (Cond.isRef (.static C n d)).before args s = true) (hA : ∀ a : Nat, a < s.heap.size → ¬ A a) : vx_Zq C n d A s s.heap := by
  refine ⟨va_Zqof hl hini h hA, ?_⟩
  obtain ⟨c, k, i, f, a, cell, h1, h2, h3, h4, h5, h6, h7, h8, h9⟩ := Cond.laysStatic_spec hl
  exact ⟨c, k, i, f, a, cell, h1, h2, h3, h4, h5, h6, h7, h8, h9, hA a (Array.getElem?_eq_some_iff.mp h5).1⟩
theorem vx_isRef {C n d : String} {v : Value} {A : Nat → Prop} {s : State} {args : Array Value} (h : va_Z C n d v A s s.heap) (hv : v.isRef = true) : (Cond.isRef (.static C n d)).before args s = true := by
  obtain ⟨cf, kf, fi, f, a, cell, h1, h2, h3, h4, h5, h6, h7, -⟩ := h
  have he : (Term.static C n d).eval args s none [] s = some v := by
    simp [Term.eval, State.fieldNamed?, h1, h2, h4, h5, h6, h7]
  simp only [Cond.before, Cond.holds, Cond.value, he]
  cases v <;> simp_all [Value.isRef]
theorem vx_isRefq {C n d : String} {A : Nat → Prop} {s : State} {args : Array Value} (h : va_Zq C n d A s s.heap) : (Cond.isRef (.static C n d)).before args s = true := by
  rcases h with h | ⟨t, h⟩
  · exact vx_isRef h rfl
  · exact vx_isRef h rfl
theorem vx_rebase {T : State} (X : Stand p l e R s m args below meth c T locs cells slots) {R' : Room} (hf : R'.frames ≤ R.frames) (hl : R'.locals ≤ R.locals) (hc : cells + R'.cells ≤ R.cells) (hs : slots + R'.slots ≤ R.slots) :
    Stand p l e R' ((T.setVm s.vm).setFrames (.invoking m args :: below)) m args below meth c T [] 0 0 := by
  have htop : (T.setVm s.vm).topJava?.isSome := X.here.top
  have hF : ((T.setVm s.vm).setFrames (.invoking m args :: below)).frames = .invoking m args :: below := State.frames_setFrames _ (State.cur_lt_of_top htop)
  obtain ⟨g₀, hg0⟩ := Option.isSome_iff_exists.mp htop
  obtain ⟨r, hr⟩ := State.topJava?_eq_some.mp hg0
  have hl9 : e.platform.stackLimits (T.setVm s.vm).me = e.platform.stackLimits s.me := X.limits
  have hb9 : (T.setVm s.vm).me.stackBytes = s.me.stackBytes := X.bytes
  refine ⟨X.admits, X.cas, X.clock, hF, ?_, X.hears, X.method, X.code, X.here, X.tail, X.warmed, ?_, ?_, ?_⟩
  · have h := X.room
    have hU : ((T.setVm s.vm).setFrames (.invoking m args :: below)).localsInUse = s.localsInUse := by
      rw [State.localsInUse_invoking hF (meth := meth) (c := c) X.method X.code, State.localsInUse_invoking X.frames X.method X.code]
    simp only [State.hasRoom, Bool.and_eq_true, decide_eq_true_eq] at h ⊢
    obtain ⟨⟨⟨⟨h1, h2, h3, h4, h5, h6⟩, h7⟩, h8⟩, h9⟩ := h
    rw [X.frames, List.length_cons] at h2 h3
    have q1 := X.heapSize
    have q2 := X.used
    simp only [hF, hU, List.length_cons, State.stackLimits_setFrames, State.stackBytes_setFrames, hl9, hb9]
    refine ⟨⟨⟨⟨by omega, by omega, by omega, by omega, by omega, h6⟩, ?_⟩, ?_⟩, X.book⟩
    · show T.heap.size + R'.cells ≤ e.platform.maxCells
      omega
    · show T.slotsUsed + R'.slots ≤ e.platform.maxSlots
      omega
  · rw [State.stackLimits_setFrames]; rfl
  · rw [State.stackBytes_setFrames]; rfl
  · refine ⟨?_, Nat.le_refl _, Nat.le_refl _, ?_, ?_, fun a c9 h9 => ⟨c9, h9, rfl, rfl, fun _ _ => rfl⟩⟩
    · obtain ⟨t, ht, -⟩ := State.frames_cons hr
      show T.setVm s.vm = { ((T.setVm s.vm).setFrames (.invoking m args :: below)).setFrames (T.setVm s.vm).frames with heap := T.heap, slotsUsed := T.slotsUsed }
      rw [State.setFrames_setFrames, State.setFrames_self ht]
      rfl
    · show T.slotsUsed = T.slotsUsed + ((T.heap.toList.drop T.heap.size).map (·.slots.size)).sum
      rw [List.drop_eq_nil_of_le (Nat.le_of_eq Array.length_toList)]
      rfl
    · show ((T.heap.toList.drop T.heap.size).map (·.slots.size)).sum ≤ 0
      rw [List.drop_eq_nil_of_le (Nat.le_of_eq Array.length_toList)]
      exact Nat.le_refl _
theorem vx_throw0 {cc : ByteArray} {pc : Nat} (hexec : p.tables.exec = Jvm.exec) (hb : c.code = cc) (hl : l.stackTraces = false) {own cls : String} {names : List String} {ik ic mc ms : Nat} {A : Nat → Prop}
    (hown : s.vm.findClass own = some m.cls) (hcls : Bundle.fit cls = true) (hnames : ∀ n ∈ names, Bundle.fit n = true)
    (hk : (Cond.classLink own ik cls).before args s = true) (hini : (Cond.initialized cls).before args s = true) (hat : ∀ w ∈ vx_at0 own ic cls names, w.before args s = true)
    (hgood : ∀ w ∈ Cond.classLink own ik cls :: Cond.initialized cls :: vx_at0 own ic cls names, vx_ot w = true)
    (hU : vx_Zq Bundle.tN "UNASSIGNED_STACK" Bundle.steD A s s.heap) (hN : vx_Zq Bundle.tN "SUPPRESSED_SENTINEL" Bundle.listD A s s.heap) (hS : va_S A s.heap H locs) (hsize : ls.size = c.maxLocals)
    (d0 : decode cc pc = .ok (.new ik, 3)) (d3 : decode cc (pc + 3) = .ok (.dup, 1)) (d4 : decode cc (pc + 4) = .ok (.invokespecial ic, 3)) (d7 : decode cc (pc + 7) = .ok (.athrow, 1))
    (hout : ∀ x ∈ c.exceptionTable.toList, covers x (pc + 7) = false)
    (hRframes : names.length + 3 < R.frames) (hRlocals : (rest.map fun v => v.category).sum + (13 * (names.length + 1) + 42) ≤ R.locals) (hRcells : cells + 1 ≤ R.cells) (hRslots : slots + 6 ≤ R.slots) (hlocks : meth.locks = false)
    (hx : ∀ t : State, s.vm.Alike t.vm → H.size ≤ t.heap.size → (∀ q : Nat, q < H.size → t.heap[q]? = H[q]?) → XC cls s t)
    (hf : ∀ z ∈ locs, free z.base) (hc : cells + 1 ≤ mc) (hs : slots + 6 ≤ ms) :
    W p l e R s m args below meth c H locs cells slots (vx_MQ below Qc XC args s mc ms free) (F0 m pc ls rest) := by
  intro T hT X
  have htr : e.platform.stackTraces = false := (show e.platform.stackTraces = l.stackTraces by rw [X.admits.platform]).trans hl
  have Y := vx_rebase X (R' := { frames := R.frames, locals := R.locals, cells := 1, slots := 6 }) (Nat.le_refl _) (Nat.le_refl _) hRcells hRslots
  obtain ⟨s', hA⟩ : ∃ z, z = (T.setVm s.vm).setFrames (.invoking m args :: below) := ⟨_, rfl⟩
  rw [← hA] at Y
  have hvm : s'.vm = s.vm := by rw [hA]; rfl
  have hhp : s'.heap = H := by rw [hA]; exact hT
  have hW0 : s.WarmedH s'.vm := by rw [hvm]; exact State.WarmedH.refl s
  have hat' : ∀ w ∈ vx_at0 own ic cls names, w.before args s' = true := fun w hw => vx_ot_at hW0 hvm.symm (hgood w (List.mem_cons_of_mem _ (List.mem_cons_of_mem _ hw))) (hat w hw)
  have hk' : (Cond.classLink own ik cls).before args s' = true := vx_ot_at hW0 hvm.symm (hgood _ List.mem_cons_self) hk
  have hini' : (Cond.initialized cls).before args s' = true := vx_ot_at hW0 hvm.symm (hgood _ (List.mem_cons_of_mem _ List.mem_cons_self)) hini
  have hU' : vx_Zq Bundle.tN "UNASSIGNED_STACK" Bundle.steD A s' s'.heap := by rw [hhp]; exact vx_Zq.moved hW0.alike (hU.kept hS.2.1)
  have hN' : vx_Zq Bundle.tN "SUPPRESSED_SENTINEL" Bundle.listD A s' s'.heap := by rw [hhp]; exact vx_Zq.moved hW0.alike (hN.kept hS.2.1)
  have h : ∀ w ∈ Bundle.ownAtoms0 own ic cls names, w.before args s' = true := vx_own hat' (vx_isRefq hU'.1) (vx_isRefq hN'.1) hU'.2.word hN'.2.word
  have hown' : s'.vm.findClass own = some m.cls := by rw [hvm]; exact hown
  have hins : (Cond.instantiable cls 6).before args s' = true := h _ (by simp [Bundle.ownAtoms0])
  obtain ⟨vm₁, cX, kX, hfX, hkX, -, -, X₁, st1⟩ := Y.newCold hexec (own := own) (C := cls) (index := ik) (n := 6) hown' hk' hins hini'
    (g := F0 m pc ls rest) rfl (by rw [hb]; exact d0) (Nat.le_refl _) (Nat.le_refl _)
  generalize hT1 : (T.setVm vm₁).pushCell { cls := cX, slots := kX.instanceTypes.map defaultValue, vm := .none } = T1 at X₁ st1
  have hcat : (Value.ref T.heap.size).category = 1 := rfl
  have hcellA : T1.heap[T.heap.size]? = some (freshCell cX kX) := by rw [← hT1]; exact State.heap_pushCell_size _ _
  have d3' : decode c.code (pc + 3) = .ok (.dup, 1) := by rw [hb]; exact d3
  obtain ⟨U, hsteps, hrun, hend, hW, hsame, ce, hce, hO⟩ := X₁.ctorThrow0 hexec htr (own := own) (cls := cls) (names := names) (ic := ic) hown' hcls hnames h (fun x hx => nomatch hx) hfX hkX hcellA (by rw [hhp, hT]; exact Nat.le_refl _)
    (g := { method := m, pc := pc + 4, locals := ls, stack := .ref T.heap.size :: .ref T.heap.size :: rest, locked := none }) rfl hsize rfl rfl (rest := rest) rfl
    (by rw [hb]; exact d4) (by rw [hb]; exact d7) hout hRframes (by simp only [List.map_cons, List.sum_cons, hcat]; omega) hlocks
  obtain ⟨f1, f2⟩ := vx_frame hsame
  rw [hhp] at f1 f2
  have hWs : s.WarmedH U.vm := State.WarmedH.trans hW0 hW
  have hcl : s.vm.findClass cls = some ce.cls := by
    have h9 := hO.cls
    rw [hvm] at h9
    exact h9
  have hall : s.sameButNew ({ U with vm := s.vm } : State) locs mc ms := by
    subst hA
    obtain ⟨e1, e2⟩ := hsame
    rw [State.setFrames_setFrames] at e1
    have h2 : (T.setVm s.vm).sameButNew ({ U with vm := s.vm } : State) [] (0 + 1) (0 + 6) := ⟨e1, e2⟩
    have h3 := X.same.trans h2
    rw [List.append_nil] at h3
    exact h3.mono hc hs
  refine ⟨U, ?_, .threw T.heap.size, hrun, hend, Or.inr ⟨T.heap.size, rfl, cls, ce, locs, hx U hWs.alike f1 (fun q hq => f2 q hq (fun z hz => nomatch hz)), hce, hO.vm, hcl, hWs, hall, hf⟩⟩
  refine st1 _ ?_
  show Steps p.tables e below (T1.setTop { method := m, pc := pc + 3, locals := ls, stack := .ref T.heap.size :: rest, locked := none }) _
  jvm_step X₁.here [X₁.here.top, hexec, d3', Value.category]
  exact hsteps
theorem vx_throwS {cc : ByteArray} {pc : Nat} (hexec : p.tables.exec = Jvm.exec) (hb : c.code = cc) (hl : l.stackTraces = false) {own cls text : String} {names : List String} {ik is ic mc ms sa : Nat} {A : Nat → Prop}
    (hown : s.vm.findClass own = some m.cls) (hcls : Bundle.fit cls = true) (hnames : ∀ n ∈ names, Bundle.fit n = true)
    (hk : (Cond.classLink own ik cls).before args s = true) (hini : (Cond.initialized cls).before args s = true) (hstr : vk_R own is text sa s) (hat : ∀ w ∈ vx_atS own ic cls names, w.before args s = true)
    (hgood : ∀ w ∈ Cond.classLink own ik cls :: Cond.initialized cls :: vx_atS own ic cls names, vx_ot w = true)
    (hU : vx_Zq Bundle.tN "UNASSIGNED_STACK" Bundle.steD A s s.heap) (hN : vx_Zq Bundle.tN "SUPPRESSED_SENTINEL" Bundle.listD A s s.heap) (hS : va_S A s.heap H locs) (hsize : ls.size = c.maxLocals)
    (d0 : decode cc pc = .ok (.new ik, 3)) (d3 : decode cc (pc + 3) = .ok (.dup, 1)) (d4 : decode cc (pc + 4) = .ok (.ldc is, 2)) (d6 : decode cc (pc + 6) = .ok (.invokespecial ic, 3)) (d9 : decode cc (pc + 9) = .ok (.athrow, 1))
    (hout : ∀ x ∈ c.exceptionTable.toList, covers x (pc + 9) = false)
    (hRframes : names.length + 3 < R.frames) (hRlocals : (rest.map fun v => v.category).sum + (13 * (names.length + 1) + 43) ≤ R.locals) (hRcells : cells + 1 ≤ R.cells) (hRslots : slots + 6 ≤ R.slots) (hlocks : meth.locks = false)
    (hx : ∀ t : State, s.vm.Alike t.vm → H.size ≤ t.heap.size → (∀ q : Nat, q < H.size → t.heap[q]? = H[q]?) → XC cls s t)
    (hf : ∀ z ∈ locs, free z.base) (hc : cells + 1 ≤ mc) (hs : slots + 6 ≤ ms) :
    W p l e R s m args below meth c H locs cells slots (vx_MQ below Qc XC args s mc ms free) (F0 m pc ls rest) := by
  intro T hT X
  have htr : e.platform.stackTraces = false := (show e.platform.stackTraces = l.stackTraces by rw [X.admits.platform]).trans hl
  have Y := vx_rebase X (R' := { frames := R.frames, locals := R.locals, cells := 1, slots := 6 }) (Nat.le_refl _) (Nat.le_refl _) hRcells hRslots
  obtain ⟨s', hA⟩ : ∃ z, z = (T.setVm s.vm).setFrames (.invoking m args :: below) := ⟨_, rfl⟩
  rw [← hA] at Y
  have hvm : s'.vm = s.vm := by rw [hA]; rfl
  have hhp : s'.heap = H := by rw [hA]; exact hT
  have hW0 : s.WarmedH s'.vm := by rw [hvm]; exact State.WarmedH.refl s
  have hat' : ∀ w ∈ vx_atS own ic cls names, w.before args s' = true := fun w hw => vx_ot_at hW0 hvm.symm (hgood w (List.mem_cons_of_mem _ (List.mem_cons_of_mem _ hw))) (hat w hw)
  have hk' : (Cond.classLink own ik cls).before args s' = true := vx_ot_at hW0 hvm.symm (hgood _ List.mem_cons_self) hk
  have hini' : (Cond.initialized cls).before args s' = true := vx_ot_at hW0 hvm.symm (hgood _ (List.mem_cons_of_mem _ List.mem_cons_self)) hini
  have hU' : vx_Zq Bundle.tN "UNASSIGNED_STACK" Bundle.steD A s' s'.heap := by rw [hhp]; exact vx_Zq.moved hW0.alike (hU.kept hS.2.1)
  have hN' : vx_Zq Bundle.tN "SUPPRESSED_SENTINEL" Bundle.listD A s' s'.heap := by rw [hhp]; exact vx_Zq.moved hW0.alike (hN.kept hS.2.1)
  have h : ∀ w ∈ Bundle.ownAtoms own ic cls names, w.before args s' = true := vx_own hat' (vx_isRefq hU'.1) (vx_isRefq hN'.1) hU'.2.word hN'.2.word
  have hown' : s'.vm.findClass own = some m.cls := by rw [hvm]; exact hown
  have hins : (Cond.instantiable cls 6).before args s' = true := h _ (by simp [Bundle.ownAtoms])
  obtain ⟨vm₁, cX, kX, hfX, hkX, -, -, X₁, st1⟩ := Y.newCold hexec (own := own) (C := cls) (index := ik) (n := 6) hown' hk' hins hini'
    (g := F0 m pc ls rest) rfl (by rw [hb]; exact d0) (Nat.le_refl _) (Nat.le_refl _)
  generalize hT1 : (T.setVm vm₁).pushCell { cls := cX, slots := kX.instanceTypes.map defaultValue, vm := .none } = T1 at X₁ st1
  have hcat : (Value.ref T.heap.size).category = 1 := rfl
  have hcellA : T1.heap[T.heap.size]? = some (freshCell cX kX) := by rw [← hT1]; exact State.heap_pushCell_size _ _
  have d3' : decode c.code (pc + 3) = .ok (.dup, 1) := by rw [hb]; exact d3
  have d4' : decode c.code (pc + 4) = .ok (.ldc is, 2) := by rw [hb]; exact d4
  have hstr' : vk_R own is text sa s' := vk_R.warm hW0 hstr
  obtain ⟨U, hsteps, hrun, hend, hW, hsame, ce, hce, hO⟩ := X₁.ctorThrowS hexec htr (own := own) (cls := cls) (names := names) (ic := ic) hown' hcls hnames h (fun x hx => nomatch hx) hfX hkX hcellA (by rw [hhp, hT]; exact Nat.le_refl _) (msg := .ref sa) rfl
    (g := { method := m, pc := pc + 6, locals := ls, stack := .ref sa :: .ref T.heap.size :: .ref T.heap.size :: rest, locked := none }) rfl hsize rfl rfl (rest := rest) rfl
    (by rw [hb]; exact d6) (by rw [hb]; exact d9) hout hRframes (by simp only [List.map_cons, List.sum_cons, hcat]; omega) hlocks
  obtain ⟨f1, f2⟩ := vx_frame hsame
  rw [hhp] at f1 f2
  have hWs : s.WarmedH U.vm := State.WarmedH.trans hW0 hW
  have hcl : s.vm.findClass cls = some ce.cls := by
    have h9 := hO.cls
    rw [hvm] at h9
    exact h9
  have hall : s.sameButNew ({ U with vm := s.vm } : State) locs mc ms := by
    subst hA
    obtain ⟨e1, e2⟩ := hsame
    rw [State.setFrames_setFrames] at e1
    have h2 : (T.setVm s.vm).sameButNew ({ U with vm := s.vm } : State) [] (0 + 1) (0 + 6) := ⟨e1, e2⟩
    have h3 := X.same.trans h2
    rw [List.append_nil] at h3
    exact h3.mono hc hs
  refine ⟨U, ?_, .threw T.heap.size, hrun, hend, Or.inr ⟨T.heap.size, rfl, cls, ce, locs, hx U hWs.alike f1 (fun q hq => f2 q hq (fun z hz => nomatch hz)), hce, hO.vm, hcl, hWs, hall, hf⟩⟩
  refine st1 _ ?_
  show Steps p.tables e below (T1.setTop { method := m, pc := pc + 3, locals := ls, stack := .ref T.heap.size :: rest, locked := none }) _
  jvm_step X₁.here [X₁.here.top, hexec, d3', Value.category]
  exact X₁.ldcString hexec (own := own) (text := text) (index := is) (a := sa) hown' hstr'.1 hstr'.2
    (g := { method := m, pc := pc + 4, locals := ls, stack := .ref T.heap.size :: .ref T.heap.size :: rest, locked := none }) rfl d4' _ hsteps
theorem vx_throwSW {cc : ByteArray} {pc : Nat} (hexec : p.tables.exec = Jvm.exec) (hb : c.code = cc) (hl : l.stackTraces = false) {own cls text : String} {names : List String} {ik is ic mc ms sa : Nat} {A : Nat → Prop}
    (hown : s.vm.findClass own = some m.cls) (hcls : Bundle.fit cls = true) (hnames : ∀ n ∈ names, Bundle.fit n = true)
    (hk : (Cond.classLink own ik cls).before args s = true) (hini : (Cond.initialized cls).before args s = true) (hstr : vk_R own is text sa s) (hat : ∀ w ∈ vx_atS own ic cls names, w.before args s = true)
    (hgood : ∀ w ∈ Cond.classLink own ik cls :: Cond.initialized cls :: vx_atS own ic cls names, vx_ot w = true)
    (hU : vx_Zq Bundle.tN "UNASSIGNED_STACK" Bundle.steD A s s.heap) (hN : vx_Zq Bundle.tN "SUPPRESSED_SENTINEL" Bundle.listD A s s.heap) (hS : va_S A s.heap H locs) (hsize : ls.size = c.maxLocals)
    (d0 : decode cc pc = .ok (.new ik, 3)) (d3 : decode cc (pc + 3) = .ok (.dup, 1)) (d4 : decode cc (pc + 4) = .ok (.ldc_w is, 3)) (d7 : decode cc (pc + 7) = .ok (.invokespecial ic, 3)) (d10 : decode cc (pc + 10) = .ok (.athrow, 1))
    (hout : ∀ x ∈ c.exceptionTable.toList, covers x (pc + 10) = false)
    (hRframes : names.length + 3 < R.frames) (hRlocals : (rest.map fun v => v.category).sum + (13 * (names.length + 1) + 43) ≤ R.locals) (hRcells : cells + 1 ≤ R.cells) (hRslots : slots + 6 ≤ R.slots) (hlocks : meth.locks = false)
    (hx : ∀ t : State, s.vm.Alike t.vm → H.size ≤ t.heap.size → (∀ q : Nat, q < H.size → t.heap[q]? = H[q]?) → XC cls s t)
    (hf : ∀ z ∈ locs, free z.base) (hc : cells + 1 ≤ mc) (hs : slots + 6 ≤ ms) :
    W p l e R s m args below meth c H locs cells slots (vx_MQ below Qc XC args s mc ms free) (F0 m pc ls rest) := by
  intro T hT X
  have htr : e.platform.stackTraces = false := (show e.platform.stackTraces = l.stackTraces by rw [X.admits.platform]).trans hl
  have Y := vx_rebase X (R' := { frames := R.frames, locals := R.locals, cells := 1, slots := 6 }) (Nat.le_refl _) (Nat.le_refl _) hRcells hRslots
  obtain ⟨s', hA⟩ : ∃ z, z = (T.setVm s.vm).setFrames (.invoking m args :: below) := ⟨_, rfl⟩
  rw [← hA] at Y
  have hvm : s'.vm = s.vm := by rw [hA]; rfl
  have hhp : s'.heap = H := by rw [hA]; exact hT
  have hW0 : s.WarmedH s'.vm := by rw [hvm]; exact State.WarmedH.refl s
  have hat' : ∀ w ∈ vx_atS own ic cls names, w.before args s' = true := fun w hw => vx_ot_at hW0 hvm.symm (hgood w (List.mem_cons_of_mem _ (List.mem_cons_of_mem _ hw))) (hat w hw)
  have hk' : (Cond.classLink own ik cls).before args s' = true := vx_ot_at hW0 hvm.symm (hgood _ List.mem_cons_self) hk
  have hini' : (Cond.initialized cls).before args s' = true := vx_ot_at hW0 hvm.symm (hgood _ (List.mem_cons_of_mem _ List.mem_cons_self)) hini
  have hU' : vx_Zq Bundle.tN "UNASSIGNED_STACK" Bundle.steD A s' s'.heap := by rw [hhp]; exact vx_Zq.moved hW0.alike (hU.kept hS.2.1)
  have hN' : vx_Zq Bundle.tN "SUPPRESSED_SENTINEL" Bundle.listD A s' s'.heap := by rw [hhp]; exact vx_Zq.moved hW0.alike (hN.kept hS.2.1)
  have h : ∀ w ∈ Bundle.ownAtoms own ic cls names, w.before args s' = true := vx_own hat' (vx_isRefq hU'.1) (vx_isRefq hN'.1) hU'.2.word hN'.2.word
  have hown' : s'.vm.findClass own = some m.cls := by rw [hvm]; exact hown
  have hins : (Cond.instantiable cls 6).before args s' = true := h _ (by simp [Bundle.ownAtoms])
  obtain ⟨vm₁, cX, kX, hfX, hkX, -, -, X₁, st1⟩ := Y.newCold hexec (own := own) (C := cls) (index := ik) (n := 6) hown' hk' hins hini'
    (g := F0 m pc ls rest) rfl (by rw [hb]; exact d0) (Nat.le_refl _) (Nat.le_refl _)
  generalize hT1 : (T.setVm vm₁).pushCell { cls := cX, slots := kX.instanceTypes.map defaultValue, vm := .none } = T1 at X₁ st1
  have hcat : (Value.ref T.heap.size).category = 1 := rfl
  have hcellA : T1.heap[T.heap.size]? = some (freshCell cX kX) := by rw [← hT1]; exact State.heap_pushCell_size _ _
  have d3' : decode c.code (pc + 3) = .ok (.dup, 1) := by rw [hb]; exact d3
  have d4' : decode c.code (pc + 4) = .ok (.ldc_w is, 3) := by rw [hb]; exact d4
  have hstr' : vk_R own is text sa s' := vk_R.warm hW0 hstr
  obtain ⟨U, hsteps, hrun, hend, hW, hsame, ce, hce, hO⟩ := X₁.ctorThrowS hexec htr (own := own) (cls := cls) (names := names) (ic := ic) hown' hcls hnames h (fun x hx => nomatch hx) hfX hkX hcellA (by rw [hhp, hT]; exact Nat.le_refl _) (msg := .ref sa) rfl
    (g := { method := m, pc := pc + 7, locals := ls, stack := .ref sa :: .ref T.heap.size :: .ref T.heap.size :: rest, locked := none }) rfl hsize rfl rfl (rest := rest) rfl
    (by rw [hb]; exact d7) (by rw [hb]; exact d10) hout hRframes (by simp only [List.map_cons, List.sum_cons, hcat]; omega) hlocks
  obtain ⟨f1, f2⟩ := vx_frame hsame
  rw [hhp] at f1 f2
  have hWs : s.WarmedH U.vm := State.WarmedH.trans hW0 hW
  have hcl : s.vm.findClass cls = some ce.cls := by
    have h9 := hO.cls
    rw [hvm] at h9
    exact h9
  have hall : s.sameButNew ({ U with vm := s.vm } : State) locs mc ms := by
    subst hA
    obtain ⟨e1, e2⟩ := hsame
    rw [State.setFrames_setFrames] at e1
    have h2 : (T.setVm s.vm).sameButNew ({ U with vm := s.vm } : State) [] (0 + 1) (0 + 6) := ⟨e1, e2⟩
    have h3 := X.same.trans h2
    rw [List.append_nil] at h3
    exact h3.mono hc hs
  refine ⟨U, ?_, .threw T.heap.size, hrun, hend, Or.inr ⟨T.heap.size, rfl, cls, ce, locs, hx U hWs.alike f1 (fun q hq => f2 q hq (fun z hz => nomatch hz)), hce, hO.vm, hcl, hWs, hall, hf⟩⟩
  refine st1 _ ?_
  show Steps p.tables e below (T1.setTop { method := m, pc := pc + 3, locals := ls, stack := .ref T.heap.size :: rest, locked := none }) _
  jvm_step X₁.here [X₁.here.top, hexec, d3', Value.category]
  exact X₁.ldcStringW hexec (own := own) (text := text) (index := is) (a := sa) hown' hstr'.1 hstr'.2
    (g := { method := m, pc := pc + 4, locals := ls, stack := .ref T.heap.size :: .ref T.heap.size :: rest, locked := none }) rfl d4' _ hsteps
end Ends
section Bodies
variable {l : Launch}
theorem vx_ofW {y : MethodName} {ws ws' : List Cond} {rm : Room} {Pc : Array Value → State → Prop} {Qc : Array Value → State → Outcome → State → Prop} {XC : String → State → State → Prop} {mc ms : Nat} {free : Addr → Prop} {cc : ByteArray} {maxL : Nat} {ret : Option FieldType}
    (hy : plainName y.cls = true) (hw : ws = Cond.code y cc maxL ret :: ws')
    (body : ∀ p e s m args below meth c s₁, BodyLoose p l y (headSpec ws rm) cc maxL ret e s m args below meth c s₁ → c.maxLocals = maxL → (∀ x ∈ c.exceptionTable.toList, False) → Pc args s →
      W p l e (headSpec ws rm).room s m args below meth c s.heap [] 0 0 (vx_MQ below Qc XC args s mc ms free) (entryFrame m args maxL)) : vx_Met l y ws rm Pc Qc XC mc ms free := by
  refine MetFree.of_bodyS (code := cc) (maxLocals := maxL) (ret := ret) hy ?_ ?_
  · intro args s m h hn
    obtain ⟨meth, c, h1, h2, h3, h4, h5, h6, -, -⟩ := Cond.code_spec hn (atoms_spec (ws := ws) h _ (by rw [hw]; exact List.mem_cons_self))
    exact ⟨meth, c, h1, h2, h3, h4, h5, h6⟩
  · intro p e s m args below meth c s₁ B hml hP _
    have hh0 : s₁.heap = s.heap := by rw [B.state]; rfl
    have ht : ∀ x ∈ c.exceptionTable.toList, False := by
      obtain ⟨meth9, c9, h1, h2, -, -, -, -, h7, -⟩ := Cond.code_spec B.named (atoms_spec (ws := ws) B.pre _ (by rw [hw]; exact List.mem_cons_self))
      cases Option.some.inj (h1.symm.trans B.method)
      cases Option.some.inj (h2.symm.trans (Stand.of_body B).code)
      intro x hx
      rw [Array.isEmpty_iff.mp h7] at hx
      cases hx
    obtain ⟨t, a1, o, b1, b2, b3⟩ := body p e s m args below meth c s₁ B hml ht hP s₁ hh0 (Stand.of_body B)
    exact ⟨t, o, a1, b1, b2, b3⟩
theorem vx_table {p : Program} {x y : MethodName} {S : Spec} {cc bytes : ByteArray} {maxL maxL' : Nat} {ret ret' : Option FieldType} {e : Env} {s s₁ : State} {m : MethodId} {args : Array Value} {below : List Frame} {meth : Method} {c : Code} {hh : List (Nat × Nat × Nat × Nat)}
    (B : BodyLoose p l y S cc maxL ret e s m args below meth c s₁) (h : (Cond.codeWith y bytes maxL' ret' hh).before args s = true) : c.exceptionTable.toList = tableOf hh := by
  obtain ⟨m9, meth9, c9, hn9, h1, h2, -, -, h6, -⟩ := Cond.codeWith_spec h
  cases Option.some.inj (hn9.symm.trans B.named)
  cases Option.some.inj (h1.symm.trans B.method)
  cases Option.some.inj (h2.symm.trans (Stand.of_body B).code)
  rw [← h6, table_eq]
end Bodies
end VXA
section VXS
variable {p : Program} {l : Launch} {e : Env} {R : Room} {s : State} {m : MethodId} {args : Array Value} {below : List Frame} {meth : Method} {c : Code} {T : State} {H : Heap} {locs : List Loc} {cells slots : Nat}
abbrev vx_CSW (R : Room) (s : State) (args : Array Value) (own : String) (index : Nat) (y : MethodName) (bytes : ByteArray) (maxL : Nat) (ret : Option FieldType) (hh : List (Nat × Nat × Nat × Nat)) (ws : List Cond) (rm : Room) (mc ms n : Nat) : Prop :=
  (rm.cells = mc ∧ rm.slots = ms ∧ rm.frames + 1 ≤ R.frames ∧ 8 + (maxL + 11) + rm.locals ≤ R.locals ∧ (∀ w ∈ ws, ∀ (a' : Array Value) (U : State), s.WarmedH U.vm → w.before a' U = true) ∧ Cond.codeWith y bytes maxL ret hh ∈ ws) ∧
  (Cond.codeWith y bytes maxL ret hh).before args s = true ∧ (Cond.initialized y.cls).before args s = true ∧ (y.cls ≠ "java/lang/invoke/MethodHandle" ∧ y.cls ≠ "java/lang/invoke/VarHandle") ∧
  (∀ sig, parseMethodDescriptor y.desc = some sig → n = sig.parameters.length) ∧ (Cond.methodLink own index y).before args s = true ∧ (Cond.static y).before args s = true
theorem vx_cwSW {own : String} {index maxL mc ms : Nat} {y : MethodName} {bytes : ByteArray} {ret : Option FieldType} {hh : List (Nat × Nat × Nat × Nat)} {Ts ws ws' : List Cond} {rm : Room} (n : Nat) (ht : ∀ w ∈ Ts, w.before args s = true) (hT : GoodIn Ts (va_wsS own index y ws)) (hw : ws = Cond.codeWith y bytes maxL ret hh :: ws') (hrc : rm.cells = mc) (hrs : rm.slots = ms)
    (hd : y.cls ≠ "java/lang/invoke/MethodHandle" ∧ y.cls ≠ "java/lang/invoke/VarHandle" ∧ (parseMethodDescriptor y.desc).map (fun d => d.parameters.length) = some n) (hR : rm.frames + 1 ≤ R.frames ∧ 8 + (maxL + 11) + rm.locals ≤ R.locals) :
    vx_CSW R s args own index y bytes maxL ret hh ws rm mc ms n := by
  have ok : ∀ w ∈ va_wsS own index y ws, w.before args s = true := fun w h => ht w (hT w h).1
  have hG : GoodIn Ts ws := fun w h => hT w (by unfold va_wsS; exact List.mem_append_right _ h)
  have hc : Cond.codeWith y bytes maxL ret hh ∈ ws := by rw [hw]; exact List.mem_cons_self
  refine ⟨⟨hrc, hrs, hR.1, hR.2, pay_in ht hG, hc⟩, ht _ (hG _ hc).1, ok _ (by simp [va_wsS]), ⟨hd.1, hd.2.1⟩, fun sig h => ?_, ok _ (by simp [va_wsS]), ok _ (by simp [va_wsS])⟩
  have h2 := hd.2.2
  rw [h] at h2
  exact (Option.some.inj h2).symm
theorem vx_callSW (X : Stand p l e R s m args below meth c T locs cells slots) (hexec : p.tables.exec = Jvm.exec) {own : String} {index : Nat} {y : MethodName} {bytes : ByteArray} {maxL : Nat} {ret : Option FieldType} {hh : List (Nat × Nat × Nat × Nat)}
    (hown : s.vm.findClass own = some m.cls) (hlink : (Cond.methodLink own index y).before args s = true) (hstat : (Cond.static y).before args s = true) (hinit : (Cond.initialized y.cls).before args s = true)
    (hcode : (Cond.codeWith y bytes maxL ret hh).before args s = true) (hy : y.cls ≠ "java/lang/invoke/MethodHandle" ∧ y.cls ≠ "java/lang/invoke/VarHandle")
    {W9 : Nat} {Pre : Pt → Array Value → Prop} {Post : Pt → Array Value → Option Value → Pt → Prop} (hK : Back l R p e below s args y 3 W9 Pre Post)
    {g : JFrame} (hg : g.method = m) (hsize : g.locals.size = c.maxLocals) {argsL rest : List Value} (hlen : ∀ sig, parseMethodDescriptor y.desc = some sig → argsL.length = sig.parameters.length)
    (hstack : g.stack = argsL.reverse ++ rest) (hW : 2 * g.monitorRoom + (rest.map fun v => v.category).sum ≤ W9) (hdg : decode c.code g.pc = .ok (.invokestatic index, 3))
    (hpre : ∀ vm₁, s.WarmedH vm₁ → Pre ⟨T.setVm vm₁, locs, cells, slots⟩ argsL.toArray) :
    ∃ (v : Option Value) (vm₁ : Vm) (B : Pt), s.WarmedH vm₁ ∧ Stand p l e R s m args below meth c B.U B.locs B.cells B.slots ∧ Post ⟨T.setVm vm₁, locs, cells, slots⟩ argsL.toArray v B ∧
      ∀ target, Steps p.tables e below (B.U.setTop { g with pc := g.pc + 3, stack := v.toList ++ rest }) target → Steps p.tables e below (T.setTop g) target := by
  obtain ⟨mk, methM, cM, hnamed, hmethM, -, -, -, -, -, -, hsigM⟩ := Cond.codeWith_spec hcode
  have hstatic : methM.isStatic = true := Cond.static_spec hnamed hmethM hstat
  obtain ⟨kP, hkP, -⟩ := className_of_methodNamed hnamed
  have hinitP : kP.init = .initialized := Cond.initialized_spec (findClass_of_methodNamed hnamed) hkP hinit
  obtain ⟨vm₁, X₁, hstep₁⟩ := X.invokestatic hexec hown hlink hnamed hmethM hstatic hkP hinitP hy (g := g) hg (argsL := argsL) (rest := rest) (hlen _ hsigM) hstack hdg
  obtain ⟨v, B, X', hpost, hsteps⟩ := hK m meth c ⟨T.setVm vm₁, locs, cells, slots⟩ { g with stack := rest } (.invokestatic index) mk argsL.toArray X₁ hg hsize hdg hW (X₁.named hnamed) (hpre vm₁ X₁.warmed)
  exact ⟨v, vm₁, B, X₁.warmed, X', hpost, fun target h => hstep₁ _ fun acts => by rw [doInvoke_state]; exact hsteps.trans h⟩
theorem vx_runSW {y : MethodName} {bytes cc : ByteArray} {maxL nL mc ms n index : Nat} {ret : Option FieldType} {hh : List (Nat × Nat × Nat × Nat)} {ws : List Cond} {rm : Room} {Pc : Array Value → State → Prop} {Qc : Array Value → State → Outcome → State → Prop} {free : Addr → Prop} {Ts : List Cond} {own : String} {As rest : List Value} {g : JFrame}
    (S : CallFix p m c cc nL s args Ts own) (hM : Met l y ws rm Pc Qc mc ms free) (cw : vx_CSW R s args own index y bytes maxL ret hh ws rm mc ms n) (hp : PreS s H Pc As)
    (hg : g.method = m) (hn : As.length = n) (hsize : g.locals.size = nL) (hstack : g.stack = As.reverse ++ rest) (hW : 2 * g.monitorRoom + (rest.map fun v => v.category).sum ≤ 8) (hdg : decode cc g.pc = .ok (.invokestatic index, 3)) (hf : cells + mc ≤ R.cells ∧ slots + ms ≤ R.slots) :
    va_Run p l e R s m args below meth c H locs cells slots mc ms g rest (Qc As.toArray) (free) := by
  obtain ⟨⟨hrc, hrs, hfr, hlo, hws, hcw⟩, hcode, hini, hy, hlen, hl, hstt⟩ := cw
  have hK : Back l R p e below s args y 3 8 (PreOf R mc ms Pc) (PostOf Qc mc ms free) := va_backW (hh := hh) (bytes := bytes) (maxL := maxL) (ret := ret) hM hp.1 hrc hrs hfr hlo hws hcw (fun a' U hW => word_at hW (Or.inl (by first | rfl | simp [Cond.onTables, Cond.keeps, Cond.steady])) hini)
  obtain ⟨hx, hb, hml, ho, -⟩ := S
  intro T hT X
  obtain ⟨v, vm₁, ⟨U', l2, c2, s2⟩, hW₁, X', ⟨g', mk, t, L, e1, e2, hq, h1, hL, h2, h3⟩, st⟩ := vx_callSW X hx (hh := hh) (bytes := bytes) (maxL := maxL) (ret := ret) ho hl hstt hini hcode hy hK hg (hsize.trans hml.symm) (argsL := As) (rest := rest) (fun sig h => hn.trans (hlen sig h)) hstack hW (by rw [hb]; exact hdg)
    (fun vm₁ hW₁ => ⟨hf.1, hf.2, hp.2 (T.setVm vm₁) hT hW₁⟩)
  dsimp only [Pt.U, Pt.locs, Pt.cells, Pt.slots] at X' e1 e2 h1 h2 h3 st
  subst h1; subst h2; subst h3
  exact ⟨v, (T.setVm vm₁).calling g' mk As.toArray, t, U', L, hT, X', hL, e1, e2, hq, st⟩
theorem vx_outP {p : Program} {l : Launch} {e : Env} {R : Room} {s : State} {m : MethodId} {args : Array Value} {below : List Frame} {meth : Method} {c : Code} {H : Heap} {locs : List Loc} {cells slots : Nat} {free : Addr → Prop} {ls : Array Slot} {rest : List Value} {Qc : Array Value → State → Outcome → State → Prop} {XC : String → State → State → Prop}
    {pc : Nat} {own E : String} {ce : Cell} {q : Addr} {mc ms : Nat} (hown : s.vm.findClass own = some m.cls) (hlocks : meth.locks = false)
    (hpass : ∀ z ∈ c.exceptionTable.toList, covers z pc = false ∨ (z.catchType ≠ 0 ∧ ∃ nm : String, (Cond.classLink own z.catchType nm).before args s = true ∧ va_Nc E nm s)) (hcell : H[q]? = some ce) (hv : ce.vm = .none) (hcl : s.vm.findClass E = some ce.cls)
    (hx : ∀ t : State, t.heap = H → s.vm.Alike t.vm → XC E s t) (hf : ∀ z ∈ locs, free z.base) (hc : cells ≤ mc) (hs : slots ≤ ms) :
    vx_W p l e R s m args below meth c H locs cells slots (vx_MQ below Qc XC args s mc ms free) (F0 m pc ls rest) q := by
  intro T hT X
  have hpl : e.platform.magicAccessors = ({} : Platform).magicAccessors := by rw [X.admits.platform]
  obtain ⟨vm', hW', X', st⟩ := X.outThrough hlocks q (g := F0 m pc ls rest) rfl rfl rfl (cell := ce) (by rw [hT]; exact hcell) (by rw [hv]; rfl)
    (by obtain ⟨k9, h9, -⟩ := Vm.findClass_spec hcl; exact ⟨k9, h9⟩) (fun z hz => by
      rcases hpass z hz with h | ⟨hz0, nm, hl1, hn1⟩
      · exact Or.inl h
      · obtain ⟨c6, hc6, hcl6⟩ := Cond.classLink_spec hown hl1 e.platform hpl
        obtain ⟨a8, b8, h1, h2, h3⟩ := hn1
        cases Option.some.inj (h1.symm.trans hcl)
        cases Option.some.inj (h2.symm.trans hc6)
        exact Or.inr ⟨hz0, _, hcl6, h3⟩)
  obtain ⟨g₀, hfr⟩ := X'.frames_eq
  have hcell9 : ((T.setVm vm').setFrames (.throwing q :: below)).heap[q]? = some ce := by
    show T.heap[q]? = some ce
    rw [hT]; exact hcell
  have hend : Ended ((T.setVm vm').setFrames (.throwing q :: below)) below (.threw q) := State.frames_setFrames _ (State.cur_lt_of_frames hfr)
  refine ⟨(T.setVm vm').setFrames (.throwing q :: below), ?_, .threw q, X'.here.running, hend, Or.inr ⟨q, rfl, E, ce, locs, hx _ hT (X'.ends _).1.alike, hcell9, hv, hcl, (X'.ends _).1, (X'.ends _).2.mono hc hs, hf⟩⟩
  rw [X.pushThrowing_eq]
  exact st
theorem vx_lt {D : va_G} {cl : List vw_C} {ws : va_W} {H1 : Heap} (h : va_P D cl ws H1) {k : Nat} {q : Nat × va_E} (hk : ws[k]? = some q) : q.1 < H1.size := (h k q hk).lt
end VXS
section VXH
section
variable {l : Launch} {R : Room} {p : Program} {e : Env} {below : List Frame} {s : State} {sargs : Array Value} {y : MethodName} {len W9 : Nat}
theorem vx_backW {ws : List Cond} {rm : Room} {Pc : Array Value → State → Prop} {Qc : Array Value → State → Outcome → State → Prop} {XC : String → State → State → Prop} {mc ms : Nat} {free : Addr → Prop} {bytes : ByteArray} {maxL : Nat} {ret : Option FieldType} {hh : List (Nat × Nat × Nat × Nat)}
    (hM : vx_Met l y ws rm Pc Qc XC mc ms free) (hblind : FrameBlind Pc) (hrc : rm.cells = mc) (hrs : rm.slots = ms)
    (hframes : rm.frames + 1 ≤ R.frames) (hlocals : W9 + (maxL + 11) + rm.locals ≤ R.locals)
    (hws : ∀ w ∈ ws, ∀ a' U, s.WarmedH U.vm → w.before a' U = true) (hcode : Cond.codeWith y bytes maxL ret hh ∈ ws) (hinit : ∀ a' U, s.WarmedH U.vm → (Cond.initialized y.cls).before a' U = true) :
    vx_Back l R p e below s sargs y len W9 (PreOf R mc ms Pc) (PostOf Qc mc ms free) (vx_Post XC mc ms free) := by
  intro m meth c A g ig mk a X hg hsize hdg hW hn hp
  have h1 : (headSpec ws rm).pre.before a A.U = true := atoms_intro fun w hw => hws w hw _ _ X.warmed
  have h2 : (Cond.codeWith y bytes maxL ret hh).before a A.U = true := hws _ hcode _ _ X.warmed
  have h3 : (Cond.initialized y.cls).before a A.U = true := hinit _ _ X.warmed
  have h4 : A.cells + (headSpec ws rm).room.cells ≤ R.cells := by rw [show (headSpec ws rm).room.cells = mc from hrc]; exact hp.1
  have h5 : A.slots + (headSpec ws rm).room.slots ≤ R.slots := by rw [show (headSpec ws rm).room.slots = ms from hrs]; exact hp.2.1
  have hPc : Pc a (A.U.calling g mk a) := hblind _ _ _ _ hp.2.2
  obtain ⟨U, Ls, c0, s0⟩ := A
  dsimp only [Pt.U, Pt.locs, Pt.cells, Pt.slots] at h1 h2 h3 h4 h5 X hn hPc ⊢
  obtain ⟨m9, methY, cY, hn9, hmY, hcY, -, hlY, -⟩ := Cond.codeWith_spec h2
  cases Option.some.inj (hn9.symm.trans hn)
  obtain ⟨kY, hkY, -⟩ := className_of_methodNamed hn
  have hinitY : kY.init = .initialized := Cond.initialized_spec (findClass_of_methodNamed hn) hkY h3
  have h : At U g.method c below := by rw [hg]; exact X.here
  have hlocals9 : W9 + (maxL + 11) + (headSpec ws rm).room.locals ≤ R.locals := hlocals
  have happ : (headSpec ws rm).appliesLoose y e.platform (U.calling g mk a) = true :=
    Spec.appliesLoose_calling (g := g) h hdg hn hkY hinitY
      (X.room_calling (g := g) (R' := (headSpec ws rm).room) hsize hmY hcY hframes (by rw [hlY]; omega) h4 h5) h1
  obtain ⟨mid, hmid⟩ := h.above
  have hfr : (U.setTop g).frames = (.java g :: mid) ++ below := by rw [State.frames_setTop' g h.top, hmid]; rfl
  obtain ⟨o, s₂, hsteps, -, hend, hq⟩ := Steps.callFree hM p X.admits X.cas X.clock (acts := []) hfr happ hPc trivial
  have hq' : vx_Q Qc XC mc ms free a (U.calling g mk a) o s₂ := hq
  rw [State.frames_setTop' g h.top] at hend
  obtain ⟨g₀, hg0⟩ := Option.isSome_iff_exists.mp h.top
  obtain ⟨r, hr⟩ := State.topJava?_eq_some.mp hg0
  have hr' : (({ U with heap := s₂.heap, slotsUsed := s₂.slotsUsed } : State).setVm s₂.vm).frames = .java g₀ :: r := hr
  rcases hq' with ⟨hqc, L, hfe, hL⟩ | ⟨q, rfl, E, ce, L, hx, hce, hcv, hcl, hW₂, hsm, hL⟩
  · obtain ⟨⟨v, rfl⟩, hW₂, e2, q2, q3, q4, q5, q6⟩ := id hfe
    have e3 : s₂ = ({ (U.calling g mk a).setFrames s₂.frames with heap := s₂.heap, slotsUsed := s₂.slotsUsed } : State).setVm s₂.vm := by
      have : s₂ = ({ s₂ with vm := (U.calling g mk a).vm } : State).setVm s₂.vm := rfl
      rw [e2] at this
      exact this
    obtain ⟨c₂, i₂, len₂, hc₂, hd₂, hf₂⟩ := hend
    have hW' : U.WarmedH s₂.vm := hW₂
    have hcc : c₂ = c := by
      have h1 : s₂.code? g.method = U.code? g.method := by
        rw [State.code?_eq, State.code?_eq, hW'.alike.method?]
      exact Option.some.inj (hc₂.symm.trans (h1.trans h.code))
    subst hcc
    have hlen : len₂ = len := by rw [hdg] at hd₂; cases hd₂; rfl
    subst hlen
    have hs₂ : s₂ = (({ U with heap := s₂.heap, slotsUsed := s₂.slotsUsed } : State).setVm s₂.vm).setTop { g with pc := g.pc + len₂, stack := v.toList ++ g.stack } := by
      refine e3.trans ?_
      rw [hf₂, State.calling_eq h.top, State.setFrames_setFrames, State.setTop_of_frames _ hr', hr]
      rfl
    have hsame : U.sameButNew ({ U with heap := s₂.heap, slotsUsed := s₂.slotsUsed } : State) L mc ms := by
      refine ⟨?_, q2, q3, q4, q5, q6⟩
      obtain ⟨t, ht, -⟩ := State.frames_cons hr
      show ({ U with heap := s₂.heap, slotsUsed := s₂.slotsUsed } : State) = { U.setFrames U.frames with heap := s₂.heap, slotsUsed := s₂.slotsUsed }
      rw [State.setFrames_self ht]
    subst hg
    refine Or.inl ⟨v, ⟨(({ U with heap := s₂.heap, slotsUsed := s₂.slotsUsed } : State).setVm s₂.vm), Ls ++ L, c0 + mc, s0 + ms⟩,
      ⟨X.admits, X.cas, X.clock, X.frames, X.room, X.hears, X.method, X.code, (X.here.setHeapUsed s₂.heap s₂.slotsUsed).setVm hW'.alike, X.tail, State.WarmedH.trans X.warmed hW', X.limits, X.bytes, X.same.trans (hsame.setVm s.vm)⟩,
      ⟨g, mk, s₂, L, rfl, rfl, hqc, rfl, hL, rfl, rfl⟩, ?_⟩
    show Steps p.tables e below _ ((({ U with heap := s₂.heap, slotsUsed := s₂.slotsUsed } : State).setVm s₂.vm).setTop { g with pc := g.pc + len₂, stack := v.toList ++ g.stack })
    rw [← hs₂]
    exact hsteps
  · obtain ⟨e2, q2, q3, q4, q5, q6⟩ := id hsm
    have e3 : s₂ = ({ (U.calling g mk a).setFrames s₂.frames with heap := s₂.heap, slotsUsed := s₂.slotsUsed } : State).setVm s₂.vm := by
      have : s₂ = ({ s₂ with vm := (U.calling g mk a).vm } : State).setVm s₂.vm := rfl
      rw [e2] at this
      exact this
    have hf₂ : s₂.frames = .throwing q :: .java g :: U.frames.tail := hend
    have hW' : U.WarmedH s₂.vm := hW₂
    have hs₂ : s₂ = ((({ U with heap := s₂.heap, slotsUsed := s₂.slotsUsed } : State).setVm s₂.vm).setTop g).pushFrame (.throwing q) := by
      refine e3.trans ?_
      rw [hf₂, State.calling_eq h.top, State.setFrames_setFrames, State.pushFrame, State.frames_setTop _ hr', State.setTop_of_frames _ hr', State.setFrames_setFrames, hr]
      rfl
    have hsame : U.sameButNew ({ U with heap := s₂.heap, slotsUsed := s₂.slotsUsed } : State) L mc ms := by
      refine ⟨?_, q2, q3, q4, q5, q6⟩
      obtain ⟨t, ht, -⟩ := State.frames_cons hr
      show ({ U with heap := s₂.heap, slotsUsed := s₂.slotsUsed } : State) = { U.setFrames U.frames with heap := s₂.heap, slotsUsed := s₂.slotsUsed }
      rw [State.setFrames_self ht]
    subst hg
    refine Or.inr ⟨q, ⟨(({ U with heap := s₂.heap, slotsUsed := s₂.slotsUsed } : State).setVm s₂.vm), Ls ++ L, c0 + mc, s0 + ms⟩,
      ⟨X.admits, X.cas, X.clock, X.frames, X.room, X.hears, X.method, X.code, (X.here.setHeapUsed s₂.heap s₂.slotsUsed).setVm hW'.alike, X.tail, State.WarmedH.trans X.warmed hW', X.limits, X.bytes, X.same.trans (hsame.setVm s.vm)⟩,
      ⟨g, mk, s₂, L, E, ce, rfl, rfl, hx, hce, hcv, hcl, rfl, hL, rfl, rfl⟩, ?_⟩
    show Steps p.tables e below _ (((({ U with heap := s₂.heap, slotsUsed := s₂.slotsUsed } : State).setVm s₂.vm).setTop g).pushFrame (.throwing q))
    rw [← hs₂]
    exact hsteps
end
variable {p : Program} {l : Launch} {e : Env} {R : Room} {s : State} {m : MethodId} {args : Array Value} {below : List Frame} {meth : Method} {c : Code} {T : State} {H : Heap} {locs : List Loc} {cells slots : Nat}
theorem vx_callVX (X : Stand p l e R s m args below meth c T locs cells slots) (hexec : p.tables.exec = Jvm.exec) {own C : String} {index : Nat} {y : MethodName} {bytes : ByteArray} {maxL : Nat} {ret : Option FieldType} {hh : List (Nat × Nat × Nat × Nat)}
    (hown : s.vm.findClass own = some m.cls) (hlink : (Cond.methodLink own index y).before args s = true) (hinst : (Cond.instanceMethod y).before args s = true) (hsel : (Cond.selects C y y).before args s = true)
    (hcode : (Cond.codeWith y bytes maxL ret hh).before args s = true) (hy : y.cls ≠ "java/lang/invoke/MethodHandle" ∧ y.cls ≠ "java/lang/invoke/VarHandle")
    {W9 : Nat} {Pre : Pt → Array Value → Prop} {Post : Pt → Array Value → Option Value → Pt → Prop} {PostX : Pt → Array Value → Addr → Pt → Prop} (hK : vx_Back l R p e below s args y 3 W9 Pre Post PostX)
    {b : Addr} {cellB : Cell} (hcell : T.heap[b]? = some cellB) (hobj : cellB.vm.isStatics = false) (hcls : s.vm.findClass C = some cellB.cls)
    {g : JFrame} (hg : g.method = m) (hsize : g.locals.size = c.maxLocals) {argsL rest : List Value} (hlen : ∀ sig, parseMethodDescriptor y.desc = some sig → argsL.length = sig.parameters.length)
    (hstack : g.stack = argsL.reverse ++ .ref b :: rest) (hW : 2 * g.monitorRoom + (rest.map fun v => v.category).sum ≤ W9) (hdg : decode c.code g.pc = .ok (.invokevirtual index, 3))
    (hpre : ∀ vm₁, s.WarmedH vm₁ → Pre ⟨T.setVm vm₁, locs, cells, slots⟩ (Value.ref b :: argsL).toArray) :
    (∃ (v : Option Value) (vm₁ : Vm) (B : Pt), s.WarmedH vm₁ ∧ Stand p l e R s m args below meth c B.U B.locs B.cells B.slots ∧ Post ⟨T.setVm vm₁, locs, cells, slots⟩ (Value.ref b :: argsL).toArray v B ∧
      ∀ target, Steps p.tables e below (B.U.setTop { g with pc := g.pc + 3, stack := v.toList ++ rest }) target → Steps p.tables e below (T.setTop g) target) ∨
    (∃ (q : Addr) (vm₁ : Vm) (B : Pt), s.WarmedH vm₁ ∧ Stand p l e R s m args below meth c B.U B.locs B.cells B.slots ∧ PostX ⟨T.setVm vm₁, locs, cells, slots⟩ (Value.ref b :: argsL).toArray q B ∧
      Steps p.tables e below (T.setTop g) ((B.U.setTop { g with stack := rest }).pushFrame (.throwing q))) := by
  obtain ⟨mk, methM, hnamed, hmethM, hstM, habM⟩ := Cond.instanceMethod_spec hinst
  obtain ⟨m8, methM', cM, hn8, hmethM', -, -, -, -, -, -, hsigM⟩ := Cond.codeWith_spec hcode
  cases Option.some.inj (hn8.symm.trans hnamed)
  cases hmethM.symm.trans hmethM'
  obtain ⟨c2, r2, m2, q1, q2, q3, q4, kP, hkP, hkPi⟩ := Cond.selects_spec hsel
  cases hcls.symm.trans q1
  cases (State.methodFound?_of_named hnamed hy).symm.trans q2
  cases hnamed.symm.trans q3
  have hselP : selectMethod e.platform s.vm cellB.cls mk = .method mk := by rw [Launch.admits_selectMethod X.admits]; exact q4
  obtain ⟨vm₁, X₁, hstep₁⟩ := X.invokevirtual hexec hown hlink hnamed hmethM hstM hkP hkPi hy (a := b) (cell := cellB) hcell
    (fun z h => by rw [h] at hobj; cases hobj) hselP hmethM habM hkP hkPi (g := g) hg (argsL := argsL) (rest := rest) (hlen _ hsigM) hstack hdg
  rcases hK m meth c ⟨T.setVm vm₁, locs, cells, slots⟩ { g with stack := rest } (.invokevirtual index) mk (Value.ref b :: argsL).toArray X₁ hg hsize hdg hW (X₁.named hnamed) (hpre vm₁ X₁.warmed) with ⟨v, B, X', hpost, hsteps⟩ | ⟨q, B, X', hpost, hsteps⟩
  · exact Or.inl ⟨v, vm₁, B, X₁.warmed, X', hpost, fun target h => hstep₁ _ fun acts => by rw [doInvoke_state]; exact hsteps.trans h⟩
  · exact Or.inr ⟨q, vm₁, B, X₁.warmed, X', hpost, hstep₁ _ fun acts => by rw [doInvoke_state]; exact hsteps⟩
theorem vx_callSX (X : Stand p l e R s m args below meth c T locs cells slots) (hexec : p.tables.exec = Jvm.exec) {own : String} {index : Nat} {y : MethodName} {bytes : ByteArray} {maxL : Nat} {ret : Option FieldType} {hh : List (Nat × Nat × Nat × Nat)}
    (hown : s.vm.findClass own = some m.cls) (hlink : (Cond.methodLink own index y).before args s = true) (hstat : (Cond.static y).before args s = true) (hinit : (Cond.initialized y.cls).before args s = true)
    (hcode : (Cond.codeWith y bytes maxL ret hh).before args s = true) (hy : y.cls ≠ "java/lang/invoke/MethodHandle" ∧ y.cls ≠ "java/lang/invoke/VarHandle")
    {W9 : Nat} {Pre : Pt → Array Value → Prop} {Post : Pt → Array Value → Option Value → Pt → Prop} {PostX : Pt → Array Value → Addr → Pt → Prop} (hK : vx_Back l R p e below s args y 3 W9 Pre Post PostX)
    {g : JFrame} (hg : g.method = m) (hsize : g.locals.size = c.maxLocals) {argsL rest : List Value} (hlen : ∀ sig, parseMethodDescriptor y.desc = some sig → argsL.length = sig.parameters.length)
    (hstack : g.stack = argsL.reverse ++ rest) (hW : 2 * g.monitorRoom + (rest.map fun v => v.category).sum ≤ W9) (hdg : decode c.code g.pc = .ok (.invokestatic index, 3))
    (hpre : ∀ vm₁, s.WarmedH vm₁ → Pre ⟨T.setVm vm₁, locs, cells, slots⟩ argsL.toArray) :
    (∃ (v : Option Value) (vm₁ : Vm) (B : Pt), s.WarmedH vm₁ ∧ Stand p l e R s m args below meth c B.U B.locs B.cells B.slots ∧ Post ⟨T.setVm vm₁, locs, cells, slots⟩ argsL.toArray v B ∧
      ∀ target, Steps p.tables e below (B.U.setTop { g with pc := g.pc + 3, stack := v.toList ++ rest }) target → Steps p.tables e below (T.setTop g) target) ∨
    (∃ (q : Addr) (vm₁ : Vm) (B : Pt), s.WarmedH vm₁ ∧ Stand p l e R s m args below meth c B.U B.locs B.cells B.slots ∧ PostX ⟨T.setVm vm₁, locs, cells, slots⟩ argsL.toArray q B ∧
      Steps p.tables e below (T.setTop g) ((B.U.setTop { g with stack := rest }).pushFrame (.throwing q))) := by
  obtain ⟨mk, methM, cM, hnamed, hmethM, -, -, -, -, -, -, hsigM⟩ := Cond.codeWith_spec hcode
  have hstatic : methM.isStatic = true := Cond.static_spec hnamed hmethM hstat
  obtain ⟨kP, hkP, -⟩ := className_of_methodNamed hnamed
  have hinitP : kP.init = .initialized := Cond.initialized_spec (findClass_of_methodNamed hnamed) hkP hinit
  obtain ⟨vm₁, X₁, hstep₁⟩ := X.invokestatic hexec hown hlink hnamed hmethM hstatic hkP hinitP hy (g := g) hg (argsL := argsL) (rest := rest) (hlen _ hsigM) hstack hdg
  rcases hK m meth c ⟨T.setVm vm₁, locs, cells, slots⟩ { g with stack := rest } (.invokestatic index) mk argsL.toArray X₁ hg hsize hdg hW (X₁.named hnamed) (hpre vm₁ X₁.warmed) with ⟨v, B, X', hpost, hsteps⟩ | ⟨q, B, X', hpost, hsteps⟩
  · exact Or.inl ⟨v, vm₁, B, X₁.warmed, X', hpost, fun target h => hstep₁ _ fun acts => by rw [doInvoke_state]; exact hsteps.trans h⟩
  · exact Or.inr ⟨q, vm₁, B, X₁.warmed, X', hpost, hstep₁ _ fun acts => by rw [doInvoke_state]; exact hsteps⟩
theorem vx_callVW (X : Stand p l e R s m args below meth c T locs cells slots) (hexec : p.tables.exec = Jvm.exec) {own C : String} {index : Nat} {y : MethodName} {bytes : ByteArray} {maxL : Nat} {ret : Option FieldType} {hh : List (Nat × Nat × Nat × Nat)}
    (hown : s.vm.findClass own = some m.cls) (hlink : (Cond.methodLink own index y).before args s = true) (hinst : (Cond.instanceMethod y).before args s = true) (hsel : (Cond.selects C y y).before args s = true)
    (hcode : (Cond.codeWith y bytes maxL ret hh).before args s = true) (hy : y.cls ≠ "java/lang/invoke/MethodHandle" ∧ y.cls ≠ "java/lang/invoke/VarHandle")
    {W9 : Nat} {Pre : Pt → Array Value → Prop} {Post : Pt → Array Value → Option Value → Pt → Prop} (hK : Back l R p e below s args y 3 W9 Pre Post)
    {b : Addr} {cellB : Cell} (hcell : T.heap[b]? = some cellB) (hobj : cellB.vm.isStatics = false) (hcls : s.vm.findClass C = some cellB.cls)
    {g : JFrame} (hg : g.method = m) (hsize : g.locals.size = c.maxLocals) {argsL rest : List Value} (hlen : ∀ sig, parseMethodDescriptor y.desc = some sig → argsL.length = sig.parameters.length)
    (hstack : g.stack = argsL.reverse ++ .ref b :: rest) (hW : 2 * g.monitorRoom + (rest.map fun v => v.category).sum ≤ W9) (hdg : decode c.code g.pc = .ok (.invokevirtual index, 3))
    (hpre : ∀ vm₁, s.WarmedH vm₁ → Pre ⟨T.setVm vm₁, locs, cells, slots⟩ (Value.ref b :: argsL).toArray) :
    ∃ (v : Option Value) (vm₁ : Vm) (B : Pt), s.WarmedH vm₁ ∧ Stand p l e R s m args below meth c B.U B.locs B.cells B.slots ∧ Post ⟨T.setVm vm₁, locs, cells, slots⟩ (Value.ref b :: argsL).toArray v B ∧
      ∀ target, Steps p.tables e below (B.U.setTop { g with pc := g.pc + 3, stack := v.toList ++ rest }) target → Steps p.tables e below (T.setTop g) target := by
  obtain ⟨mk, methM, hnamed, hmethM, hstM, habM⟩ := Cond.instanceMethod_spec hinst
  obtain ⟨m8, methM', cM, hn8, hmethM', -, -, -, -, -, -, hsigM⟩ := Cond.codeWith_spec hcode
  cases Option.some.inj (hn8.symm.trans hnamed)
  cases hmethM.symm.trans hmethM'
  obtain ⟨c2, r2, m2, q1, q2, q3, q4, kP, hkP, hkPi⟩ := Cond.selects_spec hsel
  cases hcls.symm.trans q1
  cases (State.methodFound?_of_named hnamed hy).symm.trans q2
  cases hnamed.symm.trans q3
  have hselP : selectMethod e.platform s.vm cellB.cls mk = .method mk := by rw [Launch.admits_selectMethod X.admits]; exact q4
  obtain ⟨vm₁, X₁, hstep₁⟩ := X.invokevirtual hexec hown hlink hnamed hmethM hstM hkP hkPi hy (a := b) (cell := cellB) hcell
    (fun z h => by rw [h] at hobj; cases hobj) hselP hmethM habM hkP hkPi (g := g) hg (argsL := argsL) (rest := rest) (hlen _ hsigM) hstack hdg
  obtain ⟨v, B, X', hpost, hsteps⟩ := hK m meth c ⟨T.setVm vm₁, locs, cells, slots⟩ { g with stack := rest } (.invokevirtual index) mk (Value.ref b :: argsL).toArray X₁ hg hsize hdg hW (X₁.named hnamed) (hpre vm₁ X₁.warmed)
  exact ⟨v, vm₁, B, X₁.warmed, X', hpost, fun target h => hstep₁ _ fun acts => by rw [doInvoke_state]; exact hsteps.trans h⟩
abbrev vx_CVW (R : Room) (s : State) (args : Array Value) (own C : String) (index : Nat) (y : MethodName) (bytes : ByteArray) (maxL : Nat) (ret : Option FieldType) (hh : List (Nat × Nat × Nat × Nat)) (ws : List Cond) (rm : Room) (mc ms n : Nat) : Prop :=
  (rm.cells = mc ∧ rm.slots = ms ∧ rm.frames + 1 ≤ R.frames ∧ 8 + (maxL + 11) + rm.locals ≤ R.locals ∧ (∀ w ∈ ws, ∀ (a' : Array Value) (U : State), s.WarmedH U.vm → w.before a' U = true) ∧ Cond.codeWith y bytes maxL ret hh ∈ ws) ∧
  (Cond.codeWith y bytes maxL ret hh).before args s = true ∧ (Cond.initialized y.cls).before args s = true ∧ (y.cls ≠ "java/lang/invoke/MethodHandle" ∧ y.cls ≠ "java/lang/invoke/VarHandle") ∧
  (∀ sig, parseMethodDescriptor y.desc = some sig → n = sig.parameters.length) ∧ (Cond.methodLink own index y).before args s = true ∧ (Cond.instanceMethod y).before args s = true ∧ (Cond.selects C y y).before args s = true
theorem vx_cwVW {own C : String} {index maxL mc ms : Nat} {y : MethodName} {bytes : ByteArray} {ret : Option FieldType} {hh : List (Nat × Nat × Nat × Nat)} {Ts ws ws' : List Cond} {rm : Room} (n : Nat) (ht : ∀ w ∈ Ts, w.before args s = true) (hT : GoodIn Ts (wsV own index C y ws)) (hw : ws = Cond.codeWith y bytes maxL ret hh :: ws') (hrc : rm.cells = mc) (hrs : rm.slots = ms)
    (hd : y.cls = C ∧ y.cls ≠ "java/lang/invoke/MethodHandle" ∧ y.cls ≠ "java/lang/invoke/VarHandle" ∧ (parseMethodDescriptor y.desc).map (fun d => d.parameters.length) = some n) (hR : rm.frames + 1 ≤ R.frames ∧ 8 + (maxL + 11) + rm.locals ≤ R.locals) :
    vx_CVW R s args own C index y bytes maxL ret hh ws rm mc ms n := by
  obtain ⟨hC, hd⟩ := hd
  subst hC
  have ok : ∀ w ∈ wsV own index y.cls y ws, w.before args s = true := fun w h => ht w (hT w h).1
  have hG : GoodIn Ts ws := fun w h => hT w (by unfold wsV; exact List.mem_append_right _ h)
  have hc : Cond.codeWith y bytes maxL ret hh ∈ ws := by rw [hw]; exact List.mem_cons_self
  refine ⟨⟨hrc, hrs, hR.1, hR.2, pay_in ht hG, hc⟩, ht _ (hG _ hc).1, ok _ (by simp [wsV]), ⟨hd.1, hd.2.1⟩, fun sig h => ?_, ok _ (by simp [wsV]), ok _ (by simp [wsV]), ok _ (by simp [wsV])⟩
  have h2 := hd.2.2
  rw [h] at h2
  exact (Option.some.inj h2).symm
theorem vx_runVW {y : MethodName} {bytes cc : ByteArray} {maxL nL mc ms n index : Nat} {ret : Option FieldType} {hh : List (Nat × Nat × Nat × Nat)} {ws : List Cond} {rm : Room} {Pc : Array Value → State → Prop} {Qc : Array Value → State → Outcome → State → Prop} {free : Addr → Prop} {Ts : List Cond} {own C : String} {b : Addr} {As rest : List Value} {g : JFrame}
    (S : CallFix p m c cc nL s args Ts own) (hM : Met l y ws rm Pc Qc mc ms free) (cw : vx_CVW R s args own C index y bytes maxL ret hh ws rm mc ms n) (hp : PreV s H C b Pc As)
    (hg : g.method = m) (hn : As.length = n) (hsize : g.locals.size = nL) (hstack : g.stack = As.reverse ++ .ref b :: rest) (hW : 2 * g.monitorRoom + (rest.map fun v => v.category).sum ≤ 8) (hdg : decode cc g.pc = .ok (.invokevirtual index, 3)) (hf : cells + mc ≤ R.cells ∧ slots + ms ≤ R.slots) :
    va_Run p l e R s m args below meth c H locs cells slots mc ms g rest (Qc (Value.ref b :: As).toArray) free := by
  obtain ⟨⟨hrc, hrs, hfr, hlo, hws, hcw⟩, hcode, hini, hy, hlen, hl, hin, hse⟩ := cw
  have hK : Back l R p e below s args y 3 8 (PreOf R mc ms Pc) (PostOf Qc mc ms free) := va_backW (hh := hh) (bytes := bytes) (maxL := maxL) (ret := ret) hM hp.1 hrc hrs hfr hlo hws hcw (fun a' U hW => word_at hW (Or.inl (by first | rfl | simp [Cond.onTables, Cond.keeps, Cond.steady])) hini)
  obtain ⟨hx, hb, hml, ho, -⟩ := S
  obtain ⟨-, ⟨cellB, hcB, hoB, hclB⟩, hPc⟩ := hp
  intro T hT X
  obtain ⟨v, vm₁, ⟨U', l2, c2, s2⟩, hW₁, X', ⟨g', mk, t, L, e1, e2, hq, h1, hL, h2, h3⟩, st⟩ := vx_callVW X hx (C := C) (hh := hh) (bytes := bytes) (maxL := maxL) (ret := ret) ho hl hin hse hcode hy hK (by rw [hT]; exact hcB) hoB hclB hg (hsize.trans hml.symm) (argsL := As) (rest := rest) (fun sig h => hn.trans (hlen sig h)) hstack hW (by rw [hb]; exact hdg)
    (fun vm₁ hW₁ => ⟨hf.1, hf.2, hPc (T.setVm vm₁) hT hW₁⟩)
  dsimp only [Pt.U, Pt.locs, Pt.cells, Pt.slots] at X' e1 e2 h1 h2 h3 st
  subst h1; subst h2; subst h3
  exact ⟨v, (T.setVm vm₁).calling g' mk (Value.ref b :: As).toArray, t, U', L, hT, X', hL, e1, e2, hq, st⟩
section
variable {y : MethodName} {bytes cc : ByteArray} {maxL nL mc ms n index : Nat} {ret : Option FieldType} {ws : List Cond} {rm : Room} {Pc : Array Value → State → Prop} {Qc : Array Value → State → Outcome → State → Prop} {XC : String → State → State → Prop} {free : Addr → Prop} {Ts : List Cond} {own C : String} {b : Addr} {As rest : List Value} {g : JFrame}
theorem vx_runVX {hh : List (Nat × Nat × Nat × Nat)} (S : CallFix p m c cc nL s args Ts own) (hM : vx_Met l y ws rm Pc Qc XC mc ms free) (cw : vx_CVW R s args own C index y bytes maxL ret hh ws rm mc ms n) (hp : PreV s H C b Pc As)
    (hg : g.method = m) (hn : As.length = n) (hsize : g.locals.size = nL) (hstack : g.stack = As.reverse ++ .ref b :: rest) (hW : 2 * g.monitorRoom + (rest.map fun v => v.category).sum ≤ 8) (hdg : decode cc g.pc = .ok (.invokevirtual index, 3)) (hf : cells + mc ≤ R.cells ∧ slots + ms ≤ R.slots) :
    vx_Run p l e R s m args below meth c H locs cells slots mc ms g rest (Qc (Value.ref b :: As).toArray) XC free := by
  obtain ⟨⟨hrc, hrs, hfr, hlo, hws, hcw⟩, hcode, hini, hy, hlen, hl, hin, hse⟩ := cw
  have hK : vx_Back l R p e below s args y 3 8 (PreOf R mc ms Pc) (PostOf Qc mc ms free) (vx_Post XC mc ms free) := vx_backW (hh := hh) (bytes := bytes) (maxL := maxL) (ret := ret) hM hp.1 hrc hrs hfr hlo hws hcw (fun a' U hW => word_at hW (Or.inl (by first | rfl | simp [Cond.onTables, Cond.keeps, Cond.steady])) hini)
  obtain ⟨hx, hb, hml, ho, -⟩ := S
  obtain ⟨-, ⟨cellB, hcB, hoB, hclB⟩, hPc⟩ := hp
  intro T hT X
  rcases vx_callVX X hx (C := C) (hh := hh) (bytes := bytes) (maxL := maxL) (ret := ret) ho hl hin hse hcode hy hK (by rw [hT]; exact hcB) hoB hclB hg (hsize.trans hml.symm) (argsL := As) (rest := rest) (fun sig h => hn.trans (hlen sig h)) hstack hW (by rw [hb]; exact hdg)
    (fun vm₁ hW₁ => ⟨hf.1, hf.2, hPc (T.setVm vm₁) hT hW₁⟩) with ⟨v, vm₁, ⟨U', l2, c2, s2⟩, hW₁, X', ⟨g', mk, t, L, e1, e2, hq, h1, hL, h2, h3⟩, st⟩ | ⟨q, vm₁, ⟨U', l2, c2, s2⟩, hW₁, X', ⟨g', mk, t, L, E, ce, e1, e2, hq, hce, hcv, hcl, h1, hL, h2, h3⟩, st⟩
  · dsimp only [Pt.U, Pt.locs, Pt.cells, Pt.slots] at X' e1 e2 h1 h2 h3 st
    subst h1; subst h2; subst h3
    exact Or.inl ⟨v, (T.setVm vm₁).calling g' mk (Value.ref b :: As).toArray, t, U', L, hT, X', hL, e1, e2, hq, st⟩
  · dsimp only [Pt.U, Pt.locs, Pt.cells, Pt.slots] at X' e1 e2 h1 h2 h3 st hcl
    subst h1; subst h2; subst h3
    exact Or.inr ⟨q, (T.setVm vm₁).calling g' mk (Value.ref b :: As).toArray, t, U', L, E, ce, hT, X', hL, e1, e2, hq, hce, hcv, vx_cls hW₁ hcl, st⟩
theorem vx_runSX {hh : List (Nat × Nat × Nat × Nat)} (S : CallFix p m c cc nL s args Ts own) (hM : vx_Met l y ws rm Pc Qc XC mc ms free) (cw : vx_CSW R s args own index y bytes maxL ret hh ws rm mc ms n) (hp : PreS s H Pc As)
    (hg : g.method = m) (hn : As.length = n) (hsize : g.locals.size = nL) (hstack : g.stack = As.reverse ++ rest) (hW : 2 * g.monitorRoom + (rest.map fun v => v.category).sum ≤ 8) (hdg : decode cc g.pc = .ok (.invokestatic index, 3)) (hf : cells + mc ≤ R.cells ∧ slots + ms ≤ R.slots) :
    vx_Run p l e R s m args below meth c H locs cells slots mc ms g rest (Qc As.toArray) XC free := by
  obtain ⟨⟨hrc, hrs, hfr, hlo, hws, hcw⟩, hcode, hini, hy, hlen, hl, hstt⟩ := cw
  have hK : vx_Back l R p e below s args y 3 8 (PreOf R mc ms Pc) (PostOf Qc mc ms free) (vx_Post XC mc ms free) := vx_backW (hh := hh) (bytes := bytes) (maxL := maxL) (ret := ret) hM hp.1 hrc hrs hfr hlo hws hcw (fun a' U hW => word_at hW (Or.inl (by first | rfl | simp [Cond.onTables, Cond.keeps, Cond.steady])) hini)
  obtain ⟨hx, hb, hml, ho, -⟩ := S
  intro T hT X
  rcases vx_callSX X hx (hh := hh) (bytes := bytes) (maxL := maxL) (ret := ret) ho hl hstt hini hcode hy hK hg (hsize.trans hml.symm) (argsL := As) (rest := rest) (fun sig h => hn.trans (hlen sig h)) hstack hW (by rw [hb]; exact hdg)
    (fun vm₁ hW₁ => ⟨hf.1, hf.2, hp.2 (T.setVm vm₁) hT hW₁⟩) with ⟨v, vm₁, ⟨U', l2, c2, s2⟩, hW₁, X', ⟨g', mk, t, L, e1, e2, hq, h1, hL, h2, h3⟩, st⟩ | ⟨q, vm₁, ⟨U', l2, c2, s2⟩, hW₁, X', ⟨g', mk, t, L, E, ce, e1, e2, hq, hce, hcv, hcl, h1, hL, h2, h3⟩, st⟩
  · dsimp only [Pt.U, Pt.locs, Pt.cells, Pt.slots] at X' e1 e2 h1 h2 h3 st
    subst h1; subst h2; subst h3
    exact Or.inl ⟨v, (T.setVm vm₁).calling g' mk As.toArray, t, U', L, hT, X', hL, e1, e2, hq, st⟩
  · dsimp only [Pt.U, Pt.locs, Pt.cells, Pt.slots] at X' e1 e2 h1 h2 h3 st hcl
    subst h1; subst h2; subst h3
    exact Or.inr ⟨q, (T.setVm vm₁).calling g' mk As.toArray, t, U', L, E, ce, hT, X', hL, e1, e2, hq, hce, hcv, vx_cls hW₁ hcl, st⟩
end
end VXH
theorem vx_ofWH {l : Launch} {y : MethodName} {ws ws' : List Cond} {rm : Room} {Pc : Array Value → State → Prop} {Qc : Array Value → State → Outcome → State → Prop} {XC : String → State → State → Prop} {mc ms : Nat} {free : Addr → Prop} {cc : ByteArray} {maxL : Nat} {ret : Option FieldType} {hh : List (Nat × Nat × Nat × Nat)}
    (hy : plainName y.cls = true) (hw : ws = Cond.codeWith y cc maxL ret hh :: ws')
    (body : ∀ p e s m args below meth c s₁, BodyLoose p l y (headSpec ws rm) cc maxL ret e s m args below meth c s₁ → c.maxLocals = maxL → Pc args s →
      W p l e (headSpec ws rm).room s m args below meth c s.heap [] 0 0 (vx_MQ below Qc XC args s mc ms free) (entryFrame m args maxL)) : vx_Met l y ws rm Pc Qc XC mc ms free := by
  refine MetFree.of_bodyS (code := cc) (maxLocals := maxL) (ret := ret) hy ?_ ?_
  · intro args s m h hn
    obtain ⟨m9, meth, c, hn9, h1, h2, h3, h4, -, h5, h6, -⟩ := Cond.codeWith_spec (atoms_spec (ws := ws) h _ (by rw [hw]; exact List.mem_cons_self))
    cases hn.symm.trans hn9
    exact ⟨meth, c, h1, h2, h3, h4, h5, h6⟩
  · intro p e s m args below meth c s₁ B hml hP _
    have hh0 : s₁.heap = s.heap := by rw [B.state]; rfl
    obtain ⟨t, a1, o, b1, b2, b3⟩ := body p e s m args below meth c s₁ B hml hP s₁ hh0 (Stand.of_body B)
    exact ⟨t, o, a1, b1, b2, b3⟩
end
section
/-! one world for the whole system: the object (0), its Room (1), roots (2), diskRoots (3), ways (4), openTurns (5), fresh (6), marked (7), the reference (8), there (9), bound (10), values (11), numbers (12), the law's long[1] (13), and the 61 rows of ways -/
abbrev sy_Y : Type := va_G × (Nat → Nat) × (Nat → ClassId) × (Nat → Prop)
def sy_tys (Y : sy_Y) : List (ClassId × FieldType) := [(Y.2.2.1 0, .int), (Y.2.2.1 1, .boolean), (Y.2.2.1 2, .long), (Y.2.2.1 3, .array .int)]
def sy_fix (Y : sy_Y) (M U : me_M) (o : Int64) : va_W :=
  [(Y.2.1 0, .inr (0, [.ref (Y.2.1 1), .ref (Y.2.1 2), .ref (Y.2.1 3), .int (M 5 0), .int (M 5 1), .int (M 5 2)])),
   (Y.2.1 1, .inr (1, [.ref (Y.2.1 4), .ref (Y.2.1 5), .ref (Y.2.1 6), .ref (Y.2.1 7)])),
   (Y.2.1 2, .inl (Y.2.2.1 0, 7, .inl (M 3))), (Y.2.1 3, .inl (Y.2.2.1 0, 7, .inl (M 4))),
   (Y.2.1 4, .inl (Y.2.2.1 3, 61, .inr (.inr (.inr (.inr (fun i => some (Y.2.1 (20 + i)))))))),
   (Y.2.1 5, .inl (Y.2.2.1 0, 61, .inl (M 0))), (Y.2.1 6, .inl (Y.2.2.1 1, 61, .inl (M 1))), (Y.2.1 7, .inl (Y.2.2.1 1, 61, .inl (M 2))),
   (Y.2.1 8, .inr (2, [.int (U 4 0), .ref (Y.2.1 9), .ref (Y.2.1 10), .ref (Y.2.1 11), .ref (Y.2.1 12), .int (U 4 1), .int (U 4 2), .int (U 4 3), .int (U 4 4), .int (U 4 5)])),
   (Y.2.1 9, .inl (Y.2.2.1 1, 14, .inl (U 0))), (Y.2.1 10, .inl (Y.2.2.1 1, 896, .inl (U 1))), (Y.2.1 11, .inl (Y.2.2.1 0, 896, .inl (U 2))), (Y.2.1 12, .inl (Y.2.2.1 0, 294, .inl (U 3))),
   (Y.2.1 13, .inl (Y.2.2.1 2, 1, .inr (.inl (fun _ => o))))]
def sy_rows (Y : sy_Y) (M : me_M) : va_W := (List.range 61).map (fun i => (Y.2.1 (20 + i), .inl (Y.2.2.1 0, 4, .inl (M (6 + i)))))
def sy_w (Y : sy_Y) (M U : me_M) (o : Int64) : va_W := sy_fix Y M U o ++ sy_rows Y M
section
variable {Y : sy_Y} {M U : me_M} {o : Int64}
theorem sy_row {i : Nat} (hi : i < 61) : (sy_w Y M U o)[14 + i]? = some (Y.2.1 (20 + i), .inl (Y.2.2.1 0, 4, .inl (M (6 + i)))) := by
  unfold sy_w
  rw [List.getElem?_append_right (by show 14 ≤ 14 + i; omega)]
  show (sy_rows Y M)[14 + i - 14]? = _
  rw [show 14 + i - 14 = i by omega]
  unfold sy_rows
  rw [List.getElem?_map, List.getElem?_range hi]
  rfl
theorem sy_rows_n {a : Nat} (f : Nat → Int32) (ha : ∀ i, 6 + i ≠ a) : sy_rows Y (me_set M a f) = sy_rows Y M := by
  unfold sy_rows
  refine List.map_congr_left fun i _ => ?_
  rw [me_set_n _ _ (ha i)]
theorem sy_set (p a : Nat) (f : Nat → Int32) {x : Nat × va_E} (hp : p < 14) (ha : ∀ i, 6 + i ≠ a) (h : (sy_fix Y M U o).set p x = sy_fix Y (me_set M a f) U o) : (sy_w Y M U o).set p x = sy_w Y (me_set M a f) U o := by
  unfold sy_w
  rw [List.set_append_left _ _ (by show p < 14; exact hp), h, sy_rows_n f ha]
theorem sy_set0 (f : Nat → Int32) : (sy_w Y M U o).set 5 (Y.2.1 5, .inl (Y.2.2.1 0, 61, .inl f)) = sy_w Y (me_set M 0 f) U o := sy_set 5 0 f (by decide) (by omega) rfl
theorem sy_set1 (f : Nat → Int32) : (sy_w Y M U o).set 6 (Y.2.1 6, .inl (Y.2.2.1 1, 61, .inl f)) = sy_w Y (me_set M 1 f) U o := sy_set 6 1 f (by decide) (by omega) rfl
theorem sy_set2 (f : Nat → Int32) : (sy_w Y M U o).set 7 (Y.2.1 7, .inl (Y.2.2.1 1, 61, .inl f)) = sy_w Y (me_set M 2 f) U o := sy_set 7 2 f (by decide) (by omega) rfl
theorem sy_set3 (f : Nat → Int32) : (sy_w Y M U o).set 2 (Y.2.1 2, .inl (Y.2.2.1 0, 7, .inl f)) = sy_w Y (me_set M 3 f) U o := sy_set 2 3 f (by decide) (by omega) rfl
theorem sy_set4 (f : Nat → Int32) : (sy_w Y M U o).set 3 (Y.2.1 3, .inl (Y.2.2.1 0, 7, .inl f)) = sy_w Y (me_set M 4 f) U o := sy_set 3 4 f (by decide) (by omega) rfl
theorem sy_put0 (v : Int32) : (sy_w Y M U o).set 0 (Y.2.1 0, .inr (0, [.ref (Y.2.1 1), .ref (Y.2.1 2), .ref (Y.2.1 3), .int v, .int (M 5 1), .int (M 5 2)])) = sy_w Y (me_up M 5 0 v) U o := sy_set 0 5 _ (by decide) (by omega) rfl
theorem sy_put1 (v : Int32) : (sy_w Y M U o).set 0 (Y.2.1 0, .inr (0, [.ref (Y.2.1 1), .ref (Y.2.1 2), .ref (Y.2.1 3), .int (M 5 0), .int v, .int (M 5 2)])) = sy_w Y (me_up M 5 1 v) U o := sy_set 0 5 _ (by decide) (by omega) rfl
theorem sy_put2 (v : Int32) : (sy_w Y M U o).set 0 (Y.2.1 0, .inr (0, [.ref (Y.2.1 1), .ref (Y.2.1 2), .ref (Y.2.1 3), .int (M 5 0), .int (M 5 1), .int v])) = sy_w Y (me_up M 5 2 v) U o := sy_set 0 5 _ (by decide) (by omega) rfl
theorem sy_setU (p : Nat) {x : Nat × va_E} {U' : me_M} {o' : Int64} (hp : p < 14) (h : (sy_fix Y M U o).set p x = sy_fix Y M U' o') : (sy_w Y M U o).set p x = sy_w Y M U' o' := by
  unfold sy_w
  rw [List.set_append_left _ _ (by show p < 14; exact hp), h]
theorem sy_setU0 (f : Nat → Int32) : (sy_w Y M U o).set 9 (Y.2.1 9, .inl (Y.2.2.1 1, 14, .inl f)) = sy_w Y M (me_set U 0 f) o := sy_setU 9 (by decide) rfl
theorem sy_setU1 (f : Nat → Int32) : (sy_w Y M U o).set 10 (Y.2.1 10, .inl (Y.2.2.1 1, 896, .inl f)) = sy_w Y M (me_set U 1 f) o := sy_setU 10 (by decide) rfl
theorem sy_setU2 (f : Nat → Int32) : (sy_w Y M U o).set 11 (Y.2.1 11, .inl (Y.2.2.1 0, 896, .inl f)) = sy_w Y M (me_set U 2 f) o := sy_setU 11 (by decide) rfl
theorem sy_setU3 (f : Nat → Int32) : (sy_w Y M U o).set 12 (Y.2.1 12, .inl (Y.2.2.1 0, 294, .inl f)) = sy_w Y M (me_set U 3 f) o := sy_setU 12 (by decide) rfl
theorem sy_setO (v : Int64) : (sy_w Y M U o).set 13 (Y.2.1 13, .inl (Y.2.2.1 2, 1, .inr (.inl (fun _ => v)))) = sy_w Y M U v := sy_setU 13 (by decide) rfl
theorem sy_putU (j : Nat) (v : Int32) {x : va_E} (h : (sy_fix Y M U o).set 8 (Y.2.1 8, x) = sy_fix Y M (me_up U 4 j v) o) : (sy_w Y M U o).set 8 (Y.2.1 8, x) = sy_w Y M (me_up U 4 j v) o := sy_setU 8 (by decide) h
theorem sy_setR {i : Nat} (hi : i < 61) (f : Nat → Int32) : (sy_w Y M U o).set (14 + i) (Y.2.1 (20 + i), .inl (Y.2.2.1 0, 4, .inl f)) = sy_w Y (me_set M (6 + i) f) U o := by
  unfold sy_w
  rw [List.set_append_right _ _ (by show 14 ≤ 14 + i; omega)]
  show sy_fix Y M U o ++ (sy_rows Y M).set (14 + i - 14) _ = _
  rw [show 14 + i - 14 = i by omega]
  have e : ∀ a, a < 6 → me_set M (6 + i) f a = M a := fun a ha => me_set_n _ _ (by omega)
  have hf : sy_fix Y (me_set M (6 + i) f) U o = sy_fix Y M U o := by
    unfold sy_fix
    rw [e 0 (by decide), e 1 (by decide), e 2 (by decide), e 3 (by decide), e 4 (by decide), e 5 (by decide)]
  rw [hf]
  congr 1
  apply List.ext_getElem?
  intro j
  unfold sy_rows
  rw [List.getElem?_set, List.length_map, List.length_range, List.getElem?_map, List.getElem?_map]
  by_cases ej : i = j
  · subst ej
    rw [if_pos rfl, if_pos hi, List.getElem?_range hi]
    show _ = some (_, Sum.inl (_, 4, Sum.inl (me_set M (6 + i) f (6 + i))))
    rw [me_set_s]
  · rw [if_neg ej]
    by_cases hj : j < 61
    · rw [List.getElem?_range hj]
      show some (_, Sum.inl (_, 4, Sum.inl (M (6 + j)))) = some (_, Sum.inl (_, 4, Sum.inl (me_set M (6 + i) f (6 + j))))
      rw [me_set_n _ _ (by omega)]
    · rw [List.getElem?_eq_none (by rw [List.length_range]; omega)]
      rfl
theorem sy_addr (Y : sy_Y) (M U : me_M) (o : Int64) (M' U' : me_M) (o' : Int64) : (sy_w Y M U o).map (·.1) = (sy_w Y M' U' o').map (·.1) := by
  unfold sy_w sy_rows
  rw [List.map_append, List.map_append, List.map_map, List.map_map]
  rfl
theorem sy_Dmap {A : Nat → Prop} {w w' : va_W} (h : w.map (·.1) = w'.map (·.1)) (hD : va_D A w) : va_D A w' := by
  have key : ∀ (k : Nat) (q : Nat × va_E), w'[k]? = some q → ∃ q', w[k]? = some q' ∧ q'.1 = q.1 := by
    intro k q hq
    have h1 : (w'.map (·.1))[k]? = some q.1 := by rw [List.getElem?_map, hq]; rfl
    rw [← h, List.getElem?_map] at h1
    cases hw : w[k]? with
    | none => rw [hw] at h1; cases h1
    | some q' => rw [hw] at h1; exact ⟨q', rfl, Option.some.inj h1⟩
  refine ⟨fun i j p q hp hq e => ?_, fun k q hq => ?_⟩
  · obtain ⟨p', hp', ep⟩ := key i p hp
    obtain ⟨q', hq', eq⟩ := key j q hq
    exact hD.1 i j p' q' hp' hq' (by rw [ep, eq]; exact e)
  · obtain ⟨q', hq', eq⟩ := key k q hq
    rw [← eq]
    exact hD.2 k q' hq'
end
end
section
/-! what a throw and a catch need of the start, and how it goes on -/
def sy_X : List String := ["java/lang/IllegalStateException", "java/lang/IllegalArgumentException", "java/lang/UnsupportedOperationException", "java/util/NoSuchElementException"]
def sy_nw : List Cond := [.castable "java/lang/IllegalStateException" "java/lang/IllegalStateException", .castable "java/lang/IllegalArgumentException" "java/lang/IllegalArgumentException", .castable "java/lang/UnsupportedOperationException" "java/lang/UnsupportedOperationException", .castable "java/util/NoSuchElementException" "java/util/NoSuchElementException", .declares (Bundle.initS "java/lang/RuntimeException"), .declares (Bundle.initS "java/lang/Exception"), .declares (Bundle.initS Bundle.tN)]
def sy_strs : List (Nat × String) := [(48, "no such key"), (107, "all snapshots are there"), (130, "the power failed"), (143, "the store is down"), (148, "no map of this handle"), (150, "no snapshot of this number"), (154, "the key is not bound"), (161, "no room")]
def sy_nc : List (String × String) := sy_X.flatMap (fun a => sy_X.filterMap (fun b => if a = b then none else some (a, b)))
def sy_th (Y : sy_Y) (S : State) (H : Heap) : Prop := vx_Zq Bundle.tN "UNASSIGNED_STACK" Bundle.steD Y.2.2.2 S H ∧ vx_Zq Bundle.tN "SUPPRESSED_SENTINEL" Bundle.listD Y.2.2.2 S H ∧ (∀ w ∈ sy_nw, va_Nw w S) ∧ (∀ q ∈ sy_strs, ∃ sa, vk_R nr_FB q.1 q.2 sa S) ∧ (∀ q ∈ sy_nc, va_Nc q.1 q.2 S)
def sy_ok (Y : sy_Y) (S : State) (H : Heap) : Prop := va_K Y.1 sy_cl (sy_tys Y) S ∧ (∀ q : Nat, H.size ≤ q → Y.2.2.2 q) ∧ (∀ (M U : me_M) (o : Int64), va_D Y.2.2.2 (sy_w Y M U o)) ∧ sy_th Y S H
theorem sy_th_go {Y : sy_Y} {s U : State} {H H1 : Heap} (hW : s.WarmedH U.vm) (hq : ∀ a : Nat, a < H.size → ¬ Y.2.2.2 a → H1[a]? = H[a]?) (h : sy_th Y s H) : sy_th Y U H1 := by
  obtain ⟨h1, h2, h3, h4, h5⟩ := h
  refine ⟨vx_Zq.kept (vx_Zq.moved hW.alike h1) hq, vx_Zq.kept (vx_Zq.moved hW.alike h2) hq, fun w hw => ?_, fun q hq => ?_, fun q hq => ?_⟩
  · have h := h3 w hw
    simp only [sy_nw, List.mem_cons, List.not_mem_nil, or_false] at hw
    rcases hw with rfl | rfl | rfl | rfl | rfl | rfl | rfl
    · exact va_Nw.warmC hW h
    · exact va_Nw.warmC hW h
    · exact va_Nw.warmC hW h
    · exact va_Nw.warmC hW h
    · exact va_Nw.warmD hW h
    · exact va_Nw.warmD hW h
    · exact va_Nw.warmD hW h
  · obtain ⟨sa, h⟩ := h4 q hq
    exact ⟨sa, vk_R.warm hW h⟩
  · exact va_Nc.moved hW.alike (h5 q hq)
theorem sy_ok_go {Y : sy_Y} {s U : State} {H : Heap} {locs : List Loc} (hW : s.WarmedH U.vm) (hS : va_S Y.2.2.2 s.heap H locs) (h : sy_ok Y s s.heap) : sy_ok Y U H := by
  obtain ⟨h1, h2, h3, h4⟩ := h
  exact ⟨va_K.moved hW.alike h1, fun q hq => h2 q (Nat.le_trans hS.1 hq), h3, sy_th_go hW hS.2.1 h4⟩
end
section
/-! the judgement vv: the machine in a method of the system, the world being sy_w (memories M, U, the law's long o), locals L, operand stack st -/
section
variable {p : Program} {l : Launch} {e : Env} {R : Room} {s : State} {m : MethodId} {args : Array Value} {below : List Frame} {meth : Method} {c : Code} {cells slots : Nat} {Q : State → Prop}
variable {cc : ByteArray} {nL : Nat} {ret : Option FieldType} {own : String} {Y : sy_Y} {M U M' U' : me_M} {o o' : Int64} {pc : Nat} {L L' : List (Nat × Value)} {st : List Value}
/-- what is fixed in a method's walk -/
def vv_fix (p : Program) (s : State) (m : MethodId) (args : Array Value) (meth : Method) (c : Code) (cc : ByteArray) (nL : Nat) (ret : Option FieldType) (own : String) (Y : sy_Y) : Prop :=
  p.tables.exec = Jvm.exec ∧ c.code = cc ∧ c.maxLocals = nL ∧ s.vm.findClass own = some m.cls ∧ (∀ w ∈ wl, w.before args s = true) ∧ sy_ok Y s s.heap ∧ meth.sig.returnType = ret ∧ meth.locks = false
def vv (p : Program) (l : Launch) (e : Env) (R : Room) (s : State) (m : MethodId) (args : Array Value) (below : List Frame) (meth : Method) (c : Code) (cells slots : Nat) (Q : State → Prop) (nL : Nat) (Y : sy_Y) (M U : me_M) (o : Int64) (pc : Nat) (L : List (Nat × Value)) (st : List Value) : Prop :=
  ∀ (H : Heap) (locs : List Loc) (ls : Array Slot), va_P Y.1 sy_cl (sy_w Y M U o) H → va_S Y.2.2.2 s.heap H locs → lv_has ls nL L → W p l e R s m args below meth c H locs cells slots Q (F0 m pc ls st)
theorem vv_iconst (fx : vv_fix p s m args meth c cc nL ret own Y) {n : Int} {v : Int32} (hd : decode cc pc = .ok (.iconst n, 1)) (hv : Int32.ofInt n = v) (kk : vv p l e R s m args below meth c cells slots Q nL Y M U o (pc + 1) L (.int v :: st)) : vv p l e R s m args below meth c cells slots Q nL Y M U o pc L (st) := fun H locs ls hP hS hl => lv_iconst fx.1 fx.2.1 hd hv (kk H locs ls hP hS hl)
theorem vv_bipush (fx : vv_fix p s m args meth c cc nL ret own Y) {n : Int} {v : Int32} (hd : decode cc pc = .ok (.bipush n, 2)) (hv : (Int8.ofInt n).toInt32 = v) (kk : vv p l e R s m args below meth c cells slots Q nL Y M U o (pc + 2) L (.int v :: st)) : vv p l e R s m args below meth c cells slots Q nL Y M U o pc L (st) := fun H locs ls hP hS hl => lv_bipush fx.1 fx.2.1 hd hv (kk H locs ls hP hS hl)
theorem vv_sipush (fx : vv_fix p s m args meth c cc nL ret own Y) {n : Int} {v : Int32} (hd : decode cc pc = .ok (.sipush n, 3)) (hv : (Int16.ofInt n).toInt32 = v) (kk : vv p l e R s m args below meth c cells slots Q nL Y M U o (pc + 3) L (.int v :: st)) : vv p l e R s m args below meth c cells slots Q nL Y M U o pc L (st) := fun H locs ls hP hS hl => lv_sipush fx.1 fx.2.1 hd hv (kk H locs ls hP hS hl)
theorem vv_iload_n (fx : vv_fix p s m args meth c cc nL ret own Y) {k : Fin 4} {i : Nat} {x : Int32} (hd : decode cc pc = .ok (.iload_n k, 1)) (hi : (k : Nat) = i) (j : Nat) (hj : L[j]? = some (i, .int x)) (kk : vv p l e R s m args below meth c cells slots Q nL Y M U o (pc + 1) L (.int x :: st)) : vv p l e R s m args below meth c cells slots Q nL Y M U o pc L (st) := fun H locs ls hP hS hl => lv_iload_n fx.1 fx.2.1 hd hi (lv_at hl j hj) (kk H locs ls hP hS hl)
theorem vv_iload (fx : vv_fix p s m args meth c cc nL ret own Y) {i : Nat} {x : Int32} (hd : decode cc pc = .ok (.iload i, 2)) (j : Nat) (hj : L[j]? = some (i, .int x)) (kk : vv p l e R s m args below meth c cells slots Q nL Y M U o (pc + 2) L (.int x :: st)) : vv p l e R s m args below meth c cells slots Q nL Y M U o pc L (st) := fun H locs ls hP hS hl => lv_iload fx.1 fx.2.1 hd (lv_at hl j hj) (kk H locs ls hP hS hl)
theorem vv_istore_n (fx : vv_fix p s m args meth c cc nL ret own Y) {k : Fin 4} {i : Nat} {x : Int32} (hd : decode cc pc = .ok (.istore_n k, 1)) (hi : (k : Nat) = i) (hn : i < nL) (ks : List Nat) (hL : lv_pick ((i, Value.int x) :: L.filter (fun q => !(q.1 == i) && !(q.1 + 1 == i && q.2.category == 2))) ks = L') (kk : vv p l e R s m args below meth c cells slots Q nL Y M U o (pc + 1) L' (st)) : vv p l e R s m args below meth c cells slots Q nL Y M U o pc L (.int x :: st) := fun H locs ls hP hS hl => lv_istore_n fx.1 fx.2.1 hd hi hl hn rfl (fun ls2 hl2 => kk H locs ls2 hP hS (lv_sub hl2 ks hL))
theorem vv_istore (fx : vv_fix p s m args meth c cc nL ret own Y) {i : Nat} {x : Int32} (hd : decode cc pc = .ok (.istore i, 2)) (hn : i < nL) (ks : List Nat) (hL : lv_pick ((i, Value.int x) :: L.filter (fun q => !(q.1 == i) && !(q.1 + 1 == i && q.2.category == 2))) ks = L') (kk : vv p l e R s m args below meth c cells slots Q nL Y M U o (pc + 2) L' (st)) : vv p l e R s m args below meth c cells slots Q nL Y M U o pc L (.int x :: st) := fun H locs ls hP hS hl => lv_istore fx.1 fx.2.1 hd hl hn rfl (fun ls2 hl2 => kk H locs ls2 hP hS (lv_sub hl2 ks hL))
theorem vv_aload_n (fx : vv_fix p s m args meth c cc nL ret own Y) {k : Fin 4} {i : Nat} {x : Nat} (hd : decode cc pc = .ok (.aload_n k, 1)) (hi : (k : Nat) = i) (j : Nat) (hj : L[j]? = some (i, .ref x)) (kk : vv p l e R s m args below meth c cells slots Q nL Y M U o (pc + 1) L (.ref x :: st)) : vv p l e R s m args below meth c cells slots Q nL Y M U o pc L (st) := fun H locs ls hP hS hl => lv_aload_n fx.1 fx.2.1 hd hi (lv_at hl j hj) (kk H locs ls hP hS hl)
theorem vv_aload (fx : vv_fix p s m args meth c cc nL ret own Y) {i : Nat} {x : Nat} (hd : decode cc pc = .ok (.aload i, 2)) (j : Nat) (hj : L[j]? = some (i, .ref x)) (kk : vv p l e R s m args below meth c cells slots Q nL Y M U o (pc + 2) L (.ref x :: st)) : vv p l e R s m args below meth c cells slots Q nL Y M U o pc L (st) := fun H locs ls hP hS hl => lv_aload fx.1 fx.2.1 hd (lv_at hl j hj) (kk H locs ls hP hS hl)
theorem vv_astore_n (fx : vv_fix p s m args meth c cc nL ret own Y) {k : Fin 4} {i : Nat} {x : Nat} (hd : decode cc pc = .ok (.astore_n k, 1)) (hi : (k : Nat) = i) (hn : i < nL) (ks : List Nat) (hL : lv_pick ((i, Value.ref x) :: L.filter (fun q => !(q.1 == i) && !(q.1 + 1 == i && q.2.category == 2))) ks = L') (kk : vv p l e R s m args below meth c cells slots Q nL Y M U o (pc + 1) L' (st)) : vv p l e R s m args below meth c cells slots Q nL Y M U o pc L (.ref x :: st) := fun H locs ls hP hS hl => lv_astore_n fx.1 fx.2.1 hd hi hl hn rfl (fun ls2 hl2 => kk H locs ls2 hP hS (lv_sub hl2 ks hL))
theorem vv_astore (fx : vv_fix p s m args meth c cc nL ret own Y) {i : Nat} {x : Nat} (hd : decode cc pc = .ok (.astore i, 2)) (hn : i < nL) (ks : List Nat) (hL : lv_pick ((i, Value.ref x) :: L.filter (fun q => !(q.1 == i) && !(q.1 + 1 == i && q.2.category == 2))) ks = L') (kk : vv p l e R s m args below meth c cells slots Q nL Y M U o (pc + 2) L' (st)) : vv p l e R s m args below meth c cells slots Q nL Y M U o pc L (.ref x :: st) := fun H locs ls hP hS hl => lv_astore fx.1 fx.2.1 hd hl hn rfl (fun ls2 hl2 => kk H locs ls2 hP hS (lv_sub hl2 ks hL))
theorem vv_iinc (fx : vv_fix p s m args meth c cc nL ret own Y) {i : Nat} {n : Int} {x v : Int32} (hd : decode cc pc = .ok (.iinc i n, 3)) (j : Nat) (hj : L[j]? = some (i, .int x)) (hv : x + Int32.ofInt n = v) (hn : i < nL) (ks : List Nat) (hL : lv_pick ((i, Value.int v) :: L.filter (fun q => !(q.1 == i) && !(q.1 + 1 == i && q.2.category == 2))) ks = L') (kk : vv p l e R s m args below meth c cells slots Q nL Y M U o (pc + 3) L' (st)) : vv p l e R s m args below meth c cells slots Q nL Y M U o pc L (st) := fun H locs ls hP hS hl => lv_iinc fx.1 fx.2.1 hd hl hj hv hn rfl (fun ls2 hl2 => kk H locs ls2 hP hS (lv_sub hl2 ks hL))
theorem vv_iadd (fx : vv_fix p s m args meth c cc nL ret own Y) {x y : Int32} (hd : decode cc pc = .ok (.iadd, 1)) (kk : vv p l e R s m args below meth c cells slots Q nL Y M U o (pc + 1) L (.int (x + y) :: st)) : vv p l e R s m args below meth c cells slots Q nL Y M U o pc L (.int y :: .int x :: st) := fun H locs ls hP hS hl => lv_iadd fx.1 fx.2.1 hd (kk H locs ls hP hS hl)
theorem vv_isub (fx : vv_fix p s m args meth c cc nL ret own Y) {x y : Int32} (hd : decode cc pc = .ok (.isub, 1)) (kk : vv p l e R s m args below meth c cells slots Q nL Y M U o (pc + 1) L (.int (x - y) :: st)) : vv p l e R s m args below meth c cells slots Q nL Y M U o pc L (.int y :: .int x :: st) := fun H locs ls hP hS hl => lv_isub fx.1 fx.2.1 hd (kk H locs ls hP hS hl)
theorem vv_imul (fx : vv_fix p s m args meth c cc nL ret own Y) {x y : Int32} (hd : decode cc pc = .ok (.imul, 1)) (kk : vv p l e R s m args below meth c cells slots Q nL Y M U o (pc + 1) L (.int (x * y) :: st)) : vv p l e R s m args below meth c cells slots Q nL Y M U o pc L (.int y :: .int x :: st) := fun H locs ls hP hS hl => lv_imul fx.1 fx.2.1 hd (kk H locs ls hP hS hl)
theorem vv_iand (fx : vv_fix p s m args meth c cc nL ret own Y) {x y : Int32} (hd : decode cc pc = .ok (.iand, 1)) (kk : vv p l e R s m args below meth c cells slots Q nL Y M U o (pc + 1) L (.int (x &&& y) :: st)) : vv p l e R s m args below meth c cells slots Q nL Y M U o pc L (.int y :: .int x :: st) := fun H locs ls hP hS hl => lv_iand fx.1 fx.2.1 hd (kk H locs ls hP hS hl)
theorem vv_ior (fx : vv_fix p s m args meth c cc nL ret own Y) {x y : Int32} (hd : decode cc pc = .ok (.ior, 1)) (kk : vv p l e R s m args below meth c cells slots Q nL Y M U o (pc + 1) L (.int (x ||| y) :: st)) : vv p l e R s m args below meth c cells slots Q nL Y M U o pc L (.int y :: .int x :: st) := fun H locs ls hP hS hl => lv_ior fx.1 fx.2.1 hd (kk H locs ls hP hS hl)
theorem vv_ixor (fx : vv_fix p s m args meth c cc nL ret own Y) {x y : Int32} (hd : decode cc pc = .ok (.ixor, 1)) (kk : vv p l e R s m args below meth c cells slots Q nL Y M U o (pc + 1) L (.int (x ^^^ y) :: st)) : vv p l e R s m args below meth c cells slots Q nL Y M U o pc L (.int y :: .int x :: st) := fun H locs ls hP hS hl => lv_ixor fx.1 fx.2.1 hd (kk H locs ls hP hS hl)
theorem vv_ishl (fx : vv_fix p s m args meth c cc nL ret own Y) {x y : Int32} (hd : decode cc pc = .ok (.ishl, 1)) (kk : vv p l e R s m args below meth c cells slots Q nL Y M U o (pc + 1) L (.int (x <<< (y &&& 31)) :: st)) : vv p l e R s m args below meth c cells slots Q nL Y M U o pc L (.int y :: .int x :: st) := fun H locs ls hP hS hl => lv_ishl fx.1 fx.2.1 hd (kk H locs ls hP hS hl)
theorem vv_ishr (fx : vv_fix p s m args meth c cc nL ret own Y) {x y : Int32} (hd : decode cc pc = .ok (.ishr, 1)) (kk : vv p l e R s m args below meth c cells slots Q nL Y M U o (pc + 1) L (.int (x >>> (y &&& 31)) :: st)) : vv p l e R s m args below meth c cells slots Q nL Y M U o pc L (.int y :: .int x :: st) := fun H locs ls hP hS hl => lv_ishr fx.1 fx.2.1 hd (kk H locs ls hP hS hl)
theorem vv_idiv (fx : vv_fix p s m args meth c cc nL ret own Y) {x y : Int32} (hd : decode cc pc = .ok (.idiv, 1)) (hne : ¬ y = 0) (kk : vv p l e R s m args below meth c cells slots Q nL Y M U o (pc + 1) L (.int (x / y) :: st)) : vv p l e R s m args below meth c cells slots Q nL Y M U o pc L (.int y :: .int x :: st) := fun H locs ls hP hS hl => lv_idiv fx.1 fx.2.1 hd hne (kk H locs ls hP hS hl)
theorem vv_irem (fx : vv_fix p s m args meth c cc nL ret own Y) {x y : Int32} (hd : decode cc pc = .ok (.irem, 1)) (hne : ¬ y = 0) (kk : vv p l e R s m args below meth c cells slots Q nL Y M U o (pc + 1) L (.int (x - x / y * y) :: st)) : vv p l e R s m args below meth c cells slots Q nL Y M U o pc L (.int y :: .int x :: st) := fun H locs ls hP hS hl => lv_irem fx.1 fx.2.1 hd hne (kk H locs ls hP hS hl)
theorem vv_dup (fx : vv_fix p s m args meth c cc nL ret own Y) {va : Value} (hd : decode cc pc = .ok (.dup, 1)) (hva : va.category = 1) (kk : vv p l e R s m args below meth c cells slots Q nL Y M U o (pc + 1) L (va :: va :: st)) : vv p l e R s m args below meth c cells slots Q nL Y M U o pc L (va :: st) := fun H locs ls hP hS hl => lv_dup fx.1 fx.2.1 hd hva (kk H locs ls hP hS hl)
theorem vv_pop (fx : vv_fix p s m args meth c cc nL ret own Y) {va : Value} (hd : decode cc pc = .ok (.pop, 1)) (hva : va.category = 1) (kk : vv p l e R s m args below meth c cells slots Q nL Y M U o (pc + 1) L (st)) : vv p l e R s m args below meth c cells slots Q nL Y M U o pc L (va :: st) := fun H locs ls hP hS hl => lv_pop fx.1 fx.2.1 hd hva (kk H locs ls hP hS hl)
theorem vv_dup2 (fx : vv_fix p s m args meth c cc nL ret own Y) {va vb : Value} (hd : decode cc pc = .ok (.dup2, 1)) (hva : va.category = 1) (hvb : vb.category = 1) (kk : vv p l e R s m args below meth c cells slots Q nL Y M U o (pc + 1) L (va :: vb :: va :: vb :: st)) : vv p l e R s m args below meth c cells slots Q nL Y M U o pc L (va :: vb :: st) := fun H locs ls hP hS hl => lv_dup2_11 fx.1 fx.2.1 hd hva hvb (kk H locs ls hP hS hl)
theorem vv_if_eq (fx : vv_fix p s m args meth c cc nL ret own Y) {x : Int32} {off : Int} {tgt : Nat} (hd : decode cc pc = .ok (.ifCond .eq off, 3)) (ht : (pc : Int) + off = (tgt : Int)) (kt : x = 0 → vv p l e R s m args below meth c cells slots Q nL Y M U o tgt L st) (kf : ¬ x = 0 → vv p l e R s m args below meth c cells slots Q nL Y M U o (pc + 3) L st) : vv p l e R s m args below meth c cells slots Q nL Y M U o pc L (.int x :: st) := fun H locs ls hP hS hl => lv_if_eq fx.1 fx.2.1 hd ht (fun h => kt h H locs ls hP hS hl) (fun h => kf h H locs ls hP hS hl)
theorem vv_if_ne (fx : vv_fix p s m args meth c cc nL ret own Y) {x : Int32} {off : Int} {tgt : Nat} (hd : decode cc pc = .ok (.ifCond .ne off, 3)) (ht : (pc : Int) + off = (tgt : Int)) (kt : ¬ x = 0 → vv p l e R s m args below meth c cells slots Q nL Y M U o tgt L st) (kf : x = 0 → vv p l e R s m args below meth c cells slots Q nL Y M U o (pc + 3) L st) : vv p l e R s m args below meth c cells slots Q nL Y M U o pc L (.int x :: st) := fun H locs ls hP hS hl => lv_if_ne fx.1 fx.2.1 hd ht (fun h => kt h H locs ls hP hS hl) (fun h => kf h H locs ls hP hS hl)
theorem vv_if_lt (fx : vv_fix p s m args meth c cc nL ret own Y) {x : Int32} {off : Int} {tgt : Nat} (hd : decode cc pc = .ok (.ifCond .lt off, 3)) (ht : (pc : Int) + off = (tgt : Int)) (kt : x < 0 → vv p l e R s m args below meth c cells slots Q nL Y M U o tgt L st) (kf : ¬ x < 0 → vv p l e R s m args below meth c cells slots Q nL Y M U o (pc + 3) L st) : vv p l e R s m args below meth c cells slots Q nL Y M U o pc L (.int x :: st) := fun H locs ls hP hS hl => lv_if_lt fx.1 fx.2.1 hd ht (fun h => kt h H locs ls hP hS hl) (fun h => kf h H locs ls hP hS hl)
theorem vv_if_ge (fx : vv_fix p s m args meth c cc nL ret own Y) {x : Int32} {off : Int} {tgt : Nat} (hd : decode cc pc = .ok (.ifCond .ge off, 3)) (ht : (pc : Int) + off = (tgt : Int)) (kt : 0 ≤ x → vv p l e R s m args below meth c cells slots Q nL Y M U o tgt L st) (kf : ¬ 0 ≤ x → vv p l e R s m args below meth c cells slots Q nL Y M U o (pc + 3) L st) : vv p l e R s m args below meth c cells slots Q nL Y M U o pc L (.int x :: st) := fun H locs ls hP hS hl => lv_if_ge fx.1 fx.2.1 hd ht (fun h => kt h H locs ls hP hS hl) (fun h => kf h H locs ls hP hS hl)
theorem vv_if_gt (fx : vv_fix p s m args meth c cc nL ret own Y) {x : Int32} {off : Int} {tgt : Nat} (hd : decode cc pc = .ok (.ifCond .gt off, 3)) (ht : (pc : Int) + off = (tgt : Int)) (kt : 0 < x → vv p l e R s m args below meth c cells slots Q nL Y M U o tgt L st) (kf : ¬ 0 < x → vv p l e R s m args below meth c cells slots Q nL Y M U o (pc + 3) L st) : vv p l e R s m args below meth c cells slots Q nL Y M U o pc L (.int x :: st) := fun H locs ls hP hS hl => lv_if_gt fx.1 fx.2.1 hd ht (fun h => kt h H locs ls hP hS hl) (fun h => kf h H locs ls hP hS hl)
theorem vv_if_le (fx : vv_fix p s m args meth c cc nL ret own Y) {x : Int32} {off : Int} {tgt : Nat} (hd : decode cc pc = .ok (.ifCond .le off, 3)) (ht : (pc : Int) + off = (tgt : Int)) (kt : x ≤ 0 → vv p l e R s m args below meth c cells slots Q nL Y M U o tgt L st) (kf : ¬ x ≤ 0 → vv p l e R s m args below meth c cells slots Q nL Y M U o (pc + 3) L st) : vv p l e R s m args below meth c cells slots Q nL Y M U o pc L (.int x :: st) := fun H locs ls hP hS hl => lv_if_le fx.1 fx.2.1 hd ht (fun h => kt h H locs ls hP hS hl) (fun h => kf h H locs ls hP hS hl)
theorem vv_icmp_eq (fx : vv_fix p s m args meth c cc nL ret own Y) {x y : Int32} {off : Int} {tgt : Nat} (hd : decode cc pc = .ok (.if_icmp .eq off, 3)) (ht : (pc : Int) + off = (tgt : Int)) (kt : x = y → vv p l e R s m args below meth c cells slots Q nL Y M U o tgt L st) (kf : ¬ x = y → vv p l e R s m args below meth c cells slots Q nL Y M U o (pc + 3) L st) : vv p l e R s m args below meth c cells slots Q nL Y M U o pc L (.int y :: .int x :: st) := fun H locs ls hP hS hl => lv_icmp_eq fx.1 fx.2.1 hd ht (fun h => kt h H locs ls hP hS hl) (fun h => kf h H locs ls hP hS hl)
theorem vv_icmp_ne (fx : vv_fix p s m args meth c cc nL ret own Y) {x y : Int32} {off : Int} {tgt : Nat} (hd : decode cc pc = .ok (.if_icmp .ne off, 3)) (ht : (pc : Int) + off = (tgt : Int)) (kt : ¬ x = y → vv p l e R s m args below meth c cells slots Q nL Y M U o tgt L st) (kf : x = y → vv p l e R s m args below meth c cells slots Q nL Y M U o (pc + 3) L st) : vv p l e R s m args below meth c cells slots Q nL Y M U o pc L (.int y :: .int x :: st) := fun H locs ls hP hS hl => lv_icmp_ne fx.1 fx.2.1 hd ht (fun h => kt h H locs ls hP hS hl) (fun h => kf h H locs ls hP hS hl)
theorem vv_icmp_lt (fx : vv_fix p s m args meth c cc nL ret own Y) {x y : Int32} {off : Int} {tgt : Nat} (hd : decode cc pc = .ok (.if_icmp .lt off, 3)) (ht : (pc : Int) + off = (tgt : Int)) (kt : x < y → vv p l e R s m args below meth c cells slots Q nL Y M U o tgt L st) (kf : ¬ x < y → vv p l e R s m args below meth c cells slots Q nL Y M U o (pc + 3) L st) : vv p l e R s m args below meth c cells slots Q nL Y M U o pc L (.int y :: .int x :: st) := fun H locs ls hP hS hl => lv_icmp_lt fx.1 fx.2.1 hd ht (fun h => kt h H locs ls hP hS hl) (fun h => kf h H locs ls hP hS hl)
theorem vv_icmp_ge (fx : vv_fix p s m args meth c cc nL ret own Y) {x y : Int32} {off : Int} {tgt : Nat} (hd : decode cc pc = .ok (.if_icmp .ge off, 3)) (ht : (pc : Int) + off = (tgt : Int)) (kt : y ≤ x → vv p l e R s m args below meth c cells slots Q nL Y M U o tgt L st) (kf : ¬ y ≤ x → vv p l e R s m args below meth c cells slots Q nL Y M U o (pc + 3) L st) : vv p l e R s m args below meth c cells slots Q nL Y M U o pc L (.int y :: .int x :: st) := fun H locs ls hP hS hl => lv_icmp_ge fx.1 fx.2.1 hd ht (fun h => kt h H locs ls hP hS hl) (fun h => kf h H locs ls hP hS hl)
theorem vv_icmp_gt (fx : vv_fix p s m args meth c cc nL ret own Y) {x y : Int32} {off : Int} {tgt : Nat} (hd : decode cc pc = .ok (.if_icmp .gt off, 3)) (ht : (pc : Int) + off = (tgt : Int)) (kt : y < x → vv p l e R s m args below meth c cells slots Q nL Y M U o tgt L st) (kf : ¬ y < x → vv p l e R s m args below meth c cells slots Q nL Y M U o (pc + 3) L st) : vv p l e R s m args below meth c cells slots Q nL Y M U o pc L (.int y :: .int x :: st) := fun H locs ls hP hS hl => lv_icmp_gt fx.1 fx.2.1 hd ht (fun h => kt h H locs ls hP hS hl) (fun h => kf h H locs ls hP hS hl)
theorem vv_icmp_le (fx : vv_fix p s m args meth c cc nL ret own Y) {x y : Int32} {off : Int} {tgt : Nat} (hd : decode cc pc = .ok (.if_icmp .le off, 3)) (ht : (pc : Int) + off = (tgt : Int)) (kt : x ≤ y → vv p l e R s m args below meth c cells slots Q nL Y M U o tgt L st) (kf : ¬ x ≤ y → vv p l e R s m args below meth c cells slots Q nL Y M U o (pc + 3) L st) : vv p l e R s m args below meth c cells slots Q nL Y M U o pc L (.int y :: .int x :: st) := fun H locs ls hP hS hl => lv_icmp_le fx.1 fx.2.1 hd ht (fun h => kt h H locs ls hP hS hl) (fun h => kf h H locs ls hP hS hl)
theorem vv_goto (fx : vv_fix p s m args meth c cc nL ret own Y) {off : Int} {tgt : Nat} (hd : decode cc pc = .ok (.goto off, 3)) (ht : (pc : Int) + off = (tgt : Int)) (kk : vv p l e R s m args below meth c cells slots Q nL Y M U o tgt L st) : vv p l e R s m args below meth c cells slots Q nL Y M U o pc L st := fun H locs ls hP hS hl => lv_goto fx.1 fx.2.1 hd ht (kk H locs ls hP hS hl)
theorem vv_top {x y : Int32} (e9 : x = y) (kk : vv p l e R s m args below meth c cells slots Q nL Y M U o pc L (.int y :: st)) : vv p l e R s m args below meth c cells slots Q nL Y M U o pc L (.int x :: st) := e9 ▸ kk
theorem vv_mem {M9 U9 : me_M} (e1 : M = M9) (e2 : U = U9) (kk : vv p l e R s m args below meth c cells slots Q nL Y M9 U9 o pc L st) : vv p l e R s m args below meth c cells slots Q nL Y M U o pc L st := by rw [e1, e2]; exact kk
theorem vv_loc (ks : List Nat) (hL : lv_pick L ks = L') (kk : vv p l e R s m args below meth c cells slots Q nL Y M U o pc L' st) : vv p l e R s m args below meth c cells slots Q nL Y M U o pc L st := fun H locs ls hP hS hl => kk H locs ls hP hS (lv_sub hl ks hL)
theorem vv_get (fx : vv_fix p s m args meth c cc nL ret own Y) {C : String} {T : u_T} {N ci index : Nat} (hin : ∀ w ∈ u_ws C T N, w ∈ wl) (q0 : Nat) {a : Nat} {fs : List Value} (he : (sy_w Y M U o)[q0]? = some (a, .inr (ci, fs))) (hc : sy_cl[ci]? = some (C, T, N)) (k : Nat) (hk : k < N) (hlink : Cond.fieldLink own index (T k).1 (T k).2.1 (T k).2.2.1 ∈ wl) {v : Value} (hv : fs[k]? = some v) (hd : decode cc pc = .ok (.getfield index, 3))
    (kk : vv p l e R s m args below meth c cells slots Q nL Y M U o (pc + 3) L (v :: st)) : vv p l e R s m args below meth c cells slots Q nL Y M U o pc L (.ref a :: st) := fun H locs ls hP hS hl =>
  va_get (D := Y.1) (cl := sy_cl) (tys := sy_tys Y) fx.1 fx.2.1 fx.2.2.2.2.1 hin fx.2.2.2.1 fx.2.2.2.2.2.1.1 hP q0 he hc k hk (fx.2.2.2.2.1 _ hlink) (fun _ h => h) hv hd (kk H locs ls hP hS hl)
theorem vv_put (fx : vv_fix p s m args meth c cc nL ret own Y) {C : String} {T : u_T} {N ci index : Nat} (hin : ∀ w ∈ u_ws C T N, w ∈ wl) (ty0 : Nat → FieldType) (hty : ∀ k, k < N → parseFieldDescriptor (T k).2.2.1 = some (ty0 k)) (hnm : ∀ a, a < N → ∀ b, b < N → a ≠ b → (T a).2.1 ≠ (T b).2.1) (q0 : Nat) {a : Nat} {fs : List Value} (he : (sy_w Y M U o)[q0]? = some (a, .inr (ci, fs))) (hc : sy_cl[ci]? = some (C, T, N)) (k : Nat) (hk : k < N) (hlink : Cond.fieldLink own index (T k).1 (T k).2.1 (T k).2.2.1 ∈ wl) (hfin : (T k).2.2.2 = false) {ty : FieldType} {v : Value} (hdd : parseFieldDescriptor (T k).2.2.1 = some ty) (hn : narrow ty v = v) (hfit : fits ty v = true) (hl0 : k < fs.length) (hd : decode cc pc = .ok (.putfield index, 3))
    (hw : (sy_w Y M U o).set q0 (a, .inr (ci, fs.set k v)) = sy_w Y M' U' o) (kk : vv p l e R s m args below meth c cells slots Q nL Y M' U' o (pc + 3) L st) : vv p l e R s m args below meth c cells slots Q nL Y M U o pc L (v :: .ref a :: st) := fun H locs ls hP hS hl =>
  va_put (D := Y.1) (cl := sy_cl) (tys := sy_tys Y) fx.1 fx.2.1 fx.2.2.2.2.1 hin ty0 hty hnm fx.2.2.2.1 fx.2.2.2.2.2.1.1 hP (fx.2.2.2.2.2.1.2.2.1 M U o) hS q0 he hc k hk (fx.2.2.2.2.1 _ hlink) (fun _ h => h) hfin hdd hn hfit hl0 hd (fun H1 locs1 hP1 _ hS1 => kk H1 locs1 ls (by rw [← hw]; exact hP1) hS1 hl)
theorem vv_iald (fx : vv_fix p s m args meth c cc nL ret own Y) (q0 t0 : Nat) {a n : Nat} {cA : ClassId} {f : Nat → Int32} (ha : (sy_w Y M U o)[q0]? = some (a, .inl (cA, n, .inl f))) (ht : (sy_tys Y)[t0]? = some (cA, .int)) {j : Nat} (hj : j < n) (hn : n < 2 ^ 31) (hd : decode cc pc = .ok (.iaload, 1))
    (kk : vv p l e R s m args below meth c cells slots Q nL Y M U o (pc + 1) L (.int (f j) :: st)) : vv p l e R s m args below meth c cells slots Q nL Y M U o pc L (.int (nI j) :: .ref a :: st) := fun H locs ls hP hS hl => by
  refine va_iald (D := Y.1) (cl := sy_cl) fx.1 fx.2.1 fx.2.2.2.2.2.1.1 hP q0 t0 ha ht (vp_in_nI hj hn) hd ?_
  rw [nI_clamp (by omega)]
  exact kk H locs ls hP hS hl
theorem vv_zald (fx : vv_fix p s m args meth c cc nL ret own Y) (q0 t0 : Nat) {a n : Nat} {cA : ClassId} {f : Nat → Int32} (ha : (sy_w Y M U o)[q0]? = some (a, .inl (cA, n, .inl f))) (ht : (sy_tys Y)[t0]? = some (cA, .boolean)) {j : Nat} (hj : j < n) (hn : n < 2 ^ 31) (hd : decode cc pc = .ok (.baload, 1))
    (kk : vv p l e R s m args below meth c cells slots Q nL Y M U o (pc + 1) L (.int (f j) :: st)) : vv p l e R s m args below meth c cells slots Q nL Y M U o pc L (.int (nI j) :: .ref a :: st) := fun H locs ls hP hS hl => by
  refine va_zald (D := Y.1) (cl := sy_cl) fx.1 fx.2.1 fx.2.2.2.2.2.1.1 hP q0 t0 ha ht (vp_in_nI hj hn) hd ?_
  rw [nI_clamp (by omega)]
  exact kk H locs ls hP hS hl
theorem vv_lald (fx : vv_fix p s m args meth c cc nL ret own Y) (q0 t0 : Nat) {a n : Nat} {cA : ClassId} {f : Nat → Int64} (ha : (sy_w Y M U o)[q0]? = some (a, .inl (cA, n, .inr (.inl f)))) (ht : (sy_tys Y)[t0]? = some (cA, .long)) {j : Nat} (hj : j < n) (hn : n < 2 ^ 31) (hd : decode cc pc = .ok (.laload, 1))
    (kk : vv p l e R s m args below meth c cells slots Q nL Y M U o (pc + 1) L (.long (f j) :: st)) : vv p l e R s m args below meth c cells slots Q nL Y M U o pc L (.int (nI j) :: .ref a :: st) := fun H locs ls hP hS hl => by
  refine va_lald (D := Y.1) (cl := sy_cl) fx.1 fx.2.1 fx.2.2.2.2.2.1.1 hP q0 t0 ha ht (vp_in_nI hj hn) hd ?_
  rw [nI_clamp (by omega)]
  exact kk H locs ls hP hS hl
theorem sy_aald {H : Heap} {locs : List Loc} {ls : Array Slot} {D : va_G} {cl : List vw_C} {tys : List (ClassId × FieldType)} {ws : va_W} {a : Nat} (hexec : p.tables.exec = Jvm.exec) (hb : c.code = cc) (hK : va_K D cl tys s) (hP : va_P D cl ws H) (q0 t0 : Nat) {cA : ClassId} {t : FieldType} {n : Nat} {f : Nat → Option Nat} (ha : ws[q0]? = some (a, .inl (cA, n, .inr (.inr (.inr (.inr f)))))) (ht : tys[t0]? = some (cA, .array t)) {i : Int32} (hin : vp_in i n) (hdg : decode cc pc = .ok (.aaload, 1))
    (kk : W p l e R s m args below meth c H locs cells slots Q (F0 m (pc + 1) ls (va_rf (f i.toNatClampNeg) :: st))) : W p l e R s m args below meth c H locs cells slots Q (F0 m pc ls (.int i :: .ref a :: st)) := by
  have hlt : i.toNatClampNeg < n := Nat.not_le.mp fun q => hin (Or.inr q)
  exact W.aald (v := va_rf (f i.toNatClampNeg)) (ty := .array t) hexec hb (hP q0 _ ha) ((hK.2 t0 _ ht).1 n (fun j => va_rf (f j))) rfl (fun q => by cases q) (by show ¬ (i < 0 ∨ (arrV _ _ _).slots.size ≤ _); rw [arrV_size]; exact hin) (by show (arrV _ _ _).slots[_]? = _; rw [arrV_read _ _ hlt]) rfl rfl hdg kk
theorem vv_aald (fx : vv_fix p s m args meth c cc nL ret own Y) {j : Nat} (hj : j < 61) (hd : decode cc pc = .ok (.aaload, 1)) (kk : vv p l e R s m args below meth c cells slots Q nL Y M U o (pc + 1) L (.ref (Y.2.1 (20 + j)) :: st)) : vv p l e R s m args below meth c cells slots Q nL Y M U o pc L (.int (nI j) :: .ref (Y.2.1 4) :: st) := fun H locs ls hP hS hl => by
  refine sy_aald (D := Y.1) (cl := sy_cl) (tys := sy_tys Y) (f := fun i => some (Y.2.1 (20 + i))) (n := 61) (cA := Y.2.2.1 3) (t := .int) fx.1 fx.2.1 fx.2.2.2.2.2.1.1 hP 4 3 rfl rfl (vp_in_nI hj (by decide)) hd ?_
  rw [nI_clamp (by omega)]
  exact kk H locs ls hP hS hl
theorem vv_iast (fx : vv_fix p s m args meth c cc nL ret own Y) (q0 t0 : Nat) {a n : Nat} {cA : ClassId} {f : Nat → Int32} (ha : (sy_w Y M U o)[q0]? = some (a, .inl (cA, n, .inl f))) (ht : (sy_tys Y)[t0]? = some (cA, .int)) {j : Nat} {x : Int32} (hj : j < n) (hn : n < 2 ^ 31) (hd : decode cc pc = .ok (.iastore, 1)) (hw : (sy_w Y M U o).set q0 (a, .inl (cA, n, .inl (upd f j x))) = sy_w Y M' U' o)
    (kk : vv p l e R s m args below meth c cells slots Q nL Y M' U' o (pc + 1) L st) : vv p l e R s m args below meth c cells slots Q nL Y M U o pc L (.int x :: .int (nI j) :: .ref a :: st) := fun H locs ls hP hS hl => by
  refine va_iast (D := Y.1) (cl := sy_cl) fx.1 fx.2.1 fx.2.2.2.2.2.1.1 hP (fx.2.2.2.2.2.1.2.2.1 M U o) hS q0 t0 ha ht (vp_in_nI hj hn) hd (fun H1 locs1 hP1 _ hS1 => ?_)
  rw [nI_clamp (by omega), hw] at hP1
  exact kk H1 locs1 ls hP1 hS1 hl
theorem vv_nar01 {x : Int32} (h : x = 0 ∨ x = 1) : vp_nar .boolean x = x := by rcases h with rfl | rfl <;> rfl
theorem vv_zast (fx : vv_fix p s m args meth c cc nL ret own Y) (q0 t0 : Nat) {a n : Nat} {cA : ClassId} {f : Nat → Int32} (ha : (sy_w Y M U o)[q0]? = some (a, .inl (cA, n, .inl f))) (ht : (sy_tys Y)[t0]? = some (cA, .boolean)) {j : Nat} {x : Int32} (hj : j < n) (hn : n < 2 ^ 31) (h01 : x = 0 ∨ x = 1) (hd : decode cc pc = .ok (.bastore, 1)) (hw : (sy_w Y M U o).set q0 (a, .inl (cA, n, .inl (upd f j x))) = sy_w Y M' U' o)
    (kk : vv p l e R s m args below meth c cells slots Q nL Y M' U' o (pc + 1) L st) : vv p l e R s m args below meth c cells slots Q nL Y M U o pc L (.int x :: .int (nI j) :: .ref a :: st) := fun H locs ls hP hS hl => by
  refine va_zast (D := Y.1) (cl := sy_cl) fx.1 fx.2.1 fx.2.2.2.2.2.1.1 hP (fx.2.2.2.2.2.1.2.2.1 M U o) hS q0 t0 ha ht (vp_in_nI hj hn) hd (fun H1 locs1 hP1 _ hS1 => ?_)
  rw [nI_clamp (by omega), vv_nar01 h01, hw] at hP1
  exact kk H1 locs1 ls hP1 hS1 hl
theorem vv_last (fx : vv_fix p s m args meth c cc nL ret own Y) {x : Int64} (hd : decode cc pc = .ok (.lastore, 1)) (kk : vv p l e R s m args below meth c cells slots Q nL Y M U x (pc + 1) L st) : vv p l e R s m args below meth c cells slots Q nL Y M U o pc L (.long x :: .int 0 :: .ref (Y.2.1 13) :: st) := fun H locs ls hP hS hl => by
  refine va_last (D := Y.1) (cl := sy_cl) (f := fun _ => o) (n := 1) (cA := Y.2.2.1 2) fx.1 fx.2.1 fx.2.2.2.2.2.1.1 hP (fx.2.2.2.2.2.1.2.2.1 M U o) hS 13 2 rfl rfl (by exact vp_in_nI (n := 0) (N := 1) (by decide) (by decide)) hd (fun H1 locs1 hP1 _ hS1 => ?_)
  refine kk H1 locs1 ls ?_ hS1 hl
  · intro k q hk
    by_cases e9 : k = 13
    · subst e9
      have hq : q = (Y.2.1 13, .inl (Y.2.2.1 2, 1, .inr (.inl (fun _ => x)))) := (Option.some.inj hk).symm
      subst hq
      have h1 := hP1 13 (Y.2.1 13, .inl (Y.2.2.1 2, 1, .inr (.inl (vp_updL (fun _ => o) (0 : Int32).toNatClampNeg x)))) rfl
      have h2 : H1[Y.2.1 13]? = some (vp_cell (Y.2.2.1 2) (1, .inr (.inl (vp_updL (fun _ => o) (0 : Int32).toNatClampNeg x)))) := h1
      show H1[Y.2.1 13]? = some (vp_cell (Y.2.2.1 2) (1, .inr (.inl (fun _ => x))))
      rw [h2]
      rfl
    · refine hP1 k q ?_
      rw [List.getElem?_set_ne (fun z => e9 z.symm)]
      rw [← sy_setO (o := o) x, List.getElem?_set_ne (fun z => e9 z.symm)] at hk
      exact hk
theorem vv_alen (fx : vv_fix p s m args meth c cc nL ret own Y) (q0 t0 : Nat) {a : Nat} {cA : ClassId} {x : vp_A} {ty : FieldType} (ha : (sy_w Y M U o)[q0]? = some (a, .inl (cA, x))) (ht : (sy_tys Y)[t0]? = some (cA, ty)) (hd : decode cc pc = .ok (.arraylength, 1)) (kk : vv p l e R s m args below meth c cells slots Q nL Y M U o (pc + 1) L (.int (nI x.1) :: st)) : vv p l e R s m args below meth c cells slots Q nL Y M U o pc L (.ref a :: st) := fun H locs ls hP hS hl =>
  va_alen (D := Y.1) (cl := sy_cl) fx.1 fx.2.1 fx.2.2.2.2.2.1.1 hP q0 t0 ha ht rfl hd (kk H locs ls hP hS hl)
end
end
section
/-! words of wl by their places (printed by words.py): nz_ initialised, nf_ fields, nm_ method links, ni_ about a method, ns_ its kind, nv_ its choice -/
theorem nz_FB : Cond.initialized nr_FB ∈ wl := wl_t1 1 rfl rfl
theorem nz_RM : Cond.initialized nr_RM ∈ wl := wl_t1 2 rfl rfl
theorem nz_MO : Cond.initialized nr_MO ∈ wl := wl_t1 5 rfl rfl
theorem nz_LW : Cond.initialized nr_LW ∈ wl := wl_t1 0 rfl rfl
theorem nm_LW_62 : Cond.methodLink nr_LW 62 ny_FB_init ∈ wl := wl_t1 16 rfl rfl
theorem nm_FB_1 : Cond.methodLink nr_FB 1 ⟨"java/lang/Object", "<init>", "()V"⟩ ∈ wl := wl_t1 19 rfl rfl
theorem nm_RM_3 : Cond.methodLink nr_RM 3 ⟨"java/lang/Object", "<init>", "()V"⟩ ∈ wl := wl_t1 27 rfl rfl
theorem nf_RM_13 : Cond.fieldLink nr_RM 13 (nt_RM 0).1 (nt_RM 0).2.1 (nt_RM 0).2.2.1 ∈ wl := wl_t1 30 rfl rfl
theorem nf_RM_16 : Cond.fieldLink nr_RM 16 (nt_RM 1).1 (nt_RM 1).2.1 (nt_RM 1).2.2.1 ∈ wl := wl_t1 31 rfl rfl
theorem nf_RM_20 : Cond.fieldLink nr_RM 20 (nt_RM 2).1 (nt_RM 2).2.1 (nt_RM 2).2.2.1 ∈ wl := wl_t1 32 rfl rfl
theorem nf_RM_24 : Cond.fieldLink nr_RM 24 (nt_RM 3).1 (nt_RM 3).2.1 (nt_RM 3).2.2.1 ∈ wl := wl_t1 33 rfl rfl
theorem nm_FB_27 : Cond.methodLink nr_FB 27 ⟨"java/util/Arrays", "fill", "([II)V"⟩ ∈ wl := wl_t1 45 rfl rfl
theorem nm_FB_33 : Cond.methodLink nr_FB 33 ⟨"java/lang/System", "arraycopy", "(Ljava/lang/Object;ILjava/lang/Object;II)V"⟩ ∈ wl := wl_t1 48 rfl rfl
theorem nf_FB_10 : Cond.fieldLink nr_FB 10 (nt_FB 0).1 (nt_FB 0).2.1 (nt_FB 0).2.2.1 ∈ wl := wl_t1 51 rfl rfl
theorem nf_FB_16 : Cond.fieldLink nr_FB 16 (nt_FB 1).1 (nt_FB 1).2.1 (nt_FB 1).2.2.1 ∈ wl := wl_t1 52 rfl rfl
theorem nf_FB_20 : Cond.fieldLink nr_FB 20 (nt_FB 2).1 (nt_FB 2).2.1 (nt_FB 2).2.2.1 ∈ wl := wl_t1 53 rfl rfl
theorem nf_FB_136 : Cond.fieldLink nr_FB 136 (nt_FB 3).1 (nt_FB 3).2.1 (nt_FB 3).2.2.1 ∈ wl := wl_t1 54 rfl rfl
theorem nf_FB_133 : Cond.fieldLink nr_FB 133 (nt_FB 4).1 (nt_FB 4).2.1 (nt_FB 4).2.2.1 ∈ wl := wl_t1 55 rfl rfl
theorem nf_FB_23 : Cond.fieldLink nr_FB 23 (nt_FB 5).1 (nt_FB 5).2.1 (nt_FB 5).2.2.1 ∈ wl := wl_t1 56 rfl rfl
theorem nm_LW_116 : Cond.methodLink nr_LW 116 ny_FB_order ∈ wl := wl_t1 70 rfl rfl
theorem nm_LW_121 : Cond.methodLink nr_LW 121 ny_FB_recover ∈ wl := wl_t1 74 rfl rfl
theorem nm_FB_140 : Cond.methodLink nr_FB 140 ny_FB_snapshotsThere ∈ wl := wl_t1 78 rfl rfl
theorem nm_LW_125 : Cond.methodLink nr_LW 125 ny_FB_writes ∈ wl := wl_t1 82 rfl rfl
theorem nm_LW_129 : Cond.methodLink nr_LW 129 ny_FB_down ∈ wl := wl_t1 86 rfl rfl
theorem nm_LW_66 : Cond.methodLink nr_LW 66 ny_LW_put ∈ wl := wl_t1 90 rfl rfl
theorem nm_LW_7 : Cond.methodLink nr_LW 7 ny_FB_put ∈ wl := wl_t1 96 rfl rfl
theorem nm_FB_39 : Cond.methodLink nr_FB 39 ny_FB_requireUp ∈ wl := wl_t1 100 rfl rfl
theorem nm_FB_132 : Cond.methodLink nr_FB 132 ⟨"java/lang/IllegalStateException", "<init>", "(Ljava/lang/String;)V"⟩ ∈ wl := wl_t1 147 rfl rfl
theorem nm_FB_42 : Cond.methodLink nr_FB 42 ny_FB_isKey ∈ wl := wl_t1 173 rfl rfl
theorem nm_FB_50 : Cond.methodLink nr_FB 50 ⟨"java/lang/IllegalArgumentException", "<init>", "(Ljava/lang/String;)V"⟩ ∈ wl := wl_t1 187 rfl rfl
theorem nm_FB_53 : Cond.methodLink nr_FB 53 ny_RM_binds ∈ wl := wl_t1 193 rfl rfl
theorem nm_RM_27 : Cond.methodLink nr_RM 27 ny_RM_nodeAt ∈ wl := wl_t1 197 rfl rfl
theorem nm_RM_35 : Cond.methodLink nr_RM 35 ny_RM_turnOf ∈ wl := wl_t1 201 rfl rfl
theorem nm_RM_31 : Cond.methodLink nr_RM 31 ny_RM_bitOf ∈ wl := wl_t1 204 rfl rfl
theorem nm_FB_57 : Cond.methodLink nr_FB 57 ny_RM_valueOf ∈ wl := wl_t1 207 rfl rfl
theorem nm_FB_61 : Cond.methodLink nr_FB 61 ny_FB_ownCurrentPath ∈ wl := wl_t1 211 rfl rfl
theorem nm_FB_116 : Cond.methodLink nr_FB 116 ny_FB_freeNodes ∈ wl := wl_t1 215 rfl rfl
theorem nm_FB_91 : Cond.methodLink nr_FB 91 ny_RM_unmarkAll ∈ wl := wl_t1 219 rfl rfl
theorem nm_FB_166 : Cond.methodLink nr_FB 166 ny_FB_markMaps ∈ wl := wl_t1 223 rfl rfl
theorem nm_FB_94 : Cond.methodLink nr_FB 94 ny_RM_mark ∈ wl := wl_t1 227 rfl rfl
theorem nm_FB_157 : Cond.methodLink nr_FB 157 ny_RM_nodesToMake ∈ wl := wl_t1 231 rfl rfl
theorem nm_FB_109 : Cond.methodLink nr_FB 109 ⟨"java/lang/UnsupportedOperationException", "<init>", "(Ljava/lang/String;)V"⟩ ∈ wl := wl_t2 5 rfl rfl
theorem nm_FB_163 : Cond.methodLink nr_FB 163 ny_RM_ownPath ∈ wl := wl_t2 11 rfl rfl
theorem nm_RM_42 : Cond.methodLink nr_RM 42 ny_RM_own ∈ wl := wl_t2 15 rfl rfl
theorem nm_RM_50 : Cond.methodLink nr_RM 50 ny_RM_takeUnmarked ∈ wl := wl_t2 19 rfl rfl
theorem nm_RM_54 : Cond.methodLink nr_RM 54 ⟨"java/lang/System", "arraycopy", "(Ljava/lang/Object;ILjava/lang/Object;II)V"⟩ ∈ wl := wl_t2 23 rfl rfl
theorem nm_RM_46 : Cond.methodLink nr_RM 46 ny_RM_open ∈ wl := wl_t2 24 rfl rfl
theorem nm_FB_65 : Cond.methodLink nr_FB 65 ny_RM_bind ∈ wl := wl_t2 28 rfl rfl
theorem nm_LW_75 : Cond.methodLink nr_LW 75 ny_LW_remove ∈ wl := wl_t2 32 rfl rfl
theorem nm_LW_19 : Cond.methodLink nr_LW 19 ny_FB_remove ∈ wl := wl_t2 36 rfl rfl
theorem nm_FB_69 : Cond.methodLink nr_FB 69 ny_FB_requireBound ∈ wl := wl_t2 40 rfl rfl
theorem nm_FB_156 : Cond.methodLink nr_FB 156 ⟨"java/util/NoSuchElementException", "<init>", "(Ljava/lang/String;)V"⟩ ∈ wl := wl_t2 54 rfl rfl
theorem nm_FB_72 : Cond.methodLink nr_FB 72 ny_RM_levelsWithout ∈ wl := wl_t2 60 rfl rfl
theorem nm_RM_38 : Cond.methodLink nr_RM 38 ny_RM_holdsNothingElse ∈ wl := wl_t2 64 rfl rfl
theorem nm_FB_75 : Cond.methodLink nr_FB 75 ny_RM_cut ∈ wl := wl_t2 68 rfl rfl
theorem nm_LW_79 : Cond.methodLink nr_LW 79 ny_LW_get ∈ wl := wl_t2 72 rfl rfl
theorem nm_LW_25 : Cond.methodLink nr_LW 25 ny_FB_get ∈ wl := wl_t2 75 rfl rfl
theorem nm_FB_78 : Cond.methodLink nr_FB 78 ny_FB_requireMap ∈ wl := wl_t2 79 rfl rfl
theorem nm_FB_145 : Cond.methodLink nr_FB 145 ny_FB_isMap ∈ wl := wl_t2 83 rfl rfl
theorem nm_LW_82 : Cond.methodLink nr_LW 82 ny_LW_next ∈ wl := wl_t2 88 rfl rfl
theorem nm_LW_28 : Cond.methodLink nr_LW 28 ny_FB_next ∈ wl := wl_t2 91 rfl rfl
theorem nm_FB_82 : Cond.methodLink nr_FB 82 ⟨"java/lang/Math", "max", "(II)I"⟩ ∈ wl := wl_t2 95 rfl rfl
theorem nm_LW_85 : Cond.methodLink nr_LW 85 ny_LW_count ∈ wl := wl_t2 98 rfl rfl
theorem nm_LW_31 : Cond.methodLink nr_LW 31 ny_FB_count ∈ wl := wl_t2 101 rfl rfl
theorem nm_FB_87 : Cond.methodLink nr_FB 87 ny_FB_keysBound ∈ wl := wl_t2 105 rfl rfl
theorem nm_LW_88 : Cond.methodLink nr_LW 88 ny_LW_nodes ∈ wl := wl_t2 109 rfl rfl
theorem nm_LW_34 : Cond.methodLink nr_LW 34 ny_FB_nodes ∈ wl := wl_t2 112 rfl rfl
theorem nm_LW_91 : Cond.methodLink nr_LW 91 ny_LW_shared ∈ wl := wl_t2 116 rfl rfl
theorem nm_LW_37 : Cond.methodLink nr_LW 37 ny_FB_shared ∈ wl := wl_t2 119 rfl rfl
theorem nm_LW_94 : Cond.methodLink nr_LW 94 ny_LW_differ ∈ wl := wl_t2 123 rfl rfl
theorem nm_LW_40 : Cond.methodLink nr_LW 40 ny_FB_differ ∈ wl := wl_t2 126 rfl rfl
theorem nm_FB_97 : Cond.methodLink nr_FB 97 ny_FB_isBoundAlike ∈ wl := wl_t2 130 rfl rfl
theorem nm_LW_97 : Cond.methodLink nr_LW 97 ny_LW_snapshot ∈ wl := wl_t2 134 rfl rfl
theorem nm_LW_43 : Cond.methodLink nr_LW 43 ny_FB_snapshot ∈ wl := wl_t2 137 rfl rfl
theorem nm_FB_101 : Cond.methodLink nr_FB 101 ny_FB_leastUnusedSnapshot ∈ wl := wl_t2 141 rfl rfl
theorem nm_FB_110 : Cond.methodLink nr_FB 110 ny_RM_freeze ∈ wl := wl_t2 146 rfl rfl
theorem nm_LW_101 : Cond.methodLink nr_LW 101 ny_LW_rollback ∈ wl := wl_t2 150 rfl rfl
theorem nm_LW_47 : Cond.methodLink nr_LW 47 ny_FB_rollback ∈ wl := wl_t2 153 rfl rfl
theorem nm_FB_113 : Cond.methodLink nr_FB 113 ny_FB_requireSnapshot ∈ wl := wl_t2 157 rfl rfl
theorem nm_LW_104 : Cond.methodLink nr_LW 104 ny_LW_drop ∈ wl := wl_t2 162 rfl rfl
theorem nm_LW_50 : Cond.methodLink nr_LW 50 ny_FB_drop ∈ wl := wl_t2 165 rfl rfl
theorem nm_LW_107 : Cond.methodLink nr_LW 107 ny_LW_commit ∈ wl := wl_t2 169 rfl rfl
theorem nm_LW_53 : Cond.methodLink nr_LW 53 ny_FB_commit ∈ wl := wl_t2 172 rfl rfl
theorem nm_FB_119 : Cond.methodLink nr_FB 119 ny_FB_writesNeeded ∈ wl := wl_t2 176 rfl rfl
theorem nm_FB_122 : Cond.methodLink nr_FB 122 ny_FB_failsWithin ∈ wl := wl_t2 180 rfl rfl
theorem nm_FB_125 : Cond.methodLink nr_FB 125 ny_FB_losePower ∈ wl := wl_t2 184 rfl rfl
theorem nm_LW_110 : Cond.methodLink nr_LW 110 ny_LW_free ∈ wl := wl_t2 189 rfl rfl
theorem nm_LW_56 : Cond.methodLink nr_LW 56 ny_FB_free ∈ wl := wl_t2 192 rfl rfl
theorem nm_LW_113 : Cond.methodLink nr_LW 113 ny_LW_due ∈ wl := wl_t2 196 rfl rfl
theorem nm_LW_59 : Cond.methodLink nr_LW 59 ny_FB_due ∈ wl := wl_t2 199 rfl rfl
theorem nm_LW_65 : Cond.methodLink nr_LW 65 ny_MO_init ∈ wl := wl_t2 205 rfl rfl
theorem nm_MO_1 : Cond.methodLink nr_MO 1 ⟨"java/lang/Object", "<init>", "()V"⟩ ∈ wl := wl_t2 208 rfl rfl
theorem nf_MO_27 : Cond.fieldLink nr_MO 27 (nt_MO 0).1 (nt_MO 0).2.1 (nt_MO 0).2.2.1 ∈ wl := wl_t2 209 rfl rfl
theorem nf_MO_7 : Cond.fieldLink nr_MO 7 (nt_MO 1).1 (nt_MO 1).2.1 (nt_MO 1).2.2.1 ∈ wl := wl_t2 210 rfl rfl
theorem nf_MO_13 : Cond.fieldLink nr_MO 13 (nt_MO 2).1 (nt_MO 2).2.1 (nt_MO 2).2.2.1 ∈ wl := wl_t2 211 rfl rfl
theorem nf_MO_16 : Cond.fieldLink nr_MO 16 (nt_MO 3).1 (nt_MO 3).2.1 (nt_MO 3).2.2.1 ∈ wl := wl_t2 212 rfl rfl
theorem nf_MO_20 : Cond.fieldLink nr_MO 20 (nt_MO 4).1 (nt_MO 4).2.1 (nt_MO 4).2.2.1 ∈ wl := wl_t2 213 rfl rfl
theorem nf_MO_63 : Cond.fieldLink nr_MO 63 (nt_MO 5).1 (nt_MO 5).2.1 (nt_MO 5).2.2.1 ∈ wl := wl_t2 214 rfl rfl
theorem nf_MO_52 : Cond.fieldLink nr_MO 52 (nt_MO 6).1 (nt_MO 6).2.1 (nt_MO 6).2.2.1 ∈ wl := wl_t2 215 rfl rfl
theorem nf_MO_94 : Cond.fieldLink nr_MO 94 (nt_MO 7).1 (nt_MO 7).2.1 (nt_MO 7).2.2.1 ∈ wl := wl_t2 216 rfl rfl
theorem nf_MO_23 : Cond.fieldLink nr_MO 23 (nt_MO 8).1 (nt_MO 8).2.1 (nt_MO 8).2.2.1 ∈ wl := wl_t2 217 rfl rfl
theorem nf_MO_66 : Cond.fieldLink nr_MO 66 (nt_MO 9).1 (nt_MO 9).2.1 (nt_MO 9).2.2.1 ∈ wl := wl_t2 218 rfl rfl
theorem nm_LW_72 : Cond.methodLink nr_LW 72 ny_MO_thrown ∈ wl := wl_t3 0 rfl rfl
theorem nm_LW_71 : Cond.methodLink nr_LW 71 ny_MO_put ∈ wl := wl_t3 4 rfl rfl
theorem nm_MO_70 : Cond.methodLink nr_MO 70 ny_MO_isKey ∈ wl := wl_t3 8 rfl rfl
theorem nm_MO_73 : Cond.methodLink nr_MO 73 ny_MO_fits ∈ wl := wl_t3 11 rfl rfl
theorem nm_MO_55 : Cond.methodLink nr_MO 55 ny_MO_makes ∈ wl := wl_t3 15 rfl rfl
theorem nm_MO_46 : Cond.methodLink nr_MO 46 ny_MO_below ∈ wl := wl_t3 19 rfl rfl
theorem nm_MO_42 : Cond.methodLink nr_MO 42 ny_MO_boundIn ∈ wl := wl_t3 23 rfl rfl
theorem nm_MO_49 : Cond.methodLink nr_MO 49 ny_MO_placeOf ∈ wl := wl_t3 27 rfl rfl
theorem nm_MO_59 : Cond.methodLink nr_MO 59 ny_MO_freeNow ∈ wl := wl_t3 30 rfl rfl
theorem nm_MO_38 : Cond.methodLink nr_MO 38 ny_MO_different ∈ wl := wl_t3 34 rfl rfl
theorem nm_MO_34 : Cond.methodLink nr_MO 34 ny_MO_isIn ∈ wl := wl_t3 38 rfl rfl
theorem nm_MO_77 : Cond.methodLink nr_MO 77 ny_MO_change ∈ wl := wl_t3 42 rfl rfl
theorem nm_LW_78 : Cond.methodLink nr_LW 78 ny_MO_remove ∈ wl := wl_t3 46 rfl rfl
theorem nm_LW_81 : Cond.methodLink nr_LW 81 ny_MO_get ∈ wl := wl_t3 50 rfl rfl
theorem nm_MO_30 : Cond.methodLink nr_MO 30 ny_MO_isMap ∈ wl := wl_t3 54 rfl rfl
theorem nm_LW_84 : Cond.methodLink nr_LW 84 ny_MO_next ∈ wl := wl_t3 58 rfl rfl
theorem nm_LW_87 : Cond.methodLink nr_LW 87 ny_MO_count ∈ wl := wl_t3 62 rfl rfl
theorem nm_LW_90 : Cond.methodLink nr_LW 90 ny_MO_nodes ∈ wl := wl_t3 66 rfl rfl
theorem nm_LW_93 : Cond.methodLink nr_LW 93 ny_MO_shared ∈ wl := wl_t3 70 rfl rfl
theorem nm_LW_96 : Cond.methodLink nr_LW 96 ny_MO_differ ∈ wl := wl_t3 74 rfl rfl
theorem nm_LW_100 : Cond.methodLink nr_LW 100 ny_MO_snapshot ∈ wl := wl_t3 78 rfl rfl
theorem nm_MO_81 : Cond.methodLink nr_MO 81 ny_MO_copy ∈ wl := wl_t3 82 rfl rfl
theorem nm_LW_103 : Cond.methodLink nr_LW 103 ny_MO_rollback ∈ wl := wl_t3 86 rfl rfl
theorem nm_MO_84 : Cond.methodLink nr_MO 84 ny_MO_isSnapshot ∈ wl := wl_t3 90 rfl rfl
theorem nm_LW_106 : Cond.methodLink nr_LW 106 ny_MO_drop ∈ wl := wl_t3 94 rfl rfl
theorem nm_MO_87 : Cond.methodLink nr_MO 87 ny_MO_empty ∈ wl := wl_t3 98 rfl rfl
theorem nm_LW_109 : Cond.methodLink nr_LW 109 ny_MO_commit ∈ wl := wl_t3 102 rfl rfl
theorem nm_MO_91 : Cond.methodLink nr_MO 91 ny_MO_dueNow ∈ wl := wl_t3 106 rfl rfl
theorem nm_LW_112 : Cond.methodLink nr_LW 112 ny_MO_free ∈ wl := wl_t3 110 rfl rfl
theorem nm_LW_115 : Cond.methodLink nr_LW 115 ny_MO_due ∈ wl := wl_t3 114 rfl rfl
theorem nm_LW_120 : Cond.methodLink nr_LW 120 ny_MO_order ∈ wl := wl_t3 118 rfl rfl
theorem nm_LW_124 : Cond.methodLink nr_LW 124 ny_MO_recover ∈ wl := wl_t3 122 rfl rfl
theorem nm_LW_128 : Cond.methodLink nr_LW 128 ny_MO_writes ∈ wl := wl_t3 126 rfl rfl
theorem nm_LW_133 : Cond.methodLink nr_LW 133 ny_MO_down ∈ wl := wl_t3 130 rfl rfl
theorem ni_FB_init : ny_FB_init.cls = nr_FB ∧ ny_FB_init.cls ≠ "java/lang/invoke/MethodHandle" ∧ ny_FB_init.cls ≠ "java/lang/invoke/VarHandle" ∧ (parseMethodDescriptor ny_FB_init.desc).map (fun d => d.parameters.length) = some 0 := by decide +kernel
theorem ns_FB_init : Cond.instanceMethod ny_FB_init ∈ wl := wl_t1 17 rfl rfl
theorem ni_FB_put : ny_FB_put.cls = nr_FB ∧ ny_FB_put.cls ≠ "java/lang/invoke/MethodHandle" ∧ ny_FB_put.cls ≠ "java/lang/invoke/VarHandle" ∧ (parseMethodDescriptor ny_FB_put.desc).map (fun d => d.parameters.length) = some 2 := by decide +kernel
theorem ns_FB_put : Cond.instanceMethod ny_FB_put ∈ wl := wl_t1 97 rfl rfl
theorem nv_FB_put : Cond.selects nr_FB ny_FB_put ny_FB_put ∈ wl := wl_t1 98 rfl rfl
theorem ni_FB_remove : ny_FB_remove.cls = nr_FB ∧ ny_FB_remove.cls ≠ "java/lang/invoke/MethodHandle" ∧ ny_FB_remove.cls ≠ "java/lang/invoke/VarHandle" ∧ (parseMethodDescriptor ny_FB_remove.desc).map (fun d => d.parameters.length) = some 1 := by decide +kernel
theorem ns_FB_remove : Cond.instanceMethod ny_FB_remove ∈ wl := wl_t2 37 rfl rfl
theorem nv_FB_remove : Cond.selects nr_FB ny_FB_remove ny_FB_remove ∈ wl := wl_t2 38 rfl rfl
theorem ni_FB_get : ny_FB_get.cls = nr_FB ∧ ny_FB_get.cls ≠ "java/lang/invoke/MethodHandle" ∧ ny_FB_get.cls ≠ "java/lang/invoke/VarHandle" ∧ (parseMethodDescriptor ny_FB_get.desc).map (fun d => d.parameters.length) = some 2 := by decide +kernel
theorem ns_FB_get : Cond.instanceMethod ny_FB_get ∈ wl := wl_t2 76 rfl rfl
theorem nv_FB_get : Cond.selects nr_FB ny_FB_get ny_FB_get ∈ wl := wl_t2 77 rfl rfl
theorem ni_FB_next : ny_FB_next.cls = nr_FB ∧ ny_FB_next.cls ≠ "java/lang/invoke/MethodHandle" ∧ ny_FB_next.cls ≠ "java/lang/invoke/VarHandle" ∧ (parseMethodDescriptor ny_FB_next.desc).map (fun d => d.parameters.length) = some 2 := by decide +kernel
theorem ns_FB_next : Cond.instanceMethod ny_FB_next ∈ wl := wl_t2 92 rfl rfl
theorem nv_FB_next : Cond.selects nr_FB ny_FB_next ny_FB_next ∈ wl := wl_t2 93 rfl rfl
theorem ni_FB_count : ny_FB_count.cls = nr_FB ∧ ny_FB_count.cls ≠ "java/lang/invoke/MethodHandle" ∧ ny_FB_count.cls ≠ "java/lang/invoke/VarHandle" ∧ (parseMethodDescriptor ny_FB_count.desc).map (fun d => d.parameters.length) = some 1 := by decide +kernel
theorem ns_FB_count : Cond.instanceMethod ny_FB_count ∈ wl := wl_t2 102 rfl rfl
theorem nv_FB_count : Cond.selects nr_FB ny_FB_count ny_FB_count ∈ wl := wl_t2 103 rfl rfl
theorem ni_FB_nodes : ny_FB_nodes.cls = nr_FB ∧ ny_FB_nodes.cls ≠ "java/lang/invoke/MethodHandle" ∧ ny_FB_nodes.cls ≠ "java/lang/invoke/VarHandle" ∧ (parseMethodDescriptor ny_FB_nodes.desc).map (fun d => d.parameters.length) = some 1 := by decide +kernel
theorem ns_FB_nodes : Cond.instanceMethod ny_FB_nodes ∈ wl := wl_t2 113 rfl rfl
theorem nv_FB_nodes : Cond.selects nr_FB ny_FB_nodes ny_FB_nodes ∈ wl := wl_t2 114 rfl rfl
theorem ni_FB_shared : ny_FB_shared.cls = nr_FB ∧ ny_FB_shared.cls ≠ "java/lang/invoke/MethodHandle" ∧ ny_FB_shared.cls ≠ "java/lang/invoke/VarHandle" ∧ (parseMethodDescriptor ny_FB_shared.desc).map (fun d => d.parameters.length) = some 2 := by decide +kernel
theorem ns_FB_shared : Cond.instanceMethod ny_FB_shared ∈ wl := wl_t2 120 rfl rfl
theorem nv_FB_shared : Cond.selects nr_FB ny_FB_shared ny_FB_shared ∈ wl := wl_t2 121 rfl rfl
theorem ni_FB_differ : ny_FB_differ.cls = nr_FB ∧ ny_FB_differ.cls ≠ "java/lang/invoke/MethodHandle" ∧ ny_FB_differ.cls ≠ "java/lang/invoke/VarHandle" ∧ (parseMethodDescriptor ny_FB_differ.desc).map (fun d => d.parameters.length) = some 2 := by decide +kernel
theorem ns_FB_differ : Cond.instanceMethod ny_FB_differ ∈ wl := wl_t2 127 rfl rfl
theorem nv_FB_differ : Cond.selects nr_FB ny_FB_differ ny_FB_differ ∈ wl := wl_t2 128 rfl rfl
theorem ni_FB_snapshot : ny_FB_snapshot.cls = nr_FB ∧ ny_FB_snapshot.cls ≠ "java/lang/invoke/MethodHandle" ∧ ny_FB_snapshot.cls ≠ "java/lang/invoke/VarHandle" ∧ (parseMethodDescriptor ny_FB_snapshot.desc).map (fun d => d.parameters.length) = some 0 := by decide +kernel
theorem ns_FB_snapshot : Cond.instanceMethod ny_FB_snapshot ∈ wl := wl_t2 138 rfl rfl
theorem nv_FB_snapshot : Cond.selects nr_FB ny_FB_snapshot ny_FB_snapshot ∈ wl := wl_t2 139 rfl rfl
theorem ni_FB_rollback : ny_FB_rollback.cls = nr_FB ∧ ny_FB_rollback.cls ≠ "java/lang/invoke/MethodHandle" ∧ ny_FB_rollback.cls ≠ "java/lang/invoke/VarHandle" ∧ (parseMethodDescriptor ny_FB_rollback.desc).map (fun d => d.parameters.length) = some 1 := by decide +kernel
theorem ns_FB_rollback : Cond.instanceMethod ny_FB_rollback ∈ wl := wl_t2 154 rfl rfl
theorem nv_FB_rollback : Cond.selects nr_FB ny_FB_rollback ny_FB_rollback ∈ wl := wl_t2 155 rfl rfl
theorem ni_FB_drop : ny_FB_drop.cls = nr_FB ∧ ny_FB_drop.cls ≠ "java/lang/invoke/MethodHandle" ∧ ny_FB_drop.cls ≠ "java/lang/invoke/VarHandle" ∧ (parseMethodDescriptor ny_FB_drop.desc).map (fun d => d.parameters.length) = some 1 := by decide +kernel
theorem ns_FB_drop : Cond.instanceMethod ny_FB_drop ∈ wl := wl_t2 166 rfl rfl
theorem nv_FB_drop : Cond.selects nr_FB ny_FB_drop ny_FB_drop ∈ wl := wl_t2 167 rfl rfl
theorem ni_FB_commit : ny_FB_commit.cls = nr_FB ∧ ny_FB_commit.cls ≠ "java/lang/invoke/MethodHandle" ∧ ny_FB_commit.cls ≠ "java/lang/invoke/VarHandle" ∧ (parseMethodDescriptor ny_FB_commit.desc).map (fun d => d.parameters.length) = some 0 := by decide +kernel
theorem ns_FB_commit : Cond.instanceMethod ny_FB_commit ∈ wl := wl_t2 173 rfl rfl
theorem nv_FB_commit : Cond.selects nr_FB ny_FB_commit ny_FB_commit ∈ wl := wl_t2 174 rfl rfl
theorem ni_FB_free : ny_FB_free.cls = nr_FB ∧ ny_FB_free.cls ≠ "java/lang/invoke/MethodHandle" ∧ ny_FB_free.cls ≠ "java/lang/invoke/VarHandle" ∧ (parseMethodDescriptor ny_FB_free.desc).map (fun d => d.parameters.length) = some 0 := by decide +kernel
theorem ns_FB_free : Cond.instanceMethod ny_FB_free ∈ wl := wl_t2 193 rfl rfl
theorem nv_FB_free : Cond.selects nr_FB ny_FB_free ny_FB_free ∈ wl := wl_t2 194 rfl rfl
theorem ni_FB_due : ny_FB_due.cls = nr_FB ∧ ny_FB_due.cls ≠ "java/lang/invoke/MethodHandle" ∧ ny_FB_due.cls ≠ "java/lang/invoke/VarHandle" ∧ (parseMethodDescriptor ny_FB_due.desc).map (fun d => d.parameters.length) = some 0 := by decide +kernel
theorem ns_FB_due : Cond.instanceMethod ny_FB_due ∈ wl := wl_t2 200 rfl rfl
theorem nv_FB_due : Cond.selects nr_FB ny_FB_due ny_FB_due ∈ wl := wl_t2 201 rfl rfl
theorem ni_FB_order : ny_FB_order.cls = nr_FB ∧ ny_FB_order.cls ≠ "java/lang/invoke/MethodHandle" ∧ ny_FB_order.cls ≠ "java/lang/invoke/VarHandle" ∧ (parseMethodDescriptor ny_FB_order.desc).map (fun d => d.parameters.length) = some 1 := by decide +kernel
theorem ns_FB_order : Cond.instanceMethod ny_FB_order ∈ wl := wl_t1 71 rfl rfl
theorem nv_FB_order : Cond.selects nr_FB ny_FB_order ny_FB_order ∈ wl := wl_t1 72 rfl rfl
theorem ni_FB_recover : ny_FB_recover.cls = nr_FB ∧ ny_FB_recover.cls ≠ "java/lang/invoke/MethodHandle" ∧ ny_FB_recover.cls ≠ "java/lang/invoke/VarHandle" ∧ (parseMethodDescriptor ny_FB_recover.desc).map (fun d => d.parameters.length) = some 0 := by decide +kernel
theorem ns_FB_recover : Cond.instanceMethod ny_FB_recover ∈ wl := wl_t1 75 rfl rfl
theorem nv_FB_recover : Cond.selects nr_FB ny_FB_recover ny_FB_recover ∈ wl := wl_t1 76 rfl rfl
theorem ni_FB_writes : ny_FB_writes.cls = nr_FB ∧ ny_FB_writes.cls ≠ "java/lang/invoke/MethodHandle" ∧ ny_FB_writes.cls ≠ "java/lang/invoke/VarHandle" ∧ (parseMethodDescriptor ny_FB_writes.desc).map (fun d => d.parameters.length) = some 0 := by decide +kernel
theorem ns_FB_writes : Cond.instanceMethod ny_FB_writes ∈ wl := wl_t1 83 rfl rfl
theorem nv_FB_writes : Cond.selects nr_FB ny_FB_writes ny_FB_writes ∈ wl := wl_t1 84 rfl rfl
theorem ni_FB_down : ny_FB_down.cls = nr_FB ∧ ny_FB_down.cls ≠ "java/lang/invoke/MethodHandle" ∧ ny_FB_down.cls ≠ "java/lang/invoke/VarHandle" ∧ (parseMethodDescriptor ny_FB_down.desc).map (fun d => d.parameters.length) = some 0 := by decide +kernel
theorem ns_FB_down : Cond.instanceMethod ny_FB_down ∈ wl := wl_t1 87 rfl rfl
theorem nv_FB_down : Cond.selects nr_FB ny_FB_down ny_FB_down ∈ wl := wl_t1 88 rfl rfl
theorem ni_FB_requireUp : ny_FB_requireUp.cls = nr_FB ∧ ny_FB_requireUp.cls ≠ "java/lang/invoke/MethodHandle" ∧ ny_FB_requireUp.cls ≠ "java/lang/invoke/VarHandle" ∧ (parseMethodDescriptor ny_FB_requireUp.desc).map (fun d => d.parameters.length) = some 0 := by decide +kernel
theorem ns_FB_requireUp : Cond.instanceMethod ny_FB_requireUp ∈ wl := wl_t1 102 rfl rfl
theorem nv_FB_requireUp : Cond.selects nr_FB ny_FB_requireUp ny_FB_requireUp ∈ wl := wl_sel 1 rfl rfl
theorem ni_FB_requireMap : ny_FB_requireMap.cls = nr_FB ∧ ny_FB_requireMap.cls ≠ "java/lang/invoke/MethodHandle" ∧ ny_FB_requireMap.cls ≠ "java/lang/invoke/VarHandle" ∧ (parseMethodDescriptor ny_FB_requireMap.desc).map (fun d => d.parameters.length) = some 1 := by decide +kernel
theorem ns_FB_requireMap : Cond.instanceMethod ny_FB_requireMap ∈ wl := wl_t2 81 rfl rfl
theorem nv_FB_requireMap : Cond.selects nr_FB ny_FB_requireMap ny_FB_requireMap ∈ wl := wl_sel 13 rfl rfl
theorem ni_FB_requireSnapshot : ny_FB_requireSnapshot.cls = nr_FB ∧ ny_FB_requireSnapshot.cls ≠ "java/lang/invoke/MethodHandle" ∧ ny_FB_requireSnapshot.cls ≠ "java/lang/invoke/VarHandle" ∧ (parseMethodDescriptor ny_FB_requireSnapshot.desc).map (fun d => d.parameters.length) = some 1 := by decide +kernel
theorem ns_FB_requireSnapshot : Cond.instanceMethod ny_FB_requireSnapshot ∈ wl := wl_t2 159 rfl rfl
theorem nv_FB_requireSnapshot : Cond.selects nr_FB ny_FB_requireSnapshot ny_FB_requireSnapshot ∈ wl := wl_sel 18 rfl rfl
theorem ni_FB_requireBound : ny_FB_requireBound.cls = nr_FB ∧ ny_FB_requireBound.cls ≠ "java/lang/invoke/MethodHandle" ∧ ny_FB_requireBound.cls ≠ "java/lang/invoke/VarHandle" ∧ (parseMethodDescriptor ny_FB_requireBound.desc).map (fun d => d.parameters.length) = some 2 := by decide +kernel
theorem ns_FB_requireBound : Cond.instanceMethod ny_FB_requireBound ∈ wl := wl_t2 42 rfl rfl
theorem nv_FB_requireBound : Cond.selects nr_FB ny_FB_requireBound ny_FB_requireBound ∈ wl := wl_sel 11 rfl rfl
theorem ni_FB_ownCurrentPath : ny_FB_ownCurrentPath.cls = nr_FB ∧ ny_FB_ownCurrentPath.cls ≠ "java/lang/invoke/MethodHandle" ∧ ny_FB_ownCurrentPath.cls ≠ "java/lang/invoke/VarHandle" ∧ (parseMethodDescriptor ny_FB_ownCurrentPath.desc).map (fun d => d.parameters.length) = some 2 := by decide +kernel
theorem ns_FB_ownCurrentPath : Cond.instanceMethod ny_FB_ownCurrentPath ∈ wl := wl_t1 213 rfl rfl
theorem nv_FB_ownCurrentPath : Cond.selects nr_FB ny_FB_ownCurrentPath ny_FB_ownCurrentPath ∈ wl := wl_sel 5 rfl rfl
theorem ni_FB_isKey : ny_FB_isKey.cls = nr_FB ∧ ny_FB_isKey.cls ≠ "java/lang/invoke/MethodHandle" ∧ ny_FB_isKey.cls ≠ "java/lang/invoke/VarHandle" ∧ (parseMethodDescriptor ny_FB_isKey.desc).map (fun d => d.parameters.length) = some 1 := by decide +kernel
theorem ns_FB_isKey : Cond.instanceMethod ny_FB_isKey ∈ wl := wl_t1 175 rfl rfl
theorem nv_FB_isKey : Cond.selects nr_FB ny_FB_isKey ny_FB_isKey ∈ wl := wl_sel 3 rfl rfl
theorem ni_FB_isMap : ny_FB_isMap.cls = nr_FB ∧ ny_FB_isMap.cls ≠ "java/lang/invoke/MethodHandle" ∧ ny_FB_isMap.cls ≠ "java/lang/invoke/VarHandle" ∧ (parseMethodDescriptor ny_FB_isMap.desc).map (fun d => d.parameters.length) = some 1 := by decide +kernel
theorem ns_FB_isMap : Cond.instanceMethod ny_FB_isMap ∈ wl := wl_t2 85 rfl rfl
theorem nv_FB_isMap : Cond.selects nr_FB ny_FB_isMap ny_FB_isMap ∈ wl := wl_sel 14 rfl rfl
theorem ni_FB_isBoundAlike : ny_FB_isBoundAlike.cls = nr_FB ∧ ny_FB_isBoundAlike.cls ≠ "java/lang/invoke/MethodHandle" ∧ ny_FB_isBoundAlike.cls ≠ "java/lang/invoke/VarHandle" ∧ (parseMethodDescriptor ny_FB_isBoundAlike.desc).map (fun d => d.parameters.length) = some 3 := by decide +kernel
theorem ns_FB_isBoundAlike : Cond.instanceMethod ny_FB_isBoundAlike ∈ wl := wl_t2 132 rfl rfl
theorem nv_FB_isBoundAlike : Cond.selects nr_FB ny_FB_isBoundAlike ny_FB_isBoundAlike ∈ wl := wl_sel 16 rfl rfl
theorem ni_FB_keysBound : ny_FB_keysBound.cls = nr_FB ∧ ny_FB_keysBound.cls ≠ "java/lang/invoke/MethodHandle" ∧ ny_FB_keysBound.cls ≠ "java/lang/invoke/VarHandle" ∧ (parseMethodDescriptor ny_FB_keysBound.desc).map (fun d => d.parameters.length) = some 1 := by decide +kernel
theorem ns_FB_keysBound : Cond.instanceMethod ny_FB_keysBound ∈ wl := wl_t2 107 rfl rfl
theorem nv_FB_keysBound : Cond.selects nr_FB ny_FB_keysBound ny_FB_keysBound ∈ wl := wl_sel 15 rfl rfl
theorem ni_FB_leastUnusedSnapshot : ny_FB_leastUnusedSnapshot.cls = nr_FB ∧ ny_FB_leastUnusedSnapshot.cls ≠ "java/lang/invoke/MethodHandle" ∧ ny_FB_leastUnusedSnapshot.cls ≠ "java/lang/invoke/VarHandle" ∧ (parseMethodDescriptor ny_FB_leastUnusedSnapshot.desc).map (fun d => d.parameters.length) = some 0 := by decide +kernel
theorem ns_FB_leastUnusedSnapshot : Cond.instanceMethod ny_FB_leastUnusedSnapshot ∈ wl := wl_t2 143 rfl rfl
theorem nv_FB_leastUnusedSnapshot : Cond.selects nr_FB ny_FB_leastUnusedSnapshot ny_FB_leastUnusedSnapshot ∈ wl := wl_sel 17 rfl rfl
theorem ni_FB_snapshotsThere : ny_FB_snapshotsThere.cls = nr_FB ∧ ny_FB_snapshotsThere.cls ≠ "java/lang/invoke/MethodHandle" ∧ ny_FB_snapshotsThere.cls ≠ "java/lang/invoke/VarHandle" ∧ (parseMethodDescriptor ny_FB_snapshotsThere.desc).map (fun d => d.parameters.length) = some 0 := by decide +kernel
theorem ns_FB_snapshotsThere : Cond.instanceMethod ny_FB_snapshotsThere ∈ wl := wl_t1 80 rfl rfl
theorem nv_FB_snapshotsThere : Cond.selects nr_FB ny_FB_snapshotsThere ny_FB_snapshotsThere ∈ wl := wl_sel 0 rfl rfl
theorem ni_FB_freeNodes : ny_FB_freeNodes.cls = nr_FB ∧ ny_FB_freeNodes.cls ≠ "java/lang/invoke/MethodHandle" ∧ ny_FB_freeNodes.cls ≠ "java/lang/invoke/VarHandle" ∧ (parseMethodDescriptor ny_FB_freeNodes.desc).map (fun d => d.parameters.length) = some 0 := by decide +kernel
theorem ns_FB_freeNodes : Cond.instanceMethod ny_FB_freeNodes ∈ wl := wl_t1 217 rfl rfl
theorem nv_FB_freeNodes : Cond.selects nr_FB ny_FB_freeNodes ny_FB_freeNodes ∈ wl := wl_sel 6 rfl rfl
theorem ni_FB_writesNeeded : ny_FB_writesNeeded.cls = nr_FB ∧ ny_FB_writesNeeded.cls ≠ "java/lang/invoke/MethodHandle" ∧ ny_FB_writesNeeded.cls ≠ "java/lang/invoke/VarHandle" ∧ (parseMethodDescriptor ny_FB_writesNeeded.desc).map (fun d => d.parameters.length) = some 0 := by decide +kernel
theorem ns_FB_writesNeeded : Cond.instanceMethod ny_FB_writesNeeded ∈ wl := wl_t2 178 rfl rfl
theorem nv_FB_writesNeeded : Cond.selects nr_FB ny_FB_writesNeeded ny_FB_writesNeeded ∈ wl := wl_sel 19 rfl rfl
theorem ni_FB_markMaps : ny_FB_markMaps.cls = nr_FB ∧ ny_FB_markMaps.cls ≠ "java/lang/invoke/MethodHandle" ∧ ny_FB_markMaps.cls ≠ "java/lang/invoke/VarHandle" ∧ (parseMethodDescriptor ny_FB_markMaps.desc).map (fun d => d.parameters.length) = some 1 := by decide +kernel
theorem ns_FB_markMaps : Cond.instanceMethod ny_FB_markMaps ∈ wl := wl_t1 225 rfl rfl
theorem nv_FB_markMaps : Cond.selects nr_FB ny_FB_markMaps ny_FB_markMaps ∈ wl := wl_sel 7 rfl rfl
theorem ni_FB_failsWithin : ny_FB_failsWithin.cls = nr_FB ∧ ny_FB_failsWithin.cls ≠ "java/lang/invoke/MethodHandle" ∧ ny_FB_failsWithin.cls ≠ "java/lang/invoke/VarHandle" ∧ (parseMethodDescriptor ny_FB_failsWithin.desc).map (fun d => d.parameters.length) = some 1 := by decide +kernel
theorem ns_FB_failsWithin : Cond.instanceMethod ny_FB_failsWithin ∈ wl := wl_t2 182 rfl rfl
theorem nv_FB_failsWithin : Cond.selects nr_FB ny_FB_failsWithin ny_FB_failsWithin ∈ wl := wl_sel 20 rfl rfl
theorem ni_FB_losePower : ny_FB_losePower.cls = nr_FB ∧ ny_FB_losePower.cls ≠ "java/lang/invoke/MethodHandle" ∧ ny_FB_losePower.cls ≠ "java/lang/invoke/VarHandle" ∧ (parseMethodDescriptor ny_FB_losePower.desc).map (fun d => d.parameters.length) = some 0 := by decide +kernel
theorem ns_FB_losePower : Cond.instanceMethod ny_FB_losePower ∈ wl := wl_t2 186 rfl rfl
theorem nv_FB_losePower : Cond.selects nr_FB ny_FB_losePower ny_FB_losePower ∈ wl := wl_sel 21 rfl rfl
theorem ni_MO_init : ny_MO_init.cls = nr_MO ∧ ny_MO_init.cls ≠ "java/lang/invoke/MethodHandle" ∧ ny_MO_init.cls ≠ "java/lang/invoke/VarHandle" ∧ (parseMethodDescriptor ny_MO_init.desc).map (fun d => d.parameters.length) = some 0 := by decide +kernel
theorem ns_MO_init : Cond.instanceMethod ny_MO_init ∈ wl := wl_t2 206 rfl rfl
theorem ni_MO_thrown : ny_MO_thrown.cls = nr_MO ∧ ny_MO_thrown.cls ≠ "java/lang/invoke/MethodHandle" ∧ ny_MO_thrown.cls ≠ "java/lang/invoke/VarHandle" ∧ (parseMethodDescriptor ny_MO_thrown.desc).map (fun d => d.parameters.length) = some 0 := by decide +kernel
theorem ns_MO_thrown : Cond.instanceMethod ny_MO_thrown ∈ wl := wl_t3 1 rfl rfl
theorem nv_MO_thrown : Cond.selects nr_MO ny_MO_thrown ny_MO_thrown ∈ wl := wl_t3 2 rfl rfl
theorem ni_MO_copy : ny_MO_copy.cls = nr_MO ∧ ny_MO_copy.cls ≠ "java/lang/invoke/MethodHandle" ∧ ny_MO_copy.cls ≠ "java/lang/invoke/VarHandle" ∧ (parseMethodDescriptor ny_MO_copy.desc).map (fun d => d.parameters.length) = some 2 := by decide +kernel
theorem ns_MO_copy : Cond.instanceMethod ny_MO_copy ∈ wl := wl_t3 84 rfl rfl
theorem nv_MO_copy : Cond.selects nr_MO ny_MO_copy ny_MO_copy ∈ wl := wl_sel 31 rfl rfl
theorem ni_MO_empty : ny_MO_empty.cls = nr_MO ∧ ny_MO_empty.cls ≠ "java/lang/invoke/MethodHandle" ∧ ny_MO_empty.cls ≠ "java/lang/invoke/VarHandle" ∧ (parseMethodDescriptor ny_MO_empty.desc).map (fun d => d.parameters.length) = some 1 := by decide +kernel
theorem ns_MO_empty : Cond.instanceMethod ny_MO_empty ∈ wl := wl_t3 100 rfl rfl
theorem nv_MO_empty : Cond.selects nr_MO ny_MO_empty ny_MO_empty ∈ wl := wl_sel 33 rfl rfl
theorem ni_MO_isKey : ny_MO_isKey.cls = nr_MO ∧ ny_MO_isKey.cls ≠ "java/lang/invoke/MethodHandle" ∧ ny_MO_isKey.cls ≠ "java/lang/invoke/VarHandle" ∧ (parseMethodDescriptor ny_MO_isKey.desc).map (fun d => d.parameters.length) = some 1 := by decide +kernel
theorem ns_MO_isKey : Cond.static ny_MO_isKey ∈ wl := wl_t3 9 rfl rfl
theorem ni_MO_isMap : ny_MO_isMap.cls = nr_MO ∧ ny_MO_isMap.cls ≠ "java/lang/invoke/MethodHandle" ∧ ny_MO_isMap.cls ≠ "java/lang/invoke/VarHandle" ∧ (parseMethodDescriptor ny_MO_isMap.desc).map (fun d => d.parameters.length) = some 1 := by decide +kernel
theorem ns_MO_isMap : Cond.instanceMethod ny_MO_isMap ∈ wl := wl_t3 56 rfl rfl
theorem nv_MO_isMap : Cond.selects nr_MO ny_MO_isMap ny_MO_isMap ∈ wl := wl_sel 30 rfl rfl
theorem ni_MO_isSnapshot : ny_MO_isSnapshot.cls = nr_MO ∧ ny_MO_isSnapshot.cls ≠ "java/lang/invoke/MethodHandle" ∧ ny_MO_isSnapshot.cls ≠ "java/lang/invoke/VarHandle" ∧ (parseMethodDescriptor ny_MO_isSnapshot.desc).map (fun d => d.parameters.length) = some 1 := by decide +kernel
theorem ns_MO_isSnapshot : Cond.instanceMethod ny_MO_isSnapshot ∈ wl := wl_t3 92 rfl rfl
theorem nv_MO_isSnapshot : Cond.selects nr_MO ny_MO_isSnapshot ny_MO_isSnapshot ∈ wl := wl_sel 32 rfl rfl
theorem ni_MO_boundIn : ny_MO_boundIn.cls = nr_MO ∧ ny_MO_boundIn.cls ≠ "java/lang/invoke/MethodHandle" ∧ ny_MO_boundIn.cls ≠ "java/lang/invoke/VarHandle" ∧ (parseMethodDescriptor ny_MO_boundIn.desc).map (fun d => d.parameters.length) = some 3 := by decide +kernel
theorem ns_MO_boundIn : Cond.instanceMethod ny_MO_boundIn ∈ wl := wl_t3 25 rfl rfl
theorem nv_MO_boundIn : Cond.selects nr_MO ny_MO_boundIn ny_MO_boundIn ∈ wl := wl_sel 25 rfl rfl
theorem ni_MO_isIn : ny_MO_isIn.cls = nr_MO ∧ ny_MO_isIn.cls ≠ "java/lang/invoke/MethodHandle" ∧ ny_MO_isIn.cls ≠ "java/lang/invoke/VarHandle" ∧ (parseMethodDescriptor ny_MO_isIn.desc).map (fun d => d.parameters.length) = some 4 := by decide +kernel
theorem ns_MO_isIn : Cond.instanceMethod ny_MO_isIn ∈ wl := wl_t3 40 rfl rfl
theorem nv_MO_isIn : Cond.selects nr_MO ny_MO_isIn ny_MO_isIn ∈ wl := wl_sel 28 rfl rfl
theorem ni_MO_different : ny_MO_different.cls = nr_MO ∧ ny_MO_different.cls ≠ "java/lang/invoke/MethodHandle" ∧ ny_MO_different.cls ≠ "java/lang/invoke/VarHandle" ∧ (parseMethodDescriptor ny_MO_different.desc).map (fun d => d.parameters.length) = some 2 := by decide +kernel
theorem ns_MO_different : Cond.instanceMethod ny_MO_different ∈ wl := wl_t3 36 rfl rfl
theorem nv_MO_different : Cond.selects nr_MO ny_MO_different ny_MO_different ∈ wl := wl_sel 27 rfl rfl
theorem ni_MO_freeNow : ny_MO_freeNow.cls = nr_MO ∧ ny_MO_freeNow.cls ≠ "java/lang/invoke/MethodHandle" ∧ ny_MO_freeNow.cls ≠ "java/lang/invoke/VarHandle" ∧ (parseMethodDescriptor ny_MO_freeNow.desc).map (fun d => d.parameters.length) = some 0 := by decide +kernel
theorem ns_MO_freeNow : Cond.instanceMethod ny_MO_freeNow ∈ wl := wl_t3 32 rfl rfl
theorem nv_MO_freeNow : Cond.selects nr_MO ny_MO_freeNow ny_MO_freeNow ∈ wl := wl_sel 26 rfl rfl
theorem ni_MO_placeOf : ny_MO_placeOf.cls = nr_MO ∧ ny_MO_placeOf.cls ≠ "java/lang/invoke/MethodHandle" ∧ ny_MO_placeOf.cls ≠ "java/lang/invoke/VarHandle" ∧ (parseMethodDescriptor ny_MO_placeOf.desc).map (fun d => d.parameters.length) = some 2 := by decide +kernel
theorem ns_MO_placeOf : Cond.static ny_MO_placeOf ∈ wl := wl_t3 28 rfl rfl
theorem ni_MO_below : ny_MO_below.cls = nr_MO ∧ ny_MO_below.cls ≠ "java/lang/invoke/MethodHandle" ∧ ny_MO_below.cls ≠ "java/lang/invoke/VarHandle" ∧ (parseMethodDescriptor ny_MO_below.desc).map (fun d => d.parameters.length) = some 2 := by decide +kernel
theorem ns_MO_below : Cond.instanceMethod ny_MO_below ∈ wl := wl_t3 21 rfl rfl
theorem nv_MO_below : Cond.selects nr_MO ny_MO_below ny_MO_below ∈ wl := wl_sel 24 rfl rfl
theorem ni_MO_makes : ny_MO_makes.cls = nr_MO ∧ ny_MO_makes.cls ≠ "java/lang/invoke/MethodHandle" ∧ ny_MO_makes.cls ≠ "java/lang/invoke/VarHandle" ∧ (parseMethodDescriptor ny_MO_makes.desc).map (fun d => d.parameters.length) = some 3 := by decide +kernel
theorem ns_MO_makes : Cond.instanceMethod ny_MO_makes ∈ wl := wl_t3 17 rfl rfl
theorem nv_MO_makes : Cond.selects nr_MO ny_MO_makes ny_MO_makes ∈ wl := wl_sel 23 rfl rfl
theorem ni_MO_fits : ny_MO_fits.cls = nr_MO ∧ ny_MO_fits.cls ≠ "java/lang/invoke/MethodHandle" ∧ ny_MO_fits.cls ≠ "java/lang/invoke/VarHandle" ∧ (parseMethodDescriptor ny_MO_fits.desc).map (fun d => d.parameters.length) = some 2 := by decide +kernel
theorem ns_MO_fits : Cond.instanceMethod ny_MO_fits ∈ wl := wl_t3 13 rfl rfl
theorem nv_MO_fits : Cond.selects nr_MO ny_MO_fits ny_MO_fits ∈ wl := wl_sel 22 rfl rfl
theorem ni_MO_change : ny_MO_change.cls = nr_MO ∧ ny_MO_change.cls ≠ "java/lang/invoke/MethodHandle" ∧ ny_MO_change.cls ≠ "java/lang/invoke/VarHandle" ∧ (parseMethodDescriptor ny_MO_change.desc).map (fun d => d.parameters.length) = some 2 := by decide +kernel
theorem ns_MO_change : Cond.instanceMethod ny_MO_change ∈ wl := wl_t3 44 rfl rfl
theorem nv_MO_change : Cond.selects nr_MO ny_MO_change ny_MO_change ∈ wl := wl_sel 29 rfl rfl
theorem ni_MO_put : ny_MO_put.cls = nr_MO ∧ ny_MO_put.cls ≠ "java/lang/invoke/MethodHandle" ∧ ny_MO_put.cls ≠ "java/lang/invoke/VarHandle" ∧ (parseMethodDescriptor ny_MO_put.desc).map (fun d => d.parameters.length) = some 2 := by decide +kernel
theorem ns_MO_put : Cond.instanceMethod ny_MO_put ∈ wl := wl_t3 5 rfl rfl
theorem nv_MO_put : Cond.selects nr_MO ny_MO_put ny_MO_put ∈ wl := wl_t3 6 rfl rfl
theorem ni_MO_remove : ny_MO_remove.cls = nr_MO ∧ ny_MO_remove.cls ≠ "java/lang/invoke/MethodHandle" ∧ ny_MO_remove.cls ≠ "java/lang/invoke/VarHandle" ∧ (parseMethodDescriptor ny_MO_remove.desc).map (fun d => d.parameters.length) = some 1 := by decide +kernel
theorem ns_MO_remove : Cond.instanceMethod ny_MO_remove ∈ wl := wl_t3 47 rfl rfl
theorem nv_MO_remove : Cond.selects nr_MO ny_MO_remove ny_MO_remove ∈ wl := wl_t3 48 rfl rfl
theorem ni_MO_get : ny_MO_get.cls = nr_MO ∧ ny_MO_get.cls ≠ "java/lang/invoke/MethodHandle" ∧ ny_MO_get.cls ≠ "java/lang/invoke/VarHandle" ∧ (parseMethodDescriptor ny_MO_get.desc).map (fun d => d.parameters.length) = some 2 := by decide +kernel
theorem ns_MO_get : Cond.instanceMethod ny_MO_get ∈ wl := wl_t3 51 rfl rfl
theorem nv_MO_get : Cond.selects nr_MO ny_MO_get ny_MO_get ∈ wl := wl_t3 52 rfl rfl
theorem ni_MO_next : ny_MO_next.cls = nr_MO ∧ ny_MO_next.cls ≠ "java/lang/invoke/MethodHandle" ∧ ny_MO_next.cls ≠ "java/lang/invoke/VarHandle" ∧ (parseMethodDescriptor ny_MO_next.desc).map (fun d => d.parameters.length) = some 2 := by decide +kernel
theorem ns_MO_next : Cond.instanceMethod ny_MO_next ∈ wl := wl_t3 59 rfl rfl
theorem nv_MO_next : Cond.selects nr_MO ny_MO_next ny_MO_next ∈ wl := wl_t3 60 rfl rfl
theorem ni_MO_count : ny_MO_count.cls = nr_MO ∧ ny_MO_count.cls ≠ "java/lang/invoke/MethodHandle" ∧ ny_MO_count.cls ≠ "java/lang/invoke/VarHandle" ∧ (parseMethodDescriptor ny_MO_count.desc).map (fun d => d.parameters.length) = some 1 := by decide +kernel
theorem ns_MO_count : Cond.instanceMethod ny_MO_count ∈ wl := wl_t3 63 rfl rfl
theorem nv_MO_count : Cond.selects nr_MO ny_MO_count ny_MO_count ∈ wl := wl_t3 64 rfl rfl
theorem ni_MO_nodes : ny_MO_nodes.cls = nr_MO ∧ ny_MO_nodes.cls ≠ "java/lang/invoke/MethodHandle" ∧ ny_MO_nodes.cls ≠ "java/lang/invoke/VarHandle" ∧ (parseMethodDescriptor ny_MO_nodes.desc).map (fun d => d.parameters.length) = some 1 := by decide +kernel
theorem ns_MO_nodes : Cond.instanceMethod ny_MO_nodes ∈ wl := wl_t3 67 rfl rfl
theorem nv_MO_nodes : Cond.selects nr_MO ny_MO_nodes ny_MO_nodes ∈ wl := wl_t3 68 rfl rfl
theorem ni_MO_shared : ny_MO_shared.cls = nr_MO ∧ ny_MO_shared.cls ≠ "java/lang/invoke/MethodHandle" ∧ ny_MO_shared.cls ≠ "java/lang/invoke/VarHandle" ∧ (parseMethodDescriptor ny_MO_shared.desc).map (fun d => d.parameters.length) = some 2 := by decide +kernel
theorem ns_MO_shared : Cond.instanceMethod ny_MO_shared ∈ wl := wl_t3 71 rfl rfl
theorem nv_MO_shared : Cond.selects nr_MO ny_MO_shared ny_MO_shared ∈ wl := wl_t3 72 rfl rfl
theorem ni_MO_differ : ny_MO_differ.cls = nr_MO ∧ ny_MO_differ.cls ≠ "java/lang/invoke/MethodHandle" ∧ ny_MO_differ.cls ≠ "java/lang/invoke/VarHandle" ∧ (parseMethodDescriptor ny_MO_differ.desc).map (fun d => d.parameters.length) = some 2 := by decide +kernel
theorem ns_MO_differ : Cond.instanceMethod ny_MO_differ ∈ wl := wl_t3 75 rfl rfl
theorem nv_MO_differ : Cond.selects nr_MO ny_MO_differ ny_MO_differ ∈ wl := wl_t3 76 rfl rfl
theorem ni_MO_snapshot : ny_MO_snapshot.cls = nr_MO ∧ ny_MO_snapshot.cls ≠ "java/lang/invoke/MethodHandle" ∧ ny_MO_snapshot.cls ≠ "java/lang/invoke/VarHandle" ∧ (parseMethodDescriptor ny_MO_snapshot.desc).map (fun d => d.parameters.length) = some 0 := by decide +kernel
theorem ns_MO_snapshot : Cond.instanceMethod ny_MO_snapshot ∈ wl := wl_t3 79 rfl rfl
theorem nv_MO_snapshot : Cond.selects nr_MO ny_MO_snapshot ny_MO_snapshot ∈ wl := wl_t3 80 rfl rfl
theorem ni_MO_rollback : ny_MO_rollback.cls = nr_MO ∧ ny_MO_rollback.cls ≠ "java/lang/invoke/MethodHandle" ∧ ny_MO_rollback.cls ≠ "java/lang/invoke/VarHandle" ∧ (parseMethodDescriptor ny_MO_rollback.desc).map (fun d => d.parameters.length) = some 1 := by decide +kernel
theorem ns_MO_rollback : Cond.instanceMethod ny_MO_rollback ∈ wl := wl_t3 87 rfl rfl
theorem nv_MO_rollback : Cond.selects nr_MO ny_MO_rollback ny_MO_rollback ∈ wl := wl_t3 88 rfl rfl
theorem ni_MO_drop : ny_MO_drop.cls = nr_MO ∧ ny_MO_drop.cls ≠ "java/lang/invoke/MethodHandle" ∧ ny_MO_drop.cls ≠ "java/lang/invoke/VarHandle" ∧ (parseMethodDescriptor ny_MO_drop.desc).map (fun d => d.parameters.length) = some 1 := by decide +kernel
theorem ns_MO_drop : Cond.instanceMethod ny_MO_drop ∈ wl := wl_t3 95 rfl rfl
theorem nv_MO_drop : Cond.selects nr_MO ny_MO_drop ny_MO_drop ∈ wl := wl_t3 96 rfl rfl
theorem ni_MO_dueNow : ny_MO_dueNow.cls = nr_MO ∧ ny_MO_dueNow.cls ≠ "java/lang/invoke/MethodHandle" ∧ ny_MO_dueNow.cls ≠ "java/lang/invoke/VarHandle" ∧ (parseMethodDescriptor ny_MO_dueNow.desc).map (fun d => d.parameters.length) = some 0 := by decide +kernel
theorem ns_MO_dueNow : Cond.instanceMethod ny_MO_dueNow ∈ wl := wl_t3 108 rfl rfl
theorem nv_MO_dueNow : Cond.selects nr_MO ny_MO_dueNow ny_MO_dueNow ∈ wl := wl_sel 34 rfl rfl
theorem ni_MO_commit : ny_MO_commit.cls = nr_MO ∧ ny_MO_commit.cls ≠ "java/lang/invoke/MethodHandle" ∧ ny_MO_commit.cls ≠ "java/lang/invoke/VarHandle" ∧ (parseMethodDescriptor ny_MO_commit.desc).map (fun d => d.parameters.length) = some 0 := by decide +kernel
theorem ns_MO_commit : Cond.instanceMethod ny_MO_commit ∈ wl := wl_t3 103 rfl rfl
theorem nv_MO_commit : Cond.selects nr_MO ny_MO_commit ny_MO_commit ∈ wl := wl_t3 104 rfl rfl
theorem ni_MO_free : ny_MO_free.cls = nr_MO ∧ ny_MO_free.cls ≠ "java/lang/invoke/MethodHandle" ∧ ny_MO_free.cls ≠ "java/lang/invoke/VarHandle" ∧ (parseMethodDescriptor ny_MO_free.desc).map (fun d => d.parameters.length) = some 0 := by decide +kernel
theorem ns_MO_free : Cond.instanceMethod ny_MO_free ∈ wl := wl_t3 111 rfl rfl
theorem nv_MO_free : Cond.selects nr_MO ny_MO_free ny_MO_free ∈ wl := wl_t3 112 rfl rfl
theorem ni_MO_due : ny_MO_due.cls = nr_MO ∧ ny_MO_due.cls ≠ "java/lang/invoke/MethodHandle" ∧ ny_MO_due.cls ≠ "java/lang/invoke/VarHandle" ∧ (parseMethodDescriptor ny_MO_due.desc).map (fun d => d.parameters.length) = some 0 := by decide +kernel
theorem ns_MO_due : Cond.instanceMethod ny_MO_due ∈ wl := wl_t3 115 rfl rfl
theorem nv_MO_due : Cond.selects nr_MO ny_MO_due ny_MO_due ∈ wl := wl_t3 116 rfl rfl
theorem ni_MO_order : ny_MO_order.cls = nr_MO ∧ ny_MO_order.cls ≠ "java/lang/invoke/MethodHandle" ∧ ny_MO_order.cls ≠ "java/lang/invoke/VarHandle" ∧ (parseMethodDescriptor ny_MO_order.desc).map (fun d => d.parameters.length) = some 1 := by decide +kernel
theorem ns_MO_order : Cond.instanceMethod ny_MO_order ∈ wl := wl_t3 119 rfl rfl
theorem nv_MO_order : Cond.selects nr_MO ny_MO_order ny_MO_order ∈ wl := wl_t3 120 rfl rfl
theorem ni_MO_recover : ny_MO_recover.cls = nr_MO ∧ ny_MO_recover.cls ≠ "java/lang/invoke/MethodHandle" ∧ ny_MO_recover.cls ≠ "java/lang/invoke/VarHandle" ∧ (parseMethodDescriptor ny_MO_recover.desc).map (fun d => d.parameters.length) = some 0 := by decide +kernel
theorem ns_MO_recover : Cond.instanceMethod ny_MO_recover ∈ wl := wl_t3 123 rfl rfl
theorem nv_MO_recover : Cond.selects nr_MO ny_MO_recover ny_MO_recover ∈ wl := wl_t3 124 rfl rfl
theorem ni_MO_writes : ny_MO_writes.cls = nr_MO ∧ ny_MO_writes.cls ≠ "java/lang/invoke/MethodHandle" ∧ ny_MO_writes.cls ≠ "java/lang/invoke/VarHandle" ∧ (parseMethodDescriptor ny_MO_writes.desc).map (fun d => d.parameters.length) = some 0 := by decide +kernel
theorem ns_MO_writes : Cond.instanceMethod ny_MO_writes ∈ wl := wl_t3 127 rfl rfl
theorem nv_MO_writes : Cond.selects nr_MO ny_MO_writes ny_MO_writes ∈ wl := wl_t3 128 rfl rfl
theorem ni_MO_down : ny_MO_down.cls = nr_MO ∧ ny_MO_down.cls ≠ "java/lang/invoke/MethodHandle" ∧ ny_MO_down.cls ≠ "java/lang/invoke/VarHandle" ∧ (parseMethodDescriptor ny_MO_down.desc).map (fun d => d.parameters.length) = some 0 := by decide +kernel
theorem ns_MO_down : Cond.instanceMethod ny_MO_down ∈ wl := wl_t3 131 rfl rfl
theorem nv_MO_down : Cond.selects nr_MO ny_MO_down ny_MO_down ∈ wl := wl_t3 132 rfl rfl
theorem ni_RM_init : ny_RM_init.cls = nr_RM ∧ ny_RM_init.cls ≠ "java/lang/invoke/MethodHandle" ∧ ny_RM_init.cls ≠ "java/lang/invoke/VarHandle" ∧ (parseMethodDescriptor ny_RM_init.desc).map (fun d => d.parameters.length) = some 0 := by decide +kernel
theorem ns_RM_init : Cond.instanceMethod ny_RM_init ∈ wl := wl_t1 25 rfl rfl
theorem ni_RM_binds : ny_RM_binds.cls = nr_RM ∧ ny_RM_binds.cls ≠ "java/lang/invoke/MethodHandle" ∧ ny_RM_binds.cls ≠ "java/lang/invoke/VarHandle" ∧ (parseMethodDescriptor ny_RM_binds.desc).map (fun d => d.parameters.length) = some 2 := by decide +kernel
theorem ns_RM_binds : Cond.instanceMethod ny_RM_binds ∈ wl := wl_t1 194 rfl rfl
theorem nv_RM_binds : Cond.selects nr_RM ny_RM_binds ny_RM_binds ∈ wl := wl_t1 195 rfl rfl
theorem ni_RM_valueOf : ny_RM_valueOf.cls = nr_RM ∧ ny_RM_valueOf.cls ≠ "java/lang/invoke/MethodHandle" ∧ ny_RM_valueOf.cls ≠ "java/lang/invoke/VarHandle" ∧ (parseMethodDescriptor ny_RM_valueOf.desc).map (fun d => d.parameters.length) = some 2 := by decide +kernel
theorem ns_RM_valueOf : Cond.instanceMethod ny_RM_valueOf ∈ wl := wl_t1 208 rfl rfl
theorem nv_RM_valueOf : Cond.selects nr_RM ny_RM_valueOf ny_RM_valueOf ∈ wl := wl_t1 209 rfl rfl
theorem ni_RM_levelsWithout : ny_RM_levelsWithout.cls = nr_RM ∧ ny_RM_levelsWithout.cls ≠ "java/lang/invoke/MethodHandle" ∧ ny_RM_levelsWithout.cls ≠ "java/lang/invoke/VarHandle" ∧ (parseMethodDescriptor ny_RM_levelsWithout.desc).map (fun d => d.parameters.length) = some 2 := by decide +kernel
theorem ns_RM_levelsWithout : Cond.instanceMethod ny_RM_levelsWithout ∈ wl := wl_t2 61 rfl rfl
theorem nv_RM_levelsWithout : Cond.selects nr_RM ny_RM_levelsWithout ny_RM_levelsWithout ∈ wl := wl_t2 62 rfl rfl
theorem ni_RM_nodesToMake : ny_RM_nodesToMake.cls = nr_RM ∧ ny_RM_nodesToMake.cls ≠ "java/lang/invoke/MethodHandle" ∧ ny_RM_nodesToMake.cls ≠ "java/lang/invoke/VarHandle" ∧ (parseMethodDescriptor ny_RM_nodesToMake.desc).map (fun d => d.parameters.length) = some 3 := by decide +kernel
theorem ns_RM_nodesToMake : Cond.instanceMethod ny_RM_nodesToMake ∈ wl := wl_t1 232 rfl rfl
theorem nv_RM_nodesToMake : Cond.selects nr_RM ny_RM_nodesToMake ny_RM_nodesToMake ∈ wl := wl_t1 233 rfl rfl
theorem ni_RM_ownPath : ny_RM_ownPath.cls = nr_RM ∧ ny_RM_ownPath.cls ≠ "java/lang/invoke/MethodHandle" ∧ ny_RM_ownPath.cls ≠ "java/lang/invoke/VarHandle" ∧ (parseMethodDescriptor ny_RM_ownPath.desc).map (fun d => d.parameters.length) = some 3 := by decide +kernel
theorem ns_RM_ownPath : Cond.instanceMethod ny_RM_ownPath ∈ wl := wl_t2 12 rfl rfl
theorem nv_RM_ownPath : Cond.selects nr_RM ny_RM_ownPath ny_RM_ownPath ∈ wl := wl_t2 13 rfl rfl
theorem ni_RM_bind : ny_RM_bind.cls = nr_RM ∧ ny_RM_bind.cls ≠ "java/lang/invoke/MethodHandle" ∧ ny_RM_bind.cls ≠ "java/lang/invoke/VarHandle" ∧ (parseMethodDescriptor ny_RM_bind.desc).map (fun d => d.parameters.length) = some 3 := by decide +kernel
theorem ns_RM_bind : Cond.instanceMethod ny_RM_bind ∈ wl := wl_t2 29 rfl rfl
theorem nv_RM_bind : Cond.selects nr_RM ny_RM_bind ny_RM_bind ∈ wl := wl_t2 30 rfl rfl
theorem ni_RM_cut : ny_RM_cut.cls = nr_RM ∧ ny_RM_cut.cls ≠ "java/lang/invoke/MethodHandle" ∧ ny_RM_cut.cls ≠ "java/lang/invoke/VarHandle" ∧ (parseMethodDescriptor ny_RM_cut.desc).map (fun d => d.parameters.length) = some 3 := by decide +kernel
theorem ns_RM_cut : Cond.instanceMethod ny_RM_cut ∈ wl := wl_t2 69 rfl rfl
theorem nv_RM_cut : Cond.selects nr_RM ny_RM_cut ny_RM_cut ∈ wl := wl_t2 70 rfl rfl
theorem ni_RM_freeze : ny_RM_freeze.cls = nr_RM ∧ ny_RM_freeze.cls ≠ "java/lang/invoke/MethodHandle" ∧ ny_RM_freeze.cls ≠ "java/lang/invoke/VarHandle" ∧ (parseMethodDescriptor ny_RM_freeze.desc).map (fun d => d.parameters.length) = some 0 := by decide +kernel
theorem ns_RM_freeze : Cond.instanceMethod ny_RM_freeze ∈ wl := wl_t2 147 rfl rfl
theorem nv_RM_freeze : Cond.selects nr_RM ny_RM_freeze ny_RM_freeze ∈ wl := wl_t2 148 rfl rfl
theorem ni_RM_unmarkAll : ny_RM_unmarkAll.cls = nr_RM ∧ ny_RM_unmarkAll.cls ≠ "java/lang/invoke/MethodHandle" ∧ ny_RM_unmarkAll.cls ≠ "java/lang/invoke/VarHandle" ∧ (parseMethodDescriptor ny_RM_unmarkAll.desc).map (fun d => d.parameters.length) = some 0 := by decide +kernel
theorem ns_RM_unmarkAll : Cond.instanceMethod ny_RM_unmarkAll ∈ wl := wl_t1 220 rfl rfl
theorem nv_RM_unmarkAll : Cond.selects nr_RM ny_RM_unmarkAll ny_RM_unmarkAll ∈ wl := wl_t1 221 rfl rfl
theorem ni_RM_mark : ny_RM_mark.cls = nr_RM ∧ ny_RM_mark.cls ≠ "java/lang/invoke/MethodHandle" ∧ ny_RM_mark.cls ≠ "java/lang/invoke/VarHandle" ∧ (parseMethodDescriptor ny_RM_mark.desc).map (fun d => d.parameters.length) = some 1 := by decide +kernel
theorem ns_RM_mark : Cond.instanceMethod ny_RM_mark ∈ wl := wl_t1 228 rfl rfl
theorem nv_RM_mark : Cond.selects nr_RM ny_RM_mark ny_RM_mark ∈ wl := wl_t1 229 rfl rfl
theorem ni_RM_nodeAt : ny_RM_nodeAt.cls = nr_RM ∧ ny_RM_nodeAt.cls ≠ "java/lang/invoke/MethodHandle" ∧ ny_RM_nodeAt.cls ≠ "java/lang/invoke/VarHandle" ∧ (parseMethodDescriptor ny_RM_nodeAt.desc).map (fun d => d.parameters.length) = some 3 := by decide +kernel
theorem ns_RM_nodeAt : Cond.instanceMethod ny_RM_nodeAt ∈ wl := wl_t1 199 rfl rfl
theorem nv_RM_nodeAt : Cond.selects nr_RM ny_RM_nodeAt ny_RM_nodeAt ∈ wl := wl_sel 4 rfl rfl
theorem ni_RM_holdsNothingElse : ny_RM_holdsNothingElse.cls = nr_RM ∧ ny_RM_holdsNothingElse.cls ≠ "java/lang/invoke/MethodHandle" ∧ ny_RM_holdsNothingElse.cls ≠ "java/lang/invoke/VarHandle" ∧ (parseMethodDescriptor ny_RM_holdsNothingElse.desc).map (fun d => d.parameters.length) = some 3 := by decide +kernel
theorem ns_RM_holdsNothingElse : Cond.instanceMethod ny_RM_holdsNothingElse ∈ wl := wl_t2 66 rfl rfl
theorem nv_RM_holdsNothingElse : Cond.selects nr_RM ny_RM_holdsNothingElse ny_RM_holdsNothingElse ∈ wl := wl_sel 12 rfl rfl
theorem ni_RM_open : ny_RM_open.cls = nr_RM ∧ ny_RM_open.cls ≠ "java/lang/invoke/MethodHandle" ∧ ny_RM_open.cls ≠ "java/lang/invoke/VarHandle" ∧ (parseMethodDescriptor ny_RM_open.desc).map (fun d => d.parameters.length) = some 4 := by decide +kernel
theorem ns_RM_open : Cond.instanceMethod ny_RM_open ∈ wl := wl_t2 26 rfl rfl
theorem nv_RM_open : Cond.selects nr_RM ny_RM_open ny_RM_open ∈ wl := wl_sel 10 rfl rfl
theorem ni_RM_own : ny_RM_own.cls = nr_RM ∧ ny_RM_own.cls ≠ "java/lang/invoke/MethodHandle" ∧ ny_RM_own.cls ≠ "java/lang/invoke/VarHandle" ∧ (parseMethodDescriptor ny_RM_own.desc).map (fun d => d.parameters.length) = some 1 := by decide +kernel
theorem ns_RM_own : Cond.instanceMethod ny_RM_own ∈ wl := wl_t2 17 rfl rfl
theorem nv_RM_own : Cond.selects nr_RM ny_RM_own ny_RM_own ∈ wl := wl_sel 8 rfl rfl
theorem ni_RM_takeUnmarked : ny_RM_takeUnmarked.cls = nr_RM ∧ ny_RM_takeUnmarked.cls ≠ "java/lang/invoke/MethodHandle" ∧ ny_RM_takeUnmarked.cls ≠ "java/lang/invoke/VarHandle" ∧ (parseMethodDescriptor ny_RM_takeUnmarked.desc).map (fun d => d.parameters.length) = some 0 := by decide +kernel
theorem ns_RM_takeUnmarked : Cond.instanceMethod ny_RM_takeUnmarked ∈ wl := wl_t2 21 rfl rfl
theorem nv_RM_takeUnmarked : Cond.selects nr_RM ny_RM_takeUnmarked ny_RM_takeUnmarked ∈ wl := wl_sel 9 rfl rfl
theorem ni_RM_turnOf : ny_RM_turnOf.cls = nr_RM ∧ ny_RM_turnOf.cls ≠ "java/lang/invoke/MethodHandle" ∧ ny_RM_turnOf.cls ≠ "java/lang/invoke/VarHandle" ∧ (parseMethodDescriptor ny_RM_turnOf.desc).map (fun d => d.parameters.length) = some 2 := by decide +kernel
theorem ns_RM_turnOf : Cond.static ny_RM_turnOf ∈ wl := wl_t1 202 rfl rfl
theorem ni_RM_bitOf : ny_RM_bitOf.cls = nr_RM ∧ ny_RM_bitOf.cls ≠ "java/lang/invoke/MethodHandle" ∧ ny_RM_bitOf.cls ≠ "java/lang/invoke/VarHandle" ∧ (parseMethodDescriptor ny_RM_bitOf.desc).map (fun d => d.parameters.length) = some 2 := by decide +kernel
theorem ns_RM_bitOf : Cond.static ny_RM_bitOf ∈ wl := wl_t1 205 rfl rfl
theorem ni_LW_put : ny_LW_put.cls = nr_LW ∧ ny_LW_put.cls ≠ "java/lang/invoke/MethodHandle" ∧ ny_LW_put.cls ≠ "java/lang/invoke/VarHandle" ∧ (parseMethodDescriptor ny_LW_put.desc).map (fun d => d.parameters.length) = some 4 := by decide +kernel
theorem ns_LW_put : Cond.static ny_LW_put ∈ wl := wl_t1 91 rfl rfl
theorem ni_LW_remove : ny_LW_remove.cls = nr_LW ∧ ny_LW_remove.cls ≠ "java/lang/invoke/MethodHandle" ∧ ny_LW_remove.cls ≠ "java/lang/invoke/VarHandle" ∧ (parseMethodDescriptor ny_LW_remove.desc).map (fun d => d.parameters.length) = some 3 := by decide +kernel
theorem ns_LW_remove : Cond.static ny_LW_remove ∈ wl := wl_t2 33 rfl rfl
theorem ni_LW_get : ny_LW_get.cls = nr_LW ∧ ny_LW_get.cls ≠ "java/lang/invoke/MethodHandle" ∧ ny_LW_get.cls ≠ "java/lang/invoke/VarHandle" ∧ (parseMethodDescriptor ny_LW_get.desc).map (fun d => d.parameters.length) = some 4 := by decide +kernel
theorem ns_LW_get : Cond.static ny_LW_get ∈ wl := wl_t2 73 rfl rfl
theorem ni_LW_next : ny_LW_next.cls = nr_LW ∧ ny_LW_next.cls ≠ "java/lang/invoke/MethodHandle" ∧ ny_LW_next.cls ≠ "java/lang/invoke/VarHandle" ∧ (parseMethodDescriptor ny_LW_next.desc).map (fun d => d.parameters.length) = some 4 := by decide +kernel
theorem ns_LW_next : Cond.static ny_LW_next ∈ wl := wl_t2 89 rfl rfl
theorem ni_LW_count : ny_LW_count.cls = nr_LW ∧ ny_LW_count.cls ≠ "java/lang/invoke/MethodHandle" ∧ ny_LW_count.cls ≠ "java/lang/invoke/VarHandle" ∧ (parseMethodDescriptor ny_LW_count.desc).map (fun d => d.parameters.length) = some 3 := by decide +kernel
theorem ns_LW_count : Cond.static ny_LW_count ∈ wl := wl_t2 99 rfl rfl
theorem ni_LW_nodes : ny_LW_nodes.cls = nr_LW ∧ ny_LW_nodes.cls ≠ "java/lang/invoke/MethodHandle" ∧ ny_LW_nodes.cls ≠ "java/lang/invoke/VarHandle" ∧ (parseMethodDescriptor ny_LW_nodes.desc).map (fun d => d.parameters.length) = some 3 := by decide +kernel
theorem ns_LW_nodes : Cond.static ny_LW_nodes ∈ wl := wl_t2 110 rfl rfl
theorem ni_LW_shared : ny_LW_shared.cls = nr_LW ∧ ny_LW_shared.cls ≠ "java/lang/invoke/MethodHandle" ∧ ny_LW_shared.cls ≠ "java/lang/invoke/VarHandle" ∧ (parseMethodDescriptor ny_LW_shared.desc).map (fun d => d.parameters.length) = some 4 := by decide +kernel
theorem ns_LW_shared : Cond.static ny_LW_shared ∈ wl := wl_t2 117 rfl rfl
theorem ni_LW_differ : ny_LW_differ.cls = nr_LW ∧ ny_LW_differ.cls ≠ "java/lang/invoke/MethodHandle" ∧ ny_LW_differ.cls ≠ "java/lang/invoke/VarHandle" ∧ (parseMethodDescriptor ny_LW_differ.desc).map (fun d => d.parameters.length) = some 4 := by decide +kernel
theorem ns_LW_differ : Cond.static ny_LW_differ ∈ wl := wl_t2 124 rfl rfl
theorem ni_LW_snapshot : ny_LW_snapshot.cls = nr_LW ∧ ny_LW_snapshot.cls ≠ "java/lang/invoke/MethodHandle" ∧ ny_LW_snapshot.cls ≠ "java/lang/invoke/VarHandle" ∧ (parseMethodDescriptor ny_LW_snapshot.desc).map (fun d => d.parameters.length) = some 2 := by decide +kernel
theorem ns_LW_snapshot : Cond.static ny_LW_snapshot ∈ wl := wl_t2 135 rfl rfl
theorem ni_LW_rollback : ny_LW_rollback.cls = nr_LW ∧ ny_LW_rollback.cls ≠ "java/lang/invoke/MethodHandle" ∧ ny_LW_rollback.cls ≠ "java/lang/invoke/VarHandle" ∧ (parseMethodDescriptor ny_LW_rollback.desc).map (fun d => d.parameters.length) = some 3 := by decide +kernel
theorem ns_LW_rollback : Cond.static ny_LW_rollback ∈ wl := wl_t2 151 rfl rfl
theorem ni_LW_drop : ny_LW_drop.cls = nr_LW ∧ ny_LW_drop.cls ≠ "java/lang/invoke/MethodHandle" ∧ ny_LW_drop.cls ≠ "java/lang/invoke/VarHandle" ∧ (parseMethodDescriptor ny_LW_drop.desc).map (fun d => d.parameters.length) = some 3 := by decide +kernel
theorem ns_LW_drop : Cond.static ny_LW_drop ∈ wl := wl_t2 163 rfl rfl
theorem ni_LW_commit : ny_LW_commit.cls = nr_LW ∧ ny_LW_commit.cls ≠ "java/lang/invoke/MethodHandle" ∧ ny_LW_commit.cls ≠ "java/lang/invoke/VarHandle" ∧ (parseMethodDescriptor ny_LW_commit.desc).map (fun d => d.parameters.length) = some 2 := by decide +kernel
theorem ns_LW_commit : Cond.static ny_LW_commit ∈ wl := wl_t2 170 rfl rfl
theorem ni_LW_free : ny_LW_free.cls = nr_LW ∧ ny_LW_free.cls ≠ "java/lang/invoke/MethodHandle" ∧ ny_LW_free.cls ≠ "java/lang/invoke/VarHandle" ∧ (parseMethodDescriptor ny_LW_free.desc).map (fun d => d.parameters.length) = some 2 := by decide +kernel
theorem ns_LW_free : Cond.static ny_LW_free ∈ wl := wl_t2 190 rfl rfl
theorem ni_LW_due : ny_LW_due.cls = nr_LW ∧ ny_LW_due.cls ≠ "java/lang/invoke/MethodHandle" ∧ ny_LW_due.cls ≠ "java/lang/invoke/VarHandle" ∧ (parseMethodDescriptor ny_LW_due.desc).map (fun d => d.parameters.length) = some 2 := by decide +kernel
theorem ns_LW_due : Cond.static ny_LW_due ∈ wl := wl_t2 197 rfl rfl
end
section
/-! contracts over the whole world: ct_I an answer, ct_V none; their bodies, ends and calls -/
def ct_P (Y : sy_Y) (as : List Value) (M U : me_M) (o : Int64) : Array Value → State → Prop := va_Pc as (fun S => sy_ok Y S S.heap ∧ va_P Y.1 sy_cl (sy_w Y M U o) S.heap)
def ct_Qi (Y : sy_Y) (r : Int32) (M U : me_M) (o : Int64) : Array Value → State → Outcome → State → Prop := va_Qi (fun r2 (_ : Unit) => r2 = r) (fun _ t => va_P Y.1 sy_cl (sy_w Y M U o) t.heap) Y.2.2.2
def ct_Qv (Y : sy_Y) (M U : me_M) (o : Int64) : Array Value → State → Outcome → State → Prop := va_Qv (fun (_ : Unit) => True) (fun _ t => va_P Y.1 sy_cl (sy_w Y M U o) t.heap) Y.2.2.2
abbrev ct_I (l : Launch) (y : MethodName) (b : ByteArray) (n : Nat) (ret : Option FieldType) (rm : Room) (Y : sy_Y) (as : List Value) (M U : me_M) (o : Int64) (r : Int32) (M' U' : me_M) (o' : Int64) : Prop := Met l y (.code y b n ret :: wl) rm (ct_P Y as M U o) (ct_Qi Y r M' U' o') 0 0 Y.2.2.2
abbrev ct_V (l : Launch) (y : MethodName) (b : ByteArray) (n : Nat) (rm : Room) (Y : sy_Y) (as : List Value) (M U : me_M) (o : Int64) (M' U' : me_M) (o' : Int64) : Prop := Met l y (.code y b n none :: wl) rm (ct_P Y as M U o) (ct_Qv Y M' U' o') 0 0 Y.2.2.2
theorem ct_blind (Y : sy_Y) (as : List Value) (M U : me_M) (o : Int64) : FrameBlind (ct_P Y as M U o) := by
  intro a S g mk h
  obtain ⟨h1, h2, h3⟩ := h
  exact ⟨h1, sy_ok_go (s := S) (U := S.calling g mk a) (H := S.heap) (locs := []) (State.WarmedH.refl S) va_S.rf h2, h3⟩
theorem ct_body {l : Launch} {y : MethodName} {b : ByteArray} {n : Nat} {ret : Option FieldType} {rm : Room} {Y : sy_Y} {as : List Value} {M U : me_M} {o : Int64} {Qc : Array Value → State → Outcome → State → Prop} {own : String} (hy : plainName y.cls = true) (ho : y.cls = own) (hlen : (lg_sl as).length ≤ n) {L0 : List (Nat × Value)} (hL0 : lv_args 0 as = L0)
    (body : ∀ (p : Program) (e : Env) (s : State) (m : MethodId) (args : Array Value) (below : List Frame) (meth : Method) (c : Code), vv_fix p s m args meth c b n ret own Y → vv p l e rm s m args below meth c 0 0 (MQ below Qc args s 0 0 Y.2.2.2) n Y M U o 0 L0 []) :
    Met l y (.code y b n ret :: wl) rm (ct_P Y as M U o) Qc 0 0 Y.2.2.2 := by
  refine Met.ofW (cc := b) (maxL := n) (ret := ret) hy rfl ?_
  intro p e s m args below meth c s₁ B hml hv
  obtain ⟨rfl, hok, hP⟩ := hv
  have hown : s.vm.findClass y.cls = some m.cls := findClass_of_methodNamed B.named
  have fx : vv_fix p s m as.toArray meth c b n ret own Y := ⟨B.exec, B.bytes, hml, by rw [← ho]; exact hown, fun w hw => atoms_spec (ws := .code y b n ret :: wl) B.pre w (List.mem_cons_of_mem _ hw), hok, B.returns, B.notSynchronized⟩
  have hl := lv_entry as (n := n) hlen
  rw [hL0] at hl
  rw [lg_entry_eq]
  exact body p e s m as.toArray below meth c fx s.heap [] _ hP va_S.rf hl
theorem ct_good {own C : String} {index n : Nat} {y : MethodName} {b : ByteArray} {ret : Option FieldType} (h5 : Cond.code y b n ret ∈ wl) : GoodIn wl (.code y b n ret :: wl) := by
  intro w hw
  have h : w ∈ wl := (List.mem_cons.mp hw).elim (fun e => by rw [e]; exact h5) id
  exact ⟨h, good_of_word (wl_good h)⟩
theorem ct_goodL {L ws : List Cond} (h1 : ∀ w ∈ L, w ∈ wl) (h2 : GoodIn wl ws) : GoodIn wl (L ++ ws) := fun w hw => (List.mem_append.mp hw).elim (fun h => ⟨h1 w h, good_of_word (wl_good (h1 w h))⟩) (h2 w)
section
variable {p : Program} {l : Launch} {e : Env} {R : Room} {s : State} {m : MethodId} {args : Array Value} {below : List Frame} {meth : Method} {c : Code} {cells slots : Nat} {Q : State → Prop}
variable {cc : ByteArray} {nL : Nat} {ret : Option FieldType} {own : String} {Y : sy_Y} {M U M' U' : me_M} {o o' : Int64} {pc : Nat} {L L' : List (Nat × Value)} {st : List Value}
theorem vv_iret (fx : vv_fix p s m args meth c cc nL ret own Y) (hret : ret = some .int) (hd : decode cc pc = .ok (.ireturn, 1)) {x r : Int32} (e9 : x = r) : vv p l e R s m args below meth c cells slots (MQ below (ct_Qi Y r M U o) args s cells slots Y.2.2.2) nL Y M U o pc L [.int x] := fun H locs ls hP hS hl =>
  W.iret (v := x) fx.1 fx.2.1 (fx.2.2.2.2.2.2.1.trans hret) (fun t ht hW => ⟨⟨x, (), rfl, e9, by show va_P _ _ _ t.heap; rw [ht]; exact hP⟩, hS.F ht⟩) hS.2.2 hd fx.2.2.2.2.2.2.2
theorem vv_zret (fx : vv_fix p s m args meth c cc nL ret own Y) (hret : ret = some .boolean) (hd : decode cc pc = .ok (.ireturn, 1)) {x r : Int32} (e9 : x = r) (h01 : r = 0 ∨ r = 1) : vv p l e R s m args below meth c cells slots (MQ below (ct_Qi Y r M U o) args s cells slots Y.2.2.2) nL Y M U o pc L [.int x] := fun H locs ls hP hS hl =>
  W.zret (v := x) fx.1 fx.2.1 (fx.2.2.2.2.2.2.1.trans hret) (by rw [e9]; rcases h01 with rfl | rfl <;> rfl) (fun t ht hW => ⟨⟨x, (), rfl, e9, by show va_P _ _ _ t.heap; rw [ht]; exact hP⟩, hS.F ht⟩) hS.2.2 hd fx.2.2.2.2.2.2.2
theorem vv_vret (fx : vv_fix p s m args meth c cc nL ret own Y) (hret : ret = none) (hd : decode cc pc = .ok (.return_, 1)) : vv p l e R s m args below meth c cells slots (MQ below (ct_Qv Y M U o) args s cells slots Y.2.2.2) nL Y M U o pc L [] := fun H locs ls hP hS hl =>
  W.vret fx.1 fx.2.1 (fx.2.2.2.2.2.2.1.trans hret) (fun t ht hW => ⟨⟨(), rfl, trivial, by show va_P _ _ _ t.heap; rw [ht]; exact hP⟩, hS.F ht⟩) hS.2.2 hd fx.2.2.2.2.2.2.2
/-- the words and the room of a call -/
def ct_C (R rm : Room) (n : Nat) : Prop := rm.cells = 0 ∧ rm.slots = 0 ∧ rm.frames + 1 ≤ R.frames ∧ 8 + (n + 11) + rm.locals ≤ R.locals
theorem vv_callVi (fx : vv_fix p s m args meth c cc nL ret own Y) {y : MethodName} {b2 : ByteArray} {n2 : Nat} {ret2 : Option FieldType} {rm2 : Room} {a : Nat} {As : List Value} {r : Int32} {C : String} {T : u_T} {N ci index : Nat} {fs : List Value} (hct : ct_I l y b2 n2 ret2 rm2 Y (.ref a :: As) M U o r M' U' o')
    (h1 : Cond.methodLink own index y ∈ wl) (h2 : Cond.instanceMethod y ∈ wl) (h3 : Cond.selects C y y ∈ wl) (h4 : Cond.initialized C ∈ wl) (h5 : Cond.code y b2 n2 ret2 ∈ wl) (hi : y.cls = C ∧ y.cls ≠ "java/lang/invoke/MethodHandle" ∧ y.cls ≠ "java/lang/invoke/VarHandle" ∧ (parseMethodDescriptor y.desc).map (fun d => d.parameters.length) = some As.length)
    (q0 : Nat) (he : (sy_w Y M U o)[q0]? = some (a, .inr (ci, fs))) (hc : sy_cl[ci]? = some (C, T, N)) (hR : ct_C R rm2 n2) (hcs : cells ≤ R.cells ∧ slots ≤ R.slots) (hst : (st.map fun v => v.category).sum ≤ 8) (hd : decode cc pc = .ok (.invokevirtual index, 3)) {S9 : List Value} (hS9 : S9 = As.reverse ++ .ref a :: st)
    (kk : vv p l e R s m args below meth c cells slots Q nL Y M' U' o' (pc + 3) L (.int r :: st)) : vv p l e R s m args below meth c cells slots Q nL Y M U o pc L S9 := fun H locs ls hP hS hl => by
  subst hS9
  obtain ⟨hx, hb, hml, hown, hts, hok, -, -⟩ := id fx
  have hG : GoodIn wl (wsV own index C y (.code y b2 n2 ret2 :: wl)) := ct_goodL (fun w hw => by
    simp only [List.mem_cons, List.not_mem_nil, or_false] at hw
    rcases hw with rfl | rfl | rfl | rfl
    · exact h1
    · exact h2
    · exact h3
    · exact h4) (ct_good (own := own) (C := C) (index := index) h5)
  refine va_calli (va_runV (As := As) (rest := st) ⟨hx, hb, hml, hown, hts⟩ hct (cwV As.length hts hG rfl hR.1 hR.2.1 hi ⟨hR.2.2.1, hR.2.2.2⟩) ⟨ct_blind Y _ M U o, va_recv hok.1 hP hc he, fun S hS1 hW => ⟨rfl, by rw [hS1]; exact sy_ok_go hW hS hok, by rw [hS1]; exact hP⟩⟩ rfl rfl hl.1 rfl (lv_room hst) hd ⟨hcs.1, hcs.2⟩) hS (fun q _ h => h) (fun q h => h) (fun r2 u t H1 locs1 ht hvm hr hB _ _ hS1 => ?_)
  subst hr
  exact kk H1 locs1 ls (by rw [← ht]; exact hB) hS1 hl
theorem vv_callVv (fx : vv_fix p s m args meth c cc nL ret own Y) {y : MethodName} {b2 : ByteArray} {n2 : Nat} {rm2 : Room} {a : Nat} {As : List Value} {C : String} {T : u_T} {N ci index : Nat} {fs : List Value} (hct : ct_V l y b2 n2 rm2 Y (.ref a :: As) M U o M' U' o')
    (h1 : Cond.methodLink own index y ∈ wl) (h2 : Cond.instanceMethod y ∈ wl) (h3 : Cond.selects C y y ∈ wl) (h4 : Cond.initialized C ∈ wl) (h5 : Cond.code y b2 n2 none ∈ wl) (hi : y.cls = C ∧ y.cls ≠ "java/lang/invoke/MethodHandle" ∧ y.cls ≠ "java/lang/invoke/VarHandle" ∧ (parseMethodDescriptor y.desc).map (fun d => d.parameters.length) = some As.length)
    (q0 : Nat) (he : (sy_w Y M U o)[q0]? = some (a, .inr (ci, fs))) (hc : sy_cl[ci]? = some (C, T, N)) (hR : ct_C R rm2 n2) (hcs : cells ≤ R.cells ∧ slots ≤ R.slots) (hst : (st.map fun v => v.category).sum ≤ 8) (hd : decode cc pc = .ok (.invokevirtual index, 3)) {S9 : List Value} (hS9 : S9 = As.reverse ++ .ref a :: st)
    (kk : vv p l e R s m args below meth c cells slots Q nL Y M' U' o' (pc + 3) L st) : vv p l e R s m args below meth c cells slots Q nL Y M U o pc L S9 := fun H locs ls hP hS hl => by
  subst hS9
  obtain ⟨hx, hb, hml, hown, hts, hok, -, -⟩ := id fx
  have hG : GoodIn wl (wsV own index C y (.code y b2 n2 none :: wl)) := ct_goodL (fun w hw => by
    simp only [List.mem_cons, List.not_mem_nil, or_false] at hw
    rcases hw with rfl | rfl | rfl | rfl
    · exact h1
    · exact h2
    · exact h3
    · exact h4) (ct_good (own := own) (C := C) (index := index) h5)
  refine va_callv (va_runV (As := As) (rest := st) ⟨hx, hb, hml, hown, hts⟩ hct (cwV As.length hts hG rfl hR.1 hR.2.1 hi ⟨hR.2.2.1, hR.2.2.2⟩) ⟨ct_blind Y _ M U o, va_recv hok.1 hP hc he, fun S hS1 hW => ⟨rfl, by rw [hS1]; exact sy_ok_go hW hS hok, by rw [hS1]; exact hP⟩⟩ rfl rfl hl.1 rfl (lv_room hst) hd ⟨hcs.1, hcs.2⟩) hS (fun q _ h => h) (fun q h => h) (fun u t H1 locs1 ht hvm hr hB _ _ hS1 => ?_)
  exact kk H1 locs1 ls (by rw [← ht]; exact hB) hS1 hl
theorem vv_callSi (fx : vv_fix p s m args meth c cc nL ret own Y) {y : MethodName} {b2 : ByteArray} {n2 : Nat} {ret2 : Option FieldType} {rm2 : Room} {As : List Value} {r : Int32} {index : Nat} (hct : ct_I l y b2 n2 ret2 rm2 Y As M U o r M' U' o')
    (h1 : Cond.methodLink own index y ∈ wl) (h2 : Cond.static y ∈ wl) (h4 : Cond.initialized own ∈ wl) (h5 : Cond.code y b2 n2 ret2 ∈ wl) (hi : y.cls = own ∧ y.cls ≠ "java/lang/invoke/MethodHandle" ∧ y.cls ≠ "java/lang/invoke/VarHandle" ∧ (parseMethodDescriptor y.desc).map (fun d => d.parameters.length) = some As.length)
    (hR : ct_C R rm2 n2) (hcs : cells ≤ R.cells ∧ slots ≤ R.slots) (hst : (st.map fun v => v.category).sum ≤ 8) (hd : decode cc pc = .ok (.invokestatic index, 3)) {S9 : List Value} (hS9 : S9 = As.reverse ++ st)
    (kk : vv p l e R s m args below meth c cells slots Q nL Y M' U' o' (pc + 3) L (.int r :: st)) : vv p l e R s m args below meth c cells slots Q nL Y M U o pc L S9 := fun H locs ls hP hS hl => by
  subst hS9
  obtain ⟨hx, hb, hml, hown, hts, hok, -, -⟩ := id fx
  have hG : GoodIn wl (wsS own index y (.code y b2 n2 ret2 :: wl)) := ct_goodL (fun w hw => by
    simp only [List.mem_cons, List.not_mem_nil, or_false] at hw
    rcases hw with rfl | rfl | rfl
    · exact h1
    · exact h2
    · exact h4) (ct_good (own := own) (C := own) (index := index) h5)
  refine va_calli (va_runS (As := As) (rest := st) ⟨hx, hb, hml, hown, hts⟩ hct (cwS As.length hts hG rfl hR.1 hR.2.1 hi ⟨hR.2.2.1, hR.2.2.2⟩) ⟨ct_blind Y _ M U o, fun S hS1 hW => ⟨rfl, by rw [hS1]; exact sy_ok_go hW hS hok, by rw [hS1]; exact hP⟩⟩ rfl rfl hl.1 rfl (lv_room hst) hd ⟨hcs.1, hcs.2⟩) hS (fun q _ h => h) (fun q h => h) (fun r2 u t H1 locs1 ht hvm hr hB _ _ hS1 => ?_)
  subst hr
  exact kk H1 locs1 ls (by rw [← ht]; exact hB) hS1 hl
end
end
section
/-! System.arraycopy between int arrays of the world, from their beginnings -/
theorem nx_nat : Cond.native arraycopyName ∈ wl := wl_t1 50 rfl rfl
theorem nx_sta : Cond.static arraycopyName ∈ wl := wl_t1 49 rfl rfl
theorem nx_ini : Cond.initialized "java/lang/System" ∈ wl := wl_t1 4 rfl rfl
section
variable {p : Program} {l : Launch} {e : Env} {R : Room} {s : State} {m : MethodId} {args : Array Value} {below : List Frame} {meth : Method} {c : Code} {cells slots : Nat} {Q : State → Prop}
variable {cc : ByteArray} {nL : Nat} {ret : Option FieldType} {own : String} {Y : sy_Y} {M U M' U' : me_M} {o o' : Int64} {pc : Nat} {L L' : List (Nat × Value)} {st : List Value}
theorem vv_copy (fx : vv_fix p s m args meth c cc nL ret own Y) {index : Nat} (h1 : Cond.methodLink own index arraycopyName ∈ wl) (q0 q1 : Nat) {a0 a n0 n1 : Nat} {f g : Nat → Int32} (ha0 : (sy_w Y M U o)[q0]? = some (a0, .inl (Y.2.2.1 0, n0, .inl f))) (ha1 : (sy_w Y M U o)[q1]? = some (a, .inl (Y.2.2.1 0, n1, .inl g))) {n : Nat} (hn0 : n ≤ n0) (hn1 : n ≤ n1) (hn : n < 2 ^ 31)
    (hframes : 1 ≤ R.frames) (hlocals : (st.map fun v => v.category).sum + (nativeFrameWords "java/lang/System" "arraycopy" 5 + 11) ≤ R.locals) (hd : decode cc pc = .ok (.invokestatic index, 3)) (hw : (sy_w Y M U o).set q1 (a, .inl (Y.2.2.1 0, n1, .inl (va_cpy f g 0 0 n))) = sy_w Y M' U' o)
    (kk : vv p l e R s m args below meth c cells slots Q nL Y M' U' o (pc + 3) L st) : vv p l e R s m args below meth c cells slots Q nL Y M U o pc L (.int (nI n) :: .int (nI 0) :: .ref a :: .int (nI 0) :: .ref a0 :: st) := fun H locs ls hP hS hl => by
  obtain ⟨hx, hb, hml, hown, hts, hok, -, -⟩ := id fx
  refine va_copyi (D := Y.1) (cl := sy_cl) (tys := sy_tys Y) (ty := .int) hx hb (hml.trans hl.1.symm) hown (hts _ h1) (hts _ nx_nat) (hts _ nx_sta) (hts _ nx_ini) hok.1 hP (hok.2.2.1 M U o) hS q0 q1 0 0 ha0 ha1 rfl rfl rfl (nI_pos (by decide)) (nI_pos (by decide)) (nI_pos hn) (by rw [nI_clamp hn, nI_clamp (by decide)]; omega) (by rw [nI_clamp hn, nI_clamp (by decide)]; omega) (fun _ _ => rfl) hframes hlocals hd (fun H1 locs1 hP1 _ hS1 => ?_)
  rw [nI_clamp hn, nI_clamp (by decide), hw] at hP1
  exact kk H1 locs1 ls hP1 hS1 hl
end
end
section
/-! Room's methods: contracts (printed by room.py) -/
theorem fb_shr {k lv : Nat} (hk : k < 64) (hlv : lv < 3) : nI k >>> (nI (2 * (2 - lv)) &&& 31) = nI (k / 4 ^ (2 - lv)) := by
  match lv, hlv with
  | 0, _ => exact pk_shrN (by omega) _ 4 (by decide)
  | 1, _ => exact pk_shrN (by omega) _ 2 (by decide)
  | 2, _ => exact pk_shrN (by omega) _ 0 (by decide)
theorem fb_and3 (k lv : Nat) : nI (k / 4 ^ (2 - lv)) &&& nI 3 = nI (fb_tn k lv) := by
  unfold fb_tn
  generalize k / 4 ^ (2 - lv) = x
  have h : nI x = nI (x % 2 ^ 32) := by
    apply Int32.toBitVec_inj.1
    show BitVec.ofNat 32 x = BitVec.ofNat 32 (x % 2 ^ 32)
    apply BitVec.eq_of_toNat_eq
    simp
  rw [h, pk_andN (by omega) 2 (by decide)]
  congr 1
  omega
set_option maxRecDepth 4000 in
theorem cc_RM_turnOf (l : Launch) (Y : sy_Y) (M U : me_M) (o : Int64) (k lv : Nat) (hk : k < 64) (hlv : lv < 3) : ct_I l ny_RM_turnOf nb_RM_turnOf 2 (some .int) { frames := 0, cells := 0, slots := 0, locals := 0 } Y [.int (nI k), .int (nI lv)] M U o (nI (fb_tn k lv)) M U o := by
  refine ct_body (own := nr_RM) (L0 := [(0, .int (nI k)), (1, .int (nI lv))]) (by decide) rfl (Nat.le_of_ble_eq_true rfl) rfl ?_
  intro p e s m args below meth c fx
  refine vv_iload_n fx nd_RM_turnOf_0 rfl 0 rfl ?_
  refine vv_iconst (v := nI 2) fx nd_RM_turnOf_1 (by decide) ?_
  refine vv_iconst (v := nI 2) fx nd_RM_turnOf_2 (by decide) ?_
  refine vv_iload_n fx nd_RM_turnOf_3 rfl 1 rfl ?_
  refine vv_isub fx nd_RM_turnOf_4 ?_
  refine vv_top (y := nI (2 - lv)) (pk_sub (by omega)) ?_
  refine vv_imul fx nd_RM_turnOf_5 ?_
  refine vv_top (y := nI (2 * (2 - lv))) (pk_mul _ _) ?_
  refine vv_ishr fx nd_RM_turnOf_6 ?_
  refine vv_top (y := nI (k / 4 ^ (2 - lv))) (fb_shr hk hlv) ?_
  refine vv_iconst (v := nI 3) fx nd_RM_turnOf_7 (by decide) ?_
  refine vv_iand fx nd_RM_turnOf_8 ?_
  refine vv_top (y := nI (fb_tn k lv)) (fb_and3 _ _) ?_
  exact vv_iret fx rfl nd_RM_turnOf_9 (rfl)
set_option maxRecDepth 4000 in
theorem cc_RM_bitOf (l : Launch) (Y : sy_Y) (M U : me_M) (o : Int64) (k lv : Nat) (hk : k < 64) (hlv : lv < 3) : ct_I l ny_RM_bitOf nb_RM_bitOf 2 (some .int) { frames := 1, cells := 0, slots := 0, locals := 21 } Y [.int (nI k), .int (nI lv)] M U o (fb_bit k lv) M U o := by
  refine ct_body (own := nr_RM) (L0 := [(0, .int (nI k)), (1, .int (nI lv))]) (by decide) rfl (Nat.le_of_ble_eq_true rfl) rfl ?_
  intro p e s m args below meth c fx
  refine vv_iconst (v := 1) fx nd_RM_bitOf_0 (by decide) ?_
  refine vv_iload_n fx nd_RM_bitOf_1 rfl 0 rfl ?_
  refine vv_iload_n fx nd_RM_bitOf_2 rfl 1 rfl ?_
  refine vv_callSi fx (cc_RM_turnOf l Y M U o k lv hk hlv) nm_RM_35 ns_RM_turnOf nz_RM nc_RM_turnOf ni_RM_turnOf ⟨rfl, rfl, by decide, by decide⟩ ⟨Nat.le_of_ble_eq_true rfl, Nat.le_of_ble_eq_true rfl⟩ (Nat.le_of_ble_eq_true rfl) nd_RM_bitOf_3 rfl ?_
  refine vv_ishl fx nd_RM_bitOf_6 ?_
  exact vv_iret fx rfl nd_RM_bitOf_7 (rfl)
def fb_pk (M : me_M) (r k lv : Nat) : Prop := ∀ i, i < lv → fb_na M r k i < 61 ∧ M (6 + fb_na M r k i) (fb_tn k i) = nI (fb_na M r k (i + 1))
theorem fb_pk_wf {M : me_M} {r : Nat} (h : fb_wf M r) (k : Nat) : fb_pk M r k 2 ∧ ∀ i, i < 3 → fb_na M r k i < 61 := by
  obtain ⟨h1, h2, h3⟩ := h
  have a1 := h2 (fb_tn k 0) (fb_tn_lt k 0)
  have a2 := h3 (fb_tn k 0) (fb_tn_lt k 0) (fb_tn k 1) (fb_tn_lt k 1)
  refine ⟨fun i hi => ?_, fun i hi => ?_⟩
  · match i, hi with
    | 0, _ => exact ⟨by show r < 61; omega, a1.1⟩
    | 1, _ => exact ⟨by show fb_ch M r (fb_tn k 0) < 61; omega, a2.1⟩
  · match i, hi with
    | 0, _ => show r < 61; omega
    | 1, _ => show fb_ch M r (fb_tn k 0) < 61; omega
    | 2, _ => show fb_ch M (fb_ch M r (fb_tn k 0)) (fb_tn k 1) < 61; omega
theorem fb_pk_le {M : me_M} {r k a b : Nat} (h : fb_pk M r k b) (hab : a ≤ b) : fb_pk M r k a := fun i hi => h i (by omega)
theorem fb_bd1 {M : me_M} {r k : Nat} (h : ¬ M 0 (fb_na M r k 2) &&& fb_bit k 2 = 0) : nI 1 = if fb_bd M r k = true then 1 else 0 := by
  have e : fb_bd M r k = true := decide_eq_true h
  rw [if_pos e]; rfl
theorem fb_bd0 {M : me_M} {r k : Nat} (h : M 0 (fb_na M r k 2) &&& fb_bit k 2 = 0) : nI 0 = if fb_bd M r k = true then 1 else 0 := by
  have e : ¬ fb_bd M r k = true := fun z => (of_decide_eq_true z : M 0 (fb_na M r k 2) &&& fb_bit k 2 ≠ 0) h
  rw [if_neg e]; rfl
theorem fb_01 (b : Bool) : (if b = true then (1 : Int32) else 0) = 0 ∨ (if b = true then (1 : Int32) else 0) = 1 := by cases b <;> simp
theorem fb_hne1 {M : me_M} {r k lv : Nat} (h : M 0 (fb_na M r k lv) = fb_bit k lv) : nI 1 = if fb_hne M r k lv = true then 1 else 0 := by
  have e : fb_hne M r k lv = true := decide_eq_true h
  rw [if_pos e]; rfl
theorem fb_hne0 {M : me_M} {r k lv : Nat} (h : ¬ M 0 (fb_na M r k lv) = fb_bit k lv) : nI 0 = if fb_hne M r k lv = true then 1 else 0 := by
  have e : ¬ fb_hne M r k lv = true := fun z => h (of_decide_eq_true z)
  rw [if_neg e]; rfl
set_option maxRecDepth 4000 in
theorem cc_RM_nodeAt (l : Launch) (Y : sy_Y) (M U : me_M) (o : Int64) (r k lv : Nat) (hk : k < 64) (hlv : lv < 3) (hp : fb_pk M r k lv) : ct_I l ny_RM_nodeAt nb_RM_nodeAt 6 (some .int) { frames := 1, cells := 0, slots := 0, locals := 21 } Y [.ref (Y.2.1 1), .int (nI r), .int (nI k), .int (nI lv)] M U o (nI (fb_na M r k lv)) M U o := by
  refine ct_body (own := nr_RM) (L0 := [(0, .ref (Y.2.1 1)), (1, .int (nI r)), (2, .int (nI k)), (3, .int (nI lv))]) (by decide) rfl (Nat.le_of_ble_eq_true rfl) rfl ?_
  intro p e s m args below meth c fx
  refine vv_iload_n fx nd_RM_nodeAt_0 rfl 1 rfl ?_
  refine vv_istore (L' := [(0, .ref (Y.2.1 1)), (1, .int (nI r)), (2, .int (nI k)), (3, .int (nI lv)), (4, .int (nI r))]) fx nd_RM_nodeAt_1 (by decide) [1, 2, 3, 4, 0] rfl ?_
  refine vv_iconst (v := nI 0) fx nd_RM_nodeAt_3 (by decide) ?_
  refine vv_istore (L' := [(0, .ref (Y.2.1 1)), (1, .int (nI r)), (2, .int (nI k)), (3, .int (nI lv)), (4, .int (nI r)), (5, .int (nI 0))]) fx nd_RM_nodeAt_4 (by decide) [1, 2, 3, 4, 5, 0] rfl ?_
  have loop : ∀ d i, i + d = lv → vv p l e { frames := 1, cells := 0, slots := 0, locals := 21 } s m args below meth c 0 0 (MQ below (ct_Qi Y (nI (fb_na M r k lv)) M U o) args s 0 0 Y.2.2.2) 6 Y M U o 6 [(0, .ref (Y.2.1 1)), (1, .int (nI r)), (2, .int (nI k)), (3, .int (nI lv)), (4, .int (nI (fb_na M r k i))), (5, .int (nI i))] [] := by
    intro d
    induction d with
    | zero =>
      intro i hi
      refine vv_iload fx nd_RM_nodeAt_6 5 rfl ?_
      refine vv_iload_n fx nd_RM_nodeAt_8 rfl 3 rfl ?_
      refine vv_icmp_ge (tgt := 34) fx nd_RM_nodeAt_9 (by decide) (fun _ => ?_) (fun hb => absurd (nI_le (by omega) (by omega)) hb)
      refine vv_iload fx nd_RM_nodeAt_34 4 rfl ?_
      exact vv_iret fx rfl nd_RM_nodeAt_36 (by rw [show i = lv by omega])
    | succ d ih =>
      intro i hi
      obtain ⟨h1, h2⟩ := hp i (by omega)
      refine vv_iload fx nd_RM_nodeAt_6 5 rfl ?_
      refine vv_iload_n fx nd_RM_nodeAt_8 rfl 3 rfl ?_
      refine vv_icmp_ge (tgt := 34) fx nd_RM_nodeAt_9 (by decide) (fun hb => absurd hb (nI_ge (by omega) (by omega))) (fun _ => ?_)
      refine vv_aload_n fx nd_RM_nodeAt_12 rfl 0 rfl ?_
      refine vv_get (ci := 1) (C := nr_RM) (T := nt_RM) (N := 4) fx nt_RM_in 1 rfl rfl 0 (by decide) nf_RM_13 rfl nd_RM_nodeAt_13 ?_
      refine vv_iload fx nd_RM_nodeAt_16 4 rfl ?_
      refine vv_aald fx (h1) nd_RM_nodeAt_18 ?_
      refine vv_iload_n fx nd_RM_nodeAt_19 rfl 2 rfl ?_
      refine vv_iload fx nd_RM_nodeAt_20 5 rfl ?_
      refine vv_callSi fx (cc_RM_turnOf l Y M U o k i hk (by omega)) nm_RM_35 ns_RM_turnOf nz_RM nc_RM_turnOf ni_RM_turnOf ⟨rfl, rfl, by decide, by decide⟩ ⟨Nat.le_of_ble_eq_true rfl, Nat.le_of_ble_eq_true rfl⟩ (Nat.le_of_ble_eq_true rfl) nd_RM_nodeAt_22 rfl ?_
      refine vv_iald fx (14 + (fb_na M r k i)) 0 (sy_row (h1)) rfl (fb_tn_lt _ _) (by decide) nd_RM_nodeAt_25 ?_
      refine vv_top (y := nI (fb_na M r k (i + 1))) (h2) ?_
      refine vv_istore (L' := [(0, .ref (Y.2.1 1)), (1, .int (nI r)), (2, .int (nI k)), (3, .int (nI lv)), (4, .int (nI (fb_na M r k (i + 1)))), (5, .int (nI i))]) fx nd_RM_nodeAt_26 (by decide) [1, 2, 3, 4, 0, 5] rfl ?_
      refine vv_iinc (v := nI (i + 1)) (L' := [(0, .ref (Y.2.1 1)), (1, .int (nI r)), (2, .int (nI k)), (3, .int (nI lv)), (4, .int (nI (fb_na M r k (i + 1)))), (5, .int (nI (i + 1)))]) fx nd_RM_nodeAt_28 5 rfl (nI_1 i) (by decide) [1, 2, 3, 4, 5, 0] rfl ?_
      refine vv_goto (tgt := 6) fx nd_RM_nodeAt_31 (by decide) ?_
      exact ih (i + 1) (by omega)
  exact loop lv 0 (by omega)
set_option maxRecDepth 4000 in
theorem cc_RM_binds (l : Launch) (Y : sy_Y) (M U : me_M) (o : Int64) (r k : Nat) (hk : k < 64) (hp : fb_pk M r k 2) (hq : fb_na M r k 2 < 61) : ct_I l ny_RM_binds nb_RM_binds 4 (some .boolean) { frames := 2, cells := 0, slots := 0, locals := 46 } Y [.ref (Y.2.1 1), .int (nI r), .int (nI k)] M U o (if fb_bd M r k = true then 1 else 0) M U o := by
  refine ct_body (own := nr_RM) (L0 := [(0, .ref (Y.2.1 1)), (1, .int (nI r)), (2, .int (nI k))]) (by decide) rfl (Nat.le_of_ble_eq_true rfl) rfl ?_
  intro p e s m args below meth c fx
  refine vv_aload_n fx nd_RM_binds_0 rfl 0 rfl ?_
  refine vv_iload_n fx nd_RM_binds_1 rfl 1 rfl ?_
  refine vv_iload_n fx nd_RM_binds_2 rfl 2 rfl ?_
  refine vv_iconst (v := nI 2) fx nd_RM_binds_3 (by decide) ?_
  refine vv_callVi (C := nr_RM) (T := nt_RM) (N := 4) (ci := 1) fx (cc_RM_nodeAt l Y M U o r k 2 hk (by omega) hp) nm_RM_27 ns_RM_nodeAt nv_RM_nodeAt nz_RM nc_RM_nodeAt ni_RM_nodeAt 1 rfl rfl ⟨rfl, rfl, by decide, by decide⟩ ⟨Nat.le_of_ble_eq_true rfl, Nat.le_of_ble_eq_true rfl⟩ (Nat.le_of_ble_eq_true rfl) nd_RM_binds_4 rfl ?_
  refine vv_istore_n (L' := [(0, .ref (Y.2.1 1)), (1, .int (nI r)), (2, .int (nI k)), (3, .int (nI (fb_na M r k 2)))]) fx nd_RM_binds_7 rfl (by decide) [1, 2, 3, 0] rfl ?_
  refine vv_aload_n fx nd_RM_binds_8 rfl 0 rfl ?_
  refine vv_get (ci := 1) (C := nr_RM) (T := nt_RM) (N := 4) fx nt_RM_in 1 rfl rfl 1 (by decide) nf_RM_16 rfl nd_RM_binds_9 ?_
  refine vv_iload_n fx nd_RM_binds_12 rfl 3 rfl ?_
  refine vv_iald fx 5 0 rfl rfl (hq) (by decide) nd_RM_binds_13 ?_
  refine vv_iload_n fx nd_RM_binds_14 rfl 2 rfl ?_
  refine vv_iconst (v := nI 2) fx nd_RM_binds_15 (by decide) ?_
  refine vv_callSi fx (cc_RM_bitOf l Y M U o k 2 hk (by omega)) nm_RM_31 ns_RM_bitOf nz_RM nc_RM_bitOf ni_RM_bitOf ⟨rfl, rfl, by decide, by decide⟩ ⟨Nat.le_of_ble_eq_true rfl, Nat.le_of_ble_eq_true rfl⟩ (Nat.le_of_ble_eq_true rfl) nd_RM_binds_16 rfl ?_
  refine vv_iand fx nd_RM_binds_19 ?_
  refine vv_if_eq (tgt := 27) fx nd_RM_binds_20 (by decide) (fun hb20 => ?_) (fun hb20 => ?_)
  · refine vv_iconst (v := nI 0) fx nd_RM_binds_27 (by decide) ?_
    exact vv_zret fx rfl nd_RM_binds_28 (fb_bd0 hb20) (fb_01 _)
  · refine vv_iconst (v := nI 1) fx nd_RM_binds_23 (by decide) ?_
    refine vv_goto (tgt := 28) fx nd_RM_binds_24 (by decide) ?_
    exact vv_zret fx rfl nd_RM_binds_28 (fb_bd1 hb20) (fb_01 _)
set_option maxRecDepth 4000 in
theorem cc_RM_valueOf (l : Launch) (Y : sy_Y) (M U : me_M) (o : Int64) (r k : Nat) (hk : k < 64) (hp : fb_pk M r k 2) (hq : fb_na M r k 2 < 61) : ct_I l ny_RM_valueOf nb_RM_valueOf 3 (some .int) { frames := 2, cells := 0, slots := 0, locals := 46 } Y [.ref (Y.2.1 1), .int (nI r), .int (nI k)] M U o (fb_val M r k) M U o := by
  refine ct_body (own := nr_RM) (L0 := [(0, .ref (Y.2.1 1)), (1, .int (nI r)), (2, .int (nI k))]) (by decide) rfl (Nat.le_of_ble_eq_true rfl) rfl ?_
  intro p e s m args below meth c fx
  refine vv_aload_n fx nd_RM_valueOf_0 rfl 0 rfl ?_
  refine vv_get (ci := 1) (C := nr_RM) (T := nt_RM) (N := 4) fx nt_RM_in 1 rfl rfl 0 (by decide) nf_RM_13 rfl nd_RM_valueOf_1 ?_
  refine vv_aload_n fx nd_RM_valueOf_4 rfl 0 rfl ?_
  refine vv_iload_n fx nd_RM_valueOf_5 rfl 1 rfl ?_
  refine vv_iload_n fx nd_RM_valueOf_6 rfl 2 rfl ?_
  refine vv_iconst (v := nI 2) fx nd_RM_valueOf_7 (by decide) ?_
  refine vv_callVi (C := nr_RM) (T := nt_RM) (N := 4) (ci := 1) fx (cc_RM_nodeAt l Y M U o r k 2 hk (by omega) hp) nm_RM_27 ns_RM_nodeAt nv_RM_nodeAt nz_RM nc_RM_nodeAt ni_RM_nodeAt 1 rfl rfl ⟨rfl, rfl, by decide, by decide⟩ ⟨Nat.le_of_ble_eq_true rfl, Nat.le_of_ble_eq_true rfl⟩ (Nat.le_of_ble_eq_true rfl) nd_RM_valueOf_8 rfl ?_
  refine vv_aald fx (hq) nd_RM_valueOf_11 ?_
  refine vv_iload_n fx nd_RM_valueOf_12 rfl 2 rfl ?_
  refine vv_iconst (v := nI 2) fx nd_RM_valueOf_13 (by decide) ?_
  refine vv_callSi fx (cc_RM_turnOf l Y M U o k 2 hk (by omega)) nm_RM_35 ns_RM_turnOf nz_RM nc_RM_turnOf ni_RM_turnOf ⟨rfl, rfl, by decide, by decide⟩ ⟨Nat.le_of_ble_eq_true rfl, Nat.le_of_ble_eq_true rfl⟩ (Nat.le_of_ble_eq_true rfl) nd_RM_valueOf_14 rfl ?_
  refine vv_iald fx (14 + (fb_na M r k 2)) 0 (sy_row (hq)) rfl (fb_tn_lt _ _) (by decide) nd_RM_valueOf_17 ?_
  exact vv_iret fx rfl nd_RM_valueOf_18 (rfl)
set_option maxRecDepth 4000 in
theorem cc_RM_holdsNothingElse (l : Launch) (Y : sy_Y) (M U : me_M) (o : Int64) (r k lv : Nat) (hk : k < 64) (hlv : lv < 3) (hp : fb_pk M r k lv) (hq : fb_na M r k lv < 61) : ct_I l ny_RM_holdsNothingElse nb_RM_holdsNothingElse 4 (some .boolean) { frames := 2, cells := 0, slots := 0, locals := 46 } Y [.ref (Y.2.1 1), .int (nI r), .int (nI k), .int (nI lv)] M U o (if fb_hne M r k lv = true then 1 else 0) M U o := by
  refine ct_body (own := nr_RM) (L0 := [(0, .ref (Y.2.1 1)), (1, .int (nI r)), (2, .int (nI k)), (3, .int (nI lv))]) (by decide) rfl (Nat.le_of_ble_eq_true rfl) rfl ?_
  intro p e s m args below meth c fx
  refine vv_aload_n fx nd_RM_holdsNothingElse_0 rfl 0 rfl ?_
  refine vv_get (ci := 1) (C := nr_RM) (T := nt_RM) (N := 4) fx nt_RM_in 1 rfl rfl 1 (by decide) nf_RM_16 rfl nd_RM_holdsNothingElse_1 ?_
  refine vv_aload_n fx nd_RM_holdsNothingElse_4 rfl 0 rfl ?_
  refine vv_iload_n fx nd_RM_holdsNothingElse_5 rfl 1 rfl ?_
  refine vv_iload_n fx nd_RM_holdsNothingElse_6 rfl 2 rfl ?_
  refine vv_iload_n fx nd_RM_holdsNothingElse_7 rfl 3 rfl ?_
  refine vv_callVi (C := nr_RM) (T := nt_RM) (N := 4) (ci := 1) fx (cc_RM_nodeAt l Y M U o r k lv hk hlv hp) nm_RM_27 ns_RM_nodeAt nv_RM_nodeAt nz_RM nc_RM_nodeAt ni_RM_nodeAt 1 rfl rfl ⟨rfl, rfl, by decide, by decide⟩ ⟨Nat.le_of_ble_eq_true rfl, Nat.le_of_ble_eq_true rfl⟩ (Nat.le_of_ble_eq_true rfl) nd_RM_holdsNothingElse_8 rfl ?_
  refine vv_iald fx 5 0 rfl rfl (hq) (by decide) nd_RM_holdsNothingElse_11 ?_
  refine vv_iload_n fx nd_RM_holdsNothingElse_12 rfl 2 rfl ?_
  refine vv_iload_n fx nd_RM_holdsNothingElse_13 rfl 3 rfl ?_
  refine vv_callSi fx (cc_RM_bitOf l Y M U o k lv hk hlv) nm_RM_31 ns_RM_bitOf nz_RM nc_RM_bitOf ni_RM_bitOf ⟨rfl, rfl, by decide, by decide⟩ ⟨Nat.le_of_ble_eq_true rfl, Nat.le_of_ble_eq_true rfl⟩ (Nat.le_of_ble_eq_true rfl) nd_RM_holdsNothingElse_14 rfl ?_
  refine vv_icmp_ne (tgt := 24) fx nd_RM_holdsNothingElse_17 (by decide) (fun hb17 => ?_) (fun hb17 => ?_)
  · refine vv_iconst (v := nI 0) fx nd_RM_holdsNothingElse_24 (by decide) ?_
    exact vv_zret fx rfl nd_RM_holdsNothingElse_25 (fb_hne0 hb17) (fb_01 _)
  · refine vv_iconst (v := nI 1) fx nd_RM_holdsNothingElse_20 (by decide) ?_
    refine vv_goto (tgt := 25) fx nd_RM_holdsNothingElse_21 (by decide) ?_
    exact vv_zret fx rfl nd_RM_holdsNothingElse_25 (fb_hne1 hb17) (fb_01 _)
set_option maxRecDepth 4000 in
theorem cc_RM_levelsWithout (l : Launch) (Y : sy_Y) (M U : me_M) (o : Int64) (r k : Nat) (hk : k < 64) (hp : fb_pk M r k 2) (hq : ∀ i, i < 3 → fb_na M r k i < 61) : ct_I l ny_RM_levelsWithout nb_RM_levelsWithout 4 (some .int) { frames := 3, cells := 0, slots := 0, locals := 69 } Y [.ref (Y.2.1 1), .int (nI r), .int (nI k)] M U o (nI (fb_lw M r k 3)) M U o := by
  refine ct_body (own := nr_RM) (L0 := [(0, .ref (Y.2.1 1)), (1, .int (nI r)), (2, .int (nI k))]) (by decide) rfl (Nat.le_of_ble_eq_true rfl) rfl ?_
  intro p e s m args below meth c fx
  refine vv_iconst (v := nI 3) fx nd_RM_levelsWithout_0 (by decide) ?_
  refine vv_istore_n (L' := [(0, .ref (Y.2.1 1)), (1, .int (nI r)), (2, .int (nI k)), (3, .int (nI 3))]) fx nd_RM_levelsWithout_1 rfl (by decide) [1, 2, 3, 0] rfl ?_
  have loop : ∀ i, i ≤ 3 → fb_lw M r k i = fb_lw M r k 3 → vv p l e { frames := 3, cells := 0, slots := 0, locals := 69 } s m args below meth c 0 0 (MQ below (ct_Qi Y (nI (fb_lw M r k 3)) M U o) args s 0 0 Y.2.2.2) 4 Y M U o 2 [(0, .ref (Y.2.1 1)), (1, .int (nI r)), (2, .int (nI k)), (3, .int (nI i))] [] := by
    intro i
    induction i with
    | zero =>
      intro _ he
      refine vv_iload_n fx nd_RM_levelsWithout_2 rfl 3 rfl ?_
      refine vv_if_le (tgt := 24) fx nd_RM_levelsWithout_3 (by decide) (fun _ => ?_) (fun hb => absurd (by decide) hb)
      refine vv_iload_n fx nd_RM_levelsWithout_24 rfl 3 rfl ?_
      exact vv_iret fx rfl nd_RM_levelsWithout_25 (by rw [← he]; rfl)
    | succ i ih =>
      intro hi he
      refine vv_iload_n fx nd_RM_levelsWithout_2 rfl 3 rfl ?_
      refine vv_if_le (tgt := 24) fx nd_RM_levelsWithout_3 (by decide) (fun hb => absurd hb (nI_nle (by omega) (by omega))) (fun _ => ?_)
      refine vv_aload_n fx nd_RM_levelsWithout_6 rfl 0 rfl ?_
      refine vv_iload_n fx nd_RM_levelsWithout_7 rfl 1 rfl ?_
      refine vv_iload_n fx nd_RM_levelsWithout_8 rfl 2 rfl ?_
      refine vv_iload_n fx nd_RM_levelsWithout_9 rfl 3 rfl ?_
      refine vv_iconst (v := nI 1) fx nd_RM_levelsWithout_10 (by decide) ?_
      refine vv_isub fx nd_RM_levelsWithout_11 ?_
      refine vv_top (y := nI i) (nI_pred i) ?_
      refine vv_callVi (C := nr_RM) (T := nt_RM) (N := 4) (ci := 1) fx (cc_RM_holdsNothingElse l Y M U o r k i hk (by omega) (fb_pk_le hp (by omega)) (hq i (by omega))) nm_RM_38 ns_RM_holdsNothingElse nv_RM_holdsNothingElse nz_RM nc_RM_holdsNothingElse ni_RM_holdsNothingElse 1 rfl rfl ⟨rfl, rfl, by decide, by decide⟩ ⟨Nat.le_of_ble_eq_true rfl, Nat.le_of_ble_eq_true rfl⟩ (Nat.le_of_ble_eq_true rfl) nd_RM_levelsWithout_12 rfl ?_
      refine vv_if_eq (tgt := 24) fx nd_RM_levelsWithout_15 (by decide) (fun hb15 => ?_) (fun hb15 => ?_)
      · have hn : ¬ fb_hne M r k i = true := fun z => by rw [if_pos z] at hb15; exact absurd hb15 (by decide)
        refine vv_iload_n fx nd_RM_levelsWithout_24 rfl 3 rfl ?_
        exact vv_iret fx rfl nd_RM_levelsWithout_25 (by rw [← he]; show _ = nI (if fb_hne M r k i = true then fb_lw M r k i else i + 1); rw [if_neg hn])
      · have hn : fb_hne M r k i = true := Classical.byContradiction fun z => hb15 (if_neg z)
        refine vv_iinc (v := nI i) (L' := [(0, .ref (Y.2.1 1)), (1, .int (nI r)), (2, .int (nI k)), (3, .int (nI i))]) fx nd_RM_levelsWithout_18 3 rfl (pk_m1 i) (by decide) [1, 2, 3, 0] rfl ?_
        refine vv_goto (tgt := 2) fx nd_RM_levelsWithout_21 (by decide) ?_
        exact ih (by omega) (by rw [← he]; show _ = if fb_hne M r k i = true then fb_lw M r k i else i + 1; rw [if_pos hn])
  exact loop 3 (Nat.le_refl _) rfl
set_option maxRecDepth 4000 in
theorem cc_RM_nodesToMake (l : Launch) (Y : sy_Y) (M U : me_M) (o : Int64) (r k lv : Nat) (hk : k < 64) (hlv : lv ≤ 3) (hp : fb_pk M r k 2) (hq : ∀ i, i < 3 → fb_na M r k i < 61) : ct_I l ny_RM_nodesToMake nb_RM_nodesToMake 6 (some .int) { frames := 2, cells := 0, slots := 0, locals := 46 } Y [.ref (Y.2.1 1), .int (nI r), .int (nI k), .int (nI lv)] M U o (nI (fb_ntm M r k lv)) M U o := by
  refine ct_body (own := nr_RM) (L0 := [(0, .ref (Y.2.1 1)), (1, .int (nI r)), (2, .int (nI k)), (3, .int (nI lv))]) (by decide) rfl (Nat.le_of_ble_eq_true rfl) rfl ?_
  intro p e s m args below meth c fx
  refine vv_iconst (v := nI 0) fx nd_RM_nodesToMake_0 (by decide) ?_
  refine vv_istore (L' := [(0, .ref (Y.2.1 1)), (1, .int (nI r)), (2, .int (nI k)), (3, .int (nI lv)), (4, .int (nI 0))]) fx nd_RM_nodesToMake_1 (by decide) [1, 2, 3, 4, 0] rfl ?_
  refine vv_iconst (v := nI 0) fx nd_RM_nodesToMake_3 (by decide) ?_
  refine vv_istore (L' := [(0, .ref (Y.2.1 1)), (1, .int (nI r)), (2, .int (nI k)), (3, .int (nI lv)), (4, .int (nI 0)), (5, .int (nI 0))]) fx nd_RM_nodesToMake_4 (by decide) [1, 2, 3, 4, 5, 0] rfl ?_
  have loop : ∀ d i, i + d = lv → vv p l e { frames := 2, cells := 0, slots := 0, locals := 46 } s m args below meth c 0 0 (MQ below (ct_Qi Y (nI (fb_ntm M r k lv)) M U o) args s 0 0 Y.2.2.2) 6 Y M U o 6 [(0, .ref (Y.2.1 1)), (1, .int (nI r)), (2, .int (nI k)), (3, .int (nI lv)), (4, .int (nI (fb_ntm M r k i))), (5, .int (nI i))] [] := by
    intro d
    induction d with
    | zero =>
      intro i hi
      refine vv_iload fx nd_RM_nodesToMake_6 5 rfl ?_
      refine vv_iload_n fx nd_RM_nodesToMake_8 rfl 3 rfl ?_
      refine vv_icmp_ge (tgt := 37) fx nd_RM_nodesToMake_9 (by decide) (fun _ => ?_) (fun hb => absurd (nI_le (by omega) (by omega)) hb)
      refine vv_iload fx nd_RM_nodesToMake_37 4 rfl ?_
      exact vv_iret fx rfl nd_RM_nodesToMake_39 (by rw [show i = lv by omega])
    | succ d ih =>
      intro i hi
      refine vv_iload fx nd_RM_nodesToMake_6 5 rfl ?_
      refine vv_iload_n fx nd_RM_nodesToMake_8 rfl 3 rfl ?_
      refine vv_icmp_ge (tgt := 37) fx nd_RM_nodesToMake_9 (by decide) (fun hb => absurd hb (nI_ge (by omega) (by omega))) (fun _ => ?_)
      refine vv_aload_n fx nd_RM_nodesToMake_12 rfl 0 rfl ?_
      refine vv_get (ci := 1) (C := nr_RM) (T := nt_RM) (N := 4) fx nt_RM_in 1 rfl rfl 2 (by decide) nf_RM_20 rfl nd_RM_nodesToMake_13 ?_
      refine vv_aload_n fx nd_RM_nodesToMake_16 rfl 0 rfl ?_
      refine vv_iload_n fx nd_RM_nodesToMake_17 rfl 1 rfl ?_
      refine vv_iload_n fx nd_RM_nodesToMake_18 rfl 2 rfl ?_
      refine vv_iload fx nd_RM_nodesToMake_19 5 rfl ?_
      refine vv_callVi (C := nr_RM) (T := nt_RM) (N := 4) (ci := 1) fx (cc_RM_nodeAt l Y M U o r k i hk (by omega) (fb_pk_le hp (by omega))) nm_RM_27 ns_RM_nodeAt nv_RM_nodeAt nz_RM nc_RM_nodeAt ni_RM_nodeAt 1 rfl rfl ⟨rfl, rfl, by decide, by decide⟩ ⟨Nat.le_of_ble_eq_true rfl, Nat.le_of_ble_eq_true rfl⟩ (Nat.le_of_ble_eq_true rfl) nd_RM_nodesToMake_21 rfl ?_
      refine vv_zald fx 6 1 rfl rfl (hq i (by omega)) (by decide) nd_RM_nodesToMake_24 ?_
      refine vv_if_ne (tgt := 31) fx nd_RM_nodesToMake_25 (by decide) (fun hb25 => ?_) (fun hb25 => ?_)
      · have hn : fb_ntm M r k (i + 1) = fb_ntm M r k i := by show _ + (if decide (M 1 (fb_na M r k i) = 0) = true then 1 else 0) = _; rw [if_neg (fun z => hb25 (of_decide_eq_true z))]; rfl
        refine vv_iinc (v := nI (i + 1)) (L' := [(0, .ref (Y.2.1 1)), (1, .int (nI r)), (2, .int (nI k)), (3, .int (nI lv)), (4, .int (nI (fb_ntm M r k i))), (5, .int (nI (i + 1)))]) fx nd_RM_nodesToMake_31 5 rfl (nI_1 i) (by decide) [1, 2, 3, 4, 5, 0] rfl ?_
        refine vv_goto (tgt := 6) fx nd_RM_nodesToMake_34 (by decide) ?_
        rw [← hn]
        exact ih (i + 1) (by omega)
      · have hn : fb_ntm M r k (i + 1) = fb_ntm M r k i + 1 := by show _ + (if decide (M 1 (fb_na M r k i) = 0) = true then 1 else 0) = _; rw [if_pos (decide_eq_true hb25)]; rfl
        refine vv_iinc (v := nI (fb_ntm M r k i + 1)) (L' := [(0, .ref (Y.2.1 1)), (1, .int (nI r)), (2, .int (nI k)), (3, .int (nI lv)), (4, .int (nI (fb_ntm M r k i + 1))), (5, .int (nI i))]) fx nd_RM_nodesToMake_28 4 rfl (nI_1 _) (by decide) [1, 2, 3, 4, 0, 5] rfl ?_
        refine vv_iinc (v := nI (i + 1)) (L' := [(0, .ref (Y.2.1 1)), (1, .int (nI r)), (2, .int (nI k)), (3, .int (nI lv)), (4, .int (nI (fb_ntm M r k i + 1))), (5, .int (nI (i + 1)))]) fx nd_RM_nodesToMake_31 5 rfl (nI_1 i) (by decide) [1, 2, 3, 4, 5, 0] rfl ?_
        refine vv_goto (tgt := 6) fx nd_RM_nodesToMake_34 (by decide) ?_
        rw [← hn]
        exact ih (i + 1) (by omega)
  exact loop lv 0 (by omega)
set_option maxRecDepth 4000 in
theorem cc_RM_takeUnmarked (l : Launch) (Y : sy_Y) (M U : me_M) (o : Int64)  : ct_I l ny_RM_takeUnmarked nb_RM_takeUnmarked 2 (some .int) { frames := 0, cells := 0, slots := 0, locals := 0 } Y [.ref (Y.2.1 1)] M U o (nI (fb_tu M 60 1)) (me_up M 2 (fb_tu M 60 1) 1) U o := by
  refine ct_body (own := nr_RM) (L0 := [(0, .ref (Y.2.1 1))]) (by decide) rfl (Nat.le_of_ble_eq_true rfl) rfl ?_
  intro p e s m args below meth c fx
  refine vv_iconst (v := nI 1) fx nd_RM_takeUnmarked_0 (by decide) ?_
  refine vv_istore_n (L' := [(0, .ref (Y.2.1 1)), (1, .int (nI 1))]) fx nd_RM_takeUnmarked_1 rfl (by decide) [1, 0] rfl ?_
  have loop : ∀ f n, n + f = 61 → n ≤ 60 → fb_tu M f n = fb_tu M 60 1 → vv p l e { frames := 0, cells := 0, slots := 0, locals := 0 } s m args below meth c 0 0 (MQ below (ct_Qi Y (nI (fb_tu M 60 1)) (me_up M 2 (fb_tu M 60 1) 1) U o) args s 0 0 Y.2.2.2) 2 Y M U o 2 [(0, .ref (Y.2.1 1)), (1, .int (nI n))] [] := by
    intro f
    induction f with
    | zero => intro n h1 h2; omega
    | succ f ih =>
      intro n h1 h2 he
      have ex : fb_tu M (f + 1) n = if n < 60 ∧ M 2 n ≠ 0 then fb_tu M f (n + 1) else n := rfl
      refine vv_iload_n fx nd_RM_takeUnmarked_2 rfl 1 rfl ?_
      refine vv_bipush (v := nI 60) fx nd_RM_takeUnmarked_3 (by decide) ?_
      refine vv_icmp_ge (tgt := 23) fx nd_RM_takeUnmarked_5 (by decide) (fun hb5 => ?_) (fun hb5 => ?_)
      · have hn : fb_tu M 60 1 = n := by rw [← he, ex, if_neg (fun z => absurd hb5 (nI_ge z.1 (by decide)))]
        refine vv_aload_n fx nd_RM_takeUnmarked_23 rfl 0 rfl ?_
        refine vv_get (ci := 1) (C := nr_RM) (T := nt_RM) (N := 4) fx nt_RM_in 1 rfl rfl 3 (by decide) nf_RM_24 rfl nd_RM_takeUnmarked_24 ?_
        refine vv_iload_n fx nd_RM_takeUnmarked_27 rfl 1 rfl ?_
        refine vv_iconst (v := nI 1) fx nd_RM_takeUnmarked_28 (by decide) ?_
        refine vv_zast (M' := me_up M 2 n (nI 1)) (U' := U) fx 7 1 rfl rfl (by omega) (by decide) (Or.inr rfl) nd_RM_takeUnmarked_29 (sy_set2 _) ?_
        rw [hn]
        refine vv_iload_n fx nd_RM_takeUnmarked_30 rfl 1 rfl ?_
        exact vv_iret fx rfl nd_RM_takeUnmarked_31 (rfl)
      · have hlt : n < 60 := by apply Classical.byContradiction; intro z; exact hb5 (nI_le (by omega) (by omega))
        refine vv_aload_n fx nd_RM_takeUnmarked_8 rfl 0 rfl ?_
        refine vv_get (ci := 1) (C := nr_RM) (T := nt_RM) (N := 4) fx nt_RM_in 1 rfl rfl 3 (by decide) nf_RM_24 rfl nd_RM_takeUnmarked_9 ?_
        refine vv_iload_n fx nd_RM_takeUnmarked_12 rfl 1 rfl ?_
        refine vv_zald fx 7 1 rfl rfl (by omega) (by decide) nd_RM_takeUnmarked_13 ?_
        refine vv_if_eq (tgt := 23) fx nd_RM_takeUnmarked_14 (by decide) (fun hb14 => ?_) (fun hb14 => ?_)
        · have hn : fb_tu M 60 1 = n := by rw [← he, ex, if_neg (fun z => z.2 hb14)]
          refine vv_aload_n fx nd_RM_takeUnmarked_23 rfl 0 rfl ?_
          refine vv_get (ci := 1) (C := nr_RM) (T := nt_RM) (N := 4) fx nt_RM_in 1 rfl rfl 3 (by decide) nf_RM_24 rfl nd_RM_takeUnmarked_24 ?_
          refine vv_iload_n fx nd_RM_takeUnmarked_27 rfl 1 rfl ?_
          refine vv_iconst (v := nI 1) fx nd_RM_takeUnmarked_28 (by decide) ?_
          refine vv_zast (M' := me_up M 2 n (nI 1)) (U' := U) fx 7 1 rfl rfl (by omega) (by decide) (Or.inr rfl) nd_RM_takeUnmarked_29 (sy_set2 _) ?_
          rw [hn]
          refine vv_iload_n fx nd_RM_takeUnmarked_30 rfl 1 rfl ?_
          exact vv_iret fx rfl nd_RM_takeUnmarked_31 (rfl)
        · refine vv_iinc (v := nI (n + 1)) (L' := [(0, .ref (Y.2.1 1)), (1, .int (nI (n + 1)))]) fx nd_RM_takeUnmarked_17 1 rfl (nI_1 n) (by decide) [1, 0] rfl ?_
          refine vv_goto (tgt := 2) fx nd_RM_takeUnmarked_20 (by decide) ?_
          exact ih (n + 1) (by omega) (by omega) (by rw [← he, ex, if_pos ⟨hlt, hb14⟩])
  exact loop 60 1 (by omega) (by omega) rfl
end
section
/-! Room's methods that write (printed by room.py) -/
theorem fb_tu_le (M : me_M) (f n : Nat) (h : n ≤ 60) : fb_tu M f n ≤ 60 := by
  induction f generalizing n with
  | zero => exact h
  | succ f ih =>
    unfold fb_tu
    split
    · rename_i q; exact ih (n + 1) (by omega)
    · exact h
theorem me_zero_0 (M : me_M) (a lo : Nat) : me_zero M a lo lo = M := by
  unfold me_zero
  have : (fun j => if lo ≤ j ∧ j < lo then 0 else M a j) = M a := by
    funext j; rw [if_neg (by omega)]
  rw [this]; exact me_set_i M a
theorem me_zero_s (M : me_M) (a lo i : Nat) (h : lo ≤ i) : me_up (me_zero M a lo i) a i 0 = me_zero M a lo (i + 1) := by
  unfold me_zero me_up
  rw [me_set_2, me_set_s]
  congr 1
  funext j
  unfold upd
  by_cases e : j = i
  · rw [if_pos e, if_pos (by omega)]
  · rw [if_neg e]
    show (if lo ≤ j ∧ j < i then (0:Int32) else M a j) = _
    by_cases q : lo ≤ j ∧ j < i
    · rw [if_pos q, if_pos (by omega)]
    · rw [if_neg q, if_neg (by omega)]
theorem me_up_2 (M : me_M) (K : Nat → Int32) (a n : Nat) (v : Int32) : me_up (me_set M a K) a n v = me_set M a (upd K n v) := by
  unfold me_up; rw [me_set_2, me_set_s]
theorem fb_pkK {M : me_M} {r k lv : Nat} (h : fb_pk M r k lv) (K : Nat → Int32) : fb_pk (me_set M 2 K) r k lv := fun i hi => by
  rw [rf_set2_na, rf_set2_na, me_set_n _ _ (by omega)]; exact h i hi
set_option maxRecDepth 4000 in
theorem cc_RM_own (l : Launch) (Y : sy_Y) (M U : me_M) (o : Int64) (n : Nat) (hn : n < 61) : ct_I l ny_RM_own nb_RM_own 3 (some .int) { frames := 1, cells := 0, slots := 0, locals := 40 } Y [.ref (Y.2.1 1), .int (nI n)] M U o (nI (fb_own M n).1) ((fb_own M n).2) U o := by
  refine ct_body (own := nr_RM) (L0 := [(0, .ref (Y.2.1 1)), (1, .int (nI n))]) (by decide) rfl (Nat.le_of_ble_eq_true rfl) rfl ?_
  intro p e s m args below meth c fx
  refine vv_aload_n fx nd_RM_own_0 rfl 0 rfl ?_
  refine vv_get (ci := 1) (C := nr_RM) (T := nt_RM) (N := 4) fx nt_RM_in 1 rfl rfl 2 (by decide) nf_RM_20 rfl nd_RM_own_1 ?_
  refine vv_iload_n fx nd_RM_own_4 rfl 1 rfl ?_
  refine vv_zald fx 6 1 rfl rfl (hn) (by decide) nd_RM_own_5 ?_
  refine vv_if_eq (tgt := 11) fx nd_RM_own_6 (by decide) (fun hb6 => ?_) (fun hb6 => ?_)
  · have ha : (fb_tu M 60 1) < 61 := by have := fb_tu_le M 60 1 (by omega); omega
    have e1 : me_up M 2 (fb_tu M 60 1) 1 (6 + n) = M (6 + n) := me_up_n _ _ _ (by omega)
    have e2 : me_up M 2 (fb_tu M 60 1) 1 (6 + (fb_tu M 60 1)) = M (6 + (fb_tu M 60 1)) := me_up_n _ _ _ (by omega)
    have e3 : (me_set (me_up M 2 (fb_tu M 60 1) 1) (6 + (fb_tu M 60 1)) (va_cpy (me_up M 2 (fb_tu M 60 1) 1 (6 + n)) (me_up M 2 (fb_tu M 60 1) 1 (6 + (fb_tu M 60 1))) 0 0 4)) 0 n = M 0 n := by rw [me_set_n _ _ (by omega), me_up_n _ _ _ (by decide)]
    have e7 : fb_own M n = ((fb_tu M 60 1), me_up (me_up (me_set (me_up M 2 (fb_tu M 60 1) 1) (6 + (fb_tu M 60 1)) (va_cpy (me_up M 2 (fb_tu M 60 1) 1 (6 + n)) (me_up M 2 (fb_tu M 60 1) 1 (6 + (fb_tu M 60 1))) 0 0 4)) 0 (fb_tu M 60 1) ((me_set (me_up M 2 (fb_tu M 60 1) 1) (6 + (fb_tu M 60 1)) (va_cpy (me_up M 2 (fb_tu M 60 1) 1 (6 + n)) (me_up M 2 (fb_tu M 60 1) 1 (6 + (fb_tu M 60 1))) 0 0 4)) 0 n)) 1 (fb_tu M 60 1) 1) := by unfold fb_own; rw [if_neg (fun z => z hb6), e3, e1, e2]
    rw [e7]
    refine vv_aload_n fx nd_RM_own_11 rfl 0 rfl ?_
    refine vv_callVi (C := nr_RM) (T := nt_RM) (N := 4) (ci := 1) fx (cc_RM_takeUnmarked l Y M U o) nm_RM_50 ns_RM_takeUnmarked nv_RM_takeUnmarked nz_RM nc_RM_takeUnmarked ni_RM_takeUnmarked 1 rfl rfl ⟨rfl, rfl, by decide, by decide⟩ ⟨Nat.le_of_ble_eq_true rfl, Nat.le_of_ble_eq_true rfl⟩ (Nat.le_of_ble_eq_true rfl) nd_RM_own_12 rfl ?_
    refine vv_istore_n (L' := [(0, .ref (Y.2.1 1)), (1, .int (nI n)), (2, .int (nI (fb_tu M 60 1)))]) fx nd_RM_own_15 rfl (by decide) [1, 2, 0] rfl ?_
    refine vv_aload_n fx nd_RM_own_16 rfl 0 rfl ?_
    refine vv_get (ci := 1) (C := nr_RM) (T := nt_RM) (N := 4) fx nt_RM_in 1 rfl rfl 0 (by decide) nf_RM_13 rfl nd_RM_own_17 ?_
    refine vv_iload_n fx nd_RM_own_20 rfl 1 rfl ?_
    refine vv_aald fx (hn) nd_RM_own_21 ?_
    refine vv_iconst (v := nI 0) fx nd_RM_own_22 (by decide) ?_
    refine vv_aload_n fx nd_RM_own_23 rfl 0 rfl ?_
    refine vv_get (ci := 1) (C := nr_RM) (T := nt_RM) (N := 4) fx nt_RM_in 1 rfl rfl 0 (by decide) nf_RM_13 rfl nd_RM_own_24 ?_
    refine vv_iload_n fx nd_RM_own_27 rfl 2 rfl ?_
    refine vv_aald fx (ha) nd_RM_own_28 ?_
    refine vv_iconst (v := nI 0) fx nd_RM_own_29 (by decide) ?_
    refine vv_iconst (v := nI 4) fx nd_RM_own_30 (by decide) ?_
    refine vv_copy (M' := me_set (me_up M 2 (fb_tu M 60 1) 1) (6 + (fb_tu M 60 1)) (va_cpy (me_up M 2 (fb_tu M 60 1) 1 (6 + n)) (me_up M 2 (fb_tu M 60 1) 1 (6 + (fb_tu M 60 1))) 0 0 4)) (U' := U) (n := 4) fx nm_RM_54 (14 + n) (14 + (fb_tu M 60 1)) (sy_row hn) (sy_row ha) (by decide) (by decide) (by decide) (by decide) (Nat.le_of_ble_eq_true rfl) nd_RM_own_31 (sy_setR ha _) ?_
    refine vv_aload_n fx nd_RM_own_34 rfl 0 rfl ?_
    refine vv_get (ci := 1) (C := nr_RM) (T := nt_RM) (N := 4) fx nt_RM_in 1 rfl rfl 1 (by decide) nf_RM_16 rfl nd_RM_own_35 ?_
    refine vv_iload_n fx nd_RM_own_38 rfl 2 rfl ?_
    refine vv_aload_n fx nd_RM_own_39 rfl 0 rfl ?_
    refine vv_get (ci := 1) (C := nr_RM) (T := nt_RM) (N := 4) fx nt_RM_in 1 rfl rfl 1 (by decide) nf_RM_16 rfl nd_RM_own_40 ?_
    refine vv_iload_n fx nd_RM_own_43 rfl 1 rfl ?_
    refine vv_iald fx 5 0 rfl rfl (hn) (by decide) nd_RM_own_44 ?_
    refine vv_iast (M' := me_up (me_set (me_up M 2 (fb_tu M 60 1) 1) (6 + (fb_tu M 60 1)) (va_cpy (me_up M 2 (fb_tu M 60 1) 1 (6 + n)) (me_up M 2 (fb_tu M 60 1) 1 (6 + (fb_tu M 60 1))) 0 0 4)) 0 (fb_tu M 60 1) ((me_set (me_up M 2 (fb_tu M 60 1) 1) (6 + (fb_tu M 60 1)) (va_cpy (me_up M 2 (fb_tu M 60 1) 1 (6 + n)) (me_up M 2 (fb_tu M 60 1) 1 (6 + (fb_tu M 60 1))) 0 0 4)) 0 n)) (U' := U) fx 5 0 rfl rfl (ha) (by decide) nd_RM_own_45 (sy_set0 _) ?_
    refine vv_aload_n fx nd_RM_own_46 rfl 0 rfl ?_
    refine vv_get (ci := 1) (C := nr_RM) (T := nt_RM) (N := 4) fx nt_RM_in 1 rfl rfl 2 (by decide) nf_RM_20 rfl nd_RM_own_47 ?_
    refine vv_iload_n fx nd_RM_own_50 rfl 2 rfl ?_
    refine vv_iconst (v := nI 1) fx nd_RM_own_51 (by decide) ?_
    refine vv_zast (M' := me_up (me_up (me_set (me_up M 2 (fb_tu M 60 1) 1) (6 + (fb_tu M 60 1)) (va_cpy (me_up M 2 (fb_tu M 60 1) 1 (6 + n)) (me_up M 2 (fb_tu M 60 1) 1 (6 + (fb_tu M 60 1))) 0 0 4)) 0 (fb_tu M 60 1) ((me_set (me_up M 2 (fb_tu M 60 1) 1) (6 + (fb_tu M 60 1)) (va_cpy (me_up M 2 (fb_tu M 60 1) 1 (6 + n)) (me_up M 2 (fb_tu M 60 1) 1 (6 + (fb_tu M 60 1))) 0 0 4)) 0 n)) 1 (fb_tu M 60 1) (nI 1)) (U' := U) fx 6 1 rfl rfl (ha) (by decide) (Or.inr rfl) nd_RM_own_52 (sy_set1 _) ?_
    refine vv_iload_n fx nd_RM_own_53 rfl 2 rfl ?_
    exact vv_iret fx rfl nd_RM_own_54 (rfl)
  · have e7 : fb_own M n = (n, M) := if_pos hb6
    rw [e7]
    refine vv_iload_n fx nd_RM_own_9 rfl 1 rfl ?_
    exact vv_iret fx rfl nd_RM_own_10 (rfl)
set_option maxRecDepth 4000 in
theorem cc_RM_open (l : Launch) (Y : sy_Y) (M U : me_M) (o : Int64) (n k lv : Nat) (x : Int32) (hn : n < 61) (hk : k < 64) (hlv : lv < 3) : ct_V l ny_RM_open nb_RM_open 5 { frames := 2, cells := 0, slots := 0, locals := 42 } Y [.ref (Y.2.1 1), .int (nI n), .int (nI k), .int (nI lv), .int x] M U o (fb_open M n k lv x) U o := by
  refine ct_body (own := nr_RM) (L0 := [(0, .ref (Y.2.1 1)), (1, .int (nI n)), (2, .int (nI k)), (3, .int (nI lv)), (4, .int x)]) (by decide) rfl (Nat.le_of_ble_eq_true rfl) rfl ?_
  intro p e s m args below meth c fx
  refine vv_aload_n fx nd_RM_open_0 rfl 0 rfl ?_
  refine vv_get (ci := 1) (C := nr_RM) (T := nt_RM) (N := 4) fx nt_RM_in 1 rfl rfl 0 (by decide) nf_RM_13 rfl nd_RM_open_1 ?_
  refine vv_iload_n fx nd_RM_open_4 rfl 1 rfl ?_
  refine vv_aald fx (hn) nd_RM_open_5 ?_
  refine vv_iload_n fx nd_RM_open_6 rfl 2 rfl ?_
  refine vv_iload_n fx nd_RM_open_7 rfl 3 rfl ?_
  refine vv_callSi fx (cc_RM_turnOf l Y M U o k lv hk hlv) nm_RM_35 ns_RM_turnOf nz_RM nc_RM_turnOf ni_RM_turnOf ⟨rfl, rfl, by decide, by decide⟩ ⟨Nat.le_of_ble_eq_true rfl, Nat.le_of_ble_eq_true rfl⟩ (Nat.le_of_ble_eq_true rfl) nd_RM_open_8 rfl ?_
  refine vv_iload fx nd_RM_open_11 4 rfl ?_
  refine vv_iast (M' := me_up M (6 + n) (fb_tn k lv) x) (U' := U) fx (14 + n) 0 (sy_row (hn)) rfl (fb_tn_lt _ _) (by decide) nd_RM_open_13 (sy_setR (hn) _) ?_
  refine vv_aload_n fx nd_RM_open_14 rfl 0 rfl ?_
  refine vv_get (ci := 1) (C := nr_RM) (T := nt_RM) (N := 4) fx nt_RM_in 1 rfl rfl 1 (by decide) nf_RM_16 rfl nd_RM_open_15 ?_
  refine vv_iload_n fx nd_RM_open_18 rfl 1 rfl ?_
  refine vv_dup2 fx nd_RM_open_19 rfl rfl ?_
  refine vv_iald fx 5 0 rfl rfl (hn) (by decide) nd_RM_open_20 ?_
  refine vv_top (y := M 0 n) (congrFun (me_up_n _ _ _ (by omega)) n) ?_
  refine vv_iload_n fx nd_RM_open_21 rfl 2 rfl ?_
  refine vv_iload_n fx nd_RM_open_22 rfl 3 rfl ?_
  refine vv_callSi fx (cc_RM_bitOf l Y (me_up M (6 + n) (fb_tn k lv) x) U o k lv hk hlv) nm_RM_31 ns_RM_bitOf nz_RM nc_RM_bitOf ni_RM_bitOf ⟨rfl, rfl, by decide, by decide⟩ ⟨Nat.le_of_ble_eq_true rfl, Nat.le_of_ble_eq_true rfl⟩ (Nat.le_of_ble_eq_true rfl) nd_RM_open_23 rfl ?_
  refine vv_ior fx nd_RM_open_26 ?_
  refine vv_iast (M' := me_up (me_up M (6 + n) (fb_tn k lv) x) 0 n ((M 0 n) ||| (fb_bit k lv))) (U' := U) fx 5 0 rfl rfl (hn) (by decide) nd_RM_open_27 (sy_set0 _) ?_
  exact vv_vret fx rfl nd_RM_open_28
set_option maxRecDepth 4000 in
theorem cc_RM_ownPath (l : Launch) (Y : sy_Y) (M U : me_M) (o : Int64) (r k lv : Nat) (hk : k < 64) (hlv : lv ≤ 3) (hr : r < 61) (ho : ∀ i, i + 1 < lv → (fb_opl k (fb_own M r) i).1 < 61 ∧ (fb_opl k (fb_own M r) i).2 (6 + (fb_opl k (fb_own M r) i).1) (fb_tn k i) = nI (fb_ch (fb_opl k (fb_own M r) i).2 (fb_opl k (fb_own M r) i).1 (fb_tn k i)) ∧ fb_ch (fb_opl k (fb_own M r) i).2 (fb_opl k (fb_own M r) i).1 (fb_tn k i) < 61) : ct_I l ny_RM_ownPath nb_RM_ownPath 8 (some .int) { frames := 3, cells := 0, slots := 0, locals := 66 } Y [.ref (Y.2.1 1), .int (nI r), .int (nI k), .int (nI lv)] M U o (nI (fb_op M r k lv).1) ((fb_op M r k lv).2) U o := by
  refine ct_body (own := nr_RM) (L0 := [(0, .ref (Y.2.1 1)), (1, .int (nI r)), (2, .int (nI k)), (3, .int (nI lv))]) (by decide) rfl (Nat.le_of_ble_eq_true rfl) rfl ?_
  intro p e s m args below meth c fx
  by_cases hL : lv = 0
  · subst hL
    refine vv_iload_n fx nd_RM_ownPath_0 rfl 3 rfl ?_
    refine vv_if_gt (tgt := 6) fx nd_RM_ownPath_1 (by decide) (fun hb => absurd hb (by decide)) (fun _ => ?_)
    refine vv_iconst (v := nI 0) fx nd_RM_ownPath_4 (by decide) ?_
    exact vv_iret fx rfl nd_RM_ownPath_5 (rfl)
  · obtain ⟨j, rfl⟩ : ∃ j, lv = j + 1 := ⟨lv - 1, by omega⟩
    refine vv_iload_n fx nd_RM_ownPath_0 rfl 3 rfl ?_
    refine vv_if_gt (tgt := 6) fx nd_RM_ownPath_1 (by decide) (fun _ => ?_) (fun hb => absurd (by show nI 0 < _; exact nI_lt (by omega) (by omega)) hb)
    refine vv_aload_n fx nd_RM_ownPath_6 rfl 0 rfl ?_
    refine vv_iload_n fx nd_RM_ownPath_7 rfl 1 rfl ?_
    refine vv_callVi (C := nr_RM) (T := nt_RM) (N := 4) (ci := 1) fx (cc_RM_own l Y M U o r hr) nm_RM_42 ns_RM_own nv_RM_own nz_RM nc_RM_own ni_RM_own 1 rfl rfl ⟨rfl, rfl, by decide, by decide⟩ ⟨Nat.le_of_ble_eq_true rfl, Nat.le_of_ble_eq_true rfl⟩ (Nat.le_of_ble_eq_true rfl) nd_RM_ownPath_8 rfl ?_
    refine vv_istore (L' := [(0, .ref (Y.2.1 1)), (1, .int (nI r)), (2, .int (nI k)), (3, .int (nI (j + 1))), (4, .int (nI (fb_own M r).1))]) fx nd_RM_ownPath_11 (by decide) [1, 2, 3, 4, 0] rfl ?_
    refine vv_iload fx nd_RM_ownPath_13 4 rfl ?_
    refine vv_istore (L' := [(0, .ref (Y.2.1 1)), (1, .int (nI r)), (2, .int (nI k)), (3, .int (nI (j + 1))), (4, .int (nI (fb_own M r).1)), (5, .int (nI (fb_own M r).1))]) fx nd_RM_ownPath_15 (by decide) [1, 2, 3, 4, 5, 0] rfl ?_
    refine vv_iconst (v := nI 0) fx nd_RM_ownPath_17 (by decide) ?_
    refine vv_istore (L' := [(0, .ref (Y.2.1 1)), (1, .int (nI r)), (2, .int (nI k)), (3, .int (nI (j + 1))), (4, .int (nI (fb_own M r).1)), (5, .int (nI (fb_own M r).1)), (6, .int (nI 0))]) fx nd_RM_ownPath_18 (by decide) [1, 2, 3, 4, 5, 6, 0] rfl ?_
    have loop : ∀ d i, i + d = j → vv p l e { frames := 3, cells := 0, slots := 0, locals := 66 } s m args below meth c 0 0 (MQ below (ct_Qi Y (nI (fb_op M r k (j + 1)).1) ((fb_op M r k (j + 1)).2) U o) args s 0 0 Y.2.2.2) 8 Y ((fb_opl k (fb_own M r) i).2) U o 20 [(0, .ref (Y.2.1 1)), (1, .int (nI r)), (2, .int (nI k)), (3, .int (nI (j + 1))), (4, .int (nI (fb_own M r).1)), (5, .int (nI (fb_opl k (fb_own M r) i).1)), (6, .int (nI i))] [] := by
      intro d
      induction d with
      | zero =>
        intro i hi
        refine vv_iload fx nd_RM_ownPath_20 6 rfl ?_
        refine vv_iload_n fx nd_RM_ownPath_22 rfl 3 rfl ?_
        refine vv_iconst (v := nI 1) fx nd_RM_ownPath_23 (by decide) ?_
        refine vv_isub fx nd_RM_ownPath_24 ?_
        refine vv_top (y := nI j) (nI_pred j) ?_
        refine vv_icmp_ge (tgt := 69) fx nd_RM_ownPath_25 (by decide) (fun _ => ?_) (fun hb => absurd (nI_le (by omega) (by omega)) hb)
        refine vv_iload fx nd_RM_ownPath_69 4 rfl ?_
        have e9 : i = j := by omega
        subst e9
        exact vv_iret fx rfl nd_RM_ownPath_71 (rfl)
      | succ d ih =>
        intro i hi
        obtain ⟨h1, h2, h3⟩ := ho i (by omega)
        refine vv_iload fx nd_RM_ownPath_20 6 rfl ?_
        refine vv_iload_n fx nd_RM_ownPath_22 rfl 3 rfl ?_
        refine vv_iconst (v := nI 1) fx nd_RM_ownPath_23 (by decide) ?_
        refine vv_isub fx nd_RM_ownPath_24 ?_
        refine vv_top (y := nI j) (nI_pred j) ?_
        refine vv_icmp_ge (tgt := 69) fx nd_RM_ownPath_25 (by decide) (fun hb => absurd hb (nI_ge (by omega) (by omega))) (fun _ => ?_)
        refine vv_aload_n fx nd_RM_ownPath_28 rfl 0 rfl ?_
        refine vv_aload_n fx nd_RM_ownPath_29 rfl 0 rfl ?_
        refine vv_get (ci := 1) (C := nr_RM) (T := nt_RM) (N := 4) fx nt_RM_in 1 rfl rfl 0 (by decide) nf_RM_13 rfl nd_RM_ownPath_30 ?_
        refine vv_iload fx nd_RM_ownPath_33 5 rfl ?_
        refine vv_aald fx (h1) nd_RM_ownPath_35 ?_
        refine vv_iload_n fx nd_RM_ownPath_36 rfl 2 rfl ?_
        refine vv_iload fx nd_RM_ownPath_37 6 rfl ?_
        refine vv_callSi fx (cc_RM_turnOf l Y (fb_opl k (fb_own M r) i).2 U o k i hk (by omega)) nm_RM_35 ns_RM_turnOf nz_RM nc_RM_turnOf ni_RM_turnOf ⟨rfl, rfl, by decide, by decide⟩ ⟨Nat.le_of_ble_eq_true rfl, Nat.le_of_ble_eq_true rfl⟩ (Nat.le_of_ble_eq_true rfl) nd_RM_ownPath_39 rfl ?_
        refine vv_iald fx (14 + ((fb_opl k (fb_own M r) i).1)) 0 (sy_row (h1)) rfl (fb_tn_lt _ _) (by decide) nd_RM_ownPath_42 ?_
        refine vv_top (y := nI (fb_ch (fb_opl k (fb_own M r) i).2 (fb_opl k (fb_own M r) i).1 (fb_tn k i))) (h2) ?_
        refine vv_callVi (C := nr_RM) (T := nt_RM) (N := 4) (ci := 1) fx (cc_RM_own l Y (fb_opl k (fb_own M r) i).2 U o (fb_ch (fb_opl k (fb_own M r) i).2 (fb_opl k (fb_own M r) i).1 (fb_tn k i)) h3) nm_RM_42 ns_RM_own nv_RM_own nz_RM nc_RM_own ni_RM_own 1 rfl rfl ⟨rfl, rfl, by decide, by decide⟩ ⟨Nat.le_of_ble_eq_true rfl, Nat.le_of_ble_eq_true rfl⟩ (Nat.le_of_ble_eq_true rfl) nd_RM_ownPath_43 rfl ?_
        refine vv_istore (L' := [(0, .ref (Y.2.1 1)), (1, .int (nI r)), (2, .int (nI k)), (3, .int (nI (j + 1))), (4, .int (nI (fb_own M r).1)), (5, .int (nI (fb_opl k (fb_own M r) i).1)), (6, .int (nI i)), (7, .int (nI (fb_own (fb_opl k (fb_own M r) i).2 (fb_ch (fb_opl k (fb_own M r) i).2 (fb_opl k (fb_own M r) i).1 (fb_tn k i))).1))]) fx nd_RM_ownPath_46 (by decide) [1, 2, 3, 4, 5, 6, 7, 0] rfl ?_
        refine vv_aload_n fx nd_RM_ownPath_48 rfl 0 rfl ?_
        refine vv_iload fx nd_RM_ownPath_49 5 rfl ?_
        refine vv_iload_n fx nd_RM_ownPath_51 rfl 2 rfl ?_
        refine vv_iload fx nd_RM_ownPath_52 6 rfl ?_
        refine vv_iload fx nd_RM_ownPath_54 7 rfl ?_
        refine vv_callVv (C := nr_RM) (T := nt_RM) (N := 4) (ci := 1) fx (cc_RM_open l Y (fb_own (fb_opl k (fb_own M r) i).2 (fb_ch (fb_opl k (fb_own M r) i).2 (fb_opl k (fb_own M r) i).1 (fb_tn k i))).2 U o (fb_opl k (fb_own M r) i).1 k i (nI (fb_own (fb_opl k (fb_own M r) i).2 (fb_ch (fb_opl k (fb_own M r) i).2 (fb_opl k (fb_own M r) i).1 (fb_tn k i))).1) h1 hk (by omega)) nm_RM_46 ns_RM_open nv_RM_open nz_RM nc_RM_open ni_RM_open 1 rfl rfl ⟨rfl, rfl, by decide, by decide⟩ ⟨Nat.le_of_ble_eq_true rfl, Nat.le_of_ble_eq_true rfl⟩ (Nat.le_of_ble_eq_true rfl) nd_RM_ownPath_56 rfl ?_
        refine vv_iload fx nd_RM_ownPath_59 7 rfl ?_
        refine vv_istore (L' := [(0, .ref (Y.2.1 1)), (1, .int (nI r)), (2, .int (nI k)), (3, .int (nI (j + 1))), (4, .int (nI (fb_own M r).1)), (5, .int (nI (fb_own (fb_opl k (fb_own M r) i).2 (fb_ch (fb_opl k (fb_own M r) i).2 (fb_opl k (fb_own M r) i).1 (fb_tn k i))).1)), (6, .int (nI i)), (7, .int (nI (fb_own (fb_opl k (fb_own M r) i).2 (fb_ch (fb_opl k (fb_own M r) i).2 (fb_opl k (fb_own M r) i).1 (fb_tn k i))).1))]) fx nd_RM_ownPath_61 (by decide) [1, 2, 3, 4, 5, 0, 6, 7] rfl ?_
        refine vv_iinc (v := nI (i + 1)) (L' := [(0, .ref (Y.2.1 1)), (1, .int (nI r)), (2, .int (nI k)), (3, .int (nI (j + 1))), (4, .int (nI (fb_own M r).1)), (5, .int (nI (fb_own (fb_opl k (fb_own M r) i).2 (fb_ch (fb_opl k (fb_own M r) i).2 (fb_opl k (fb_own M r) i).1 (fb_tn k i))).1)), (6, .int (nI (i + 1))), (7, .int (nI (fb_own (fb_opl k (fb_own M r) i).2 (fb_ch (fb_opl k (fb_own M r) i).2 (fb_opl k (fb_own M r) i).1 (fb_tn k i))).1))]) fx nd_RM_ownPath_63 6 rfl (nI_1 i) (by decide) [1, 2, 3, 4, 5, 6, 0, 7] rfl ?_
        refine vv_goto (tgt := 20) fx nd_RM_ownPath_66 (by decide) ?_
        refine vv_loc (L' := [(0, .ref (Y.2.1 1)), (1, .int (nI r)), (2, .int (nI k)), (3, .int (nI (j + 1))), (4, .int (nI (fb_own M r).1)), (5, .int (nI (fb_own (fb_opl k (fb_own M r) i).2 (fb_ch (fb_opl k (fb_own M r) i).2 (fb_opl k (fb_own M r) i).1 (fb_tn k i))).1)), (6, .int (nI (i + 1)))]) [0, 1, 2, 3, 4, 5, 6] rfl ?_
        exact ih (i + 1) (by omega)
    exact loop j 0 (by omega)
set_option maxRecDepth 4000 in
theorem cc_RM_bind (l : Launch) (Y : sy_Y) (M U : me_M) (o : Int64) (r k : Nat) (x : Int32) (hk : k < 64) (hp : fb_pk M r k 2) (hq : fb_na M r k 2 < 61) : ct_V l ny_RM_bind nb_RM_bind 4 { frames := 3, cells := 0, slots := 0, locals := 66 } Y [.ref (Y.2.1 1), .int (nI r), .int (nI k), .int x] M U o (fb_bind M r k x) U o := by
  refine ct_body (own := nr_RM) (L0 := [(0, .ref (Y.2.1 1)), (1, .int (nI r)), (2, .int (nI k)), (3, .int x)]) (by decide) rfl (Nat.le_of_ble_eq_true rfl) rfl ?_
  intro p e s m args below meth c fx
  refine vv_aload_n fx nd_RM_bind_0 rfl 0 rfl ?_
  refine vv_aload_n fx nd_RM_bind_1 rfl 0 rfl ?_
  refine vv_iload_n fx nd_RM_bind_2 rfl 1 rfl ?_
  refine vv_iload_n fx nd_RM_bind_3 rfl 2 rfl ?_
  refine vv_iconst (v := nI 2) fx nd_RM_bind_4 (by decide) ?_
  refine vv_callVi (C := nr_RM) (T := nt_RM) (N := 4) (ci := 1) fx (cc_RM_nodeAt l Y M U o r k 2 hk (by omega) hp) nm_RM_27 ns_RM_nodeAt nv_RM_nodeAt nz_RM nc_RM_nodeAt ni_RM_nodeAt 1 rfl rfl ⟨rfl, rfl, by decide, by decide⟩ ⟨Nat.le_of_ble_eq_true rfl, Nat.le_of_ble_eq_true rfl⟩ (Nat.le_of_ble_eq_true rfl) nd_RM_bind_5 rfl ?_
  refine vv_iload_n fx nd_RM_bind_8 rfl 2 rfl ?_
  refine vv_iconst (v := nI 2) fx nd_RM_bind_9 (by decide) ?_
  refine vv_iload_n fx nd_RM_bind_10 rfl 3 rfl ?_
  refine vv_callVv (C := nr_RM) (T := nt_RM) (N := 4) (ci := 1) fx (cc_RM_open l Y M U o (fb_na M r k 2) k 2 x hq hk (by omega)) nm_RM_46 ns_RM_open nv_RM_open nz_RM nc_RM_open ni_RM_open 1 rfl rfl ⟨rfl, rfl, by decide, by decide⟩ ⟨Nat.le_of_ble_eq_true rfl, Nat.le_of_ble_eq_true rfl⟩ (Nat.le_of_ble_eq_true rfl) nd_RM_bind_11 rfl ?_
  exact vv_vret fx rfl nd_RM_bind_14
set_option maxRecDepth 4000 in
theorem cc_RM_cut (l : Launch) (Y : sy_Y) (M U : me_M) (o : Int64) (r k lv : Nat) (hk : k < 64) (hlv : lv ≤ 3) (hp : 0 < lv → fb_pk M r k (lv - 1)) (hq : 0 < lv → fb_na M r k (lv - 1) < 61) : ct_V l ny_RM_cut nb_RM_cut 5 { frames := 2, cells := 0, slots := 0, locals := 46 } Y [.ref (Y.2.1 1), .int (nI r), .int (nI k), .int (nI lv)] M U o (fb_cut M r k lv) U o := by
  refine ct_body (own := nr_RM) (L0 := [(0, .ref (Y.2.1 1)), (1, .int (nI r)), (2, .int (nI k)), (3, .int (nI lv))]) (by decide) rfl (Nat.le_of_ble_eq_true rfl) rfl ?_
  intro p e s m args below meth c fx
  by_cases hL : lv = 0
  · subst hL
    refine vv_iload_n fx nd_RM_cut_0 rfl 3 rfl ?_
    refine vv_if_gt (tgt := 5) fx nd_RM_cut_1 (by decide) (fun hb => absurd hb (by decide)) (fun _ => ?_)
    exact vv_vret fx rfl nd_RM_cut_4
  · obtain ⟨j, rfl⟩ : ∃ j, lv = j + 1 := ⟨lv - 1, by omega⟩
    have hq : fb_na M r k j < 61 := hq (by omega)
    have hp : fb_pk M r k j := hp (by omega)
    refine vv_iload_n fx nd_RM_cut_0 rfl 3 rfl ?_
    refine vv_if_gt (tgt := 5) fx nd_RM_cut_1 (by decide) (fun _ => ?_) (fun hb => absurd (by show nI 0 < _; exact nI_lt (by omega) (by omega)) hb)
    refine vv_aload_n fx nd_RM_cut_5 rfl 0 rfl ?_
    refine vv_iload_n fx nd_RM_cut_6 rfl 1 rfl ?_
    refine vv_iload_n fx nd_RM_cut_7 rfl 2 rfl ?_
    refine vv_iload_n fx nd_RM_cut_8 rfl 3 rfl ?_
    refine vv_iconst (v := nI 1) fx nd_RM_cut_9 (by decide) ?_
    refine vv_isub fx nd_RM_cut_10 ?_
    refine vv_top (y := nI j) (nI_pred j) ?_
    refine vv_callVi (C := nr_RM) (T := nt_RM) (N := 4) (ci := 1) fx (cc_RM_nodeAt l Y M U o r k j hk (by omega) (fb_pk_le hp (by omega))) nm_RM_27 ns_RM_nodeAt nv_RM_nodeAt nz_RM nc_RM_nodeAt ni_RM_nodeAt 1 rfl rfl ⟨rfl, rfl, by decide, by decide⟩ ⟨Nat.le_of_ble_eq_true rfl, Nat.le_of_ble_eq_true rfl⟩ (Nat.le_of_ble_eq_true rfl) nd_RM_cut_11 rfl ?_
    refine vv_istore (L' := [(0, .ref (Y.2.1 1)), (1, .int (nI r)), (2, .int (nI k)), (3, .int (nI (j + 1))), (4, .int (nI (fb_na M r k j)))]) fx nd_RM_cut_14 (by decide) [1, 2, 3, 4, 0] rfl ?_
    refine vv_aload_n fx nd_RM_cut_16 rfl 0 rfl ?_
    refine vv_get (ci := 1) (C := nr_RM) (T := nt_RM) (N := 4) fx nt_RM_in 1 rfl rfl 0 (by decide) nf_RM_13 rfl nd_RM_cut_17 ?_
    refine vv_iload fx nd_RM_cut_20 4 rfl ?_
    refine vv_aald fx (hq) nd_RM_cut_22 ?_
    refine vv_iload_n fx nd_RM_cut_23 rfl 2 rfl ?_
    refine vv_iload_n fx nd_RM_cut_24 rfl 3 rfl ?_
    refine vv_iconst (v := nI 1) fx nd_RM_cut_25 (by decide) ?_
    refine vv_isub fx nd_RM_cut_26 ?_
    refine vv_top (y := nI j) (nI_pred j) ?_
    refine vv_callSi fx (cc_RM_turnOf l Y M U o k j hk (by omega)) nm_RM_35 ns_RM_turnOf nz_RM nc_RM_turnOf ni_RM_turnOf ⟨rfl, rfl, by decide, by decide⟩ ⟨Nat.le_of_ble_eq_true rfl, Nat.le_of_ble_eq_true rfl⟩ (Nat.le_of_ble_eq_true rfl) nd_RM_cut_27 rfl ?_
    refine vv_iconst (v := 0) fx nd_RM_cut_30 (by decide) ?_
    refine vv_iast (M' := me_up M (6 + (fb_na M r k j)) (fb_tn k j) 0) (U' := U) fx (14 + (fb_na M r k j)) 0 (sy_row (hq)) rfl (fb_tn_lt _ _) (by decide) nd_RM_cut_31 (sy_setR (hq) _) ?_
    refine vv_aload_n fx nd_RM_cut_32 rfl 0 rfl ?_
    refine vv_get (ci := 1) (C := nr_RM) (T := nt_RM) (N := 4) fx nt_RM_in 1 rfl rfl 1 (by decide) nf_RM_16 rfl nd_RM_cut_33 ?_
    refine vv_iload fx nd_RM_cut_36 4 rfl ?_
    refine vv_dup2 fx nd_RM_cut_38 rfl rfl ?_
    refine vv_iald fx 5 0 rfl rfl (hq) (by decide) nd_RM_cut_39 ?_
    refine vv_top (y := M 0 (fb_na M r k j)) (congrFun (me_up_n _ _ _ (by omega)) _) ?_
    refine vv_iload_n fx nd_RM_cut_40 rfl 2 rfl ?_
    refine vv_iload_n fx nd_RM_cut_41 rfl 3 rfl ?_
    refine vv_iconst (v := nI 1) fx nd_RM_cut_42 (by decide) ?_
    refine vv_isub fx nd_RM_cut_43 ?_
    refine vv_top (y := nI j) (nI_pred j) ?_
    refine vv_callSi fx (cc_RM_bitOf l Y (me_up M (6 + (fb_na M r k j)) (fb_tn k j) 0) U o k j hk (by omega)) nm_RM_31 ns_RM_bitOf nz_RM nc_RM_bitOf ni_RM_bitOf ⟨rfl, rfl, by decide, by decide⟩ ⟨Nat.le_of_ble_eq_true rfl, Nat.le_of_ble_eq_true rfl⟩ (Nat.le_of_ble_eq_true rfl) nd_RM_cut_44 rfl ?_
    refine vv_iconst (v := -1) fx nd_RM_cut_47 (by decide) ?_
    refine vv_ixor fx nd_RM_cut_48 ?_
    refine vv_iand fx nd_RM_cut_49 ?_
    refine vv_iast (M' := me_up (me_up M (6 + (fb_na M r k j)) (fb_tn k j) 0) 0 (fb_na M r k j) ((M 0 (fb_na M r k j)) &&& ((fb_bit k j) ^^^ (-1)))) (U' := U) fx 5 0 rfl rfl (hq) (by decide) nd_RM_cut_50 (sy_set0 _) ?_
    exact vv_vret fx rfl nd_RM_cut_51
set_option maxRecDepth 4000 in
theorem cc_RM_freeze (l : Launch) (Y : sy_Y) (M U : me_M) (o : Int64)  : ct_V l ny_RM_freeze nb_RM_freeze 2 { frames := 0, cells := 0, slots := 0, locals := 0 } Y [.ref (Y.2.1 1)] M U o (fb_freeze M) U o := by
  refine ct_body (own := nr_RM) (L0 := [(0, .ref (Y.2.1 1))]) (by decide) rfl (Nat.le_of_ble_eq_true rfl) rfl ?_
  intro p e s m args below meth c fx
  refine vv_iconst (v := nI 0) fx nd_RM_freeze_0 (by decide) ?_
  refine vv_istore_n (L' := [(0, .ref (Y.2.1 1)), (1, .int (nI 0))]) fx nd_RM_freeze_1 rfl (by decide) [1, 0] rfl ?_
  refine vv_mem (M9 := me_zero M 1 0 0) (U9 := U) ((me_zero_0 M 1 0).symm) (rfl) ?_
  have loop : ∀ d i, i + d = 61 → vv p l e { frames := 0, cells := 0, slots := 0, locals := 0 } s m args below meth c 0 0 (MQ below (ct_Qv Y (fb_freeze M) U o) args s 0 0 Y.2.2.2) 2 Y (me_zero M 1 0 i) U o 2 [(0, .ref (Y.2.1 1)), (1, .int (nI i))] [] := by
    intro d
    induction d with
    | zero =>
      intro i hi
      refine vv_iload_n fx nd_RM_freeze_2 rfl 1 rfl ?_
      refine vv_aload_n fx nd_RM_freeze_3 rfl 0 rfl ?_
      refine vv_get (ci := 1) (C := nr_RM) (T := nt_RM) (N := 4) fx nt_RM_in 1 rfl rfl 2 (by decide) nf_RM_20 rfl nd_RM_freeze_4 ?_
      refine vv_alen fx 6 1 rfl rfl nd_RM_freeze_7 ?_
      refine vv_icmp_ge (tgt := 24) fx nd_RM_freeze_8 (by decide) (fun _ => ?_) (fun hb => absurd (nI_le (by omega) (by omega)) hb)
      rw [show i = 61 by omega]
      exact vv_vret fx rfl nd_RM_freeze_24
    | succ d ih =>
      intro i hi
      refine vv_iload_n fx nd_RM_freeze_2 rfl 1 rfl ?_
      refine vv_aload_n fx nd_RM_freeze_3 rfl 0 rfl ?_
      refine vv_get (ci := 1) (C := nr_RM) (T := nt_RM) (N := 4) fx nt_RM_in 1 rfl rfl 2 (by decide) nf_RM_20 rfl nd_RM_freeze_4 ?_
      refine vv_alen fx 6 1 rfl rfl nd_RM_freeze_7 ?_
      refine vv_icmp_ge (tgt := 24) fx nd_RM_freeze_8 (by decide) (fun hb => absurd hb (nI_ge (by omega) (by omega))) (fun _ => ?_)
      refine vv_aload_n fx nd_RM_freeze_11 rfl 0 rfl ?_
      refine vv_get (ci := 1) (C := nr_RM) (T := nt_RM) (N := 4) fx nt_RM_in 1 rfl rfl 2 (by decide) nf_RM_20 rfl nd_RM_freeze_12 ?_
      refine vv_iload_n fx nd_RM_freeze_15 rfl 1 rfl ?_
      refine vv_iconst (v := 0) fx nd_RM_freeze_16 (by decide) ?_
      refine vv_zast (M' := me_up (me_zero M 1 0 i) 1 i 0) (U' := U) fx 6 1 rfl rfl (by omega) (by decide) (Or.inl rfl) nd_RM_freeze_17 (sy_set1 _) ?_
      refine vv_iinc (v := nI (i + 1)) (L' := [(0, .ref (Y.2.1 1)), (1, .int (nI (i + 1)))]) fx nd_RM_freeze_18 1 rfl (nI_1 i) (by decide) [1, 0] rfl ?_
      refine vv_goto (tgt := 2) fx nd_RM_freeze_21 (by decide) ?_
      refine vv_mem (M9 := me_zero M 1 0 (i + 1)) (U9 := U) (me_zero_s M 1 0 i (by omega)) (rfl) ?_
      exact ih (i + 1) (by omega)
  exact loop 61 0 (by omega)
set_option maxRecDepth 4000 in
theorem cc_RM_unmarkAll (l : Launch) (Y : sy_Y) (M U : me_M) (o : Int64)  : ct_V l ny_RM_unmarkAll nb_RM_unmarkAll 2 { frames := 0, cells := 0, slots := 0, locals := 0 } Y [.ref (Y.2.1 1)] M U o (fb_unmark M) U o := by
  refine ct_body (own := nr_RM) (L0 := [(0, .ref (Y.2.1 1))]) (by decide) rfl (Nat.le_of_ble_eq_true rfl) rfl ?_
  intro p e s m args below meth c fx
  refine vv_iconst (v := nI 0) fx nd_RM_unmarkAll_0 (by decide) ?_
  refine vv_istore_n (L' := [(0, .ref (Y.2.1 1)), (1, .int (nI 0))]) fx nd_RM_unmarkAll_1 rfl (by decide) [1, 0] rfl ?_
  refine vv_mem (M9 := me_zero M 2 0 0) (U9 := U) ((me_zero_0 M 2 0).symm) (rfl) ?_
  have loop : ∀ d i, i + d = 61 → vv p l e { frames := 0, cells := 0, slots := 0, locals := 0 } s m args below meth c 0 0 (MQ below (ct_Qv Y (fb_unmark M) U o) args s 0 0 Y.2.2.2) 2 Y (me_zero M 2 0 i) U o 2 [(0, .ref (Y.2.1 1)), (1, .int (nI i))] [] := by
    intro d
    induction d with
    | zero =>
      intro i hi
      refine vv_iload_n fx nd_RM_unmarkAll_2 rfl 1 rfl ?_
      refine vv_aload_n fx nd_RM_unmarkAll_3 rfl 0 rfl ?_
      refine vv_get (ci := 1) (C := nr_RM) (T := nt_RM) (N := 4) fx nt_RM_in 1 rfl rfl 3 (by decide) nf_RM_24 rfl nd_RM_unmarkAll_4 ?_
      refine vv_alen fx 7 1 rfl rfl nd_RM_unmarkAll_7 ?_
      refine vv_icmp_ge (tgt := 24) fx nd_RM_unmarkAll_8 (by decide) (fun _ => ?_) (fun hb => absurd (nI_le (by omega) (by omega)) hb)
      rw [show i = 61 by omega]
      exact vv_vret fx rfl nd_RM_unmarkAll_24
    | succ d ih =>
      intro i hi
      refine vv_iload_n fx nd_RM_unmarkAll_2 rfl 1 rfl ?_
      refine vv_aload_n fx nd_RM_unmarkAll_3 rfl 0 rfl ?_
      refine vv_get (ci := 1) (C := nr_RM) (T := nt_RM) (N := 4) fx nt_RM_in 1 rfl rfl 3 (by decide) nf_RM_24 rfl nd_RM_unmarkAll_4 ?_
      refine vv_alen fx 7 1 rfl rfl nd_RM_unmarkAll_7 ?_
      refine vv_icmp_ge (tgt := 24) fx nd_RM_unmarkAll_8 (by decide) (fun hb => absurd hb (nI_ge (by omega) (by omega))) (fun _ => ?_)
      refine vv_aload_n fx nd_RM_unmarkAll_11 rfl 0 rfl ?_
      refine vv_get (ci := 1) (C := nr_RM) (T := nt_RM) (N := 4) fx nt_RM_in 1 rfl rfl 3 (by decide) nf_RM_24 rfl nd_RM_unmarkAll_12 ?_
      refine vv_iload_n fx nd_RM_unmarkAll_15 rfl 1 rfl ?_
      refine vv_iconst (v := 0) fx nd_RM_unmarkAll_16 (by decide) ?_
      refine vv_zast (M' := me_up (me_zero M 2 0 i) 2 i 0) (U' := U) fx 7 1 rfl rfl (by omega) (by decide) (Or.inl rfl) nd_RM_unmarkAll_17 (sy_set2 _) ?_
      refine vv_iinc (v := nI (i + 1)) (L' := [(0, .ref (Y.2.1 1)), (1, .int (nI (i + 1)))]) fx nd_RM_unmarkAll_18 1 rfl (nI_1 i) (by decide) [1, 0] rfl ?_
      refine vv_goto (tgt := 2) fx nd_RM_unmarkAll_21 (by decide) ?_
      refine vv_mem (M9 := me_zero M 2 0 (i + 1)) (U9 := U) (me_zero_s M 2 0 i (by omega)) (rfl) ?_
      exact ih (i + 1) (by omega)
  exact loop 61 0 (by omega)
theorem cc_RM_nodeAtK (l : Launch) (Y : sy_Y) (M U : me_M) (o : Int64) (K : Nat → Int32) (r k lv : Nat) (hk : k < 64) (hlv : lv < 3) (hp : fb_pk M r k lv) : ct_I l ny_RM_nodeAt nb_RM_nodeAt 6 (some .int) { frames := 1, cells := 0, slots := 0, locals := 21 } Y [.ref (Y.2.1 1), .int (nI r), .int (nI k), .int (nI lv)] (me_set M 2 K) U o (nI (fb_na M r k lv)) (me_set M 2 K) U o := by
  have h := cc_RM_nodeAt l Y (me_set M 2 K) U o r k lv hk hlv (fb_pkK hp K)
  rw [rf_set2_na] at h
  exact h
set_option maxRecDepth 4000 in
theorem cc_RM_mark (l : Launch) (Y : sy_Y) (M U : me_M) (o : Int64) (r : Nat) (hr : r < 61) (hp : ∀ k, k < 64 → fb_pk M r k 2) (hq : ∀ k, k < 64 → ∀ i, i < 3 → fb_na M r k i < 61) : ct_I l ny_RM_mark nb_RM_mark 6 (some .int) { frames := 2, cells := 0, slots := 0, locals := 46 } Y [.ref (Y.2.1 1), .int (nI r)] M U o (nI (fb_mark M r).1) ((fb_mark M r).2) U o := by
  refine ct_body (own := nr_RM) (L0 := [(0, .ref (Y.2.1 1)), (1, .int (nI r))]) (by decide) rfl (Nat.le_of_ble_eq_true rfl) rfl ?_
  intro p e s m args below meth c fx
  refine vv_iload_n fx nd_RM_mark_0 rfl 1 rfl ?_
  refine vv_if_eq (tgt := 13) fx nd_RM_mark_1 (by decide) (fun hb1 => ?_) (fun hb1 => ?_)
  · have e7 : fb_mark M r = (0, M) := if_pos (Or.inl (Classical.byContradiction fun z => nI_ne0 (by omega) (by omega) hb1))
    rw [e7]
    refine vv_iconst (v := nI 0) fx nd_RM_mark_13 (by decide) ?_
    exact vv_iret fx rfl nd_RM_mark_14 (rfl)
  · refine vv_aload_n fx nd_RM_mark_4 rfl 0 rfl ?_
    refine vv_get (ci := 1) (C := nr_RM) (T := nt_RM) (N := 4) fx nt_RM_in 1 rfl rfl 3 (by decide) nf_RM_24 rfl nd_RM_mark_5 ?_
    refine vv_iload_n fx nd_RM_mark_8 rfl 1 rfl ?_
    refine vv_zald fx 7 1 rfl rfl (hr) (by decide) nd_RM_mark_9 ?_
    refine vv_if_eq (tgt := 15) fx nd_RM_mark_10 (by decide) (fun hb10 => ?_) (fun hb10 => ?_)
    · have e7 : fb_mark M r = ((fb_mk2 M r (0, M 2) 16).1, me_set M 2 (fb_mk2 M r (0, M 2) 16).2) := if_neg (fun z => z.elim (fun q => hb1 (by rw [q]; rfl)) (fun q => q hb10))
      rw [e7]
      refine vv_iconst (v := nI 0) fx nd_RM_mark_15 (by decide) ?_
      refine vv_istore_n (L' := [(0, .ref (Y.2.1 1)), (1, .int (nI r)), (2, .int (nI 0))]) fx nd_RM_mark_16 rfl (by decide) [1, 2, 0] rfl ?_
      refine vv_iconst (v := nI 0) fx nd_RM_mark_17 (by decide) ?_
      refine vv_istore_n (L' := [(0, .ref (Y.2.1 1)), (1, .int (nI r)), (2, .int (nI 0)), (3, .int (nI 0))]) fx nd_RM_mark_18 rfl (by decide) [1, 2, 3, 0] rfl ?_
      refine vv_mem (M9 := me_set M 2 (M 2)) (U9 := U) ((me_set_i M 2).symm) (rfl) ?_
      have outer : ∀ d i, i + d = 16 → vv p l e { frames := 2, cells := 0, slots := 0, locals := 46 } s m args below meth c 0 0 (MQ below (ct_Qi Y (nI (fb_mk2 M r (0, M 2) 16).1) (me_set M 2 (fb_mk2 M r (0, M 2) 16).2) U o) args s 0 0 Y.2.2.2) 6 Y (me_set M 2 (fb_mk2 M r (0, M 2) i).2) U o 19 [(0, .ref (Y.2.1 1)), (1, .int (nI r)), (2, .int (nI (fb_mk2 M r (0, M 2) i).1)), (3, .int (nI (4 * i)))] [] := by
        intro d
        induction d with
        | zero =>
          intro i hi
          have e9 : i = 16 := by omega
          subst e9
          refine vv_iload_n fx nd_RM_mark_19 rfl 3 rfl ?_
          refine vv_bipush (v := nI 64) fx nd_RM_mark_20 (by decide) ?_
          refine vv_icmp_ge (tgt := 82) fx nd_RM_mark_22 (by decide) (fun _ => ?_) (fun hb => absurd (nI_le (by omega) (by omega)) hb)
          refine vv_iload_n fx nd_RM_mark_82 rfl 2 rfl ?_
          exact vv_iret fx rfl nd_RM_mark_83 (rfl)
        | succ d ih =>
          intro i hi
          refine vv_iload_n fx nd_RM_mark_19 rfl 3 rfl ?_
          refine vv_bipush (v := nI 64) fx nd_RM_mark_20 (by decide) ?_
          refine vv_icmp_ge (tgt := 82) fx nd_RM_mark_22 (by decide) (fun hb => absurd hb (nI_ge (by omega) (by omega))) (fun _ => ?_)
          refine vv_iconst (v := nI 0) fx nd_RM_mark_25 (by decide) ?_
          refine vv_istore (L' := [(0, .ref (Y.2.1 1)), (1, .int (nI r)), (2, .int (nI (fb_mk2 M r (0, M 2) i).1)), (3, .int (nI (4 * i))), (4, .int (nI 0))]) fx nd_RM_mark_26 (by decide) [1, 2, 3, 4, 0] rfl ?_
          have inner : ∀ g lv, lv + g = 3 → vv p l e { frames := 2, cells := 0, slots := 0, locals := 46 } s m args below meth c 0 0 (MQ below (ct_Qi Y (nI (fb_mk2 M r (0, M 2) 16).1) (me_set M 2 (fb_mk2 M r (0, M 2) 16).2) U o) args s 0 0 Y.2.2.2) 6 Y (me_set M 2 (fb_mk1 M r (4 * i) (fb_mk2 M r (0, M 2) i) lv).2) U o 28 [(0, .ref (Y.2.1 1)), (1, .int (nI r)), (2, .int (nI (fb_mk1 M r (4 * i) (fb_mk2 M r (0, M 2) i) lv).1)), (3, .int (nI (4 * i))), (4, .int (nI lv))] [] := by
            intro g
            induction g with
            | zero =>
              intro lv hl
              have e9 : lv = 3 := by omega
              subst e9
              refine vv_iload fx nd_RM_mark_28 4 rfl ?_
              refine vv_iconst (v := nI 3) fx nd_RM_mark_30 (by decide) ?_
              refine vv_icmp_ge (tgt := 76) fx nd_RM_mark_31 (by decide) (fun _ => ?_) (fun hb => absurd (nI_le (by omega) (by omega)) hb)
              refine vv_iinc (v := nI (4 * (i + 1))) (L' := [(0, .ref (Y.2.1 1)), (1, .int (nI r)), (2, .int (nI (fb_mk1 M r (4 * i) (fb_mk2 M r (0, M 2) i) 3).1)), (3, .int (nI (4 * (i + 1)))), (4, .int (nI 3))]) fx nd_RM_mark_76 3 rfl (by rw [show 4 * (i + 1) = 4 * i + 4 by omega]; exact nI_add (4 * i) 4) (by decide) [1, 2, 3, 0, 4] rfl ?_
              refine vv_goto (tgt := 19) fx nd_RM_mark_79 (by decide) ?_
              refine vv_loc (L' := [(0, .ref (Y.2.1 1)), (1, .int (nI r)), (2, .int (nI (fb_mk1 M r (4 * i) (fb_mk2 M r (0, M 2) i) 3).1)), (3, .int (nI (4 * (i + 1))))]) [0, 1, 2, 3] rfl ?_
              exact ih (i + 1) (by omega)
            | succ g ih2 =>
              intro lv hl
              have hna : (fb_na M r (4 * i) lv) < 61 := hq (4 * i) (by omega) lv (by omega)
              have ev : fb_mk1 M r (4 * i) (fb_mk2 M r (0, M 2) i) (lv + 1) = if (fb_na M r (4 * i) lv) ≠ 0 ∧ (fb_mk1 M r (4 * i) (fb_mk2 M r (0, M 2) i) lv).2 (fb_na M r (4 * i) lv) = 0 then ((fb_mk1 M r (4 * i) (fb_mk2 M r (0, M 2) i) lv).1 + 1, upd (fb_mk1 M r (4 * i) (fb_mk2 M r (0, M 2) i) lv).2 (fb_na M r (4 * i) lv) 1) else (fb_mk1 M r (4 * i) (fb_mk2 M r (0, M 2) i) lv) := rfl
              refine vv_iload fx nd_RM_mark_28 4 rfl ?_
              refine vv_iconst (v := nI 3) fx nd_RM_mark_30 (by decide) ?_
              refine vv_icmp_ge (tgt := 76) fx nd_RM_mark_31 (by decide) (fun hb => absurd hb (nI_ge (by omega) (by omega))) (fun _ => ?_)
              refine vv_aload_n fx nd_RM_mark_34 rfl 0 rfl ?_
              refine vv_iload_n fx nd_RM_mark_35 rfl 1 rfl ?_
              refine vv_iload_n fx nd_RM_mark_36 rfl 3 rfl ?_
              refine vv_iload fx nd_RM_mark_37 4 rfl ?_
              refine vv_callVi (C := nr_RM) (T := nt_RM) (N := 4) (ci := 1) fx (cc_RM_nodeAtK l Y M U o (fb_mk1 M r (4 * i) (fb_mk2 M r (0, M 2) i) lv).2 r (4 * i) lv (by omega) (by omega) (fb_pk_le (hp (4 * i) (by omega)) (by omega))) nm_RM_27 ns_RM_nodeAt nv_RM_nodeAt nz_RM nc_RM_nodeAt ni_RM_nodeAt 1 rfl rfl ⟨rfl, rfl, by decide, by decide⟩ ⟨Nat.le_of_ble_eq_true rfl, Nat.le_of_ble_eq_true rfl⟩ (Nat.le_of_ble_eq_true rfl) nd_RM_mark_39 rfl ?_
              refine vv_istore (L' := [(0, .ref (Y.2.1 1)), (1, .int (nI r)), (2, .int (nI (fb_mk1 M r (4 * i) (fb_mk2 M r (0, M 2) i) lv).1)), (3, .int (nI (4 * i))), (4, .int (nI lv)), (5, .int (nI (fb_na M r (4 * i) lv)))]) fx nd_RM_mark_42 (by decide) [1, 2, 3, 4, 5, 0] rfl ?_
              refine vv_iload fx nd_RM_mark_44 5 rfl ?_
              refine vv_if_eq (tgt := 70) fx nd_RM_mark_46 (by decide) (fun hb46 => ?_) (fun hb46 => ?_)
              · refine vv_iinc (v := nI (lv + 1)) (L' := [(0, .ref (Y.2.1 1)), (1, .int (nI r)), (2, .int (nI (fb_mk1 M r (4 * i) (fb_mk2 M r (0, M 2) i) lv).1)), (3, .int (nI (4 * i))), (4, .int (nI (lv + 1))), (5, .int (nI (fb_na M r (4 * i) lv)))]) fx nd_RM_mark_70 4 rfl (nI_1 lv) (by decide) [1, 2, 3, 4, 0, 5] rfl ?_
                refine vv_goto (tgt := 28) fx nd_RM_mark_73 (by decide) ?_
                refine vv_loc (L' := [(0, .ref (Y.2.1 1)), (1, .int (nI r)), (2, .int (nI (fb_mk1 M r (4 * i) (fb_mk2 M r (0, M 2) i) lv).1)), (3, .int (nI (4 * i))), (4, .int (nI (lv + 1)))]) [0, 1, 2, 3, 4] rfl ?_
                have e8 : fb_mk1 M r (4 * i) (fb_mk2 M r (0, M 2) i) (lv + 1) = (fb_mk1 M r (4 * i) (fb_mk2 M r (0, M 2) i) lv) := by rw [ev, if_neg (fun z => nI_ne0 (by omega) (by omega) hb46)]
                rw [← e8]
                exact ih2 (lv + 1) (by omega)
              · refine vv_aload_n fx nd_RM_mark_49 rfl 0 rfl ?_
                refine vv_get (ci := 1) (C := nr_RM) (T := nt_RM) (N := 4) fx nt_RM_in 1 rfl rfl 3 (by decide) nf_RM_24 rfl nd_RM_mark_50 ?_
                refine vv_iload fx nd_RM_mark_53 5 rfl ?_
                refine vv_zald fx 7 1 rfl rfl (hna) (by decide) nd_RM_mark_55 ?_
                refine vv_top (y := (fb_mk1 M r (4 * i) (fb_mk2 M r (0, M 2) i) lv).2 (fb_na M r (4 * i) lv)) (congrFun (me_set_s _ _ _) _) ?_
                refine vv_if_ne (tgt := 70) fx nd_RM_mark_56 (by decide) (fun hb56 => ?_) (fun hb56 => ?_)
                · refine vv_iinc (v := nI (lv + 1)) (L' := [(0, .ref (Y.2.1 1)), (1, .int (nI r)), (2, .int (nI (fb_mk1 M r (4 * i) (fb_mk2 M r (0, M 2) i) lv).1)), (3, .int (nI (4 * i))), (4, .int (nI (lv + 1))), (5, .int (nI (fb_na M r (4 * i) lv)))]) fx nd_RM_mark_70 4 rfl (nI_1 lv) (by decide) [1, 2, 3, 4, 0, 5] rfl ?_
                  refine vv_goto (tgt := 28) fx nd_RM_mark_73 (by decide) ?_
                  refine vv_loc (L' := [(0, .ref (Y.2.1 1)), (1, .int (nI r)), (2, .int (nI (fb_mk1 M r (4 * i) (fb_mk2 M r (0, M 2) i) lv).1)), (3, .int (nI (4 * i))), (4, .int (nI (lv + 1)))]) [0, 1, 2, 3, 4] rfl ?_
                  have e8 : fb_mk1 M r (4 * i) (fb_mk2 M r (0, M 2) i) (lv + 1) = (fb_mk1 M r (4 * i) (fb_mk2 M r (0, M 2) i) lv) := by rw [ev, if_neg (fun z => hb56 z.2)]
                  rw [← e8]
                  exact ih2 (lv + 1) (by omega)
                · refine vv_aload_n fx nd_RM_mark_59 rfl 0 rfl ?_
                  refine vv_get (ci := 1) (C := nr_RM) (T := nt_RM) (N := 4) fx nt_RM_in 1 rfl rfl 3 (by decide) nf_RM_24 rfl nd_RM_mark_60 ?_
                  refine vv_iload fx nd_RM_mark_63 5 rfl ?_
                  refine vv_iconst (v := nI 1) fx nd_RM_mark_65 (by decide) ?_
                  refine vv_zast (M' := me_up (me_set M 2 (fb_mk1 M r (4 * i) (fb_mk2 M r (0, M 2) i) lv).2) 2 (fb_na M r (4 * i) lv) (nI 1)) (U' := U) fx 7 1 rfl rfl (hna) (by decide) (Or.inr rfl) nd_RM_mark_66 (sy_set2 _) ?_
                  refine vv_iinc (v := nI ((fb_mk1 M r (4 * i) (fb_mk2 M r (0, M 2) i) lv).1 + 1)) (L' := [(0, .ref (Y.2.1 1)), (1, .int (nI r)), (2, .int (nI ((fb_mk1 M r (4 * i) (fb_mk2 M r (0, M 2) i) lv).1 + 1))), (3, .int (nI (4 * i))), (4, .int (nI lv)), (5, .int (nI (fb_na M r (4 * i) lv)))]) fx nd_RM_mark_67 2 rfl (nI_1 _) (by decide) [1, 2, 0, 3, 4, 5] rfl ?_
                  refine vv_mem (M9 := me_set M 2 (upd (fb_mk1 M r (4 * i) (fb_mk2 M r (0, M 2) i) lv).2 (fb_na M r (4 * i) lv) 1)) (U9 := U) (me_up_2 _ _ _ _ _) (rfl) ?_
                  refine vv_iinc (v := nI (lv + 1)) (L' := [(0, .ref (Y.2.1 1)), (1, .int (nI r)), (2, .int (nI ((fb_mk1 M r (4 * i) (fb_mk2 M r (0, M 2) i) lv).1 + 1))), (3, .int (nI (4 * i))), (4, .int (nI (lv + 1))), (5, .int (nI (fb_na M r (4 * i) lv)))]) fx nd_RM_mark_70 4 rfl (nI_1 lv) (by decide) [1, 2, 3, 4, 0, 5] rfl ?_
                  refine vv_goto (tgt := 28) fx nd_RM_mark_73 (by decide) ?_
                  refine vv_loc (L' := [(0, .ref (Y.2.1 1)), (1, .int (nI r)), (2, .int (nI ((fb_mk1 M r (4 * i) (fb_mk2 M r (0, M 2) i) lv).1 + 1))), (3, .int (nI (4 * i))), (4, .int (nI (lv + 1)))]) [0, 1, 2, 3, 4] rfl ?_
                  have hz : (fb_na M r (4 * i) lv) ≠ 0 := fun z => hb46 (by rw [z]; rfl)
                  have e8 : fb_mk1 M r (4 * i) (fb_mk2 M r (0, M 2) i) (lv + 1) = ((fb_mk1 M r (4 * i) (fb_mk2 M r (0, M 2) i) lv).1 + 1, upd (fb_mk1 M r (4 * i) (fb_mk2 M r (0, M 2) i) lv).2 (fb_na M r (4 * i) lv) 1) := by rw [ev, if_pos ⟨hz, hb56⟩]
                  have h9 := ih2 (lv + 1) (by omega)
                  rw [e8] at h9
                  exact h9
          exact inner 3 0 (by omega)
      exact outer 16 0 (by omega)
    · have e7 : fb_mark M r = (0, M) := if_pos (Or.inr hb10)
      rw [e7]
      refine vv_iconst (v := nI 0) fx nd_RM_mark_13 (by decide) ?_
      exact vv_iret fx rfl nd_RM_mark_14 (rfl)
end
section
/-! the outer object's methods that throw nothing (printed by fb.py) -/
theorem b01_0 {b : Bool} (h : (if b = true then (1 : Int32) else 0) = 0) : b = false := by cases b with
  | false => rfl
  | true => exact absurd h (by decide)
theorem b01_1 {b : Bool} (h : ¬ (if b = true then (1 : Int32) else 0) = 0) : b = true := by cases b with
  | false => exact absurd rfl h
  | true => rfl
theorem b01_t {b : Bool} (h : b = true) : nI 1 = if b = true then (1 : Int32) else 0 := by rw [if_pos h]; rfl
theorem b01_f {b : Bool} (h : b = false) : nI 0 = if b = true then (1 : Int32) else 0 := by rw [h]; rfl
theorem b01_eq {a b : Bool} (h : (if a = true then (1 : Int32) else 0) = if b = true then (1 : Int32) else 0) : a = b := by
  cases a <;> cases b <;> first | rfl | exact absurd h (by decide)
theorem fb_isk_lt {k : Int32} (h : k < 0) : fb_isk k = false := by
  unfold fb_isk; rw [decide_eq_false (Int32.not_le.mpr h)]; rfl
theorem fb_isk_ge {k : Int32} (h : nI 64 ≤ k) : fb_isk k = false := by
  unfold fb_isk; rw [decide_eq_false (p := k < 64) (Int32.not_lt.mpr h), Bool.and_false]
theorem fb_isk_in {k : Int32} (h1 : ¬ k < 0) (h2 : ¬ nI 64 ≤ k) : fb_isk k = true := by
  unfold fb_isk; rw [decide_eq_true (p := k < 64) (Int32.not_le.mp h2), decide_eq_true (Int32.not_lt.mp h1)]; rfl
theorem fb_ism_lt {M : me_M} {k : Int32} (h : k < 0) : fb_ism M k = false := by
  unfold fb_ism; rw [decide_eq_false (Int32.not_le.mpr h)]; rfl
theorem fb_ism_ge {M : me_M} {k : Int32} (h : nI 7 ≤ k) : fb_ism M k = false := by
  unfold fb_ism; rw [decide_eq_false (p := k < 7) (Int32.not_lt.mpr h), Bool.and_false]; rfl
theorem fb_ism_m1 {M : me_M} {k : Int32} (h : M 3 k.toNatClampNeg = -1) : fb_ism M k = false := by
  unfold fb_ism; rw [decide_eq_false (p := M 3 k.toNatClampNeg ≠ -1) (fun z => z h), Bool.and_false]
theorem fb_ism_in {M : me_M} {k : Int32} (h1 : ¬ k < 0) (h2 : ¬ nI 7 ≤ k) (h3 : ¬ M 3 k.toNatClampNeg = -1) : fb_ism M k = true := by
  unfold fb_ism; rw [decide_eq_true (p := k < 7) (Int32.not_le.mp h2), decide_eq_true (Int32.not_lt.mp h1), decide_eq_true h3]; rfl
def fb_rt (M : me_M) (a h : Nat) : Nat := (M a h).toNatClampNeg
def fb_KA (M : me_M) (a : Nat) : Prop := ∀ h, h < 7 → M a h = -1 ∨ (M a h = nI (fb_rt M a h) ∧ fb_wf M (fb_rt M a h))
def fb_K (M : me_M) : Prop := fb_KA M 3 ∧ fb_KA M 4
theorem fb_wf_of {M M' : me_M} (h : ∀ x, M' (6 + x) = M (6 + x)) {r : Nat} (hw : fb_wf M r) : fb_wf M' r := by
  have e : ∀ n t, fb_ch M' n t = fb_ch M n t := fun n t => by unfold fb_ch; rw [h]
  have e1 : ∀ n, fb_w1 M n → fb_w1 M' n := fun n hn t ht => by rw [h, e]; exact hn t ht
  exact ⟨hw.1, e1 r hw.2.1, fun t ht => by rw [e]; exact e1 _ (hw.2.2 t ht)⟩
theorem fb_KA_of {M M' : me_M} {a : Nat} (h : ∀ x, M' (6 + x) = M (6 + x)) (ha : M' a = M a) (hk : fb_KA M a) : fb_KA M' a := fun i hi => by
  unfold fb_rt
  rw [ha]
  exact (hk i hi).imp id (fun z => ⟨z.1, fb_wf_of h z.2⟩)
theorem fb_mark_n (M : me_M) (r : Nat) {x : Nat} (hx : x ≠ 2) : (fb_mark M r).2 x = M x := by
  unfold fb_mark
  split
  · rfl
  · exact me_set_n _ _ hx
theorem fb_mm_n (M : me_M) (a h : Nat) {x : Nat} (hx : x ≠ 2) : (fb_mm M a h).2 x = M x := by
  induction h with
  | zero => rfl
  | succ h ih =>
    unfold fb_mm
    split
    · exact ih
    · exact (fb_mark_n _ _ hx).trans ih
theorem fb_unmark_n (M : me_M) {x : Nat} (hx : x ≠ 2) : fb_unmark M x = M x := me_set_n _ _ hx
theorem fb_md_n (M : me_M) {x : Nat} (hx : x ≠ 2) : (fb_md M).2 x = M x := (fb_mm_n _ _ _ hx).trans (fb_unmark_n M hx)
theorem fb_mr_n (M : me_M) {x : Nat} (hx : x ≠ 2) : (fb_mr M).2 x = M x := (fb_mm_n _ _ _ hx).trans (fb_md_n M hx)
theorem fb_wfp {M : me_M} {r k : Nat} (h : fb_wf M r) : fb_pk M r k 2 := (fb_pk_wf h k).1
theorem fb_wfq {M : me_M} {r k : Nat} (h : fb_wf M r) : fb_na M r k 2 < 61 := (fb_pk_wf h k).2 2 (by decide)
theorem fb_wfr {M : me_M} {r : Nat} (h : fb_wf M r) : r < 61 := Nat.lt_succ_of_le h.1
set_option maxRecDepth 4000 in
theorem cc_FB_isKey (l : Launch) (Y : sy_Y) (M U : me_M) (o : Int64) (k : Int32) : ct_I l ny_FB_isKey nb_FB_isKey 2 (some .boolean) { frames := 0, cells := 0, slots := 0, locals := 0 } Y [.ref (Y.2.1 0), .int k] M U o (if fb_isk k = true then 1 else 0) M U o := by
  refine ct_body (own := nr_FB) (L0 := [(0, .ref (Y.2.1 0)), (1, .int k)]) (by decide) rfl (Nat.le_of_ble_eq_true rfl) rfl ?_
  intro p e s m args below meth c fx
  refine vv_iload_n fx nd_FB_isKey_0 rfl 1 rfl ?_
  refine vv_if_lt (tgt := 14) fx nd_FB_isKey_1 (by decide) (fun hb1 => ?_) (fun hb1 => ?_)
  · refine vv_iconst (v := nI 0) fx nd_FB_isKey_14 (by decide) ?_
    exact vv_zret fx rfl nd_FB_isKey_15 (b01_f (fb_isk_lt hb1)) (fb_01 _)
  · refine vv_iload_n fx nd_FB_isKey_4 rfl 1 rfl ?_
    refine vv_bipush (v := nI 64) fx nd_FB_isKey_5 (by decide) ?_
    refine vv_icmp_ge (tgt := 14) fx nd_FB_isKey_7 (by decide) (fun hb7 => ?_) (fun hb7 => ?_)
    · refine vv_iconst (v := nI 0) fx nd_FB_isKey_14 (by decide) ?_
      exact vv_zret fx rfl nd_FB_isKey_15 (b01_f (fb_isk_ge hb7)) (fb_01 _)
    · refine vv_iconst (v := nI 1) fx nd_FB_isKey_10 (by decide) ?_
      refine vv_goto (tgt := 15) fx nd_FB_isKey_11 (by decide) ?_
      exact vv_zret fx rfl nd_FB_isKey_15 (b01_t (fb_isk_in hb1 hb7)) (fb_01 _)
set_option maxRecDepth 4000 in
theorem cc_FB_isMap (l : Launch) (Y : sy_Y) (M U : me_M) (o : Int64) (k : Int32) : ct_I l ny_FB_isMap nb_FB_isMap 2 (some .boolean) { frames := 0, cells := 0, slots := 0, locals := 0 } Y [.ref (Y.2.1 0), .int k] M U o (if fb_ism M k = true then 1 else 0) M U o := by
  refine ct_body (own := nr_FB) (L0 := [(0, .ref (Y.2.1 0)), (1, .int k)]) (by decide) rfl (Nat.le_of_ble_eq_true rfl) rfl ?_
  intro p e s m args below meth c fx
  refine vv_iload_n fx nd_FB_isMap_0 rfl 1 rfl ?_
  refine vv_if_lt (tgt := 27) fx nd_FB_isMap_1 (by decide) (fun hb1 => ?_) (fun hb1 => ?_)
  · refine vv_iconst (v := nI 0) fx nd_FB_isMap_27 (by decide) ?_
    exact vv_zret fx rfl nd_FB_isMap_28 (b01_f (fb_ism_lt hb1)) (fb_01 _)
  · refine vv_iload_n fx nd_FB_isMap_4 rfl 1 rfl ?_
    refine vv_aload_n fx nd_FB_isMap_5 rfl 0 rfl ?_
    refine vv_get (ci := 0) (C := nr_FB) (T := nt_FB) (N := 6) fx nt_FB_in 0 rfl rfl 1 (by decide) nf_FB_16 rfl nd_FB_isMap_6 ?_
    refine vv_alen fx 2 0 rfl rfl nd_FB_isMap_9 ?_
    refine vv_icmp_ge (tgt := 27) fx nd_FB_isMap_10 (by decide) (fun hb10 => ?_) (fun hb10 => ?_)
    · refine vv_iconst (v := nI 0) fx nd_FB_isMap_27 (by decide) ?_
      exact vv_zret fx rfl nd_FB_isMap_28 (b01_f (fb_ism_ge hb10)) (fb_01 _)
    · obtain ⟨hx7, hxe⟩ := rf_h7 (Int32.not_lt.mp hb1) (Int32.not_le.mp hb10)
      refine vv_aload_n fx nd_FB_isMap_13 rfl 0 rfl ?_
      refine vv_get (ci := 0) (C := nr_FB) (T := nt_FB) (N := 6) fx nt_FB_in 0 rfl rfl 1 (by decide) nf_FB_16 rfl nd_FB_isMap_14 ?_
      refine vv_iload_n fx nd_FB_isMap_17 rfl 1 rfl ?_
      refine vv_top (y := nI k.toNatClampNeg) (hxe) ?_
      refine vv_iald fx 2 0 rfl rfl (hx7) (by decide) nd_FB_isMap_18 ?_
      refine vv_iconst (v := -1) fx nd_FB_isMap_19 (by decide) ?_
      refine vv_icmp_eq (tgt := 27) fx nd_FB_isMap_20 (by decide) (fun hb20 => ?_) (fun hb20 => ?_)
      · refine vv_iconst (v := nI 0) fx nd_FB_isMap_27 (by decide) ?_
        exact vv_zret fx rfl nd_FB_isMap_28 (b01_f (fb_ism_m1 hb20)) (fb_01 _)
      · refine vv_iconst (v := nI 1) fx nd_FB_isMap_23 (by decide) ?_
        refine vv_goto (tgt := 28) fx nd_FB_isMap_24 (by decide) ?_
        exact vv_zret fx rfl nd_FB_isMap_28 (b01_t (fb_ism_in hb1 hb10 hb20)) (fb_01 _)
set_option maxRecDepth 4000 in
theorem cc_FB_isBoundAlike (l : Launch) (Y : sy_Y) (M U : me_M) (o : Int64) (a b k : Nat) (ha : fb_wf M a) (hb : fb_wf M b) (hk : k < 64) : ct_I l ny_FB_isBoundAlike nb_FB_isBoundAlike 4 (some .boolean) { frames := 3, cells := 0, slots := 0, locals := 69 } Y [.ref (Y.2.1 0), .int (nI a), .int (nI b), .int (nI k)] M U o (if fb_alike M a b k = true then 1 else 0) M U o := by
  refine ct_body (own := nr_FB) (L0 := [(0, .ref (Y.2.1 0)), (1, .int (nI a)), (2, .int (nI b)), (3, .int (nI k))]) (by decide) rfl (Nat.le_of_ble_eq_true rfl) rfl ?_
  intro p e s m args below meth c fx
  refine vv_aload_n fx nd_FB_isBoundAlike_0 rfl 0 rfl ?_
  refine vv_get (ci := 0) (C := nr_FB) (T := nt_FB) (N := 6) fx nt_FB_in 0 rfl rfl 0 (by decide) nf_FB_10 rfl nd_FB_isBoundAlike_1 ?_
  refine vv_iload_n fx nd_FB_isBoundAlike_4 rfl 1 rfl ?_
  refine vv_iload_n fx nd_FB_isBoundAlike_5 rfl 3 rfl ?_
  refine vv_callVi (C := nr_RM) (T := nt_RM) (N := 4) (ci := 1) fx (cc_RM_binds l Y M U o a k hk (fb_wfp ha) (fb_wfq ha)) nm_FB_53 ns_RM_binds nv_RM_binds nz_RM nc_RM_binds ni_RM_binds 1 rfl rfl ⟨rfl, rfl, by decide, by decide⟩ ⟨Nat.le_of_ble_eq_true rfl, Nat.le_of_ble_eq_true rfl⟩ (Nat.le_of_ble_eq_true rfl) nd_FB_isBoundAlike_6 rfl ?_
  refine vv_if_eq (tgt := 24) fx nd_FB_isBoundAlike_9 (by decide) (fun hb9 => ?_) (fun hb9 => ?_)
  · refine vv_aload_n fx nd_FB_isBoundAlike_24 rfl 0 rfl ?_
    refine vv_get (ci := 0) (C := nr_FB) (T := nt_FB) (N := 6) fx nt_FB_in 0 rfl rfl 0 (by decide) nf_FB_10 rfl nd_FB_isBoundAlike_25 ?_
    refine vv_iload_n fx nd_FB_isBoundAlike_28 rfl 1 rfl ?_
    refine vv_iload_n fx nd_FB_isBoundAlike_29 rfl 3 rfl ?_
    refine vv_callVi (C := nr_RM) (T := nt_RM) (N := 4) (ci := 1) fx (cc_RM_binds l Y M U o a k hk (fb_wfp ha) (fb_wfq ha)) nm_FB_53 ns_RM_binds nv_RM_binds nz_RM nc_RM_binds ni_RM_binds 1 rfl rfl ⟨rfl, rfl, by decide, by decide⟩ ⟨Nat.le_of_ble_eq_true rfl, Nat.le_of_ble_eq_true rfl⟩ (Nat.le_of_ble_eq_true rfl) nd_FB_isBoundAlike_30 rfl ?_
    refine vv_aload_n fx nd_FB_isBoundAlike_33 rfl 0 rfl ?_
    refine vv_get (ci := 0) (C := nr_FB) (T := nt_FB) (N := 6) fx nt_FB_in 0 rfl rfl 0 (by decide) nf_FB_10 rfl nd_FB_isBoundAlike_34 ?_
    refine vv_iload_n fx nd_FB_isBoundAlike_37 rfl 2 rfl ?_
    refine vv_iload_n fx nd_FB_isBoundAlike_38 rfl 3 rfl ?_
    refine vv_callVi (C := nr_RM) (T := nt_RM) (N := 4) (ci := 1) fx (cc_RM_binds l Y M U o b k hk (fb_wfp hb) (fb_wfq hb)) nm_FB_53 ns_RM_binds nv_RM_binds nz_RM nc_RM_binds ni_RM_binds 1 rfl rfl ⟨rfl, rfl, by decide, by decide⟩ ⟨Nat.le_of_ble_eq_true rfl, Nat.le_of_ble_eq_true rfl⟩ (Nat.le_of_ble_eq_true rfl) nd_FB_isBoundAlike_39 rfl ?_
    have ea : fb_alike M a b k = (fb_bd M a k == fb_bd M b k) := if_neg (by rw [b01_0 hb9]; simp)
    refine vv_icmp_ne (tgt := 49) fx nd_FB_isBoundAlike_42 (by decide) (fun hb42 => ?_) (fun hb42 => ?_)
    · refine vv_iconst (v := nI 0) fx nd_FB_isBoundAlike_49 (by decide) ?_
      exact vv_zret fx rfl nd_FB_isBoundAlike_50 (b01_f (ea.trans (beq_eq_false_iff_ne.mpr (fun z => hb42 (by rw [z]))))) (fb_01 _)
    · refine vv_iconst (v := nI 1) fx nd_FB_isBoundAlike_45 (by decide) ?_
      refine vv_goto (tgt := 50) fx nd_FB_isBoundAlike_46 (by decide) ?_
      exact vv_zret fx rfl nd_FB_isBoundAlike_50 (b01_t (ea.trans (beq_iff_eq.mpr (b01_eq hb42)))) (fb_01 _)
  · refine vv_aload_n fx nd_FB_isBoundAlike_12 rfl 0 rfl ?_
    refine vv_get (ci := 0) (C := nr_FB) (T := nt_FB) (N := 6) fx nt_FB_in 0 rfl rfl 0 (by decide) nf_FB_10 rfl nd_FB_isBoundAlike_13 ?_
    refine vv_iload_n fx nd_FB_isBoundAlike_16 rfl 2 rfl ?_
    refine vv_iload_n fx nd_FB_isBoundAlike_17 rfl 3 rfl ?_
    refine vv_callVi (C := nr_RM) (T := nt_RM) (N := 4) (ci := 1) fx (cc_RM_binds l Y M U o b k hk (fb_wfp hb) (fb_wfq hb)) nm_FB_53 ns_RM_binds nv_RM_binds nz_RM nc_RM_binds ni_RM_binds 1 rfl rfl ⟨rfl, rfl, by decide, by decide⟩ ⟨Nat.le_of_ble_eq_true rfl, Nat.le_of_ble_eq_true rfl⟩ (Nat.le_of_ble_eq_true rfl) nd_FB_isBoundAlike_18 rfl ?_
    refine vv_if_ne (tgt := 51) fx nd_FB_isBoundAlike_21 (by decide) (fun hb21 => ?_) (fun hb21 => ?_)
    · have ea : fb_alike M a b k = decide (fb_val M a k = fb_val M b k) := if_pos (by rw [b01_1 hb9, b01_1 hb21]; rfl)
      refine vv_aload_n fx nd_FB_isBoundAlike_51 rfl 0 rfl ?_
      refine vv_get (ci := 0) (C := nr_FB) (T := nt_FB) (N := 6) fx nt_FB_in 0 rfl rfl 0 (by decide) nf_FB_10 rfl nd_FB_isBoundAlike_52 ?_
      refine vv_iload_n fx nd_FB_isBoundAlike_55 rfl 1 rfl ?_
      refine vv_iload_n fx nd_FB_isBoundAlike_56 rfl 3 rfl ?_
      refine vv_callVi (C := nr_RM) (T := nt_RM) (N := 4) (ci := 1) fx (cc_RM_valueOf l Y M U o a k hk (fb_wfp ha) (fb_wfq ha)) nm_FB_57 ns_RM_valueOf nv_RM_valueOf nz_RM nc_RM_valueOf ni_RM_valueOf 1 rfl rfl ⟨rfl, rfl, by decide, by decide⟩ ⟨Nat.le_of_ble_eq_true rfl, Nat.le_of_ble_eq_true rfl⟩ (Nat.le_of_ble_eq_true rfl) nd_FB_isBoundAlike_57 rfl ?_
      refine vv_aload_n fx nd_FB_isBoundAlike_60 rfl 0 rfl ?_
      refine vv_get (ci := 0) (C := nr_FB) (T := nt_FB) (N := 6) fx nt_FB_in 0 rfl rfl 0 (by decide) nf_FB_10 rfl nd_FB_isBoundAlike_61 ?_
      refine vv_iload_n fx nd_FB_isBoundAlike_64 rfl 2 rfl ?_
      refine vv_iload_n fx nd_FB_isBoundAlike_65 rfl 3 rfl ?_
      refine vv_callVi (C := nr_RM) (T := nt_RM) (N := 4) (ci := 1) fx (cc_RM_valueOf l Y M U o b k hk (fb_wfp hb) (fb_wfq hb)) nm_FB_57 ns_RM_valueOf nv_RM_valueOf nz_RM nc_RM_valueOf ni_RM_valueOf 1 rfl rfl ⟨rfl, rfl, by decide, by decide⟩ ⟨Nat.le_of_ble_eq_true rfl, Nat.le_of_ble_eq_true rfl⟩ (Nat.le_of_ble_eq_true rfl) nd_FB_isBoundAlike_66 rfl ?_
      refine vv_icmp_ne (tgt := 76) fx nd_FB_isBoundAlike_69 (by decide) (fun hb69 => ?_) (fun hb69 => ?_)
      · refine vv_iconst (v := nI 0) fx nd_FB_isBoundAlike_76 (by decide) ?_
        exact vv_zret fx rfl nd_FB_isBoundAlike_77 (b01_f (ea.trans (decide_eq_false hb69))) (fb_01 _)
      · refine vv_iconst (v := nI 1) fx nd_FB_isBoundAlike_72 (by decide) ?_
        refine vv_goto (tgt := 77) fx nd_FB_isBoundAlike_73 (by decide) ?_
        exact vv_zret fx rfl nd_FB_isBoundAlike_77 (b01_t (ea.trans (decide_eq_true hb69))) (fb_01 _)
    · refine vv_aload_n fx nd_FB_isBoundAlike_24 rfl 0 rfl ?_
      refine vv_get (ci := 0) (C := nr_FB) (T := nt_FB) (N := 6) fx nt_FB_in 0 rfl rfl 0 (by decide) nf_FB_10 rfl nd_FB_isBoundAlike_25 ?_
      refine vv_iload_n fx nd_FB_isBoundAlike_28 rfl 1 rfl ?_
      refine vv_iload_n fx nd_FB_isBoundAlike_29 rfl 3 rfl ?_
      refine vv_callVi (C := nr_RM) (T := nt_RM) (N := 4) (ci := 1) fx (cc_RM_binds l Y M U o a k hk (fb_wfp ha) (fb_wfq ha)) nm_FB_53 ns_RM_binds nv_RM_binds nz_RM nc_RM_binds ni_RM_binds 1 rfl rfl ⟨rfl, rfl, by decide, by decide⟩ ⟨Nat.le_of_ble_eq_true rfl, Nat.le_of_ble_eq_true rfl⟩ (Nat.le_of_ble_eq_true rfl) nd_FB_isBoundAlike_30 rfl ?_
      refine vv_aload_n fx nd_FB_isBoundAlike_33 rfl 0 rfl ?_
      refine vv_get (ci := 0) (C := nr_FB) (T := nt_FB) (N := 6) fx nt_FB_in 0 rfl rfl 0 (by decide) nf_FB_10 rfl nd_FB_isBoundAlike_34 ?_
      refine vv_iload_n fx nd_FB_isBoundAlike_37 rfl 2 rfl ?_
      refine vv_iload_n fx nd_FB_isBoundAlike_38 rfl 3 rfl ?_
      refine vv_callVi (C := nr_RM) (T := nt_RM) (N := 4) (ci := 1) fx (cc_RM_binds l Y M U o b k hk (fb_wfp hb) (fb_wfq hb)) nm_FB_53 ns_RM_binds nv_RM_binds nz_RM nc_RM_binds ni_RM_binds 1 rfl rfl ⟨rfl, rfl, by decide, by decide⟩ ⟨Nat.le_of_ble_eq_true rfl, Nat.le_of_ble_eq_true rfl⟩ (Nat.le_of_ble_eq_true rfl) nd_FB_isBoundAlike_39 rfl ?_
      have ea : fb_alike M a b k = (fb_bd M a k == fb_bd M b k) := if_neg (by rw [b01_0 hb21]; simp)
      refine vv_icmp_ne (tgt := 49) fx nd_FB_isBoundAlike_42 (by decide) (fun hb42 => ?_) (fun hb42 => ?_)
      · refine vv_iconst (v := nI 0) fx nd_FB_isBoundAlike_49 (by decide) ?_
        exact vv_zret fx rfl nd_FB_isBoundAlike_50 (b01_f (ea.trans (beq_eq_false_iff_ne.mpr (fun z => hb42 (by rw [z]))))) (fb_01 _)
      · refine vv_iconst (v := nI 1) fx nd_FB_isBoundAlike_45 (by decide) ?_
        refine vv_goto (tgt := 50) fx nd_FB_isBoundAlike_46 (by decide) ?_
        exact vv_zret fx rfl nd_FB_isBoundAlike_50 (b01_t (ea.trans (beq_iff_eq.mpr (b01_eq hb42)))) (fb_01 _)
set_option maxRecDepth 4000 in
theorem cc_FB_keysBound (l : Launch) (Y : sy_Y) (M U : me_M) (o : Int64) (r : Nat) (hr : fb_wf M r) : ct_I l ny_FB_keysBound nb_FB_keysBound 4 (some .int) { frames := 3, cells := 0, slots := 0, locals := 69 } Y [.ref (Y.2.1 0), .int (nI r)] M U o (nI (fb_kb M r)) M U o := by
  refine ct_body (own := nr_FB) (L0 := [(0, .ref (Y.2.1 0)), (1, .int (nI r))]) (by decide) rfl (Nat.le_of_ble_eq_true rfl) rfl ?_
  intro p e s m args below meth c fx
  refine vv_iconst (v := nI 0) fx nd_FB_keysBound_0 (by decide) ?_
  refine vv_istore_n (L' := [(0, .ref (Y.2.1 0)), (1, .int (nI r)), (2, .int (nI 0))]) fx nd_FB_keysBound_1 rfl (by decide) [1, 2, 0] rfl ?_
  refine vv_iconst (v := nI 0) fx nd_FB_keysBound_2 (by decide) ?_
  refine vv_istore_n (L' := [(0, .ref (Y.2.1 0)), (1, .int (nI r)), (2, .int (nI 0)), (3, .int (nI 0))]) fx nd_FB_keysBound_3 rfl (by decide) [1, 2, 3, 0] rfl ?_
  have loop : ∀ d i, i + d = 64 → vv p l e { frames := 3, cells := 0, slots := 0, locals := 69 } s m args below meth c 0 0 (MQ below (ct_Qi Y (nI (fb_kb M r)) M U o) args s 0 0 Y.2.2.2) 4 Y M U o 4 [(0, .ref (Y.2.1 0)), (1, .int (nI r)), (2, .int (nI (me_cn (fb_bd M r) i))), (3, .int (nI i))] [] := by
    intro d
    induction d with
    | zero =>
      intro i hi
      have e9 : i = 64 := by omega
      subst e9
      refine vv_iload_n fx nd_FB_keysBound_4 rfl 3 rfl ?_
      refine vv_bipush (v := nI 64) fx nd_FB_keysBound_5 (by decide) ?_
      refine vv_icmp_ge (tgt := 31) fx nd_FB_keysBound_7 (by decide) (fun _ => ?_) (fun hb => absurd (nI_le (by omega) (by omega)) hb)
      refine vv_iload_n fx nd_FB_keysBound_31 rfl 2 rfl ?_
      exact vv_iret fx rfl nd_FB_keysBound_32 (rfl)
    | succ d ih =>
      intro i hi
      have ev : me_cn (fb_bd M r) (i + 1) = me_cn (fb_bd M r) i + if fb_bd M r i = true then 1 else 0 := rfl
      refine vv_iload_n fx nd_FB_keysBound_4 rfl 3 rfl ?_
      refine vv_bipush (v := nI 64) fx nd_FB_keysBound_5 (by decide) ?_
      refine vv_icmp_ge (tgt := 31) fx nd_FB_keysBound_7 (by decide) (fun hb => absurd hb (nI_ge (by omega) (by omega))) (fun _ => ?_)
      refine vv_aload_n fx nd_FB_keysBound_10 rfl 0 rfl ?_
      refine vv_get (ci := 0) (C := nr_FB) (T := nt_FB) (N := 6) fx nt_FB_in 0 rfl rfl 0 (by decide) nf_FB_10 rfl nd_FB_keysBound_11 ?_
      refine vv_iload_n fx nd_FB_keysBound_14 rfl 1 rfl ?_
      refine vv_iload_n fx nd_FB_keysBound_15 rfl 3 rfl ?_
      refine vv_callVi (C := nr_RM) (T := nt_RM) (N := 4) (ci := 1) fx (cc_RM_binds l Y M U o r i (by omega) (fb_wfp hr) (fb_wfq hr)) nm_FB_53 ns_RM_binds nv_RM_binds nz_RM nc_RM_binds ni_RM_binds 1 rfl rfl ⟨rfl, rfl, by decide, by decide⟩ ⟨Nat.le_of_ble_eq_true rfl, Nat.le_of_ble_eq_true rfl⟩ (Nat.le_of_ble_eq_true rfl) nd_FB_keysBound_16 rfl ?_
      refine vv_if_eq (tgt := 25) fx nd_FB_keysBound_19 (by decide) (fun hb19 => ?_) (fun hb19 => ?_)
      · refine vv_iinc (v := nI (i + 1)) (L' := [(0, .ref (Y.2.1 0)), (1, .int (nI r)), (2, .int (nI (me_cn (fb_bd M r) i))), (3, .int (nI (i + 1)))]) fx nd_FB_keysBound_25 3 rfl (nI_1 i) (by decide) [1, 2, 3, 0] rfl ?_
        refine vv_goto (tgt := 4) fx nd_FB_keysBound_28 (by decide) ?_
        rw [b01_0 hb19, if_neg (by decide), Nat.add_zero] at ev
        have h9 := ih (i + 1) (by omega)
        rw [ev] at h9
        exact h9
      · refine vv_iinc (v := nI (me_cn (fb_bd M r) i + 1)) (L' := [(0, .ref (Y.2.1 0)), (1, .int (nI r)), (2, .int (nI (me_cn (fb_bd M r) i + 1))), (3, .int (nI i))]) fx nd_FB_keysBound_22 2 rfl (nI_1 _) (by decide) [1, 2, 0, 3] rfl ?_
        refine vv_iinc (v := nI (i + 1)) (L' := [(0, .ref (Y.2.1 0)), (1, .int (nI r)), (2, .int (nI (me_cn (fb_bd M r) i + 1))), (3, .int (nI (i + 1)))]) fx nd_FB_keysBound_25 3 rfl (nI_1 i) (by decide) [1, 2, 3, 0] rfl ?_
        refine vv_goto (tgt := 4) fx nd_FB_keysBound_28 (by decide) ?_
        rw [b01_1 hb19, if_pos rfl] at ev
        have h9 := ih (i + 1) (by omega)
        rw [ev] at h9
        exact h9
  exact loop 64 0 (by omega)
set_option maxRecDepth 4000 in
theorem cc_FB_leastUnusedSnapshot (l : Launch) (Y : sy_Y) (M U : me_M) (o : Int64)  : ct_I l ny_FB_leastUnusedSnapshot nb_FB_leastUnusedSnapshot 2 (some .int) { frames := 0, cells := 0, slots := 0, locals := 0 } Y [.ref (Y.2.1 0)] M U o (if fb_lu M 6 1 = 7 then -1 else nI (fb_lu M 6 1)) M U o := by
  refine ct_body (own := nr_FB) (L0 := [(0, .ref (Y.2.1 0))]) (by decide) rfl (Nat.le_of_ble_eq_true rfl) rfl ?_
  intro p e s m args below meth c fx
  refine vv_iconst (v := nI 1) fx nd_FB_leastUnusedSnapshot_0 (by decide) ?_
  refine vv_istore_n (L' := [(0, .ref (Y.2.1 0)), (1, .int (nI 1))]) fx nd_FB_leastUnusedSnapshot_1 rfl (by decide) [1, 0] rfl ?_
  have loop : ∀ f n, n + f = 7 → fb_lu M f n = fb_lu M 6 1 → vv p l e { frames := 0, cells := 0, slots := 0, locals := 0 } s m args below meth c 0 0 (MQ below (ct_Qi Y (if fb_lu M 6 1 = 7 then -1 else nI (fb_lu M 6 1)) M U o) args s 0 0 Y.2.2.2) 2 Y M U o 2 [(0, .ref (Y.2.1 0)), (1, .int (nI n))] [] := by
    intro f
    induction f with
    | zero =>
      intro n h1 he
      have e9 : fb_lu M 6 1 = 7 := by rw [← he]; show n = 7; omega
      refine vv_iload_n fx nd_FB_leastUnusedSnapshot_2 rfl 1 rfl ?_
      refine vv_aload_n fx nd_FB_leastUnusedSnapshot_3 rfl 0 rfl ?_
      refine vv_get (ci := 0) (C := nr_FB) (T := nt_FB) (N := 6) fx nt_FB_in 0 rfl rfl 1 (by decide) nf_FB_16 rfl nd_FB_leastUnusedSnapshot_4 ?_
      refine vv_alen fx 2 0 rfl rfl nd_FB_leastUnusedSnapshot_7 ?_
      refine vv_icmp_ge (tgt := 29) fx nd_FB_leastUnusedSnapshot_8 (by decide) (fun _ => ?_) (fun hb => absurd (nI_le (by omega) (by omega)) hb)
      refine vv_iconst (v := -1) fx nd_FB_leastUnusedSnapshot_29 (by decide) ?_
      exact vv_iret fx rfl nd_FB_leastUnusedSnapshot_30 ((if_pos e9).symm)
    | succ f ih =>
      intro n h1 he
      have ex : fb_lu M (f + 1) n = if n < 7 ∧ M 3 n ≠ -1 then fb_lu M f (n + 1) else n := rfl
      refine vv_iload_n fx nd_FB_leastUnusedSnapshot_2 rfl 1 rfl ?_
      refine vv_aload_n fx nd_FB_leastUnusedSnapshot_3 rfl 0 rfl ?_
      refine vv_get (ci := 0) (C := nr_FB) (T := nt_FB) (N := 6) fx nt_FB_in 0 rfl rfl 1 (by decide) nf_FB_16 rfl nd_FB_leastUnusedSnapshot_4 ?_
      refine vv_alen fx 2 0 rfl rfl nd_FB_leastUnusedSnapshot_7 ?_
      refine vv_icmp_ge (tgt := 29) fx nd_FB_leastUnusedSnapshot_8 (by decide) (fun hb => absurd hb (nI_ge (by omega) (by omega))) (fun _ => ?_)
      refine vv_aload_n fx nd_FB_leastUnusedSnapshot_11 rfl 0 rfl ?_
      refine vv_get (ci := 0) (C := nr_FB) (T := nt_FB) (N := 6) fx nt_FB_in 0 rfl rfl 1 (by decide) nf_FB_16 rfl nd_FB_leastUnusedSnapshot_12 ?_
      refine vv_iload_n fx nd_FB_leastUnusedSnapshot_15 rfl 1 rfl ?_
      refine vv_iald fx 2 0 rfl rfl (by omega) (by decide) nd_FB_leastUnusedSnapshot_16 ?_
      refine vv_iconst (v := -1) fx nd_FB_leastUnusedSnapshot_17 (by decide) ?_
      refine vv_icmp_ne (tgt := 23) fx nd_FB_leastUnusedSnapshot_18 (by decide) (fun hb18 => ?_) (fun hb18 => ?_)
      · refine vv_iinc (v := nI (n + 1)) (L' := [(0, .ref (Y.2.1 0)), (1, .int (nI (n + 1)))]) fx nd_FB_leastUnusedSnapshot_23 1 rfl (nI_1 n) (by decide) [1, 0] rfl ?_
        refine vv_goto (tgt := 2) fx nd_FB_leastUnusedSnapshot_26 (by decide) ?_
        exact ih (n + 1) (by omega) (by rw [← he, ex, if_pos ⟨by omega, hb18⟩])
      · have e9 : fb_lu M 6 1 = n := by rw [← he, ex, if_neg (fun z => z.2 hb18)]
        refine vv_iload_n fx nd_FB_leastUnusedSnapshot_21 rfl 1 rfl ?_
        exact vv_iret fx rfl nd_FB_leastUnusedSnapshot_22 (by rw [e9]; exact (if_neg (by omega)).symm)
  exact loop 6 1 (by omega) rfl
set_option maxRecDepth 4000 in
theorem cc_FB_snapshotsThere (l : Launch) (Y : sy_Y) (M U : me_M) (o : Int64)  : ct_I l ny_FB_snapshotsThere nb_FB_snapshotsThere 3 (some .int) { frames := 0, cells := 0, slots := 0, locals := 0 } Y [.ref (Y.2.1 0)] M U o (nI (me_cn (fun h => decide (M 3 (h + 1) ≠ -1)) 6)) M U o := by
  refine ct_body (own := nr_FB) (L0 := [(0, .ref (Y.2.1 0))]) (by decide) rfl (Nat.le_of_ble_eq_true rfl) rfl ?_
  intro p e s m args below meth c fx
  refine vv_iconst (v := nI 0) fx nd_FB_snapshotsThere_0 (by decide) ?_
  refine vv_istore_n (L' := [(0, .ref (Y.2.1 0)), (1, .int (nI 0))]) fx nd_FB_snapshotsThere_1 rfl (by decide) [1, 0] rfl ?_
  refine vv_iconst (v := nI 1) fx nd_FB_snapshotsThere_2 (by decide) ?_
  refine vv_istore_n (L' := [(0, .ref (Y.2.1 0)), (1, .int (nI 0)), (2, .int (nI 1))]) fx nd_FB_snapshotsThere_3 rfl (by decide) [1, 2, 0] rfl ?_
  have loop : ∀ d i, i + d = 6 → vv p l e { frames := 0, cells := 0, slots := 0, locals := 0 } s m args below meth c 0 0 (MQ below (ct_Qi Y (nI (me_cn (fun h => decide (M 3 (h + 1) ≠ -1)) 6)) M U o) args s 0 0 Y.2.2.2) 3 Y M U o 4 [(0, .ref (Y.2.1 0)), (1, .int (nI (me_cn (fun h => decide (M 3 (h + 1) ≠ -1)) i))), (2, .int (nI (i + 1)))] [] := by
    intro d
    induction d with
    | zero =>
      intro i hi
      have e9 : i = 6 := by omega
      subst e9
      refine vv_iload_n fx nd_FB_snapshotsThere_4 rfl 2 rfl ?_
      refine vv_aload_n fx nd_FB_snapshotsThere_5 rfl 0 rfl ?_
      refine vv_get (ci := 0) (C := nr_FB) (T := nt_FB) (N := 6) fx nt_FB_in 0 rfl rfl 1 (by decide) nf_FB_16 rfl nd_FB_snapshotsThere_6 ?_
      refine vv_alen fx 2 0 rfl rfl nd_FB_snapshotsThere_9 ?_
      refine vv_icmp_ge (tgt := 32) fx nd_FB_snapshotsThere_10 (by decide) (fun _ => ?_) (fun hb => absurd (nI_le (by omega) (by omega)) hb)
      refine vv_iload_n fx nd_FB_snapshotsThere_32 rfl 1 rfl ?_
      exact vv_iret fx rfl nd_FB_snapshotsThere_33 (rfl)
    | succ d ih =>
      intro i hi
      have ev : me_cn (fun h => decide (M 3 (h + 1) ≠ -1)) (i + 1) = me_cn (fun h => decide (M 3 (h + 1) ≠ -1)) i + if decide (M 3 (i + 1) ≠ -1) = true then 1 else 0 := rfl
      refine vv_iload_n fx nd_FB_snapshotsThere_4 rfl 2 rfl ?_
      refine vv_aload_n fx nd_FB_snapshotsThere_5 rfl 0 rfl ?_
      refine vv_get (ci := 0) (C := nr_FB) (T := nt_FB) (N := 6) fx nt_FB_in 0 rfl rfl 1 (by decide) nf_FB_16 rfl nd_FB_snapshotsThere_6 ?_
      refine vv_alen fx 2 0 rfl rfl nd_FB_snapshotsThere_9 ?_
      refine vv_icmp_ge (tgt := 32) fx nd_FB_snapshotsThere_10 (by decide) (fun hb => absurd hb (nI_ge (by omega) (by omega))) (fun _ => ?_)
      refine vv_aload_n fx nd_FB_snapshotsThere_13 rfl 0 rfl ?_
      refine vv_get (ci := 0) (C := nr_FB) (T := nt_FB) (N := 6) fx nt_FB_in 0 rfl rfl 1 (by decide) nf_FB_16 rfl nd_FB_snapshotsThere_14 ?_
      refine vv_iload_n fx nd_FB_snapshotsThere_17 rfl 2 rfl ?_
      refine vv_iald fx 2 0 rfl rfl (by omega) (by decide) nd_FB_snapshotsThere_18 ?_
      refine vv_iconst (v := -1) fx nd_FB_snapshotsThere_19 (by decide) ?_
      refine vv_icmp_eq (tgt := 26) fx nd_FB_snapshotsThere_20 (by decide) (fun hb20 => ?_) (fun hb20 => ?_)
      · refine vv_iinc (v := nI (i + 1 + 1)) (L' := [(0, .ref (Y.2.1 0)), (1, .int (nI (me_cn (fun h => decide (M 3 (h + 1) ≠ -1)) i))), (2, .int (nI (i + 1 + 1)))]) fx nd_FB_snapshotsThere_26 2 rfl (nI_1 _) (by decide) [1, 2, 0] rfl ?_
        refine vv_goto (tgt := 4) fx nd_FB_snapshotsThere_29 (by decide) ?_
        rw [decide_eq_false (p := M 3 (i + 1) ≠ -1) (fun z => z hb20), if_neg (by decide), Nat.add_zero] at ev
        have h9 := ih (i + 1) (by omega)
        rw [ev] at h9
        exact h9
      · refine vv_iinc (v := nI (me_cn (fun h => decide (M 3 (h + 1) ≠ -1)) i + 1)) (L' := [(0, .ref (Y.2.1 0)), (1, .int (nI (me_cn (fun h => decide (M 3 (h + 1) ≠ -1)) i + 1))), (2, .int (nI (i + 1)))]) fx nd_FB_snapshotsThere_23 1 rfl (nI_1 _) (by decide) [1, 0, 2] rfl ?_
        refine vv_iinc (v := nI (i + 1 + 1)) (L' := [(0, .ref (Y.2.1 0)), (1, .int (nI (me_cn (fun h => decide (M 3 (h + 1) ≠ -1)) i + 1))), (2, .int (nI (i + 1 + 1)))]) fx nd_FB_snapshotsThere_26 2 rfl (nI_1 _) (by decide) [1, 2, 0] rfl ?_
        refine vv_goto (tgt := 4) fx nd_FB_snapshotsThere_29 (by decide) ?_
        rw [decide_eq_true (p := M 3 (i + 1) ≠ -1) hb20, if_pos rfl] at ev
        have h9 := ih (i + 1) (by omega)
        rw [ev] at h9
        exact h9
  exact loop 6 0 (by omega)
set_option maxRecDepth 4000 in
theorem cc_FB_markMaps3 (l : Launch) (Y : sy_Y) (M U : me_M) (o : Int64) (hK : fb_KA M 3) : ct_I l ny_FB_markMaps nb_FB_markMaps 4 (some .int) { frames := 3, cells := 0, slots := 0, locals := 71 } Y [.ref (Y.2.1 0), .ref (Y.2.1 2)] M U o (nI (fb_mm M 3 7).1) ((fb_mm M 3 7).2) U o := by
  refine ct_body (own := nr_FB) (L0 := [(0, .ref (Y.2.1 0)), (1, .ref (Y.2.1 2))]) (by decide) rfl (Nat.le_of_ble_eq_true rfl) rfl ?_
  intro p e s m args below meth c fx
  refine vv_iconst (v := nI 0) fx nd_FB_markMaps_0 (by decide) ?_
  refine vv_istore_n (L' := [(0, .ref (Y.2.1 0)), (1, .ref (Y.2.1 2)), (2, .int (nI 0))]) fx nd_FB_markMaps_1 rfl (by decide) [1, 2, 0] rfl ?_
  refine vv_iconst (v := nI 0) fx nd_FB_markMaps_2 (by decide) ?_
  refine vv_istore_n (L' := [(0, .ref (Y.2.1 0)), (1, .ref (Y.2.1 2)), (2, .int (nI 0)), (3, .int (nI 0))]) fx nd_FB_markMaps_3 rfl (by decide) [1, 2, 3, 0] rfl ?_
  have loop : ∀ d i, i + d = 7 → vv p l e { frames := 3, cells := 0, slots := 0, locals := 71 } s m args below meth c 0 0 (MQ below (ct_Qi Y (nI (fb_mm M 3 7).1) ((fb_mm M 3 7).2) U o) args s 0 0 Y.2.2.2) 4 Y ((fb_mm M 3 i).2) U o 4 [(0, .ref (Y.2.1 0)), (1, .ref (Y.2.1 2)), (2, .int (nI (fb_mm M 3 i).1)), (3, .int (nI i))] [] := by
    intro d
    induction d with
    | zero =>
      intro i hi
      have e9 : i = 7 := by omega
      subst e9
      refine vv_iload_n fx nd_FB_markMaps_4 rfl 3 rfl ?_
      refine vv_aload_n fx nd_FB_markMaps_5 rfl 1 rfl ?_
      refine vv_alen fx 2 0 rfl rfl nd_FB_markMaps_6 ?_
      refine vv_icmp_ge (tgt := 36) fx nd_FB_markMaps_7 (by decide) (fun _ => ?_) (fun hb => absurd (nI_le (by omega) (by omega)) hb)
      refine vv_iload_n fx nd_FB_markMaps_36 rfl 2 rfl ?_
      exact vv_iret fx rfl nd_FB_markMaps_37 (rfl)
    | succ d ih =>
      intro i hi
      have ev : fb_mm M 3 (i + 1) = if M 3 i = -1 then (fb_mm M 3 i) else ((fb_mm M 3 i).1 + (fb_mark (fb_mm M 3 i).2 (fb_rt M 3 i)).1, (fb_mark (fb_mm M 3 i).2 (fb_rt M 3 i)).2) := rfl
      have ea : (fb_mm M 3 i).2 3 i = M 3 i := congrFun (fb_mm_n _ _ _ (by decide)) i
      refine vv_iload_n fx nd_FB_markMaps_4 rfl 3 rfl ?_
      refine vv_aload_n fx nd_FB_markMaps_5 rfl 1 rfl ?_
      refine vv_alen fx 2 0 rfl rfl nd_FB_markMaps_6 ?_
      refine vv_icmp_ge (tgt := 36) fx nd_FB_markMaps_7 (by decide) (fun hb => absurd hb (nI_ge (by omega) (by omega))) (fun _ => ?_)
      refine vv_aload_n fx nd_FB_markMaps_10 rfl 1 rfl ?_
      refine vv_iload_n fx nd_FB_markMaps_11 rfl 3 rfl ?_
      refine vv_iald fx 2 0 rfl rfl (by omega) (by decide) nd_FB_markMaps_12 ?_
      refine vv_top (y := M 3 i) (ea) ?_
      refine vv_iconst (v := -1) fx nd_FB_markMaps_13 (by decide) ?_
      refine vv_icmp_eq (tgt := 30) fx nd_FB_markMaps_14 (by decide) (fun hb14 => ?_) (fun hb14 => ?_)
      · refine vv_iinc (v := nI (i + 1)) (L' := [(0, .ref (Y.2.1 0)), (1, .ref (Y.2.1 2)), (2, .int (nI (fb_mm M 3 i).1)), (3, .int (nI (i + 1)))]) fx nd_FB_markMaps_30 3 rfl (nI_1 i) (by decide) [1, 2, 3, 0] rfl ?_
        refine vv_goto (tgt := 4) fx nd_FB_markMaps_33 (by decide) ?_
        rw [if_pos hb14] at ev
        have h9 := ih (i + 1) (by omega)
        rw [ev] at h9
        exact h9
      · obtain ⟨hr1, hr2⟩ := (hK i (by omega)).resolve_left hb14
        have hw := fb_wf_of (M := M) (M' := (fb_mm M 3 i).2) (fun x => fb_mm_n _ _ _ (by omega)) hr2
        refine vv_iload_n fx nd_FB_markMaps_17 rfl 2 rfl ?_
        refine vv_aload_n fx nd_FB_markMaps_18 rfl 0 rfl ?_
        refine vv_get (ci := 0) (C := nr_FB) (T := nt_FB) (N := 6) fx nt_FB_in 0 rfl rfl 0 (by decide) nf_FB_10 rfl nd_FB_markMaps_19 ?_
        refine vv_aload_n fx nd_FB_markMaps_22 rfl 1 rfl ?_
        refine vv_iload_n fx nd_FB_markMaps_23 rfl 3 rfl ?_
        refine vv_iald fx 2 0 rfl rfl (by omega) (by decide) nd_FB_markMaps_24 ?_
        refine vv_top (y := nI (fb_rt M 3 i)) (ea.trans hr1) ?_
        refine vv_callVi (C := nr_RM) (T := nt_RM) (N := 4) (ci := 1) fx (cc_RM_mark l Y (fb_mm M 3 i).2 U o (fb_rt M 3 i) (fb_wfr hw) (fun k _ => fb_wfp hw) (fun k _ => (fb_pk_wf hw k).2)) nm_FB_94 ns_RM_mark nv_RM_mark nz_RM nc_RM_mark ni_RM_mark 1 rfl rfl ⟨rfl, rfl, by decide, by decide⟩ ⟨Nat.le_of_ble_eq_true rfl, Nat.le_of_ble_eq_true rfl⟩ (Nat.le_of_ble_eq_true rfl) nd_FB_markMaps_25 rfl ?_
        refine vv_iadd fx nd_FB_markMaps_28 ?_
        refine vv_top (y := nI ((fb_mm M 3 i).1 + (fb_mark (fb_mm M 3 i).2 (fb_rt M 3 i)).1)) (nI_add _ _) ?_
        refine vv_istore_n (L' := [(0, .ref (Y.2.1 0)), (1, .ref (Y.2.1 2)), (2, .int (nI ((fb_mm M 3 i).1 + (fb_mark (fb_mm M 3 i).2 (fb_rt M 3 i)).1))), (3, .int (nI i))]) fx nd_FB_markMaps_29 rfl (by decide) [1, 2, 0, 3] rfl ?_
        refine vv_iinc (v := nI (i + 1)) (L' := [(0, .ref (Y.2.1 0)), (1, .ref (Y.2.1 2)), (2, .int (nI ((fb_mm M 3 i).1 + (fb_mark (fb_mm M 3 i).2 (fb_rt M 3 i)).1))), (3, .int (nI (i + 1)))]) fx nd_FB_markMaps_30 3 rfl (nI_1 i) (by decide) [1, 2, 3, 0] rfl ?_
        refine vv_goto (tgt := 4) fx nd_FB_markMaps_33 (by decide) ?_
        rw [if_neg hb14] at ev
        have h9 := ih (i + 1) (by omega)
        rw [ev] at h9
        exact h9
  exact loop 7 0 (by omega)
set_option maxRecDepth 4000 in
theorem cc_FB_markMaps4 (l : Launch) (Y : sy_Y) (M U : me_M) (o : Int64) (hK : fb_KA M 4) : ct_I l ny_FB_markMaps nb_FB_markMaps 4 (some .int) { frames := 3, cells := 0, slots := 0, locals := 71 } Y [.ref (Y.2.1 0), .ref (Y.2.1 3)] M U o (nI (fb_mm M 4 7).1) ((fb_mm M 4 7).2) U o := by
  refine ct_body (own := nr_FB) (L0 := [(0, .ref (Y.2.1 0)), (1, .ref (Y.2.1 3))]) (by decide) rfl (Nat.le_of_ble_eq_true rfl) rfl ?_
  intro p e s m args below meth c fx
  refine vv_iconst (v := nI 0) fx nd_FB_markMaps_0 (by decide) ?_
  refine vv_istore_n (L' := [(0, .ref (Y.2.1 0)), (1, .ref (Y.2.1 3)), (2, .int (nI 0))]) fx nd_FB_markMaps_1 rfl (by decide) [1, 2, 0] rfl ?_
  refine vv_iconst (v := nI 0) fx nd_FB_markMaps_2 (by decide) ?_
  refine vv_istore_n (L' := [(0, .ref (Y.2.1 0)), (1, .ref (Y.2.1 3)), (2, .int (nI 0)), (3, .int (nI 0))]) fx nd_FB_markMaps_3 rfl (by decide) [1, 2, 3, 0] rfl ?_
  have loop : ∀ d i, i + d = 7 → vv p l e { frames := 3, cells := 0, slots := 0, locals := 71 } s m args below meth c 0 0 (MQ below (ct_Qi Y (nI (fb_mm M 4 7).1) ((fb_mm M 4 7).2) U o) args s 0 0 Y.2.2.2) 4 Y ((fb_mm M 4 i).2) U o 4 [(0, .ref (Y.2.1 0)), (1, .ref (Y.2.1 3)), (2, .int (nI (fb_mm M 4 i).1)), (3, .int (nI i))] [] := by
    intro d
    induction d with
    | zero =>
      intro i hi
      have e9 : i = 7 := by omega
      subst e9
      refine vv_iload_n fx nd_FB_markMaps_4 rfl 3 rfl ?_
      refine vv_aload_n fx nd_FB_markMaps_5 rfl 1 rfl ?_
      refine vv_alen fx 3 0 rfl rfl nd_FB_markMaps_6 ?_
      refine vv_icmp_ge (tgt := 36) fx nd_FB_markMaps_7 (by decide) (fun _ => ?_) (fun hb => absurd (nI_le (by omega) (by omega)) hb)
      refine vv_iload_n fx nd_FB_markMaps_36 rfl 2 rfl ?_
      exact vv_iret fx rfl nd_FB_markMaps_37 (rfl)
    | succ d ih =>
      intro i hi
      have ev : fb_mm M 4 (i + 1) = if M 4 i = -1 then (fb_mm M 4 i) else ((fb_mm M 4 i).1 + (fb_mark (fb_mm M 4 i).2 (fb_rt M 4 i)).1, (fb_mark (fb_mm M 4 i).2 (fb_rt M 4 i)).2) := rfl
      have ea : (fb_mm M 4 i).2 4 i = M 4 i := congrFun (fb_mm_n _ _ _ (by decide)) i
      refine vv_iload_n fx nd_FB_markMaps_4 rfl 3 rfl ?_
      refine vv_aload_n fx nd_FB_markMaps_5 rfl 1 rfl ?_
      refine vv_alen fx 3 0 rfl rfl nd_FB_markMaps_6 ?_
      refine vv_icmp_ge (tgt := 36) fx nd_FB_markMaps_7 (by decide) (fun hb => absurd hb (nI_ge (by omega) (by omega))) (fun _ => ?_)
      refine vv_aload_n fx nd_FB_markMaps_10 rfl 1 rfl ?_
      refine vv_iload_n fx nd_FB_markMaps_11 rfl 3 rfl ?_
      refine vv_iald fx 3 0 rfl rfl (by omega) (by decide) nd_FB_markMaps_12 ?_
      refine vv_top (y := M 4 i) (ea) ?_
      refine vv_iconst (v := -1) fx nd_FB_markMaps_13 (by decide) ?_
      refine vv_icmp_eq (tgt := 30) fx nd_FB_markMaps_14 (by decide) (fun hb14 => ?_) (fun hb14 => ?_)
      · refine vv_iinc (v := nI (i + 1)) (L' := [(0, .ref (Y.2.1 0)), (1, .ref (Y.2.1 3)), (2, .int (nI (fb_mm M 4 i).1)), (3, .int (nI (i + 1)))]) fx nd_FB_markMaps_30 3 rfl (nI_1 i) (by decide) [1, 2, 3, 0] rfl ?_
        refine vv_goto (tgt := 4) fx nd_FB_markMaps_33 (by decide) ?_
        rw [if_pos hb14] at ev
        have h9 := ih (i + 1) (by omega)
        rw [ev] at h9
        exact h9
      · obtain ⟨hr1, hr2⟩ := (hK i (by omega)).resolve_left hb14
        have hw := fb_wf_of (M := M) (M' := (fb_mm M 4 i).2) (fun x => fb_mm_n _ _ _ (by omega)) hr2
        refine vv_iload_n fx nd_FB_markMaps_17 rfl 2 rfl ?_
        refine vv_aload_n fx nd_FB_markMaps_18 rfl 0 rfl ?_
        refine vv_get (ci := 0) (C := nr_FB) (T := nt_FB) (N := 6) fx nt_FB_in 0 rfl rfl 0 (by decide) nf_FB_10 rfl nd_FB_markMaps_19 ?_
        refine vv_aload_n fx nd_FB_markMaps_22 rfl 1 rfl ?_
        refine vv_iload_n fx nd_FB_markMaps_23 rfl 3 rfl ?_
        refine vv_iald fx 3 0 rfl rfl (by omega) (by decide) nd_FB_markMaps_24 ?_
        refine vv_top (y := nI (fb_rt M 4 i)) (ea.trans hr1) ?_
        refine vv_callVi (C := nr_RM) (T := nt_RM) (N := 4) (ci := 1) fx (cc_RM_mark l Y (fb_mm M 4 i).2 U o (fb_rt M 4 i) (fb_wfr hw) (fun k _ => fb_wfp hw) (fun k _ => (fb_pk_wf hw k).2)) nm_FB_94 ns_RM_mark nv_RM_mark nz_RM nc_RM_mark ni_RM_mark 1 rfl rfl ⟨rfl, rfl, by decide, by decide⟩ ⟨Nat.le_of_ble_eq_true rfl, Nat.le_of_ble_eq_true rfl⟩ (Nat.le_of_ble_eq_true rfl) nd_FB_markMaps_25 rfl ?_
        refine vv_iadd fx nd_FB_markMaps_28 ?_
        refine vv_top (y := nI ((fb_mm M 4 i).1 + (fb_mark (fb_mm M 4 i).2 (fb_rt M 4 i)).1)) (nI_add _ _) ?_
        refine vv_istore_n (L' := [(0, .ref (Y.2.1 0)), (1, .ref (Y.2.1 3)), (2, .int (nI ((fb_mm M 4 i).1 + (fb_mark (fb_mm M 4 i).2 (fb_rt M 4 i)).1))), (3, .int (nI i))]) fx nd_FB_markMaps_29 rfl (by decide) [1, 2, 0, 3] rfl ?_
        refine vv_iinc (v := nI (i + 1)) (L' := [(0, .ref (Y.2.1 0)), (1, .ref (Y.2.1 3)), (2, .int (nI ((fb_mm M 4 i).1 + (fb_mark (fb_mm M 4 i).2 (fb_rt M 4 i)).1))), (3, .int (nI (i + 1)))]) fx nd_FB_markMaps_30 3 rfl (nI_1 i) (by decide) [1, 2, 3, 0] rfl ?_
        refine vv_goto (tgt := 4) fx nd_FB_markMaps_33 (by decide) ?_
        rw [if_neg hb14] at ev
        have h9 := ih (i + 1) (by omega)
        rw [ev] at h9
        exact h9
  exact loop 7 0 (by omega)
theorem fb_K4 {M : me_M} (hK : fb_K M) : fb_KA (fb_unmark M) 4 := fb_KA_of (fun x => fb_unmark_n M (by omega)) (fb_unmark_n M (by decide)) hK.2
theorem fb_K3 {M : me_M} (hK : fb_K M) : fb_KA (fb_md M).2 3 := fb_KA_of (fun x => fb_md_n M (by omega)) (fb_md_n M (by decide)) hK.1
set_option maxRecDepth 4000 in
theorem cc_FB_freeNodes (l : Launch) (Y : sy_Y) (M U : me_M) (o : Int64) (hK : fb_K M) : ct_I l ny_FB_freeNodes nb_FB_freeNodes 1 (some .int) { frames := 4, cells := 0, slots := 0, locals := 94 } Y [.ref (Y.2.1 0)] M U o (fb_free M) ((fb_mr M).2) U o := by
  refine ct_body (own := nr_FB) (L0 := [(0, .ref (Y.2.1 0))]) (by decide) rfl (Nat.le_of_ble_eq_true rfl) rfl ?_
  intro p e s m args below meth c fx
  refine vv_aload_n fx nd_FB_freeNodes_0 rfl 0 rfl ?_
  refine vv_get (ci := 0) (C := nr_FB) (T := nt_FB) (N := 6) fx nt_FB_in 0 rfl rfl 0 (by decide) nf_FB_10 rfl nd_FB_freeNodes_1 ?_
  refine vv_callVv (C := nr_RM) (T := nt_RM) (N := 4) (ci := 1) fx (cc_RM_unmarkAll l Y M U o) nm_FB_91 ns_RM_unmarkAll nv_RM_unmarkAll nz_RM nc_RM_unmarkAll ni_RM_unmarkAll 1 rfl rfl ⟨rfl, rfl, by decide, by decide⟩ ⟨Nat.le_of_ble_eq_true rfl, Nat.le_of_ble_eq_true rfl⟩ (Nat.le_of_ble_eq_true rfl) nd_FB_freeNodes_4 rfl ?_
  refine vv_bipush (v := nI 60) fx nd_FB_freeNodes_7 (by decide) ?_
  refine vv_aload_n fx nd_FB_freeNodes_9 rfl 0 rfl ?_
  refine vv_aload_n fx nd_FB_freeNodes_10 rfl 0 rfl ?_
  refine vv_get (ci := 0) (C := nr_FB) (T := nt_FB) (N := 6) fx nt_FB_in 0 rfl rfl 2 (by decide) nf_FB_20 rfl nd_FB_freeNodes_11 ?_
  refine vv_callVi (C := nr_FB) (T := nt_FB) (N := 6) (ci := 0) fx (cc_FB_markMaps4 l Y (fb_unmark M) U o (fb_K4 hK)) nm_FB_166 ns_FB_markMaps nv_FB_markMaps nz_FB nc_FB_markMaps ni_FB_markMaps 0 rfl rfl ⟨rfl, rfl, by decide, by decide⟩ ⟨Nat.le_of_ble_eq_true rfl, Nat.le_of_ble_eq_true rfl⟩ (Nat.le_of_ble_eq_true rfl) nd_FB_freeNodes_14 rfl ?_
  refine vv_isub fx nd_FB_freeNodes_17 ?_
  refine vv_aload_n fx nd_FB_freeNodes_18 rfl 0 rfl ?_
  refine vv_aload_n fx nd_FB_freeNodes_19 rfl 0 rfl ?_
  refine vv_get (ci := 0) (C := nr_FB) (T := nt_FB) (N := 6) fx nt_FB_in 0 rfl rfl 1 (by decide) nf_FB_16 rfl nd_FB_freeNodes_20 ?_
  refine vv_callVi (C := nr_FB) (T := nt_FB) (N := 6) (ci := 0) fx (cc_FB_markMaps3 l Y (fb_md M).2 U o (fb_K3 hK)) nm_FB_166 ns_FB_markMaps nv_FB_markMaps nz_FB nc_FB_markMaps ni_FB_markMaps 0 rfl rfl ⟨rfl, rfl, by decide, by decide⟩ ⟨Nat.le_of_ble_eq_true rfl, Nat.le_of_ble_eq_true rfl⟩ (Nat.le_of_ble_eq_true rfl) nd_FB_freeNodes_23 rfl ?_
  refine vv_isub fx nd_FB_freeNodes_26 ?_
  exact vv_iret fx rfl nd_FB_freeNodes_27 (rfl)
set_option maxRecDepth 4000 in
theorem cc_FB_writesNeeded (l : Launch) (Y : sy_Y) (M U : me_M) (o : Int64) (hK : fb_K M) : ct_I l ny_FB_writesNeeded nb_FB_writesNeeded 1 (some .int) { frames := 4, cells := 0, slots := 0, locals := 94 } Y [.ref (Y.2.1 0)] M U o (fb_due0 M) ((fb_mr M).2) U o := by
  refine ct_body (own := nr_FB) (L0 := [(0, .ref (Y.2.1 0))]) (by decide) rfl (Nat.le_of_ble_eq_true rfl) rfl ?_
  intro p e s m args below meth c fx
  refine vv_aload_n fx nd_FB_writesNeeded_0 rfl 0 rfl ?_
  refine vv_get (ci := 0) (C := nr_FB) (T := nt_FB) (N := 6) fx nt_FB_in 0 rfl rfl 0 (by decide) nf_FB_10 rfl nd_FB_writesNeeded_1 ?_
  refine vv_callVv (C := nr_RM) (T := nt_RM) (N := 4) (ci := 1) fx (cc_RM_unmarkAll l Y M U o) nm_FB_91 ns_RM_unmarkAll nv_RM_unmarkAll nz_RM nc_RM_unmarkAll ni_RM_unmarkAll 1 rfl rfl ⟨rfl, rfl, by decide, by decide⟩ ⟨Nat.le_of_ble_eq_true rfl, Nat.le_of_ble_eq_true rfl⟩ (Nat.le_of_ble_eq_true rfl) nd_FB_writesNeeded_4 rfl ?_
  refine vv_aload_n fx nd_FB_writesNeeded_7 rfl 0 rfl ?_
  refine vv_aload_n fx nd_FB_writesNeeded_8 rfl 0 rfl ?_
  refine vv_get (ci := 0) (C := nr_FB) (T := nt_FB) (N := 6) fx nt_FB_in 0 rfl rfl 2 (by decide) nf_FB_20 rfl nd_FB_writesNeeded_9 ?_
  refine vv_callVi (C := nr_FB) (T := nt_FB) (N := 6) (ci := 0) fx (cc_FB_markMaps4 l Y (fb_unmark M) U o (fb_K4 hK)) nm_FB_166 ns_FB_markMaps nv_FB_markMaps nz_FB nc_FB_markMaps ni_FB_markMaps 0 rfl rfl ⟨rfl, rfl, by decide, by decide⟩ ⟨Nat.le_of_ble_eq_true rfl, Nat.le_of_ble_eq_true rfl⟩ (Nat.le_of_ble_eq_true rfl) nd_FB_writesNeeded_12 rfl ?_
  refine vv_pop fx nd_FB_writesNeeded_15 rfl ?_
  refine vv_aload_n fx nd_FB_writesNeeded_16 rfl 0 rfl ?_
  refine vv_aload_n fx nd_FB_writesNeeded_17 rfl 0 rfl ?_
  refine vv_get (ci := 0) (C := nr_FB) (T := nt_FB) (N := 6) fx nt_FB_in 0 rfl rfl 1 (by decide) nf_FB_16 rfl nd_FB_writesNeeded_18 ?_
  refine vv_callVi (C := nr_FB) (T := nt_FB) (N := 6) (ci := 0) fx (cc_FB_markMaps3 l Y (fb_md M).2 U o (fb_K3 hK)) nm_FB_166 ns_FB_markMaps nv_FB_markMaps nz_FB nc_FB_markMaps ni_FB_markMaps 0 rfl rfl ⟨rfl, rfl, by decide, by decide⟩ ⟨Nat.le_of_ble_eq_true rfl, Nat.le_of_ble_eq_true rfl⟩ (Nat.le_of_ble_eq_true rfl) nd_FB_writesNeeded_21 rfl ?_
  refine vv_iconst (v := nI 1) fx nd_FB_writesNeeded_24 (by decide) ?_
  refine vv_iadd fx nd_FB_writesNeeded_25 ?_
  exact vv_iret fx rfl nd_FB_writesNeeded_26 (rfl)
set_option maxRecDepth 4000 in
theorem cc_FB_failsWithin (l : Launch) (Y : sy_Y) (M U : me_M) (o : Int64) (n : Int32) : ct_I l ny_FB_failsWithin nb_FB_failsWithin 2 (some .boolean) { frames := 0, cells := 0, slots := 0, locals := 0 } Y [.ref (Y.2.1 0), .int n] M U o (if (decide (M 5 2 ≠ -1) && decide (M 5 2 < n)) = true then 1 else 0) M U o := by
  refine ct_body (own := nr_FB) (L0 := [(0, .ref (Y.2.1 0)), (1, .int n)]) (by decide) rfl (Nat.le_of_ble_eq_true rfl) rfl ?_
  intro p e s m args below meth c fx
  refine vv_aload_n fx nd_FB_failsWithin_0 rfl 0 rfl ?_
  refine vv_get (ci := 0) (C := nr_FB) (T := nt_FB) (N := 6) fx nt_FB_in 0 rfl rfl 5 (by decide) nf_FB_23 rfl nd_FB_failsWithin_1 ?_
  refine vv_iconst (v := -1) fx nd_FB_failsWithin_4 (by decide) ?_
  refine vv_icmp_eq (tgt := 20) fx nd_FB_failsWithin_5 (by decide) (fun hb5 => ?_) (fun hb5 => ?_)
  · refine vv_iconst (v := nI 0) fx nd_FB_failsWithin_20 (by decide) ?_
    exact vv_zret fx rfl nd_FB_failsWithin_21 (b01_f (by rw [decide_eq_false (p := M 5 2 ≠ -1) (fun z => z hb5)]; rfl)) (fb_01 _)
  · refine vv_aload_n fx nd_FB_failsWithin_8 rfl 0 rfl ?_
    refine vv_get (ci := 0) (C := nr_FB) (T := nt_FB) (N := 6) fx nt_FB_in 0 rfl rfl 5 (by decide) nf_FB_23 rfl nd_FB_failsWithin_9 ?_
    refine vv_iload_n fx nd_FB_failsWithin_12 rfl 1 rfl ?_
    refine vv_icmp_ge (tgt := 20) fx nd_FB_failsWithin_13 (by decide) (fun hb13 => ?_) (fun hb13 => ?_)
    · refine vv_iconst (v := nI 0) fx nd_FB_failsWithin_20 (by decide) ?_
      exact vv_zret fx rfl nd_FB_failsWithin_21 (b01_f (by rw [decide_eq_false (p := M 5 2 < n) (Int32.not_lt.mpr hb13), Bool.and_false])) (fb_01 _)
    · refine vv_iconst (v := nI 1) fx nd_FB_failsWithin_16 (by decide) ?_
      refine vv_goto (tgt := 21) fx nd_FB_failsWithin_17 (by decide) ?_
      exact vv_zret fx rfl nd_FB_failsWithin_21 (b01_t (by rw [decide_eq_true (p := M 5 2 < n) (Int32.not_le.mp hb13), decide_eq_true (p := M 5 2 ≠ -1) hb5]; rfl)) (fb_01 _)
set_option maxRecDepth 4000 in
theorem cc_FB_losePower (l : Launch) (Y : sy_Y) (M U : me_M) (o : Int64)  : ct_V l ny_FB_losePower nb_FB_losePower 1 { frames := 0, cells := 0, slots := 0, locals := 0 } Y [.ref (Y.2.1 0)] M U o (me_up (me_up (me_up M 5 1 (M 5 1 + M 5 2)) 5 2 (-1)) 5 0 1) U o := by
  refine ct_body (own := nr_FB) (L0 := [(0, .ref (Y.2.1 0))]) (by decide) rfl (Nat.le_of_ble_eq_true rfl) rfl ?_
  intro p e s m args below meth c fx
  refine vv_aload_n fx nd_FB_losePower_0 rfl 0 rfl ?_
  refine vv_dup fx nd_FB_losePower_1 rfl ?_
  refine vv_get (ci := 0) (C := nr_FB) (T := nt_FB) (N := 6) fx nt_FB_in 0 rfl rfl 4 (by decide) nf_FB_133 rfl nd_FB_losePower_2 ?_
  refine vv_aload_n fx nd_FB_losePower_5 rfl 0 rfl ?_
  refine vv_get (ci := 0) (C := nr_FB) (T := nt_FB) (N := 6) fx nt_FB_in 0 rfl rfl 5 (by decide) nf_FB_23 rfl nd_FB_losePower_6 ?_
  refine vv_iadd fx nd_FB_losePower_9 ?_
  refine vv_put (M' := me_up M 5 1 ((M 5 1) + (M 5 2))) (U' := U) (ci := 0) (C := nr_FB) (T := nt_FB) (N := 6) (ty := .int) fx nt_FB_in nt_FB_ty nt_FB_ok nt_FB_nm 0 rfl rfl 4 (by decide) nf_FB_133 rfl (by decide +kernel) rfl rfl (Nat.le_of_ble_eq_true rfl) nd_FB_losePower_10 (sy_put1 _) ?_
  refine vv_aload_n fx nd_FB_losePower_13 rfl 0 rfl ?_
  refine vv_iconst (v := -1) fx nd_FB_losePower_14 (by decide) ?_
  refine vv_put (M' := me_up (me_up M 5 1 ((M 5 1) + (M 5 2))) 5 2 (-1)) (U' := U) (ci := 0) (C := nr_FB) (T := nt_FB) (N := 6) (ty := .int) fx nt_FB_in nt_FB_ty nt_FB_ok nt_FB_nm 0 rfl rfl 5 (by decide) nf_FB_23 rfl (by decide +kernel) rfl rfl (Nat.le_of_ble_eq_true rfl) nd_FB_losePower_15 (sy_put2 _) ?_
  refine vv_aload_n fx nd_FB_losePower_18 rfl 0 rfl ?_
  refine vv_iconst (v := nI 1) fx nd_FB_losePower_19 (by decide) ?_
  refine vv_put (M' := me_up (me_up (me_up M 5 1 ((M 5 1) + (M 5 2))) 5 2 (-1)) 5 0 (nI 1)) (U' := U) (ci := 0) (C := nr_FB) (T := nt_FB) (N := 6) (ty := .boolean) fx nt_FB_in nt_FB_ty nt_FB_ok nt_FB_nm 0 rfl rfl 3 (by decide) nf_FB_136 rfl (by decide +kernel) rfl rfl (Nat.le_of_ble_eq_true rfl) nd_FB_losePower_20 (sy_put0 _) ?_
  exact vv_vret fx rfl nd_FB_losePower_23
set_option maxRecDepth 4000 in
theorem cc_FB_order (l : Launch) (Y : sy_Y) (M U : me_M) (o : Int64) (n : Int32) : ct_I l ny_FB_order nb_FB_order 2 (some .boolean) { frames := 0, cells := 0, slots := 0, locals := 0 } Y [.ref (Y.2.1 0), .int n] M U o ((fb_order M n).2.1) ((fb_order M n).2.2) U o := by
  refine ct_body (own := nr_FB) (L0 := [(0, .ref (Y.2.1 0)), (1, .int n)]) (by decide) rfl (Nat.le_of_ble_eq_true rfl) rfl ?_
  intro p e s m args below meth c fx
  refine vv_iload_n fx nd_FB_order_0 rfl 1 rfl ?_
  refine vv_if_lt (tgt := 10) fx nd_FB_order_1 (by decide) (fun hb1 => ?_) (fun hb1 => ?_)
  · rw [show fb_order M n = (0, 0, M) from if_pos (Or.inl hb1)]
    refine vv_iconst (v := nI 0) fx nd_FB_order_10 (by decide) ?_
    exact vv_zret fx rfl nd_FB_order_11 (rfl) (Or.inl rfl)
  · refine vv_iload_n fx nd_FB_order_4 rfl 1 rfl ?_
    refine vv_bipush (v := nI 100) fx nd_FB_order_5 (by decide) ?_
    refine vv_icmp_le (tgt := 12) fx nd_FB_order_7 (by decide) (fun hb7 => ?_) (fun hb7 => ?_)
    · rw [show fb_order M n = (0, 1, me_up M 5 2 n) from if_neg (fun z => z.elim hb1 (Int32.not_lt.mpr hb7))]
      refine vv_aload_n fx nd_FB_order_12 rfl 0 rfl ?_
      refine vv_iload_n fx nd_FB_order_13 rfl 1 rfl ?_
      refine vv_put (M' := me_up M 5 2 n) (U' := U) (ci := 0) (C := nr_FB) (T := nt_FB) (N := 6) (ty := .int) fx nt_FB_in nt_FB_ty nt_FB_ok nt_FB_nm 0 rfl rfl 5 (by decide) nf_FB_23 rfl (by decide +kernel) rfl rfl (Nat.le_of_ble_eq_true rfl) nd_FB_order_14 (sy_put2 _) ?_
      refine vv_iconst (v := nI 1) fx nd_FB_order_17 (by decide) ?_
      exact vv_zret fx rfl nd_FB_order_18 (rfl) (Or.inr rfl)
    · rw [show fb_order M n = (0, 0, M) from if_pos (Or.inr (Int32.not_le.mp hb7))]
      refine vv_iconst (v := nI 0) fx nd_FB_order_10 (by decide) ?_
      exact vv_zret fx rfl nd_FB_order_11 (rfl) (Or.inl rfl)
set_option maxRecDepth 4000 in
theorem cc_FB_recover (l : Launch) (Y : sy_Y) (M U : me_M) (o : Int64)  : ct_I l ny_FB_recover nb_FB_recover 1 (some .int) { frames := 1, cells := 0, slots := 0, locals := 40 } Y [.ref (Y.2.1 0)] M U o ((fb_recover M).2.1) ((fb_recover M).2.2) U o := by
  refine ct_body (own := nr_FB) (L0 := [(0, .ref (Y.2.1 0))]) (by decide) rfl (Nat.le_of_ble_eq_true rfl) rfl ?_
  intro p e s m args below meth c fx
  refine vv_aload_n fx nd_FB_recover_0 rfl 0 rfl ?_
  refine vv_get (ci := 0) (C := nr_FB) (T := nt_FB) (N := 6) fx nt_FB_in 0 rfl rfl 3 (by decide) nf_FB_136 rfl nd_FB_recover_1 ?_
  refine vv_if_ne (tgt := 9) fx nd_FB_recover_4 (by decide) (fun hb4 => ?_) (fun hb4 => ?_)
  · rw [show fb_recover M = (0, nI (me_cn (fun h => decide (M 4 (h + 1) ≠ -1)) 6), me_up (me_set M 3 (va_cpy (M 4) (M 3) 0 0 7)) 5 0 0) from if_neg hb4]
    refine vv_aload_n fx nd_FB_recover_9 rfl 0 rfl ?_
    refine vv_get (ci := 0) (C := nr_FB) (T := nt_FB) (N := 6) fx nt_FB_in 0 rfl rfl 2 (by decide) nf_FB_20 rfl nd_FB_recover_10 ?_
    refine vv_iconst (v := nI 0) fx nd_FB_recover_13 (by decide) ?_
    refine vv_aload_n fx nd_FB_recover_14 rfl 0 rfl ?_
    refine vv_get (ci := 0) (C := nr_FB) (T := nt_FB) (N := 6) fx nt_FB_in 0 rfl rfl 1 (by decide) nf_FB_16 rfl nd_FB_recover_15 ?_
    refine vv_iconst (v := nI 0) fx nd_FB_recover_18 (by decide) ?_
    refine vv_aload_n fx nd_FB_recover_19 rfl 0 rfl ?_
    refine vv_get (ci := 0) (C := nr_FB) (T := nt_FB) (N := 6) fx nt_FB_in 0 rfl rfl 1 (by decide) nf_FB_16 rfl nd_FB_recover_20 ?_
    refine vv_alen fx 2 0 rfl rfl nd_FB_recover_23 ?_
    refine vv_copy (M' := me_set M 3 (va_cpy (M 4) (M 3) 0 0 7)) (U' := U) (n := 7) fx nm_FB_33 3 2 (rfl) (rfl) (by decide) (by decide) (by decide) (by decide) (Nat.le_of_ble_eq_true rfl) nd_FB_recover_24 (sy_set3 _) ?_
    refine vv_aload_n fx nd_FB_recover_27 rfl 0 rfl ?_
    refine vv_iconst (v := 0) fx nd_FB_recover_28 (by decide) ?_
    refine vv_put (M' := me_up (me_set M 3 (va_cpy (M 4) (M 3) 0 0 7)) 5 0 0) (U' := U) (ci := 0) (C := nr_FB) (T := nt_FB) (N := 6) (ty := .boolean) fx nt_FB_in nt_FB_ty nt_FB_ok nt_FB_nm 0 rfl rfl 3 (by decide) nf_FB_136 rfl (by decide +kernel) rfl rfl (Nat.le_of_ble_eq_true rfl) nd_FB_recover_29 (sy_put0 _) ?_
    refine vv_aload_n fx nd_FB_recover_32 rfl 0 rfl ?_
    refine vv_callVi (C := nr_FB) (T := nt_FB) (N := 6) (ci := 0) fx (cc_FB_snapshotsThere l Y (me_up (me_set M 3 (va_cpy (M 4) (M 3) 0 0 7)) 5 0 0) U o) nm_FB_140 ns_FB_snapshotsThere nv_FB_snapshotsThere nz_FB nc_FB_snapshotsThere ni_FB_snapshotsThere 0 rfl rfl ⟨rfl, rfl, by decide, by decide⟩ ⟨Nat.le_of_ble_eq_true rfl, Nat.le_of_ble_eq_true rfl⟩ (Nat.le_of_ble_eq_true rfl) nd_FB_recover_33 rfl ?_
    exact vv_iret fx rfl nd_FB_recover_36 (congrArg nI (me_cn_congr (fun i hi => by rw [me_up_n _ _ _ (by decide), me_set_s, rf_cpy7 _ _ (by omega)])))
  · rw [show fb_recover M = (0, -1, M) from if_pos hb4]
    refine vv_iconst (v := -1) fx nd_FB_recover_7 (by decide) ?_
    exact vv_iret fx rfl nd_FB_recover_8 (rfl)
set_option maxRecDepth 4000 in
theorem cc_FB_writes (l : Launch) (Y : sy_Y) (M U : me_M) (o : Int64)  : ct_I l ny_FB_writes nb_FB_writes 1 (some .int) { frames := 0, cells := 0, slots := 0, locals := 0 } Y [.ref (Y.2.1 0)] M U o (M 5 1) M U o := by
  refine ct_body (own := nr_FB) (L0 := [(0, .ref (Y.2.1 0))]) (by decide) rfl (Nat.le_of_ble_eq_true rfl) rfl ?_
  intro p e s m args below meth c fx
  refine vv_aload_n fx nd_FB_writes_0 rfl 0 rfl ?_
  refine vv_get (ci := 0) (C := nr_FB) (T := nt_FB) (N := 6) fx nt_FB_in 0 rfl rfl 4 (by decide) nf_FB_133 rfl nd_FB_writes_1 ?_
  exact vv_iret fx rfl nd_FB_writes_4 (rfl)
set_option maxRecDepth 4000 in
theorem cc_FB_down (l : Launch) (Y : sy_Y) (M U : me_M) (o : Int64) (h0 : M 5 0 = 0 ∨ M 5 0 = 1) : ct_I l ny_FB_down nb_FB_down 1 (some .boolean) { frames := 0, cells := 0, slots := 0, locals := 0 } Y [.ref (Y.2.1 0)] M U o (M 5 0) M U o := by
  refine ct_body (own := nr_FB) (L0 := [(0, .ref (Y.2.1 0))]) (by decide) rfl (Nat.le_of_ble_eq_true rfl) rfl ?_
  intro p e s m args below meth c fx
  refine vv_aload_n fx nd_FB_down_0 rfl 0 rfl ?_
  refine vv_get (ci := 0) (C := nr_FB) (T := nt_FB) (N := 6) fx nt_FB_in 0 rfl rfl 3 (by decide) nf_FB_136 rfl nd_FB_down_1 ?_
  exact vv_zret fx rfl nd_FB_down_4 (rfl) (h0)
end
section
/-! a throw whose constructor hands its text on through ix, its code being rx; traces off (the library has the row with traces on) -/
section
variable {p : Program} {l : Launch} {e : Env} {R : Room} {s : State} {m : MethodId} {args : Array Value} {below : List Frame} {meth : Method} {c : Code} {W : State} {locs : List Loc} {cells slots : Nat}
def sx_at (own : String) (ic : Nat) (X : String) (ix : Nat) (rx : ByteArray) (names : List String) : List Cond := (Bundle.ownAtomsX own ic X ix rx names).filter vx_no
set_option maxHeartbeats 2000000 in
theorem sx_ctor (X : Stand p l e R s m args below meth c W locs cells slots) (hexec : p.tables.exec = Jvm.exec) (htr : e.platform.stackTraces = false) {own cls : String} {names : List String} {ic ix : Nat} {rx : ByteArray}
    (x0 : decode rx 0 = .ok (.aload_n 0, 1)) (x1 : decode rx 1 = .ok (.aload_n 1, 1)) (x2 : decode rx 2 = .ok (.invokespecial ix, 3)) (x5 : decode rx 5 = .ok (.return_, 1))
    (hown : s.vm.findClass own = some m.cls) (hcls : Bundle.fit cls = true) (hnames : ∀ n ∈ names, Bundle.fit n = true) (h : ∀ w ∈ Bundle.ownAtomsX own ic cls ix rx names, w.before args s = true)
    (hlocs : ∀ x ∈ locs, ∀ cell, s.heap[x.base]? = some cell → cell.vm.isStatics = false) {a : Addr} {cX : ClassId} {kX : Class} (hfX : s.vm.findClass cls = some cX) (hkX : s.vm.classes[cX]? = some kX) (hcell : W.heap[a]? = some (freshCell cX kX)) (hnew : s.heap.size ≤ a)
    {msg : Value} (hmsg : msg.isRef = true) {g : JFrame} (hg : g.method = m) (hsize : g.locals.size = c.maxLocals) (hlocked : g.locked = none) (hentered : g.entered = []) {rest : List Value} (hstack : g.stack = msg :: .ref a :: .ref a :: rest)
    (d6 : decode c.code g.pc = .ok (.invokespecial ic, 3)) (d9 : decode c.code (g.pc + 3) = .ok (.athrow, 1)) (hout : ∀ x ∈ c.exceptionTable.toList, covers x (g.pc + 3) = false)
    (hRframes : names.length + 3 < R.frames) (hRlocals : 2 * g.monitorRoom + ((Value.ref a :: rest).map fun v => v.category).sum + (13 * (names.length + 1) + 42) ≤ R.locals) (hlocks : meth.locks = false) :
    ∃ U : State, Steps p.tables e below (W.setTop g) U ∧ U.status = .running ∧ Ended U below (.threw a) ∧ s.WarmedH U.vm ∧ s.sameButNew ({ U with vm := s.vm } : State) locs cells slots ∧
      ∃ ce, U.heap[a]? = some ce ∧ ce.vm = .none ∧ s.vm.findClass cls = some ce.cls := by
  have k1 : e.platform.frameOwnsMonitors = true := by rw [X.admits.platform]
  have k2 : e.platform.finalization = false := by rw [X.admits.platform]
  have k3 : e.platform.magicAccessors = ({} : Platform).magicAccessors := by rw [X.admits.platform]
  have q : ∀ w, w ∈ Bundle.ownAtomsX own ic cls ix rx names → w.holds args s none s [] = true := h
  obtain ⟨T, _, L, -, Y⟩ := ThrowableC.of_atoms (args := args) k1 k2 k3 (fun x hx => h x (by simp [Bundle.ownAtomsX, hx]))
  obtain ⟨Z, G, LZ, LG, hnZ⟩ := Init0T.ofS_atoms (args := args) k3 L Y (fun x hx => h x (by simp [Bundle.ownAtomsX, hx]))
  obtain ⟨P, Ps, hlen, L1, L2, hPm, l1, l2⟩ := Bundle.chainSX (args := args) k3 hnZ x0 x1 x2 x5 names cls hcls hnames (fun x hx => h x (by simp [Bundle.ownAtomsX, hx]))
  have hfound : s.vm.findClass cls = some P.m.cls := findClass_of_methodNamed hPm
  cases Option.some.inj (hfX.symm.trans hfound)
  obtain ⟨c1, kX', hc1, hk, hord, -, -, hn6⟩ := Cond.instantiable_spec (q (.instantiable cls 6) (by simp [Bundle.ownAtomsX]))
  cases Option.some.inj (hc1.symm.trans hfound)
  cases Option.some.inj (hkX.symm.trans hk)
  have sel : ∀ (f : MethodName) (m9 : MethodId), (Cond.selects cls f f).before args s = true → s.methodNamed? f = some m9 → s.methodFound? f.cls f.name f.desc = some m9 → selectMethod e.platform s.vm P.m.cls m9 = .method m9 := by
    intro f m9 hs hn hf
    obtain ⟨c2, r2, m2, z1, z2, z3, z4, -⟩ := Cond.selects_spec hs
    cases Option.some.inj (z1.symm.trans hfound)
    cases Option.some.inj (z2.symm.trans hf)
    cases Option.some.inj (z3.symm.trans hn)
    rw [Launch.admits_selectMethod X.admits]; exact z4
  have s0 := sel _ _ (q (.selects cls Bundle.tFill0 Bundle.tFill0) (by simp [Bundle.ownAtomsX])) Y.fill0 (State.methodFound?_of_named Y.fill0 (by decide))
  have s1 := sel _ _ (q (.selects cls Bundle.tFill Bundle.tFill) (by simp [Bundle.ownAtomsX])) Y.fill (State.methodFound?_of_named Y.fill (by decide))
  obtain ⟨cS0, hcS0, hiss⟩ := Y.statics
  obtain ⟨u0, hu0⟩ := Cond.staticRefV Y.unassigned L.unassignedStatic L.statics hcS0 hiss (q (.isRef (.static Bundle.tN "UNASSIGNED_STACK" Bundle.steD)) (by simp [Bundle.ownAtomsX]))
  obtain ⟨u1, hu1⟩ := Cond.staticRefV Y.sentinel L.sentinelStatic L.statics hcS0 hiss (q (.isRef (.static Bundle.tN "SUPPRESSED_SENTINEL" Bundle.listD)) (by simp [Bundle.ownAtomsX]))
  obtain ⟨ci, i8, fB, b1, b2, b3, b4, -, hnB, htB, hffB⟩ := Cond.ownField (t := .object "java/lang/Object") Y.found L.cls (by decide +kernel) (q (.fieldLink Bundle.tN 198 Bundle.tN "backtrace" "Ljava/lang/Object;") (by simp [Bundle.ownAtomsX])) (q (.lays Bundle.tN Bundle.tN "backtrace" "Ljava/lang/Object;") (by simp [Bundle.ownAtomsX])) e.platform k3
  obtain ⟨cS, hcS, heS, -, hkeep⟩ := X.same.2.2.2.2.2 T.aS cS0 hcS0
  have no : ∀ i, (⟨T.aS, i⟩ : Loc) ∉ locs := fun i hmem => by
    have := hlocs _ hmem cS0 hcS0
    rw [hiss] at this; cases this
  have hkn : cS.vm ≠ .unknown := by
    rw [heS]; intro hu
    rw [show cS0.vm = .unknown from hu] at hiss
    cases hiss
  have hne : T.aS ≠ a := Nat.ne_of_lt (Nat.lt_of_lt_of_le (Array.getElem?_eq_some_iff.mp hcS0).1 hnew)
  obtain ⟨iM, hffM⟩ := Y.msg
  obtain ⟨tC, _, dC, nC⟩ := Cond.laysAt hfound hk Y.cause (q (.lays cls Bundle.tN "cause" "Ljava/lang/Throwable;") (by simp [Bundle.ownAtomsX]))
  obtain ⟨tS, _, dS, nS⟩ := Cond.laysAt hfound hk Y.stack (q (.lays cls Bundle.tN "stackTrace" Bundle.steD) (by simp [Bundle.ownAtomsX]))
  obtain ⟨tP, _, dP, nP⟩ := Cond.laysAt hfound hk Y.supp (q (.lays cls Bundle.tN "suppressedExceptions" Bundle.listD) (by simp [Bundle.ownAtomsX]))
  obtain ⟨tM, _, dM, nM⟩ := Cond.laysAt hfound hk hffM (q (.lays cls Bundle.tN "detailMessage" "Ljava/lang/String;") (by simp [Bundle.ownAtomsX]))
  obtain ⟨tB, _, dB, nB⟩ := Cond.laysAt hfound hk hffB (q (.lays cls Bundle.tN "backtrace" "Ljava/lang/Object;") (by simp [Bundle.ownAtomsX]))
  have r1 := Cond.laysApart dB dC nB nC (by rw [hnB, Y.causeName]; decide)
  have r2 := Cond.laysApart dB dS nB nS (by rw [hnB, Y.stackName]; decide)
  have r3 := Cond.laysApart dB dP nB nP (by rw [hnB, Y.suppName]; decide)
  have hskip : SkipFacts T e.platform s (fun u => u) u0 ((preparedCellV T.toThrowableT (freshCell P.m.cls kX) a u0 u1).withEntry W.cur) :=
    ⟨{ ci198 := ci, i198 := i8, fBack := fB }, ⟨b1, b2, b3, b4⟩, by
      have := fresh_default (c := P.m.cls) tB
      rw [htB] at this
      simpa [preparedCellV, Cell.setSlot, Cell.withEntry, Array.getElem?_setIfInBounds, r1, r2, r3, r1.symm, r2.symm, r3.symm, defaultValue] using this, fun _ _ => rfl⟩
  obtain ⟨_, _, _, _, v1, hnC, -, -, -, -, -, -, -, hW1, st1⟩ := Steps.initColdS (tb := p.tables) (e := e) (below := below) (s := s) (U := W) X.here hexec X.warmed k3 hown (t := Bundle.initS cls) rfl rfl (Bundle.fit_spec hcls).2
    (q (.methodLink own ic (Bundle.initS cls)) (by simp [Bundle.ownAtomsX])) (h (.instanceMethod (Bundle.initS cls)) (by cases names <;> simp [Bundle.ownAtomsX, Bundle.chainSAtomsX, Bundle.passSAtoms])) (bytes := rx) (maxL := 2) (h (.code (Bundle.initS cls) rx 2 none) (by cases names <;> simp [Bundle.ownAtomsX, Bundle.chainSAtomsX, Bundle.passSAtoms]))
    (f := g) hg (a := a) (msg := msg) (rest := .ref a :: rest) hstack d6
  cases Option.some.inj (hnC.symm.trans hPm)
  have X1 := X.noted hW1
  obtain ⟨v2, X2, st2⟩ := X1.ctorMessageOffV hexec (g := { g with stack := .ref a :: rest }) hg hsize T L Z LZ G LG (P :: Ps)
    (fun z hz => by rcases List.mem_cons.mp hz with rfl | hz; exact L1; exact L2 z hz) ⟨l1, l2⟩ (u0 := u0) (sen := u1) (self := a) hmsg (cell := freshCell P.m.cls kX) (cellS := cS)
    hcell (fun _ => by simp) (by simp) rfl rfl s0 s1 hcS hne hkn (by rw [hkeep _ (no _)]; exact hu0) (by rw [hkeep _ (no _)]; exact hu1)
    (Takes.of_laid hk hord tC (by rw [Y.causeType]; rfl)) (Takes.of_laid hk hord tS (by rw [Y.stackType]; exact fits_refV_array _ u0)) (Takes.of_laid hk hord tP (by rw [Y.suppType]; exact fits_refV_object _ u1))
    (Takes.of_laid hk hord tM (by rw [Y.msgType]; exact fits_refV_object _ ⟨msg, hmsg⟩)) Y.objLocals hskip htr [] d6
    (by simp only [List.length_cons, hlen]; omega) (by simp only [List.length_cons, hlen]; exact hRlocals)
  obtain ⟨hwalk, hrun, hend, hWU, hsame⟩ := X2.athrowLeaves hexec (g := { g with stack := .ref a :: rest, pc := g.pc + 3 }) hg hlocked hentered hout (a := a) (rest := rest) rfl d9
  have hlt : a < ((W.setVm v1).setVm v2).heap.size := (Array.getElem?_eq_some_iff.mp hcell).1
  have hU := heapAt_setCell_self (s := (W.setVm v1).setVm v2) (plainBareV T.toThrowableT (freshCell P.m.cls kX) a u0 u1 msg) hlt
  refine ⟨_, st1 _ (fun acts => ?_), hrun, hend, hWU, hsame.weaken (fun y hy hlt' => ?_) (Nat.le_refl _) (Nat.le_refl _), _, hU, rfl, hfound⟩
  · rw [doInvoke_state]
    exact st2 _ hwalk
  · rcases List.mem_append.mp hy with h1 | h1
    · exact h1
    · exfalso
      have hb : y.base = a := by
        simp only [List.mem_cons, List.not_mem_nil, or_false] at h1
        rcases h1 with rfl | rfl | rfl | rfl | rfl <;> rfl
      rw [hb] at hlt'
      exact Nat.not_lt.mpr hnew hlt'
end
section
variable {p : Program} {l : Launch} {e : Env} {R : Room} {s : State} {m : MethodId} {args : Array Value} {below : List Frame} {meth : Method} {c : Code} {H : Heap} {locs : List Loc} {cells slots : Nat} {free : Addr → Prop} {ls : Array Slot} {rest : List Value} {Qc : Array Value → State → Outcome → State → Prop} {XC : String → State → State → Prop}
theorem sx_throw {cc : ByteArray} {pc : Nat} (hexec : p.tables.exec = Jvm.exec) (hb : c.code = cc) (hl : l.stackTraces = false) {own cls text : String} {ix : Nat} {rx : ByteArray} (x0 : decode rx 0 = .ok (.aload_n 0, 1)) (x1 : decode rx 1 = .ok (.aload_n 1, 1)) (x2 : decode rx 2 = .ok (.invokespecial ix, 3)) (x5 : decode rx 5 = .ok (.return_, 1)) {names : List String} {ik is ic mc ms sa : Nat} {A : Nat → Prop}
    (hown : s.vm.findClass own = some m.cls) (hcls : Bundle.fit cls = true) (hnames : ∀ n ∈ names, Bundle.fit n = true)
    (hk : (Cond.classLink own ik cls).before args s = true) (hini : (Cond.initialized cls).before args s = true) (hstr : vk_R own is text sa s) (hat : ∀ w ∈ sx_at own ic cls ix rx names, w.before args s = true)
    (hgood : ∀ w ∈ Cond.classLink own ik cls :: Cond.initialized cls :: sx_at own ic cls ix rx names, vx_ot w = true)
    (hU : vx_Zq Bundle.tN "UNASSIGNED_STACK" Bundle.steD A s s.heap) (hN : vx_Zq Bundle.tN "SUPPRESSED_SENTINEL" Bundle.listD A s s.heap) (hS : va_S A s.heap H locs) (hsize : ls.size = c.maxLocals)
    (d0 : decode cc pc = .ok (.new ik, 3)) (d3 : decode cc (pc + 3) = .ok (.dup, 1)) (d4 : decode cc (pc + 4) = .ok (.ldc is, 2)) (d6 : decode cc (pc + 6) = .ok (.invokespecial ic, 3)) (d9 : decode cc (pc + 9) = .ok (.athrow, 1))
    (hout : ∀ x ∈ c.exceptionTable.toList, covers x (pc + 9) = false)
    (hRframes : names.length + 3 < R.frames) (hRlocals : (rest.map fun v => v.category).sum + (13 * (names.length + 1) + 43) ≤ R.locals) (hRcells : cells + 1 ≤ R.cells) (hRslots : slots + 6 ≤ R.slots) (hlocks : meth.locks = false)
    (hx : ∀ t : State, s.vm.Alike t.vm → H.size ≤ t.heap.size → (∀ q : Nat, q < H.size → t.heap[q]? = H[q]?) → XC cls s t)
    (hf : ∀ z ∈ locs, free z.base) (hc : cells + 1 ≤ mc) (hs : slots + 6 ≤ ms) :
    W p l e R s m args below meth c H locs cells slots (vx_MQ below Qc XC args s mc ms free) (F0 m pc ls rest) := by
  intro T hT X
  have htr : e.platform.stackTraces = false := (show e.platform.stackTraces = l.stackTraces by rw [X.admits.platform]).trans hl
  have Y := vx_rebase X (R' := { frames := R.frames, locals := R.locals, cells := 1, slots := 6 }) (Nat.le_refl _) (Nat.le_refl _) hRcells hRslots
  obtain ⟨s', hA⟩ : ∃ z, z = (T.setVm s.vm).setFrames (.invoking m args :: below) := ⟨_, rfl⟩
  rw [← hA] at Y
  have hvm : s'.vm = s.vm := by rw [hA]; rfl
  have hhp : s'.heap = H := by rw [hA]; exact hT
  have hW0 : s.WarmedH s'.vm := by rw [hvm]; exact State.WarmedH.refl s
  have hat' : ∀ w ∈ sx_at own ic cls ix rx names, w.before args s' = true := fun w hw => vx_ot_at hW0 hvm.symm (hgood w (List.mem_cons_of_mem _ (List.mem_cons_of_mem _ hw))) (hat w hw)
  have hk' : (Cond.classLink own ik cls).before args s' = true := vx_ot_at hW0 hvm.symm (hgood _ List.mem_cons_self) hk
  have hini' : (Cond.initialized cls).before args s' = true := vx_ot_at hW0 hvm.symm (hgood _ (List.mem_cons_of_mem _ List.mem_cons_self)) hini
  have hU' : vx_Zq Bundle.tN "UNASSIGNED_STACK" Bundle.steD A s' s'.heap := by rw [hhp]; exact vx_Zq.moved hW0.alike (hU.kept hS.2.1)
  have hN' : vx_Zq Bundle.tN "SUPPRESSED_SENTINEL" Bundle.listD A s' s'.heap := by rw [hhp]; exact vx_Zq.moved hW0.alike (hN.kept hS.2.1)
  have h : ∀ w ∈ Bundle.ownAtomsX own ic cls ix rx names, w.before args s' = true := vx_own hat' (vx_isRefq hU'.1) (vx_isRefq hN'.1) hU'.2.word hN'.2.word
  have hown' : s'.vm.findClass own = some m.cls := by rw [hvm]; exact hown
  have hins : (Cond.instantiable cls 6).before args s' = true := h _ (by simp [Bundle.ownAtomsX])
  obtain ⟨vm₁, cX, kX, hfX, hkX, -, -, X₁, st1⟩ := Y.newCold hexec (own := own) (C := cls) (index := ik) (n := 6) hown' hk' hins hini'
    (g := F0 m pc ls rest) rfl (by rw [hb]; exact d0) (Nat.le_refl _) (Nat.le_refl _)
  generalize hT1 : (T.setVm vm₁).pushCell { cls := cX, slots := kX.instanceTypes.map defaultValue, vm := .none } = T1 at X₁ st1
  have hcat : (Value.ref T.heap.size).category = 1 := rfl
  have hcellA : T1.heap[T.heap.size]? = some (freshCell cX kX) := by rw [← hT1]; exact State.heap_pushCell_size _ _
  have d3' : decode c.code (pc + 3) = .ok (.dup, 1) := by rw [hb]; exact d3
  have d4' : decode c.code (pc + 4) = .ok (.ldc is, 2) := by rw [hb]; exact d4
  have hstr' : vk_R own is text sa s' := vk_R.warm hW0 hstr
  obtain ⟨U, hsteps, hrun, hend, hW, hsame, ce, hce, hcv, hcl0⟩ := sx_ctor X₁ hexec htr x0 x1 x2 x5 hown' hcls hnames h (fun x hx => nomatch hx) hfX hkX hcellA (by rw [hhp, hT]; exact Nat.le_refl _) (msg := .ref sa) rfl
    (g := { method := m, pc := pc + 6, locals := ls, stack := .ref sa :: .ref T.heap.size :: .ref T.heap.size :: rest, locked := none }) rfl hsize rfl rfl (rest := rest) rfl
    (by rw [hb]; exact d6) (by rw [hb]; exact d9) hout hRframes (by simp only [List.map_cons, List.sum_cons, hcat]; omega) hlocks
  obtain ⟨f1, f2⟩ := vx_frame hsame
  rw [hhp] at f1 f2
  have hWs : s.WarmedH U.vm := State.WarmedH.trans hW0 hW
  have hcl : s.vm.findClass cls = some ce.cls := by
    have h9 := hcl0
    rw [hvm] at h9
    exact h9
  have hall : s.sameButNew ({ U with vm := s.vm } : State) locs mc ms := by
    subst hA
    obtain ⟨e1, e2⟩ := hsame
    rw [State.setFrames_setFrames] at e1
    have h2 : (T.setVm s.vm).sameButNew ({ U with vm := s.vm } : State) [] (0 + 1) (0 + 6) := ⟨e1, e2⟩
    have h3 := X.same.trans h2
    rw [List.append_nil] at h3
    exact h3.mono hc hs
  refine ⟨U, ?_, .threw T.heap.size, hrun, hend, Or.inr ⟨T.heap.size, rfl, cls, ce, locs, hx U hWs.alike f1 (fun q hq => f2 q hq (fun z hz => nomatch hz)), hce, hcv, hcl, hWs, hall, hf⟩⟩
  refine st1 _ ?_
  show Steps p.tables e below (T1.setTop { method := m, pc := pc + 3, locals := ls, stack := .ref T.heap.size :: rest, locked := none }) _
  jvm_step X₁.here [X₁.here.top, hexec, d3', Value.category]
  exact X₁.ldcString hexec (own := own) (text := text) (index := is) (a := sa) hown' hstr'.1 hstr'.2
    (g := { method := m, pc := pc + 4, locals := ls, stack := .ref T.heap.size :: .ref T.heap.size :: rest, locked := none }) rfl d4' _ hsteps
end
end
section
/-! contracts of methods that may throw (x: which exception, 0 none), and rows for them (printed by cx.py) -/
def sy_nm (x : Nat) : String := match x with
  | 1 => "java/lang/IllegalStateException"
  | 2 => "java/lang/IllegalArgumentException"
  | 3 => "java/lang/UnsupportedOperationException"
  | _ => "java/util/NoSuchElementException"
def sy_up : List String := ["java/lang/RuntimeException", "java/lang/Exception"]
def ct_XC (Y : sy_Y) (x : Nat) (M U : me_M) (o : Int64) : String → State → State → Prop := vx_X (fun (_ : Unit) => True) (fun E _ t => x ≠ 0 ∧ E = sy_nm x ∧ va_P Y.1 sy_cl (sy_w Y M U o) t.heap) Y.2.2.2
def ct_Xi (Y : sy_Y) (x : Nat) (r : Int32) (M U : me_M) (o : Int64) : Array Value → State → Outcome → State → Prop := va_Qi (fun r2 (_ : Unit) => x = 0 ∧ r2 = r) (fun _ t => va_P Y.1 sy_cl (sy_w Y M U o) t.heap) Y.2.2.2
def ct_Xv (Y : sy_Y) (x : Nat) (M U : me_M) (o : Int64) : Array Value → State → Outcome → State → Prop := va_Qv (fun (_ : Unit) => x = 0) (fun _ t => va_P Y.1 sy_cl (sy_w Y M U o) t.heap) Y.2.2.2
abbrev ct_IX (l : Launch) (y : MethodName) (b : ByteArray) (n : Nat) (ret : Option FieldType) (rm : Room) (Y : sy_Y) (as : List Value) (M U : me_M) (o : Int64) (x : Nat) (r : Int32) (M' U' : me_M) (o' : Int64) (mc ms : Nat) : Prop := vx_Met l y (.code y b n ret :: wl) rm (ct_P Y as M U o) (ct_Xi Y x r M' U' o') (ct_XC Y x M' U' o') mc ms Y.2.2.2
abbrev ct_VX (l : Launch) (y : MethodName) (b : ByteArray) (n : Nat) (rm : Room) (Y : sy_Y) (as : List Value) (M U : me_M) (o : Int64) (x : Nat) (M' U' : me_M) (o' : Int64) (mc ms : Nat) : Prop := vx_Met l y (.code y b n none :: wl) rm (ct_P Y as M U o) (ct_Xv Y x M' U' o') (ct_XC Y x M' U' o') mc ms Y.2.2.2
theorem ct_bodyX {l : Launch} {y : MethodName} {b : ByteArray} {n : Nat} {ret : Option FieldType} {rm : Room} {Y : sy_Y} {as : List Value} {M U : me_M} {o : Int64} {Qc : Array Value → State → Outcome → State → Prop} {XC : String → State → State → Prop} {mc ms : Nat} {own : String} (hy : plainName y.cls = true) (ho : y.cls = own) (hlen : (lg_sl as).length ≤ n) {L0 : List (Nat × Value)} (hL0 : lv_args 0 as = L0)
    (body : ∀ (p : Program) (e : Env) (s : State) (m : MethodId) (args : Array Value) (below : List Frame) (meth : Method) (c : Code), vv_fix p s m args meth c b n ret own Y → (∀ x ∈ c.exceptionTable.toList, False) → vv p l e rm s m args below meth c 0 0 (vx_MQ below Qc XC args s mc ms Y.2.2.2) n Y M U o 0 L0 []) :
    vx_Met l y (.code y b n ret :: wl) rm (ct_P Y as M U o) Qc XC mc ms Y.2.2.2 := by
  refine vx_ofW (cc := b) (maxL := n) (ret := ret) hy rfl ?_
  intro p e s m args below meth c s₁ B hml htab hv
  obtain ⟨rfl, hok, hP⟩ := hv
  have hown : s.vm.findClass y.cls = some m.cls := findClass_of_methodNamed B.named
  have fx : vv_fix p s m as.toArray meth c b n ret own Y := ⟨B.exec, B.bytes, hml, by rw [← ho]; exact hown, fun w hw => atoms_spec (ws := .code y b n ret :: wl) B.pre w (List.mem_cons_of_mem _ hw), hok, B.returns, B.notSynchronized⟩
  have hl := lv_entry as (n := n) hlen
  rw [hL0] at hl
  rw [lg_entry_eq]
  exact body p e s m as.toArray below meth c fx htab s.heap [] _ hP va_S.rf hl
theorem sy_nwT : ∀ w ∈ sy_nw, w.onTables = true := by decide +kernel
theorem sy_nwB {Y : sy_Y} {s : State} {args : Array Value} (h : sy_th Y s s.heap) : ∀ w ∈ sy_nw, w.before args s = true := fun w hw => va_tabs (sy_nwT w hw) (u := s) rfl (h.2.2.1 w hw)
section
variable {p : Program} {l : Launch} {e : Env} {R : Room} {s : State} {m : MethodId} {args : Array Value} {below : List Frame} {meth : Method} {c : Code} {cells slots : Nat} {Q : State → Prop}
variable {cc : ByteArray} {nL : Nat} {ret : Option FieldType} {own : String} {Y : sy_Y} {M U M' U' : me_M} {o o' : Int64} {pc : Nat} {L L' : List (Nat × Value)} {st : List Value}
variable {xf mc ms : Nat} {Mf Uf : me_M} {of_ : Int64} {Qc : Array Value → State → Outcome → State → Prop} {XC : String → State → State → Prop}
theorem vv_ixret (fx : vv_fix p s m args meth c cc nL ret own Y) (hret : ret = some .int) (hd : decode cc pc = .ok (.ireturn, 1)) {x r : Int32} (hx : xf = 0) (e9 : x = r) (hc : cells ≤ mc) (hs : slots ≤ ms) : vv p l e R s m args below meth c cells slots (vx_MQ below (ct_Xi Y xf r M U o) XC args s mc ms Y.2.2.2) nL Y M U o pc L [.int x] := fun H locs ls hP hS hl => vx_ret (fun T hT X =>
  W.iret (v := x) fx.1 fx.2.1 (fx.2.2.2.2.2.2.1.trans hret) (fun t ht hW => ⟨⟨x, (), rfl, ⟨hx, e9⟩, by show va_P _ _ _ t.heap; rw [ht]; exact hP⟩, hS.F ht⟩) hS.2.2 hd fx.2.2.2.2.2.2.2 T hT (stand_widen X hc hs))
theorem vv_vxret (fx : vv_fix p s m args meth c cc nL ret own Y) (hret : ret = none) (hd : decode cc pc = .ok (.return_, 1)) (hx : xf = 0) (hc : cells ≤ mc) (hs : slots ≤ ms) : vv p l e R s m args below meth c cells slots (vx_MQ below (ct_Xv Y xf M U o) XC args s mc ms Y.2.2.2) nL Y M U o pc L [] := fun H locs ls hP hS hl => vx_ret (fun T hT X =>
  W.vret fx.1 fx.2.1 (fx.2.2.2.2.2.2.1.trans hret) (fun t ht hW => ⟨⟨(), rfl, hx, by show va_P _ _ _ t.heap; rw [ht]; exact hP⟩, hS.F ht⟩) hS.2.2 hd fx.2.2.2.2.2.2.2 T hT (stand_widen X hc hs))
theorem ct_XCof {E : String} {x : Nat} {t : State} {H : Heap} {locs : List Loc} (hx : x ≠ 0) (hE : E = sy_nm x) (hP : va_P Y.1 sy_cl (sy_w Y M U o) H) (hS : va_S Y.2.2.2 s.heap H locs) (h1 : H.size ≤ t.heap.size) (h2 : ∀ q : Nat, q < H.size → t.heap[q]? = H[q]?) : ct_XC Y x M U o E s t := by
  refine ⟨(), trivial, ⟨hx, hE, fun k q hk => ?_⟩, Nat.le_trans hS.1 h1, fun q hq hn => ?_⟩
  · exact (hP k q hk).kept (h2 q.1 (vx_lt hP hk))
  · rw [h2 q (Nat.lt_of_lt_of_le hq hS.1)]; exact hS.2.1 q hq hn
def ct_CX (R rm : Room) (n mc ms : Nat) : Prop := rm.cells = mc ∧ rm.slots = ms ∧ rm.frames + 1 ≤ R.frames ∧ 8 + (n + 11) + rm.locals ≤ R.locals
theorem sw_1 : ∀ w ∈ (sx_at nr_FB 132 "java/lang/IllegalStateException" 7 Bundle.six sy_up).filter goodWord, w ∈ wl := by
  have h9 : (sx_at nr_FB 132 "java/lang/IllegalStateException" 7 Bundle.six sy_up).filter goodWord = [41, 161, 170, 175, 178, 180, 162, 163, 55, 56, 164, 169, 176, 196, 151, 197, 153, 198, 155, 165, 167, 157, 192, 193, 195, 157, 183, 184, 185, 186, 186, 187, 188, 189, 189, 190, 191, 192, 182, 140, 148, 149, 150, 152, 154, 156, 160, 159, 158].filterMap (fun i => lw_tbl[i]?) := by decide +kernel
  intro w hw
  have g := (List.mem_filter.mp hw).2
  rw [h9] at hw
  obtain ⟨i, _, h⟩ := List.mem_filterMap.mp hw
  exact List.mem_filter.mpr ⟨List.mem_of_getElem? h, g⟩
theorem sn_1 : ∀ w ∈ (sx_at nr_FB 132 "java/lang/IllegalStateException" 7 Bundle.six sy_up).filter (fun w => !goodWord w), w ∈ sy_nw := by
  have h9 : (sx_at nr_FB 132 "java/lang/IllegalStateException" 7 Bundle.six sy_up).filter (fun w => !goodWord w) = [4, 5, 6, 0].filterMap (fun i => sy_nw[i]?) := by decide +kernel
  intro w hw
  rw [h9] at hw
  obtain ⟨i, _, h⟩ := List.mem_filterMap.mp hw
  exact List.mem_of_getElem? h
theorem so_1 : ∀ w ∈ Cond.classLink nr_FB 128 "java/lang/IllegalStateException" :: Cond.initialized "java/lang/IllegalStateException" :: sx_at nr_FB 132 "java/lang/IllegalStateException" 7 Bundle.six sy_up, vx_ot w = true := by decide +kernel
theorem vv_throw_1 (fx : vv_fix p s m args meth c cc nL ret nr_FB Y) (htab : ∀ x ∈ c.exceptionTable.toList, False) (hl : l.stackTraces = false) {is : Nat} {text : String} (hstr : (is, text) ∈ sy_strs) (d0 : decode cc pc = .ok (.new 128, 3)) (d3 : decode cc (pc + 3) = .ok (.dup, 1)) (d4 : decode cc (pc + 4) = .ok (.ldc is, 2)) (d6 : decode cc (pc + 6) = .ok (.invokespecial 132, 3)) (d9 : decode cc (pc + 9) = .ok (.athrow, 1))
    (hRf : 5 < R.frames) (hRl : 82 ≤ R.locals) (hRc : cells + 1 ≤ R.cells) (hRs : slots + 6 ≤ R.slots) (hx : xf = 1) (hM : Mf = M) (hU : Uf = U) (ho : of_ = o) (hc : cells + 1 ≤ mc) (hs : slots + 6 ≤ ms) : vv p l e R s m args below meth c cells slots (vx_MQ below Qc (ct_XC Y xf Mf Uf of_) args s mc ms Y.2.2.2) nL Y M U o pc L [] := fun H locs ls hP hS hl9 => by
  subst hx; subst hM; subst hU; subst ho
  obtain ⟨hx, hb, hml, hown, hts, hok, -, hlk⟩ := id fx
  obtain ⟨sa, hsa⟩ := hok.2.2.2.2.2.2.1 _ hstr
  exact sx_throw (names := sy_up) (cls := "java/lang/IllegalStateException") (ix := 7) (rx := Bundle.six) (A := Y.2.2.2) hx hb hl (by decide +kernel) (by decide +kernel) (by decide +kernel) (by decide +kernel) hown (by decide +kernel) (by decide +kernel) (hts _ (wl_t1 104 rfl rfl)) (hts _ (wl_t1 9 rfl rfl)) hsa (vx_hat (fun w hw => hts w (sw_1 w hw)) sn_1 (sy_nwB hok.2.2.2)) so_1 hok.2.2.2.1 hok.2.2.2.2.1 hS (hl9.1.trans hml.symm) d0 d3 d4 d6 d9 (fun z hz => (htab z hz).elim) hRf hRl hRc hRs hlk (fun t _ h1 h2 => ct_XCof (by decide) rfl hP hS h1 h2) hS.2.2 hc hs
theorem sw_2 : ∀ w ∈ (sx_at nr_FB 50 "java/lang/IllegalArgumentException" 7 Bundle.six sy_up).filter goodWord, w ∈ wl := by
  have h9 : (sx_at nr_FB 50 "java/lang/IllegalArgumentException" 7 Bundle.six sy_up).filter goodWord = [41, 161, 170, 175, 178, 180, 162, 163, 55, 56, 164, 169, 176, 196, 151, 197, 153, 198, 155, 165, 167, 157, 192, 193, 195, 157, 223, 224, 225, 186, 186, 187, 188, 189, 189, 190, 191, 192, 222, 213, 215, 172, 216, 217, 218, 219, 160, 159, 220].filterMap (fun i => lw_tbl[i]?) := by decide +kernel
  intro w hw
  have g := (List.mem_filter.mp hw).2
  rw [h9] at hw
  obtain ⟨i, _, h⟩ := List.mem_filterMap.mp hw
  exact List.mem_filter.mpr ⟨List.mem_of_getElem? h, g⟩
theorem sn_2 : ∀ w ∈ (sx_at nr_FB 50 "java/lang/IllegalArgumentException" 7 Bundle.six sy_up).filter (fun w => !goodWord w), w ∈ sy_nw := by
  have h9 : (sx_at nr_FB 50 "java/lang/IllegalArgumentException" 7 Bundle.six sy_up).filter (fun w => !goodWord w) = [4, 5, 6, 1].filterMap (fun i => sy_nw[i]?) := by decide +kernel
  intro w hw
  rw [h9] at hw
  obtain ⟨i, _, h⟩ := List.mem_filterMap.mp hw
  exact List.mem_of_getElem? h
theorem so_2 : ∀ w ∈ Cond.classLink nr_FB 46 "java/lang/IllegalArgumentException" :: Cond.initialized "java/lang/IllegalArgumentException" :: sx_at nr_FB 50 "java/lang/IllegalArgumentException" 7 Bundle.six sy_up, vx_ot w = true := by decide +kernel
theorem vv_throw_2 (fx : vv_fix p s m args meth c cc nL ret nr_FB Y) (htab : ∀ x ∈ c.exceptionTable.toList, False) (hl : l.stackTraces = false) {is : Nat} {text : String} (hstr : (is, text) ∈ sy_strs) (d0 : decode cc pc = .ok (.new 46, 3)) (d3 : decode cc (pc + 3) = .ok (.dup, 1)) (d4 : decode cc (pc + 4) = .ok (.ldc is, 2)) (d6 : decode cc (pc + 6) = .ok (.invokespecial 50, 3)) (d9 : decode cc (pc + 9) = .ok (.athrow, 1))
    (hRf : 5 < R.frames) (hRl : 82 ≤ R.locals) (hRc : cells + 1 ≤ R.cells) (hRs : slots + 6 ≤ R.slots) (hx : xf = 2) (hM : Mf = M) (hU : Uf = U) (ho : of_ = o) (hc : cells + 1 ≤ mc) (hs : slots + 6 ≤ ms) : vv p l e R s m args below meth c cells slots (vx_MQ below Qc (ct_XC Y xf Mf Uf of_) args s mc ms Y.2.2.2) nL Y M U o pc L [] := fun H locs ls hP hS hl9 => by
  subst hx; subst hM; subst hU; subst ho
  obtain ⟨hx, hb, hml, hown, hts, hok, -, hlk⟩ := id fx
  obtain ⟨sa, hsa⟩ := hok.2.2.2.2.2.2.1 _ hstr
  exact sx_throw (names := sy_up) (cls := "java/lang/IllegalArgumentException") (ix := 7) (rx := Bundle.six) (A := Y.2.2.2) hx hb hl (by decide +kernel) (by decide +kernel) (by decide +kernel) (by decide +kernel) hown (by decide +kernel) (by decide +kernel) (hts _ (wl_t1 177 rfl rfl)) (hts _ (wl_t1 10 rfl rfl)) hsa (vx_hat (fun w hw => hts w (sw_2 w hw)) sn_2 (sy_nwB hok.2.2.2)) so_2 hok.2.2.2.1 hok.2.2.2.2.1 hS (hl9.1.trans hml.symm) d0 d3 d4 d6 d9 (fun z hz => (htab z hz).elim) hRf hRl hRc hRs hlk (fun t _ h1 h2 => ct_XCof (by decide) rfl hP hS h1 h2) hS.2.2 hc hs
theorem sw_3 : ∀ w ∈ (sx_at nr_FB 109 "java/lang/UnsupportedOperationException" 7 Bundle.six sy_up).filter goodWord, w ∈ wl := by
  have h9 : (sx_at nr_FB 109 "java/lang/UnsupportedOperationException" 7 Bundle.six sy_up).filter goodWord = [41, 161, 170, 175, 178, 180, 162, 163, 55, 56, 164, 169, 176, 196, 151, 197, 153, 198, 155, 165, 167, 157, 192, 193, 195, 157, 281, 282, 283, 186, 186, 187, 188, 189, 189, 190, 191, 192, 280, 271, 273, 173, 274, 275, 276, 277, 160, 159, 278].filterMap (fun i => lw_tbl[i]?) := by decide +kernel
  intro w hw
  have g := (List.mem_filter.mp hw).2
  rw [h9] at hw
  obtain ⟨i, _, h⟩ := List.mem_filterMap.mp hw
  exact List.mem_filter.mpr ⟨List.mem_of_getElem? h, g⟩
theorem sn_3 : ∀ w ∈ (sx_at nr_FB 109 "java/lang/UnsupportedOperationException" 7 Bundle.six sy_up).filter (fun w => !goodWord w), w ∈ sy_nw := by
  have h9 : (sx_at nr_FB 109 "java/lang/UnsupportedOperationException" 7 Bundle.six sy_up).filter (fun w => !goodWord w) = [4, 5, 6, 2].filterMap (fun i => sy_nw[i]?) := by decide +kernel
  intro w hw
  rw [h9] at hw
  obtain ⟨i, _, h⟩ := List.mem_filterMap.mp hw
  exact List.mem_of_getElem? h
theorem so_3 : ∀ w ∈ Cond.classLink nr_FB 105 "java/lang/UnsupportedOperationException" :: Cond.initialized "java/lang/UnsupportedOperationException" :: sx_at nr_FB 109 "java/lang/UnsupportedOperationException" 7 Bundle.six sy_up, vx_ot w = true := by decide +kernel
theorem vv_throw_3 (fx : vv_fix p s m args meth c cc nL ret nr_FB Y) (htab : ∀ x ∈ c.exceptionTable.toList, False) (hl : l.stackTraces = false) {is : Nat} {text : String} (hstr : (is, text) ∈ sy_strs) (d0 : decode cc pc = .ok (.new 105, 3)) (d3 : decode cc (pc + 3) = .ok (.dup, 1)) (d4 : decode cc (pc + 4) = .ok (.ldc is, 2)) (d6 : decode cc (pc + 6) = .ok (.invokespecial 109, 3)) (d9 : decode cc (pc + 9) = .ok (.athrow, 1))
    (hRf : 5 < R.frames) (hRl : 82 ≤ R.locals) (hRc : cells + 1 ≤ R.cells) (hRs : slots + 6 ≤ R.slots) (hx : xf = 3) (hM : Mf = M) (hU : Uf = U) (ho : of_ = o) (hc : cells + 1 ≤ mc) (hs : slots + 6 ≤ ms) : vv p l e R s m args below meth c cells slots (vx_MQ below Qc (ct_XC Y xf Mf Uf of_) args s mc ms Y.2.2.2) nL Y M U o pc L [] := fun H locs ls hP hS hl9 => by
  subst hx; subst hM; subst hU; subst ho
  obtain ⟨hx, hb, hml, hown, hts, hok, -, hlk⟩ := id fx
  obtain ⟨sa, hsa⟩ := hok.2.2.2.2.2.2.1 _ hstr
  exact sx_throw (names := sy_up) (cls := "java/lang/UnsupportedOperationException") (ix := 7) (rx := Bundle.six) (A := Y.2.2.2) hx hb hl (by decide +kernel) (by decide +kernel) (by decide +kernel) (by decide +kernel) hown (by decide +kernel) (by decide +kernel) (hts _ (wl_t1 235 rfl rfl)) (hts _ (wl_t1 11 rfl rfl)) hsa (vx_hat (fun w hw => hts w (sw_3 w hw)) sn_3 (sy_nwB hok.2.2.2)) so_3 hok.2.2.2.1 hok.2.2.2.2.1 hS (hl9.1.trans hml.symm) d0 d3 d4 d6 d9 (fun z hz => (htab z hz).elim) hRf hRl hRc hRs hlk (fun t _ h1 h2 => ct_XCof (by decide) rfl hP hS h1 h2) hS.2.2 hc hs
theorem sw_4 : ∀ w ∈ (sx_at nr_FB 156 "java/util/NoSuchElementException" 13 prog_15_method_4_code sy_up).filter goodWord, w ∈ wl := by
  have h9 : (sx_at nr_FB 156 "java/util/NoSuchElementException" 13 prog_15_method_4_code sy_up).filter goodWord = [41, 161, 170, 175, 178, 180, 162, 163, 55, 56, 164, 169, 176, 196, 151, 197, 153, 198, 155, 165, 167, 157, 192, 193, 195, 157, 330, 331, 332, 186, 186, 187, 188, 189, 189, 190, 191, 192, 329, 320, 322, 174, 323, 324, 325, 326, 160, 159, 327].filterMap (fun i => lw_tbl[i]?) := by decide +kernel
  intro w hw
  have g := (List.mem_filter.mp hw).2
  rw [h9] at hw
  obtain ⟨i, _, h⟩ := List.mem_filterMap.mp hw
  exact List.mem_filter.mpr ⟨List.mem_of_getElem? h, g⟩
theorem sn_4 : ∀ w ∈ (sx_at nr_FB 156 "java/util/NoSuchElementException" 13 prog_15_method_4_code sy_up).filter (fun w => !goodWord w), w ∈ sy_nw := by
  have h9 : (sx_at nr_FB 156 "java/util/NoSuchElementException" 13 prog_15_method_4_code sy_up).filter (fun w => !goodWord w) = [4, 5, 6, 3].filterMap (fun i => sy_nw[i]?) := by decide +kernel
  intro w hw
  rw [h9] at hw
  obtain ⟨i, _, h⟩ := List.mem_filterMap.mp hw
  exact List.mem_of_getElem? h
theorem so_4 : ∀ w ∈ Cond.classLink nr_FB 152 "java/util/NoSuchElementException" :: Cond.initialized "java/util/NoSuchElementException" :: sx_at nr_FB 156 "java/util/NoSuchElementException" 13 prog_15_method_4_code sy_up, vx_ot w = true := by decide +kernel
theorem vv_throw_4 (fx : vv_fix p s m args meth c cc nL ret nr_FB Y) (htab : ∀ x ∈ c.exceptionTable.toList, False) (hl : l.stackTraces = false) {is : Nat} {text : String} (hstr : (is, text) ∈ sy_strs) (d0 : decode cc pc = .ok (.new 152, 3)) (d3 : decode cc (pc + 3) = .ok (.dup, 1)) (d4 : decode cc (pc + 4) = .ok (.ldc is, 2)) (d6 : decode cc (pc + 6) = .ok (.invokespecial 156, 3)) (d9 : decode cc (pc + 9) = .ok (.athrow, 1))
    (hRf : 5 < R.frames) (hRl : 82 ≤ R.locals) (hRc : cells + 1 ≤ R.cells) (hRs : slots + 6 ≤ R.slots) (hx : xf = 4) (hM : Mf = M) (hU : Uf = U) (ho : of_ = o) (hc : cells + 1 ≤ mc) (hs : slots + 6 ≤ ms) : vv p l e R s m args below meth c cells slots (vx_MQ below Qc (ct_XC Y xf Mf Uf of_) args s mc ms Y.2.2.2) nL Y M U o pc L [] := fun H locs ls hP hS hl9 => by
  subst hx; subst hM; subst hU; subst ho
  obtain ⟨hx, hb, hml, hown, hts, hok, -, hlk⟩ := id fx
  obtain ⟨sa, hsa⟩ := hok.2.2.2.2.2.2.1 _ hstr
  exact sx_throw (names := sy_up) (cls := "java/util/NoSuchElementException") (ix := 13) (rx := prog_15_method_4_code) (A := Y.2.2.2) hx hb hl (by decide +kernel) (by decide +kernel) (by decide +kernel) (by decide +kernel) hown (by decide +kernel) (by decide +kernel) (hts _ (wl_t2 44 rfl rfl)) (hts _ (wl_t1 12 rfl rfl)) hsa (vx_hat (fun w hw => hts w (sw_4 w hw)) sn_4 (sy_nwB hok.2.2.2)) so_4 hok.2.2.2.1 hok.2.2.2.2.1 hS (hl9.1.trans hml.symm) d0 d3 d4 d6 d9 (fun z hz => (htab z hz).elim) hRf hRl hRc hRs hlk (fun t _ h1 h2 => ct_XCof (by decide) rfl hP hS h1 h2) hS.2.2 hc hs
theorem vv_callVxi (fx : vv_fix p s m args meth c cc nL ret own Y) (htab : ∀ x ∈ c.exceptionTable.toList, False) {y : MethodName} {b2 : ByteArray} {n2 : Nat} {ret2 : Option FieldType} {rm2 : Room} {a x2 mc2 ms2 : Nat} {As : List Value} {r : Int32} {C : String} {T : u_T} {N ci index : Nat} {fs : List Value} (hct : ct_IX l y b2 n2 ret2 rm2 Y (.ref a :: As) M U o x2 r M' U' o' mc2 ms2)
    (h1 : Cond.methodLink own index y ∈ wl) (h2 : Cond.instanceMethod y ∈ wl) (h3 : Cond.selects C y y ∈ wl) (h4 : Cond.initialized C ∈ wl) (h5 : Cond.code y b2 n2 ret2 ∈ wl) (hi : y.cls = C ∧ y.cls ≠ "java/lang/invoke/MethodHandle" ∧ y.cls ≠ "java/lang/invoke/VarHandle" ∧ (parseMethodDescriptor y.desc).map (fun d => d.parameters.length) = some As.length)
    (q0 : Nat) (he : (sy_w Y M U o)[q0]? = some (a, .inr (ci, fs))) (hc : sy_cl[ci]? = some (C, T, N)) (hR : ct_CX R rm2 n2 mc2 ms2) (hcs : cells + mc2 ≤ R.cells ∧ slots + ms2 ≤ R.slots) (hst : (st.map fun v => v.category).sum ≤ 8) (hd : decode cc pc = .ok (.invokevirtual index, 3)) {S9 : List Value} (hS9 : S9 = As.reverse ++ .ref a :: st)
    (hx : x2 ≠ 0 → xf = x2 ∧ Mf = M' ∧ Uf = U' ∧ of_ = o') (hcm : cells + mc2 ≤ mc) (hsm : slots + ms2 ≤ ms)
    (kk : x2 = 0 → vv p l e R s m args below meth c (cells + mc2) (slots + ms2) (vx_MQ below Qc (ct_XC Y xf Mf Uf of_) args s mc ms Y.2.2.2) nL Y M' U' o' (pc + 3) L (.int r :: st)) : vv p l e R s m args below meth c cells slots (vx_MQ below Qc (ct_XC Y xf Mf Uf of_) args s mc ms Y.2.2.2) nL Y M U o pc L S9 := fun H locs ls hP hS hl => by
  subst hS9
  obtain ⟨hx0, hb, hml, hown, hts, hok, -, hlk⟩ := id fx
  have hG : GoodIn wl (wsV own index C y (.code y b2 n2 ret2 :: wl)) := ct_goodL (fun w hw => by
    simp only [List.mem_cons, List.not_mem_nil, or_false] at hw
    rcases hw with rfl | rfl | rfl | rfl
    · exact h1
    · exact h2
    · exact h3
    · exact h4) (ct_good (own := own) (C := C) (index := index) h5)
  refine vx_calli (vx_runV (As := As) (rest := st) ⟨hx0, hb, hml, hown, hts⟩ hct (cwV As.length hts hG rfl hR.1 hR.2.1 hi ⟨hR.2.2.1, hR.2.2.2⟩) ⟨ct_blind Y _ M U o, va_recv hok.1 hP hc he, fun S hS1 hW => ⟨rfl, by rw [hS1]; exact sy_ok_go hW hS hok, by rw [hS1]; exact hP⟩⟩ rfl rfl hl.1 rfl (lv_room hst) hd ⟨hcs.1, hcs.2⟩) hS (fun q _ h => h) (fun q h => h) (fun q _ h => h) (fun E ce q9 u t H1 locs1 ht hvm _ hB _ _ hS1 hce hcv hcl => ?_) (fun r2 u t H1 locs1 ht hvm hr hB _ _ hS1 => ?_)
  · obtain ⟨g1, g2, g3⟩ := hB
    obtain ⟨rfl, rfl, rfl, rfl⟩ := hx g1
    exact vx_out (fun z hz => (htab z hz).elim) hlk hce hcv hcl (fun t2 h9 _ => ct_XCof g1 g2 (by rw [← ht]; exact g3) hS1 (by rw [h9]; exact Nat.le_refl _) (fun q _ => by rw [h9])) hS1.2.2 hcm hsm
  · obtain ⟨hr1, hr2⟩ := hr
    subst hr2
    exact kk hr1 H1 locs1 ls (by rw [← ht]; exact hB) hS1 hl
theorem vv_callVxv (fx : vv_fix p s m args meth c cc nL ret own Y) (htab : ∀ x ∈ c.exceptionTable.toList, False) {y : MethodName} {b2 : ByteArray} {n2 : Nat} {rm2 : Room} {a x2 mc2 ms2 : Nat} {As : List Value} {C : String} {T : u_T} {N ci index : Nat} {fs : List Value} (hct : ct_VX l y b2 n2 rm2 Y (.ref a :: As) M U o x2 M' U' o' mc2 ms2)
    (h1 : Cond.methodLink own index y ∈ wl) (h2 : Cond.instanceMethod y ∈ wl) (h3 : Cond.selects C y y ∈ wl) (h4 : Cond.initialized C ∈ wl) (h5 : Cond.code y b2 n2 none ∈ wl) (hi : y.cls = C ∧ y.cls ≠ "java/lang/invoke/MethodHandle" ∧ y.cls ≠ "java/lang/invoke/VarHandle" ∧ (parseMethodDescriptor y.desc).map (fun d => d.parameters.length) = some As.length)
    (q0 : Nat) (he : (sy_w Y M U o)[q0]? = some (a, .inr (ci, fs))) (hc : sy_cl[ci]? = some (C, T, N)) (hR : ct_CX R rm2 n2 mc2 ms2) (hcs : cells + mc2 ≤ R.cells ∧ slots + ms2 ≤ R.slots) (hst : (st.map fun v => v.category).sum ≤ 8) (hd : decode cc pc = .ok (.invokevirtual index, 3)) {S9 : List Value} (hS9 : S9 = As.reverse ++ .ref a :: st)
    (hx : x2 ≠ 0 → xf = x2 ∧ Mf = M' ∧ Uf = U' ∧ of_ = o') (hcm : cells + mc2 ≤ mc) (hsm : slots + ms2 ≤ ms)
    (kk : x2 = 0 → vv p l e R s m args below meth c (cells + mc2) (slots + ms2) (vx_MQ below Qc (ct_XC Y xf Mf Uf of_) args s mc ms Y.2.2.2) nL Y M' U' o' (pc + 3) L st) : vv p l e R s m args below meth c cells slots (vx_MQ below Qc (ct_XC Y xf Mf Uf of_) args s mc ms Y.2.2.2) nL Y M U o pc L S9 := fun H locs ls hP hS hl => by
  subst hS9
  obtain ⟨hx0, hb, hml, hown, hts, hok, -, hlk⟩ := id fx
  have hG : GoodIn wl (wsV own index C y (.code y b2 n2 none :: wl)) := ct_goodL (fun w hw => by
    simp only [List.mem_cons, List.not_mem_nil, or_false] at hw
    rcases hw with rfl | rfl | rfl | rfl
    · exact h1
    · exact h2
    · exact h3
    · exact h4) (ct_good (own := own) (C := C) (index := index) h5)
  refine vx_callv (vx_runV (As := As) (rest := st) ⟨hx0, hb, hml, hown, hts⟩ hct (cwV As.length hts hG rfl hR.1 hR.2.1 hi ⟨hR.2.2.1, hR.2.2.2⟩) ⟨ct_blind Y _ M U o, va_recv hok.1 hP hc he, fun S hS1 hW => ⟨rfl, by rw [hS1]; exact sy_ok_go hW hS hok, by rw [hS1]; exact hP⟩⟩ rfl rfl hl.1 rfl (lv_room hst) hd ⟨hcs.1, hcs.2⟩) hS (fun q _ h => h) (fun q h => h) (fun q _ h => h) (fun E ce q9 u t H1 locs1 ht hvm _ hB _ _ hS1 hce hcv hcl => ?_) (fun u t H1 locs1 ht hvm hr hB _ _ hS1 => ?_)
  · obtain ⟨g1, g2, g3⟩ := hB
    obtain ⟨rfl, rfl, rfl, rfl⟩ := hx g1
    exact vx_out (fun z hz => (htab z hz).elim) hlk hce hcv hcl (fun t2 h9 _ => ct_XCof g1 g2 (by rw [← ht]; exact g3) hS1 (by rw [h9]; exact Nat.le_refl _) (fun q _ => by rw [h9])) hS1.2.2 hcm hsm
  · exact kk hr H1 locs1 ls (by rw [← ht]; exact hB) hS1 hl
end
end
section
/-! what ownCurrentPath and its callers need of the invariant -/
theorem fb_ism_nat {M : me_M} {h : Int32} (hh : fb_ism M h = true) : ∃ j, j < 7 ∧ h = nI j ∧ M 3 j ≠ -1 := by
  unfold fb_ism at hh
  rw [Bool.and_eq_true, Bool.and_eq_true] at hh
  obtain ⟨⟨h1, h2⟩, h3⟩ := hh
  obtain ⟨a, b⟩ := rf_h7 (of_decide_eq_true h1) (of_decide_eq_true h2)
  exact ⟨_, a, b, of_decide_eq_true h3⟩
theorem fb_isk_nat {k : Int32} (hh : fb_isk k = true) : ∃ j, j < 64 ∧ k = nI j := ⟨_, rf_isk hh⟩
section
variable {M U : me_M} {N k L : Nat}
theorem rf_fbK (hI : rf_I M U N) : fb_K M := by
  obtain ⟨hA, hW, -⟩ := hI
  refine ⟨fun h hh => ?_, fun h hh => ?_⟩
  · have e1 : rf_rv M h = M 3 h := if_pos hh
    have e2 : rf_rn M h = fb_rt M 3 h := congrArg Int32.toNatClampNeg e1
    have a := hA.1 h (by omega)
    have b := hW h (by omega)
    rw [e1, e2] at a
    rw [e2] at b
    exact a.elim (fun z => Or.inl z.2) (fun z => Or.inr ⟨z.2.1, b⟩)
  · have e1 : rf_rv M (7 + h) = M 4 h := by unfold rf_rv; rw [if_neg (by omega), show 7 + h - 7 = h by omega]
    have e2 : rf_rn M (7 + h) = fb_rt M 4 h := congrArg Int32.toNatClampNeg e1
    have a := hA.1 (7 + h) (by omega)
    have b := hW (7 + h) (by omega)
    rw [e1, e2] at a
    rw [e2] at b
    exact a.elim (fun z => Or.inl z.2) (fun z => Or.inr ⟨z.2.1, b⟩)
theorem rf_rootw (hI : rf_I M U N) {j : Nat} (hj : j < 7) (hne : M 3 j ≠ -1) : M 3 j = nI (fb_r M j) ∧ fb_wf M (fb_r M j) := ((rf_fbK hI).1 j hj).resolve_left hne
theorem rf_root0 (hI : rf_I M U N) : M 3 0 ≠ -1 := (rf_there hI (by decide)).mpr (by rw [hI.1.2.1]; decide)
theorem ow_room (hI : rf_I M U N) (hk : k < 64) (hL : L ≤ 3) (h : ¬ fb_free M < nI (fb_ntm (fb_mr M).2 (fb_r M 0) k L)) : rf_nb (rf_mk (rf_KR M).2) + me_cn (fun j => decide (M 1 (rf_n M k j) = 0)) L ≤ 60 := by
  obtain ⟨f1, f2, f3, f4, f5⟩ := rf_freeI hI
  rw [rf_mr, rf_rn7 M (by omega), f1] at h
  dsimp only at h
  rw [rf_ntm _ hk hL] at h
  have hle := me_cn_le (fun j => decide (M 1 (rf_n M k j) = 0)) L
  have h2 := (nI_leI (by omega) (by omega)).mp (Int32.not_lt.mp h)
  omega
theorem cn_mono (P : Nat → Bool) {a b : Nat} (h : a ≤ b) : me_cn P a ≤ me_cn P b := by
  induction b with
  | zero => rw [show a = 0 by omega]; exact Nat.le_refl _
  | succ b ih =>
    by_cases q : a = b + 1
    · rw [q]; exact Nat.le_refl _
    · exact Nat.le_trans (ih (by omega)) (Nat.le_add_right _ _)
theorem ow_ho (hI : rf_I M U N) (hk : k < 64) (hL : L ≤ 3) (h : ¬ fb_free M < nI (fb_ntm (fb_mr M).2 (fb_r M 0) k L)) : ∀ i, i + 1 < L → (fb_opl k (fb_own (fb_mr M).2 (fb_r M 0)) i).1 < 61 ∧ (fb_opl k (fb_own (fb_mr M).2 (fb_r M 0)) i).2 (6 + (fb_opl k (fb_own (fb_mr M).2 (fb_r M 0)) i).1) (fb_tn k i) = nI (fb_ch (fb_opl k (fb_own (fb_mr M).2 (fb_r M 0)) i).2 (fb_opl k (fb_own (fb_mr M).2 (fb_r M 0)) i).1 (fb_tn k i)) ∧ fb_ch (fb_opl k (fb_own (fb_mr M).2 (fb_r M 0)) i).2 (fb_opl k (fb_own (fb_mr M).2 (fb_r M 0)) i).1 (fb_tn k i) < 61 := by
  have hroom := ow_room hI hk hL h
  obtain ⟨-, -, -, -, f8⟩ := rf_freeI hI
  rw [rf_mr, rf_rn7 M (by omega)]
  dsimp only
  intro i hi
  obtain ⟨c, hQ, e1, -⟩ := rf_opl hI hk f8 i (by omega) (Nat.le_trans (Nat.add_le_add_left (cn_mono _ (by omega)) _) hroom)
  rw [e1]
  generalize (fb_opl k (fb_own (me_set M 2 (rf_KR M).2) (rf_rn M 0)) i).2 = Q at hQ ⊢
  have hc := (hQ.1 i (Nat.le_refl _)).1
  have hv : Q (6 + c i) (fb_tn k i) = M (6 + rf_n M k i) (fb_tn k i) := by rw [(hQ.2.2.2.1 i (Nat.le_refl _)).1 _ (fb_tn_lt k i), if_neg (by omega)]
  have hw := fb_pk_wf (hI.2.1 0 (by omega)) k
  have en : rf_n M k i = fb_na M (rf_rn M 0) k i := (rf_na M _ hk (by omega)).symm
  have h1 := hw.1 i (by omega)
  have h2 := hw.2 (i + 1) (by omega)
  have ev : Q (6 + c i) (fb_tn k i) = nI (fb_na M (rf_rn M 0) k (i + 1)) := by rw [hv, en]; exact h1.2
  have ec : fb_ch Q (c i) (fb_tn k i) = fb_na M (rf_rn M 0) k (i + 1) := by unfold fb_ch; rw [ev]; exact nI_clamp (by omega)
  rw [ec]
  exact ⟨by omega, ev, h2⟩
theorem ow_path (hI : rf_I M U N) (hk : k < 64) (hL : L + 1 ≤ 3) (h : ¬ fb_free M < nI (fb_ntm (fb_mr M).2 (fb_r M 0) k (L + 1))) : (fb_op (fb_mr M).2 (fb_r M 0) k (L + 1)).1 < 61 ∧ fb_pk (me_up (fb_op (fb_mr M).2 (fb_r M 0) k (L + 1)).2 3 0 (nI (fb_op (fb_mr M).2 (fb_r M 0) k (L + 1)).1)) (fb_op (fb_mr M).2 (fb_r M 0) k (L + 1)).1 k L ∧ fb_na (me_up (fb_op (fb_mr M).2 (fb_r M 0) k (L + 1)).2 3 0 (nI (fb_op (fb_mr M).2 (fb_r M 0) k (L + 1)).1)) (fb_op (fb_mr M).2 (fb_r M 0) k (L + 1)).1 k L < 61 := by
  have hroom := ow_room hI hk hL h
  obtain ⟨-, -, -, -, f8⟩ := rf_freeI hI
  rw [rf_mr, rf_rn7 M (by omega), fb_op_s]
  dsimp only
  obtain ⟨c, hQ, -, e2⟩ := rf_opl hI hk f8 L (by omega) hroom
  rw [e2]
  generalize (fb_opl k (fb_own (me_set M 2 (rf_KR M).2) (rf_rn M 0)) L).2 = Q at hQ ⊢
  have r3 : ∀ {a : Nat}, a ≠ 3 → me_up Q 3 0 (nI (c 0)) a = Q a := fun h => me_up_n _ _ _ h
  have na : ∀ i, i ≤ L → fb_na (me_up Q 3 0 (nI (c 0))) (c 0) k i = c i := rf_Q_na hQ (fun j _ => by rw [r3 (by omega)])
  have b : ∀ j, j ≤ L → c j < 61 := fun j hj => by have := ((hQ.1 j hj).1).2; omega
  refine ⟨b 0 (by omega), fun i hi => ?_, by rw [na L (Nat.le_refl _)]; exact b L (Nat.le_refl _)⟩
  rw [na i (by omega), na (i + 1) (by omega), r3 (by omega), (hQ.2.2.2.1 i (by omega)).1 _ (fb_tn_lt k i), if_pos ⟨rfl, hi⟩]
  exact ⟨b i (by omega), rfl⟩
theorem fb_ocp1 (h : fb_free M < nI (fb_ntm (fb_mr M).2 (fb_r M 0) k L)) : fb_ocp M k L = (true, (fb_mr M).2) := if_pos h
theorem fb_ocp0 (h : ¬ fb_free M < nI (fb_ntm (fb_mr M).2 (fb_r M 0) k L)) : fb_ocp M k L = (false, me_up (fb_op (fb_mr M).2 (fb_r M 0) k L).2 3 0 (nI (fb_op (fb_mr M).2 (fb_r M 0) k L).1)) := if_neg h
end
end
section
/-! the outer object's methods that may throw (printed by fbx.py) -/
section
variable {p : Program} {l : Launch} {e : Env} {R : Room} {s : State} {m : MethodId} {args : Array Value} {below : List Frame} {meth : Method} {c : Code} {cells slots : Nat} {Q : State → Prop}
variable {cc : ByteArray} {nL : Nat} {ret : Option FieldType} {own : String} {Y : sy_Y} {M U M' U' : me_M} {o o' : Int64} {pc : Nat} {L L' : List (Nat × Value)} {st : List Value}
theorem vv_mmax (fx : vv_fix p s m args meth c cc nL ret own Y) {index : Nat} (h1 : Cond.methodLink own index Lib.Math.max.name ∈ wl) (hframes : 1 ≤ R.frames) (hlocals : (st.map fun v => v.category).sum + 13 ≤ R.locals) (hc : cells ≤ R.cells) (hs : slots ≤ R.slots) {x y : Int32} (hd : decode cc pc = .ok (.invokestatic index, 3))
    (kk : vv p l e R s m args below meth c cells slots Q nL Y M U o (pc + 3) L (.int (if x < y then y else x) :: st)) : vv p l e R s m args below meth c cells slots Q nL Y M U o pc L (.int y :: .int x :: st) := fun H locs ls hP hS hl => by
  obtain ⟨hx, hb, hml, hown, hts, -⟩ := id fx
  exact va_mmax hx hb (hml.trans hl.1.symm) hown (hts _ h1) (hts _ (wl_t2 96 rfl rfl)) (hts _ (wl_t1 13 rfl rfl)) (hts _ (wl_t2 97 rfl rfl)) hframes hlocals hc hs hd (kk H locs ls hP hS hl)
end
theorem fb_max (x : Int32) : (if x < nI 0 then nI 0 else x) = nI x.toNatClampNeg := by
  by_cases h : x < nI 0
  · rw [if_pos h]
    have h1 : x.toNatClampNeg = 0 := by
      have h2 : x.toInt < 0 := Int32.lt_iff_toInt_lt.mp h
      show x.toInt.toNat = 0
      omega
    rw [h1]
  · rw [if_neg h]
    obtain ⟨j, hj, rfl⟩ := nI_of (x := x) h
    rw [nI_clamp hj]
theorem fb_iss_eq (M : me_M) (k : Int32) : fb_iss M k = (decide (k ≠ 0) && fb_ism M k) := rfl
set_option maxRecDepth 4000 in
theorem cc_FB_requireUp0 (l : Launch) (Y : sy_Y) (M U : me_M) (o : Int64) (h : M 5 0 = 0) : ct_V l ny_FB_requireUp nb_FB_requireUp 1 { frames := 0, cells := 0, slots := 0, locals := 0 } Y [.ref (Y.2.1 0)] M U o M U o := by
  refine ct_body (own := nr_FB) (L0 := [(0, .ref (Y.2.1 0))]) (by decide) rfl (Nat.le_of_ble_eq_true rfl) rfl ?_
  intro p e s m args below meth c fx
  refine vv_aload_n fx nd_FB_requireUp_0 rfl 0 rfl ?_
  refine vv_get (ci := 0) (C := nr_FB) (T := nt_FB) (N := 6) fx nt_FB_in 0 rfl rfl 3 (by decide) nf_FB_136 rfl nd_FB_requireUp_1 ?_
  refine vv_if_eq (tgt := 17) fx nd_FB_requireUp_4 (by decide) (fun _ => ?_) (fun hb => absurd (h) hb)
  exact vv_vret fx rfl nd_FB_requireUp_17
set_option maxRecDepth 4000 in
theorem cc_FB_requireUp1 (l : Launch) (Y : sy_Y) (M U : me_M) (o : Int64) (hst : l.stackTraces = false) (h : M 5 0 ≠ 0) : ct_VX l ny_FB_requireUp nb_FB_requireUp 1 { frames := 6, cells := 1, slots := 6, locals := 82 } Y [.ref (Y.2.1 0)] M U o 1 M U o 1 6 := by
  refine ct_bodyX (own := nr_FB) (L0 := [(0, .ref (Y.2.1 0))]) (by decide) rfl (Nat.le_of_ble_eq_true rfl) rfl ?_
  intro p e s m args below meth c fx htab
  refine vv_aload_n fx nd_FB_requireUp_0 rfl 0 rfl ?_
  refine vv_get (ci := 0) (C := nr_FB) (T := nt_FB) (N := 6) fx nt_FB_in 0 rfl rfl 3 (by decide) nf_FB_136 rfl nd_FB_requireUp_1 ?_
  refine vv_if_eq (tgt := 17) fx nd_FB_requireUp_4 (by decide) (fun hb => absurd hb (h)) (fun _ => ?_)
  exact vv_throw_1 (text := "the store is down") fx htab hst (by decide +kernel) nd_FB_requireUp_7 nd_FB_requireUp_10 nd_FB_requireUp_11 nd_FB_requireUp_13 nd_FB_requireUp_16 (Nat.le_of_ble_eq_true rfl) (Nat.le_of_ble_eq_true rfl) (Nat.le_of_ble_eq_true rfl) (Nat.le_of_ble_eq_true rfl) (rfl) (rfl) (rfl) (rfl) (Nat.le_of_ble_eq_true rfl) (Nat.le_of_ble_eq_true rfl)
set_option maxRecDepth 4000 in
theorem cc_FB_requireMap0 (l : Launch) (Y : sy_Y) (M U : me_M) (o : Int64) (k : Int32) (h : fb_ism M k = true) : ct_V l ny_FB_requireMap nb_FB_requireMap 2 { frames := 1, cells := 0, slots := 0, locals := 21 } Y [.ref (Y.2.1 0), .int k] M U o M U o := by
  refine ct_body (own := nr_FB) (L0 := [(0, .ref (Y.2.1 0)), (1, .int k)]) (by decide) rfl (Nat.le_of_ble_eq_true rfl) rfl ?_
  intro p e s m args below meth c fx
  refine vv_aload_n fx nd_FB_requireMap_0 rfl 0 rfl ?_
  refine vv_iload_n fx nd_FB_requireMap_1 rfl 1 rfl ?_
  refine vv_callVi (C := nr_FB) (T := nt_FB) (N := 6) (ci := 0) fx (cc_FB_isMap l Y M U o k) nm_FB_145 ns_FB_isMap nv_FB_isMap nz_FB nc_FB_isMap ni_FB_isMap 0 rfl rfl ⟨rfl, rfl, by decide, by decide⟩ ⟨Nat.le_of_ble_eq_true rfl, Nat.le_of_ble_eq_true rfl⟩ (Nat.le_of_ble_eq_true rfl) nd_FB_requireMap_2 rfl ?_
  refine vv_if_ne (tgt := 18) fx nd_FB_requireMap_5 (by decide) (fun _ => ?_) (fun hb => absurd hb (by rw [h]; decide))
  exact vv_vret fx rfl nd_FB_requireMap_18
set_option maxRecDepth 4000 in
theorem cc_FB_requireMap1 (l : Launch) (Y : sy_Y) (M U : me_M) (o : Int64) (k : Int32) (hst : l.stackTraces = false) (h : fb_ism M k = false) : ct_VX l ny_FB_requireMap nb_FB_requireMap 2 { frames := 6, cells := 1, slots := 6, locals := 82 } Y [.ref (Y.2.1 0), .int k] M U o 2 M U o 1 6 := by
  refine ct_bodyX (own := nr_FB) (L0 := [(0, .ref (Y.2.1 0)), (1, .int k)]) (by decide) rfl (Nat.le_of_ble_eq_true rfl) rfl ?_
  intro p e s m args below meth c fx htab
  refine vv_aload_n fx nd_FB_requireMap_0 rfl 0 rfl ?_
  refine vv_iload_n fx nd_FB_requireMap_1 rfl 1 rfl ?_
  refine vv_callVi (C := nr_FB) (T := nt_FB) (N := 6) (ci := 0) fx (cc_FB_isMap l Y M U o k) nm_FB_145 ns_FB_isMap nv_FB_isMap nz_FB nc_FB_isMap ni_FB_isMap 0 rfl rfl ⟨rfl, rfl, by decide, by decide⟩ ⟨Nat.le_of_ble_eq_true rfl, Nat.le_of_ble_eq_true rfl⟩ (Nat.le_of_ble_eq_true rfl) nd_FB_requireMap_2 rfl ?_
  refine vv_if_ne (tgt := 18) fx nd_FB_requireMap_5 (by decide) (fun hb => absurd (by rw [h]; rfl) hb) (fun _ => ?_)
  exact vv_throw_2 (text := "no map of this handle") fx htab hst (by decide +kernel) nd_FB_requireMap_8 nd_FB_requireMap_11 nd_FB_requireMap_12 nd_FB_requireMap_14 nd_FB_requireMap_17 (Nat.le_of_ble_eq_true rfl) (Nat.le_of_ble_eq_true rfl) (Nat.le_of_ble_eq_true rfl) (Nat.le_of_ble_eq_true rfl) (rfl) (rfl) (rfl) (rfl) (Nat.le_of_ble_eq_true rfl) (Nat.le_of_ble_eq_true rfl)
set_option maxRecDepth 4000 in
theorem cc_FB_requireSnapshot0 (l : Launch) (Y : sy_Y) (M U : me_M) (o : Int64) (k : Int32) (h : fb_iss M k = true) : ct_V l ny_FB_requireSnapshot nb_FB_requireSnapshot 2 { frames := 1, cells := 0, slots := 0, locals := 21 } Y [.ref (Y.2.1 0), .int k] M U o M U o := by
  refine ct_body (own := nr_FB) (L0 := [(0, .ref (Y.2.1 0)), (1, .int k)]) (by decide) rfl (Nat.le_of_ble_eq_true rfl) rfl ?_
  intro p e s m args below meth c fx
  rw [fb_iss_eq, Bool.and_eq_true] at h
  have hz : ¬ k = 0 := of_decide_eq_true h.1
  refine vv_iload_n fx nd_FB_requireSnapshot_0 rfl 1 rfl ?_
  refine vv_if_eq (tgt := 12) fx nd_FB_requireSnapshot_1 (by decide) (fun hb => absurd hb (hz)) (fun _ => ?_)
  refine vv_aload_n fx nd_FB_requireSnapshot_4 rfl 0 rfl ?_
  refine vv_iload_n fx nd_FB_requireSnapshot_5 rfl 1 rfl ?_
  refine vv_callVi (C := nr_FB) (T := nt_FB) (N := 6) (ci := 0) fx (cc_FB_isMap l Y M U o k) nm_FB_145 ns_FB_isMap nv_FB_isMap nz_FB nc_FB_isMap ni_FB_isMap 0 rfl rfl ⟨rfl, rfl, by decide, by decide⟩ ⟨Nat.le_of_ble_eq_true rfl, Nat.le_of_ble_eq_true rfl⟩ (Nat.le_of_ble_eq_true rfl) nd_FB_requireSnapshot_6 rfl ?_
  refine vv_if_ne (tgt := 22) fx nd_FB_requireSnapshot_9 (by decide) (fun _ => ?_) (fun hb => absurd hb (by rw [h.2]; decide))
  exact vv_vret fx rfl nd_FB_requireSnapshot_22
set_option maxRecDepth 4000 in
theorem cc_FB_requireSnapshot1 (l : Launch) (Y : sy_Y) (M U : me_M) (o : Int64) (k : Int32) (hst : l.stackTraces = false) (h : fb_iss M k = false) : ct_VX l ny_FB_requireSnapshot nb_FB_requireSnapshot 2 { frames := 6, cells := 1, slots := 6, locals := 82 } Y [.ref (Y.2.1 0), .int k] M U o 2 M U o 1 6 := by
  refine ct_bodyX (own := nr_FB) (L0 := [(0, .ref (Y.2.1 0)), (1, .int k)]) (by decide) rfl (Nat.le_of_ble_eq_true rfl) rfl ?_
  intro p e s m args below meth c fx htab
  by_cases hz : k = 0
  · refine vv_iload_n fx nd_FB_requireSnapshot_0 rfl 1 rfl ?_
    refine vv_if_eq (tgt := 12) fx nd_FB_requireSnapshot_1 (by decide) (fun _ => ?_) (fun hb => absurd (hz) hb)
    exact vv_throw_2 (text := "no snapshot of this number") fx htab hst (by decide +kernel) nd_FB_requireSnapshot_12 nd_FB_requireSnapshot_15 nd_FB_requireSnapshot_16 nd_FB_requireSnapshot_18 nd_FB_requireSnapshot_21 (Nat.le_of_ble_eq_true rfl) (Nat.le_of_ble_eq_true rfl) (Nat.le_of_ble_eq_true rfl) (Nat.le_of_ble_eq_true rfl) (rfl) (rfl) (rfl) (rfl) (Nat.le_of_ble_eq_true rfl) (Nat.le_of_ble_eq_true rfl)
  · rw [fb_iss_eq, decide_eq_true (p := k ≠ 0) hz, Bool.true_and] at h
    refine vv_iload_n fx nd_FB_requireSnapshot_0 rfl 1 rfl ?_
    refine vv_if_eq (tgt := 12) fx nd_FB_requireSnapshot_1 (by decide) (fun hb => absurd hb (hz)) (fun _ => ?_)
    refine vv_aload_n fx nd_FB_requireSnapshot_4 rfl 0 rfl ?_
    refine vv_iload_n fx nd_FB_requireSnapshot_5 rfl 1 rfl ?_
    refine vv_callVi (C := nr_FB) (T := nt_FB) (N := 6) (ci := 0) fx (cc_FB_isMap l Y M U o k) nm_FB_145 ns_FB_isMap nv_FB_isMap nz_FB nc_FB_isMap ni_FB_isMap 0 rfl rfl ⟨rfl, rfl, by decide, by decide⟩ ⟨Nat.le_of_ble_eq_true rfl, Nat.le_of_ble_eq_true rfl⟩ (Nat.le_of_ble_eq_true rfl) nd_FB_requireSnapshot_6 rfl ?_
    refine vv_if_ne (tgt := 22) fx nd_FB_requireSnapshot_9 (by decide) (fun hb => absurd (by rw [h]; rfl) hb) (fun _ => ?_)
    exact vv_throw_2 (text := "no snapshot of this number") fx htab hst (by decide +kernel) nd_FB_requireSnapshot_12 nd_FB_requireSnapshot_15 nd_FB_requireSnapshot_16 nd_FB_requireSnapshot_18 nd_FB_requireSnapshot_21 (Nat.le_of_ble_eq_true rfl) (Nat.le_of_ble_eq_true rfl) (Nat.le_of_ble_eq_true rfl) (Nat.le_of_ble_eq_true rfl) (rfl) (rfl) (rfl) (rfl) (Nat.le_of_ble_eq_true rfl) (Nat.le_of_ble_eq_true rfl)
set_option maxRecDepth 4000 in
theorem cc_FB_requireBound0 (l : Launch) (Y : sy_Y) (M U : me_M) (o : Int64) (r k : Nat) (hw : fb_wf M r) (hk : k < 64) (hi : fb_isk (nI k) = true) (h : fb_bd M r k = true) : ct_V l ny_FB_requireBound nb_FB_requireBound 3 { frames := 3, cells := 0, slots := 0, locals := 69 } Y [.ref (Y.2.1 0), .int (nI r), .int (nI k)] M U o M U o := by
  refine ct_body (own := nr_FB) (L0 := [(0, .ref (Y.2.1 0)), (1, .int (nI r)), (2, .int (nI k))]) (by decide) rfl (Nat.le_of_ble_eq_true rfl) rfl ?_
  intro p e s m args below meth c fx
  refine vv_aload_n fx nd_FB_requireBound_0 rfl 0 rfl ?_
  refine vv_iload_n fx nd_FB_requireBound_1 rfl 2 rfl ?_
  refine vv_callVi (C := nr_FB) (T := nt_FB) (N := 6) (ci := 0) fx (cc_FB_isKey l Y M U o (nI k)) nm_FB_42 ns_FB_isKey nv_FB_isKey nz_FB nc_FB_isKey ni_FB_isKey 0 rfl rfl ⟨rfl, rfl, by decide, by decide⟩ ⟨Nat.le_of_ble_eq_true rfl, Nat.le_of_ble_eq_true rfl⟩ (Nat.le_of_ble_eq_true rfl) nd_FB_requireBound_2 rfl ?_
  refine vv_if_eq (tgt := 20) fx nd_FB_requireBound_5 (by decide) (fun hb => absurd hb (by rw [hi]; decide)) (fun _ => ?_)
  refine vv_aload_n fx nd_FB_requireBound_8 rfl 0 rfl ?_
  refine vv_get (ci := 0) (C := nr_FB) (T := nt_FB) (N := 6) fx nt_FB_in 0 rfl rfl 0 (by decide) nf_FB_10 rfl nd_FB_requireBound_9 ?_
  refine vv_iload_n fx nd_FB_requireBound_12 rfl 1 rfl ?_
  refine vv_iload_n fx nd_FB_requireBound_13 rfl 2 rfl ?_
  refine vv_callVi (C := nr_RM) (T := nt_RM) (N := 4) (ci := 1) fx (cc_RM_binds l Y M U o r k hk (fb_wfp hw) (fb_wfq hw)) nm_FB_53 ns_RM_binds nv_RM_binds nz_RM nc_RM_binds ni_RM_binds 1 rfl rfl ⟨rfl, rfl, by decide, by decide⟩ ⟨Nat.le_of_ble_eq_true rfl, Nat.le_of_ble_eq_true rfl⟩ (Nat.le_of_ble_eq_true rfl) nd_FB_requireBound_14 rfl ?_
  refine vv_if_ne (tgt := 30) fx nd_FB_requireBound_17 (by decide) (fun _ => ?_) (fun hb => absurd hb (by rw [h]; decide))
  exact vv_vret fx rfl nd_FB_requireBound_30
set_option maxRecDepth 4000 in
theorem cc_FB_requireBound1 (l : Launch) (Y : sy_Y) (M U : me_M) (o : Int64) (r : Nat) (k : Int32) (hst : l.stackTraces = false) (hw : fb_wf M r) (h : (fb_isk k && fb_bd M r k.toNatClampNeg) = false) : ct_VX l ny_FB_requireBound nb_FB_requireBound 3 { frames := 6, cells := 1, slots := 6, locals := 82 } Y [.ref (Y.2.1 0), .int (nI r), .int k] M U o 4 M U o 1 6 := by
  refine ct_bodyX (own := nr_FB) (L0 := [(0, .ref (Y.2.1 0)), (1, .int (nI r)), (2, .int k)]) (by decide) rfl (Nat.le_of_ble_eq_true rfl) rfl ?_
  intro p e s m args below meth c fx htab
  by_cases hi : fb_isk k = true
  · obtain ⟨j, hj, rfl⟩ := fb_isk_nat hi
    rw [hi, Bool.true_and, nI_clamp (by omega)] at h
    refine vv_aload_n fx nd_FB_requireBound_0 rfl 0 rfl ?_
    refine vv_iload_n fx nd_FB_requireBound_1 rfl 2 rfl ?_
    refine vv_callVi (C := nr_FB) (T := nt_FB) (N := 6) (ci := 0) fx (cc_FB_isKey l Y M U o (nI j)) nm_FB_42 ns_FB_isKey nv_FB_isKey nz_FB nc_FB_isKey ni_FB_isKey 0 rfl rfl ⟨rfl, rfl, by decide, by decide⟩ ⟨Nat.le_of_ble_eq_true rfl, Nat.le_of_ble_eq_true rfl⟩ (Nat.le_of_ble_eq_true rfl) nd_FB_requireBound_2 rfl ?_
    refine vv_if_eq (tgt := 20) fx nd_FB_requireBound_5 (by decide) (fun hb => absurd hb (by rw [hi]; decide)) (fun _ => ?_)
    refine vv_aload_n fx nd_FB_requireBound_8 rfl 0 rfl ?_
    refine vv_get (ci := 0) (C := nr_FB) (T := nt_FB) (N := 6) fx nt_FB_in 0 rfl rfl 0 (by decide) nf_FB_10 rfl nd_FB_requireBound_9 ?_
    refine vv_iload_n fx nd_FB_requireBound_12 rfl 1 rfl ?_
    refine vv_iload_n fx nd_FB_requireBound_13 rfl 2 rfl ?_
    refine vv_callVi (C := nr_RM) (T := nt_RM) (N := 4) (ci := 1) fx (cc_RM_binds l Y M U o r j hj (fb_wfp hw) (fb_wfq hw)) nm_FB_53 ns_RM_binds nv_RM_binds nz_RM nc_RM_binds ni_RM_binds 1 rfl rfl ⟨rfl, rfl, by decide, by decide⟩ ⟨Nat.le_of_ble_eq_true rfl, Nat.le_of_ble_eq_true rfl⟩ (Nat.le_of_ble_eq_true rfl) nd_FB_requireBound_14 rfl ?_
    refine vv_if_ne (tgt := 30) fx nd_FB_requireBound_17 (by decide) (fun hb => absurd (by rw [h]; rfl) hb) (fun _ => ?_)
    exact vv_throw_4 (text := "the key is not bound") fx htab hst (by decide +kernel) nd_FB_requireBound_20 nd_FB_requireBound_23 nd_FB_requireBound_24 nd_FB_requireBound_26 nd_FB_requireBound_29 (Nat.le_of_ble_eq_true rfl) (Nat.le_of_ble_eq_true rfl) (Nat.le_of_ble_eq_true rfl) (Nat.le_of_ble_eq_true rfl) (rfl) (rfl) (rfl) (rfl) (Nat.le_of_ble_eq_true rfl) (Nat.le_of_ble_eq_true rfl)
  · refine vv_aload_n fx nd_FB_requireBound_0 rfl 0 rfl ?_
    refine vv_iload_n fx nd_FB_requireBound_1 rfl 2 rfl ?_
    refine vv_callVi (C := nr_FB) (T := nt_FB) (N := 6) (ci := 0) fx (cc_FB_isKey l Y M U o k) nm_FB_42 ns_FB_isKey nv_FB_isKey nz_FB nc_FB_isKey ni_FB_isKey 0 rfl rfl ⟨rfl, rfl, by decide, by decide⟩ ⟨Nat.le_of_ble_eq_true rfl, Nat.le_of_ble_eq_true rfl⟩ (Nat.le_of_ble_eq_true rfl) nd_FB_requireBound_2 rfl ?_
    refine vv_if_eq (tgt := 20) fx nd_FB_requireBound_5 (by decide) (fun _ => ?_) (fun hb => absurd (by rw [if_neg hi]) hb)
    exact vv_throw_4 (text := "the key is not bound") fx htab hst (by decide +kernel) nd_FB_requireBound_20 nd_FB_requireBound_23 nd_FB_requireBound_24 nd_FB_requireBound_26 nd_FB_requireBound_29 (Nat.le_of_ble_eq_true rfl) (Nat.le_of_ble_eq_true rfl) (Nat.le_of_ble_eq_true rfl) (Nat.le_of_ble_eq_true rfl) (rfl) (rfl) (rfl) (rfl) (Nat.le_of_ble_eq_true rfl) (Nat.le_of_ble_eq_true rfl)
set_option maxRecDepth 4000 in
theorem cc_FB_ownCurrentPath0 (l : Launch) (Y : sy_Y) (M U : me_M) (o : Int64) {N : Nat} (k L : Nat) (hI : rf_I M U N) (hk : k < 64) (hL : L ≤ 3) (h : ¬ fb_free M < nI (fb_ntm (fb_mr M).2 (fb_r M 0) k L)) : ct_V l ny_FB_ownCurrentPath nb_FB_ownCurrentPath 4 { frames := 5, cells := 0, slots := 0, locals := 114 } Y [.ref (Y.2.1 0), .int (nI k), .int (nI L)] M U o (me_up (fb_op (fb_mr M).2 (fb_r M 0) k L).2 3 0 (nI (fb_op (fb_mr M).2 (fb_r M 0) k L).1)) U o := by
  refine ct_body (own := nr_FB) (L0 := [(0, .ref (Y.2.1 0)), (1, .int (nI k)), (2, .int (nI L))]) (by decide) rfl (Nat.le_of_ble_eq_true rfl) rfl ?_
  intro p e s m args below meth c fx
  obtain ⟨hr0, hw⟩ := rf_rootw hI (j := 0) (by decide) (rf_root0 hI)
  have hw2 : fb_wf (fb_mr M).2 (fb_r M 0) := fb_wf_of (fun x => fb_mr_n M (by omega)) hw
  have hr2 : (fb_mr M).2 3 0 = nI (fb_r M 0) := by rw [fb_mr_n M (by decide)]; exact hr0
  refine vv_aload_n fx nd_FB_ownCurrentPath_0 rfl 0 rfl ?_
  refine vv_callVi (C := nr_FB) (T := nt_FB) (N := 6) (ci := 0) fx (cc_FB_freeNodes l Y M U o (rf_fbK hI)) nm_FB_116 ns_FB_freeNodes nv_FB_freeNodes nz_FB nc_FB_freeNodes ni_FB_freeNodes 0 rfl rfl ⟨rfl, rfl, by decide, by decide⟩ ⟨Nat.le_of_ble_eq_true rfl, Nat.le_of_ble_eq_true rfl⟩ (Nat.le_of_ble_eq_true rfl) nd_FB_ownCurrentPath_1 rfl ?_
  refine vv_istore_n (L' := [(0, .ref (Y.2.1 0)), (1, .int (nI k)), (2, .int (nI L)), (3, .int (fb_free M))]) fx nd_FB_ownCurrentPath_4 rfl (by decide) [1, 2, 3, 0] rfl ?_
  refine vv_aload_n fx nd_FB_ownCurrentPath_5 rfl 0 rfl ?_
  refine vv_get (ci := 0) (C := nr_FB) (T := nt_FB) (N := 6) fx nt_FB_in 0 rfl rfl 0 (by decide) nf_FB_10 rfl nd_FB_ownCurrentPath_6 ?_
  refine vv_aload_n fx nd_FB_ownCurrentPath_9 rfl 0 rfl ?_
  refine vv_get (ci := 0) (C := nr_FB) (T := nt_FB) (N := 6) fx nt_FB_in 0 rfl rfl 1 (by decide) nf_FB_16 rfl nd_FB_ownCurrentPath_10 ?_
  refine vv_iconst (v := nI 0) fx nd_FB_ownCurrentPath_13 (by decide) ?_
  refine vv_iald fx 2 0 rfl rfl (by omega) (by decide) nd_FB_ownCurrentPath_14 ?_
  refine vv_top (y := nI (fb_r M 0)) (hr2) ?_
  refine vv_iload_n fx nd_FB_ownCurrentPath_15 rfl 1 rfl ?_
  refine vv_iload_n fx nd_FB_ownCurrentPath_16 rfl 2 rfl ?_
  refine vv_callVi (C := nr_RM) (T := nt_RM) (N := 4) (ci := 1) fx (cc_RM_nodesToMake l Y (fb_mr M).2 U o (fb_r M 0) k L hk hL (fb_wfp hw2) (fb_pk_wf hw2 k).2) nm_FB_157 ns_RM_nodesToMake nv_RM_nodesToMake nz_RM nc_RM_nodesToMake ni_RM_nodesToMake 1 rfl rfl ⟨rfl, rfl, by decide, by decide⟩ ⟨Nat.le_of_ble_eq_true rfl, Nat.le_of_ble_eq_true rfl⟩ (Nat.le_of_ble_eq_true rfl) nd_FB_ownCurrentPath_17 rfl ?_
  refine vv_iload_n fx nd_FB_ownCurrentPath_20 rfl 3 rfl ?_
  refine vv_icmp_le (tgt := 34) fx nd_FB_ownCurrentPath_21 (by decide) (fun _ => ?_) (fun hb => absurd (Int32.not_lt.mp h) hb)
  refine vv_aload_n fx nd_FB_ownCurrentPath_34 rfl 0 rfl ?_
  refine vv_get (ci := 0) (C := nr_FB) (T := nt_FB) (N := 6) fx nt_FB_in 0 rfl rfl 1 (by decide) nf_FB_16 rfl nd_FB_ownCurrentPath_35 ?_
  refine vv_iconst (v := nI 0) fx nd_FB_ownCurrentPath_38 (by decide) ?_
  refine vv_aload_n fx nd_FB_ownCurrentPath_39 rfl 0 rfl ?_
  refine vv_get (ci := 0) (C := nr_FB) (T := nt_FB) (N := 6) fx nt_FB_in 0 rfl rfl 0 (by decide) nf_FB_10 rfl nd_FB_ownCurrentPath_40 ?_
  refine vv_aload_n fx nd_FB_ownCurrentPath_43 rfl 0 rfl ?_
  refine vv_get (ci := 0) (C := nr_FB) (T := nt_FB) (N := 6) fx nt_FB_in 0 rfl rfl 1 (by decide) nf_FB_16 rfl nd_FB_ownCurrentPath_44 ?_
  refine vv_iconst (v := nI 0) fx nd_FB_ownCurrentPath_47 (by decide) ?_
  refine vv_iald fx 2 0 rfl rfl (by omega) (by decide) nd_FB_ownCurrentPath_48 ?_
  refine vv_top (y := nI (fb_r M 0)) (hr2) ?_
  refine vv_iload_n fx nd_FB_ownCurrentPath_49 rfl 1 rfl ?_
  refine vv_iload_n fx nd_FB_ownCurrentPath_50 rfl 2 rfl ?_
  refine vv_callVi (C := nr_RM) (T := nt_RM) (N := 4) (ci := 1) fx (cc_RM_ownPath l Y (fb_mr M).2 U o (fb_r M 0) k L hk hL (fb_wfr hw2) (ow_ho hI hk hL h)) nm_FB_163 ns_RM_ownPath nv_RM_ownPath nz_RM nc_RM_ownPath ni_RM_ownPath 1 rfl rfl ⟨rfl, rfl, by decide, by decide⟩ ⟨Nat.le_of_ble_eq_true rfl, Nat.le_of_ble_eq_true rfl⟩ (Nat.le_of_ble_eq_true rfl) nd_FB_ownCurrentPath_51 rfl ?_
  refine vv_iast (M' := me_up ((fb_op (fb_mr M).2 (fb_r M 0) k L).2) 3 0 (nI (fb_op (fb_mr M).2 (fb_r M 0) k L).1)) (U' := U) fx 2 0 rfl rfl (by omega) (by decide) nd_FB_ownCurrentPath_54 (sy_set3 _) ?_
  exact vv_vret fx rfl nd_FB_ownCurrentPath_55
set_option maxRecDepth 4000 in
theorem cc_FB_ownCurrentPath1 (l : Launch) (Y : sy_Y) (M U : me_M) (o : Int64) {N : Nat} (k L : Nat) (hst : l.stackTraces = false) (hI : rf_I M U N) (hk : k < 64) (hL : L ≤ 3) (h : fb_free M < nI (fb_ntm (fb_mr M).2 (fb_r M 0) k L)) : ct_VX l ny_FB_ownCurrentPath nb_FB_ownCurrentPath 4 { frames := 6, cells := 1, slots := 6, locals := 114 } Y [.ref (Y.2.1 0), .int (nI k), .int (nI L)] M U o 3 ((fb_mr M).2) U o 1 6 := by
  refine ct_bodyX (own := nr_FB) (L0 := [(0, .ref (Y.2.1 0)), (1, .int (nI k)), (2, .int (nI L))]) (by decide) rfl (Nat.le_of_ble_eq_true rfl) rfl ?_
  intro p e s m args below meth c fx htab
  obtain ⟨hr0, hw⟩ := rf_rootw hI (j := 0) (by decide) (rf_root0 hI)
  have hw2 : fb_wf (fb_mr M).2 (fb_r M 0) := fb_wf_of (fun x => fb_mr_n M (by omega)) hw
  have hr2 : (fb_mr M).2 3 0 = nI (fb_r M 0) := by rw [fb_mr_n M (by decide)]; exact hr0
  refine vv_aload_n fx nd_FB_ownCurrentPath_0 rfl 0 rfl ?_
  refine vv_callVi (C := nr_FB) (T := nt_FB) (N := 6) (ci := 0) fx (cc_FB_freeNodes l Y M U o (rf_fbK hI)) nm_FB_116 ns_FB_freeNodes nv_FB_freeNodes nz_FB nc_FB_freeNodes ni_FB_freeNodes 0 rfl rfl ⟨rfl, rfl, by decide, by decide⟩ ⟨Nat.le_of_ble_eq_true rfl, Nat.le_of_ble_eq_true rfl⟩ (Nat.le_of_ble_eq_true rfl) nd_FB_ownCurrentPath_1 rfl ?_
  refine vv_istore_n (L' := [(0, .ref (Y.2.1 0)), (1, .int (nI k)), (2, .int (nI L)), (3, .int (fb_free M))]) fx nd_FB_ownCurrentPath_4 rfl (by decide) [1, 2, 3, 0] rfl ?_
  refine vv_aload_n fx nd_FB_ownCurrentPath_5 rfl 0 rfl ?_
  refine vv_get (ci := 0) (C := nr_FB) (T := nt_FB) (N := 6) fx nt_FB_in 0 rfl rfl 0 (by decide) nf_FB_10 rfl nd_FB_ownCurrentPath_6 ?_
  refine vv_aload_n fx nd_FB_ownCurrentPath_9 rfl 0 rfl ?_
  refine vv_get (ci := 0) (C := nr_FB) (T := nt_FB) (N := 6) fx nt_FB_in 0 rfl rfl 1 (by decide) nf_FB_16 rfl nd_FB_ownCurrentPath_10 ?_
  refine vv_iconst (v := nI 0) fx nd_FB_ownCurrentPath_13 (by decide) ?_
  refine vv_iald fx 2 0 rfl rfl (by omega) (by decide) nd_FB_ownCurrentPath_14 ?_
  refine vv_top (y := nI (fb_r M 0)) (hr2) ?_
  refine vv_iload_n fx nd_FB_ownCurrentPath_15 rfl 1 rfl ?_
  refine vv_iload_n fx nd_FB_ownCurrentPath_16 rfl 2 rfl ?_
  refine vv_callVi (C := nr_RM) (T := nt_RM) (N := 4) (ci := 1) fx (cc_RM_nodesToMake l Y (fb_mr M).2 U o (fb_r M 0) k L hk hL (fb_wfp hw2) (fb_pk_wf hw2 k).2) nm_FB_157 ns_RM_nodesToMake nv_RM_nodesToMake nz_RM nc_RM_nodesToMake ni_RM_nodesToMake 1 rfl rfl ⟨rfl, rfl, by decide, by decide⟩ ⟨Nat.le_of_ble_eq_true rfl, Nat.le_of_ble_eq_true rfl⟩ (Nat.le_of_ble_eq_true rfl) nd_FB_ownCurrentPath_17 rfl ?_
  refine vv_iload_n fx nd_FB_ownCurrentPath_20 rfl 3 rfl ?_
  refine vv_icmp_le (tgt := 34) fx nd_FB_ownCurrentPath_21 (by decide) (fun hb => absurd hb (Int32.not_le.mpr h)) (fun _ => ?_)
  exact vv_throw_3 (text := "no room") fx htab hst (by decide +kernel) nd_FB_ownCurrentPath_24 nd_FB_ownCurrentPath_27 nd_FB_ownCurrentPath_28 nd_FB_ownCurrentPath_30 nd_FB_ownCurrentPath_33 (Nat.le_of_ble_eq_true rfl) (Nat.le_of_ble_eq_true rfl) (Nat.le_of_ble_eq_true rfl) (Nat.le_of_ble_eq_true rfl) (rfl) (rfl) (rfl) (rfl) (Nat.le_of_ble_eq_true rfl) (Nat.le_of_ble_eq_true rfl)
set_option maxRecDepth 4000 in
theorem cc_FB_put (l : Launch) (Y : sy_Y) (M U : me_M) (o : Int64) (k v : Int32) {N : Nat} (hst : l.stackTraces = false) (hI : rf_I M U N) : ct_IX l ny_FB_put nb_FB_put 4 (some .int) { frames := 7, cells := 1, slots := 6, locals := 137 } Y [.ref (Y.2.1 0), .int k, .int v] M U o ((fb_put M k v).1) ((fb_put M k v).2.1) ((fb_put M k v).2.2) U o 1 6 := by
  refine ct_bodyX (own := nr_FB) (L0 := [(0, .ref (Y.2.1 0)), (1, .int k), (2, .int v)]) (by decide) rfl (Nat.le_of_ble_eq_true rfl) rfl ?_
  intro p e s m args below meth c fx htab
  by_cases h5 : M 5 0 ≠ 0
  · rw [show fb_put M k v = (1, 0, M) from if_pos h5]
    refine vv_aload_n fx nd_FB_put_0 rfl 0 rfl ?_
    exact vv_callVxv (C := nr_FB) (T := nt_FB) (N := 6) (ci := 0) fx htab (cc_FB_requireUp1 l Y M U o hst h5) nm_FB_39 ns_FB_requireUp nv_FB_requireUp nz_FB nc_FB_requireUp ni_FB_requireUp 0 rfl rfl ⟨rfl, rfl, by decide, by decide⟩ ⟨(Nat.le_of_ble_eq_true rfl), (Nat.le_of_ble_eq_true rfl)⟩ (Nat.le_of_ble_eq_true rfl) nd_FB_put_1 rfl (fun _ => ⟨rfl, rfl, rfl, rfl⟩) (Nat.le_of_ble_eq_true rfl) (Nat.le_of_ble_eq_true rfl) (fun z => absurd z (by decide))
  · refine vv_aload_n fx nd_FB_put_0 rfl 0 rfl ?_
    refine vv_callVv (C := nr_FB) (T := nt_FB) (N := 6) (ci := 0) fx (cc_FB_requireUp0 l Y M U o (Classical.not_not.mp h5)) nm_FB_39 ns_FB_requireUp nv_FB_requireUp nz_FB nc_FB_requireUp ni_FB_requireUp 0 rfl rfl ⟨rfl, rfl, by decide, by decide⟩ ⟨Nat.le_of_ble_eq_true rfl, Nat.le_of_ble_eq_true rfl⟩ (Nat.le_of_ble_eq_true rfl) nd_FB_put_1 rfl ?_
    refine vv_aload_n fx nd_FB_put_4 rfl 0 rfl ?_
    refine vv_iload_n fx nd_FB_put_5 rfl 1 rfl ?_
    refine vv_callVi (C := nr_FB) (T := nt_FB) (N := 6) (ci := 0) fx (cc_FB_isKey l Y M U o k) nm_FB_42 ns_FB_isKey nv_FB_isKey nz_FB nc_FB_isKey ni_FB_isKey 0 rfl rfl ⟨rfl, rfl, by decide, by decide⟩ ⟨Nat.le_of_ble_eq_true rfl, Nat.le_of_ble_eq_true rfl⟩ (Nat.le_of_ble_eq_true rfl) nd_FB_put_6 rfl ?_
    refine vv_if_ne (tgt := 22) fx nd_FB_put_9 (by decide) (fun hb9 => ?_) (fun hb9 => ?_)
    · have hi := b01_1 hb9
      obtain ⟨j, hj, rfl⟩ := fb_isk_nat hi
      obtain ⟨hr0, hw⟩ := rf_rootw hI (j := 0) (by decide) (rf_root0 hI)
      rw [show fb_put M (nI j) v = fb_put2 M j v from ((if_neg h5).trans (if_neg (by rw [hi]; decide))).trans (by rw [nI_clamp (by omega)])]
      refine vv_aload_n fx nd_FB_put_22 rfl 0 rfl ?_
      refine vv_get (ci := 0) (C := nr_FB) (T := nt_FB) (N := 6) fx nt_FB_in 0 rfl rfl 0 (by decide) nf_FB_10 rfl nd_FB_put_23 ?_
      refine vv_aload_n fx nd_FB_put_26 rfl 0 rfl ?_
      refine vv_get (ci := 0) (C := nr_FB) (T := nt_FB) (N := 6) fx nt_FB_in 0 rfl rfl 1 (by decide) nf_FB_16 rfl nd_FB_put_27 ?_
      refine vv_iconst (v := nI 0) fx nd_FB_put_30 (by decide) ?_
      refine vv_iald fx 2 0 rfl rfl (by omega) (by decide) nd_FB_put_31 ?_
      refine vv_top (y := nI (fb_r M 0)) (hr0) ?_
      refine vv_iload_n fx nd_FB_put_32 rfl 1 rfl ?_
      refine vv_callVi (C := nr_RM) (T := nt_RM) (N := 4) (ci := 1) fx (cc_RM_binds l Y M U o (fb_r M 0) j hj (fb_wfp hw) (fb_wfq hw)) nm_FB_53 ns_RM_binds nv_RM_binds nz_RM nc_RM_binds ni_RM_binds 1 rfl rfl ⟨rfl, rfl, by decide, by decide⟩ ⟨Nat.le_of_ble_eq_true rfl, Nat.le_of_ble_eq_true rfl⟩ (Nat.le_of_ble_eq_true rfl) nd_FB_put_33 rfl ?_
      refine vv_istore_n (L' := [(0, .ref (Y.2.1 0)), (1, .int (nI j)), (2, .int v), (3, .int (if fb_bd M (fb_r M 0) j = true then 1 else 0))]) fx nd_FB_put_36 rfl (by decide) [1, 2, 3, 0] rfl ?_
      refine vv_iload_n fx nd_FB_put_37 rfl 3 rfl ?_
      refine vv_if_eq (tgt := 61) fx nd_FB_put_38 (by decide) (fun hb38 => ?_) (fun hb38 => ?_)
      · have hbq := b01_0 hb38
        by_cases hO : fb_free M < nI (fb_ntm (fb_mr M).2 (fb_r M 0) j 3)
        · rw [show fb_put2 M j v = (3, 0, (fb_mr M).2) by unfold fb_put2; rw [if_neg (by rw [hbq]; simp), fb_ocp1 hO]; rfl]
          refine vv_aload_n fx nd_FB_put_61 rfl 0 rfl ?_
          refine vv_iload_n fx nd_FB_put_62 rfl 1 rfl ?_
          refine vv_iconst (v := nI 3) fx nd_FB_put_63 (by decide) ?_
          exact vv_callVxv (C := nr_FB) (T := nt_FB) (N := 6) (ci := 0) fx htab (cc_FB_ownCurrentPath1 l Y M U o j 3 hst hI hj (by decide) hO) nm_FB_61 ns_FB_ownCurrentPath nv_FB_ownCurrentPath nz_FB nc_FB_ownCurrentPath ni_FB_ownCurrentPath 0 rfl rfl ⟨rfl, rfl, by decide, by decide⟩ ⟨(Nat.le_of_ble_eq_true rfl), (Nat.le_of_ble_eq_true rfl)⟩ (Nat.le_of_ble_eq_true rfl) nd_FB_put_64 rfl (fun _ => ⟨rfl, rfl, rfl, rfl⟩) (Nat.le_of_ble_eq_true rfl) (Nat.le_of_ble_eq_true rfl) (fun z => absurd z (by decide))
        · obtain ⟨p1, p2, p3⟩ := ow_path hI hj (L := 2) (by decide) hO
          have p4 : (fb_op (fb_mr M).2 (fb_r M 0) j 3).1 ≤ 60 := Nat.le_of_lt_succ p1
          have e7 : fb_put2 M j v = (0, nI 0, fb_bind (me_up (fb_op (fb_mr M).2 (fb_r M 0) j 3).2 3 0 (nI (fb_op (fb_mr M).2 (fb_r M 0) j 3).1)) (fb_op (fb_mr M).2 (fb_r M 0) j 3).1 j v) := by unfold fb_put2; rw [if_neg (by rw [hbq]; simp), fb_ocp0 hO]; dsimp only; rw [if_neg Bool.false_ne_true, rf_r_up _ p4, hbq]; rfl
          rw [e7]
          refine vv_aload_n fx nd_FB_put_61 rfl 0 rfl ?_
          refine vv_iload_n fx nd_FB_put_62 rfl 1 rfl ?_
          refine vv_iconst (v := nI 3) fx nd_FB_put_63 (by decide) ?_
          refine vv_callVv (C := nr_FB) (T := nt_FB) (N := 6) (ci := 0) fx (cc_FB_ownCurrentPath0 l Y M U o j 3 hI hj (by decide) hO) nm_FB_61 ns_FB_ownCurrentPath nv_FB_ownCurrentPath nz_FB nc_FB_ownCurrentPath ni_FB_ownCurrentPath 0 rfl rfl ⟨rfl, rfl, by decide, by decide⟩ ⟨Nat.le_of_ble_eq_true rfl, Nat.le_of_ble_eq_true rfl⟩ (Nat.le_of_ble_eq_true rfl) nd_FB_put_64 rfl ?_
          refine vv_aload_n fx nd_FB_put_67 rfl 0 rfl ?_
          refine vv_get (ci := 0) (C := nr_FB) (T := nt_FB) (N := 6) fx nt_FB_in 0 rfl rfl 0 (by decide) nf_FB_10 rfl nd_FB_put_68 ?_
          refine vv_aload_n fx nd_FB_put_71 rfl 0 rfl ?_
          refine vv_get (ci := 0) (C := nr_FB) (T := nt_FB) (N := 6) fx nt_FB_in 0 rfl rfl 1 (by decide) nf_FB_16 rfl nd_FB_put_72 ?_
          refine vv_iconst (v := nI 0) fx nd_FB_put_75 (by decide) ?_
          refine vv_iald fx 2 0 rfl rfl (by omega) (by decide) nd_FB_put_76 ?_
          refine vv_top (y := nI (fb_op (fb_mr M).2 (fb_r M 0) j 3).1) (me_up_s _ _ _ _) ?_
          refine vv_iload_n fx nd_FB_put_77 rfl 1 rfl ?_
          refine vv_iload_n fx nd_FB_put_78 rfl 2 rfl ?_
          refine vv_callVv (C := nr_RM) (T := nt_RM) (N := 4) (ci := 1) fx (cc_RM_bind l Y (me_up (fb_op (fb_mr M).2 (fb_r M 0) j 3).2 3 0 (nI (fb_op (fb_mr M).2 (fb_r M 0) j 3).1)) U o (fb_op (fb_mr M).2 (fb_r M 0) j 3).1 j v hj p2 p3) nm_FB_65 ns_RM_bind nv_RM_bind nz_RM nc_RM_bind ni_RM_bind 1 rfl rfl ⟨rfl, rfl, by decide, by decide⟩ ⟨Nat.le_of_ble_eq_true rfl, Nat.le_of_ble_eq_true rfl⟩ (Nat.le_of_ble_eq_true rfl) nd_FB_put_79 rfl ?_
          refine vv_iload_n fx nd_FB_put_82 rfl 3 rfl ?_
          refine vv_if_eq (tgt := 90) fx nd_FB_put_83 (by decide) (fun _ => ?_) (fun hb => absurd (by rw [hbq]; rfl) hb)
          refine vv_iconst (v := nI 0) fx nd_FB_put_90 (by decide) ?_
          exact vv_ixret fx rfl nd_FB_put_91 (rfl) (rfl) (Nat.le_of_ble_eq_true rfl) (Nat.le_of_ble_eq_true rfl)
      · have hbq := b01_1 hb38
        refine vv_aload_n fx nd_FB_put_41 rfl 0 rfl ?_
        refine vv_get (ci := 0) (C := nr_FB) (T := nt_FB) (N := 6) fx nt_FB_in 0 rfl rfl 0 (by decide) nf_FB_10 rfl nd_FB_put_42 ?_
        refine vv_aload_n fx nd_FB_put_45 rfl 0 rfl ?_
        refine vv_get (ci := 0) (C := nr_FB) (T := nt_FB) (N := 6) fx nt_FB_in 0 rfl rfl 1 (by decide) nf_FB_16 rfl nd_FB_put_46 ?_
        refine vv_iconst (v := nI 0) fx nd_FB_put_49 (by decide) ?_
        refine vv_iald fx 2 0 rfl rfl (by omega) (by decide) nd_FB_put_50 ?_
        refine vv_top (y := nI (fb_r M 0)) (hr0) ?_
        refine vv_iload_n fx nd_FB_put_51 rfl 1 rfl ?_
        refine vv_callVi (C := nr_RM) (T := nt_RM) (N := 4) (ci := 1) fx (cc_RM_valueOf l Y M U o (fb_r M 0) j hj (fb_wfp hw) (fb_wfq hw)) nm_FB_57 ns_RM_valueOf nv_RM_valueOf nz_RM nc_RM_valueOf ni_RM_valueOf 1 rfl rfl ⟨rfl, rfl, by decide, by decide⟩ ⟨Nat.le_of_ble_eq_true rfl, Nat.le_of_ble_eq_true rfl⟩ (Nat.le_of_ble_eq_true rfl) nd_FB_put_52 rfl ?_
        refine vv_iload_n fx nd_FB_put_55 rfl 2 rfl ?_
        refine vv_icmp_ne (tgt := 61) fx nd_FB_put_56 (by decide) (fun hb56 => ?_) (fun hb56 => ?_)
        · by_cases hO : fb_free M < nI (fb_ntm (fb_mr M).2 (fb_r M 0) j 3)
          · rw [show fb_put2 M j v = (3, 0, (fb_mr M).2) by unfold fb_put2; rw [if_neg (by rw [hbq, decide_eq_false hb56]; decide), fb_ocp1 hO]; rfl]
            refine vv_aload_n fx nd_FB_put_61 rfl 0 rfl ?_
            refine vv_iload_n fx nd_FB_put_62 rfl 1 rfl ?_
            refine vv_iconst (v := nI 3) fx nd_FB_put_63 (by decide) ?_
            exact vv_callVxv (C := nr_FB) (T := nt_FB) (N := 6) (ci := 0) fx htab (cc_FB_ownCurrentPath1 l Y M U o j 3 hst hI hj (by decide) hO) nm_FB_61 ns_FB_ownCurrentPath nv_FB_ownCurrentPath nz_FB nc_FB_ownCurrentPath ni_FB_ownCurrentPath 0 rfl rfl ⟨rfl, rfl, by decide, by decide⟩ ⟨(Nat.le_of_ble_eq_true rfl), (Nat.le_of_ble_eq_true rfl)⟩ (Nat.le_of_ble_eq_true rfl) nd_FB_put_64 rfl (fun _ => ⟨rfl, rfl, rfl, rfl⟩) (Nat.le_of_ble_eq_true rfl) (Nat.le_of_ble_eq_true rfl) (fun z => absurd z (by decide))
          · obtain ⟨p1, p2, p3⟩ := ow_path hI hj (L := 2) (by decide) hO
            have p4 : (fb_op (fb_mr M).2 (fb_r M 0) j 3).1 ≤ 60 := Nat.le_of_lt_succ p1
            have e7 : fb_put2 M j v = (0, nI 1, fb_bind (me_up (fb_op (fb_mr M).2 (fb_r M 0) j 3).2 3 0 (nI (fb_op (fb_mr M).2 (fb_r M 0) j 3).1)) (fb_op (fb_mr M).2 (fb_r M 0) j 3).1 j v) := by unfold fb_put2; rw [if_neg (by rw [hbq, decide_eq_false hb56]; decide), fb_ocp0 hO]; dsimp only; rw [if_neg Bool.false_ne_true, rf_r_up _ p4, hbq]; rfl
            rw [e7]
            refine vv_aload_n fx nd_FB_put_61 rfl 0 rfl ?_
            refine vv_iload_n fx nd_FB_put_62 rfl 1 rfl ?_
            refine vv_iconst (v := nI 3) fx nd_FB_put_63 (by decide) ?_
            refine vv_callVv (C := nr_FB) (T := nt_FB) (N := 6) (ci := 0) fx (cc_FB_ownCurrentPath0 l Y M U o j 3 hI hj (by decide) hO) nm_FB_61 ns_FB_ownCurrentPath nv_FB_ownCurrentPath nz_FB nc_FB_ownCurrentPath ni_FB_ownCurrentPath 0 rfl rfl ⟨rfl, rfl, by decide, by decide⟩ ⟨Nat.le_of_ble_eq_true rfl, Nat.le_of_ble_eq_true rfl⟩ (Nat.le_of_ble_eq_true rfl) nd_FB_put_64 rfl ?_
            refine vv_aload_n fx nd_FB_put_67 rfl 0 rfl ?_
            refine vv_get (ci := 0) (C := nr_FB) (T := nt_FB) (N := 6) fx nt_FB_in 0 rfl rfl 0 (by decide) nf_FB_10 rfl nd_FB_put_68 ?_
            refine vv_aload_n fx nd_FB_put_71 rfl 0 rfl ?_
            refine vv_get (ci := 0) (C := nr_FB) (T := nt_FB) (N := 6) fx nt_FB_in 0 rfl rfl 1 (by decide) nf_FB_16 rfl nd_FB_put_72 ?_
            refine vv_iconst (v := nI 0) fx nd_FB_put_75 (by decide) ?_
            refine vv_iald fx 2 0 rfl rfl (by omega) (by decide) nd_FB_put_76 ?_
            refine vv_top (y := nI (fb_op (fb_mr M).2 (fb_r M 0) j 3).1) (me_up_s _ _ _ _) ?_
            refine vv_iload_n fx nd_FB_put_77 rfl 1 rfl ?_
            refine vv_iload_n fx nd_FB_put_78 rfl 2 rfl ?_
            refine vv_callVv (C := nr_RM) (T := nt_RM) (N := 4) (ci := 1) fx (cc_RM_bind l Y (me_up (fb_op (fb_mr M).2 (fb_r M 0) j 3).2 3 0 (nI (fb_op (fb_mr M).2 (fb_r M 0) j 3).1)) U o (fb_op (fb_mr M).2 (fb_r M 0) j 3).1 j v hj p2 p3) nm_FB_65 ns_RM_bind nv_RM_bind nz_RM nc_RM_bind ni_RM_bind 1 rfl rfl ⟨rfl, rfl, by decide, by decide⟩ ⟨Nat.le_of_ble_eq_true rfl, Nat.le_of_ble_eq_true rfl⟩ (Nat.le_of_ble_eq_true rfl) nd_FB_put_79 rfl ?_
            refine vv_iload_n fx nd_FB_put_82 rfl 3 rfl ?_
            refine vv_if_eq (tgt := 90) fx nd_FB_put_83 (by decide) (fun hb => absurd hb (by rw [hbq]; decide)) (fun _ => ?_)
            refine vv_iconst (v := nI 1) fx nd_FB_put_86 (by decide) ?_
            refine vv_goto (tgt := 91) fx nd_FB_put_87 (by decide) ?_
            exact vv_ixret fx rfl nd_FB_put_91 (rfl) (rfl) (Nat.le_of_ble_eq_true rfl) (Nat.le_of_ble_eq_true rfl)
        · rw [show fb_put2 M j v = (0, 2, M) from if_pos (by rw [hbq, decide_eq_true hb56]; rfl)]
          refine vv_iconst (v := nI 2) fx nd_FB_put_59 (by decide) ?_
          exact vv_ixret fx rfl nd_FB_put_60 (rfl) (rfl) (Nat.le_of_ble_eq_true rfl) (Nat.le_of_ble_eq_true rfl)
    · rw [show fb_put M k v = (2, 0, M) from (if_neg h5).trans (if_pos (b01_0 hb9))]
      exact vv_throw_2 (text := "no such key") fx htab hst (by decide +kernel) nd_FB_put_12 nd_FB_put_15 nd_FB_put_16 nd_FB_put_18 nd_FB_put_21 (Nat.le_of_ble_eq_true rfl) (Nat.le_of_ble_eq_true rfl) (Nat.le_of_ble_eq_true rfl) (Nat.le_of_ble_eq_true rfl) (rfl) (rfl) (rfl) (rfl) (Nat.le_of_ble_eq_true rfl) (Nat.le_of_ble_eq_true rfl)
theorem fb_lw_le (M : me_M) (r k n : Nat) : fb_lw M r k n ≤ n := by
  induction n with
  | zero => exact Nat.le_refl _
  | succ n ih =>
    unfold fb_lw
    split
    · omega
    · exact Nat.le_refl _
theorem ow_pathL {M U : me_M} {N k L : Nat} (hI : rf_I M U N) (hk : k < 64) (hL : L ≤ 3) (h : ¬ fb_free M < nI (fb_ntm (fb_mr M).2 (fb_r M 0) k L)) : (fb_op (fb_mr M).2 (fb_r M 0) k L).1 < 61 ∧ (0 < L → fb_pk (me_up (fb_op (fb_mr M).2 (fb_r M 0) k L).2 3 0 (nI (fb_op (fb_mr M).2 (fb_r M 0) k L).1)) (fb_op (fb_mr M).2 (fb_r M 0) k L).1 k (L - 1)) ∧ (0 < L → fb_na (me_up (fb_op (fb_mr M).2 (fb_r M 0) k L).2 3 0 (nI (fb_op (fb_mr M).2 (fb_r M 0) k L).1)) (fb_op (fb_mr M).2 (fb_r M 0) k L).1 k (L - 1) < 61) := by
  cases L with
  | zero => exact ⟨(by decide : (0 : Nat) < 61), fun z => absurd z (by decide), fun z => absurd z (by decide)⟩
  | succ L =>
    obtain ⟨a, b, c⟩ := ow_path hI hk hL h
    exact ⟨a, fun _ => b, fun _ => c⟩
set_option maxRecDepth 4000 in
theorem cc_FB_remove (l : Launch) (Y : sy_Y) (M U : me_M) (o : Int64) (k : Int32) {N : Nat} (hst : l.stackTraces = false) (hI : rf_I M U N) : ct_IX l ny_FB_remove nb_FB_remove 4 (some .int) { frames := 7, cells := 1, slots := 6, locals := 137 } Y [.ref (Y.2.1 0), .int k] M U o ((fb_remove M k).1) ((fb_remove M k).2.1) ((fb_remove M k).2.2) U o 1 6 := by
  refine ct_bodyX (own := nr_FB) (L0 := [(0, .ref (Y.2.1 0)), (1, .int k)]) (by decide) rfl (Nat.le_of_ble_eq_true rfl) rfl ?_
  intro p e s m args below meth c fx htab
  by_cases h5 : M 5 0 ≠ 0
  · rw [show fb_remove M k = (1, 0, M) from if_pos h5]
    refine vv_aload_n fx nd_FB_remove_0 rfl 0 rfl ?_
    exact vv_callVxv (C := nr_FB) (T := nt_FB) (N := 6) (ci := 0) fx htab (cc_FB_requireUp1 l Y M U o hst h5) nm_FB_39 ns_FB_requireUp nv_FB_requireUp nz_FB nc_FB_requireUp ni_FB_requireUp 0 rfl rfl ⟨rfl, rfl, by decide, by decide⟩ ⟨(Nat.le_of_ble_eq_true rfl), (Nat.le_of_ble_eq_true rfl)⟩ (Nat.le_of_ble_eq_true rfl) nd_FB_remove_1 rfl (fun _ => ⟨rfl, rfl, rfl, rfl⟩) (Nat.le_of_ble_eq_true rfl) (Nat.le_of_ble_eq_true rfl) (fun z => absurd z (by decide))
  · refine vv_aload_n fx nd_FB_remove_0 rfl 0 rfl ?_
    refine vv_callVv (C := nr_FB) (T := nt_FB) (N := 6) (ci := 0) fx (cc_FB_requireUp0 l Y M U o (Classical.not_not.mp h5)) nm_FB_39 ns_FB_requireUp nv_FB_requireUp nz_FB nc_FB_requireUp ni_FB_requireUp 0 rfl rfl ⟨rfl, rfl, by decide, by decide⟩ ⟨Nat.le_of_ble_eq_true rfl, Nat.le_of_ble_eq_true rfl⟩ (Nat.le_of_ble_eq_true rfl) nd_FB_remove_1 rfl ?_
    obtain ⟨hr0, hw⟩ := rf_rootw hI (j := 0) (by decide) (rf_root0 hI)
    by_cases hb : (fb_isk k && fb_bd M (fb_r M 0) k.toNatClampNeg) = false
    · rw [show fb_remove M k = (4, 0, M) from (if_neg h5).trans (if_pos hb)]
      refine vv_aload_n fx nd_FB_remove_4 rfl 0 rfl ?_
      refine vv_aload_n fx nd_FB_remove_5 rfl 0 rfl ?_
      refine vv_get (ci := 0) (C := nr_FB) (T := nt_FB) (N := 6) fx nt_FB_in 0 rfl rfl 1 (by decide) nf_FB_16 rfl nd_FB_remove_6 ?_
      refine vv_iconst (v := nI 0) fx nd_FB_remove_9 (by decide) ?_
      refine vv_iald fx 2 0 rfl rfl (by omega) (by decide) nd_FB_remove_10 ?_
      refine vv_top (y := nI (fb_r M 0)) (hr0) ?_
      refine vv_iload_n fx nd_FB_remove_11 rfl 1 rfl ?_
      exact vv_callVxv (C := nr_FB) (T := nt_FB) (N := 6) (ci := 0) fx htab (cc_FB_requireBound1 l Y M U o (fb_r M 0) k hst hw hb) nm_FB_69 ns_FB_requireBound nv_FB_requireBound nz_FB nc_FB_requireBound ni_FB_requireBound 0 rfl rfl ⟨rfl, rfl, by decide, by decide⟩ ⟨(Nat.le_of_ble_eq_true rfl), (Nat.le_of_ble_eq_true rfl)⟩ (Nat.le_of_ble_eq_true rfl) nd_FB_remove_12 rfl (fun _ => ⟨rfl, rfl, rfl, rfl⟩) (Nat.le_of_ble_eq_true rfl) (Nat.le_of_ble_eq_true rfl) (fun z => absurd z (by decide))
    · have hb2 : (fb_isk k && fb_bd M (fb_r M 0) k.toNatClampNeg) = true := by cases q : (fb_isk k && fb_bd M (fb_r M 0) k.toNatClampNeg) with | false => exact absurd q hb | true => rfl
      rw [Bool.and_eq_true] at hb2
      obtain ⟨hi, hbd⟩ := hb2
      obtain ⟨j, hj, rfl⟩ := fb_isk_nat hi
      rw [nI_clamp (by omega)] at hbd
      rw [show fb_remove M (nI j) = fb_remove2 M j (fb_lw M (fb_r M 0) j 3) from ((if_neg h5).trans (if_neg hb)).trans (by rw [nI_clamp (by omega)])]
      have hL : (fb_lw M (fb_r M 0) j 3) ≤ 3 := fb_lw_le _ _ _ _
      refine vv_aload_n fx nd_FB_remove_4 rfl 0 rfl ?_
      refine vv_aload_n fx nd_FB_remove_5 rfl 0 rfl ?_
      refine vv_get (ci := 0) (C := nr_FB) (T := nt_FB) (N := 6) fx nt_FB_in 0 rfl rfl 1 (by decide) nf_FB_16 rfl nd_FB_remove_6 ?_
      refine vv_iconst (v := nI 0) fx nd_FB_remove_9 (by decide) ?_
      refine vv_iald fx 2 0 rfl rfl (by omega) (by decide) nd_FB_remove_10 ?_
      refine vv_top (y := nI (fb_r M 0)) (hr0) ?_
      refine vv_iload_n fx nd_FB_remove_11 rfl 1 rfl ?_
      refine vv_callVv (C := nr_FB) (T := nt_FB) (N := 6) (ci := 0) fx (cc_FB_requireBound0 l Y M U o (fb_r M 0) j hw hj hi hbd) nm_FB_69 ns_FB_requireBound nv_FB_requireBound nz_FB nc_FB_requireBound ni_FB_requireBound 0 rfl rfl ⟨rfl, rfl, by decide, by decide⟩ ⟨Nat.le_of_ble_eq_true rfl, Nat.le_of_ble_eq_true rfl⟩ (Nat.le_of_ble_eq_true rfl) nd_FB_remove_12 rfl ?_
      refine vv_aload_n fx nd_FB_remove_15 rfl 0 rfl ?_
      refine vv_get (ci := 0) (C := nr_FB) (T := nt_FB) (N := 6) fx nt_FB_in 0 rfl rfl 0 (by decide) nf_FB_10 rfl nd_FB_remove_16 ?_
      refine vv_aload_n fx nd_FB_remove_19 rfl 0 rfl ?_
      refine vv_get (ci := 0) (C := nr_FB) (T := nt_FB) (N := 6) fx nt_FB_in 0 rfl rfl 1 (by decide) nf_FB_16 rfl nd_FB_remove_20 ?_
      refine vv_iconst (v := nI 0) fx nd_FB_remove_23 (by decide) ?_
      refine vv_iald fx 2 0 rfl rfl (by omega) (by decide) nd_FB_remove_24 ?_
      refine vv_top (y := nI (fb_r M 0)) (hr0) ?_
      refine vv_iload_n fx nd_FB_remove_25 rfl 1 rfl ?_
      refine vv_callVi (C := nr_RM) (T := nt_RM) (N := 4) (ci := 1) fx (cc_RM_valueOf l Y M U o (fb_r M 0) j hj (fb_wfp hw) (fb_wfq hw)) nm_FB_57 ns_RM_valueOf nv_RM_valueOf nz_RM nc_RM_valueOf ni_RM_valueOf 1 rfl rfl ⟨rfl, rfl, by decide, by decide⟩ ⟨Nat.le_of_ble_eq_true rfl, Nat.le_of_ble_eq_true rfl⟩ (Nat.le_of_ble_eq_true rfl) nd_FB_remove_26 rfl ?_
      refine vv_istore_n (L' := [(0, .ref (Y.2.1 0)), (1, .int (nI j)), (2, .int (fb_val M (fb_r M 0) j))]) fx nd_FB_remove_29 rfl (by decide) [1, 2, 0] rfl ?_
      refine vv_aload_n fx nd_FB_remove_30 rfl 0 rfl ?_
      refine vv_get (ci := 0) (C := nr_FB) (T := nt_FB) (N := 6) fx nt_FB_in 0 rfl rfl 0 (by decide) nf_FB_10 rfl nd_FB_remove_31 ?_
      refine vv_aload_n fx nd_FB_remove_34 rfl 0 rfl ?_
      refine vv_get (ci := 0) (C := nr_FB) (T := nt_FB) (N := 6) fx nt_FB_in 0 rfl rfl 1 (by decide) nf_FB_16 rfl nd_FB_remove_35 ?_
      refine vv_iconst (v := nI 0) fx nd_FB_remove_38 (by decide) ?_
      refine vv_iald fx 2 0 rfl rfl (by omega) (by decide) nd_FB_remove_39 ?_
      refine vv_top (y := nI (fb_r M 0)) (hr0) ?_
      refine vv_iload_n fx nd_FB_remove_40 rfl 1 rfl ?_
      refine vv_callVi (C := nr_RM) (T := nt_RM) (N := 4) (ci := 1) fx (cc_RM_levelsWithout l Y M U o (fb_r M 0) j hj (fb_wfp hw) (fb_pk_wf hw j).2) nm_FB_72 ns_RM_levelsWithout nv_RM_levelsWithout nz_RM nc_RM_levelsWithout ni_RM_levelsWithout 1 rfl rfl ⟨rfl, rfl, by decide, by decide⟩ ⟨Nat.le_of_ble_eq_true rfl, Nat.le_of_ble_eq_true rfl⟩ (Nat.le_of_ble_eq_true rfl) nd_FB_remove_41 rfl ?_
      refine vv_istore_n (L' := [(0, .ref (Y.2.1 0)), (1, .int (nI j)), (2, .int (fb_val M (fb_r M 0) j)), (3, .int (nI (fb_lw M (fb_r M 0) j 3)))]) fx nd_FB_remove_44 rfl (by decide) [1, 2, 3, 0] rfl ?_
      refine vv_aload_n fx nd_FB_remove_45 rfl 0 rfl ?_
      refine vv_iload_n fx nd_FB_remove_46 rfl 1 rfl ?_
      refine vv_iload_n fx nd_FB_remove_47 rfl 3 rfl ?_
      by_cases hO : fb_free M < nI (fb_ntm (fb_mr M).2 (fb_r M 0) j (fb_lw M (fb_r M 0) j 3))
      · rw [show fb_remove2 M j (fb_lw M (fb_r M 0) j 3) = (3, 0, (fb_mr M).2) by unfold fb_remove2; rw [fb_ocp1 hO]; rfl]
        exact vv_callVxv (C := nr_FB) (T := nt_FB) (N := 6) (ci := 0) fx htab (cc_FB_ownCurrentPath1 l Y M U o j (fb_lw M (fb_r M 0) j 3) hst hI hj hL hO) nm_FB_61 ns_FB_ownCurrentPath nv_FB_ownCurrentPath nz_FB nc_FB_ownCurrentPath ni_FB_ownCurrentPath 0 rfl rfl ⟨rfl, rfl, by decide, by decide⟩ ⟨(Nat.le_of_ble_eq_true rfl), (Nat.le_of_ble_eq_true rfl)⟩ (Nat.le_of_ble_eq_true rfl) nd_FB_remove_48 rfl (fun _ => ⟨rfl, rfl, rfl, rfl⟩) (Nat.le_of_ble_eq_true rfl) (Nat.le_of_ble_eq_true rfl) (fun z => absurd z (by decide))
      · have hc : (fb_op (fb_mr M).2 (fb_r M 0) j (fb_lw M (fb_r M 0) j 3)).1 < 61 ∧ (0 < (fb_lw M (fb_r M 0) j 3) → fb_pk (me_up (fb_op (fb_mr M).2 (fb_r M 0) j (fb_lw M (fb_r M 0) j 3)).2 3 0 (nI (fb_op (fb_mr M).2 (fb_r M 0) j (fb_lw M (fb_r M 0) j 3)).1)) (fb_op (fb_mr M).2 (fb_r M 0) j (fb_lw M (fb_r M 0) j 3)).1 j ((fb_lw M (fb_r M 0) j 3) - 1)) ∧ (0 < (fb_lw M (fb_r M 0) j 3) → fb_na (me_up (fb_op (fb_mr M).2 (fb_r M 0) j (fb_lw M (fb_r M 0) j 3)).2 3 0 (nI (fb_op (fb_mr M).2 (fb_r M 0) j (fb_lw M (fb_r M 0) j 3)).1)) (fb_op (fb_mr M).2 (fb_r M 0) j (fb_lw M (fb_r M 0) j 3)).1 j ((fb_lw M (fb_r M 0) j 3) - 1) < 61) := ow_pathL hI hj hL hO
        have e7 : fb_remove2 M j (fb_lw M (fb_r M 0) j 3) = (0, fb_val M (fb_r M 0) j, fb_cut (me_up (fb_op (fb_mr M).2 (fb_r M 0) j (fb_lw M (fb_r M 0) j 3)).2 3 0 (nI (fb_op (fb_mr M).2 (fb_r M 0) j (fb_lw M (fb_r M 0) j 3)).1)) (fb_op (fb_mr M).2 (fb_r M 0) j (fb_lw M (fb_r M 0) j 3)).1 j (fb_lw M (fb_r M 0) j 3)) := by unfold fb_remove2; rw [fb_ocp0 hO]; dsimp only; rw [if_neg Bool.false_ne_true, rf_r_up _ (by have := hc.1; omega)]
        rw [e7]
        refine vv_callVv (C := nr_FB) (T := nt_FB) (N := 6) (ci := 0) fx (cc_FB_ownCurrentPath0 l Y M U o j (fb_lw M (fb_r M 0) j 3) hI hj hL hO) nm_FB_61 ns_FB_ownCurrentPath nv_FB_ownCurrentPath nz_FB nc_FB_ownCurrentPath ni_FB_ownCurrentPath 0 rfl rfl ⟨rfl, rfl, by decide, by decide⟩ ⟨Nat.le_of_ble_eq_true rfl, Nat.le_of_ble_eq_true rfl⟩ (Nat.le_of_ble_eq_true rfl) nd_FB_remove_48 rfl ?_
        refine vv_aload_n fx nd_FB_remove_51 rfl 0 rfl ?_
        refine vv_get (ci := 0) (C := nr_FB) (T := nt_FB) (N := 6) fx nt_FB_in 0 rfl rfl 0 (by decide) nf_FB_10 rfl nd_FB_remove_52 ?_
        refine vv_aload_n fx nd_FB_remove_55 rfl 0 rfl ?_
        refine vv_get (ci := 0) (C := nr_FB) (T := nt_FB) (N := 6) fx nt_FB_in 0 rfl rfl 1 (by decide) nf_FB_16 rfl nd_FB_remove_56 ?_
        refine vv_iconst (v := nI 0) fx nd_FB_remove_59 (by decide) ?_
        refine vv_iald fx 2 0 rfl rfl (by omega) (by decide) nd_FB_remove_60 ?_
        refine vv_top (y := nI (fb_op (fb_mr M).2 (fb_r M 0) j (fb_lw M (fb_r M 0) j 3)).1) (me_up_s _ _ _ _) ?_
        refine vv_iload_n fx nd_FB_remove_61 rfl 1 rfl ?_
        refine vv_iload_n fx nd_FB_remove_62 rfl 3 rfl ?_
        refine vv_callVv (C := nr_RM) (T := nt_RM) (N := 4) (ci := 1) fx (cc_RM_cut l Y (me_up (fb_op (fb_mr M).2 (fb_r M 0) j (fb_lw M (fb_r M 0) j 3)).2 3 0 (nI (fb_op (fb_mr M).2 (fb_r M 0) j (fb_lw M (fb_r M 0) j 3)).1)) U o (fb_op (fb_mr M).2 (fb_r M 0) j (fb_lw M (fb_r M 0) j 3)).1 j (fb_lw M (fb_r M 0) j 3) hj hL hc.2.1 hc.2.2) nm_FB_75 ns_RM_cut nv_RM_cut nz_RM nc_RM_cut ni_RM_cut 1 rfl rfl ⟨rfl, rfl, by decide, by decide⟩ ⟨Nat.le_of_ble_eq_true rfl, Nat.le_of_ble_eq_true rfl⟩ (Nat.le_of_ble_eq_true rfl) nd_FB_remove_63 rfl ?_
        refine vv_iload_n fx nd_FB_remove_66 rfl 2 rfl ?_
        exact vv_ixret fx rfl nd_FB_remove_67 (rfl) (rfl) (Nat.le_of_ble_eq_true rfl) (Nat.le_of_ble_eq_true rfl)
set_option maxRecDepth 4000 in
theorem cc_FB_get (l : Launch) (Y : sy_Y) (M U : me_M) (o : Int64) (h k : Int32) {N : Nat} (hst : l.stackTraces = false) (hI : rf_I M U N) : ct_IX l ny_FB_get nb_FB_get 3 (some .int) { frames := 7, cells := 1, slots := 6, locals := 104 } Y [.ref (Y.2.1 0), .int h, .int k] M U o ((fb_get M h k).1) ((fb_get M h k).2.1) ((fb_get M h k).2.2) U o 1 6 := by
  refine ct_bodyX (own := nr_FB) (L0 := [(0, .ref (Y.2.1 0)), (1, .int h), (2, .int k)]) (by decide) rfl (Nat.le_of_ble_eq_true rfl) rfl ?_
  intro p e s m args below meth c fx htab
  by_cases h5 : M 5 0 ≠ 0
  · rw [show fb_get M h k = (1, 0, M) from if_pos h5]
    refine vv_aload_n fx nd_FB_get_0 rfl 0 rfl ?_
    exact vv_callVxv (C := nr_FB) (T := nt_FB) (N := 6) (ci := 0) fx htab (cc_FB_requireUp1 l Y M U o hst h5) nm_FB_39 ns_FB_requireUp nv_FB_requireUp nz_FB nc_FB_requireUp ni_FB_requireUp 0 rfl rfl ⟨rfl, rfl, by decide, by decide⟩ ⟨(Nat.le_of_ble_eq_true rfl), (Nat.le_of_ble_eq_true rfl)⟩ (Nat.le_of_ble_eq_true rfl) nd_FB_get_1 rfl (fun _ => ⟨rfl, rfl, rfl, rfl⟩) (Nat.le_of_ble_eq_true rfl) (Nat.le_of_ble_eq_true rfl) (fun z => absurd z (by decide))
  · refine vv_aload_n fx nd_FB_get_0 rfl 0 rfl ?_
    refine vv_callVv (C := nr_FB) (T := nt_FB) (N := 6) (ci := 0) fx (cc_FB_requireUp0 l Y M U o (Classical.not_not.mp h5)) nm_FB_39 ns_FB_requireUp nv_FB_requireUp nz_FB nc_FB_requireUp ni_FB_requireUp 0 rfl rfl ⟨rfl, rfl, by decide, by decide⟩ ⟨Nat.le_of_ble_eq_true rfl, Nat.le_of_ble_eq_true rfl⟩ (Nat.le_of_ble_eq_true rfl) nd_FB_get_1 rfl ?_
    by_cases hm : fb_ism M h = false
    · rw [show fb_get M h k = (2, 0, M) from (if_neg h5).trans (if_pos hm)]
      refine vv_aload_n fx nd_FB_get_4 rfl 0 rfl ?_
      refine vv_iload_n fx nd_FB_get_5 rfl 1 rfl ?_
      exact vv_callVxv (C := nr_FB) (T := nt_FB) (N := 6) (ci := 0) fx htab (cc_FB_requireMap1 l Y M U o h hst hm) nm_FB_78 ns_FB_requireMap nv_FB_requireMap nz_FB nc_FB_requireMap ni_FB_requireMap 0 rfl rfl ⟨rfl, rfl, by decide, by decide⟩ ⟨(Nat.le_of_ble_eq_true rfl), (Nat.le_of_ble_eq_true rfl)⟩ (Nat.le_of_ble_eq_true rfl) nd_FB_get_6 rfl (fun _ => ⟨rfl, rfl, rfl, rfl⟩) (Nat.le_of_ble_eq_true rfl) (Nat.le_of_ble_eq_true rfl) (fun z => absurd z (by decide))
    · have hm : fb_ism M h = true := by cases q : fb_ism M h with | false => exact absurd q hm | true => rfl
      refine vv_aload_n fx nd_FB_get_4 rfl 0 rfl ?_
      refine vv_iload_n fx nd_FB_get_5 rfl 1 rfl ?_
      refine vv_callVv (C := nr_FB) (T := nt_FB) (N := 6) (ci := 0) fx (cc_FB_requireMap0 l Y M U o h hm) nm_FB_78 ns_FB_requireMap nv_FB_requireMap nz_FB nc_FB_requireMap ni_FB_requireMap 0 rfl rfl ⟨rfl, rfl, by decide, by decide⟩ ⟨Nat.le_of_ble_eq_true rfl, Nat.le_of_ble_eq_true rfl⟩ (Nat.le_of_ble_eq_true rfl) nd_FB_get_6 rfl ?_
      obtain ⟨hn, hn7, rfl, hne⟩ := fb_ism_nat hm
      obtain ⟨hnr, hnw⟩ := rf_rootw hI hn7 hne
      have ecl : (nI hn).toNatClampNeg = hn := nI_clamp (by omega)
      by_cases hb : (fb_isk k && fb_bd M (fb_r M hn) k.toNatClampNeg) = false
      · rw [show fb_get M (nI hn) k = (4, 0, M) from ((if_neg h5).trans (if_neg (by rw [hm]; decide))).trans (if_pos (by rw [ecl]; exact hb))]
        refine vv_aload_n fx nd_FB_get_9 rfl 0 rfl ?_
        refine vv_aload_n fx nd_FB_get_10 rfl 0 rfl ?_
        refine vv_get (ci := 0) (C := nr_FB) (T := nt_FB) (N := 6) fx nt_FB_in 0 rfl rfl 1 (by decide) nf_FB_16 rfl nd_FB_get_11 ?_
        refine vv_iload_n fx nd_FB_get_14 rfl 1 rfl ?_
        refine vv_iald fx 2 0 rfl rfl (hn7) (by decide) nd_FB_get_15 ?_
        refine vv_top (y := nI (fb_r M hn)) (hnr) ?_
        refine vv_iload_n fx nd_FB_get_16 rfl 2 rfl ?_
        exact vv_callVxv (C := nr_FB) (T := nt_FB) (N := 6) (ci := 0) fx htab (cc_FB_requireBound1 l Y M U o (fb_r M hn) k hst hnw hb) nm_FB_69 ns_FB_requireBound nv_FB_requireBound nz_FB nc_FB_requireBound ni_FB_requireBound 0 rfl rfl ⟨rfl, rfl, by decide, by decide⟩ ⟨(Nat.le_of_ble_eq_true rfl), (Nat.le_of_ble_eq_true rfl)⟩ (Nat.le_of_ble_eq_true rfl) nd_FB_get_17 rfl (fun _ => ⟨rfl, rfl, rfl, rfl⟩) (Nat.le_of_ble_eq_true rfl) (Nat.le_of_ble_eq_true rfl) (fun z => absurd z (by decide))
      · have hb2 : (fb_isk k && fb_bd M (fb_r M hn) k.toNatClampNeg) = true := by cases q : (fb_isk k && fb_bd M (fb_r M hn) k.toNatClampNeg) with | false => exact absurd q hb | true => rfl
        rw [Bool.and_eq_true] at hb2
        obtain ⟨hi, hbd⟩ := hb2
        obtain ⟨j, hj, rfl⟩ := fb_isk_nat hi
        have ecj : (nI j).toNatClampNeg = j := nI_clamp (by omega)
        rw [ecj] at hbd
        rw [show fb_get M (nI hn) (nI j) = (0, fb_val M (fb_r M hn) j, M) from ((if_neg h5).trans (if_neg (by rw [hm]; decide))).trans ((if_neg (by rw [ecl]; exact hb)).trans (by rw [ecl, ecj]))]
        refine vv_aload_n fx nd_FB_get_9 rfl 0 rfl ?_
        refine vv_aload_n fx nd_FB_get_10 rfl 0 rfl ?_
        refine vv_get (ci := 0) (C := nr_FB) (T := nt_FB) (N := 6) fx nt_FB_in 0 rfl rfl 1 (by decide) nf_FB_16 rfl nd_FB_get_11 ?_
        refine vv_iload_n fx nd_FB_get_14 rfl 1 rfl ?_
        refine vv_iald fx 2 0 rfl rfl (hn7) (by decide) nd_FB_get_15 ?_
        refine vv_top (y := nI (fb_r M hn)) (hnr) ?_
        refine vv_iload_n fx nd_FB_get_16 rfl 2 rfl ?_
        refine vv_callVv (C := nr_FB) (T := nt_FB) (N := 6) (ci := 0) fx (cc_FB_requireBound0 l Y M U o (fb_r M hn) j hnw hj hi hbd) nm_FB_69 ns_FB_requireBound nv_FB_requireBound nz_FB nc_FB_requireBound ni_FB_requireBound 0 rfl rfl ⟨rfl, rfl, by decide, by decide⟩ ⟨Nat.le_of_ble_eq_true rfl, Nat.le_of_ble_eq_true rfl⟩ (Nat.le_of_ble_eq_true rfl) nd_FB_get_17 rfl ?_
        refine vv_aload_n fx nd_FB_get_20 rfl 0 rfl ?_
        refine vv_get (ci := 0) (C := nr_FB) (T := nt_FB) (N := 6) fx nt_FB_in 0 rfl rfl 0 (by decide) nf_FB_10 rfl nd_FB_get_21 ?_
        refine vv_aload_n fx nd_FB_get_24 rfl 0 rfl ?_
        refine vv_get (ci := 0) (C := nr_FB) (T := nt_FB) (N := 6) fx nt_FB_in 0 rfl rfl 1 (by decide) nf_FB_16 rfl nd_FB_get_25 ?_
        refine vv_iload_n fx nd_FB_get_28 rfl 1 rfl ?_
        refine vv_iald fx 2 0 rfl rfl (hn7) (by decide) nd_FB_get_29 ?_
        refine vv_top (y := nI (fb_r M hn)) (hnr) ?_
        refine vv_iload_n fx nd_FB_get_30 rfl 2 rfl ?_
        refine vv_callVi (C := nr_RM) (T := nt_RM) (N := 4) (ci := 1) fx (cc_RM_valueOf l Y M U o (fb_r M hn) j hj (fb_wfp hnw) (fb_wfq hnw)) nm_FB_57 ns_RM_valueOf nv_RM_valueOf nz_RM nc_RM_valueOf ni_RM_valueOf 1 rfl rfl ⟨rfl, rfl, by decide, by decide⟩ ⟨Nat.le_of_ble_eq_true rfl, Nat.le_of_ble_eq_true rfl⟩ (Nat.le_of_ble_eq_true rfl) nd_FB_get_31 rfl ?_
        exact vv_ixret fx rfl nd_FB_get_34 (rfl) (rfl) (Nat.le_of_ble_eq_true rfl) (Nat.le_of_ble_eq_true rfl)
set_option maxRecDepth 4000 in
theorem cc_FB_next (l : Launch) (Y : sy_Y) (M U : me_M) (o : Int64) (h k : Int32) {N : Nat} (hst : l.stackTraces = false) (hI : rf_I M U N) : ct_IX l ny_FB_next nb_FB_next 4 (some .int) { frames := 7, cells := 1, slots := 6, locals := 103 } Y [.ref (Y.2.1 0), .int h, .int k] M U o ((fb_next M h k).1) ((fb_next M h k).2.1) ((fb_next M h k).2.2) U o 1 6 := by
  refine ct_bodyX (own := nr_FB) (L0 := [(0, .ref (Y.2.1 0)), (1, .int h), (2, .int k)]) (by decide) rfl (Nat.le_of_ble_eq_true rfl) rfl ?_
  intro p e s m args below meth c fx htab
  by_cases h5 : M 5 0 ≠ 0
  · rw [show fb_next M h k = (1, 0, M) from if_pos h5]
    refine vv_aload_n fx nd_FB_next_0 rfl 0 rfl ?_
    exact vv_callVxv (C := nr_FB) (T := nt_FB) (N := 6) (ci := 0) fx htab (cc_FB_requireUp1 l Y M U o hst h5) nm_FB_39 ns_FB_requireUp nv_FB_requireUp nz_FB nc_FB_requireUp ni_FB_requireUp 0 rfl rfl ⟨rfl, rfl, by decide, by decide⟩ ⟨(Nat.le_of_ble_eq_true rfl), (Nat.le_of_ble_eq_true rfl)⟩ (Nat.le_of_ble_eq_true rfl) nd_FB_next_1 rfl (fun _ => ⟨rfl, rfl, rfl, rfl⟩) (Nat.le_of_ble_eq_true rfl) (Nat.le_of_ble_eq_true rfl) (fun z => absurd z (by decide))
  · refine vv_aload_n fx nd_FB_next_0 rfl 0 rfl ?_
    refine vv_callVv (C := nr_FB) (T := nt_FB) (N := 6) (ci := 0) fx (cc_FB_requireUp0 l Y M U o (Classical.not_not.mp h5)) nm_FB_39 ns_FB_requireUp nv_FB_requireUp nz_FB nc_FB_requireUp ni_FB_requireUp 0 rfl rfl ⟨rfl, rfl, by decide, by decide⟩ ⟨Nat.le_of_ble_eq_true rfl, Nat.le_of_ble_eq_true rfl⟩ (Nat.le_of_ble_eq_true rfl) nd_FB_next_1 rfl ?_
    by_cases hm : fb_ism M h = false
    · rw [show fb_next M h k = (2, 0, M) from (if_neg h5).trans (if_pos hm)]
      refine vv_aload_n fx nd_FB_next_4 rfl 0 rfl ?_
      refine vv_iload_n fx nd_FB_next_5 rfl 1 rfl ?_
      exact vv_callVxv (C := nr_FB) (T := nt_FB) (N := 6) (ci := 0) fx htab (cc_FB_requireMap1 l Y M U o h hst hm) nm_FB_78 ns_FB_requireMap nv_FB_requireMap nz_FB nc_FB_requireMap ni_FB_requireMap 0 rfl rfl ⟨rfl, rfl, by decide, by decide⟩ ⟨(Nat.le_of_ble_eq_true rfl), (Nat.le_of_ble_eq_true rfl)⟩ (Nat.le_of_ble_eq_true rfl) nd_FB_next_6 rfl (fun _ => ⟨rfl, rfl, rfl, rfl⟩) (Nat.le_of_ble_eq_true rfl) (Nat.le_of_ble_eq_true rfl) (fun z => absurd z (by decide))
    · have hm : fb_ism M h = true := by cases q : fb_ism M h with | false => exact absurd q hm | true => rfl
      refine vv_aload_n fx nd_FB_next_4 rfl 0 rfl ?_
      refine vv_iload_n fx nd_FB_next_5 rfl 1 rfl ?_
      refine vv_callVv (C := nr_FB) (T := nt_FB) (N := 6) (ci := 0) fx (cc_FB_requireMap0 l Y M U o h hm) nm_FB_78 ns_FB_requireMap nv_FB_requireMap nz_FB nc_FB_requireMap ni_FB_requireMap 0 rfl rfl ⟨rfl, rfl, by decide, by decide⟩ ⟨Nat.le_of_ble_eq_true rfl, Nat.le_of_ble_eq_true rfl⟩ (Nat.le_of_ble_eq_true rfl) nd_FB_next_6 rfl ?_
      obtain ⟨hn, hn7, rfl, hne⟩ := fb_ism_nat hm
      obtain ⟨hnr, hnw⟩ := rf_rootw hI hn7 hne
      have ecl : (nI hn).toNatClampNeg = hn := nI_clamp (by omega)
      rw [show fb_next M (nI hn) k = (0, fb_nx (fb_bd M (fb_r M hn)) 64 k.toNatClampNeg, M) from ((if_neg h5).trans (if_neg (by rw [hm]; decide))).trans (by rw [ecl])]
      have hk31 : k.toNatClampNeg < 2 ^ 31 := by have := k.toInt_lt; show k.toInt.toNat < _; omega
      refine vv_iload_n fx nd_FB_next_9 rfl 2 rfl ?_
      refine vv_iconst (v := nI 0) fx nd_FB_next_10 (by decide) ?_
      refine vv_mmax fx nm_FB_82 (Nat.le_of_ble_eq_true rfl) (Nat.le_of_ble_eq_true rfl) (Nat.zero_le _) (Nat.zero_le _) nd_FB_next_11 ?_
      refine vv_top (y := nI k.toNatClampNeg) (fb_max k) ?_
      refine vv_istore_n (L' := [(0, .ref (Y.2.1 0)), (1, .int (nI hn)), (2, .int k), (3, .int (nI k.toNatClampNeg))]) fx nd_FB_next_14 rfl (by decide) [1, 2, 3, 0] rfl ?_
      have loop : ∀ f i, 64 ≤ i + f → i < 2 ^ 31 → fb_nx (fb_bd M (fb_r M hn)) f i = fb_nx (fb_bd M (fb_r M hn)) 64 k.toNatClampNeg → vv p l e { frames := 7, cells := 1, slots := 6, locals := 103 } s m args below meth c 0 0 (vx_MQ below (ct_Xi Y 0 (fb_nx (fb_bd M (fb_r M hn)) 64 k.toNatClampNeg) M U o) (ct_XC Y 0 M U o) args s 1 6 Y.2.2.2) 4 Y M U o 15 [(0, .ref (Y.2.1 0)), (1, .int (nI hn)), (2, .int k), (3, .int (nI i))] [] := by
        intro f
        induction f with
        | zero =>
          intro i hi h31 he
          refine vv_iload_n fx nd_FB_next_15 rfl 3 rfl ?_
          refine vv_bipush (v := nI 64) fx nd_FB_next_16 (by decide) ?_
          refine vv_icmp_ge (tgt := 46) fx nd_FB_next_18 (by decide) (fun _ => ?_) (fun hb => absurd (nI_le (by omega) h31) hb)
          refine vv_iconst (v := -1) fx nd_FB_next_46 (by decide) ?_
          exact vv_ixret fx rfl nd_FB_next_47 (rfl) (he) (Nat.le_of_ble_eq_true rfl) (Nat.le_of_ble_eq_true rfl)
        | succ f ih =>
          intro i hi h31 he
          have ex : fb_nx (fb_bd M (fb_r M hn)) (f + 1) i = if i < 64 then (if fb_bd M (fb_r M hn) i = true then nI i else fb_nx (fb_bd M (fb_r M hn)) f (i + 1)) else -1 := rfl
          refine vv_iload_n fx nd_FB_next_15 rfl 3 rfl ?_
          refine vv_bipush (v := nI 64) fx nd_FB_next_16 (by decide) ?_
          refine vv_icmp_ge (tgt := 46) fx nd_FB_next_18 (by decide) (fun hb18 => ?_) (fun hb18 => ?_)
          · have hge : ¬ i < 64 := fun q => absurd hb18 (nI_ge q (by decide))
            refine vv_iconst (v := -1) fx nd_FB_next_46 (by decide) ?_
            exact vv_ixret fx rfl nd_FB_next_47 (rfl) (by rw [← he, ex, if_neg hge]) (Nat.le_of_ble_eq_true rfl) (Nat.le_of_ble_eq_true rfl)
          · have hlt : i < 64 := by apply Classical.byContradiction; intro q; exact hb18 (nI_le (by omega) h31)
            refine vv_aload_n fx nd_FB_next_21 rfl 0 rfl ?_
            refine vv_get (ci := 0) (C := nr_FB) (T := nt_FB) (N := 6) fx nt_FB_in 0 rfl rfl 0 (by decide) nf_FB_10 rfl nd_FB_next_22 ?_
            refine vv_aload_n fx nd_FB_next_25 rfl 0 rfl ?_
            refine vv_get (ci := 0) (C := nr_FB) (T := nt_FB) (N := 6) fx nt_FB_in 0 rfl rfl 1 (by decide) nf_FB_16 rfl nd_FB_next_26 ?_
            refine vv_iload_n fx nd_FB_next_29 rfl 1 rfl ?_
            refine vv_iald fx 2 0 rfl rfl (hn7) (by decide) nd_FB_next_30 ?_
            refine vv_top (y := nI (fb_r M hn)) (hnr) ?_
            refine vv_iload_n fx nd_FB_next_31 rfl 3 rfl ?_
            refine vv_callVi (C := nr_RM) (T := nt_RM) (N := 4) (ci := 1) fx (cc_RM_binds l Y M U o (fb_r M hn) i hlt (fb_wfp hnw) (fb_wfq hnw)) nm_FB_53 ns_RM_binds nv_RM_binds nz_RM nc_RM_binds ni_RM_binds 1 rfl rfl ⟨rfl, rfl, by decide, by decide⟩ ⟨Nat.le_of_ble_eq_true rfl, Nat.le_of_ble_eq_true rfl⟩ (Nat.le_of_ble_eq_true rfl) nd_FB_next_32 rfl ?_
            refine vv_if_eq (tgt := 40) fx nd_FB_next_35 (by decide) (fun hb35 => ?_) (fun hb35 => ?_)
            · refine vv_iinc (v := nI (i + 1)) (L' := [(0, .ref (Y.2.1 0)), (1, .int (nI hn)), (2, .int k), (3, .int (nI (i + 1)))]) fx nd_FB_next_40 3 rfl (nI_1 i) (by decide) [1, 2, 3, 0] rfl ?_
              refine vv_goto (tgt := 15) fx nd_FB_next_43 (by decide) ?_
              exact ih (i + 1) (by omega) (by omega) (by rw [← he, ex, if_pos hlt, if_neg (by rw [b01_0 hb35]; decide)])
            · refine vv_iload_n fx nd_FB_next_38 rfl 3 rfl ?_
              exact vv_ixret fx rfl nd_FB_next_39 (rfl) (by rw [← he, ex, if_pos hlt, if_pos (b01_1 hb35)]) (Nat.le_of_ble_eq_true rfl) (Nat.le_of_ble_eq_true rfl)
      exact loop 64 k.toNatClampNeg (by omega) hk31 rfl
set_option maxRecDepth 4000 in
theorem cc_FB_count (l : Launch) (Y : sy_Y) (M U : me_M) (o : Int64) (h : Int32) {N : Nat} (hst : l.stackTraces = false) (hI : rf_I M U N) : ct_IX l ny_FB_count nb_FB_count 2 (some .int) { frames := 7, cells := 1, slots := 6, locals := 103 } Y [.ref (Y.2.1 0), .int h] M U o ((fb_count M h).1) ((fb_count M h).2.1) ((fb_count M h).2.2) U o 1 6 := by
  refine ct_bodyX (own := nr_FB) (L0 := [(0, .ref (Y.2.1 0)), (1, .int h)]) (by decide) rfl (Nat.le_of_ble_eq_true rfl) rfl ?_
  intro p e s m args below meth c fx htab
  by_cases h5 : M 5 0 ≠ 0
  · rw [show fb_count M h = (1, 0, M) from if_pos h5]
    refine vv_aload_n fx nd_FB_count_0 rfl 0 rfl ?_
    exact vv_callVxv (C := nr_FB) (T := nt_FB) (N := 6) (ci := 0) fx htab (cc_FB_requireUp1 l Y M U o hst h5) nm_FB_39 ns_FB_requireUp nv_FB_requireUp nz_FB nc_FB_requireUp ni_FB_requireUp 0 rfl rfl ⟨rfl, rfl, by decide, by decide⟩ ⟨(Nat.le_of_ble_eq_true rfl), (Nat.le_of_ble_eq_true rfl)⟩ (Nat.le_of_ble_eq_true rfl) nd_FB_count_1 rfl (fun _ => ⟨rfl, rfl, rfl, rfl⟩) (Nat.le_of_ble_eq_true rfl) (Nat.le_of_ble_eq_true rfl) (fun z => absurd z (by decide))
  · refine vv_aload_n fx nd_FB_count_0 rfl 0 rfl ?_
    refine vv_callVv (C := nr_FB) (T := nt_FB) (N := 6) (ci := 0) fx (cc_FB_requireUp0 l Y M U o (Classical.not_not.mp h5)) nm_FB_39 ns_FB_requireUp nv_FB_requireUp nz_FB nc_FB_requireUp ni_FB_requireUp 0 rfl rfl ⟨rfl, rfl, by decide, by decide⟩ ⟨Nat.le_of_ble_eq_true rfl, Nat.le_of_ble_eq_true rfl⟩ (Nat.le_of_ble_eq_true rfl) nd_FB_count_1 rfl ?_
    by_cases hm : fb_ism M h = false
    · rw [show fb_count M h = (2, 0, M) from (if_neg h5).trans (if_pos hm)]
      refine vv_aload_n fx nd_FB_count_4 rfl 0 rfl ?_
      refine vv_iload_n fx nd_FB_count_5 rfl 1 rfl ?_
      exact vv_callVxv (C := nr_FB) (T := nt_FB) (N := 6) (ci := 0) fx htab (cc_FB_requireMap1 l Y M U o h hst hm) nm_FB_78 ns_FB_requireMap nv_FB_requireMap nz_FB nc_FB_requireMap ni_FB_requireMap 0 rfl rfl ⟨rfl, rfl, by decide, by decide⟩ ⟨(Nat.le_of_ble_eq_true rfl), (Nat.le_of_ble_eq_true rfl)⟩ (Nat.le_of_ble_eq_true rfl) nd_FB_count_6 rfl (fun _ => ⟨rfl, rfl, rfl, rfl⟩) (Nat.le_of_ble_eq_true rfl) (Nat.le_of_ble_eq_true rfl) (fun z => absurd z (by decide))
    · have hm : fb_ism M h = true := by cases q : fb_ism M h with | false => exact absurd q hm | true => rfl
      refine vv_aload_n fx nd_FB_count_4 rfl 0 rfl ?_
      refine vv_iload_n fx nd_FB_count_5 rfl 1 rfl ?_
      refine vv_callVv (C := nr_FB) (T := nt_FB) (N := 6) (ci := 0) fx (cc_FB_requireMap0 l Y M U o h hm) nm_FB_78 ns_FB_requireMap nv_FB_requireMap nz_FB nc_FB_requireMap ni_FB_requireMap 0 rfl rfl ⟨rfl, rfl, by decide, by decide⟩ ⟨Nat.le_of_ble_eq_true rfl, Nat.le_of_ble_eq_true rfl⟩ (Nat.le_of_ble_eq_true rfl) nd_FB_count_6 rfl ?_
      obtain ⟨hn, hn7, rfl, hne⟩ := fb_ism_nat hm
      obtain ⟨hnr, hnw⟩ := rf_rootw hI hn7 hne
      have ecl : (nI hn).toNatClampNeg = hn := nI_clamp (by omega)
      rw [show fb_count M (nI hn) = (0, nI (fb_kb M (fb_r M hn)), M) from ((if_neg h5).trans (if_neg (by rw [hm]; decide))).trans (by rw [ecl])]
      refine vv_aload_n fx nd_FB_count_9 rfl 0 rfl ?_
      refine vv_aload_n fx nd_FB_count_10 rfl 0 rfl ?_
      refine vv_get (ci := 0) (C := nr_FB) (T := nt_FB) (N := 6) fx nt_FB_in 0 rfl rfl 1 (by decide) nf_FB_16 rfl nd_FB_count_11 ?_
      refine vv_iload_n fx nd_FB_count_14 rfl 1 rfl ?_
      refine vv_iald fx 2 0 rfl rfl (hn7) (by decide) nd_FB_count_15 ?_
      refine vv_top (y := nI (fb_r M hn)) (hnr) ?_
      refine vv_callVi (C := nr_FB) (T := nt_FB) (N := 6) (ci := 0) fx (cc_FB_keysBound l Y M U o (fb_r M hn) hnw) nm_FB_87 ns_FB_keysBound nv_FB_keysBound nz_FB nc_FB_keysBound ni_FB_keysBound 0 rfl rfl ⟨rfl, rfl, by decide, by decide⟩ ⟨Nat.le_of_ble_eq_true rfl, Nat.le_of_ble_eq_true rfl⟩ (Nat.le_of_ble_eq_true rfl) nd_FB_count_16 rfl ?_
      exact vv_ixret fx rfl nd_FB_count_19 (rfl) (rfl) (Nat.le_of_ble_eq_true rfl) (Nat.le_of_ble_eq_true rfl)
set_option maxRecDepth 4000 in
theorem cc_FB_nodes (l : Launch) (Y : sy_Y) (M U : me_M) (o : Int64) (h : Int32) {N : Nat} (hst : l.stackTraces = false) (hI : rf_I M U N) : ct_IX l ny_FB_nodes nb_FB_nodes 2 (some .int) { frames := 7, cells := 1, slots := 6, locals := 103 } Y [.ref (Y.2.1 0), .int h] M U o ((fb_nodes M h).1) ((fb_nodes M h).2.1) ((fb_nodes M h).2.2) U o 1 6 := by
  refine ct_bodyX (own := nr_FB) (L0 := [(0, .ref (Y.2.1 0)), (1, .int h)]) (by decide) rfl (Nat.le_of_ble_eq_true rfl) rfl ?_
  intro p e s m args below meth c fx htab
  by_cases h5 : M 5 0 ≠ 0
  · rw [show fb_nodes M h = (1, 0, M) from if_pos h5]
    refine vv_aload_n fx nd_FB_nodes_0 rfl 0 rfl ?_
    exact vv_callVxv (C := nr_FB) (T := nt_FB) (N := 6) (ci := 0) fx htab (cc_FB_requireUp1 l Y M U o hst h5) nm_FB_39 ns_FB_requireUp nv_FB_requireUp nz_FB nc_FB_requireUp ni_FB_requireUp 0 rfl rfl ⟨rfl, rfl, by decide, by decide⟩ ⟨(Nat.le_of_ble_eq_true rfl), (Nat.le_of_ble_eq_true rfl)⟩ (Nat.le_of_ble_eq_true rfl) nd_FB_nodes_1 rfl (fun _ => ⟨rfl, rfl, rfl, rfl⟩) (Nat.le_of_ble_eq_true rfl) (Nat.le_of_ble_eq_true rfl) (fun z => absurd z (by decide))
  · refine vv_aload_n fx nd_FB_nodes_0 rfl 0 rfl ?_
    refine vv_callVv (C := nr_FB) (T := nt_FB) (N := 6) (ci := 0) fx (cc_FB_requireUp0 l Y M U o (Classical.not_not.mp h5)) nm_FB_39 ns_FB_requireUp nv_FB_requireUp nz_FB nc_FB_requireUp ni_FB_requireUp 0 rfl rfl ⟨rfl, rfl, by decide, by decide⟩ ⟨Nat.le_of_ble_eq_true rfl, Nat.le_of_ble_eq_true rfl⟩ (Nat.le_of_ble_eq_true rfl) nd_FB_nodes_1 rfl ?_
    by_cases hm : fb_ism M h = false
    · rw [show fb_nodes M h = (2, 0, M) from (if_neg h5).trans (if_pos hm)]
      refine vv_aload_n fx nd_FB_nodes_4 rfl 0 rfl ?_
      refine vv_iload_n fx nd_FB_nodes_5 rfl 1 rfl ?_
      exact vv_callVxv (C := nr_FB) (T := nt_FB) (N := 6) (ci := 0) fx htab (cc_FB_requireMap1 l Y M U o h hst hm) nm_FB_78 ns_FB_requireMap nv_FB_requireMap nz_FB nc_FB_requireMap ni_FB_requireMap 0 rfl rfl ⟨rfl, rfl, by decide, by decide⟩ ⟨(Nat.le_of_ble_eq_true rfl), (Nat.le_of_ble_eq_true rfl)⟩ (Nat.le_of_ble_eq_true rfl) nd_FB_nodes_6 rfl (fun _ => ⟨rfl, rfl, rfl, rfl⟩) (Nat.le_of_ble_eq_true rfl) (Nat.le_of_ble_eq_true rfl) (fun z => absurd z (by decide))
    · have hm : fb_ism M h = true := by cases q : fb_ism M h with | false => exact absurd q hm | true => rfl
      refine vv_aload_n fx nd_FB_nodes_4 rfl 0 rfl ?_
      refine vv_iload_n fx nd_FB_nodes_5 rfl 1 rfl ?_
      refine vv_callVv (C := nr_FB) (T := nt_FB) (N := 6) (ci := 0) fx (cc_FB_requireMap0 l Y M U o h hm) nm_FB_78 ns_FB_requireMap nv_FB_requireMap nz_FB nc_FB_requireMap ni_FB_requireMap 0 rfl rfl ⟨rfl, rfl, by decide, by decide⟩ ⟨Nat.le_of_ble_eq_true rfl, Nat.le_of_ble_eq_true rfl⟩ (Nat.le_of_ble_eq_true rfl) nd_FB_nodes_6 rfl ?_
      obtain ⟨hn, hn7, rfl, hne⟩ := fb_ism_nat hm
      obtain ⟨hnr, hnw⟩ := rf_rootw hI hn7 hne
      have ecl : (nI hn).toNatClampNeg = hn := nI_clamp (by omega)
      rw [show fb_nodes M (nI hn) = (0, nI (fb_mark (fb_unmark M) (fb_r M hn)).1, (fb_mark (fb_unmark M) (fb_r M hn)).2) from ((if_neg h5).trans (if_neg (by rw [hm]; decide))).trans (by rw [ecl])]
      have w1 : fb_wf (fb_unmark M) (fb_r M hn) := fb_wf_of (fun x => fb_unmark_n M (by omega)) hnw
      refine vv_aload_n fx nd_FB_nodes_9 rfl 0 rfl ?_
      refine vv_get (ci := 0) (C := nr_FB) (T := nt_FB) (N := 6) fx nt_FB_in 0 rfl rfl 0 (by decide) nf_FB_10 rfl nd_FB_nodes_10 ?_
      refine vv_callVv (C := nr_RM) (T := nt_RM) (N := 4) (ci := 1) fx (cc_RM_unmarkAll l Y M U o) nm_FB_91 ns_RM_unmarkAll nv_RM_unmarkAll nz_RM nc_RM_unmarkAll ni_RM_unmarkAll 1 rfl rfl ⟨rfl, rfl, by decide, by decide⟩ ⟨Nat.le_of_ble_eq_true rfl, Nat.le_of_ble_eq_true rfl⟩ (Nat.le_of_ble_eq_true rfl) nd_FB_nodes_13 rfl ?_
      refine vv_aload_n fx nd_FB_nodes_16 rfl 0 rfl ?_
      refine vv_get (ci := 0) (C := nr_FB) (T := nt_FB) (N := 6) fx nt_FB_in 0 rfl rfl 0 (by decide) nf_FB_10 rfl nd_FB_nodes_17 ?_
      refine vv_aload_n fx nd_FB_nodes_20 rfl 0 rfl ?_
      refine vv_get (ci := 0) (C := nr_FB) (T := nt_FB) (N := 6) fx nt_FB_in 0 rfl rfl 1 (by decide) nf_FB_16 rfl nd_FB_nodes_21 ?_
      refine vv_iload_n fx nd_FB_nodes_24 rfl 1 rfl ?_
      refine vv_iald fx 2 0 rfl rfl (hn7) (by decide) nd_FB_nodes_25 ?_
      refine vv_top (y := nI (fb_r M hn)) (by rw [fb_unmark_n M (by decide)]; exact hnr) ?_
      refine vv_callVi (C := nr_RM) (T := nt_RM) (N := 4) (ci := 1) fx (cc_RM_mark l Y (fb_unmark M) U o (fb_r M hn) (fb_wfr w1) (fun k _ => fb_wfp w1) (fun k _ => (fb_pk_wf w1 k).2)) nm_FB_94 ns_RM_mark nv_RM_mark nz_RM nc_RM_mark ni_RM_mark 1 rfl rfl ⟨rfl, rfl, by decide, by decide⟩ ⟨Nat.le_of_ble_eq_true rfl, Nat.le_of_ble_eq_true rfl⟩ (Nat.le_of_ble_eq_true rfl) nd_FB_nodes_26 rfl ?_
      exact vv_ixret fx rfl nd_FB_nodes_29 (rfl) (rfl) (Nat.le_of_ble_eq_true rfl) (Nat.le_of_ble_eq_true rfl)
set_option maxRecDepth 4000 in
theorem cc_FB_shared (l : Launch) (Y : sy_Y) (M U : me_M) (o : Int64) (a b : Int32) {N : Nat} (hst : l.stackTraces = false) (hI : rf_I M U N) : ct_IX l ny_FB_shared nb_FB_shared 5 (some .int) { frames := 7, cells := 1, slots := 6, locals := 103 } Y [.ref (Y.2.1 0), .int a, .int b] M U o ((fb_shared M a b).1) ((fb_shared M a b).2.1) ((fb_shared M a b).2.2) U o 1 6 := by
  refine ct_bodyX (own := nr_FB) (L0 := [(0, .ref (Y.2.1 0)), (1, .int a), (2, .int b)]) (by decide) rfl (Nat.le_of_ble_eq_true rfl) rfl ?_
  intro p e s m args below meth c fx htab
  by_cases h5 : M 5 0 ≠ 0
  · rw [show fb_shared M a b = (1, 0, M) from if_pos h5]
    refine vv_aload_n fx nd_FB_shared_0 rfl 0 rfl ?_
    exact vv_callVxv (C := nr_FB) (T := nt_FB) (N := 6) (ci := 0) fx htab (cc_FB_requireUp1 l Y M U o hst h5) nm_FB_39 ns_FB_requireUp nv_FB_requireUp nz_FB nc_FB_requireUp ni_FB_requireUp 0 rfl rfl ⟨rfl, rfl, by decide, by decide⟩ ⟨(Nat.le_of_ble_eq_true rfl), (Nat.le_of_ble_eq_true rfl)⟩ (Nat.le_of_ble_eq_true rfl) nd_FB_shared_1 rfl (fun _ => ⟨rfl, rfl, rfl, rfl⟩) (Nat.le_of_ble_eq_true rfl) (Nat.le_of_ble_eq_true rfl) (fun z => absurd z (by decide))
  · refine vv_aload_n fx nd_FB_shared_0 rfl 0 rfl ?_
    refine vv_callVv (C := nr_FB) (T := nt_FB) (N := 6) (ci := 0) fx (cc_FB_requireUp0 l Y M U o (Classical.not_not.mp h5)) nm_FB_39 ns_FB_requireUp nv_FB_requireUp nz_FB nc_FB_requireUp ni_FB_requireUp 0 rfl rfl ⟨rfl, rfl, by decide, by decide⟩ ⟨Nat.le_of_ble_eq_true rfl, Nat.le_of_ble_eq_true rfl⟩ (Nat.le_of_ble_eq_true rfl) nd_FB_shared_1 rfl ?_
    by_cases ha : fb_ism M a = false
    · rw [show fb_shared M a b = (2, 0, M) from (if_neg h5).trans (if_pos (by rw [ha]; rfl))]
      refine vv_aload_n fx nd_FB_shared_4 rfl 0 rfl ?_
      refine vv_iload_n fx nd_FB_shared_5 rfl 1 rfl ?_
      exact vv_callVxv (C := nr_FB) (T := nt_FB) (N := 6) (ci := 0) fx htab (cc_FB_requireMap1 l Y M U o a hst ha) nm_FB_78 ns_FB_requireMap nv_FB_requireMap nz_FB nc_FB_requireMap ni_FB_requireMap 0 rfl rfl ⟨rfl, rfl, by decide, by decide⟩ ⟨(Nat.le_of_ble_eq_true rfl), (Nat.le_of_ble_eq_true rfl)⟩ (Nat.le_of_ble_eq_true rfl) nd_FB_shared_6 rfl (fun _ => ⟨rfl, rfl, rfl, rfl⟩) (Nat.le_of_ble_eq_true rfl) (Nat.le_of_ble_eq_true rfl) (fun z => absurd z (by decide))
    · have ha : fb_ism M a = true := by cases q : fb_ism M a with | false => exact absurd q ha | true => rfl
      refine vv_aload_n fx nd_FB_shared_4 rfl 0 rfl ?_
      refine vv_iload_n fx nd_FB_shared_5 rfl 1 rfl ?_
      refine vv_callVv (C := nr_FB) (T := nt_FB) (N := 6) (ci := 0) fx (cc_FB_requireMap0 l Y M U o a ha) nm_FB_78 ns_FB_requireMap nv_FB_requireMap nz_FB nc_FB_requireMap ni_FB_requireMap 0 rfl rfl ⟨rfl, rfl, by decide, by decide⟩ ⟨Nat.le_of_ble_eq_true rfl, Nat.le_of_ble_eq_true rfl⟩ (Nat.le_of_ble_eq_true rfl) nd_FB_shared_6 rfl ?_
      by_cases hb : fb_ism M b = false
      · rw [show fb_shared M a b = (2, 0, M) from (if_neg h5).trans (if_pos (by rw [hb, Bool.and_false]))]
        refine vv_aload_n fx nd_FB_shared_9 rfl 0 rfl ?_
        refine vv_iload_n fx nd_FB_shared_10 rfl 2 rfl ?_
        exact vv_callVxv (C := nr_FB) (T := nt_FB) (N := 6) (ci := 0) fx htab (cc_FB_requireMap1 l Y M U o b hst hb) nm_FB_78 ns_FB_requireMap nv_FB_requireMap nz_FB nc_FB_requireMap ni_FB_requireMap 0 rfl rfl ⟨rfl, rfl, by decide, by decide⟩ ⟨(Nat.le_of_ble_eq_true rfl), (Nat.le_of_ble_eq_true rfl)⟩ (Nat.le_of_ble_eq_true rfl) nd_FB_shared_11 rfl (fun _ => ⟨rfl, rfl, rfl, rfl⟩) (Nat.le_of_ble_eq_true rfl) (Nat.le_of_ble_eq_true rfl) (fun z => absurd z (by decide))
      · have hb : fb_ism M b = true := by cases q : fb_ism M b with | false => exact absurd q hb | true => rfl
        refine vv_aload_n fx nd_FB_shared_9 rfl 0 rfl ?_
        refine vv_iload_n fx nd_FB_shared_10 rfl 2 rfl ?_
        refine vv_callVv (C := nr_FB) (T := nt_FB) (N := 6) (ci := 0) fx (cc_FB_requireMap0 l Y M U o b hb) nm_FB_78 ns_FB_requireMap nv_FB_requireMap nz_FB nc_FB_requireMap ni_FB_requireMap 0 rfl rfl ⟨rfl, rfl, by decide, by decide⟩ ⟨Nat.le_of_ble_eq_true rfl, Nat.le_of_ble_eq_true rfl⟩ (Nat.le_of_ble_eq_true rfl) nd_FB_shared_11 rfl ?_
        obtain ⟨an, an7, rfl, ane⟩ := fb_ism_nat ha
        obtain ⟨anr, anw⟩ := rf_rootw hI an7 ane
        obtain ⟨bn, bn7, rfl, bne⟩ := fb_ism_nat hb
        obtain ⟨bnr, bnw⟩ := rf_rootw hI bn7 bne
        have ea : (nI an).toNatClampNeg = an := nI_clamp (by omega)
        have eb : (nI bn).toNatClampNeg = bn := nI_clamp (by omega)
        have hab : ¬ (fb_ism M (nI an) && fb_ism M (nI bn)) = false := by rw [ha, hb]; decide
        rw [show fb_shared M (nI an) (nI bn) = (0, nI (fb_mark (fb_unmark M) (fb_r M bn)).1 - nI (fb_mark (fb_mark (fb_unmark (fb_mark (fb_unmark M) (fb_r M bn)).2) (fb_r M an)).2 (fb_r M bn)).1, (fb_mark (fb_mark (fb_unmark (fb_mark (fb_unmark M) (fb_r M bn)).2) (fb_r M an)).2 (fb_r M bn)).2) from ((if_neg h5).trans (if_neg hab)).trans (by rw [ea, eb]; rfl)]
        have n1 : ∀ {x : Nat}, x ≠ 2 → (fb_unmark M) x = M x := fun h => fb_unmark_n M h
        have n2 : ∀ {x : Nat}, x ≠ 2 → (fb_mark (fb_unmark M) (fb_r M bn)).2 x = M x := fun h => (fb_mark_n _ _ h).trans (n1 h)
        have n3 : ∀ {x : Nat}, x ≠ 2 → (fb_unmark (fb_mark (fb_unmark M) (fb_r M bn)).2) x = M x := fun h => (fb_unmark_n _ h).trans (n2 h)
        have n4 : ∀ {x : Nat}, x ≠ 2 → (fb_mark (fb_unmark (fb_mark (fb_unmark M) (fb_r M bn)).2) (fb_r M an)).2 x = M x := fun h => (fb_mark_n _ _ h).trans (n3 h)
        have w1 : fb_wf (fb_unmark M) (fb_r M bn) := fb_wf_of (fun x => n1 (by omega)) bnw
        have w2 : fb_wf (fb_unmark (fb_mark (fb_unmark M) (fb_r M bn)).2) (fb_r M an) := fb_wf_of (fun x => n3 (by omega)) anw
        have w3 : fb_wf (fb_mark (fb_unmark (fb_mark (fb_unmark M) (fb_r M bn)).2) (fb_r M an)).2 (fb_r M bn) := fb_wf_of (fun x => n4 (by omega)) bnw
        refine vv_aload_n fx nd_FB_shared_14 rfl 0 rfl ?_
        refine vv_get (ci := 0) (C := nr_FB) (T := nt_FB) (N := 6) fx nt_FB_in 0 rfl rfl 0 (by decide) nf_FB_10 rfl nd_FB_shared_15 ?_
        refine vv_callVv (C := nr_RM) (T := nt_RM) (N := 4) (ci := 1) fx (cc_RM_unmarkAll l Y M U o) nm_FB_91 ns_RM_unmarkAll nv_RM_unmarkAll nz_RM nc_RM_unmarkAll ni_RM_unmarkAll 1 rfl rfl ⟨rfl, rfl, by decide, by decide⟩ ⟨Nat.le_of_ble_eq_true rfl, Nat.le_of_ble_eq_true rfl⟩ (Nat.le_of_ble_eq_true rfl) nd_FB_shared_18 rfl ?_
        refine vv_aload_n fx nd_FB_shared_21 rfl 0 rfl ?_
        refine vv_get (ci := 0) (C := nr_FB) (T := nt_FB) (N := 6) fx nt_FB_in 0 rfl rfl 0 (by decide) nf_FB_10 rfl nd_FB_shared_22 ?_
        refine vv_aload_n fx nd_FB_shared_25 rfl 0 rfl ?_
        refine vv_get (ci := 0) (C := nr_FB) (T := nt_FB) (N := 6) fx nt_FB_in 0 rfl rfl 1 (by decide) nf_FB_16 rfl nd_FB_shared_26 ?_
        refine vv_iload_n fx nd_FB_shared_29 rfl 2 rfl ?_
        refine vv_iald fx 2 0 rfl rfl (bn7) (by decide) nd_FB_shared_30 ?_
        refine vv_top (y := nI (fb_r M bn)) (by rw [n1 (by decide)]; exact bnr) ?_
        refine vv_callVi (C := nr_RM) (T := nt_RM) (N := 4) (ci := 1) fx (cc_RM_mark l Y ((fb_unmark M)) U o (fb_r M bn) (fb_wfr w1) (fun k _ => fb_wfp w1) (fun k _ => (fb_pk_wf w1 k).2)) nm_FB_94 ns_RM_mark nv_RM_mark nz_RM nc_RM_mark ni_RM_mark 1 rfl rfl ⟨rfl, rfl, by decide, by decide⟩ ⟨Nat.le_of_ble_eq_true rfl, Nat.le_of_ble_eq_true rfl⟩ (Nat.le_of_ble_eq_true rfl) nd_FB_shared_31 rfl ?_
        refine vv_istore_n (L' := [(0, .ref (Y.2.1 0)), (1, .int (nI an)), (2, .int (nI bn)), (3, .int (nI (fb_mark (fb_unmark M) (fb_r M bn)).1))]) fx nd_FB_shared_34 rfl (by decide) [1, 2, 3, 0] rfl ?_
        refine vv_aload_n fx nd_FB_shared_35 rfl 0 rfl ?_
        refine vv_get (ci := 0) (C := nr_FB) (T := nt_FB) (N := 6) fx nt_FB_in 0 rfl rfl 0 (by decide) nf_FB_10 rfl nd_FB_shared_36 ?_
        refine vv_callVv (C := nr_RM) (T := nt_RM) (N := 4) (ci := 1) fx (cc_RM_unmarkAll l Y (fb_mark (fb_unmark M) (fb_r M bn)).2 U o) nm_FB_91 ns_RM_unmarkAll nv_RM_unmarkAll nz_RM nc_RM_unmarkAll ni_RM_unmarkAll 1 rfl rfl ⟨rfl, rfl, by decide, by decide⟩ ⟨Nat.le_of_ble_eq_true rfl, Nat.le_of_ble_eq_true rfl⟩ (Nat.le_of_ble_eq_true rfl) nd_FB_shared_39 rfl ?_
        refine vv_aload_n fx nd_FB_shared_42 rfl 0 rfl ?_
        refine vv_get (ci := 0) (C := nr_FB) (T := nt_FB) (N := 6) fx nt_FB_in 0 rfl rfl 0 (by decide) nf_FB_10 rfl nd_FB_shared_43 ?_
        refine vv_aload_n fx nd_FB_shared_46 rfl 0 rfl ?_
        refine vv_get (ci := 0) (C := nr_FB) (T := nt_FB) (N := 6) fx nt_FB_in 0 rfl rfl 1 (by decide) nf_FB_16 rfl nd_FB_shared_47 ?_
        refine vv_iload_n fx nd_FB_shared_50 rfl 1 rfl ?_
        refine vv_iald fx 2 0 rfl rfl (an7) (by decide) nd_FB_shared_51 ?_
        refine vv_top (y := nI (fb_r M an)) (by rw [n3 (by decide)]; exact anr) ?_
        refine vv_callVi (C := nr_RM) (T := nt_RM) (N := 4) (ci := 1) fx (cc_RM_mark l Y ((fb_unmark (fb_mark (fb_unmark M) (fb_r M bn)).2)) U o (fb_r M an) (fb_wfr w2) (fun k _ => fb_wfp w2) (fun k _ => (fb_pk_wf w2 k).2)) nm_FB_94 ns_RM_mark nv_RM_mark nz_RM nc_RM_mark ni_RM_mark 1 rfl rfl ⟨rfl, rfl, by decide, by decide⟩ ⟨Nat.le_of_ble_eq_true rfl, Nat.le_of_ble_eq_true rfl⟩ (Nat.le_of_ble_eq_true rfl) nd_FB_shared_52 rfl ?_
        refine vv_pop fx nd_FB_shared_55 rfl ?_
        refine vv_aload_n fx nd_FB_shared_56 rfl 0 rfl ?_
        refine vv_get (ci := 0) (C := nr_FB) (T := nt_FB) (N := 6) fx nt_FB_in 0 rfl rfl 0 (by decide) nf_FB_10 rfl nd_FB_shared_57 ?_
        refine vv_aload_n fx nd_FB_shared_60 rfl 0 rfl ?_
        refine vv_get (ci := 0) (C := nr_FB) (T := nt_FB) (N := 6) fx nt_FB_in 0 rfl rfl 1 (by decide) nf_FB_16 rfl nd_FB_shared_61 ?_
        refine vv_iload_n fx nd_FB_shared_64 rfl 2 rfl ?_
        refine vv_iald fx 2 0 rfl rfl (bn7) (by decide) nd_FB_shared_65 ?_
        refine vv_top (y := nI (fb_r M bn)) (by rw [n4 (by decide)]; exact bnr) ?_
        refine vv_callVi (C := nr_RM) (T := nt_RM) (N := 4) (ci := 1) fx (cc_RM_mark l Y ((fb_mark (fb_unmark (fb_mark (fb_unmark M) (fb_r M bn)).2) (fb_r M an)).2) U o (fb_r M bn) (fb_wfr w3) (fun k _ => fb_wfp w3) (fun k _ => (fb_pk_wf w3 k).2)) nm_FB_94 ns_RM_mark nv_RM_mark nz_RM nc_RM_mark ni_RM_mark 1 rfl rfl ⟨rfl, rfl, by decide, by decide⟩ ⟨Nat.le_of_ble_eq_true rfl, Nat.le_of_ble_eq_true rfl⟩ (Nat.le_of_ble_eq_true rfl) nd_FB_shared_66 rfl ?_
        refine vv_istore (L' := [(0, .ref (Y.2.1 0)), (1, .int (nI an)), (2, .int (nI bn)), (3, .int (nI (fb_mark (fb_unmark M) (fb_r M bn)).1)), (4, .int (nI (fb_mark (fb_mark (fb_unmark (fb_mark (fb_unmark M) (fb_r M bn)).2) (fb_r M an)).2 (fb_r M bn)).1))]) fx nd_FB_shared_69 (by decide) [1, 2, 3, 4, 0] rfl ?_
        refine vv_iload_n fx nd_FB_shared_71 rfl 3 rfl ?_
        refine vv_iload fx nd_FB_shared_72 4 rfl ?_
        refine vv_isub fx nd_FB_shared_74 ?_
        exact vv_ixret fx rfl nd_FB_shared_75 (rfl) (rfl) (Nat.le_of_ble_eq_true rfl) (Nat.le_of_ble_eq_true rfl)
set_option maxRecDepth 4000 in
theorem cc_FB_differ (l : Launch) (Y : sy_Y) (M U : me_M) (o : Int64) (a b : Int32) {N : Nat} (hst : l.stackTraces = false) (hI : rf_I M U N) : ct_IX l ny_FB_differ nb_FB_differ 5 (some .int) { frames := 7, cells := 1, slots := 6, locals := 103 } Y [.ref (Y.2.1 0), .int a, .int b] M U o ((fb_differ M a b).1) ((fb_differ M a b).2.1) ((fb_differ M a b).2.2) U o 1 6 := by
  refine ct_bodyX (own := nr_FB) (L0 := [(0, .ref (Y.2.1 0)), (1, .int a), (2, .int b)]) (by decide) rfl (Nat.le_of_ble_eq_true rfl) rfl ?_
  intro p e s m args below meth c fx htab
  by_cases h5 : M 5 0 ≠ 0
  · rw [show fb_differ M a b = (1, 0, M) from if_pos h5]
    refine vv_aload_n fx nd_FB_differ_0 rfl 0 rfl ?_
    exact vv_callVxv (C := nr_FB) (T := nt_FB) (N := 6) (ci := 0) fx htab (cc_FB_requireUp1 l Y M U o hst h5) nm_FB_39 ns_FB_requireUp nv_FB_requireUp nz_FB nc_FB_requireUp ni_FB_requireUp 0 rfl rfl ⟨rfl, rfl, by decide, by decide⟩ ⟨(Nat.le_of_ble_eq_true rfl), (Nat.le_of_ble_eq_true rfl)⟩ (Nat.le_of_ble_eq_true rfl) nd_FB_differ_1 rfl (fun _ => ⟨rfl, rfl, rfl, rfl⟩) (Nat.le_of_ble_eq_true rfl) (Nat.le_of_ble_eq_true rfl) (fun z => absurd z (by decide))
  · refine vv_aload_n fx nd_FB_differ_0 rfl 0 rfl ?_
    refine vv_callVv (C := nr_FB) (T := nt_FB) (N := 6) (ci := 0) fx (cc_FB_requireUp0 l Y M U o (Classical.not_not.mp h5)) nm_FB_39 ns_FB_requireUp nv_FB_requireUp nz_FB nc_FB_requireUp ni_FB_requireUp 0 rfl rfl ⟨rfl, rfl, by decide, by decide⟩ ⟨Nat.le_of_ble_eq_true rfl, Nat.le_of_ble_eq_true rfl⟩ (Nat.le_of_ble_eq_true rfl) nd_FB_differ_1 rfl ?_
    by_cases ha : fb_ism M a = false
    · rw [show fb_differ M a b = (2, 0, M) from (if_neg h5).trans (if_pos (by rw [ha]; rfl))]
      refine vv_aload_n fx nd_FB_differ_4 rfl 0 rfl ?_
      refine vv_iload_n fx nd_FB_differ_5 rfl 1 rfl ?_
      exact vv_callVxv (C := nr_FB) (T := nt_FB) (N := 6) (ci := 0) fx htab (cc_FB_requireMap1 l Y M U o a hst ha) nm_FB_78 ns_FB_requireMap nv_FB_requireMap nz_FB nc_FB_requireMap ni_FB_requireMap 0 rfl rfl ⟨rfl, rfl, by decide, by decide⟩ ⟨(Nat.le_of_ble_eq_true rfl), (Nat.le_of_ble_eq_true rfl)⟩ (Nat.le_of_ble_eq_true rfl) nd_FB_differ_6 rfl (fun _ => ⟨rfl, rfl, rfl, rfl⟩) (Nat.le_of_ble_eq_true rfl) (Nat.le_of_ble_eq_true rfl) (fun z => absurd z (by decide))
    · have ha : fb_ism M a = true := by cases q : fb_ism M a with | false => exact absurd q ha | true => rfl
      refine vv_aload_n fx nd_FB_differ_4 rfl 0 rfl ?_
      refine vv_iload_n fx nd_FB_differ_5 rfl 1 rfl ?_
      refine vv_callVv (C := nr_FB) (T := nt_FB) (N := 6) (ci := 0) fx (cc_FB_requireMap0 l Y M U o a ha) nm_FB_78 ns_FB_requireMap nv_FB_requireMap nz_FB nc_FB_requireMap ni_FB_requireMap 0 rfl rfl ⟨rfl, rfl, by decide, by decide⟩ ⟨Nat.le_of_ble_eq_true rfl, Nat.le_of_ble_eq_true rfl⟩ (Nat.le_of_ble_eq_true rfl) nd_FB_differ_6 rfl ?_
      by_cases hb : fb_ism M b = false
      · rw [show fb_differ M a b = (2, 0, M) from (if_neg h5).trans (if_pos (by rw [hb, Bool.and_false]))]
        refine vv_aload_n fx nd_FB_differ_9 rfl 0 rfl ?_
        refine vv_iload_n fx nd_FB_differ_10 rfl 2 rfl ?_
        exact vv_callVxv (C := nr_FB) (T := nt_FB) (N := 6) (ci := 0) fx htab (cc_FB_requireMap1 l Y M U o b hst hb) nm_FB_78 ns_FB_requireMap nv_FB_requireMap nz_FB nc_FB_requireMap ni_FB_requireMap 0 rfl rfl ⟨rfl, rfl, by decide, by decide⟩ ⟨(Nat.le_of_ble_eq_true rfl), (Nat.le_of_ble_eq_true rfl)⟩ (Nat.le_of_ble_eq_true rfl) nd_FB_differ_11 rfl (fun _ => ⟨rfl, rfl, rfl, rfl⟩) (Nat.le_of_ble_eq_true rfl) (Nat.le_of_ble_eq_true rfl) (fun z => absurd z (by decide))
      · have hb : fb_ism M b = true := by cases q : fb_ism M b with | false => exact absurd q hb | true => rfl
        refine vv_aload_n fx nd_FB_differ_9 rfl 0 rfl ?_
        refine vv_iload_n fx nd_FB_differ_10 rfl 2 rfl ?_
        refine vv_callVv (C := nr_FB) (T := nt_FB) (N := 6) (ci := 0) fx (cc_FB_requireMap0 l Y M U o b hb) nm_FB_78 ns_FB_requireMap nv_FB_requireMap nz_FB nc_FB_requireMap ni_FB_requireMap 0 rfl rfl ⟨rfl, rfl, by decide, by decide⟩ ⟨Nat.le_of_ble_eq_true rfl, Nat.le_of_ble_eq_true rfl⟩ (Nat.le_of_ble_eq_true rfl) nd_FB_differ_11 rfl ?_
        obtain ⟨an, an7, rfl, ane⟩ := fb_ism_nat ha
        obtain ⟨anr, anw⟩ := rf_rootw hI an7 ane
        obtain ⟨bn, bn7, rfl, bne⟩ := fb_ism_nat hb
        obtain ⟨bnr, bnw⟩ := rf_rootw hI bn7 bne
        have ea : (nI an).toNatClampNeg = an := nI_clamp (by omega)
        have eb : (nI bn).toNatClampNeg = bn := nI_clamp (by omega)
        have hab : ¬ (fb_ism M (nI an) && fb_ism M (nI bn)) = false := by rw [ha, hb]; decide
        rw [show fb_differ M (nI an) (nI bn) = (0, nI (me_cn (fun k => !fb_alike M (fb_r M an) (fb_r M bn) k) 64), M) from ((if_neg h5).trans (if_neg hab)).trans (by rw [ea, eb])]
        refine vv_iconst (v := nI 0) fx nd_FB_differ_14 (by decide) ?_
        refine vv_istore_n (L' := [(0, .ref (Y.2.1 0)), (1, .int (nI an)), (2, .int (nI bn)), (3, .int (nI 0))]) fx nd_FB_differ_15 rfl (by decide) [1, 2, 3, 0] rfl ?_
        refine vv_iconst (v := nI 0) fx nd_FB_differ_16 (by decide) ?_
        refine vv_istore (L' := [(0, .ref (Y.2.1 0)), (1, .int (nI an)), (2, .int (nI bn)), (3, .int (nI 0)), (4, .int (nI 0))]) fx nd_FB_differ_17 (by decide) [1, 2, 3, 4, 0] rfl ?_
        have loop : ∀ d i, i + d = 64 → vv p l e { frames := 7, cells := 1, slots := 6, locals := 103 } s m args below meth c 0 0 (vx_MQ below (ct_Xi Y 0 (nI (me_cn (fun k => !fb_alike M (fb_r M an) (fb_r M bn) k) 64)) M U o) (ct_XC Y 0 M U o) args s 1 6 Y.2.2.2) 5 Y M U o 19 [(0, .ref (Y.2.1 0)), (1, .int (nI an)), (2, .int (nI bn)), (3, .int (nI (me_cn (fun k => !fb_alike M (fb_r M an) (fb_r M bn) k) i))), (4, .int (nI i))] [] := by
          intro d
          induction d with
          | zero =>
            intro i hi
            have e9 : i = 64 := by omega
            subst e9
            refine vv_iload fx nd_FB_differ_19 4 rfl ?_
            refine vv_bipush (v := nI 64) fx nd_FB_differ_21 (by decide) ?_
            refine vv_icmp_ge (tgt := 56) fx nd_FB_differ_23 (by decide) (fun _ => ?_) (fun hb => absurd (nI_le (by omega) (by omega)) hb)
            refine vv_iload_n fx nd_FB_differ_56 rfl 3 rfl ?_
            exact vv_ixret fx rfl nd_FB_differ_57 (rfl) (rfl) (Nat.le_of_ble_eq_true rfl) (Nat.le_of_ble_eq_true rfl)
          | succ d ih =>
            intro i hi
            have ev : me_cn (fun k => !fb_alike M (fb_r M an) (fb_r M bn) k) (i + 1) = me_cn (fun k => !fb_alike M (fb_r M an) (fb_r M bn) k) i + if (!fb_alike M (fb_r M an) (fb_r M bn) i) = true then 1 else 0 := rfl
            refine vv_iload fx nd_FB_differ_19 4 rfl ?_
            refine vv_bipush (v := nI 64) fx nd_FB_differ_21 (by decide) ?_
            refine vv_icmp_ge (tgt := 56) fx nd_FB_differ_23 (by decide) (fun hb => absurd hb (nI_ge (by omega) (by omega))) (fun _ => ?_)
            refine vv_aload_n fx nd_FB_differ_26 rfl 0 rfl ?_
            refine vv_aload_n fx nd_FB_differ_27 rfl 0 rfl ?_
            refine vv_get (ci := 0) (C := nr_FB) (T := nt_FB) (N := 6) fx nt_FB_in 0 rfl rfl 1 (by decide) nf_FB_16 rfl nd_FB_differ_28 ?_
            refine vv_iload_n fx nd_FB_differ_31 rfl 1 rfl ?_
            refine vv_iald fx 2 0 rfl rfl (an7) (by decide) nd_FB_differ_32 ?_
            refine vv_top (y := nI (fb_r M an)) (anr) ?_
            refine vv_aload_n fx nd_FB_differ_33 rfl 0 rfl ?_
            refine vv_get (ci := 0) (C := nr_FB) (T := nt_FB) (N := 6) fx nt_FB_in 0 rfl rfl 1 (by decide) nf_FB_16 rfl nd_FB_differ_34 ?_
            refine vv_iload_n fx nd_FB_differ_37 rfl 2 rfl ?_
            refine vv_iald fx 2 0 rfl rfl (bn7) (by decide) nd_FB_differ_38 ?_
            refine vv_top (y := nI (fb_r M bn)) (bnr) ?_
            refine vv_iload fx nd_FB_differ_39 4 rfl ?_
            refine vv_callVi (C := nr_FB) (T := nt_FB) (N := 6) (ci := 0) fx (cc_FB_isBoundAlike l Y M U o (fb_r M an) (fb_r M bn) i anw bnw (by omega)) nm_FB_97 ns_FB_isBoundAlike nv_FB_isBoundAlike nz_FB nc_FB_isBoundAlike ni_FB_isBoundAlike 0 rfl rfl ⟨rfl, rfl, by decide, by decide⟩ ⟨Nat.le_of_ble_eq_true rfl, Nat.le_of_ble_eq_true rfl⟩ (Nat.le_of_ble_eq_true rfl) nd_FB_differ_41 rfl ?_
            refine vv_if_ne (tgt := 50) fx nd_FB_differ_44 (by decide) (fun hb44 => ?_) (fun hb44 => ?_)
            · refine vv_iinc (v := nI (i + 1)) (L' := [(0, .ref (Y.2.1 0)), (1, .int (nI an)), (2, .int (nI bn)), (3, .int (nI (me_cn (fun k => !fb_alike M (fb_r M an) (fb_r M bn) k) i))), (4, .int (nI (i + 1)))]) fx nd_FB_differ_50 4 rfl (nI_1 i) (by decide) [1, 2, 3, 4, 0] rfl ?_
              refine vv_goto (tgt := 19) fx nd_FB_differ_53 (by decide) ?_
              rw [b01_1 hb44, if_neg (by decide), Nat.add_zero] at ev
              have h9 := ih (i + 1) (by omega)
              rw [ev] at h9
              exact h9
            · refine vv_iinc (v := nI (me_cn (fun k => !fb_alike M (fb_r M an) (fb_r M bn) k) i + 1)) (L' := [(0, .ref (Y.2.1 0)), (1, .int (nI an)), (2, .int (nI bn)), (3, .int (nI (me_cn (fun k => !fb_alike M (fb_r M an) (fb_r M bn) k) i + 1))), (4, .int (nI i))]) fx nd_FB_differ_47 3 rfl (nI_1 _) (by decide) [1, 2, 3, 0, 4] rfl ?_
              refine vv_iinc (v := nI (i + 1)) (L' := [(0, .ref (Y.2.1 0)), (1, .int (nI an)), (2, .int (nI bn)), (3, .int (nI (me_cn (fun k => !fb_alike M (fb_r M an) (fb_r M bn) k) i + 1))), (4, .int (nI (i + 1)))]) fx nd_FB_differ_50 4 rfl (nI_1 i) (by decide) [1, 2, 3, 4, 0] rfl ?_
              refine vv_goto (tgt := 19) fx nd_FB_differ_53 (by decide) ?_
              rw [b01_0 hb44, if_pos (by decide)] at ev
              have h9 := ih (i + 1) (by omega)
              rw [ev] at h9
              exact h9
        exact loop 64 0 (by omega)
set_option maxRecDepth 4000 in
theorem cc_FB_snapshot (l : Launch) (Y : sy_Y) (M U : me_M) (o : Int64) {N : Nat} (hst : l.stackTraces = false) (hI : rf_I M U N) : ct_IX l ny_FB_snapshot nb_FB_snapshot 2 (some .int) { frames := 7, cells := 1, slots := 6, locals := 102 } Y [.ref (Y.2.1 0)] M U o ((fb_snapshot M).1) ((fb_snapshot M).2.1) ((fb_snapshot M).2.2) U o 1 6 := by
  refine ct_bodyX (own := nr_FB) (L0 := [(0, .ref (Y.2.1 0))]) (by decide) rfl (Nat.le_of_ble_eq_true rfl) rfl ?_
  intro p e s m args below meth c fx htab
  by_cases h5 : M 5 0 ≠ 0
  · rw [show fb_snapshot M = (1, 0, M) from if_pos h5]
    refine vv_aload_n fx nd_FB_snapshot_0 rfl 0 rfl ?_
    exact vv_callVxv (C := nr_FB) (T := nt_FB) (N := 6) (ci := 0) fx htab (cc_FB_requireUp1 l Y M U o hst h5) nm_FB_39 ns_FB_requireUp nv_FB_requireUp nz_FB nc_FB_requireUp ni_FB_requireUp 0 rfl rfl ⟨rfl, rfl, by decide, by decide⟩ ⟨(Nat.le_of_ble_eq_true rfl), (Nat.le_of_ble_eq_true rfl)⟩ (Nat.le_of_ble_eq_true rfl) nd_FB_snapshot_1 rfl (fun _ => ⟨rfl, rfl, rfl, rfl⟩) (Nat.le_of_ble_eq_true rfl) (Nat.le_of_ble_eq_true rfl) (fun z => absurd z (by decide))
  · refine vv_aload_n fx nd_FB_snapshot_0 rfl 0 rfl ?_
    refine vv_callVv (C := nr_FB) (T := nt_FB) (N := 6) (ci := 0) fx (cc_FB_requireUp0 l Y M U o (Classical.not_not.mp h5)) nm_FB_39 ns_FB_requireUp nv_FB_requireUp nz_FB nc_FB_requireUp ni_FB_requireUp 0 rfl rfl ⟨rfl, rfl, by decide, by decide⟩ ⟨Nat.le_of_ble_eq_true rfl, Nat.le_of_ble_eq_true rfl⟩ (Nat.le_of_ble_eq_true rfl) nd_FB_snapshot_1 rfl ?_
    by_cases h7 : (fb_lu M 6 1) = 7
    · rw [show fb_snapshot M = (3, 0, M) from (if_neg h5).trans (if_pos h7)]
      refine vv_aload_n fx nd_FB_snapshot_4 rfl 0 rfl ?_
      refine vv_callVi (C := nr_FB) (T := nt_FB) (N := 6) (ci := 0) fx (cc_FB_leastUnusedSnapshot l Y M U o) nm_FB_101 ns_FB_leastUnusedSnapshot nv_FB_leastUnusedSnapshot nz_FB nc_FB_leastUnusedSnapshot ni_FB_leastUnusedSnapshot 0 rfl rfl ⟨rfl, rfl, by decide, by decide⟩ ⟨Nat.le_of_ble_eq_true rfl, Nat.le_of_ble_eq_true rfl⟩ (Nat.le_of_ble_eq_true rfl) nd_FB_snapshot_5 rfl ?_
      refine vv_top (y := -1) (if_pos h7) ?_
      refine vv_istore_n (L' := [(0, .ref (Y.2.1 0)), (1, .int (-1))]) fx nd_FB_snapshot_8 rfl (by decide) [1, 0] rfl ?_
      refine vv_iload_n fx nd_FB_snapshot_9 rfl 1 rfl ?_
      refine vv_iconst (v := -1) fx nd_FB_snapshot_10 (by decide) ?_
      refine vv_icmp_ne (tgt := 24) fx nd_FB_snapshot_11 (by decide) (fun hb => absurd (rfl) hb) (fun _ => ?_)
      exact vv_throw_3 (text := "all snapshots are there") fx htab hst (by decide +kernel) nd_FB_snapshot_14 nd_FB_snapshot_17 nd_FB_snapshot_18 nd_FB_snapshot_20 nd_FB_snapshot_23 (Nat.le_of_ble_eq_true rfl) (Nat.le_of_ble_eq_true rfl) (Nat.le_of_ble_eq_true rfl) (Nat.le_of_ble_eq_true rfl) (rfl) (rfl) (rfl) (rfl) (Nat.le_of_ble_eq_true rfl) (Nat.le_of_ble_eq_true rfl)
    · have hlu : (fb_lu M 6 1) < 7 := by have := rf_lu_in U 6 1 (by decide); rw [← rf_lu hI] at this; omega
      rw [show fb_snapshot M = (0, nI (fb_lu M 6 1), fb_freeze (me_up M 3 (fb_lu M 6 1) (M 3 0))) from (if_neg h5).trans (if_neg h7)]
      refine vv_aload_n fx nd_FB_snapshot_4 rfl 0 rfl ?_
      refine vv_callVi (C := nr_FB) (T := nt_FB) (N := 6) (ci := 0) fx (cc_FB_leastUnusedSnapshot l Y M U o) nm_FB_101 ns_FB_leastUnusedSnapshot nv_FB_leastUnusedSnapshot nz_FB nc_FB_leastUnusedSnapshot ni_FB_leastUnusedSnapshot 0 rfl rfl ⟨rfl, rfl, by decide, by decide⟩ ⟨Nat.le_of_ble_eq_true rfl, Nat.le_of_ble_eq_true rfl⟩ (Nat.le_of_ble_eq_true rfl) nd_FB_snapshot_5 rfl ?_
      refine vv_top (y := nI (fb_lu M 6 1)) (if_neg h7) ?_
      refine vv_istore_n (L' := [(0, .ref (Y.2.1 0)), (1, .int (nI (fb_lu M 6 1)))]) fx nd_FB_snapshot_8 rfl (by decide) [1, 0] rfl ?_
      refine vv_iload_n fx nd_FB_snapshot_9 rfl 1 rfl ?_
      refine vv_iconst (v := -1) fx nd_FB_snapshot_10 (by decide) ?_
      refine vv_icmp_ne (tgt := 24) fx nd_FB_snapshot_11 (by decide) (fun _ => ?_) (fun hb => absurd hb (rf_m1n _ (by omega)))
      refine vv_aload_n fx nd_FB_snapshot_24 rfl 0 rfl ?_
      refine vv_get (ci := 0) (C := nr_FB) (T := nt_FB) (N := 6) fx nt_FB_in 0 rfl rfl 1 (by decide) nf_FB_16 rfl nd_FB_snapshot_25 ?_
      refine vv_iload_n fx nd_FB_snapshot_28 rfl 1 rfl ?_
      refine vv_aload_n fx nd_FB_snapshot_29 rfl 0 rfl ?_
      refine vv_get (ci := 0) (C := nr_FB) (T := nt_FB) (N := 6) fx nt_FB_in 0 rfl rfl 1 (by decide) nf_FB_16 rfl nd_FB_snapshot_30 ?_
      refine vv_iconst (v := nI 0) fx nd_FB_snapshot_33 (by decide) ?_
      refine vv_iald fx 2 0 rfl rfl (by omega) (by decide) nd_FB_snapshot_34 ?_
      refine vv_iast (M' := me_up M 3 (fb_lu M 6 1) (M 3 0)) (U' := U) fx 2 0 rfl rfl (hlu) (by decide) nd_FB_snapshot_35 (sy_set3 _) ?_
      refine vv_aload_n fx nd_FB_snapshot_36 rfl 0 rfl ?_
      refine vv_get (ci := 0) (C := nr_FB) (T := nt_FB) (N := 6) fx nt_FB_in 0 rfl rfl 0 (by decide) nf_FB_10 rfl nd_FB_snapshot_37 ?_
      refine vv_callVv (C := nr_RM) (T := nt_RM) (N := 4) (ci := 1) fx (cc_RM_freeze l Y (me_up M 3 (fb_lu M 6 1) (M 3 0)) U o) nm_FB_110 ns_RM_freeze nv_RM_freeze nz_RM nc_RM_freeze ni_RM_freeze 1 rfl rfl ⟨rfl, rfl, by decide, by decide⟩ ⟨Nat.le_of_ble_eq_true rfl, Nat.le_of_ble_eq_true rfl⟩ (Nat.le_of_ble_eq_true rfl) nd_FB_snapshot_40 rfl ?_
      refine vv_iload_n fx nd_FB_snapshot_43 rfl 1 rfl ?_
      exact vv_ixret fx rfl nd_FB_snapshot_44 (rfl) (rfl) (Nat.le_of_ble_eq_true rfl) (Nat.le_of_ble_eq_true rfl)
theorem fb_na_up (M : me_M) (v : Int32) (j r k i : Nat) : fb_na (me_up M 3 j v) r k i = fb_na M r k i := by
  induction i with
  | zero => rfl
  | succ i ih =>
    show fb_ch (me_up M 3 j v) (fb_na (me_up M 3 j v) r k i) (fb_tn k i) = fb_ch M (fb_na M r k i) (fb_tn k i)
    rw [ih]
    unfold fb_ch
    rw [me_up_n _ _ _ (by omega)]
theorem fb_kb_up (M : me_M) (v : Int32) (j r : Nat) : fb_kb (me_up M 3 j v) r = fb_kb M r := by
  unfold fb_kb
  refine me_cn_congr fun i _ => ?_
  unfold fb_bd
  rw [fb_na_up, me_up_n _ _ _ (by decide)]
set_option maxRecDepth 4000 in
theorem cc_FB_rollback (l : Launch) (Y : sy_Y) (M U : me_M) (o : Int64) (h : Int32) {N : Nat} (hst : l.stackTraces = false) (hI : rf_I M U N) : ct_IX l ny_FB_rollback nb_FB_rollback 2 (some .int) { frames := 7, cells := 1, slots := 6, locals := 103 } Y [.ref (Y.2.1 0), .int h] M U o ((fb_rollback M h).1) ((fb_rollback M h).2.1) ((fb_rollback M h).2.2) U o 1 6 := by
  refine ct_bodyX (own := nr_FB) (L0 := [(0, .ref (Y.2.1 0)), (1, .int h)]) (by decide) rfl (Nat.le_of_ble_eq_true rfl) rfl ?_
  intro p e s m args below meth c fx htab
  by_cases h5 : M 5 0 ≠ 0
  · rw [show fb_rollback M h = (1, 0, M) from if_pos h5]
    refine vv_aload_n fx nd_FB_rollback_0 rfl 0 rfl ?_
    exact vv_callVxv (C := nr_FB) (T := nt_FB) (N := 6) (ci := 0) fx htab (cc_FB_requireUp1 l Y M U o hst h5) nm_FB_39 ns_FB_requireUp nv_FB_requireUp nz_FB nc_FB_requireUp ni_FB_requireUp 0 rfl rfl ⟨rfl, rfl, by decide, by decide⟩ ⟨(Nat.le_of_ble_eq_true rfl), (Nat.le_of_ble_eq_true rfl)⟩ (Nat.le_of_ble_eq_true rfl) nd_FB_rollback_1 rfl (fun _ => ⟨rfl, rfl, rfl, rfl⟩) (Nat.le_of_ble_eq_true rfl) (Nat.le_of_ble_eq_true rfl) (fun z => absurd z (by decide))
  · refine vv_aload_n fx nd_FB_rollback_0 rfl 0 rfl ?_
    refine vv_callVv (C := nr_FB) (T := nt_FB) (N := 6) (ci := 0) fx (cc_FB_requireUp0 l Y M U o (Classical.not_not.mp h5)) nm_FB_39 ns_FB_requireUp nv_FB_requireUp nz_FB nc_FB_requireUp ni_FB_requireUp 0 rfl rfl ⟨rfl, rfl, by decide, by decide⟩ ⟨Nat.le_of_ble_eq_true rfl, Nat.le_of_ble_eq_true rfl⟩ (Nat.le_of_ble_eq_true rfl) nd_FB_rollback_1 rfl ?_
    by_cases hm : fb_iss M h = false
    · rw [show fb_rollback M h = (2, 0, M) from (if_neg h5).trans (if_pos hm)]
      refine vv_aload_n fx nd_FB_rollback_4 rfl 0 rfl ?_
      refine vv_iload_n fx nd_FB_rollback_5 rfl 1 rfl ?_
      exact vv_callVxv (C := nr_FB) (T := nt_FB) (N := 6) (ci := 0) fx htab (cc_FB_requireSnapshot1 l Y M U o h hst hm) nm_FB_113 ns_FB_requireSnapshot nv_FB_requireSnapshot nz_FB nc_FB_requireSnapshot ni_FB_requireSnapshot 0 rfl rfl ⟨rfl, rfl, by decide, by decide⟩ ⟨(Nat.le_of_ble_eq_true rfl), (Nat.le_of_ble_eq_true rfl)⟩ (Nat.le_of_ble_eq_true rfl) nd_FB_rollback_6 rfl (fun _ => ⟨rfl, rfl, rfl, rfl⟩) (Nat.le_of_ble_eq_true rfl) (Nat.le_of_ble_eq_true rfl) (fun z => absurd z (by decide))
    · have hm : fb_iss M h = true := by cases q : fb_iss M h with | false => exact absurd q hm | true => rfl
      refine vv_aload_n fx nd_FB_rollback_4 rfl 0 rfl ?_
      refine vv_iload_n fx nd_FB_rollback_5 rfl 1 rfl ?_
      refine vv_callVv (C := nr_FB) (T := nt_FB) (N := 6) (ci := 0) fx (cc_FB_requireSnapshot0 l Y M U o h hm) nm_FB_113 ns_FB_requireSnapshot nv_FB_requireSnapshot nz_FB nc_FB_requireSnapshot ni_FB_requireSnapshot 0 rfl rfl ⟨rfl, rfl, by decide, by decide⟩ ⟨Nat.le_of_ble_eq_true rfl, Nat.le_of_ble_eq_true rfl⟩ (Nat.le_of_ble_eq_true rfl) nd_FB_rollback_6 rfl ?_
      have hmm : fb_ism M h = true := by rw [fb_iss_eq, Bool.and_eq_true] at hm; exact hm.2
      obtain ⟨hn, hn7, rfl, hne⟩ := fb_ism_nat hmm
      obtain ⟨hnr, hnw⟩ := rf_rootw hI hn7 hne
      have ecl : (nI hn).toNatClampNeg = hn := nI_clamp (by omega)
      rw [show fb_rollback M (nI hn) = (0, nI (fb_kb M (fb_r M hn)), me_up M 3 0 (M 3 hn)) from ((if_neg h5).trans (if_neg (by rw [hm]; decide))).trans (by rw [ecl])]
      have w1 : fb_wf (me_up M 3 0 (M 3 hn)) (fb_r M hn) := fb_wf_of (fun x => me_up_n _ _ _ (by omega)) hnw
      refine vv_aload_n fx nd_FB_rollback_9 rfl 0 rfl ?_
      refine vv_get (ci := 0) (C := nr_FB) (T := nt_FB) (N := 6) fx nt_FB_in 0 rfl rfl 1 (by decide) nf_FB_16 rfl nd_FB_rollback_10 ?_
      refine vv_iconst (v := nI 0) fx nd_FB_rollback_13 (by decide) ?_
      refine vv_aload_n fx nd_FB_rollback_14 rfl 0 rfl ?_
      refine vv_get (ci := 0) (C := nr_FB) (T := nt_FB) (N := 6) fx nt_FB_in 0 rfl rfl 1 (by decide) nf_FB_16 rfl nd_FB_rollback_15 ?_
      refine vv_iload_n fx nd_FB_rollback_18 rfl 1 rfl ?_
      refine vv_iald fx 2 0 rfl rfl (hn7) (by decide) nd_FB_rollback_19 ?_
      refine vv_iast (M' := me_up M 3 0 (M 3 hn)) (U' := U) fx 2 0 rfl rfl (by omega) (by decide) nd_FB_rollback_20 (sy_set3 _) ?_
      refine vv_aload_n fx nd_FB_rollback_21 rfl 0 rfl ?_
      refine vv_aload_n fx nd_FB_rollback_22 rfl 0 rfl ?_
      refine vv_get (ci := 0) (C := nr_FB) (T := nt_FB) (N := 6) fx nt_FB_in 0 rfl rfl 1 (by decide) nf_FB_16 rfl nd_FB_rollback_23 ?_
      refine vv_iconst (v := nI 0) fx nd_FB_rollback_26 (by decide) ?_
      refine vv_iald fx 2 0 rfl rfl (by omega) (by decide) nd_FB_rollback_27 ?_
      refine vv_top (y := nI (fb_r M hn)) ((me_up_s _ _ _ _).trans hnr) ?_
      refine vv_callVi (C := nr_FB) (T := nt_FB) (N := 6) (ci := 0) fx (cc_FB_keysBound l Y (me_up M 3 0 (M 3 hn)) U o (fb_r M hn) w1) nm_FB_87 ns_FB_keysBound nv_FB_keysBound nz_FB nc_FB_keysBound ni_FB_keysBound 0 rfl rfl ⟨rfl, rfl, by decide, by decide⟩ ⟨Nat.le_of_ble_eq_true rfl, Nat.le_of_ble_eq_true rfl⟩ (Nat.le_of_ble_eq_true rfl) nd_FB_rollback_28 rfl ?_
      exact vv_ixret fx rfl nd_FB_rollback_31 (rfl) (by rw [fb_kb_up]) (Nat.le_of_ble_eq_true rfl) (Nat.le_of_ble_eq_true rfl)
theorem fb_K_mr {M : me_M} (h : fb_K M) : fb_K (fb_mr M).2 := ⟨fb_KA_of (fun x => fb_mr_n M (by omega)) (fb_mr_n M (by decide)) h.1, fb_KA_of (fun x => fb_mr_n M (by omega)) (fb_mr_n M (by decide)) h.2⟩
theorem fb_K_m1 {M : me_M} (h : fb_K M) (j : Nat) : fb_K (me_up M 3 j (-1)) := by
  have hx : ∀ x, me_up M 3 j (-1) (6 + x) = M (6 + x) := fun x => me_up_n _ _ _ (by omega)
  refine ⟨fun i hi => ?_, fb_KA_of hx (me_up_n _ _ _ (by decide)) h.2⟩
  by_cases q : i = j
  · rw [q]; exact Or.inl (me_up_s _ _ _ _)
  · unfold fb_rt
    rw [me_up_j _ _ _ q]
    exact (h.1 i hi).imp id (fun z => ⟨z.1, fb_wf_of hx z.2⟩)
set_option maxRecDepth 4000 in
theorem cc_FB_drop (l : Launch) (Y : sy_Y) (M U : me_M) (o : Int64) (h : Int32) {N : Nat} (hst : l.stackTraces = false) (hI : rf_I M U N) : ct_IX l ny_FB_drop nb_FB_drop 3 (some .int) { frames := 7, cells := 1, slots := 6, locals := 114 } Y [.ref (Y.2.1 0), .int h] M U o ((fb_drop M h).1) ((fb_drop M h).2.1) ((fb_drop M h).2.2) U o 1 6 := by
  refine ct_bodyX (own := nr_FB) (L0 := [(0, .ref (Y.2.1 0)), (1, .int h)]) (by decide) rfl (Nat.le_of_ble_eq_true rfl) rfl ?_
  intro p e s m args below meth c fx htab
  by_cases h5 : M 5 0 ≠ 0
  · rw [show fb_drop M h = (1, 0, M) from if_pos h5]
    refine vv_aload_n fx nd_FB_drop_0 rfl 0 rfl ?_
    exact vv_callVxv (C := nr_FB) (T := nt_FB) (N := 6) (ci := 0) fx htab (cc_FB_requireUp1 l Y M U o hst h5) nm_FB_39 ns_FB_requireUp nv_FB_requireUp nz_FB nc_FB_requireUp ni_FB_requireUp 0 rfl rfl ⟨rfl, rfl, by decide, by decide⟩ ⟨(Nat.le_of_ble_eq_true rfl), (Nat.le_of_ble_eq_true rfl)⟩ (Nat.le_of_ble_eq_true rfl) nd_FB_drop_1 rfl (fun _ => ⟨rfl, rfl, rfl, rfl⟩) (Nat.le_of_ble_eq_true rfl) (Nat.le_of_ble_eq_true rfl) (fun z => absurd z (by decide))
  · refine vv_aload_n fx nd_FB_drop_0 rfl 0 rfl ?_
    refine vv_callVv (C := nr_FB) (T := nt_FB) (N := 6) (ci := 0) fx (cc_FB_requireUp0 l Y M U o (Classical.not_not.mp h5)) nm_FB_39 ns_FB_requireUp nv_FB_requireUp nz_FB nc_FB_requireUp ni_FB_requireUp 0 rfl rfl ⟨rfl, rfl, by decide, by decide⟩ ⟨Nat.le_of_ble_eq_true rfl, Nat.le_of_ble_eq_true rfl⟩ (Nat.le_of_ble_eq_true rfl) nd_FB_drop_1 rfl ?_
    by_cases hm : fb_iss M h = false
    · rw [show fb_drop M h = (2, 0, M) from (if_neg h5).trans (if_pos hm)]
      refine vv_aload_n fx nd_FB_drop_4 rfl 0 rfl ?_
      refine vv_iload_n fx nd_FB_drop_5 rfl 1 rfl ?_
      exact vv_callVxv (C := nr_FB) (T := nt_FB) (N := 6) (ci := 0) fx htab (cc_FB_requireSnapshot1 l Y M U o h hst hm) nm_FB_113 ns_FB_requireSnapshot nv_FB_requireSnapshot nz_FB nc_FB_requireSnapshot ni_FB_requireSnapshot 0 rfl rfl ⟨rfl, rfl, by decide, by decide⟩ ⟨(Nat.le_of_ble_eq_true rfl), (Nat.le_of_ble_eq_true rfl)⟩ (Nat.le_of_ble_eq_true rfl) nd_FB_drop_6 rfl (fun _ => ⟨rfl, rfl, rfl, rfl⟩) (Nat.le_of_ble_eq_true rfl) (Nat.le_of_ble_eq_true rfl) (fun z => absurd z (by decide))
    · have hm : fb_iss M h = true := by cases q : fb_iss M h with | false => exact absurd q hm | true => rfl
      refine vv_aload_n fx nd_FB_drop_4 rfl 0 rfl ?_
      refine vv_iload_n fx nd_FB_drop_5 rfl 1 rfl ?_
      refine vv_callVv (C := nr_FB) (T := nt_FB) (N := 6) (ci := 0) fx (cc_FB_requireSnapshot0 l Y M U o h hm) nm_FB_113 ns_FB_requireSnapshot nv_FB_requireSnapshot nz_FB nc_FB_requireSnapshot ni_FB_requireSnapshot 0 rfl rfl ⟨rfl, rfl, by decide, by decide⟩ ⟨Nat.le_of_ble_eq_true rfl, Nat.le_of_ble_eq_true rfl⟩ (Nat.le_of_ble_eq_true rfl) nd_FB_drop_6 rfl ?_
      have hmm : fb_ism M h = true := by rw [fb_iss_eq, Bool.and_eq_true] at hm; exact hm.2
      obtain ⟨hn, hn7, rfl, hne⟩ := fb_ism_nat hmm
      obtain ⟨hnr, hnw⟩ := rf_rootw hI hn7 hne
      have ecl : (nI hn).toNatClampNeg = hn := nI_clamp (by omega)
      rw [show fb_drop M (nI hn) = (0, fb_free (me_up (fb_mr M).2 3 hn (-1)) - fb_free M, (fb_mr (me_up (fb_mr M).2 3 hn (-1))).2) from ((if_neg h5).trans (if_neg (by rw [hm]; decide))).trans (by rw [ecl])]
      have hK1 : fb_K (me_up (fb_mr M).2 3 hn (-1)) := fb_K_m1 (fb_K_mr (rf_fbK hI)) hn
      refine vv_aload_n fx nd_FB_drop_9 rfl 0 rfl ?_
      refine vv_callVi (C := nr_FB) (T := nt_FB) (N := 6) (ci := 0) fx (cc_FB_freeNodes l Y M U o (rf_fbK hI)) nm_FB_116 ns_FB_freeNodes nv_FB_freeNodes nz_FB nc_FB_freeNodes ni_FB_freeNodes 0 rfl rfl ⟨rfl, rfl, by decide, by decide⟩ ⟨Nat.le_of_ble_eq_true rfl, Nat.le_of_ble_eq_true rfl⟩ (Nat.le_of_ble_eq_true rfl) nd_FB_drop_10 rfl ?_
      refine vv_istore_n (L' := [(0, .ref (Y.2.1 0)), (1, .int (nI hn)), (2, .int (fb_free M))]) fx nd_FB_drop_13 rfl (by decide) [1, 2, 0] rfl ?_
      refine vv_aload_n fx nd_FB_drop_14 rfl 0 rfl ?_
      refine vv_get (ci := 0) (C := nr_FB) (T := nt_FB) (N := 6) fx nt_FB_in 0 rfl rfl 1 (by decide) nf_FB_16 rfl nd_FB_drop_15 ?_
      refine vv_iload_n fx nd_FB_drop_18 rfl 1 rfl ?_
      refine vv_iconst (v := -1) fx nd_FB_drop_19 (by decide) ?_
      refine vv_iast (M' := me_up ((fb_mr M).2) 3 hn (-1)) (U' := U) fx 2 0 rfl rfl (hn7) (by decide) nd_FB_drop_20 (sy_set3 _) ?_
      refine vv_aload_n fx nd_FB_drop_21 rfl 0 rfl ?_
      refine vv_callVi (C := nr_FB) (T := nt_FB) (N := 6) (ci := 0) fx (cc_FB_freeNodes l Y (me_up (fb_mr M).2 3 hn (-1)) U o hK1) nm_FB_116 ns_FB_freeNodes nv_FB_freeNodes nz_FB nc_FB_freeNodes ni_FB_freeNodes 0 rfl rfl ⟨rfl, rfl, by decide, by decide⟩ ⟨Nat.le_of_ble_eq_true rfl, Nat.le_of_ble_eq_true rfl⟩ (Nat.le_of_ble_eq_true rfl) nd_FB_drop_22 rfl ?_
      refine vv_iload_n fx nd_FB_drop_25 rfl 2 rfl ?_
      refine vv_isub fx nd_FB_drop_26 ?_
      exact vv_ixret fx rfl nd_FB_drop_27 (rfl) (rfl) (Nat.le_of_ble_eq_true rfl) (Nat.le_of_ble_eq_true rfl)
set_option maxRecDepth 4000 in
theorem cc_FB_commit (l : Launch) (Y : sy_Y) (M U : me_M) (o : Int64) {N : Nat} (hst : l.stackTraces = false) (hI : rf_I M U N) : ct_IX l ny_FB_commit nb_FB_commit 2 (some .int) { frames := 7, cells := 1, slots := 6, locals := 114 } Y [.ref (Y.2.1 0)] M U o ((fb_commit M).1) ((fb_commit M).2.1) ((fb_commit M).2.2) U o 1 6 := by
  refine ct_bodyX (own := nr_FB) (L0 := [(0, .ref (Y.2.1 0))]) (by decide) rfl (Nat.le_of_ble_eq_true rfl) rfl ?_
  intro p e s m args below meth c fx htab
  by_cases h5 : M 5 0 ≠ 0
  · rw [show fb_commit M = (1, 0, M) from if_pos h5]
    refine vv_aload_n fx nd_FB_commit_0 rfl 0 rfl ?_
    exact vv_callVxv (C := nr_FB) (T := nt_FB) (N := 6) (ci := 0) fx htab (cc_FB_requireUp1 l Y M U o hst h5) nm_FB_39 ns_FB_requireUp nv_FB_requireUp nz_FB nc_FB_requireUp ni_FB_requireUp 0 rfl rfl ⟨rfl, rfl, by decide, by decide⟩ ⟨(Nat.le_of_ble_eq_true rfl), (Nat.le_of_ble_eq_true rfl)⟩ (Nat.le_of_ble_eq_true rfl) nd_FB_commit_1 rfl (fun _ => ⟨rfl, rfl, rfl, rfl⟩) (Nat.le_of_ble_eq_true rfl) (Nat.le_of_ble_eq_true rfl) (fun z => absurd z (by decide))
  · refine vv_aload_n fx nd_FB_commit_0 rfl 0 rfl ?_
    refine vv_callVv (C := nr_FB) (T := nt_FB) (N := 6) (ci := 0) fx (cc_FB_requireUp0 l Y M U o (Classical.not_not.mp h5)) nm_FB_39 ns_FB_requireUp nv_FB_requireUp nz_FB nc_FB_requireUp ni_FB_requireUp 0 rfl rfl ⟨rfl, rfl, by decide, by decide⟩ ⟨Nat.le_of_ble_eq_true rfl, Nat.le_of_ble_eq_true rfl⟩ (Nat.le_of_ble_eq_true rfl) nd_FB_commit_1 rfl ?_
    refine vv_aload_n fx nd_FB_commit_4 rfl 0 rfl ?_
    refine vv_callVi (C := nr_FB) (T := nt_FB) (N := 6) (ci := 0) fx (cc_FB_writesNeeded l Y M U o (rf_fbK hI)) nm_FB_119 ns_FB_writesNeeded nv_FB_writesNeeded nz_FB nc_FB_writesNeeded ni_FB_writesNeeded 0 rfl rfl ⟨rfl, rfl, by decide, by decide⟩ ⟨Nat.le_of_ble_eq_true rfl, Nat.le_of_ble_eq_true rfl⟩ (Nat.le_of_ble_eq_true rfl) nd_FB_commit_5 rfl ?_
    have n5 : ∀ j, (fb_mr M).2 5 j = M 5 j := fun j => congrFun (fb_mr_n M (by decide)) j
    refine vv_istore_n (L' := [(0, .ref (Y.2.1 0)), (1, .int (fb_due0 M))]) fx nd_FB_commit_8 rfl (by decide) [1, 0] rfl ?_
    refine vv_aload_n fx nd_FB_commit_9 rfl 0 rfl ?_
    refine vv_iload_n fx nd_FB_commit_10 rfl 1 rfl ?_
    refine vv_callVi (C := nr_FB) (T := nt_FB) (N := 6) (ci := 0) fx (cc_FB_failsWithin l Y (fb_mr M).2 U o (fb_due0 M)) nm_FB_122 ns_FB_failsWithin nv_FB_failsWithin nz_FB nc_FB_failsWithin ni_FB_failsWithin 0 rfl rfl ⟨rfl, rfl, by decide, by decide⟩ ⟨Nat.le_of_ble_eq_true rfl, Nat.le_of_ble_eq_true rfl⟩ (Nat.le_of_ble_eq_true rfl) nd_FB_commit_11 rfl ?_
    have n3 : (fb_mr M).2 3 = M 3 := fb_mr_n M (by decide)
    have n4 : (fb_mr M).2 4 = M 4 := fb_mr_n M (by decide)
    refine vv_if_eq (tgt := 31) fx nd_FB_commit_14 (by decide) (fun hb14 => ?_) (fun hb14 => ?_)
    · have hf : ¬ (M 5 2 ≠ -1 ∧ M 5 2 < (fb_due0 M)) := by have h9 := b01_0 hb14; rw [n5] at h9; intro q; rw [decide_eq_true q.1, decide_eq_true q.2] at h9; exact absurd h9 (by decide)
      refine vv_aload_n fx nd_FB_commit_31 rfl 0 rfl ?_
      refine vv_get (ci := 0) (C := nr_FB) (T := nt_FB) (N := 6) fx nt_FB_in 0 rfl rfl 5 (by decide) nf_FB_23 rfl nd_FB_commit_32 ?_
      refine vv_iconst (v := -1) fx nd_FB_commit_35 (by decide) ?_
      refine vv_icmp_eq (tgt := 49) fx nd_FB_commit_36 (by decide) (fun hb36 => ?_) (fun hb36 => ?_)
      · rw [n5] at hb36
        have q1 : ((fb_mr M).2) 5 1 = M 5 1 := n5 1
        have q3 : (me_up ((fb_mr M).2) 5 1 (M 5 1 + (fb_due0 M))) 3 = M 3 := by rw [me_up_n _ _ _ (by decide)]; exact n3
        have q4 : (me_up ((fb_mr M).2) 5 1 (M 5 1 + (fb_due0 M))) 4 = M 4 := by rw [me_up_n _ _ _ (by decide)]; exact n4
        rw [show fb_commit M = (0, (fb_due0 M), fb_freeze (me_set (me_up ((fb_mr M).2) 5 1 (M 5 1 + (fb_due0 M))) 4 (va_cpy (M 3) (M 4) 0 0 7))) from (if_neg h5).trans ((if_neg hf).trans (by rw [if_neg (fun q => q hb36)]))]
        refine vv_aload_n fx nd_FB_commit_49 rfl 0 rfl ?_
        refine vv_dup fx nd_FB_commit_50 rfl ?_
        refine vv_get (ci := 0) (C := nr_FB) (T := nt_FB) (N := 6) fx nt_FB_in 0 rfl rfl 4 (by decide) nf_FB_133 rfl nd_FB_commit_51 ?_
        refine vv_iload_n fx nd_FB_commit_54 rfl 1 rfl ?_
        refine vv_iadd fx nd_FB_commit_55 ?_
        refine vv_top (y := M 5 1 + (fb_due0 M)) (by rw [q1]) ?_
        refine vv_put (M' := me_up ((fb_mr M).2) 5 1 (M 5 1 + (fb_due0 M))) (U' := U) (ci := 0) (C := nr_FB) (T := nt_FB) (N := 6) (ty := .int) fx nt_FB_in nt_FB_ty nt_FB_ok nt_FB_nm 0 rfl rfl 4 (by decide) nf_FB_133 rfl (by decide +kernel) rfl rfl (Nat.le_of_ble_eq_true rfl) nd_FB_commit_56 (sy_put1 _) ?_
        refine vv_aload_n fx nd_FB_commit_59 rfl 0 rfl ?_
        refine vv_get (ci := 0) (C := nr_FB) (T := nt_FB) (N := 6) fx nt_FB_in 0 rfl rfl 1 (by decide) nf_FB_16 rfl nd_FB_commit_60 ?_
        refine vv_iconst (v := nI 0) fx nd_FB_commit_63 (by decide) ?_
        refine vv_aload_n fx nd_FB_commit_64 rfl 0 rfl ?_
        refine vv_get (ci := 0) (C := nr_FB) (T := nt_FB) (N := 6) fx nt_FB_in 0 rfl rfl 2 (by decide) nf_FB_20 rfl nd_FB_commit_65 ?_
        refine vv_iconst (v := nI 0) fx nd_FB_commit_68 (by decide) ?_
        refine vv_aload_n fx nd_FB_commit_69 rfl 0 rfl ?_
        refine vv_get (ci := 0) (C := nr_FB) (T := nt_FB) (N := 6) fx nt_FB_in 0 rfl rfl 1 (by decide) nf_FB_16 rfl nd_FB_commit_70 ?_
        refine vv_alen fx 2 0 rfl rfl nd_FB_commit_73 ?_
        refine vv_copy (M' := me_set (me_up ((fb_mr M).2) 5 1 (M 5 1 + (fb_due0 M))) 4 (va_cpy ((me_up ((fb_mr M).2) 5 1 (M 5 1 + (fb_due0 M))) 3) ((me_up ((fb_mr M).2) 5 1 (M 5 1 + (fb_due0 M))) 4) 0 0 7)) (U' := U) (n := 7) fx nm_FB_33 2 3 (rfl) (rfl) (by decide) (by decide) (by decide) (by decide) (Nat.le_of_ble_eq_true rfl) nd_FB_commit_74 (sy_set4 _) ?_
        refine vv_mem (M9 := me_set (me_up ((fb_mr M).2) 5 1 (M 5 1 + (fb_due0 M))) 4 (va_cpy (M 3) (M 4) 0 0 7)) (U9 := U) (by rw [q3, q4]) (rfl) ?_
        refine vv_aload_n fx nd_FB_commit_77 rfl 0 rfl ?_
        refine vv_get (ci := 0) (C := nr_FB) (T := nt_FB) (N := 6) fx nt_FB_in 0 rfl rfl 0 (by decide) nf_FB_10 rfl nd_FB_commit_78 ?_
        refine vv_callVv (C := nr_RM) (T := nt_RM) (N := 4) (ci := 1) fx (cc_RM_freeze l Y (me_set (me_up ((fb_mr M).2) 5 1 (M 5 1 + (fb_due0 M))) 4 (va_cpy (M 3) (M 4) 0 0 7)) U o) nm_FB_110 ns_RM_freeze nv_RM_freeze nz_RM nc_RM_freeze ni_RM_freeze 1 rfl rfl ⟨rfl, rfl, by decide, by decide⟩ ⟨Nat.le_of_ble_eq_true rfl, Nat.le_of_ble_eq_true rfl⟩ (Nat.le_of_ble_eq_true rfl) nd_FB_commit_81 rfl ?_
        refine vv_iload_n fx nd_FB_commit_84 rfl 1 rfl ?_
        exact vv_ixret fx rfl nd_FB_commit_85 (rfl) (rfl) (Nat.le_of_ble_eq_true rfl) (Nat.le_of_ble_eq_true rfl)
      · rw [n5] at hb36
        refine vv_aload_n fx nd_FB_commit_39 rfl 0 rfl ?_
        refine vv_dup fx nd_FB_commit_40 rfl ?_
        refine vv_get (ci := 0) (C := nr_FB) (T := nt_FB) (N := 6) fx nt_FB_in 0 rfl rfl 5 (by decide) nf_FB_23 rfl nd_FB_commit_41 ?_
        refine vv_iload_n fx nd_FB_commit_44 rfl 1 rfl ?_
        refine vv_isub fx nd_FB_commit_45 ?_
        refine vv_top (y := M 5 2 - (fb_due0 M)) (by rw [n5]) ?_
        refine vv_put (M' := me_up ((fb_mr M).2) 5 2 (M 5 2 - (fb_due0 M))) (U' := U) (ci := 0) (C := nr_FB) (T := nt_FB) (N := 6) (ty := .int) fx nt_FB_in nt_FB_ty nt_FB_ok nt_FB_nm 0 rfl rfl 5 (by decide) nf_FB_23 rfl (by decide +kernel) rfl rfl (Nat.le_of_ble_eq_true rfl) nd_FB_commit_46 (sy_put2 _) ?_
        have q1 : (me_up (fb_mr M).2 5 2 (M 5 2 - (fb_due0 M))) 5 1 = M 5 1 := by rw [me_up_j _ _ _ (by decide)]; exact n5 1
        have q3 : (me_up (me_up (fb_mr M).2 5 2 (M 5 2 - (fb_due0 M))) 5 1 (M 5 1 + (fb_due0 M))) 3 = M 3 := by rw [me_up_n _ _ _ (by decide), me_up_n _ _ _ (by decide)]; exact n3
        have q4 : (me_up (me_up (fb_mr M).2 5 2 (M 5 2 - (fb_due0 M))) 5 1 (M 5 1 + (fb_due0 M))) 4 = M 4 := by rw [me_up_n _ _ _ (by decide), me_up_n _ _ _ (by decide)]; exact n4
        rw [show fb_commit M = (0, (fb_due0 M), fb_freeze (me_set (me_up (me_up (fb_mr M).2 5 2 (M 5 2 - (fb_due0 M))) 5 1 (M 5 1 + (fb_due0 M))) 4 (va_cpy (M 3) (M 4) 0 0 7))) from (if_neg h5).trans ((if_neg hf).trans (by rw [if_pos hb36]))]
        refine vv_aload_n fx nd_FB_commit_49 rfl 0 rfl ?_
        refine vv_dup fx nd_FB_commit_50 rfl ?_
        refine vv_get (ci := 0) (C := nr_FB) (T := nt_FB) (N := 6) fx nt_FB_in 0 rfl rfl 4 (by decide) nf_FB_133 rfl nd_FB_commit_51 ?_
        refine vv_iload_n fx nd_FB_commit_54 rfl 1 rfl ?_
        refine vv_iadd fx nd_FB_commit_55 ?_
        refine vv_top (y := M 5 1 + (fb_due0 M)) (by rw [q1]) ?_
        refine vv_put (M' := me_up (me_up ((fb_mr M).2) 5 2 (M 5 2 - (fb_due0 M))) 5 1 (M 5 1 + (fb_due0 M))) (U' := U) (ci := 0) (C := nr_FB) (T := nt_FB) (N := 6) (ty := .int) fx nt_FB_in nt_FB_ty nt_FB_ok nt_FB_nm 0 rfl rfl 4 (by decide) nf_FB_133 rfl (by decide +kernel) rfl rfl (Nat.le_of_ble_eq_true rfl) nd_FB_commit_56 (sy_put1 _) ?_
        refine vv_aload_n fx nd_FB_commit_59 rfl 0 rfl ?_
        refine vv_get (ci := 0) (C := nr_FB) (T := nt_FB) (N := 6) fx nt_FB_in 0 rfl rfl 1 (by decide) nf_FB_16 rfl nd_FB_commit_60 ?_
        refine vv_iconst (v := nI 0) fx nd_FB_commit_63 (by decide) ?_
        refine vv_aload_n fx nd_FB_commit_64 rfl 0 rfl ?_
        refine vv_get (ci := 0) (C := nr_FB) (T := nt_FB) (N := 6) fx nt_FB_in 0 rfl rfl 2 (by decide) nf_FB_20 rfl nd_FB_commit_65 ?_
        refine vv_iconst (v := nI 0) fx nd_FB_commit_68 (by decide) ?_
        refine vv_aload_n fx nd_FB_commit_69 rfl 0 rfl ?_
        refine vv_get (ci := 0) (C := nr_FB) (T := nt_FB) (N := 6) fx nt_FB_in 0 rfl rfl 1 (by decide) nf_FB_16 rfl nd_FB_commit_70 ?_
        refine vv_alen fx 2 0 rfl rfl nd_FB_commit_73 ?_
        refine vv_copy (M' := me_set (me_up (me_up (fb_mr M).2 5 2 (M 5 2 - (fb_due0 M))) 5 1 (M 5 1 + (fb_due0 M))) 4 (va_cpy ((me_up (me_up (fb_mr M).2 5 2 (M 5 2 - (fb_due0 M))) 5 1 (M 5 1 + (fb_due0 M))) 3) ((me_up (me_up (fb_mr M).2 5 2 (M 5 2 - (fb_due0 M))) 5 1 (M 5 1 + (fb_due0 M))) 4) 0 0 7)) (U' := U) (n := 7) fx nm_FB_33 2 3 (rfl) (rfl) (by decide) (by decide) (by decide) (by decide) (Nat.le_of_ble_eq_true rfl) nd_FB_commit_74 (sy_set4 _) ?_
        refine vv_mem (M9 := me_set (me_up (me_up (fb_mr M).2 5 2 (M 5 2 - (fb_due0 M))) 5 1 (M 5 1 + (fb_due0 M))) 4 (va_cpy (M 3) (M 4) 0 0 7)) (U9 := U) (by rw [q3, q4]) (rfl) ?_
        refine vv_aload_n fx nd_FB_commit_77 rfl 0 rfl ?_
        refine vv_get (ci := 0) (C := nr_FB) (T := nt_FB) (N := 6) fx nt_FB_in 0 rfl rfl 0 (by decide) nf_FB_10 rfl nd_FB_commit_78 ?_
        refine vv_callVv (C := nr_RM) (T := nt_RM) (N := 4) (ci := 1) fx (cc_RM_freeze l Y (me_set (me_up (me_up (fb_mr M).2 5 2 (M 5 2 - (fb_due0 M))) 5 1 (M 5 1 + (fb_due0 M))) 4 (va_cpy (M 3) (M 4) 0 0 7)) U o) nm_FB_110 ns_RM_freeze nv_RM_freeze nz_RM nc_RM_freeze ni_RM_freeze 1 rfl rfl ⟨rfl, rfl, by decide, by decide⟩ ⟨Nat.le_of_ble_eq_true rfl, Nat.le_of_ble_eq_true rfl⟩ (Nat.le_of_ble_eq_true rfl) nd_FB_commit_81 rfl ?_
        refine vv_iload_n fx nd_FB_commit_84 rfl 1 rfl ?_
        exact vv_ixret fx rfl nd_FB_commit_85 (rfl) (rfl) (Nat.le_of_ble_eq_true rfl) (Nat.le_of_ble_eq_true rfl)
    · have hf : M 5 2 ≠ -1 ∧ M 5 2 < (fb_due0 M) := by have h9 := b01_1 hb14; rw [n5, Bool.and_eq_true] at h9; exact ⟨of_decide_eq_true h9.1, of_decide_eq_true h9.2⟩
      rw [show fb_commit M = (1, 0, me_up (me_up (me_up (fb_mr M).2 5 1 (M 5 1 + M 5 2)) 5 2 (-1)) 5 0 1) from (if_neg h5).trans (if_pos hf)]
      refine vv_aload_n fx nd_FB_commit_17 rfl 0 rfl ?_
      refine vv_callVv (C := nr_FB) (T := nt_FB) (N := 6) (ci := 0) fx (cc_FB_losePower l Y (fb_mr M).2 U o) nm_FB_125 ns_FB_losePower nv_FB_losePower nz_FB nc_FB_losePower ni_FB_losePower 0 rfl rfl ⟨rfl, rfl, by decide, by decide⟩ ⟨Nat.le_of_ble_eq_true rfl, Nat.le_of_ble_eq_true rfl⟩ (Nat.le_of_ble_eq_true rfl) nd_FB_commit_18 rfl ?_
      refine vv_mem (M9 := me_up (me_up (me_up (fb_mr M).2 5 1 (M 5 1 + M 5 2)) 5 2 (-1)) 5 0 1) (U9 := U) (by rw [n5, n5]) (rfl) ?_
      exact vv_throw_1 (text := "the power failed") fx htab hst (by decide +kernel) nd_FB_commit_21 nd_FB_commit_24 nd_FB_commit_25 nd_FB_commit_27 nd_FB_commit_30 (Nat.le_of_ble_eq_true rfl) (Nat.le_of_ble_eq_true rfl) (Nat.le_of_ble_eq_true rfl) (Nat.le_of_ble_eq_true rfl) (rfl) (rfl) (rfl) (rfl) (Nat.le_of_ble_eq_true rfl) (Nat.le_of_ble_eq_true rfl)
set_option maxRecDepth 4000 in
theorem cc_FB_free (l : Launch) (Y : sy_Y) (M U : me_M) (o : Int64) {N : Nat} (hst : l.stackTraces = false) (hI : rf_I M U N) : ct_IX l ny_FB_free nb_FB_free 1 (some .int) { frames := 7, cells := 1, slots := 6, locals := 114 } Y [.ref (Y.2.1 0)] M U o ((fb_freeC M).1) ((fb_freeC M).2.1) ((fb_freeC M).2.2) U o 1 6 := by
  refine ct_bodyX (own := nr_FB) (L0 := [(0, .ref (Y.2.1 0))]) (by decide) rfl (Nat.le_of_ble_eq_true rfl) rfl ?_
  intro p e s m args below meth c fx htab
  by_cases h5 : M 5 0 ≠ 0
  · rw [show fb_freeC M = (1, 0, M) from if_pos h5]
    refine vv_aload_n fx nd_FB_free_0 rfl 0 rfl ?_
    exact vv_callVxv (C := nr_FB) (T := nt_FB) (N := 6) (ci := 0) fx htab (cc_FB_requireUp1 l Y M U o hst h5) nm_FB_39 ns_FB_requireUp nv_FB_requireUp nz_FB nc_FB_requireUp ni_FB_requireUp 0 rfl rfl ⟨rfl, rfl, by decide, by decide⟩ ⟨(Nat.le_of_ble_eq_true rfl), (Nat.le_of_ble_eq_true rfl)⟩ (Nat.le_of_ble_eq_true rfl) nd_FB_free_1 rfl (fun _ => ⟨rfl, rfl, rfl, rfl⟩) (Nat.le_of_ble_eq_true rfl) (Nat.le_of_ble_eq_true rfl) (fun z => absurd z (by decide))
  · refine vv_aload_n fx nd_FB_free_0 rfl 0 rfl ?_
    refine vv_callVv (C := nr_FB) (T := nt_FB) (N := 6) (ci := 0) fx (cc_FB_requireUp0 l Y M U o (Classical.not_not.mp h5)) nm_FB_39 ns_FB_requireUp nv_FB_requireUp nz_FB nc_FB_requireUp ni_FB_requireUp 0 rfl rfl ⟨rfl, rfl, by decide, by decide⟩ ⟨Nat.le_of_ble_eq_true rfl, Nat.le_of_ble_eq_true rfl⟩ (Nat.le_of_ble_eq_true rfl) nd_FB_free_1 rfl ?_
    rw [show fb_freeC M = (0, fb_free M, (fb_mr M).2) from if_neg h5]
    refine vv_aload_n fx nd_FB_free_4 rfl 0 rfl ?_
    refine vv_callVi (C := nr_FB) (T := nt_FB) (N := 6) (ci := 0) fx (cc_FB_freeNodes l Y M U o (rf_fbK hI)) nm_FB_116 ns_FB_freeNodes nv_FB_freeNodes nz_FB nc_FB_freeNodes ni_FB_freeNodes 0 rfl rfl ⟨rfl, rfl, by decide, by decide⟩ ⟨Nat.le_of_ble_eq_true rfl, Nat.le_of_ble_eq_true rfl⟩ (Nat.le_of_ble_eq_true rfl) nd_FB_free_5 rfl ?_
    exact vv_ixret fx rfl nd_FB_free_8 (rfl) (rfl) (Nat.le_of_ble_eq_true rfl) (Nat.le_of_ble_eq_true rfl)
set_option maxRecDepth 4000 in
theorem cc_FB_due (l : Launch) (Y : sy_Y) (M U : me_M) (o : Int64) {N : Nat} (hst : l.stackTraces = false) (hI : rf_I M U N) : ct_IX l ny_FB_due nb_FB_due 1 (some .int) { frames := 7, cells := 1, slots := 6, locals := 114 } Y [.ref (Y.2.1 0)] M U o ((fb_due M).1) ((fb_due M).2.1) ((fb_due M).2.2) U o 1 6 := by
  refine ct_bodyX (own := nr_FB) (L0 := [(0, .ref (Y.2.1 0))]) (by decide) rfl (Nat.le_of_ble_eq_true rfl) rfl ?_
  intro p e s m args below meth c fx htab
  by_cases h5 : M 5 0 ≠ 0
  · rw [show fb_due M = (1, 0, M) from if_pos h5]
    refine vv_aload_n fx nd_FB_due_0 rfl 0 rfl ?_
    exact vv_callVxv (C := nr_FB) (T := nt_FB) (N := 6) (ci := 0) fx htab (cc_FB_requireUp1 l Y M U o hst h5) nm_FB_39 ns_FB_requireUp nv_FB_requireUp nz_FB nc_FB_requireUp ni_FB_requireUp 0 rfl rfl ⟨rfl, rfl, by decide, by decide⟩ ⟨(Nat.le_of_ble_eq_true rfl), (Nat.le_of_ble_eq_true rfl)⟩ (Nat.le_of_ble_eq_true rfl) nd_FB_due_1 rfl (fun _ => ⟨rfl, rfl, rfl, rfl⟩) (Nat.le_of_ble_eq_true rfl) (Nat.le_of_ble_eq_true rfl) (fun z => absurd z (by decide))
  · refine vv_aload_n fx nd_FB_due_0 rfl 0 rfl ?_
    refine vv_callVv (C := nr_FB) (T := nt_FB) (N := 6) (ci := 0) fx (cc_FB_requireUp0 l Y M U o (Classical.not_not.mp h5)) nm_FB_39 ns_FB_requireUp nv_FB_requireUp nz_FB nc_FB_requireUp ni_FB_requireUp 0 rfl rfl ⟨rfl, rfl, by decide, by decide⟩ ⟨Nat.le_of_ble_eq_true rfl, Nat.le_of_ble_eq_true rfl⟩ (Nat.le_of_ble_eq_true rfl) nd_FB_due_1 rfl ?_
    rw [show fb_due M = (0, fb_due0 M, (fb_mr M).2) from if_neg h5]
    refine vv_aload_n fx nd_FB_due_4 rfl 0 rfl ?_
    refine vv_callVi (C := nr_FB) (T := nt_FB) (N := 6) (ci := 0) fx (cc_FB_writesNeeded l Y M U o (rf_fbK hI)) nm_FB_119 ns_FB_writesNeeded nv_FB_writesNeeded nz_FB nc_FB_writesNeeded ni_FB_writesNeeded 0 rfl rfl ⟨rfl, rfl, by decide, by decide⟩ ⟨Nat.le_of_ble_eq_true rfl, Nat.le_of_ble_eq_true rfl⟩ (Nat.le_of_ble_eq_true rfl) nd_FB_due_5 rfl ?_
    exact vv_ixret fx rfl nd_FB_due_8 (rfl) (rfl) (Nat.le_of_ble_eq_true rfl) (Nat.le_of_ble_eq_true rfl)
end
