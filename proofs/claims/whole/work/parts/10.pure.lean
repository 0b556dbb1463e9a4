/-! A memory for all numbers of an object: place (a, j). Class: 0 openTurns, 1 fresh, 2 marked, 3 roots, 4 diskRoots, 5 (powerless, writesMade, writesBeforeFailure), 6 + n the ways of node n.
Reference (a memory of its own, U): 0 there, 1 bound, 2 values, 3 numbers, 4 (code, made, mark, writes, failAfter, down). What each method does, as it is written in Java, over that memory. -/
abbrev me_M : Type := Nat → Nat → Int32
def me_set (M : me_M) (a : Nat) (f : Nat → Int32) : me_M := fun x => if x = a then f else M x
def me_up (M : me_M) (a j : Nat) (v : Int32) : me_M := me_set M a (upd (M a) j v)
theorem me_set_s (M : me_M) (a : Nat) (f : Nat → Int32) : me_set M a f a = f := if_pos rfl
theorem me_set_n (M : me_M) {a x : Nat} (f : Nat → Int32) (h : x ≠ a) : me_set M a f x = M x := if_neg h
theorem me_set_i (M : me_M) (a : Nat) : me_set M a (M a) = M := by
  funext x
  unfold me_set
  split
  · rename_i h; rw [h]
  · rfl
theorem me_set_2 (M : me_M) (a : Nat) (f g : Nat → Int32) : me_set (me_set M a f) a g = me_set M a g := by
  funext x
  unfold me_set
  split <;> rfl
theorem me_up_s (M : me_M) (a j : Nat) (v : Int32) : me_up M a j v a j = v := by
  unfold me_up; rw [me_set_s]; unfold upd; exact if_pos rfl
theorem me_up_a (M : me_M) (a j : Nat) (v : Int32) : me_up M a j v a = upd (M a) j v := me_set_s _ _ _
theorem me_up_j (M : me_M) (a : Nat) {j i : Nat} (v : Int32) (h : i ≠ j) : me_up M a j v a i = M a i := by
  unfold me_up; rw [me_set_s]; unfold upd; exact if_neg h
theorem me_up_n (M : me_M) {a x : Nat} (j : Nat) (v : Int32) (h : x ≠ a) : me_up M a j v x = M x := me_set_n M _ h
def me_zero (M : me_M) (a lo hi : Nat) : me_M := me_set M a (fun j => if lo ≤ j ∧ j < hi then 0 else M a j)
/-- how many below n have P -/
def me_cn (P : Nat → Bool) : Nat → Nat
  | 0 => 0
  | n + 1 => me_cn P n + if P n then 1 else 0
theorem me_cn_le (P : Nat → Bool) (n : Nat) : me_cn P n ≤ n := by
  induction n with
  | zero => exact Nat.le_refl 0
  | succ n ih => unfold me_cn; split <;> omega
theorem me_cn_congr {P Q : Nat → Bool} {n : Nat} (h : ∀ i, i < n → P i = Q i) : me_cn P n = me_cn Q n := by
  induction n with
  | zero => rfl
  | succ n ih => unfold me_cn; rw [ih (fun i hi => h i (by omega)), h n (by omega)]
/-! the class -/
def fb_tn (k l : Nat) : Nat := k / 4 ^ (2 - l) % 4
theorem fb_tn_lt (k l : Nat) : fb_tn k l < 4 := Nat.mod_lt _ (by decide)
def fb_bit (k l : Nat) : Int32 := (1 : Int32) <<< (nI (fb_tn k l) &&& 31)
def fb_ch (M : me_M) (n t : Nat) : Nat := (M (6 + n) t).toNatClampNeg
def fb_na (M : me_M) (r k : Nat) : Nat → Nat
  | 0 => r
  | l + 1 => fb_ch M (fb_na M r k l) (fb_tn k l)
def fb_w1 (M : me_M) (n : Nat) : Prop := ∀ t, t < 4 → M (6 + n) t = nI (fb_ch M n t) ∧ fb_ch M n t ≤ 60
def fb_wf (M : me_M) (r : Nat) : Prop := r ≤ 60 ∧ fb_w1 M r ∧ ∀ t, t < 4 → fb_w1 M (fb_ch M r t)
def fb_bd (M : me_M) (r k : Nat) : Bool := decide (M 0 (fb_na M r k 2) &&& fb_bit k 2 ≠ 0)
def fb_val (M : me_M) (r k : Nat) : Int32 := M (6 + fb_na M r k 2) (fb_tn k 2)
def fb_hne (M : me_M) (r k l : Nat) : Bool := decide (M 0 (fb_na M r k l) = fb_bit k l)
def fb_lw (M : me_M) (r k : Nat) : Nat → Nat
  | 0 => 0
  | l + 1 => if fb_hne M r k l then fb_lw M r k l else l + 1
def fb_ntm (M : me_M) (r k L : Nat) : Nat := me_cn (fun l => decide (M 1 (fb_na M r k l) = 0)) L
def fb_tu (M : me_M) : Nat → Nat → Nat
  | 0, n => n
  | f + 1, n => if n < 60 ∧ M 2 n ≠ 0 then fb_tu M f (n + 1) else n
def fb_own (M : me_M) (n : Nat) : Nat × me_M := if M 1 n ≠ 0 then (n, M) else
  (fb_tu M 60 1, me_up (me_up (me_set (me_up M 2 (fb_tu M 60 1) 1) (6 + fb_tu M 60 1) (va_cpy (M (6 + n)) (M (6 + fb_tu M 60 1)) 0 0 4)) 0 (fb_tu M 60 1) (M 0 n)) 1 (fb_tu M 60 1) 1)
def fb_open (M : me_M) (n k l : Nat) (w : Int32) : me_M := me_up (me_up M (6 + n) (fb_tn k l) w) 0 n (M 0 n ||| fb_bit k l)
def fb_opl (k : Nat) (st : Nat × me_M) : Nat → Nat × me_M
  | 0 => st
  | i + 1 => ((fb_own (fb_opl k st i).2 (fb_ch (fb_opl k st i).2 (fb_opl k st i).1 (fb_tn k i))).1,
      fb_open (fb_own (fb_opl k st i).2 (fb_ch (fb_opl k st i).2 (fb_opl k st i).1 (fb_tn k i))).2 (fb_opl k st i).1 k i (nI (fb_own (fb_opl k st i).2 (fb_ch (fb_opl k st i).2 (fb_opl k st i).1 (fb_tn k i))).1))
def fb_op (M : me_M) (r k : Nat) : Nat → Nat × me_M
  | 0 => (0, M)
  | L + 1 => ((fb_own M r).1, (fb_opl k (fb_own M r) L).2)
def fb_bind (M : me_M) (r k : Nat) (v : Int32) : me_M := fb_open M (fb_na M r k 2) k 2 v
def fb_cut (M : me_M) (r k : Nat) : Nat → me_M
  | 0 => M
  | L + 1 => me_up (me_up M (6 + fb_na M r k L) (fb_tn k L) 0) 0 (fb_na M r k L) (M 0 (fb_na M r k L) &&& (fb_bit k L ^^^ (-1)))
def fb_freeze (M : me_M) : me_M := me_zero M 1 0 61
def fb_unmark (M : me_M) : me_M := me_zero M 2 0 61
def fb_vi (st : Nat × (Nat → Int32)) (n : Nat) : Nat × (Nat → Int32) := if n ≠ 0 ∧ st.2 n = 0 then (st.1 + 1, upd st.2 n 1) else st
def fb_mk1 (M : me_M) (r k : Nat) (st : Nat × (Nat → Int32)) : Nat → Nat × (Nat → Int32)
  | 0 => st
  | l + 1 => fb_vi (fb_mk1 M r k st l) (fb_na M r k l)
def fb_mk2 (M : me_M) (r : Nat) (st : Nat × (Nat → Int32)) : Nat → Nat × (Nat → Int32)
  | 0 => st
  | i + 1 => fb_mk1 M r (4 * i) (fb_mk2 M r st i) 3
def fb_mark (M : me_M) (r : Nat) : Nat × me_M := if r = 0 ∨ M 2 r ≠ 0 then (0, M) else ((fb_mk2 M r (0, M 2) 16).1, me_set M 2 (fb_mk2 M r (0, M 2) 16).2)
/-- the maps of the array a (3: roots, 4: diskRoots), those below h -/
def fb_mm (M : me_M) (a : Nat) : Nat → Nat × me_M
  | 0 => (0, M)
  | h + 1 => if M a h = -1 then fb_mm M a h else ((fb_mm M a h).1 + (fb_mark (fb_mm M a h).2 (M a h).toNatClampNeg).1, (fb_mark (fb_mm M a h).2 (M a h).toNatClampNeg).2)
def fb_md (M : me_M) : Nat × me_M := fb_mm (fb_unmark M) 4 7
def fb_mr (M : me_M) : Nat × me_M := fb_mm (fb_md M).2 3 7
def fb_free (M : me_M) : Int32 := nI 60 - nI (fb_md M).1 - nI (fb_mr M).1
def fb_kb (M : me_M) (r : Nat) : Nat := me_cn (fb_bd M r) 64
def fb_alike (M : me_M) (a b k : Nat) : Bool := if fb_bd M a k && fb_bd M b k then decide (fb_val M a k = fb_val M b k) else fb_bd M a k == fb_bd M b k
/-- the least h from 1 on with M a h = -1, below 7; else 7 -/
def fb_lu (M : me_M) : Nat → Nat → Nat
  | 0, h => h
  | f + 1, h => if h < 7 ∧ M 3 h ≠ -1 then fb_lu M f (h + 1) else h
/-! The reference -/
def mo_copy (U : me_M) (f t : Nat) : me_M := me_set (me_set (me_set (me_up U 0 t (U 0 f)) 1 (va_cpy (U 1) (U 1) (64 * f) (64 * t) 64)) 2 (va_cpy (U 2) (U 2) (64 * f) (64 * t) 64)) 3 (va_cpy (U 3) (U 3) (21 * f) (21 * t) 21)
def mo_empty (U : me_M) (m : Nat) : me_M := me_zero (me_zero (me_up U 0 m 0) 1 (64 * m) (64 * m + 64)) 3 (21 * m) (21 * m + 21)
def mo_bi (U : me_M) (m lo n : Nat) : Nat := me_cn (fun i => decide (U 1 (64 * m + (lo + i)) ≠ 0)) n
/-- number x at place p in one of the n maps from lo on -/
def mo_in (U : me_M) (x : Int32) (p lo : Nat) : Nat → Bool
  | 0 => false
  | n + 1 => mo_in U x p lo n || decide (U 3 (21 * (lo + n) + p) = x)
def mo_d1 (U : me_M) (p lo n : Nat) : Nat := me_cn (fun i => decide (0 < U 3 (21 * (lo + i) + p)) && !mo_in U (U 3 (21 * (lo + i) + p)) p lo i) n
def mo_df (U : me_M) (lo n : Nat) : Nat → Nat
  | 0 => 0
  | p + 1 => mo_df U lo n p + mo_d1 U p lo n
def mo_free (U : me_M) : Int32 := 60 - nI (mo_df U 0 14 21)
def mo_pl (l k : Nat) : Nat := if l = 0 then 0 else if l = 1 then 1 + k / 16 else 5 + k / 4
def mo_many (l : Nat) : Nat := if l = 0 then 64 else if l = 1 then 16 else 4
def mo_below (U : me_M) (l k : Nat) : Nat := mo_bi U 0 (k - k % mo_many l) (mo_many l)
def mo_makes (U : me_M) (l k : Nat) (more : Int32) : Bool := decide (0 < nI (mo_below U l k) + more) && decide (U 3 (mo_pl l k) ≤ U 4 2)
def mo_fn (U : me_M) (k : Nat) (more : Int32) : Nat := me_cn (fun l => mo_makes U l k more) 3
def mo_c1 (U : me_M) (k : Nat) (more : Int32) (l : Nat) : me_M := if mo_makes U l k more then me_up (me_up U 4 1 (U 4 1 + 1)) 3 (mo_pl l k) (U 4 1 + 1) else U
def mo_c2 (U : me_M) (k : Nat) (more : Int32) (l : Nat) : me_M := me_up (mo_c1 U k more l) 3 (mo_pl l k) (if 0 < nI (mo_below U l k) + more then mo_c1 U k more l 3 (mo_pl l k) else 0)
def mo_cl (U : me_M) (k : Nat) (more : Int32) : Nat → me_M
  | 0 => U
  | l + 1 => mo_c2 (mo_cl U k more l) k more l
def mo_change (U : me_M) (k : Nat) (more : Int32) : me_M := me_up (mo_cl U k more 3) 1 k (if 0 ≤ more then 1 else 0)
