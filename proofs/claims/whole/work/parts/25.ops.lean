/-! the calls, as Java has them: of the class (which exception: 0 none, 1 IllegalState, 2 IllegalArgument, 3 UnsupportedOperation, 4 NoSuchElement; answer; memory), of the reference (answer, memory) -/
def fb_isk (k : Int32) : Bool := decide (0 ≤ k) && decide (k < 64)
def fb_ism (M : me_M) (h : Int32) : Bool := decide (0 ≤ h) && decide (h < 7) && decide (M 3 h.toNatClampNeg ≠ -1)
def fb_iss (M : me_M) (h : Int32) : Bool := decide (h ≠ 0) && fb_ism M h
def fb_r (M : me_M) (h : Nat) : Nat := (M 3 h).toNatClampNeg
abbrev fb_X : Type := Nat × Int32 × me_M
def fb_ocp (M : me_M) (k L : Nat) : Bool × me_M := if fb_free M < nI (fb_ntm (fb_mr M).2 (fb_r M 0) k L) then (true, (fb_mr M).2) else (false, me_up (fb_op (fb_mr M).2 (fb_r M 0) k L).2 3 0 (nI (fb_op (fb_mr M).2 (fb_r M 0) k L).1))
def fb_put2 (M : me_M) (k : Nat) (v : Int32) : fb_X := if (fb_bd M (fb_r M 0) k && decide (fb_val M (fb_r M 0) k = v)) = true then (0, 2, M) else
  if (fb_ocp M k 3).1 = true then (3, 0, (fb_ocp M k 3).2) else (0, if fb_bd M (fb_r M 0) k = true then 1 else 0, fb_bind (fb_ocp M k 3).2 (fb_r (fb_ocp M k 3).2 0) k v)
def fb_put (M : me_M) (k v : Int32) : fb_X := if M 5 0 ≠ 0 then (1, 0, M) else if fb_isk k = false then (2, 0, M) else fb_put2 M k.toNatClampNeg v
def fb_remove2 (M : me_M) (k L : Nat) : fb_X := if (fb_ocp M k L).1 = true then (3, 0, (fb_ocp M k L).2) else (0, fb_val M (fb_r M 0) k, fb_cut (fb_ocp M k L).2 (fb_r (fb_ocp M k L).2 0) k L)
def fb_remove (M : me_M) (k : Int32) : fb_X := if M 5 0 ≠ 0 then (1, 0, M) else if (fb_isk k && fb_bd M (fb_r M 0) k.toNatClampNeg) = false then (4, 0, M) else fb_remove2 M k.toNatClampNeg (fb_lw M (fb_r M 0) k.toNatClampNeg 3)
def fb_get (M : me_M) (h k : Int32) : fb_X := if M 5 0 ≠ 0 then (1, 0, M) else if fb_ism M h = false then (2, 0, M) else if (fb_isk k && fb_bd M (fb_r M h.toNatClampNeg) k.toNatClampNeg) = false then (4, 0, M) else (0, fb_val M (fb_r M h.toNatClampNeg) k.toNatClampNeg, M)
def fb_nx (P : Nat → Bool) : Nat → Nat → Int32
  | 0, _ => -1
  | f + 1, k => if k < 64 then (if P k = true then nI k else fb_nx P f (k + 1)) else -1
def fb_next (M : me_M) (h from_ : Int32) : fb_X := if M 5 0 ≠ 0 then (1, 0, M) else if fb_ism M h = false then (2, 0, M) else (0, fb_nx (fb_bd M (fb_r M h.toNatClampNeg)) 64 from_.toNatClampNeg, M)
def fb_count (M : me_M) (h : Int32) : fb_X := if M 5 0 ≠ 0 then (1, 0, M) else if fb_ism M h = false then (2, 0, M) else (0, nI (fb_kb M (fb_r M h.toNatClampNeg)), M)
def fb_nodes (M : me_M) (h : Int32) : fb_X := if M 5 0 ≠ 0 then (1, 0, M) else if fb_ism M h = false then (2, 0, M) else (0, nI (fb_mark (fb_unmark M) (fb_r M h.toNatClampNeg)).1, (fb_mark (fb_unmark M) (fb_r M h.toNatClampNeg)).2)
def fb_sh (M : me_M) (a b : Nat) : Int32 × me_M :=
  (nI (fb_mark (fb_unmark M) b).1 - nI (fb_mark (fb_mark (fb_unmark (fb_mark (fb_unmark M) b).2) a).2 b).1, (fb_mark (fb_mark (fb_unmark (fb_mark (fb_unmark M) b).2) a).2 b).2)
def fb_shared (M : me_M) (a b : Int32) : fb_X := if M 5 0 ≠ 0 then (1, 0, M) else if (fb_ism M a && fb_ism M b) = false then (2, 0, M) else (0, fb_sh M (fb_r M a.toNatClampNeg) (fb_r M b.toNatClampNeg))
def fb_differ (M : me_M) (a b : Int32) : fb_X := if M 5 0 ≠ 0 then (1, 0, M) else if (fb_ism M a && fb_ism M b) = false then (2, 0, M) else (0, nI (me_cn (fun k => !fb_alike M (fb_r M a.toNatClampNeg) (fb_r M b.toNatClampNeg) k) 64), M)
def fb_snapshot (M : me_M) : fb_X := if M 5 0 ≠ 0 then (1, 0, M) else if fb_lu M 6 1 = 7 then (3, 0, M) else (0, nI (fb_lu M 6 1), fb_freeze (me_up M 3 (fb_lu M 6 1) (M 3 0)))
def fb_rollback (M : me_M) (h : Int32) : fb_X := if M 5 0 ≠ 0 then (1, 0, M) else if fb_iss M h = false then (2, 0, M) else (0, nI (fb_kb M (fb_r M h.toNatClampNeg)), me_up M 3 0 (M 3 h.toNatClampNeg))
def fb_drop (M : me_M) (h : Int32) : fb_X := if M 5 0 ≠ 0 then (1, 0, M) else if fb_iss M h = false then (2, 0, M) else (0, fb_free (me_up (fb_mr M).2 3 h.toNatClampNeg (-1)) - fb_free M, (fb_mr (me_up (fb_mr M).2 3 h.toNatClampNeg (-1))).2)
def fb_due0 (M : me_M) : Int32 := nI (fb_mr M).1 + 1
def fb_commit (M : me_M) : fb_X := if M 5 0 ≠ 0 then (1, 0, M) else
  if M 5 2 ≠ -1 ∧ M 5 2 < fb_due0 M then (1, 0, me_up (me_up (me_up (fb_mr M).2 5 1 (M 5 1 + M 5 2)) 5 2 (-1)) 5 0 1) else
  (0, fb_due0 M, fb_freeze (me_set (me_up (if M 5 2 ≠ -1 then me_up (fb_mr M).2 5 2 (M 5 2 - fb_due0 M) else (fb_mr M).2) 5 1 (M 5 1 + fb_due0 M)) 4 (va_cpy (M 3) (M 4) 0 0 7)))
def fb_freeC (M : me_M) : fb_X := if M 5 0 ≠ 0 then (1, 0, M) else (0, fb_free M, (fb_mr M).2)
def fb_due (M : me_M) : fb_X := if M 5 0 ≠ 0 then (1, 0, M) else (0, fb_due0 M, (fb_mr M).2)
def fb_order (M : me_M) (n : Int32) : fb_X := if n < 0 ∨ 100 < n then (0, 0, M) else (0, 1, me_up M 5 2 n)
def fb_recover (M : me_M) : fb_X := if M 5 0 = 0 then (0, -1, M) else (0, nI (me_cn (fun h => decide (M 4 (h + 1) ≠ -1)) 6), me_up (me_set M 3 (va_cpy (M 4) (M 3) 0 0 7)) 5 0 0)
/-! the reference -/
def mo_ism (U : me_M) (h : Int32) : Bool := decide (0 ≤ h) && decide (h < 7) && decide (U 0 h.toNatClampNeg ≠ 0)
def mo_iss (U : me_M) (h : Int32) : Bool := decide (0 < h) && mo_ism U h
def mo_put2 (U : me_M) (k : Nat) (v : Int32) : Int32 × me_M :=
  if U 1 k ≠ 0 ∧ U 2 k = v then (2, U) else
  if nI (mo_fn U k (if U 1 k ≠ 0 then 0 else 1)) ≤ mo_free U then (if U 1 k ≠ 0 then 1 else 0, me_up (mo_change U k (if U 1 k ≠ 0 then 0 else 1)) 2 k v) else (0, me_up U 4 0 3)
def mo_put (U : me_M) (k v : Int32) : Int32 × me_M :=
  if U 4 5 ≠ 0 then (0, me_up U 4 0 1) else if fb_isk k = false then (0, me_up U 4 0 2) else mo_put2 (me_up U 4 0 0) k.toNatClampNeg v
def mo_remove (U : me_M) (k : Int32) : Int32 × me_M :=
  if U 4 5 ≠ 0 then (0, me_up U 4 0 1) else if (fb_isk k && decide (U 1 k.toNatClampNeg ≠ 0)) = false then (0, me_up U 4 0 2) else
  if nI (mo_fn U k.toNatClampNeg (-1)) ≤ mo_free U then (U 2 k.toNatClampNeg, mo_change (me_up U 4 0 0) k.toNatClampNeg (-1)) else (0, me_up U 4 0 3)
def mo_get (U : me_M) (h k : Int32) : Int32 × me_M :=
  if U 4 5 ≠ 0 then (0, me_up U 4 0 1) else if mo_ism U h = false then (0, me_up U 4 0 2) else if (fb_isk k && decide (U 1 (64 * h.toNatClampNeg + k.toNatClampNeg) ≠ 0)) = false then (0, me_up U 4 0 3) else (U 2 (64 * h.toNatClampNeg + k.toNatClampNeg), me_up U 4 0 0)
/-- the least key from lo on that has P, below 64; found so far: downwards -/
def mo_nx (P : Nat → Bool) (from_ : Int32) : Nat → Int32 → Int32
  | 0, f => f
  | n + 1, f => if from_ ≤ nI n then mo_nx P from_ n (if P n = true then nI n else f) else f
def mo_next (U : me_M) (h from_ : Int32) : Int32 × me_M :=
  if U 4 5 ≠ 0 then (0, me_up U 4 0 1) else if mo_ism U h = false then (0, me_up U 4 0 2) else (mo_nx (fun k => decide (U 1 (64 * h.toNatClampNeg + k) ≠ 0)) from_ 64 (-1), me_up U 4 0 0)
def mo_count (U : me_M) (h : Int32) : Int32 × me_M :=
  if U 4 5 ≠ 0 then (0, me_up U 4 0 1) else if mo_ism U h = false then (0, me_up U 4 0 2) else (nI (mo_bi U h.toNatClampNeg 0 64), me_up U 4 0 0)
def mo_nodes (U : me_M) (h : Int32) : Int32 × me_M :=
  if U 4 5 ≠ 0 then (0, me_up U 4 0 1) else if mo_ism U h = false then (0, me_up U 4 0 2) else (nI (mo_df U h.toNatClampNeg 1 21), me_up U 4 0 0)
def mo_shared (U : me_M) (a b : Int32) : Int32 × me_M :=
  if U 4 5 ≠ 0 then (0, me_up U 4 0 1) else if (mo_ism U a && mo_ism U b) = false then (0, me_up U 4 0 2) else (nI (me_cn (fun p => decide (0 < U 3 (21 * a.toNatClampNeg + p)) && decide (U 3 (21 * b.toNatClampNeg + p) = U 3 (21 * a.toNatClampNeg + p))) 21), me_up U 4 0 0)
def mo_alike (U : me_M) (a b k : Nat) : Bool := (decide (U 1 (64 * a + k) ≠ 0) == decide (U 1 (64 * b + k) ≠ 0)) && (!decide (U 1 (64 * a + k) ≠ 0) || decide (U 2 (64 * a + k) = U 2 (64 * b + k)))
def mo_differ (U : me_M) (a b : Int32) : Int32 × me_M :=
  if U 4 5 ≠ 0 then (0, me_up U 4 0 1) else if (mo_ism U a && mo_ism U b) = false then (0, me_up U 4 0 2) else (nI (me_cn (fun k => !mo_alike U a.toNatClampNeg b.toNatClampNeg k) 64), me_up U 4 0 0)
def mo_lu (U : me_M) : Nat → Nat → Nat
  | 0, h => h
  | f + 1, h => if h < 7 ∧ U 0 h ≠ 0 then mo_lu U f (h + 1) else h
def mo_snapshot (U : me_M) : Int32 × me_M :=
  if U 4 5 ≠ 0 then (0, me_up U 4 0 1) else if mo_lu U 6 1 = 7 then (0, me_up U 4 0 2) else (nI (mo_lu U 6 1), me_up (mo_copy (me_up U 4 0 0) 0 (mo_lu U 6 1)) 4 2 (U 4 1))
def mo_rollback (U : me_M) (h : Int32) : Int32 × me_M :=
  if U 4 5 ≠ 0 then (0, me_up U 4 0 1) else if mo_iss U h = false then (0, me_up U 4 0 2) else (nI (mo_bi (mo_copy (me_up U 4 0 0) h.toNatClampNeg 0) 0 0 64), mo_copy (me_up U 4 0 0) h.toNatClampNeg 0)
def mo_drop (U : me_M) (h : Int32) : Int32 × me_M :=
  if U 4 5 ≠ 0 then (0, me_up U 4 0 1) else if mo_iss U h = false then (0, me_up U 4 0 2) else (mo_free (mo_empty (me_up U 4 0 0) h.toNatClampNeg) - mo_free U, mo_empty (me_up U 4 0 0) h.toNatClampNeg)
def mo_due0 (U : me_M) : Int32 := nI (mo_df U 0 14 21) - nI (mo_df U 7 7 21) + 1
/-- copies of n maps, from f on to t on -/
def mo_cps (U : me_M) (f t : Nat) : Nat → me_M
  | 0 => U
  | n + 1 => mo_copy (mo_cps U f t n) (f + n) (t + n)
def mo_commit (U : me_M) : Int32 × me_M :=
  if U 4 5 ≠ 0 then (0, me_up U 4 0 1) else
  if 0 ≤ U 4 4 ∧ U 4 4 < mo_due0 U then (0, me_up (me_up (me_up (me_up (me_up U 4 0 0) 4 3 (U 4 3 + U 4 4)) 4 4 (-1)) 4 5 1) 4 0 1) else
  (mo_due0 U, me_up (mo_cps (me_up (me_up (me_up U 4 0 0) 4 4 (if U 4 4 < 0 then U 4 4 else U 4 4 - mo_due0 U)) 4 3 (U 4 3 + mo_due0 U)) 0 7 7) 4 2 (U 4 1))
def mo_freeC (U : me_M) : Int32 × me_M := if U 4 5 ≠ 0 then (0, me_up U 4 0 1) else (mo_free U, me_up U 4 0 0)
def mo_due (U : me_M) : Int32 × me_M := if U 4 5 ≠ 0 then (0, me_up U 4 0 1) else (mo_due0 U, me_up U 4 0 0)
def mo_order (U : me_M) (n : Int32) : Int32 × me_M := if n < 0 ∨ 100 < n then (0, me_up U 4 0 0) else (1, me_up (me_up U 4 0 0) 4 4 n)
def mo_recover (U : me_M) : Int32 × me_M := if U 4 5 = 0 then (-1, me_up U 4 0 0) else (nI (me_cn (fun h => decide (U 0 (7 + (h + 1)) ≠ 0)) 6), me_up (mo_cps (me_up U 4 0 0) 7 0 7) 4 5 0)
