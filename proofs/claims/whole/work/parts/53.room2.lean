/-! Room's methods that write (printed by room.py) -/
theorem fb_tu_le (M : me_M) (f n : Nat) (h : n ≤ 60) : fb_tu M f n ≤ 60 := by
  induction f generalizing n with
  | zero => exact h
  | succ f ih =>
    unfold fb_tu
    split
    · rename_i q; exact ih (n + 1) (by omega)
    · exact h
theorem me_zero_0 (M : me_M) (a lo : Nat) : me_zero M a lo lo = M := by
  unfold me_zero
  have : (fun j => if lo ≤ j ∧ j < lo then 0 else M a j) = M a := by
    funext j; rw [if_neg (by omega)]
  rw [this]; exact me_set_i M a
theorem me_zero_s (M : me_M) (a lo i : Nat) (h : lo ≤ i) : me_up (me_zero M a lo i) a i 0 = me_zero M a lo (i + 1) := by
  unfold me_zero me_up
  rw [me_set_2, me_set_s]
  congr 1
  funext j
  unfold upd
  by_cases e : j = i
  · rw [if_pos e, if_pos (by omega)]
  · rw [if_neg e]
    show (if lo ≤ j ∧ j < i then (0:Int32) else M a j) = _
    by_cases q : lo ≤ j ∧ j < i
    · rw [if_pos q, if_pos (by omega)]
    · rw [if_neg q, if_neg (by omega)]
theorem me_up_2 (M : me_M) (K : Nat → Int32) (a n : Nat) (v : Int32) : me_up (me_set M a K) a n v = me_set M a (upd K n v) := by
  unfold me_up; rw [me_set_2, me_set_s]
theorem fb_pkK {M : me_M} {r k lv : Nat} (h : fb_pk M r k lv) (K : Nat → Int32) : fb_pk (me_set M 2 K) r k lv := fun i hi => by
  rw [rf_set2_na, rf_set2_na, me_set_n _ _ (by omega)]; exact h i hi
set_option maxRecDepth 4000 in
theorem cc_RM_own (l : Launch) (Y : sy_Y) (M U : me_M) (o : Int64) (n : Nat) (hn : n < 61) : ct_I l ny_RM_own nb_RM_own 3 (some .int) { frames := 1, cells := 0, slots := 0, locals := 40 } Y [.ref (Y.2.1 1), .int (nI n)] M U o (nI (fb_own M n).1) ((fb_own M n).2) U o := by
  refine ct_body (own := nr_RM) (L0 := [(0, .ref (Y.2.1 1)), (1, .int (nI n))]) (by decide) rfl (Nat.le_of_ble_eq_true rfl) rfl ?_
  intro p e s m args below meth c fx
  refine vv_aload_n fx nd_RM_own_0 rfl 0 rfl ?_
  refine vv_get (ci := 1) (C := nr_RM) (T := nt_RM) (N := 4) fx nt_RM_in 1 rfl rfl 2 (by decide) nf_RM_20 rfl nd_RM_own_1 ?_
  refine vv_iload_n fx nd_RM_own_4 rfl 1 rfl ?_
  refine vv_zald fx 6 1 rfl rfl (hn) (by decide) nd_RM_own_5 ?_
  refine vv_if_eq (tgt := 11) fx nd_RM_own_6 (by decide) (fun hb6 => ?_) (fun hb6 => ?_)
  · have ha : (fb_tu M 60 1) < 61 := by have := fb_tu_le M 60 1 (by omega); omega
    have e1 : me_up M 2 (fb_tu M 60 1) 1 (6 + n) = M (6 + n) := me_up_n _ _ _ (by omega)
    have e2 : me_up M 2 (fb_tu M 60 1) 1 (6 + (fb_tu M 60 1)) = M (6 + (fb_tu M 60 1)) := me_up_n _ _ _ (by omega)
    have e3 : (me_set (me_up M 2 (fb_tu M 60 1) 1) (6 + (fb_tu M 60 1)) (va_cpy (me_up M 2 (fb_tu M 60 1) 1 (6 + n)) (me_up M 2 (fb_tu M 60 1) 1 (6 + (fb_tu M 60 1))) 0 0 4)) 0 n = M 0 n := by rw [me_set_n _ _ (by omega), me_up_n _ _ _ (by decide)]
    have e7 : fb_own M n = ((fb_tu M 60 1), me_up (me_up (me_set (me_up M 2 (fb_tu M 60 1) 1) (6 + (fb_tu M 60 1)) (va_cpy (me_up M 2 (fb_tu M 60 1) 1 (6 + n)) (me_up M 2 (fb_tu M 60 1) 1 (6 + (fb_tu M 60 1))) 0 0 4)) 0 (fb_tu M 60 1) ((me_set (me_up M 2 (fb_tu M 60 1) 1) (6 + (fb_tu M 60 1)) (va_cpy (me_up M 2 (fb_tu M 60 1) 1 (6 + n)) (me_up M 2 (fb_tu M 60 1) 1 (6 + (fb_tu M 60 1))) 0 0 4)) 0 n)) 1 (fb_tu M 60 1) 1) := by unfold fb_own; rw [if_neg (fun z => z hb6), e3, e1, e2]
    rw [e7]
    refine vv_aload_n fx nd_RM_own_11 rfl 0 rfl ?_
    refine vv_callVi (C := nr_RM) (T := nt_RM) (N := 4) (ci := 1) fx (cc_RM_takeUnmarked l Y M U o) nm_RM_50 ns_RM_takeUnmarked nv_RM_takeUnmarked nz_RM nc_RM_takeUnmarked ni_RM_takeUnmarked 1 rfl rfl ⟨rfl, rfl, by decide, by decide⟩ ⟨Nat.le_of_ble_eq_true rfl, Nat.le_of_ble_eq_true rfl⟩ (Nat.le_of_ble_eq_true rfl) nd_RM_own_12 rfl ?_
    refine vv_istore_n (L' := [(0, .ref (Y.2.1 1)), (1, .int (nI n)), (2, .int (nI (fb_tu M 60 1)))]) fx nd_RM_own_15 rfl (by decide) [1, 2, 0] rfl ?_
    refine vv_aload_n fx nd_RM_own_16 rfl 0 rfl ?_
    refine vv_get (ci := 1) (C := nr_RM) (T := nt_RM) (N := 4) fx nt_RM_in 1 rfl rfl 0 (by decide) nf_RM_13 rfl nd_RM_own_17 ?_
    refine vv_iload_n fx nd_RM_own_20 rfl 1 rfl ?_
    refine vv_aald fx (hn) nd_RM_own_21 ?_
    refine vv_iconst (v := nI 0) fx nd_RM_own_22 (by decide) ?_
    refine vv_aload_n fx nd_RM_own_23 rfl 0 rfl ?_
    refine vv_get (ci := 1) (C := nr_RM) (T := nt_RM) (N := 4) fx nt_RM_in 1 rfl rfl 0 (by decide) nf_RM_13 rfl nd_RM_own_24 ?_
    refine vv_iload_n fx nd_RM_own_27 rfl 2 rfl ?_
    refine vv_aald fx (ha) nd_RM_own_28 ?_
    refine vv_iconst (v := nI 0) fx nd_RM_own_29 (by decide) ?_
    refine vv_iconst (v := nI 4) fx nd_RM_own_30 (by decide) ?_
    refine vv_copy (M' := me_set (me_up M 2 (fb_tu M 60 1) 1) (6 + (fb_tu M 60 1)) (va_cpy (me_up M 2 (fb_tu M 60 1) 1 (6 + n)) (me_up M 2 (fb_tu M 60 1) 1 (6 + (fb_tu M 60 1))) 0 0 4)) (U' := U) (n := 4) fx nm_RM_54 (14 + n) (14 + (fb_tu M 60 1)) (sy_row hn) (sy_row ha) (by decide) (by decide) (by decide) (by decide) (Nat.le_of_ble_eq_true rfl) nd_RM_own_31 (sy_setR ha _) ?_
    refine vv_aload_n fx nd_RM_own_34 rfl 0 rfl ?_
    refine vv_get (ci := 1) (C := nr_RM) (T := nt_RM) (N := 4) fx nt_RM_in 1 rfl rfl 1 (by decide) nf_RM_16 rfl nd_RM_own_35 ?_
    refine vv_iload_n fx nd_RM_own_38 rfl 2 rfl ?_
    refine vv_aload_n fx nd_RM_own_39 rfl 0 rfl ?_
    refine vv_get (ci := 1) (C := nr_RM) (T := nt_RM) (N := 4) fx nt_RM_in 1 rfl rfl 1 (by decide) nf_RM_16 rfl nd_RM_own_40 ?_
    refine vv_iload_n fx nd_RM_own_43 rfl 1 rfl ?_
    refine vv_iald fx 5 0 rfl rfl (hn) (by decide) nd_RM_own_44 ?_
    refine vv_iast (M' := me_up (me_set (me_up M 2 (fb_tu M 60 1) 1) (6 + (fb_tu M 60 1)) (va_cpy (me_up M 2 (fb_tu M 60 1) 1 (6 + n)) (me_up M 2 (fb_tu M 60 1) 1 (6 + (fb_tu M 60 1))) 0 0 4)) 0 (fb_tu M 60 1) ((me_set (me_up M 2 (fb_tu M 60 1) 1) (6 + (fb_tu M 60 1)) (va_cpy (me_up M 2 (fb_tu M 60 1) 1 (6 + n)) (me_up M 2 (fb_tu M 60 1) 1 (6 + (fb_tu M 60 1))) 0 0 4)) 0 n)) (U' := U) fx 5 0 rfl rfl (ha) (by decide) nd_RM_own_45 (sy_set0 _) ?_
    refine vv_aload_n fx nd_RM_own_46 rfl 0 rfl ?_
    refine vv_get (ci := 1) (C := nr_RM) (T := nt_RM) (N := 4) fx nt_RM_in 1 rfl rfl 2 (by decide) nf_RM_20 rfl nd_RM_own_47 ?_
    refine vv_iload_n fx nd_RM_own_50 rfl 2 rfl ?_
    refine vv_iconst (v := nI 1) fx nd_RM_own_51 (by decide) ?_
    refine vv_zast (M' := me_up (me_up (me_set (me_up M 2 (fb_tu M 60 1) 1) (6 + (fb_tu M 60 1)) (va_cpy (me_up M 2 (fb_tu M 60 1) 1 (6 + n)) (me_up M 2 (fb_tu M 60 1) 1 (6 + (fb_tu M 60 1))) 0 0 4)) 0 (fb_tu M 60 1) ((me_set (me_up M 2 (fb_tu M 60 1) 1) (6 + (fb_tu M 60 1)) (va_cpy (me_up M 2 (fb_tu M 60 1) 1 (6 + n)) (me_up M 2 (fb_tu M 60 1) 1 (6 + (fb_tu M 60 1))) 0 0 4)) 0 n)) 1 (fb_tu M 60 1) (nI 1)) (U' := U) fx 6 1 rfl rfl (ha) (by decide) (Or.inr rfl) nd_RM_own_52 (sy_set1 _) ?_
    refine vv_iload_n fx nd_RM_own_53 rfl 2 rfl ?_
    exact vv_iret fx rfl nd_RM_own_54 (rfl)
  · have e7 : fb_own M n = (n, M) := if_pos hb6
    rw [e7]
    refine vv_iload_n fx nd_RM_own_9 rfl 1 rfl ?_
    exact vv_iret fx rfl nd_RM_own_10 (rfl)
set_option maxRecDepth 4000 in
theorem cc_RM_open (l : Launch) (Y : sy_Y) (M U : me_M) (o : Int64) (n k lv : Nat) (x : Int32) (hn : n < 61) (hk : k < 64) (hlv : lv < 3) : ct_V l ny_RM_open nb_RM_open 5 { frames := 2, cells := 0, slots := 0, locals := 42 } Y [.ref (Y.2.1 1), .int (nI n), .int (nI k), .int (nI lv), .int x] M U o (fb_open M n k lv x) U o := by
  refine ct_body (own := nr_RM) (L0 := [(0, .ref (Y.2.1 1)), (1, .int (nI n)), (2, .int (nI k)), (3, .int (nI lv)), (4, .int x)]) (by decide) rfl (Nat.le_of_ble_eq_true rfl) rfl ?_
  intro p e s m args below meth c fx
  refine vv_aload_n fx nd_RM_open_0 rfl 0 rfl ?_
  refine vv_get (ci := 1) (C := nr_RM) (T := nt_RM) (N := 4) fx nt_RM_in 1 rfl rfl 0 (by decide) nf_RM_13 rfl nd_RM_open_1 ?_
  refine vv_iload_n fx nd_RM_open_4 rfl 1 rfl ?_
  refine vv_aald fx (hn) nd_RM_open_5 ?_
  refine vv_iload_n fx nd_RM_open_6 rfl 2 rfl ?_
  refine vv_iload_n fx nd_RM_open_7 rfl 3 rfl ?_
  refine vv_callSi fx (cc_RM_turnOf l Y M U o k lv hk hlv) nm_RM_35 ns_RM_turnOf nz_RM nc_RM_turnOf ni_RM_turnOf ⟨rfl, rfl, by decide, by decide⟩ ⟨Nat.le_of_ble_eq_true rfl, Nat.le_of_ble_eq_true rfl⟩ (Nat.le_of_ble_eq_true rfl) nd_RM_open_8 rfl ?_
  refine vv_iload fx nd_RM_open_11 4 rfl ?_
  refine vv_iast (M' := me_up M (6 + n) (fb_tn k lv) x) (U' := U) fx (14 + n) 0 (sy_row (hn)) rfl (fb_tn_lt _ _) (by decide) nd_RM_open_13 (sy_setR (hn) _) ?_
  refine vv_aload_n fx nd_RM_open_14 rfl 0 rfl ?_
  refine vv_get (ci := 1) (C := nr_RM) (T := nt_RM) (N := 4) fx nt_RM_in 1 rfl rfl 1 (by decide) nf_RM_16 rfl nd_RM_open_15 ?_
  refine vv_iload_n fx nd_RM_open_18 rfl 1 rfl ?_
  refine vv_dup2 fx nd_RM_open_19 rfl rfl ?_
  refine vv_iald fx 5 0 rfl rfl (hn) (by decide) nd_RM_open_20 ?_
  refine vv_top (y := M 0 n) (congrFun (me_up_n _ _ _ (by omega)) n) ?_
  refine vv_iload_n fx nd_RM_open_21 rfl 2 rfl ?_
  refine vv_iload_n fx nd_RM_open_22 rfl 3 rfl ?_
  refine vv_callSi fx (cc_RM_bitOf l Y (me_up M (6 + n) (fb_tn k lv) x) U o k lv hk hlv) nm_RM_31 ns_RM_bitOf nz_RM nc_RM_bitOf ni_RM_bitOf ⟨rfl, rfl, by decide, by decide⟩ ⟨Nat.le_of_ble_eq_true rfl, Nat.le_of_ble_eq_true rfl⟩ (Nat.le_of_ble_eq_true rfl) nd_RM_open_23 rfl ?_
  refine vv_ior fx nd_RM_open_26 ?_
  refine vv_iast (M' := me_up (me_up M (6 + n) (fb_tn k lv) x) 0 n ((M 0 n) ||| (fb_bit k lv))) (U' := U) fx 5 0 rfl rfl (hn) (by decide) nd_RM_open_27 (sy_set0 _) ?_
  exact vv_vret fx rfl nd_RM_open_28
set_option maxRecDepth 4000 in
theorem cc_RM_ownPath (l : Launch) (Y : sy_Y) (M U : me_M) (o : Int64) (r k lv : Nat) (hk : k < 64) (hlv : lv ≤ 3) (hr : r < 61) (ho : ∀ i, i + 1 < lv → (fb_opl k (fb_own M r) i).1 < 61 ∧ (fb_opl k (fb_own M r) i).2 (6 + (fb_opl k (fb_own M r) i).1) (fb_tn k i) = nI (fb_ch (fb_opl k (fb_own M r) i).2 (fb_opl k (fb_own M r) i).1 (fb_tn k i)) ∧ fb_ch (fb_opl k (fb_own M r) i).2 (fb_opl k (fb_own M r) i).1 (fb_tn k i) < 61) : ct_I l ny_RM_ownPath nb_RM_ownPath 8 (some .int) { frames := 3, cells := 0, slots := 0, locals := 66 } Y [.ref (Y.2.1 1), .int (nI r), .int (nI k), .int (nI lv)] M U o (nI (fb_op M r k lv).1) ((fb_op M r k lv).2) U o := by
  refine ct_body (own := nr_RM) (L0 := [(0, .ref (Y.2.1 1)), (1, .int (nI r)), (2, .int (nI k)), (3, .int (nI lv))]) (by decide) rfl (Nat.le_of_ble_eq_true rfl) rfl ?_
  intro p e s m args below meth c fx
  by_cases hL : lv = 0
  · subst hL
    refine vv_iload_n fx nd_RM_ownPath_0 rfl 3 rfl ?_
    refine vv_if_gt (tgt := 6) fx nd_RM_ownPath_1 (by decide) (fun hb => absurd hb (by decide)) (fun _ => ?_)
    refine vv_iconst (v := nI 0) fx nd_RM_ownPath_4 (by decide) ?_
    exact vv_iret fx rfl nd_RM_ownPath_5 (rfl)
  · obtain ⟨j, rfl⟩ : ∃ j, lv = j + 1 := ⟨lv - 1, by omega⟩
    refine vv_iload_n fx nd_RM_ownPath_0 rfl 3 rfl ?_
    refine vv_if_gt (tgt := 6) fx nd_RM_ownPath_1 (by decide) (fun _ => ?_) (fun hb => absurd (by show nI 0 < _; exact nI_lt (by omega) (by omega)) hb)
    refine vv_aload_n fx nd_RM_ownPath_6 rfl 0 rfl ?_
    refine vv_iload_n fx nd_RM_ownPath_7 rfl 1 rfl ?_
    refine vv_callVi (C := nr_RM) (T := nt_RM) (N := 4) (ci := 1) fx (cc_RM_own l Y M U o r hr) nm_RM_42 ns_RM_own nv_RM_own nz_RM nc_RM_own ni_RM_own 1 rfl rfl ⟨rfl, rfl, by decide, by decide⟩ ⟨Nat.le_of_ble_eq_true rfl, Nat.le_of_ble_eq_true rfl⟩ (Nat.le_of_ble_eq_true rfl) nd_RM_ownPath_8 rfl ?_
    refine vv_istore (L' := [(0, .ref (Y.2.1 1)), (1, .int (nI r)), (2, .int (nI k)), (3, .int (nI (j + 1))), (4, .int (nI (fb_own M r).1))]) fx nd_RM_ownPath_11 (by decide) [1, 2, 3, 4, 0] rfl ?_
    refine vv_iload fx nd_RM_ownPath_13 4 rfl ?_
    refine vv_istore (L' := [(0, .ref (Y.2.1 1)), (1, .int (nI r)), (2, .int (nI k)), (3, .int (nI (j + 1))), (4, .int (nI (fb_own M r).1)), (5, .int (nI (fb_own M r).1))]) fx nd_RM_ownPath_15 (by decide) [1, 2, 3, 4, 5, 0] rfl ?_
    refine vv_iconst (v := nI 0) fx nd_RM_ownPath_17 (by decide) ?_
    refine vv_istore (L' := [(0, .ref (Y.2.1 1)), (1, .int (nI r)), (2, .int (nI k)), (3, .int (nI (j + 1))), (4, .int (nI (fb_own M r).1)), (5, .int (nI (fb_own M r).1)), (6, .int (nI 0))]) fx nd_RM_ownPath_18 (by decide) [1, 2, 3, 4, 5, 6, 0] rfl ?_
    have loop : ∀ d i, i + d = j → vv p l e { frames := 3, cells := 0, slots := 0, locals := 66 } s m args below meth c 0 0 (MQ below (ct_Qi Y (nI (fb_op M r k (j + 1)).1) ((fb_op M r k (j + 1)).2) U o) args s 0 0 Y.2.2.2) 8 Y ((fb_opl k (fb_own M r) i).2) U o 20 [(0, .ref (Y.2.1 1)), (1, .int (nI r)), (2, .int (nI k)), (3, .int (nI (j + 1))), (4, .int (nI (fb_own M r).1)), (5, .int (nI (fb_opl k (fb_own M r) i).1)), (6, .int (nI i))] [] := by
      intro d
      induction d with
      | zero =>
        intro i hi
        refine vv_iload fx nd_RM_ownPath_20 6 rfl ?_
        refine vv_iload_n fx nd_RM_ownPath_22 rfl 3 rfl ?_
        refine vv_iconst (v := nI 1) fx nd_RM_ownPath_23 (by decide) ?_
        refine vv_isub fx nd_RM_ownPath_24 ?_
        refine vv_top (y := nI j) (nI_pred j) ?_
        refine vv_icmp_ge (tgt := 69) fx nd_RM_ownPath_25 (by decide) (fun _ => ?_) (fun hb => absurd (nI_le (by omega) (by omega)) hb)
        refine vv_iload fx nd_RM_ownPath_69 4 rfl ?_
        have e9 : i = j := by omega
        subst e9
        exact vv_iret fx rfl nd_RM_ownPath_71 (rfl)
      | succ d ih =>
        intro i hi
        obtain ⟨h1, h2, h3⟩ := ho i (by omega)
        refine vv_iload fx nd_RM_ownPath_20 6 rfl ?_
        refine vv_iload_n fx nd_RM_ownPath_22 rfl 3 rfl ?_
        refine vv_iconst (v := nI 1) fx nd_RM_ownPath_23 (by decide) ?_
        refine vv_isub fx nd_RM_ownPath_24 ?_
        refine vv_top (y := nI j) (nI_pred j) ?_
        refine vv_icmp_ge (tgt := 69) fx nd_RM_ownPath_25 (by decide) (fun hb => absurd hb (nI_ge (by omega) (by omega))) (fun _ => ?_)
        refine vv_aload_n fx nd_RM_ownPath_28 rfl 0 rfl ?_
        refine vv_aload_n fx nd_RM_ownPath_29 rfl 0 rfl ?_
        refine vv_get (ci := 1) (C := nr_RM) (T := nt_RM) (N := 4) fx nt_RM_in 1 rfl rfl 0 (by decide) nf_RM_13 rfl nd_RM_ownPath_30 ?_
        refine vv_iload fx nd_RM_ownPath_33 5 rfl ?_
        refine vv_aald fx (h1) nd_RM_ownPath_35 ?_
        refine vv_iload_n fx nd_RM_ownPath_36 rfl 2 rfl ?_
        refine vv_iload fx nd_RM_ownPath_37 6 rfl ?_
        refine vv_callSi fx (cc_RM_turnOf l Y (fb_opl k (fb_own M r) i).2 U o k i hk (by omega)) nm_RM_35 ns_RM_turnOf nz_RM nc_RM_turnOf ni_RM_turnOf ⟨rfl, rfl, by decide, by decide⟩ ⟨Nat.le_of_ble_eq_true rfl, Nat.le_of_ble_eq_true rfl⟩ (Nat.le_of_ble_eq_true rfl) nd_RM_ownPath_39 rfl ?_
        refine vv_iald fx (14 + ((fb_opl k (fb_own M r) i).1)) 0 (sy_row (h1)) rfl (fb_tn_lt _ _) (by decide) nd_RM_ownPath_42 ?_
        refine vv_top (y := nI (fb_ch (fb_opl k (fb_own M r) i).2 (fb_opl k (fb_own M r) i).1 (fb_tn k i))) (h2) ?_
        refine vv_callVi (C := nr_RM) (T := nt_RM) (N := 4) (ci := 1) fx (cc_RM_own l Y (fb_opl k (fb_own M r) i).2 U o (fb_ch (fb_opl k (fb_own M r) i).2 (fb_opl k (fb_own M r) i).1 (fb_tn k i)) h3) nm_RM_42 ns_RM_own nv_RM_own nz_RM nc_RM_own ni_RM_own 1 rfl rfl ⟨rfl, rfl, by decide, by decide⟩ ⟨Nat.le_of_ble_eq_true rfl, Nat.le_of_ble_eq_true rfl⟩ (Nat.le_of_ble_eq_true rfl) nd_RM_ownPath_43 rfl ?_
        refine vv_istore (L' := [(0, .ref (Y.2.1 1)), (1, .int (nI r)), (2, .int (nI k)), (3, .int (nI (j + 1))), (4, .int (nI (fb_own M r).1)), (5, .int (nI (fb_opl k (fb_own M r) i).1)), (6, .int (nI i)), (7, .int (nI (fb_own (fb_opl k (fb_own M r) i).2 (fb_ch (fb_opl k (fb_own M r) i).2 (fb_opl k (fb_own M r) i).1 (fb_tn k i))).1))]) fx nd_RM_ownPath_46 (by decide) [1, 2, 3, 4, 5, 6, 7, 0] rfl ?_
        refine vv_aload_n fx nd_RM_ownPath_48 rfl 0 rfl ?_
        refine vv_iload fx nd_RM_ownPath_49 5 rfl ?_
        refine vv_iload_n fx nd_RM_ownPath_51 rfl 2 rfl ?_
        refine vv_iload fx nd_RM_ownPath_52 6 rfl ?_
        refine vv_iload fx nd_RM_ownPath_54 7 rfl ?_
        refine vv_callVv (C := nr_RM) (T := nt_RM) (N := 4) (ci := 1) fx (cc_RM_open l Y (fb_own (fb_opl k (fb_own M r) i).2 (fb_ch (fb_opl k (fb_own M r) i).2 (fb_opl k (fb_own M r) i).1 (fb_tn k i))).2 U o (fb_opl k (fb_own M r) i).1 k i (nI (fb_own (fb_opl k (fb_own M r) i).2 (fb_ch (fb_opl k (fb_own M r) i).2 (fb_opl k (fb_own M r) i).1 (fb_tn k i))).1) h1 hk (by omega)) nm_RM_46 ns_RM_open nv_RM_open nz_RM nc_RM_open ni_RM_open 1 rfl rfl ⟨rfl, rfl, by decide, by decide⟩ ⟨Nat.le_of_ble_eq_true rfl, Nat.le_of_ble_eq_true rfl⟩ (Nat.le_of_ble_eq_true rfl) nd_RM_ownPath_56 rfl ?_
        refine vv_iload fx nd_RM_ownPath_59 7 rfl ?_
        refine vv_istore (L' := [(0, .ref (Y.2.1 1)), (1, .int (nI r)), (2, .int (nI k)), (3, .int (nI (j + 1))), (4, .int (nI (fb_own M r).1)), (5, .int (nI (fb_own (fb_opl k (fb_own M r) i).2 (fb_ch (fb_opl k (fb_own M r) i).2 (fb_opl k (fb_own M r) i).1 (fb_tn k i))).1)), (6, .int (nI i)), (7, .int (nI (fb_own (fb_opl k (fb_own M r) i).2 (fb_ch (fb_opl k (fb_own M r) i).2 (fb_opl k (fb_own M r) i).1 (fb_tn k i))).1))]) fx nd_RM_ownPath_61 (by decide) [1, 2, 3, 4, 5, 0, 6, 7] rfl ?_
        refine vv_iinc (v := nI (i + 1)) (L' := [(0, .ref (Y.2.1 1)), (1, .int (nI r)), (2, .int (nI k)), (3, .int (nI (j + 1))), (4, .int (nI (fb_own M r).1)), (5, .int (nI (fb_own (fb_opl k (fb_own M r) i).2 (fb_ch (fb_opl k (fb_own M r) i).2 (fb_opl k (fb_own M r) i).1 (fb_tn k i))).1)), (6, .int (nI (i + 1))), (7, .int (nI (fb_own (fb_opl k (fb_own M r) i).2 (fb_ch (fb_opl k (fb_own M r) i).2 (fb_opl k (fb_own M r) i).1 (fb_tn k i))).1))]) fx nd_RM_ownPath_63 6 rfl (nI_1 i) (by decide) [1, 2, 3, 4, 5, 6, 0, 7] rfl ?_
        refine vv_goto (tgt := 20) fx nd_RM_ownPath_66 (by decide) ?_
        refine vv_loc (L' := [(0, .ref (Y.2.1 1)), (1, .int (nI r)), (2, .int (nI k)), (3, .int (nI (j + 1))), (4, .int (nI (fb_own M r).1)), (5, .int (nI (fb_own (fb_opl k (fb_own M r) i).2 (fb_ch (fb_opl k (fb_own M r) i).2 (fb_opl k (fb_own M r) i).1 (fb_tn k i))).1)), (6, .int (nI (i + 1)))]) [0, 1, 2, 3, 4, 5, 6] rfl ?_
        exact ih (i + 1) (by omega)
    exact loop j 0 (by omega)
set_option maxRecDepth 4000 in
theorem cc_RM_bind (l : Launch) (Y : sy_Y) (M U : me_M) (o : Int64) (r k : Nat) (x : Int32) (hk : k < 64) (hp : fb_pk M r k 2) (hq : fb_na M r k 2 < 61) : ct_V l ny_RM_bind nb_RM_bind 4 { frames := 3, cells := 0, slots := 0, locals := 66 } Y [.ref (Y.2.1 1), .int (nI r), .int (nI k), .int x] M U o (fb_bind M r k x) U o := by
  refine ct_body (own := nr_RM) (L0 := [(0, .ref (Y.2.1 1)), (1, .int (nI r)), (2, .int (nI k)), (3, .int x)]) (by decide) rfl (Nat.le_of_ble_eq_true rfl) rfl ?_
  intro p e s m args below meth c fx
  refine vv_aload_n fx nd_RM_bind_0 rfl 0 rfl ?_
  refine vv_aload_n fx nd_RM_bind_1 rfl 0 rfl ?_
  refine vv_iload_n fx nd_RM_bind_2 rfl 1 rfl ?_
  refine vv_iload_n fx nd_RM_bind_3 rfl 2 rfl ?_
  refine vv_iconst (v := nI 2) fx nd_RM_bind_4 (by decide) ?_
  refine vv_callVi (C := nr_RM) (T := nt_RM) (N := 4) (ci := 1) fx (cc_RM_nodeAt l Y M U o r k 2 hk (by omega) hp) nm_RM_27 ns_RM_nodeAt nv_RM_nodeAt nz_RM nc_RM_nodeAt ni_RM_nodeAt 1 rfl rfl ⟨rfl, rfl, by decide, by decide⟩ ⟨Nat.le_of_ble_eq_true rfl, Nat.le_of_ble_eq_true rfl⟩ (Nat.le_of_ble_eq_true rfl) nd_RM_bind_5 rfl ?_
  refine vv_iload_n fx nd_RM_bind_8 rfl 2 rfl ?_
  refine vv_iconst (v := nI 2) fx nd_RM_bind_9 (by decide) ?_
  refine vv_iload_n fx nd_RM_bind_10 rfl 3 rfl ?_
  refine vv_callVv (C := nr_RM) (T := nt_RM) (N := 4) (ci := 1) fx (cc_RM_open l Y M U o (fb_na M r k 2) k 2 x hq hk (by omega)) nm_RM_46 ns_RM_open nv_RM_open nz_RM nc_RM_open ni_RM_open 1 rfl rfl ⟨rfl, rfl, by decide, by decide⟩ ⟨Nat.le_of_ble_eq_true rfl, Nat.le_of_ble_eq_true rfl⟩ (Nat.le_of_ble_eq_true rfl) nd_RM_bind_11 rfl ?_
  exact vv_vret fx rfl nd_RM_bind_14
set_option maxRecDepth 4000 in
theorem cc_RM_cut (l : Launch) (Y : sy_Y) (M U : me_M) (o : Int64) (r k lv : Nat) (hk : k < 64) (hlv : lv ≤ 3) (hp : 0 < lv → fb_pk M r k (lv - 1)) (hq : 0 < lv → fb_na M r k (lv - 1) < 61) : ct_V l ny_RM_cut nb_RM_cut 5 { frames := 2, cells := 0, slots := 0, locals := 46 } Y [.ref (Y.2.1 1), .int (nI r), .int (nI k), .int (nI lv)] M U o (fb_cut M r k lv) U o := by
  refine ct_body (own := nr_RM) (L0 := [(0, .ref (Y.2.1 1)), (1, .int (nI r)), (2, .int (nI k)), (3, .int (nI lv))]) (by decide) rfl (Nat.le_of_ble_eq_true rfl) rfl ?_
  intro p e s m args below meth c fx
  by_cases hL : lv = 0
  · subst hL
    refine vv_iload_n fx nd_RM_cut_0 rfl 3 rfl ?_
    refine vv_if_gt (tgt := 5) fx nd_RM_cut_1 (by decide) (fun hb => absurd hb (by decide)) (fun _ => ?_)
    exact vv_vret fx rfl nd_RM_cut_4
  · obtain ⟨j, rfl⟩ : ∃ j, lv = j + 1 := ⟨lv - 1, by omega⟩
    have hq : fb_na M r k j < 61 := hq (by omega)
    have hp : fb_pk M r k j := hp (by omega)
    refine vv_iload_n fx nd_RM_cut_0 rfl 3 rfl ?_
    refine vv_if_gt (tgt := 5) fx nd_RM_cut_1 (by decide) (fun _ => ?_) (fun hb => absurd (by show nI 0 < _; exact nI_lt (by omega) (by omega)) hb)
    refine vv_aload_n fx nd_RM_cut_5 rfl 0 rfl ?_
    refine vv_iload_n fx nd_RM_cut_6 rfl 1 rfl ?_
    refine vv_iload_n fx nd_RM_cut_7 rfl 2 rfl ?_
    refine vv_iload_n fx nd_RM_cut_8 rfl 3 rfl ?_
    refine vv_iconst (v := nI 1) fx nd_RM_cut_9 (by decide) ?_
    refine vv_isub fx nd_RM_cut_10 ?_
    refine vv_top (y := nI j) (nI_pred j) ?_
    refine vv_callVi (C := nr_RM) (T := nt_RM) (N := 4) (ci := 1) fx (cc_RM_nodeAt l Y M U o r k j hk (by omega) (fb_pk_le hp (by omega))) nm_RM_27 ns_RM_nodeAt nv_RM_nodeAt nz_RM nc_RM_nodeAt ni_RM_nodeAt 1 rfl rfl ⟨rfl, rfl, by decide, by decide⟩ ⟨Nat.le_of_ble_eq_true rfl, Nat.le_of_ble_eq_true rfl⟩ (Nat.le_of_ble_eq_true rfl) nd_RM_cut_11 rfl ?_
    refine vv_istore (L' := [(0, .ref (Y.2.1 1)), (1, .int (nI r)), (2, .int (nI k)), (3, .int (nI (j + 1))), (4, .int (nI (fb_na M r k j)))]) fx nd_RM_cut_14 (by decide) [1, 2, 3, 4, 0] rfl ?_
    refine vv_aload_n fx nd_RM_cut_16 rfl 0 rfl ?_
    refine vv_get (ci := 1) (C := nr_RM) (T := nt_RM) (N := 4) fx nt_RM_in 1 rfl rfl 0 (by decide) nf_RM_13 rfl nd_RM_cut_17 ?_
    refine vv_iload fx nd_RM_cut_20 4 rfl ?_
    refine vv_aald fx (hq) nd_RM_cut_22 ?_
    refine vv_iload_n fx nd_RM_cut_23 rfl 2 rfl ?_
    refine vv_iload_n fx nd_RM_cut_24 rfl 3 rfl ?_
    refine vv_iconst (v := nI 1) fx nd_RM_cut_25 (by decide) ?_
    refine vv_isub fx nd_RM_cut_26 ?_
    refine vv_top (y := nI j) (nI_pred j) ?_
    refine vv_callSi fx (cc_RM_turnOf l Y M U o k j hk (by omega)) nm_RM_35 ns_RM_turnOf nz_RM nc_RM_turnOf ni_RM_turnOf ⟨rfl, rfl, by decide, by decide⟩ ⟨Nat.le_of_ble_eq_true rfl, Nat.le_of_ble_eq_true rfl⟩ (Nat.le_of_ble_eq_true rfl) nd_RM_cut_27 rfl ?_
    refine vv_iconst (v := 0) fx nd_RM_cut_30 (by decide) ?_
    refine vv_iast (M' := me_up M (6 + (fb_na M r k j)) (fb_tn k j) 0) (U' := U) fx (14 + (fb_na M r k j)) 0 (sy_row (hq)) rfl (fb_tn_lt _ _) (by decide) nd_RM_cut_31 (sy_setR (hq) _) ?_
    refine vv_aload_n fx nd_RM_cut_32 rfl 0 rfl ?_
    refine vv_get (ci := 1) (C := nr_RM) (T := nt_RM) (N := 4) fx nt_RM_in 1 rfl rfl 1 (by decide) nf_RM_16 rfl nd_RM_cut_33 ?_
    refine vv_iload fx nd_RM_cut_36 4 rfl ?_
    refine vv_dup2 fx nd_RM_cut_38 rfl rfl ?_
    refine vv_iald fx 5 0 rfl rfl (hq) (by decide) nd_RM_cut_39 ?_
    refine vv_top (y := M 0 (fb_na M r k j)) (congrFun (me_up_n _ _ _ (by omega)) _) ?_
    refine vv_iload_n fx nd_RM_cut_40 rfl 2 rfl ?_
    refine vv_iload_n fx nd_RM_cut_41 rfl 3 rfl ?_
    refine vv_iconst (v := nI 1) fx nd_RM_cut_42 (by decide) ?_
    refine vv_isub fx nd_RM_cut_43 ?_
    refine vv_top (y := nI j) (nI_pred j) ?_
    refine vv_callSi fx (cc_RM_bitOf l Y (me_up M (6 + (fb_na M r k j)) (fb_tn k j) 0) U o k j hk (by omega)) nm_RM_31 ns_RM_bitOf nz_RM nc_RM_bitOf ni_RM_bitOf ⟨rfl, rfl, by decide, by decide⟩ ⟨Nat.le_of_ble_eq_true rfl, Nat.le_of_ble_eq_true rfl⟩ (Nat.le_of_ble_eq_true rfl) nd_RM_cut_44 rfl ?_
    refine vv_iconst (v := -1) fx nd_RM_cut_47 (by decide) ?_
    refine vv_ixor fx nd_RM_cut_48 ?_
    refine vv_iand fx nd_RM_cut_49 ?_
    refine vv_iast (M' := me_up (me_up M (6 + (fb_na M r k j)) (fb_tn k j) 0) 0 (fb_na M r k j) ((M 0 (fb_na M r k j)) &&& ((fb_bit k j) ^^^ (-1)))) (U' := U) fx 5 0 rfl rfl (hq) (by decide) nd_RM_cut_50 (sy_set0 _) ?_
    exact vv_vret fx rfl nd_RM_cut_51
set_option maxRecDepth 4000 in
theorem cc_RM_freeze (l : Launch) (Y : sy_Y) (M U : me_M) (o : Int64)  : ct_V l ny_RM_freeze nb_RM_freeze 2 { frames := 0, cells := 0, slots := 0, locals := 0 } Y [.ref (Y.2.1 1)] M U o (fb_freeze M) U o := by
  refine ct_body (own := nr_RM) (L0 := [(0, .ref (Y.2.1 1))]) (by decide) rfl (Nat.le_of_ble_eq_true rfl) rfl ?_
  intro p e s m args below meth c fx
  refine vv_iconst (v := nI 0) fx nd_RM_freeze_0 (by decide) ?_
  refine vv_istore_n (L' := [(0, .ref (Y.2.1 1)), (1, .int (nI 0))]) fx nd_RM_freeze_1 rfl (by decide) [1, 0] rfl ?_
  refine vv_mem (M9 := me_zero M 1 0 0) (U9 := U) ((me_zero_0 M 1 0).symm) (rfl) ?_
  have loop : ∀ d i, i + d = 61 → vv p l e { frames := 0, cells := 0, slots := 0, locals := 0 } s m args below meth c 0 0 (MQ below (ct_Qv Y (fb_freeze M) U o) args s 0 0 Y.2.2.2) 2 Y (me_zero M 1 0 i) U o 2 [(0, .ref (Y.2.1 1)), (1, .int (nI i))] [] := by
    intro d
    induction d with
    | zero =>
      intro i hi
      refine vv_iload_n fx nd_RM_freeze_2 rfl 1 rfl ?_
      refine vv_aload_n fx nd_RM_freeze_3 rfl 0 rfl ?_
      refine vv_get (ci := 1) (C := nr_RM) (T := nt_RM) (N := 4) fx nt_RM_in 1 rfl rfl 2 (by decide) nf_RM_20 rfl nd_RM_freeze_4 ?_
      refine vv_alen fx 6 1 rfl rfl nd_RM_freeze_7 ?_
      refine vv_icmp_ge (tgt := 24) fx nd_RM_freeze_8 (by decide) (fun _ => ?_) (fun hb => absurd (nI_le (by omega) (by omega)) hb)
      rw [show i = 61 by omega]
      exact vv_vret fx rfl nd_RM_freeze_24
    | succ d ih =>
      intro i hi
      refine vv_iload_n fx nd_RM_freeze_2 rfl 1 rfl ?_
      refine vv_aload_n fx nd_RM_freeze_3 rfl 0 rfl ?_
      refine vv_get (ci := 1) (C := nr_RM) (T := nt_RM) (N := 4) fx nt_RM_in 1 rfl rfl 2 (by decide) nf_RM_20 rfl nd_RM_freeze_4 ?_
      refine vv_alen fx 6 1 rfl rfl nd_RM_freeze_7 ?_
      refine vv_icmp_ge (tgt := 24) fx nd_RM_freeze_8 (by decide) (fun hb => absurd hb (nI_ge (by omega) (by omega))) (fun _ => ?_)
      refine vv_aload_n fx nd_RM_freeze_11 rfl 0 rfl ?_
      refine vv_get (ci := 1) (C := nr_RM) (T := nt_RM) (N := 4) fx nt_RM_in 1 rfl rfl 2 (by decide) nf_RM_20 rfl nd_RM_freeze_12 ?_
      refine vv_iload_n fx nd_RM_freeze_15 rfl 1 rfl ?_
      refine vv_iconst (v := 0) fx nd_RM_freeze_16 (by decide) ?_
      refine vv_zast (M' := me_up (me_zero M 1 0 i) 1 i 0) (U' := U) fx 6 1 rfl rfl (by omega) (by decide) (Or.inl rfl) nd_RM_freeze_17 (sy_set1 _) ?_
      refine vv_iinc (v := nI (i + 1)) (L' := [(0, .ref (Y.2.1 1)), (1, .int (nI (i + 1)))]) fx nd_RM_freeze_18 1 rfl (nI_1 i) (by decide) [1, 0] rfl ?_
      refine vv_goto (tgt := 2) fx nd_RM_freeze_21 (by decide) ?_
      refine vv_mem (M9 := me_zero M 1 0 (i + 1)) (U9 := U) (me_zero_s M 1 0 i (by omega)) (rfl) ?_
      exact ih (i + 1) (by omega)
  exact loop 61 0 (by omega)
set_option maxRecDepth 4000 in
theorem cc_RM_unmarkAll (l : Launch) (Y : sy_Y) (M U : me_M) (o : Int64)  : ct_V l ny_RM_unmarkAll nb_RM_unmarkAll 2 { frames := 0, cells := 0, slots := 0, locals := 0 } Y [.ref (Y.2.1 1)] M U o (fb_unmark M) U o := by
  refine ct_body (own := nr_RM) (L0 := [(0, .ref (Y.2.1 1))]) (by decide) rfl (Nat.le_of_ble_eq_true rfl) rfl ?_
  intro p e s m args below meth c fx
  refine vv_iconst (v := nI 0) fx nd_RM_unmarkAll_0 (by decide) ?_
  refine vv_istore_n (L' := [(0, .ref (Y.2.1 1)), (1, .int (nI 0))]) fx nd_RM_unmarkAll_1 rfl (by decide) [1, 0] rfl ?_
  refine vv_mem (M9 := me_zero M 2 0 0) (U9 := U) ((me_zero_0 M 2 0).symm) (rfl) ?_
  have loop : ∀ d i, i + d = 61 → vv p l e { frames := 0, cells := 0, slots := 0, locals := 0 } s m args below meth c 0 0 (MQ below (ct_Qv Y (fb_unmark M) U o) args s 0 0 Y.2.2.2) 2 Y (me_zero M 2 0 i) U o 2 [(0, .ref (Y.2.1 1)), (1, .int (nI i))] [] := by
    intro d
    induction d with
    | zero =>
      intro i hi
      refine vv_iload_n fx nd_RM_unmarkAll_2 rfl 1 rfl ?_
      refine vv_aload_n fx nd_RM_unmarkAll_3 rfl 0 rfl ?_
      refine vv_get (ci := 1) (C := nr_RM) (T := nt_RM) (N := 4) fx nt_RM_in 1 rfl rfl 3 (by decide) nf_RM_24 rfl nd_RM_unmarkAll_4 ?_
      refine vv_alen fx 7 1 rfl rfl nd_RM_unmarkAll_7 ?_
      refine vv_icmp_ge (tgt := 24) fx nd_RM_unmarkAll_8 (by decide) (fun _ => ?_) (fun hb => absurd (nI_le (by omega) (by omega)) hb)
      rw [show i = 61 by omega]
      exact vv_vret fx rfl nd_RM_unmarkAll_24
    | succ d ih =>
      intro i hi
      refine vv_iload_n fx nd_RM_unmarkAll_2 rfl 1 rfl ?_
      refine vv_aload_n fx nd_RM_unmarkAll_3 rfl 0 rfl ?_
      refine vv_get (ci := 1) (C := nr_RM) (T := nt_RM) (N := 4) fx nt_RM_in 1 rfl rfl 3 (by decide) nf_RM_24 rfl nd_RM_unmarkAll_4 ?_
      refine vv_alen fx 7 1 rfl rfl nd_RM_unmarkAll_7 ?_
      refine vv_icmp_ge (tgt := 24) fx nd_RM_unmarkAll_8 (by decide) (fun hb => absurd hb (nI_ge (by omega) (by omega))) (fun _ => ?_)
      refine vv_aload_n fx nd_RM_unmarkAll_11 rfl 0 rfl ?_
      refine vv_get (ci := 1) (C := nr_RM) (T := nt_RM) (N := 4) fx nt_RM_in 1 rfl rfl 3 (by decide) nf_RM_24 rfl nd_RM_unmarkAll_12 ?_
      refine vv_iload_n fx nd_RM_unmarkAll_15 rfl 1 rfl ?_
      refine vv_iconst (v := 0) fx nd_RM_unmarkAll_16 (by decide) ?_
      refine vv_zast (M' := me_up (me_zero M 2 0 i) 2 i 0) (U' := U) fx 7 1 rfl rfl (by omega) (by decide) (Or.inl rfl) nd_RM_unmarkAll_17 (sy_set2 _) ?_
      refine vv_iinc (v := nI (i + 1)) (L' := [(0, .ref (Y.2.1 1)), (1, .int (nI (i + 1)))]) fx nd_RM_unmarkAll_18 1 rfl (nI_1 i) (by decide) [1, 0] rfl ?_
      refine vv_goto (tgt := 2) fx nd_RM_unmarkAll_21 (by decide) ?_
      refine vv_mem (M9 := me_zero M 2 0 (i + 1)) (U9 := U) (me_zero_s M 2 0 i (by omega)) (rfl) ?_
      exact ih (i + 1) (by omega)
  exact loop 61 0 (by omega)
theorem cc_RM_nodeAtK (l : Launch) (Y : sy_Y) (M U : me_M) (o : Int64) (K : Nat → Int32) (r k lv : Nat) (hk : k < 64) (hlv : lv < 3) (hp : fb_pk M r k lv) : ct_I l ny_RM_nodeAt nb_RM_nodeAt 6 (some .int) { frames := 1, cells := 0, slots := 0, locals := 21 } Y [.ref (Y.2.1 1), .int (nI r), .int (nI k), .int (nI lv)] (me_set M 2 K) U o (nI (fb_na M r k lv)) (me_set M 2 K) U o := by
  have h := cc_RM_nodeAt l Y (me_set M 2 K) U o r k lv hk hlv (fb_pkK hp K)
  rw [rf_set2_na] at h
  exact h
set_option maxRecDepth 4000 in
theorem cc_RM_mark (l : Launch) (Y : sy_Y) (M U : me_M) (o : Int64) (r : Nat) (hr : r < 61) (hp : ∀ k, k < 64 → fb_pk M r k 2) (hq : ∀ k, k < 64 → ∀ i, i < 3 → fb_na M r k i < 61) : ct_I l ny_RM_mark nb_RM_mark 6 (some .int) { frames := 2, cells := 0, slots := 0, locals := 46 } Y [.ref (Y.2.1 1), .int (nI r)] M U o (nI (fb_mark M r).1) ((fb_mark M r).2) U o := by
  refine ct_body (own := nr_RM) (L0 := [(0, .ref (Y.2.1 1)), (1, .int (nI r))]) (by decide) rfl (Nat.le_of_ble_eq_true rfl) rfl ?_
  intro p e s m args below meth c fx
  refine vv_iload_n fx nd_RM_mark_0 rfl 1 rfl ?_
  refine vv_if_eq (tgt := 13) fx nd_RM_mark_1 (by decide) (fun hb1 => ?_) (fun hb1 => ?_)
  · have e7 : fb_mark M r = (0, M) := if_pos (Or.inl (Classical.byContradiction fun z => nI_ne0 (by omega) (by omega) hb1))
    rw [e7]
    refine vv_iconst (v := nI 0) fx nd_RM_mark_13 (by decide) ?_
    exact vv_iret fx rfl nd_RM_mark_14 (rfl)
  · refine vv_aload_n fx nd_RM_mark_4 rfl 0 rfl ?_
    refine vv_get (ci := 1) (C := nr_RM) (T := nt_RM) (N := 4) fx nt_RM_in 1 rfl rfl 3 (by decide) nf_RM_24 rfl nd_RM_mark_5 ?_
    refine vv_iload_n fx nd_RM_mark_8 rfl 1 rfl ?_
    refine vv_zald fx 7 1 rfl rfl (hr) (by decide) nd_RM_mark_9 ?_
    refine vv_if_eq (tgt := 15) fx nd_RM_mark_10 (by decide) (fun hb10 => ?_) (fun hb10 => ?_)
    · have e7 : fb_mark M r = ((fb_mk2 M r (0, M 2) 16).1, me_set M 2 (fb_mk2 M r (0, M 2) 16).2) := if_neg (fun z => z.elim (fun q => hb1 (by rw [q]; rfl)) (fun q => q hb10))
      rw [e7]
      refine vv_iconst (v := nI 0) fx nd_RM_mark_15 (by decide) ?_
      refine vv_istore_n (L' := [(0, .ref (Y.2.1 1)), (1, .int (nI r)), (2, .int (nI 0))]) fx nd_RM_mark_16 rfl (by decide) [1, 2, 0] rfl ?_
      refine vv_iconst (v := nI 0) fx nd_RM_mark_17 (by decide) ?_
      refine vv_istore_n (L' := [(0, .ref (Y.2.1 1)), (1, .int (nI r)), (2, .int (nI 0)), (3, .int (nI 0))]) fx nd_RM_mark_18 rfl (by decide) [1, 2, 3, 0] rfl ?_
      refine vv_mem (M9 := me_set M 2 (M 2)) (U9 := U) ((me_set_i M 2).symm) (rfl) ?_
      have outer : ∀ d i, i + d = 16 → vv p l e { frames := 2, cells := 0, slots := 0, locals := 46 } s m args below meth c 0 0 (MQ below (ct_Qi Y (nI (fb_mk2 M r (0, M 2) 16).1) (me_set M 2 (fb_mk2 M r (0, M 2) 16).2) U o) args s 0 0 Y.2.2.2) 6 Y (me_set M 2 (fb_mk2 M r (0, M 2) i).2) U o 19 [(0, .ref (Y.2.1 1)), (1, .int (nI r)), (2, .int (nI (fb_mk2 M r (0, M 2) i).1)), (3, .int (nI (4 * i)))] [] := by
        intro d
        induction d with
        | zero =>
          intro i hi
          have e9 : i = 16 := by omega
          subst e9
          refine vv_iload_n fx nd_RM_mark_19 rfl 3 rfl ?_
          refine vv_bipush (v := nI 64) fx nd_RM_mark_20 (by decide) ?_
          refine vv_icmp_ge (tgt := 82) fx nd_RM_mark_22 (by decide) (fun _ => ?_) (fun hb => absurd (nI_le (by omega) (by omega)) hb)
          refine vv_iload_n fx nd_RM_mark_82 rfl 2 rfl ?_
          exact vv_iret fx rfl nd_RM_mark_83 (rfl)
        | succ d ih =>
          intro i hi
          refine vv_iload_n fx nd_RM_mark_19 rfl 3 rfl ?_
          refine vv_bipush (v := nI 64) fx nd_RM_mark_20 (by decide) ?_
          refine vv_icmp_ge (tgt := 82) fx nd_RM_mark_22 (by decide) (fun hb => absurd hb (nI_ge (by omega) (by omega))) (fun _ => ?_)
          refine vv_iconst (v := nI 0) fx nd_RM_mark_25 (by decide) ?_
          refine vv_istore (L' := [(0, .ref (Y.2.1 1)), (1, .int (nI r)), (2, .int (nI (fb_mk2 M r (0, M 2) i).1)), (3, .int (nI (4 * i))), (4, .int (nI 0))]) fx nd_RM_mark_26 (by decide) [1, 2, 3, 4, 0] rfl ?_
          have inner : ∀ g lv, lv + g = 3 → vv p l e { frames := 2, cells := 0, slots := 0, locals := 46 } s m args below meth c 0 0 (MQ below (ct_Qi Y (nI (fb_mk2 M r (0, M 2) 16).1) (me_set M 2 (fb_mk2 M r (0, M 2) 16).2) U o) args s 0 0 Y.2.2.2) 6 Y (me_set M 2 (fb_mk1 M r (4 * i) (fb_mk2 M r (0, M 2) i) lv).2) U o 28 [(0, .ref (Y.2.1 1)), (1, .int (nI r)), (2, .int (nI (fb_mk1 M r (4 * i) (fb_mk2 M r (0, M 2) i) lv).1)), (3, .int (nI (4 * i))), (4, .int (nI lv))] [] := by
            intro g
            induction g with
            | zero =>
              intro lv hl
              have e9 : lv = 3 := by omega
              subst e9
              refine vv_iload fx nd_RM_mark_28 4 rfl ?_
              refine vv_iconst (v := nI 3) fx nd_RM_mark_30 (by decide) ?_
              refine vv_icmp_ge (tgt := 76) fx nd_RM_mark_31 (by decide) (fun _ => ?_) (fun hb => absurd (nI_le (by omega) (by omega)) hb)
              refine vv_iinc (v := nI (4 * (i + 1))) (L' := [(0, .ref (Y.2.1 1)), (1, .int (nI r)), (2, .int (nI (fb_mk1 M r (4 * i) (fb_mk2 M r (0, M 2) i) 3).1)), (3, .int (nI (4 * (i + 1)))), (4, .int (nI 3))]) fx nd_RM_mark_76 3 rfl (by rw [show 4 * (i + 1) = 4 * i + 4 by omega]; exact nI_add (4 * i) 4) (by decide) [1, 2, 3, 0, 4] rfl ?_
              refine vv_goto (tgt := 19) fx nd_RM_mark_79 (by decide) ?_
              refine vv_loc (L' := [(0, .ref (Y.2.1 1)), (1, .int (nI r)), (2, .int (nI (fb_mk1 M r (4 * i) (fb_mk2 M r (0, M 2) i) 3).1)), (3, .int (nI (4 * (i + 1))))]) [0, 1, 2, 3] rfl ?_
              exact ih (i + 1) (by omega)
            | succ g ih2 =>
              intro lv hl
              have hna : (fb_na M r (4 * i) lv) < 61 := hq (4 * i) (by omega) lv (by omega)
              have ev : fb_mk1 M r (4 * i) (fb_mk2 M r (0, M 2) i) (lv + 1) = if (fb_na M r (4 * i) lv) ≠ 0 ∧ (fb_mk1 M r (4 * i) (fb_mk2 M r (0, M 2) i) lv).2 (fb_na M r (4 * i) lv) = 0 then ((fb_mk1 M r (4 * i) (fb_mk2 M r (0, M 2) i) lv).1 + 1, upd (fb_mk1 M r (4 * i) (fb_mk2 M r (0, M 2) i) lv).2 (fb_na M r (4 * i) lv) 1) else (fb_mk1 M r (4 * i) (fb_mk2 M r (0, M 2) i) lv) := rfl
              refine vv_iload fx nd_RM_mark_28 4 rfl ?_
              refine vv_iconst (v := nI 3) fx nd_RM_mark_30 (by decide) ?_
              refine vv_icmp_ge (tgt := 76) fx nd_RM_mark_31 (by decide) (fun hb => absurd hb (nI_ge (by omega) (by omega))) (fun _ => ?_)
              refine vv_aload_n fx nd_RM_mark_34 rfl 0 rfl ?_
              refine vv_iload_n fx nd_RM_mark_35 rfl 1 rfl ?_
              refine vv_iload_n fx nd_RM_mark_36 rfl 3 rfl ?_
              refine vv_iload fx nd_RM_mark_37 4 rfl ?_
              refine vv_callVi (C := nr_RM) (T := nt_RM) (N := 4) (ci := 1) fx (cc_RM_nodeAtK l Y M U o (fb_mk1 M r (4 * i) (fb_mk2 M r (0, M 2) i) lv).2 r (4 * i) lv (by omega) (by omega) (fb_pk_le (hp (4 * i) (by omega)) (by omega))) nm_RM_27 ns_RM_nodeAt nv_RM_nodeAt nz_RM nc_RM_nodeAt ni_RM_nodeAt 1 rfl rfl ⟨rfl, rfl, by decide, by decide⟩ ⟨Nat.le_of_ble_eq_true rfl, Nat.le_of_ble_eq_true rfl⟩ (Nat.le_of_ble_eq_true rfl) nd_RM_mark_39 rfl ?_
              refine vv_istore (L' := [(0, .ref (Y.2.1 1)), (1, .int (nI r)), (2, .int (nI (fb_mk1 M r (4 * i) (fb_mk2 M r (0, M 2) i) lv).1)), (3, .int (nI (4 * i))), (4, .int (nI lv)), (5, .int (nI (fb_na M r (4 * i) lv)))]) fx nd_RM_mark_42 (by decide) [1, 2, 3, 4, 5, 0] rfl ?_
              refine vv_iload fx nd_RM_mark_44 5 rfl ?_
              refine vv_if_eq (tgt := 70) fx nd_RM_mark_46 (by decide) (fun hb46 => ?_) (fun hb46 => ?_)
              · refine vv_iinc (v := nI (lv + 1)) (L' := [(0, .ref (Y.2.1 1)), (1, .int (nI r)), (2, .int (nI (fb_mk1 M r (4 * i) (fb_mk2 M r (0, M 2) i) lv).1)), (3, .int (nI (4 * i))), (4, .int (nI (lv + 1))), (5, .int (nI (fb_na M r (4 * i) lv)))]) fx nd_RM_mark_70 4 rfl (nI_1 lv) (by decide) [1, 2, 3, 4, 0, 5] rfl ?_
                refine vv_goto (tgt := 28) fx nd_RM_mark_73 (by decide) ?_
                refine vv_loc (L' := [(0, .ref (Y.2.1 1)), (1, .int (nI r)), (2, .int (nI (fb_mk1 M r (4 * i) (fb_mk2 M r (0, M 2) i) lv).1)), (3, .int (nI (4 * i))), (4, .int (nI (lv + 1)))]) [0, 1, 2, 3, 4] rfl ?_
                have e8 : fb_mk1 M r (4 * i) (fb_mk2 M r (0, M 2) i) (lv + 1) = (fb_mk1 M r (4 * i) (fb_mk2 M r (0, M 2) i) lv) := by rw [ev, if_neg (fun z => nI_ne0 (by omega) (by omega) hb46)]
                rw [← e8]
                exact ih2 (lv + 1) (by omega)
              · refine vv_aload_n fx nd_RM_mark_49 rfl 0 rfl ?_
                refine vv_get (ci := 1) (C := nr_RM) (T := nt_RM) (N := 4) fx nt_RM_in 1 rfl rfl 3 (by decide) nf_RM_24 rfl nd_RM_mark_50 ?_
                refine vv_iload fx nd_RM_mark_53 5 rfl ?_
                refine vv_zald fx 7 1 rfl rfl (hna) (by decide) nd_RM_mark_55 ?_
                refine vv_top (y := (fb_mk1 M r (4 * i) (fb_mk2 M r (0, M 2) i) lv).2 (fb_na M r (4 * i) lv)) (congrFun (me_set_s _ _ _) _) ?_
                refine vv_if_ne (tgt := 70) fx nd_RM_mark_56 (by decide) (fun hb56 => ?_) (fun hb56 => ?_)
                · refine vv_iinc (v := nI (lv + 1)) (L' := [(0, .ref (Y.2.1 1)), (1, .int (nI r)), (2, .int (nI (fb_mk1 M r (4 * i) (fb_mk2 M r (0, M 2) i) lv).1)), (3, .int (nI (4 * i))), (4, .int (nI (lv + 1))), (5, .int (nI (fb_na M r (4 * i) lv)))]) fx nd_RM_mark_70 4 rfl (nI_1 lv) (by decide) [1, 2, 3, 4, 0, 5] rfl ?_
                  refine vv_goto (tgt := 28) fx nd_RM_mark_73 (by decide) ?_
                  refine vv_loc (L' := [(0, .ref (Y.2.1 1)), (1, .int (nI r)), (2, .int (nI (fb_mk1 M r (4 * i) (fb_mk2 M r (0, M 2) i) lv).1)), (3, .int (nI (4 * i))), (4, .int (nI (lv + 1)))]) [0, 1, 2, 3, 4] rfl ?_
                  have e8 : fb_mk1 M r (4 * i) (fb_mk2 M r (0, M 2) i) (lv + 1) = (fb_mk1 M r (4 * i) (fb_mk2 M r (0, M 2) i) lv) := by rw [ev, if_neg (fun z => hb56 z.2)]
                  rw [← e8]
                  exact ih2 (lv + 1) (by omega)
                · refine vv_aload_n fx nd_RM_mark_59 rfl 0 rfl ?_
                  refine vv_get (ci := 1) (C := nr_RM) (T := nt_RM) (N := 4) fx nt_RM_in 1 rfl rfl 3 (by decide) nf_RM_24 rfl nd_RM_mark_60 ?_
                  refine vv_iload fx nd_RM_mark_63 5 rfl ?_
                  refine vv_iconst (v := nI 1) fx nd_RM_mark_65 (by decide) ?_
                  refine vv_zast (M' := me_up (me_set M 2 (fb_mk1 M r (4 * i) (fb_mk2 M r (0, M 2) i) lv).2) 2 (fb_na M r (4 * i) lv) (nI 1)) (U' := U) fx 7 1 rfl rfl (hna) (by decide) (Or.inr rfl) nd_RM_mark_66 (sy_set2 _) ?_
                  refine vv_iinc (v := nI ((fb_mk1 M r (4 * i) (fb_mk2 M r (0, M 2) i) lv).1 + 1)) (L' := [(0, .ref (Y.2.1 1)), (1, .int (nI r)), (2, .int (nI ((fb_mk1 M r (4 * i) (fb_mk2 M r (0, M 2) i) lv).1 + 1))), (3, .int (nI (4 * i))), (4, .int (nI lv)), (5, .int (nI (fb_na M r (4 * i) lv)))]) fx nd_RM_mark_67 2 rfl (nI_1 _) (by decide) [1, 2, 0, 3, 4, 5] rfl ?_
                  refine vv_mem (M9 := me_set M 2 (upd (fb_mk1 M r (4 * i) (fb_mk2 M r (0, M 2) i) lv).2 (fb_na M r (4 * i) lv) 1)) (U9 := U) (me_up_2 _ _ _ _ _) (rfl) ?_
                  refine vv_iinc (v := nI (lv + 1)) (L' := [(0, .ref (Y.2.1 1)), (1, .int (nI r)), (2, .int (nI ((fb_mk1 M r (4 * i) (fb_mk2 M r (0, M 2) i) lv).1 + 1))), (3, .int (nI (4 * i))), (4, .int (nI (lv + 1))), (5, .int (nI (fb_na M r (4 * i) lv)))]) fx nd_RM_mark_70 4 rfl (nI_1 lv) (by decide) [1, 2, 3, 4, 0, 5] rfl ?_
                  refine vv_goto (tgt := 28) fx nd_RM_mark_73 (by decide) ?_
                  refine vv_loc (L' := [(0, .ref (Y.2.1 1)), (1, .int (nI r)), (2, .int (nI ((fb_mk1 M r (4 * i) (fb_mk2 M r (0, M 2) i) lv).1 + 1))), (3, .int (nI (4 * i))), (4, .int (nI (lv + 1)))]) [0, 1, 2, 3, 4] rfl ?_
                  have hz : (fb_na M r (4 * i) lv) ≠ 0 := fun z => hb46 (by rw [z]; rfl)
                  have e8 : fb_mk1 M r (4 * i) (fb_mk2 M r (0, M 2) i) (lv + 1) = ((fb_mk1 M r (4 * i) (fb_mk2 M r (0, M 2) i) lv).1 + 1, upd (fb_mk1 M r (4 * i) (fb_mk2 M r (0, M 2) i) lv).2 (fb_na M r (4 * i) lv) 1) := by rw [ev, if_pos ⟨hz, hb56⟩]
                  have h9 := ih2 (lv + 1) (by omega)
                  rw [e8] at h9
                  exact h9
          exact inner 3 0 (by omega)
      exact outer 16 0 (by omega)
    · have e7 : fb_mark M r = (0, M) := if_pos (Or.inr hb10)
      rw [e7]
      refine vv_iconst (v := nI 0) fx nd_RM_mark_13 (by decide) ?_
      exact vv_iret fx rfl nd_RM_mark_14 (rfl)
