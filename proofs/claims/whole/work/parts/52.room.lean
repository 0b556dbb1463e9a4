/-! Room's methods: contracts (printed by room.py) -/
theorem fb_shr {k lv : Nat} (hk : k < 64) (hlv : lv < 3) : nI k >>> (nI (2 * (2 - lv)) &&& 31) = nI (k / 4 ^ (2 - lv)) := by
  match lv, hlv with
  | 0, _ => exact pk_shrN (by omega) _ 4 (by decide)
  | 1, _ => exact pk_shrN (by omega) _ 2 (by decide)
  | 2, _ => exact pk_shrN (by omega) _ 0 (by decide)
theorem fb_and3 (k lv : Nat) : nI (k / 4 ^ (2 - lv)) &&& nI 3 = nI (fb_tn k lv) := by
  unfold fb_tn
  generalize k / 4 ^ (2 - lv) = x
  have h : nI x = nI (x % 2 ^ 32) := by
    apply Int32.toBitVec_inj.1
    show BitVec.ofNat 32 x = BitVec.ofNat 32 (x % 2 ^ 32)
    apply BitVec.eq_of_toNat_eq
    simp
  rw [h, pk_andN (by omega) 2 (by decide)]
  congr 1
  omega
set_option maxRecDepth 4000 in
theorem cc_RM_turnOf (l : Launch) (Y : sy_Y) (M U : me_M) (o : Int64) (k lv : Nat) (hk : k < 64) (hlv : lv < 3) : ct_I l ny_RM_turnOf nb_RM_turnOf 2 (some .int) { frames := 0, cells := 0, slots := 0, locals := 0 } Y [.int (nI k), .int (nI lv)] M U o (nI (fb_tn k lv)) M U o := by
  refine ct_body (own := nr_RM) (L0 := [(0, .int (nI k)), (1, .int (nI lv))]) (by decide) rfl (Nat.le_of_ble_eq_true rfl) rfl ?_
  intro p e s m args below meth c fx
  refine vv_iload_n fx nd_RM_turnOf_0 rfl 0 rfl ?_
  refine vv_iconst (v := nI 2) fx nd_RM_turnOf_1 (by decide) ?_
  refine vv_iconst (v := nI 2) fx nd_RM_turnOf_2 (by decide) ?_
  refine vv_iload_n fx nd_RM_turnOf_3 rfl 1 rfl ?_
  refine vv_isub fx nd_RM_turnOf_4 ?_
  refine vv_top (y := nI (2 - lv)) (pk_sub (by omega)) ?_
  refine vv_imul fx nd_RM_turnOf_5 ?_
  refine vv_top (y := nI (2 * (2 - lv))) (pk_mul _ _) ?_
  refine vv_ishr fx nd_RM_turnOf_6 ?_
  refine vv_top (y := nI (k / 4 ^ (2 - lv))) (fb_shr hk hlv) ?_
  refine vv_iconst (v := nI 3) fx nd_RM_turnOf_7 (by decide) ?_
  refine vv_iand fx nd_RM_turnOf_8 ?_
  refine vv_top (y := nI (fb_tn k lv)) (fb_and3 _ _) ?_
  exact vv_iret fx rfl nd_RM_turnOf_9 (rfl)
set_option maxRecDepth 4000 in
theorem cc_RM_bitOf (l : Launch) (Y : sy_Y) (M U : me_M) (o : Int64) (k lv : Nat) (hk : k < 64) (hlv : lv < 3) : ct_I l ny_RM_bitOf nb_RM_bitOf 2 (some .int) { frames := 1, cells := 0, slots := 0, locals := 21 } Y [.int (nI k), .int (nI lv)] M U o (fb_bit k lv) M U o := by
  refine ct_body (own := nr_RM) (L0 := [(0, .int (nI k)), (1, .int (nI lv))]) (by decide) rfl (Nat.le_of_ble_eq_true rfl) rfl ?_
  intro p e s m args below meth c fx
  refine vv_iconst (v := 1) fx nd_RM_bitOf_0 (by decide) ?_
  refine vv_iload_n fx nd_RM_bitOf_1 rfl 0 rfl ?_
  refine vv_iload_n fx nd_RM_bitOf_2 rfl 1 rfl ?_
  refine vv_callSi fx (cc_RM_turnOf l Y M U o k lv hk hlv) nm_RM_35 ns_RM_turnOf nz_RM nc_RM_turnOf ni_RM_turnOf ⟨rfl, rfl, by decide, by decide⟩ ⟨Nat.le_of_ble_eq_true rfl, Nat.le_of_ble_eq_true rfl⟩ (Nat.le_of_ble_eq_true rfl) nd_RM_bitOf_3 rfl ?_
  refine vv_ishl fx nd_RM_bitOf_6 ?_
  exact vv_iret fx rfl nd_RM_bitOf_7 (rfl)
def fb_pk (M : me_M) (r k lv : Nat) : Prop := ∀ i, i < lv → fb_na M r k i < 61 ∧ M (6 + fb_na M r k i) (fb_tn k i) = nI (fb_na M r k (i + 1))
theorem fb_pk_wf {M : me_M} {r : Nat} (h : fb_wf M r) (k : Nat) : fb_pk M r k 2 ∧ ∀ i, i < 3 → fb_na M r k i < 61 := by
  obtain ⟨h1, h2, h3⟩ := h
  have a1 := h2 (fb_tn k 0) (fb_tn_lt k 0)
  have a2 := h3 (fb_tn k 0) (fb_tn_lt k 0) (fb_tn k 1) (fb_tn_lt k 1)
  refine ⟨fun i hi => ?_, fun i hi => ?_⟩
  · match i, hi with
    | 0, _ => exact ⟨by show r < 61; omega, a1.1⟩
    | 1, _ => exact ⟨by show fb_ch M r (fb_tn k 0) < 61; omega, a2.1⟩
  · match i, hi with
    | 0, _ => show r < 61; omega
    | 1, _ => show fb_ch M r (fb_tn k 0) < 61; omega
    | 2, _ => show fb_ch M (fb_ch M r (fb_tn k 0)) (fb_tn k 1) < 61; omega
theorem fb_pk_le {M : me_M} {r k a b : Nat} (h : fb_pk M r k b) (hab : a ≤ b) : fb_pk M r k a := fun i hi => h i (by omega)
theorem fb_bd1 {M : me_M} {r k : Nat} (h : ¬ M 0 (fb_na M r k 2) &&& fb_bit k 2 = 0) : nI 1 = if fb_bd M r k = true then 1 else 0 := by
  have e : fb_bd M r k = true := decide_eq_true h
  rw [if_pos e]; rfl
theorem fb_bd0 {M : me_M} {r k : Nat} (h : M 0 (fb_na M r k 2) &&& fb_bit k 2 = 0) : nI 0 = if fb_bd M r k = true then 1 else 0 := by
  have e : ¬ fb_bd M r k = true := fun z => (of_decide_eq_true z : M 0 (fb_na M r k 2) &&& fb_bit k 2 ≠ 0) h
  rw [if_neg e]; rfl
theorem fb_01 (b : Bool) : (if b = true then (1 : Int32) else 0) = 0 ∨ (if b = true then (1 : Int32) else 0) = 1 := by cases b <;> simp
theorem fb_hne1 {M : me_M} {r k lv : Nat} (h : M 0 (fb_na M r k lv) = fb_bit k lv) : nI 1 = if fb_hne M r k lv = true then 1 else 0 := by
  have e : fb_hne M r k lv = true := decide_eq_true h
  rw [if_pos e]; rfl
theorem fb_hne0 {M : me_M} {r k lv : Nat} (h : ¬ M 0 (fb_na M r k lv) = fb_bit k lv) : nI 0 = if fb_hne M r k lv = true then 1 else 0 := by
  have e : ¬ fb_hne M r k lv = true := fun z => h (of_decide_eq_true z)
  rw [if_neg e]; rfl
set_option maxRecDepth 4000 in
theorem cc_RM_nodeAt (l : Launch) (Y : sy_Y) (M U : me_M) (o : Int64) (r k lv : Nat) (hk : k < 64) (hlv : lv < 3) (hp : fb_pk M r k lv) : ct_I l ny_RM_nodeAt nb_RM_nodeAt 6 (some .int) { frames := 1, cells := 0, slots := 0, locals := 21 } Y [.ref (Y.2.1 1), .int (nI r), .int (nI k), .int (nI lv)] M U o (nI (fb_na M r k lv)) M U o := by
  refine ct_body (own := nr_RM) (L0 := [(0, .ref (Y.2.1 1)), (1, .int (nI r)), (2, .int (nI k)), (3, .int (nI lv))]) (by decide) rfl (Nat.le_of_ble_eq_true rfl) rfl ?_
  intro p e s m args below meth c fx
  refine vv_iload_n fx nd_RM_nodeAt_0 rfl 1 rfl ?_
  refine vv_istore (L' := [(0, .ref (Y.2.1 1)), (1, .int (nI r)), (2, .int (nI k)), (3, .int (nI lv)), (4, .int (nI r))]) fx nd_RM_nodeAt_1 (by decide) [1, 2, 3, 4, 0] rfl ?_
  refine vv_iconst (v := nI 0) fx nd_RM_nodeAt_3 (by decide) ?_
  refine vv_istore (L' := [(0, .ref (Y.2.1 1)), (1, .int (nI r)), (2, .int (nI k)), (3, .int (nI lv)), (4, .int (nI r)), (5, .int (nI 0))]) fx nd_RM_nodeAt_4 (by decide) [1, 2, 3, 4, 5, 0] rfl ?_
  have loop : ∀ d i, i + d = lv → vv p l e { frames := 1, cells := 0, slots := 0, locals := 21 } s m args below meth c 0 0 (MQ below (ct_Qi Y (nI (fb_na M r k lv)) M U o) args s 0 0 Y.2.2.2) 6 Y M U o 6 [(0, .ref (Y.2.1 1)), (1, .int (nI r)), (2, .int (nI k)), (3, .int (nI lv)), (4, .int (nI (fb_na M r k i))), (5, .int (nI i))] [] := by
    intro d
    induction d with
    | zero =>
      intro i hi
      refine vv_iload fx nd_RM_nodeAt_6 5 rfl ?_
      refine vv_iload_n fx nd_RM_nodeAt_8 rfl 3 rfl ?_
      refine vv_icmp_ge (tgt := 34) fx nd_RM_nodeAt_9 (by decide) (fun _ => ?_) (fun hb => absurd (nI_le (by omega) (by omega)) hb)
      refine vv_iload fx nd_RM_nodeAt_34 4 rfl ?_
      exact vv_iret fx rfl nd_RM_nodeAt_36 (by rw [show i = lv by omega])
    | succ d ih =>
      intro i hi
      obtain ⟨h1, h2⟩ := hp i (by omega)
      refine vv_iload fx nd_RM_nodeAt_6 5 rfl ?_
      refine vv_iload_n fx nd_RM_nodeAt_8 rfl 3 rfl ?_
      refine vv_icmp_ge (tgt := 34) fx nd_RM_nodeAt_9 (by decide) (fun hb => absurd hb (nI_ge (by omega) (by omega))) (fun _ => ?_)
      refine vv_aload_n fx nd_RM_nodeAt_12 rfl 0 rfl ?_
      refine vv_get (ci := 1) (C := nr_RM) (T := nt_RM) (N := 4) fx nt_RM_in 1 rfl rfl 0 (by decide) nf_RM_13 rfl nd_RM_nodeAt_13 ?_
      refine vv_iload fx nd_RM_nodeAt_16 4 rfl ?_
      refine vv_aald fx (h1) nd_RM_nodeAt_18 ?_
      refine vv_iload_n fx nd_RM_nodeAt_19 rfl 2 rfl ?_
      refine vv_iload fx nd_RM_nodeAt_20 5 rfl ?_
      refine vv_callSi fx (cc_RM_turnOf l Y M U o k i hk (by omega)) nm_RM_35 ns_RM_turnOf nz_RM nc_RM_turnOf ni_RM_turnOf ⟨rfl, rfl, by decide, by decide⟩ ⟨Nat.le_of_ble_eq_true rfl, Nat.le_of_ble_eq_true rfl⟩ (Nat.le_of_ble_eq_true rfl) nd_RM_nodeAt_22 rfl ?_
      refine vv_iald fx (14 + (fb_na M r k i)) 0 (sy_row (h1)) rfl (fb_tn_lt _ _) (by decide) nd_RM_nodeAt_25 ?_
      refine vv_top (y := nI (fb_na M r k (i + 1))) (h2) ?_
      refine vv_istore (L' := [(0, .ref (Y.2.1 1)), (1, .int (nI r)), (2, .int (nI k)), (3, .int (nI lv)), (4, .int (nI (fb_na M r k (i + 1)))), (5, .int (nI i))]) fx nd_RM_nodeAt_26 (by decide) [1, 2, 3, 4, 0, 5] rfl ?_
      refine vv_iinc (v := nI (i + 1)) (L' := [(0, .ref (Y.2.1 1)), (1, .int (nI r)), (2, .int (nI k)), (3, .int (nI lv)), (4, .int (nI (fb_na M r k (i + 1)))), (5, .int (nI (i + 1)))]) fx nd_RM_nodeAt_28 5 rfl (nI_1 i) (by decide) [1, 2, 3, 4, 5, 0] rfl ?_
      refine vv_goto (tgt := 6) fx nd_RM_nodeAt_31 (by decide) ?_
      exact ih (i + 1) (by omega)
  exact loop lv 0 (by omega)
set_option maxRecDepth 4000 in
theorem cc_RM_binds (l : Launch) (Y : sy_Y) (M U : me_M) (o : Int64) (r k : Nat) (hk : k < 64) (hp : fb_pk M r k 2) (hq : fb_na M r k 2 < 61) : ct_I l ny_RM_binds nb_RM_binds 4 (some .boolean) { frames := 2, cells := 0, slots := 0, locals := 46 } Y [.ref (Y.2.1 1), .int (nI r), .int (nI k)] M U o (if fb_bd M r k = true then 1 else 0) M U o := by
  refine ct_body (own := nr_RM) (L0 := [(0, .ref (Y.2.1 1)), (1, .int (nI r)), (2, .int (nI k))]) (by decide) rfl (Nat.le_of_ble_eq_true rfl) rfl ?_
  intro p e s m args below meth c fx
  refine vv_aload_n fx nd_RM_binds_0 rfl 0 rfl ?_
  refine vv_iload_n fx nd_RM_binds_1 rfl 1 rfl ?_
  refine vv_iload_n fx nd_RM_binds_2 rfl 2 rfl ?_
  refine vv_iconst (v := nI 2) fx nd_RM_binds_3 (by decide) ?_
  refine vv_callVi (C := nr_RM) (T := nt_RM) (N := 4) (ci := 1) fx (cc_RM_nodeAt l Y M U o r k 2 hk (by omega) hp) nm_RM_27 ns_RM_nodeAt nv_RM_nodeAt nz_RM nc_RM_nodeAt ni_RM_nodeAt 1 rfl rfl ⟨rfl, rfl, by decide, by decide⟩ ⟨Nat.le_of_ble_eq_true rfl, Nat.le_of_ble_eq_true rfl⟩ (Nat.le_of_ble_eq_true rfl) nd_RM_binds_4 rfl ?_
  refine vv_istore_n (L' := [(0, .ref (Y.2.1 1)), (1, .int (nI r)), (2, .int (nI k)), (3, .int (nI (fb_na M r k 2)))]) fx nd_RM_binds_7 rfl (by decide) [1, 2, 3, 0] rfl ?_
  refine vv_aload_n fx nd_RM_binds_8 rfl 0 rfl ?_
  refine vv_get (ci := 1) (C := nr_RM) (T := nt_RM) (N := 4) fx nt_RM_in 1 rfl rfl 1 (by decide) nf_RM_16 rfl nd_RM_binds_9 ?_
  refine vv_iload_n fx nd_RM_binds_12 rfl 3 rfl ?_
  refine vv_iald fx 5 0 rfl rfl (hq) (by decide) nd_RM_binds_13 ?_
  refine vv_iload_n fx nd_RM_binds_14 rfl 2 rfl ?_
  refine vv_iconst (v := nI 2) fx nd_RM_binds_15 (by decide) ?_
  refine vv_callSi fx (cc_RM_bitOf l Y M U o k 2 hk (by omega)) nm_RM_31 ns_RM_bitOf nz_RM nc_RM_bitOf ni_RM_bitOf ⟨rfl, rfl, by decide, by decide⟩ ⟨Nat.le_of_ble_eq_true rfl, Nat.le_of_ble_eq_true rfl⟩ (Nat.le_of_ble_eq_true rfl) nd_RM_binds_16 rfl ?_
  refine vv_iand fx nd_RM_binds_19 ?_
  refine vv_if_eq (tgt := 27) fx nd_RM_binds_20 (by decide) (fun hb20 => ?_) (fun hb20 => ?_)
  · refine vv_iconst (v := nI 0) fx nd_RM_binds_27 (by decide) ?_
    exact vv_zret fx rfl nd_RM_binds_28 (fb_bd0 hb20) (fb_01 _)
  · refine vv_iconst (v := nI 1) fx nd_RM_binds_23 (by decide) ?_
    refine vv_goto (tgt := 28) fx nd_RM_binds_24 (by decide) ?_
    exact vv_zret fx rfl nd_RM_binds_28 (fb_bd1 hb20) (fb_01 _)
set_option maxRecDepth 4000 in
theorem cc_RM_valueOf (l : Launch) (Y : sy_Y) (M U : me_M) (o : Int64) (r k : Nat) (hk : k < 64) (hp : fb_pk M r k 2) (hq : fb_na M r k 2 < 61) : ct_I l ny_RM_valueOf nb_RM_valueOf 3 (some .int) { frames := 2, cells := 0, slots := 0, locals := 46 } Y [.ref (Y.2.1 1), .int (nI r), .int (nI k)] M U o (fb_val M r k) M U o := by
  refine ct_body (own := nr_RM) (L0 := [(0, .ref (Y.2.1 1)), (1, .int (nI r)), (2, .int (nI k))]) (by decide) rfl (Nat.le_of_ble_eq_true rfl) rfl ?_
  intro p e s m args below meth c fx
  refine vv_aload_n fx nd_RM_valueOf_0 rfl 0 rfl ?_
  refine vv_get (ci := 1) (C := nr_RM) (T := nt_RM) (N := 4) fx nt_RM_in 1 rfl rfl 0 (by decide) nf_RM_13 rfl nd_RM_valueOf_1 ?_
  refine vv_aload_n fx nd_RM_valueOf_4 rfl 0 rfl ?_
  refine vv_iload_n fx nd_RM_valueOf_5 rfl 1 rfl ?_
  refine vv_iload_n fx nd_RM_valueOf_6 rfl 2 rfl ?_
  refine vv_iconst (v := nI 2) fx nd_RM_valueOf_7 (by decide) ?_
  refine vv_callVi (C := nr_RM) (T := nt_RM) (N := 4) (ci := 1) fx (cc_RM_nodeAt l Y M U o r k 2 hk (by omega) hp) nm_RM_27 ns_RM_nodeAt nv_RM_nodeAt nz_RM nc_RM_nodeAt ni_RM_nodeAt 1 rfl rfl ⟨rfl, rfl, by decide, by decide⟩ ⟨Nat.le_of_ble_eq_true rfl, Nat.le_of_ble_eq_true rfl⟩ (Nat.le_of_ble_eq_true rfl) nd_RM_valueOf_8 rfl ?_
  refine vv_aald fx (hq) nd_RM_valueOf_11 ?_
  refine vv_iload_n fx nd_RM_valueOf_12 rfl 2 rfl ?_
  refine vv_iconst (v := nI 2) fx nd_RM_valueOf_13 (by decide) ?_
  refine vv_callSi fx (cc_RM_turnOf l Y M U o k 2 hk (by omega)) nm_RM_35 ns_RM_turnOf nz_RM nc_RM_turnOf ni_RM_turnOf ⟨rfl, rfl, by decide, by decide⟩ ⟨Nat.le_of_ble_eq_true rfl, Nat.le_of_ble_eq_true rfl⟩ (Nat.le_of_ble_eq_true rfl) nd_RM_valueOf_14 rfl ?_
  refine vv_iald fx (14 + (fb_na M r k 2)) 0 (sy_row (hq)) rfl (fb_tn_lt _ _) (by decide) nd_RM_valueOf_17 ?_
  exact vv_iret fx rfl nd_RM_valueOf_18 (rfl)
set_option maxRecDepth 4000 in
theorem cc_RM_holdsNothingElse (l : Launch) (Y : sy_Y) (M U : me_M) (o : Int64) (r k lv : Nat) (hk : k < 64) (hlv : lv < 3) (hp : fb_pk M r k lv) (hq : fb_na M r k lv < 61) : ct_I l ny_RM_holdsNothingElse nb_RM_holdsNothingElse 4 (some .boolean) { frames := 2, cells := 0, slots := 0, locals := 46 } Y [.ref (Y.2.1 1), .int (nI r), .int (nI k), .int (nI lv)] M U o (if fb_hne M r k lv = true then 1 else 0) M U o := by
  refine ct_body (own := nr_RM) (L0 := [(0, .ref (Y.2.1 1)), (1, .int (nI r)), (2, .int (nI k)), (3, .int (nI lv))]) (by decide) rfl (Nat.le_of_ble_eq_true rfl) rfl ?_
  intro p e s m args below meth c fx
  refine vv_aload_n fx nd_RM_holdsNothingElse_0 rfl 0 rfl ?_
  refine vv_get (ci := 1) (C := nr_RM) (T := nt_RM) (N := 4) fx nt_RM_in 1 rfl rfl 1 (by decide) nf_RM_16 rfl nd_RM_holdsNothingElse_1 ?_
  refine vv_aload_n fx nd_RM_holdsNothingElse_4 rfl 0 rfl ?_
  refine vv_iload_n fx nd_RM_holdsNothingElse_5 rfl 1 rfl ?_
  refine vv_iload_n fx nd_RM_holdsNothingElse_6 rfl 2 rfl ?_
  refine vv_iload_n fx nd_RM_holdsNothingElse_7 rfl 3 rfl ?_
  refine vv_callVi (C := nr_RM) (T := nt_RM) (N := 4) (ci := 1) fx (cc_RM_nodeAt l Y M U o r k lv hk hlv hp) nm_RM_27 ns_RM_nodeAt nv_RM_nodeAt nz_RM nc_RM_nodeAt ni_RM_nodeAt 1 rfl rfl ⟨rfl, rfl, by decide, by decide⟩ ⟨Nat.le_of_ble_eq_true rfl, Nat.le_of_ble_eq_true rfl⟩ (Nat.le_of_ble_eq_true rfl) nd_RM_holdsNothingElse_8 rfl ?_
  refine vv_iald fx 5 0 rfl rfl (hq) (by decide) nd_RM_holdsNothingElse_11 ?_
  refine vv_iload_n fx nd_RM_holdsNothingElse_12 rfl 2 rfl ?_
  refine vv_iload_n fx nd_RM_holdsNothingElse_13 rfl 3 rfl ?_
  refine vv_callSi fx (cc_RM_bitOf l Y M U o k lv hk hlv) nm_RM_31 ns_RM_bitOf nz_RM nc_RM_bitOf ni_RM_bitOf ⟨rfl, rfl, by decide, by decide⟩ ⟨Nat.le_of_ble_eq_true rfl, Nat.le_of_ble_eq_true rfl⟩ (Nat.le_of_ble_eq_true rfl) nd_RM_holdsNothingElse_14 rfl ?_
  refine vv_icmp_ne (tgt := 24) fx nd_RM_holdsNothingElse_17 (by decide) (fun hb17 => ?_) (fun hb17 => ?_)
  · refine vv_iconst (v := nI 0) fx nd_RM_holdsNothingElse_24 (by decide) ?_
    exact vv_zret fx rfl nd_RM_holdsNothingElse_25 (fb_hne0 hb17) (fb_01 _)
  · refine vv_iconst (v := nI 1) fx nd_RM_holdsNothingElse_20 (by decide) ?_
    refine vv_goto (tgt := 25) fx nd_RM_holdsNothingElse_21 (by decide) ?_
    exact vv_zret fx rfl nd_RM_holdsNothingElse_25 (fb_hne1 hb17) (fb_01 _)
set_option maxRecDepth 4000 in
theorem cc_RM_levelsWithout (l : Launch) (Y : sy_Y) (M U : me_M) (o : Int64) (r k : Nat) (hk : k < 64) (hp : fb_pk M r k 2) (hq : ∀ i, i < 3 → fb_na M r k i < 61) : ct_I l ny_RM_levelsWithout nb_RM_levelsWithout 4 (some .int) { frames := 3, cells := 0, slots := 0, locals := 69 } Y [.ref (Y.2.1 1), .int (nI r), .int (nI k)] M U o (nI (fb_lw M r k 3)) M U o := by
  refine ct_body (own := nr_RM) (L0 := [(0, .ref (Y.2.1 1)), (1, .int (nI r)), (2, .int (nI k))]) (by decide) rfl (Nat.le_of_ble_eq_true rfl) rfl ?_
  intro p e s m args below meth c fx
  refine vv_iconst (v := nI 3) fx nd_RM_levelsWithout_0 (by decide) ?_
  refine vv_istore_n (L' := [(0, .ref (Y.2.1 1)), (1, .int (nI r)), (2, .int (nI k)), (3, .int (nI 3))]) fx nd_RM_levelsWithout_1 rfl (by decide) [1, 2, 3, 0] rfl ?_
  have loop : ∀ i, i ≤ 3 → fb_lw M r k i = fb_lw M r k 3 → vv p l e { frames := 3, cells := 0, slots := 0, locals := 69 } s m args below meth c 0 0 (MQ below (ct_Qi Y (nI (fb_lw M r k 3)) M U o) args s 0 0 Y.2.2.2) 4 Y M U o 2 [(0, .ref (Y.2.1 1)), (1, .int (nI r)), (2, .int (nI k)), (3, .int (nI i))] [] := by
    intro i
    induction i with
    | zero =>
      intro _ he
      refine vv_iload_n fx nd_RM_levelsWithout_2 rfl 3 rfl ?_
      refine vv_if_le (tgt := 24) fx nd_RM_levelsWithout_3 (by decide) (fun _ => ?_) (fun hb => absurd (by decide) hb)
      refine vv_iload_n fx nd_RM_levelsWithout_24 rfl 3 rfl ?_
      exact vv_iret fx rfl nd_RM_levelsWithout_25 (by rw [← he]; rfl)
    | succ i ih =>
      intro hi he
      refine vv_iload_n fx nd_RM_levelsWithout_2 rfl 3 rfl ?_
      refine vv_if_le (tgt := 24) fx nd_RM_levelsWithout_3 (by decide) (fun hb => absurd hb (nI_nle (by omega) (by omega))) (fun _ => ?_)
      refine vv_aload_n fx nd_RM_levelsWithout_6 rfl 0 rfl ?_
      refine vv_iload_n fx nd_RM_levelsWithout_7 rfl 1 rfl ?_
      refine vv_iload_n fx nd_RM_levelsWithout_8 rfl 2 rfl ?_
      refine vv_iload_n fx nd_RM_levelsWithout_9 rfl 3 rfl ?_
      refine vv_iconst (v := nI 1) fx nd_RM_levelsWithout_10 (by decide) ?_
      refine vv_isub fx nd_RM_levelsWithout_11 ?_
      refine vv_top (y := nI i) (nI_pred i) ?_
      refine vv_callVi (C := nr_RM) (T := nt_RM) (N := 4) (ci := 1) fx (cc_RM_holdsNothingElse l Y M U o r k i hk (by omega) (fb_pk_le hp (by omega)) (hq i (by omega))) nm_RM_38 ns_RM_holdsNothingElse nv_RM_holdsNothingElse nz_RM nc_RM_holdsNothingElse ni_RM_holdsNothingElse 1 rfl rfl ⟨rfl, rfl, by decide, by decide⟩ ⟨Nat.le_of_ble_eq_true rfl, Nat.le_of_ble_eq_true rfl⟩ (Nat.le_of_ble_eq_true rfl) nd_RM_levelsWithout_12 rfl ?_
      refine vv_if_eq (tgt := 24) fx nd_RM_levelsWithout_15 (by decide) (fun hb15 => ?_) (fun hb15 => ?_)
      · have hn : ¬ fb_hne M r k i = true := fun z => by rw [if_pos z] at hb15; exact absurd hb15 (by decide)
        refine vv_iload_n fx nd_RM_levelsWithout_24 rfl 3 rfl ?_
        exact vv_iret fx rfl nd_RM_levelsWithout_25 (by rw [← he]; show _ = nI (if fb_hne M r k i = true then fb_lw M r k i else i + 1); rw [if_neg hn])
      · have hn : fb_hne M r k i = true := Classical.byContradiction fun z => hb15 (if_neg z)
        refine vv_iinc (v := nI i) (L' := [(0, .ref (Y.2.1 1)), (1, .int (nI r)), (2, .int (nI k)), (3, .int (nI i))]) fx nd_RM_levelsWithout_18 3 rfl (pk_m1 i) (by decide) [1, 2, 3, 0] rfl ?_
        refine vv_goto (tgt := 2) fx nd_RM_levelsWithout_21 (by decide) ?_
        exact ih (by omega) (by rw [← he]; show _ = if fb_hne M r k i = true then fb_lw M r k i else i + 1; rw [if_pos hn])
  exact loop 3 (Nat.le_refl _) rfl
set_option maxRecDepth 4000 in
theorem cc_RM_nodesToMake (l : Launch) (Y : sy_Y) (M U : me_M) (o : Int64) (r k lv : Nat) (hk : k < 64) (hlv : lv ≤ 3) (hp : fb_pk M r k 2) (hq : ∀ i, i < 3 → fb_na M r k i < 61) : ct_I l ny_RM_nodesToMake nb_RM_nodesToMake 6 (some .int) { frames := 2, cells := 0, slots := 0, locals := 46 } Y [.ref (Y.2.1 1), .int (nI r), .int (nI k), .int (nI lv)] M U o (nI (fb_ntm M r k lv)) M U o := by
  refine ct_body (own := nr_RM) (L0 := [(0, .ref (Y.2.1 1)), (1, .int (nI r)), (2, .int (nI k)), (3, .int (nI lv))]) (by decide) rfl (Nat.le_of_ble_eq_true rfl) rfl ?_
  intro p e s m args below meth c fx
  refine vv_iconst (v := nI 0) fx nd_RM_nodesToMake_0 (by decide) ?_
  refine vv_istore (L' := [(0, .ref (Y.2.1 1)), (1, .int (nI r)), (2, .int (nI k)), (3, .int (nI lv)), (4, .int (nI 0))]) fx nd_RM_nodesToMake_1 (by decide) [1, 2, 3, 4, 0] rfl ?_
  refine vv_iconst (v := nI 0) fx nd_RM_nodesToMake_3 (by decide) ?_
  refine vv_istore (L' := [(0, .ref (Y.2.1 1)), (1, .int (nI r)), (2, .int (nI k)), (3, .int (nI lv)), (4, .int (nI 0)), (5, .int (nI 0))]) fx nd_RM_nodesToMake_4 (by decide) [1, 2, 3, 4, 5, 0] rfl ?_
  have loop : ∀ d i, i + d = lv → vv p l e { frames := 2, cells := 0, slots := 0, locals := 46 } s m args below meth c 0 0 (MQ below (ct_Qi Y (nI (fb_ntm M r k lv)) M U o) args s 0 0 Y.2.2.2) 6 Y M U o 6 [(0, .ref (Y.2.1 1)), (1, .int (nI r)), (2, .int (nI k)), (3, .int (nI lv)), (4, .int (nI (fb_ntm M r k i))), (5, .int (nI i))] [] := by
    intro d
    induction d with
    | zero =>
      intro i hi
      refine vv_iload fx nd_RM_nodesToMake_6 5 rfl ?_
      refine vv_iload_n fx nd_RM_nodesToMake_8 rfl 3 rfl ?_
      refine vv_icmp_ge (tgt := 37) fx nd_RM_nodesToMake_9 (by decide) (fun _ => ?_) (fun hb => absurd (nI_le (by omega) (by omega)) hb)
      refine vv_iload fx nd_RM_nodesToMake_37 4 rfl ?_
      exact vv_iret fx rfl nd_RM_nodesToMake_39 (by rw [show i = lv by omega])
    | succ d ih =>
      intro i hi
      refine vv_iload fx nd_RM_nodesToMake_6 5 rfl ?_
      refine vv_iload_n fx nd_RM_nodesToMake_8 rfl 3 rfl ?_
      refine vv_icmp_ge (tgt := 37) fx nd_RM_nodesToMake_9 (by decide) (fun hb => absurd hb (nI_ge (by omega) (by omega))) (fun _ => ?_)
      refine vv_aload_n fx nd_RM_nodesToMake_12 rfl 0 rfl ?_
      refine vv_get (ci := 1) (C := nr_RM) (T := nt_RM) (N := 4) fx nt_RM_in 1 rfl rfl 2 (by decide) nf_RM_20 rfl nd_RM_nodesToMake_13 ?_
      refine vv_aload_n fx nd_RM_nodesToMake_16 rfl 0 rfl ?_
      refine vv_iload_n fx nd_RM_nodesToMake_17 rfl 1 rfl ?_
      refine vv_iload_n fx nd_RM_nodesToMake_18 rfl 2 rfl ?_
      refine vv_iload fx nd_RM_nodesToMake_19 5 rfl ?_
      refine vv_callVi (C := nr_RM) (T := nt_RM) (N := 4) (ci := 1) fx (cc_RM_nodeAt l Y M U o r k i hk (by omega) (fb_pk_le hp (by omega))) nm_RM_27 ns_RM_nodeAt nv_RM_nodeAt nz_RM nc_RM_nodeAt ni_RM_nodeAt 1 rfl rfl ⟨rfl, rfl, by decide, by decide⟩ ⟨Nat.le_of_ble_eq_true rfl, Nat.le_of_ble_eq_true rfl⟩ (Nat.le_of_ble_eq_true rfl) nd_RM_nodesToMake_21 rfl ?_
      refine vv_zald fx 6 1 rfl rfl (hq i (by omega)) (by decide) nd_RM_nodesToMake_24 ?_
      refine vv_if_ne (tgt := 31) fx nd_RM_nodesToMake_25 (by decide) (fun hb25 => ?_) (fun hb25 => ?_)
      · have hn : fb_ntm M r k (i + 1) = fb_ntm M r k i := by show _ + (if decide (M 1 (fb_na M r k i) = 0) = true then 1 else 0) = _; rw [if_neg (fun z => hb25 (of_decide_eq_true z))]; rfl
        refine vv_iinc (v := nI (i + 1)) (L' := [(0, .ref (Y.2.1 1)), (1, .int (nI r)), (2, .int (nI k)), (3, .int (nI lv)), (4, .int (nI (fb_ntm M r k i))), (5, .int (nI (i + 1)))]) fx nd_RM_nodesToMake_31 5 rfl (nI_1 i) (by decide) [1, 2, 3, 4, 5, 0] rfl ?_
        refine vv_goto (tgt := 6) fx nd_RM_nodesToMake_34 (by decide) ?_
        rw [← hn]
        exact ih (i + 1) (by omega)
      · have hn : fb_ntm M r k (i + 1) = fb_ntm M r k i + 1 := by show _ + (if decide (M 1 (fb_na M r k i) = 0) = true then 1 else 0) = _; rw [if_pos (decide_eq_true hb25)]; rfl
        refine vv_iinc (v := nI (fb_ntm M r k i + 1)) (L' := [(0, .ref (Y.2.1 1)), (1, .int (nI r)), (2, .int (nI k)), (3, .int (nI lv)), (4, .int (nI (fb_ntm M r k i + 1))), (5, .int (nI i))]) fx nd_RM_nodesToMake_28 4 rfl (nI_1 _) (by decide) [1, 2, 3, 4, 0, 5] rfl ?_
        refine vv_iinc (v := nI (i + 1)) (L' := [(0, .ref (Y.2.1 1)), (1, .int (nI r)), (2, .int (nI k)), (3, .int (nI lv)), (4, .int (nI (fb_ntm M r k i + 1))), (5, .int (nI (i + 1)))]) fx nd_RM_nodesToMake_31 5 rfl (nI_1 i) (by decide) [1, 2, 3, 4, 5, 0] rfl ?_
        refine vv_goto (tgt := 6) fx nd_RM_nodesToMake_34 (by decide) ?_
        rw [← hn]
        exact ih (i + 1) (by omega)
  exact loop lv 0 (by omega)
set_option maxRecDepth 4000 in
theorem cc_RM_takeUnmarked (l : Launch) (Y : sy_Y) (M U : me_M) (o : Int64)  : ct_I l ny_RM_takeUnmarked nb_RM_takeUnmarked 2 (some .int) { frames := 0, cells := 0, slots := 0, locals := 0 } Y [.ref (Y.2.1 1)] M U o (nI (fb_tu M 60 1)) (me_up M 2 (fb_tu M 60 1) 1) U o := by
  refine ct_body (own := nr_RM) (L0 := [(0, .ref (Y.2.1 1))]) (by decide) rfl (Nat.le_of_ble_eq_true rfl) rfl ?_
  intro p e s m args below meth c fx
  refine vv_iconst (v := nI 1) fx nd_RM_takeUnmarked_0 (by decide) ?_
  refine vv_istore_n (L' := [(0, .ref (Y.2.1 1)), (1, .int (nI 1))]) fx nd_RM_takeUnmarked_1 rfl (by decide) [1, 0] rfl ?_
  have loop : ∀ f n, n + f = 61 → n ≤ 60 → fb_tu M f n = fb_tu M 60 1 → vv p l e { frames := 0, cells := 0, slots := 0, locals := 0 } s m args below meth c 0 0 (MQ below (ct_Qi Y (nI (fb_tu M 60 1)) (me_up M 2 (fb_tu M 60 1) 1) U o) args s 0 0 Y.2.2.2) 2 Y M U o 2 [(0, .ref (Y.2.1 1)), (1, .int (nI n))] [] := by
    intro f
    induction f with
    | zero => intro n h1 h2; omega
    | succ f ih =>
      intro n h1 h2 he
      have ex : fb_tu M (f + 1) n = if n < 60 ∧ M 2 n ≠ 0 then fb_tu M f (n + 1) else n := rfl
      refine vv_iload_n fx nd_RM_takeUnmarked_2 rfl 1 rfl ?_
      refine vv_bipush (v := nI 60) fx nd_RM_takeUnmarked_3 (by decide) ?_
      refine vv_icmp_ge (tgt := 23) fx nd_RM_takeUnmarked_5 (by decide) (fun hb5 => ?_) (fun hb5 => ?_)
      · have hn : fb_tu M 60 1 = n := by rw [← he, ex, if_neg (fun z => absurd hb5 (nI_ge z.1 (by decide)))]
        refine vv_aload_n fx nd_RM_takeUnmarked_23 rfl 0 rfl ?_
        refine vv_get (ci := 1) (C := nr_RM) (T := nt_RM) (N := 4) fx nt_RM_in 1 rfl rfl 3 (by decide) nf_RM_24 rfl nd_RM_takeUnmarked_24 ?_
        refine vv_iload_n fx nd_RM_takeUnmarked_27 rfl 1 rfl ?_
        refine vv_iconst (v := nI 1) fx nd_RM_takeUnmarked_28 (by decide) ?_
        refine vv_zast (M' := me_up M 2 n (nI 1)) (U' := U) fx 7 1 rfl rfl (by omega) (by decide) (Or.inr rfl) nd_RM_takeUnmarked_29 (sy_set2 _) ?_
        rw [hn]
        refine vv_iload_n fx nd_RM_takeUnmarked_30 rfl 1 rfl ?_
        exact vv_iret fx rfl nd_RM_takeUnmarked_31 (rfl)
      · have hlt : n < 60 := by apply Classical.byContradiction; intro z; exact hb5 (nI_le (by omega) (by omega))
        refine vv_aload_n fx nd_RM_takeUnmarked_8 rfl 0 rfl ?_
        refine vv_get (ci := 1) (C := nr_RM) (T := nt_RM) (N := 4) fx nt_RM_in 1 rfl rfl 3 (by decide) nf_RM_24 rfl nd_RM_takeUnmarked_9 ?_
        refine vv_iload_n fx nd_RM_takeUnmarked_12 rfl 1 rfl ?_
        refine vv_zald fx 7 1 rfl rfl (by omega) (by decide) nd_RM_takeUnmarked_13 ?_
        refine vv_if_eq (tgt := 23) fx nd_RM_takeUnmarked_14 (by decide) (fun hb14 => ?_) (fun hb14 => ?_)
        · have hn : fb_tu M 60 1 = n := by rw [← he, ex, if_neg (fun z => z.2 hb14)]
          refine vv_aload_n fx nd_RM_takeUnmarked_23 rfl 0 rfl ?_
          refine vv_get (ci := 1) (C := nr_RM) (T := nt_RM) (N := 4) fx nt_RM_in 1 rfl rfl 3 (by decide) nf_RM_24 rfl nd_RM_takeUnmarked_24 ?_
          refine vv_iload_n fx nd_RM_takeUnmarked_27 rfl 1 rfl ?_
          refine vv_iconst (v := nI 1) fx nd_RM_takeUnmarked_28 (by decide) ?_
          refine vv_zast (M' := me_up M 2 n (nI 1)) (U' := U) fx 7 1 rfl rfl (by omega) (by decide) (Or.inr rfl) nd_RM_takeUnmarked_29 (sy_set2 _) ?_
          rw [hn]
          refine vv_iload_n fx nd_RM_takeUnmarked_30 rfl 1 rfl ?_
          exact vv_iret fx rfl nd_RM_takeUnmarked_31 (rfl)
        · refine vv_iinc (v := nI (n + 1)) (L' := [(0, .ref (Y.2.1 1)), (1, .int (nI (n + 1)))]) fx nd_RM_takeUnmarked_17 1 rfl (nI_1 n) (by decide) [1, 0] rfl ?_
          refine vv_goto (tgt := 2) fx nd_RM_takeUnmarked_20 (by decide) ?_
          exact ih (n + 1) (by omega) (by omega) (by rw [← he, ex, if_pos ⟨hlt, hb14⟩])
  exact loop 60 1 (by omega) (by omega) rfl
