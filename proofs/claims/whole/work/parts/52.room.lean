/-! Room's methods: contracts (printed by room.py) -/
theorem fb_shr {k lv : Nat} (hk : k < 64) (hlv : lv < 3) : nI k >>> (nI (2 * (2 - lv)) &&& 31) = nI (k / 4 ^ (2 - lv)) := by
  match lv, hlv with
  | 0, _ => exact pk_shrN (by omega) _ 4 (by decide)
  | 1, _ => exact pk_shrN (by omega) _ 2 (by decide)
  | 2, _ => exact pk_shrN (by omega) _ 0 (by decide)
theorem fb_and3 (k lv : Nat) : nI (k / 4 ^ (2 - lv)) &&& nI 3 = nI (fb_tn k lv) := by
  unfold fb_tn
  generalize k / 4 ^ (2 - lv) = x
  have h : nI x = nI (x % 2 ^ 32) := by
    apply Int32.toBitVec_inj.1
    show BitVec.ofNat 32 x = BitVec.ofNat 32 (x % 2 ^ 32)
    apply BitVec.eq_of_toNat_eq
    simp
  rw [h, pk_andN (by omega) 2 (by decide)]
  congr 1
  omega
set_option maxRecDepth 4000 in
theorem cc_RM_turnOf (l : Launch) (Y : sy_Y) (M U : me_M) (o : Int64) (k lv : Nat) (hk : k < 64) (hlv : lv < 3) : ct_I l ny_RM_turnOf nb_RM_turnOf 2 (some .int) { frames := 0, cells := 0, slots := 0, locals := 0 } Y [.int (nI k), .int (nI lv)] M U o (nI (fb_tn k lv)) M U o := by
  refine ct_body (own := nr_RM) (L0 := [(0, .int (nI k)), (1, .int (nI lv))]) (by decide) rfl (Nat.le_of_ble_eq_true rfl) rfl ?_
  intro p e s m args below meth c fx
  refine vv_iload_n fx nd_RM_turnOf_0 rfl 0 rfl ?_
  refine vv_iconst (v := nI 2) fx nd_RM_turnOf_1 (by decide) ?_
  refine vv_iconst (v := nI 2) fx nd_RM_turnOf_2 (by decide) ?_
  refine vv_iload_n fx nd_RM_turnOf_3 rfl 1 rfl ?_
  refine vv_isub fx nd_RM_turnOf_4 ?_
  refine vv_top (y := nI (2 - lv)) (pk_sub (by omega)) ?_
  refine vv_imul fx nd_RM_turnOf_5 ?_
  refine vv_top (y := nI (2 * (2 - lv))) (pk_mul _ _) ?_
  refine vv_ishr fx nd_RM_turnOf_6 ?_
  refine vv_top (y := nI (k / 4 ^ (2 - lv))) (fb_shr hk hlv) ?_
  refine vv_iconst (v := nI 3) fx nd_RM_turnOf_7 (by decide) ?_
  refine vv_iand fx nd_RM_turnOf_8 ?_
  refine vv_top (y := nI (fb_tn k lv)) (fb_and3 _ _) ?_
  exact vv_iret fx rfl nd_RM_turnOf_9 (rfl)
set_option maxRecDepth 4000 in
theorem cc_RM_bitOf (l : Launch) (Y : sy_Y) (M U : me_M) (o : Int64) (k lv : Nat) (hk : k < 64) (hlv : lv < 3) : ct_I l ny_RM_bitOf nb_RM_bitOf 2 (some .int) { frames := 1, cells := 0, slots := 0, locals := 21 } Y [.int (nI k), .int (nI lv)] M U o (fb_bit k lv) M U o := by
  refine ct_body (own := nr_RM) (L0 := [(0, .int (nI k)), (1, .int (nI lv))]) (by decide) rfl (Nat.le_of_ble_eq_true rfl) rfl ?_
  intro p e s m args below meth c fx
  refine vv_iconst (v := 1) fx nd_RM_bitOf_0 (by decide) ?_
  refine vv_iload_n fx nd_RM_bitOf_1 rfl 0 rfl ?_
  refine vv_iload_n fx nd_RM_bitOf_2 rfl 1 rfl ?_
  refine vv_callSi fx (cc_RM_turnOf l Y M U o k lv hk hlv) nm_RM_35 ns_RM_turnOf nz_RM nc_RM_turnOf ni_RM_turnOf ⟨rfl, rfl, by decide, by decide⟩ ⟨Nat.zero_le _, Nat.zero_le _⟩ (Nat.le_of_ble_eq_true rfl) nd_RM_bitOf_3 rfl ?_
  refine vv_ishl fx nd_RM_bitOf_6 ?_
  exact vv_iret fx rfl nd_RM_bitOf_7 (rfl)
