/-! the outer object's methods that may throw (printed by fbx.py) -/
section
variable {p : Program} {l : Launch} {e : Env} {R : Room} {s : State} {m : MethodId} {args : Array Value} {below : List Frame} {meth : Method} {c : Code} {cells slots : Nat} {Q : State → Prop}
variable {cc : ByteArray} {nL : Nat} {ret : Option FieldType} {own : String} {Y : sy_Y} {M U M' U' : me_M} {o o' : Int64} {pc : Nat} {L L' : List (Nat × Value)} {st : List Value}
theorem vv_mmax (fx : vv_fix p s m args meth c cc nL ret own Y) {index : Nat} (h1 : Cond.methodLink own index Lib.Math.max.name ∈ wl) (hframes : 1 ≤ R.frames) (hlocals : (st.map fun v => v.category).sum + 13 ≤ R.locals) (hc : cells ≤ R.cells) (hs : slots ≤ R.slots) {x y : Int32} (hd : decode cc pc = .ok (.invokestatic index, 3))
    (kk : vv p l e R s m args below meth c cells slots Q nL Y M U o (pc + 3) L (.int (if x < y then y else x) :: st)) : vv p l e R s m args below meth c cells slots Q nL Y M U o pc L (.int y :: .int x :: st) := fun H locs ls hP hS hl => by
  obtain ⟨hx, hb, hml, hown, hts, -⟩ := id fx
  exact va_mmax hx hb (hml.trans hl.1.symm) hown (hts _ h1) (hts _ (wl_t2 96 rfl rfl)) (hts _ (wl_t1 13 rfl rfl)) (hts _ (wl_t2 97 rfl rfl)) hframes hlocals hc hs hd (kk H locs ls hP hS hl)
end
theorem fb_max (x : Int32) : (if x < nI 0 then nI 0 else x) = nI x.toNatClampNeg := by
  by_cases h : x < nI 0
  · rw [if_pos h]
    have h1 : x.toNatClampNeg = 0 := by
      have h2 : x.toInt < 0 := Int32.lt_iff_toInt_lt.mp h
      show x.toInt.toNat = 0
      omega
    rw [h1]
  · rw [if_neg h]
    obtain ⟨j, hj, rfl⟩ := nI_of (x := x) h
    rw [nI_clamp hj]
theorem fb_iss_eq (M : me_M) (k : Int32) : fb_iss M k = (decide (k ≠ 0) && fb_ism M k) := rfl
set_option maxRecDepth 4000 in
theorem cc_FB_requireUp0 (l : Launch) (Y : sy_Y) (M U : me_M) (o : Int64) (h : M 5 0 = 0) : ct_V l ny_FB_requireUp nb_FB_requireUp 1 { frames := 0, cells := 0, slots := 0, locals := 0 } Y [.ref (Y.2.1 0)] M U o M U o := by
  refine ct_body (own := nr_FB) (L0 := [(0, .ref (Y.2.1 0))]) (by decide) rfl (Nat.le_of_ble_eq_true rfl) rfl ?_
  intro p e s m args below meth c fx
  refine vv_aload_n fx nd_FB_requireUp_0 rfl 0 rfl ?_
  refine vv_get (ci := 0) (C := nr_FB) (T := nt_FB) (N := 6) fx nt_FB_in 0 rfl rfl 3 (by decide) nf_FB_136 rfl nd_FB_requireUp_1 ?_
  refine vv_if_eq (tgt := 17) fx nd_FB_requireUp_4 (by decide) (fun _ => ?_) (fun hb => absurd (h) hb)
  exact vv_vret fx rfl nd_FB_requireUp_17
set_option maxRecDepth 4000 in
theorem cc_FB_requireUp1 (l : Launch) (Y : sy_Y) (M U : me_M) (o : Int64) (hst : l.stackTraces = false) (h : M 5 0 ≠ 0) : ct_VX l ny_FB_requireUp nb_FB_requireUp 1 { frames := 6, cells := 1, slots := 6, locals := 82 } Y [.ref (Y.2.1 0)] M U o 1 M U o 1 6 := by
  refine ct_bodyX (own := nr_FB) (L0 := [(0, .ref (Y.2.1 0))]) (by decide) rfl (Nat.le_of_ble_eq_true rfl) rfl ?_
  intro p e s m args below meth c fx htab
  refine vv_aload_n fx nd_FB_requireUp_0 rfl 0 rfl ?_
  refine vv_get (ci := 0) (C := nr_FB) (T := nt_FB) (N := 6) fx nt_FB_in 0 rfl rfl 3 (by decide) nf_FB_136 rfl nd_FB_requireUp_1 ?_
  refine vv_if_eq (tgt := 17) fx nd_FB_requireUp_4 (by decide) (fun hb => absurd hb (h)) (fun _ => ?_)
  exact vv_throw_1 (text := "the store is down") fx htab hst (by decide +kernel) nd_FB_requireUp_7 nd_FB_requireUp_10 nd_FB_requireUp_11 nd_FB_requireUp_13 nd_FB_requireUp_16 (Nat.le_of_ble_eq_true rfl) (Nat.le_of_ble_eq_true rfl) (Nat.le_of_ble_eq_true rfl) (Nat.le_of_ble_eq_true rfl) (rfl) (rfl) (rfl) (rfl) (Nat.le_of_ble_eq_true rfl) (Nat.le_of_ble_eq_true rfl)
set_option maxRecDepth 4000 in
theorem cc_FB_requireMap0 (l : Launch) (Y : sy_Y) (M U : me_M) (o : Int64) (k : Int32) (h : fb_ism M k = true) : ct_V l ny_FB_requireMap nb_FB_requireMap 2 { frames := 1, cells := 0, slots := 0, locals := 21 } Y [.ref (Y.2.1 0), .int k] M U o M U o := by
  refine ct_body (own := nr_FB) (L0 := [(0, .ref (Y.2.1 0)), (1, .int k)]) (by decide) rfl (Nat.le_of_ble_eq_true rfl) rfl ?_
  intro p e s m args below meth c fx
  refine vv_aload_n fx nd_FB_requireMap_0 rfl 0 rfl ?_
  refine vv_iload_n fx nd_FB_requireMap_1 rfl 1 rfl ?_
  refine vv_callVi (C := nr_FB) (T := nt_FB) (N := 6) (ci := 0) fx (cc_FB_isMap l Y M U o k) nm_FB_145 ns_FB_isMap nv_FB_isMap nz_FB nc_FB_isMap ni_FB_isMap 0 rfl rfl ⟨rfl, rfl, by decide, by decide⟩ ⟨Nat.le_of_ble_eq_true rfl, Nat.le_of_ble_eq_true rfl⟩ (Nat.le_of_ble_eq_true rfl) nd_FB_requireMap_2 rfl ?_
  refine vv_if_ne (tgt := 18) fx nd_FB_requireMap_5 (by decide) (fun _ => ?_) (fun hb => absurd hb (by rw [h]; decide))
  exact vv_vret fx rfl nd_FB_requireMap_18
set_option maxRecDepth 4000 in
theorem cc_FB_requireMap1 (l : Launch) (Y : sy_Y) (M U : me_M) (o : Int64) (k : Int32) (hst : l.stackTraces = false) (h : fb_ism M k = false) : ct_VX l ny_FB_requireMap nb_FB_requireMap 2 { frames := 6, cells := 1, slots := 6, locals := 82 } Y [.ref (Y.2.1 0), .int k] M U o 2 M U o 1 6 := by
  refine ct_bodyX (own := nr_FB) (L0 := [(0, .ref (Y.2.1 0)), (1, .int k)]) (by decide) rfl (Nat.le_of_ble_eq_true rfl) rfl ?_
  intro p e s m args below meth c fx htab
  refine vv_aload_n fx nd_FB_requireMap_0 rfl 0 rfl ?_
  refine vv_iload_n fx nd_FB_requireMap_1 rfl 1 rfl ?_
  refine vv_callVi (C := nr_FB) (T := nt_FB) (N := 6) (ci := 0) fx (cc_FB_isMap l Y M U o k) nm_FB_145 ns_FB_isMap nv_FB_isMap nz_FB nc_FB_isMap ni_FB_isMap 0 rfl rfl ⟨rfl, rfl, by decide, by decide⟩ ⟨Nat.le_of_ble_eq_true rfl, Nat.le_of_ble_eq_true rfl⟩ (Nat.le_of_ble_eq_true rfl) nd_FB_requireMap_2 rfl ?_
  refine vv_if_ne (tgt := 18) fx nd_FB_requireMap_5 (by decide) (fun hb => absurd (by rw [h]; rfl) hb) (fun _ => ?_)
  exact vv_throw_2 (text := "no map of this handle") fx htab hst (by decide +kernel) nd_FB_requireMap_8 nd_FB_requireMap_11 nd_FB_requireMap_12 nd_FB_requireMap_14 nd_FB_requireMap_17 (Nat.le_of_ble_eq_true rfl) (Nat.le_of_ble_eq_true rfl) (Nat.le_of_ble_eq_true rfl) (Nat.le_of_ble_eq_true rfl) (rfl) (rfl) (rfl) (rfl) (Nat.le_of_ble_eq_true rfl) (Nat.le_of_ble_eq_true rfl)
set_option maxRecDepth 4000 in
theorem cc_FB_requireSnapshot0 (l : Launch) (Y : sy_Y) (M U : me_M) (o : Int64) (k : Int32) (h : fb_iss M k = true) : ct_V l ny_FB_requireSnapshot nb_FB_requireSnapshot 2 { frames := 1, cells := 0, slots := 0, locals := 21 } Y [.ref (Y.2.1 0), .int k] M U o M U o := by
  refine ct_body (own := nr_FB) (L0 := [(0, .ref (Y.2.1 0)), (1, .int k)]) (by decide) rfl (Nat.le_of_ble_eq_true rfl) rfl ?_
  intro p e s m args below meth c fx
  rw [fb_iss_eq, Bool.and_eq_true] at h
  have hz : ¬ k = 0 := of_decide_eq_true h.1
  refine vv_iload_n fx nd_FB_requireSnapshot_0 rfl 1 rfl ?_
  refine vv_if_eq (tgt := 12) fx nd_FB_requireSnapshot_1 (by decide) (fun hb => absurd hb (hz)) (fun _ => ?_)
  refine vv_aload_n fx nd_FB_requireSnapshot_4 rfl 0 rfl ?_
  refine vv_iload_n fx nd_FB_requireSnapshot_5 rfl 1 rfl ?_
  refine vv_callVi (C := nr_FB) (T := nt_FB) (N := 6) (ci := 0) fx (cc_FB_isMap l Y M U o k) nm_FB_145 ns_FB_isMap nv_FB_isMap nz_FB nc_FB_isMap ni_FB_isMap 0 rfl rfl ⟨rfl, rfl, by decide, by decide⟩ ⟨Nat.le_of_ble_eq_true rfl, Nat.le_of_ble_eq_true rfl⟩ (Nat.le_of_ble_eq_true rfl) nd_FB_requireSnapshot_6 rfl ?_
  refine vv_if_ne (tgt := 22) fx nd_FB_requireSnapshot_9 (by decide) (fun _ => ?_) (fun hb => absurd hb (by rw [h.2]; decide))
  exact vv_vret fx rfl nd_FB_requireSnapshot_22
set_option maxRecDepth 4000 in
theorem cc_FB_requireSnapshot1 (l : Launch) (Y : sy_Y) (M U : me_M) (o : Int64) (k : Int32) (hst : l.stackTraces = false) (h : fb_iss M k = false) : ct_VX l ny_FB_requireSnapshot nb_FB_requireSnapshot 2 { frames := 6, cells := 1, slots := 6, locals := 82 } Y [.ref (Y.2.1 0), .int k] M U o 2 M U o 1 6 := by
  refine ct_bodyX (own := nr_FB) (L0 := [(0, .ref (Y.2.1 0)), (1, .int k)]) (by decide) rfl (Nat.le_of_ble_eq_true rfl) rfl ?_
  intro p e s m args below meth c fx htab
  by_cases hz : k = 0
  · refine vv_iload_n fx nd_FB_requireSnapshot_0 rfl 1 rfl ?_
    refine vv_if_eq (tgt := 12) fx nd_FB_requireSnapshot_1 (by decide) (fun _ => ?_) (fun hb => absurd (hz) hb)
    exact vv_throw_2 (text := "no snapshot of this number") fx htab hst (by decide +kernel) nd_FB_requireSnapshot_12 nd_FB_requireSnapshot_15 nd_FB_requireSnapshot_16 nd_FB_requireSnapshot_18 nd_FB_requireSnapshot_21 (Nat.le_of_ble_eq_true rfl) (Nat.le_of_ble_eq_true rfl) (Nat.le_of_ble_eq_true rfl) (Nat.le_of_ble_eq_true rfl) (rfl) (rfl) (rfl) (rfl) (Nat.le_of_ble_eq_true rfl) (Nat.le_of_ble_eq_true rfl)
  · rw [fb_iss_eq, decide_eq_true (p := k ≠ 0) hz, Bool.true_and] at h
    refine vv_iload_n fx nd_FB_requireSnapshot_0 rfl 1 rfl ?_
    refine vv_if_eq (tgt := 12) fx nd_FB_requireSnapshot_1 (by decide) (fun hb => absurd hb (hz)) (fun _ => ?_)
    refine vv_aload_n fx nd_FB_requireSnapshot_4 rfl 0 rfl ?_
    refine vv_iload_n fx nd_FB_requireSnapshot_5 rfl 1 rfl ?_
    refine vv_callVi (C := nr_FB) (T := nt_FB) (N := 6) (ci := 0) fx (cc_FB_isMap l Y M U o k) nm_FB_145 ns_FB_isMap nv_FB_isMap nz_FB nc_FB_isMap ni_FB_isMap 0 rfl rfl ⟨rfl, rfl, by decide, by decide⟩ ⟨Nat.le_of_ble_eq_true rfl, Nat.le_of_ble_eq_true rfl⟩ (Nat.le_of_ble_eq_true rfl) nd_FB_requireSnapshot_6 rfl ?_
    refine vv_if_ne (tgt := 22) fx nd_FB_requireSnapshot_9 (by decide) (fun hb => absurd (by rw [h]; rfl) hb) (fun _ => ?_)
    exact vv_throw_2 (text := "no snapshot of this number") fx htab hst (by decide +kernel) nd_FB_requireSnapshot_12 nd_FB_requireSnapshot_15 nd_FB_requireSnapshot_16 nd_FB_requireSnapshot_18 nd_FB_requireSnapshot_21 (Nat.le_of_ble_eq_true rfl) (Nat.le_of_ble_eq_true rfl) (Nat.le_of_ble_eq_true rfl) (Nat.le_of_ble_eq_true rfl) (rfl) (rfl) (rfl) (rfl) (Nat.le_of_ble_eq_true rfl) (Nat.le_of_ble_eq_true rfl)
set_option maxRecDepth 4000 in
theorem cc_FB_requireBound0 (l : Launch) (Y : sy_Y) (M U : me_M) (o : Int64) (r k : Nat) (hw : fb_wf M r) (hk : k < 64) (hi : fb_isk (nI k) = true) (h : fb_bd M r k = true) : ct_V l ny_FB_requireBound nb_FB_requireBound 3 { frames := 3, cells := 0, slots := 0, locals := 69 } Y [.ref (Y.2.1 0), .int (nI r), .int (nI k)] M U o M U o := by
  refine ct_body (own := nr_FB) (L0 := [(0, .ref (Y.2.1 0)), (1, .int (nI r)), (2, .int (nI k))]) (by decide) rfl (Nat.le_of_ble_eq_true rfl) rfl ?_
  intro p e s m args below meth c fx
  refine vv_aload_n fx nd_FB_requireBound_0 rfl 0 rfl ?_
  refine vv_iload_n fx nd_FB_requireBound_1 rfl 2 rfl ?_
  refine vv_callVi (C := nr_FB) (T := nt_FB) (N := 6) (ci := 0) fx (cc_FB_isKey l Y M U o (nI k)) nm_FB_42 ns_FB_isKey nv_FB_isKey nz_FB nc_FB_isKey ni_FB_isKey 0 rfl rfl ⟨rfl, rfl, by decide, by decide⟩ ⟨Nat.le_of_ble_eq_true rfl, Nat.le_of_ble_eq_true rfl⟩ (Nat.le_of_ble_eq_true rfl) nd_FB_requireBound_2 rfl ?_
  refine vv_if_eq (tgt := 20) fx nd_FB_requireBound_5 (by decide) (fun hb => absurd hb (by rw [hi]; decide)) (fun _ => ?_)
  refine vv_aload_n fx nd_FB_requireBound_8 rfl 0 rfl ?_
  refine vv_get (ci := 0) (C := nr_FB) (T := nt_FB) (N := 6) fx nt_FB_in 0 rfl rfl 0 (by decide) nf_FB_10 rfl nd_FB_requireBound_9 ?_
  refine vv_iload_n fx nd_FB_requireBound_12 rfl 1 rfl ?_
  refine vv_iload_n fx nd_FB_requireBound_13 rfl 2 rfl ?_
  refine vv_callVi (C := nr_RM) (T := nt_RM) (N := 4) (ci := 1) fx (cc_RM_binds l Y M U o r k hk (fb_wfp hw) (fb_wfq hw)) nm_FB_53 ns_RM_binds nv_RM_binds nz_RM nc_RM_binds ni_RM_binds 1 rfl rfl ⟨rfl, rfl, by decide, by decide⟩ ⟨Nat.le_of_ble_eq_true rfl, Nat.le_of_ble_eq_true rfl⟩ (Nat.le_of_ble_eq_true rfl) nd_FB_requireBound_14 rfl ?_
  refine vv_if_ne (tgt := 30) fx nd_FB_requireBound_17 (by decide) (fun _ => ?_) (fun hb => absurd hb (by rw [h]; decide))
  exact vv_vret fx rfl nd_FB_requireBound_30
set_option maxRecDepth 4000 in
theorem cc_FB_requireBound1 (l : Launch) (Y : sy_Y) (M U : me_M) (o : Int64) (r : Nat) (k : Int32) (hst : l.stackTraces = false) (hw : fb_wf M r) (h : (fb_isk k && fb_bd M r k.toNatClampNeg) = false) : ct_VX l ny_FB_requireBound nb_FB_requireBound 3 { frames := 6, cells := 1, slots := 6, locals := 82 } Y [.ref (Y.2.1 0), .int (nI r), .int k] M U o 4 M U o 1 6 := by
  refine ct_bodyX (own := nr_FB) (L0 := [(0, .ref (Y.2.1 0)), (1, .int (nI r)), (2, .int k)]) (by decide) rfl (Nat.le_of_ble_eq_true rfl) rfl ?_
  intro p e s m args below meth c fx htab
  by_cases hi : fb_isk k = true
  · obtain ⟨j, hj, rfl⟩ := fb_isk_nat hi
    rw [hi, Bool.true_and, nI_clamp (by omega)] at h
    refine vv_aload_n fx nd_FB_requireBound_0 rfl 0 rfl ?_
    refine vv_iload_n fx nd_FB_requireBound_1 rfl 2 rfl ?_
    refine vv_callVi (C := nr_FB) (T := nt_FB) (N := 6) (ci := 0) fx (cc_FB_isKey l Y M U o (nI j)) nm_FB_42 ns_FB_isKey nv_FB_isKey nz_FB nc_FB_isKey ni_FB_isKey 0 rfl rfl ⟨rfl, rfl, by decide, by decide⟩ ⟨Nat.le_of_ble_eq_true rfl, Nat.le_of_ble_eq_true rfl⟩ (Nat.le_of_ble_eq_true rfl) nd_FB_requireBound_2 rfl ?_
    refine vv_if_eq (tgt := 20) fx nd_FB_requireBound_5 (by decide) (fun hb => absurd hb (by rw [hi]; decide)) (fun _ => ?_)
    refine vv_aload_n fx nd_FB_requireBound_8 rfl 0 rfl ?_
    refine vv_get (ci := 0) (C := nr_FB) (T := nt_FB) (N := 6) fx nt_FB_in 0 rfl rfl 0 (by decide) nf_FB_10 rfl nd_FB_requireBound_9 ?_
    refine vv_iload_n fx nd_FB_requireBound_12 rfl 1 rfl ?_
    refine vv_iload_n fx nd_FB_requireBound_13 rfl 2 rfl ?_
    refine vv_callVi (C := nr_RM) (T := nt_RM) (N := 4) (ci := 1) fx (cc_RM_binds l Y M U o r j hj (fb_wfp hw) (fb_wfq hw)) nm_FB_53 ns_RM_binds nv_RM_binds nz_RM nc_RM_binds ni_RM_binds 1 rfl rfl ⟨rfl, rfl, by decide, by decide⟩ ⟨Nat.le_of_ble_eq_true rfl, Nat.le_of_ble_eq_true rfl⟩ (Nat.le_of_ble_eq_true rfl) nd_FB_requireBound_14 rfl ?_
    refine vv_if_ne (tgt := 30) fx nd_FB_requireBound_17 (by decide) (fun hb => absurd (by rw [h]; rfl) hb) (fun _ => ?_)
    exact vv_throw_4 (text := "the key is not bound") fx htab hst (by decide +kernel) nd_FB_requireBound_20 nd_FB_requireBound_23 nd_FB_requireBound_24 nd_FB_requireBound_26 nd_FB_requireBound_29 (Nat.le_of_ble_eq_true rfl) (Nat.le_of_ble_eq_true rfl) (Nat.le_of_ble_eq_true rfl) (Nat.le_of_ble_eq_true rfl) (rfl) (rfl) (rfl) (rfl) (Nat.le_of_ble_eq_true rfl) (Nat.le_of_ble_eq_true rfl)
  · refine vv_aload_n fx nd_FB_requireBound_0 rfl 0 rfl ?_
    refine vv_iload_n fx nd_FB_requireBound_1 rfl 2 rfl ?_
    refine vv_callVi (C := nr_FB) (T := nt_FB) (N := 6) (ci := 0) fx (cc_FB_isKey l Y M U o k) nm_FB_42 ns_FB_isKey nv_FB_isKey nz_FB nc_FB_isKey ni_FB_isKey 0 rfl rfl ⟨rfl, rfl, by decide, by decide⟩ ⟨Nat.le_of_ble_eq_true rfl, Nat.le_of_ble_eq_true rfl⟩ (Nat.le_of_ble_eq_true rfl) nd_FB_requireBound_2 rfl ?_
    refine vv_if_eq (tgt := 20) fx nd_FB_requireBound_5 (by decide) (fun _ => ?_) (fun hb => absurd (by rw [if_neg hi]) hb)
    exact vv_throw_4 (text := "the key is not bound") fx htab hst (by decide +kernel) nd_FB_requireBound_20 nd_FB_requireBound_23 nd_FB_requireBound_24 nd_FB_requireBound_26 nd_FB_requireBound_29 (Nat.le_of_ble_eq_true rfl) (Nat.le_of_ble_eq_true rfl) (Nat.le_of_ble_eq_true rfl) (Nat.le_of_ble_eq_true rfl) (rfl) (rfl) (rfl) (rfl) (Nat.le_of_ble_eq_true rfl) (Nat.le_of_ble_eq_true rfl)
set_option maxRecDepth 4000 in
theorem cc_FB_ownCurrentPath0 (l : Launch) (Y : sy_Y) (M U : me_M) (o : Int64) {N : Nat} (k L : Nat) (hI : rf_I M U N) (hk : k < 64) (hL : L ≤ 3) (h : ¬ fb_free M < nI (fb_ntm (fb_mr M).2 (fb_r M 0) k L)) : ct_V l ny_FB_ownCurrentPath nb_FB_ownCurrentPath 4 { frames := 5, cells := 0, slots := 0, locals := 114 } Y [.ref (Y.2.1 0), .int (nI k), .int (nI L)] M U o (me_up (fb_op (fb_mr M).2 (fb_r M 0) k L).2 3 0 (nI (fb_op (fb_mr M).2 (fb_r M 0) k L).1)) U o := by
  refine ct_body (own := nr_FB) (L0 := [(0, .ref (Y.2.1 0)), (1, .int (nI k)), (2, .int (nI L))]) (by decide) rfl (Nat.le_of_ble_eq_true rfl) rfl ?_
  intro p e s m args below meth c fx
  obtain ⟨hr0, hw⟩ := rf_rootw hI (j := 0) (by decide) (rf_root0 hI)
  have hw2 : fb_wf (fb_mr M).2 (fb_r M 0) := fb_wf_of (fun x => fb_mr_n M (by omega)) hw
  have hr2 : (fb_mr M).2 3 0 = nI (fb_r M 0) := by rw [fb_mr_n M (by decide)]; exact hr0
  refine vv_aload_n fx nd_FB_ownCurrentPath_0 rfl 0 rfl ?_
  refine vv_callVi (C := nr_FB) (T := nt_FB) (N := 6) (ci := 0) fx (cc_FB_freeNodes l Y M U o (rf_fbK hI)) nm_FB_116 ns_FB_freeNodes nv_FB_freeNodes nz_FB nc_FB_freeNodes ni_FB_freeNodes 0 rfl rfl ⟨rfl, rfl, by decide, by decide⟩ ⟨Nat.le_of_ble_eq_true rfl, Nat.le_of_ble_eq_true rfl⟩ (Nat.le_of_ble_eq_true rfl) nd_FB_ownCurrentPath_1 rfl ?_
  refine vv_istore_n (L' := [(0, .ref (Y.2.1 0)), (1, .int (nI k)), (2, .int (nI L)), (3, .int (fb_free M))]) fx nd_FB_ownCurrentPath_4 rfl (by decide) [1, 2, 3, 0] rfl ?_
  refine vv_aload_n fx nd_FB_ownCurrentPath_5 rfl 0 rfl ?_
  refine vv_get (ci := 0) (C := nr_FB) (T := nt_FB) (N := 6) fx nt_FB_in 0 rfl rfl 0 (by decide) nf_FB_10 rfl nd_FB_ownCurrentPath_6 ?_
  refine vv_aload_n fx nd_FB_ownCurrentPath_9 rfl 0 rfl ?_
  refine vv_get (ci := 0) (C := nr_FB) (T := nt_FB) (N := 6) fx nt_FB_in 0 rfl rfl 1 (by decide) nf_FB_16 rfl nd_FB_ownCurrentPath_10 ?_
  refine vv_iconst (v := nI 0) fx nd_FB_ownCurrentPath_13 (by decide) ?_
  refine vv_iald fx 2 0 rfl rfl (by omega) (by decide) nd_FB_ownCurrentPath_14 ?_
  refine vv_top (y := nI (fb_r M 0)) (hr2) ?_
  refine vv_iload_n fx nd_FB_ownCurrentPath_15 rfl 1 rfl ?_
  refine vv_iload_n fx nd_FB_ownCurrentPath_16 rfl 2 rfl ?_
  refine vv_callVi (C := nr_RM) (T := nt_RM) (N := 4) (ci := 1) fx (cc_RM_nodesToMake l Y (fb_mr M).2 U o (fb_r M 0) k L hk hL (fb_wfp hw2) (fb_pk_wf hw2 k).2) nm_FB_157 ns_RM_nodesToMake nv_RM_nodesToMake nz_RM nc_RM_nodesToMake ni_RM_nodesToMake 1 rfl rfl ⟨rfl, rfl, by decide, by decide⟩ ⟨Nat.le_of_ble_eq_true rfl, Nat.le_of_ble_eq_true rfl⟩ (Nat.le_of_ble_eq_true rfl) nd_FB_ownCurrentPath_17 rfl ?_
  refine vv_iload_n fx nd_FB_ownCurrentPath_20 rfl 3 rfl ?_
  refine vv_icmp_le (tgt := 34) fx nd_FB_ownCurrentPath_21 (by decide) (fun _ => ?_) (fun hb => absurd (Int32.not_lt.mp h) hb)
  refine vv_aload_n fx nd_FB_ownCurrentPath_34 rfl 0 rfl ?_
  refine vv_get (ci := 0) (C := nr_FB) (T := nt_FB) (N := 6) fx nt_FB_in 0 rfl rfl 1 (by decide) nf_FB_16 rfl nd_FB_ownCurrentPath_35 ?_
  refine vv_iconst (v := nI 0) fx nd_FB_ownCurrentPath_38 (by decide) ?_
  refine vv_aload_n fx nd_FB_ownCurrentPath_39 rfl 0 rfl ?_
  refine vv_get (ci := 0) (C := nr_FB) (T := nt_FB) (N := 6) fx nt_FB_in 0 rfl rfl 0 (by decide) nf_FB_10 rfl nd_FB_ownCurrentPath_40 ?_
  refine vv_aload_n fx nd_FB_ownCurrentPath_43 rfl 0 rfl ?_
  refine vv_get (ci := 0) (C := nr_FB) (T := nt_FB) (N := 6) fx nt_FB_in 0 rfl rfl 1 (by decide) nf_FB_16 rfl nd_FB_ownCurrentPath_44 ?_
  refine vv_iconst (v := nI 0) fx nd_FB_ownCurrentPath_47 (by decide) ?_
  refine vv_iald fx 2 0 rfl rfl (by omega) (by decide) nd_FB_ownCurrentPath_48 ?_
  refine vv_top (y := nI (fb_r M 0)) (hr2) ?_
  refine vv_iload_n fx nd_FB_ownCurrentPath_49 rfl 1 rfl ?_
  refine vv_iload_n fx nd_FB_ownCurrentPath_50 rfl 2 rfl ?_
  refine vv_callVi (C := nr_RM) (T := nt_RM) (N := 4) (ci := 1) fx (cc_RM_ownPath l Y (fb_mr M).2 U o (fb_r M 0) k L hk hL (fb_wfr hw2) (ow_ho hI hk hL h)) nm_FB_163 ns_RM_ownPath nv_RM_ownPath nz_RM nc_RM_ownPath ni_RM_ownPath 1 rfl rfl ⟨rfl, rfl, by decide, by decide⟩ ⟨Nat.le_of_ble_eq_true rfl, Nat.le_of_ble_eq_true rfl⟩ (Nat.le_of_ble_eq_true rfl) nd_FB_ownCurrentPath_51 rfl ?_
  refine vv_iast (M' := me_up ((fb_op (fb_mr M).2 (fb_r M 0) k L).2) 3 0 (nI (fb_op (fb_mr M).2 (fb_r M 0) k L).1)) (U' := U) fx 2 0 rfl rfl (by omega) (by decide) nd_FB_ownCurrentPath_54 (sy_set3 _) ?_
  exact vv_vret fx rfl nd_FB_ownCurrentPath_55
set_option maxRecDepth 4000 in
theorem cc_FB_ownCurrentPath1 (l : Launch) (Y : sy_Y) (M U : me_M) (o : Int64) {N : Nat} (k L : Nat) (hst : l.stackTraces = false) (hI : rf_I M U N) (hk : k < 64) (hL : L ≤ 3) (h : fb_free M < nI (fb_ntm (fb_mr M).2 (fb_r M 0) k L)) : ct_VX l ny_FB_ownCurrentPath nb_FB_ownCurrentPath 4 { frames := 6, cells := 1, slots := 6, locals := 114 } Y [.ref (Y.2.1 0), .int (nI k), .int (nI L)] M U o 3 ((fb_mr M).2) U o 1 6 := by
  refine ct_bodyX (own := nr_FB) (L0 := [(0, .ref (Y.2.1 0)), (1, .int (nI k)), (2, .int (nI L))]) (by decide) rfl (Nat.le_of_ble_eq_true rfl) rfl ?_
  intro p e s m args below meth c fx htab
  obtain ⟨hr0, hw⟩ := rf_rootw hI (j := 0) (by decide) (rf_root0 hI)
  have hw2 : fb_wf (fb_mr M).2 (fb_r M 0) := fb_wf_of (fun x => fb_mr_n M (by omega)) hw
  have hr2 : (fb_mr M).2 3 0 = nI (fb_r M 0) := by rw [fb_mr_n M (by decide)]; exact hr0
  refine vv_aload_n fx nd_FB_ownCurrentPath_0 rfl 0 rfl ?_
  refine vv_callVi (C := nr_FB) (T := nt_FB) (N := 6) (ci := 0) fx (cc_FB_freeNodes l Y M U o (rf_fbK hI)) nm_FB_116 ns_FB_freeNodes nv_FB_freeNodes nz_FB nc_FB_freeNodes ni_FB_freeNodes 0 rfl rfl ⟨rfl, rfl, by decide, by decide⟩ ⟨Nat.le_of_ble_eq_true rfl, Nat.le_of_ble_eq_true rfl⟩ (Nat.le_of_ble_eq_true rfl) nd_FB_ownCurrentPath_1 rfl ?_
  refine vv_istore_n (L' := [(0, .ref (Y.2.1 0)), (1, .int (nI k)), (2, .int (nI L)), (3, .int (fb_free M))]) fx nd_FB_ownCurrentPath_4 rfl (by decide) [1, 2, 3, 0] rfl ?_
  refine vv_aload_n fx nd_FB_ownCurrentPath_5 rfl 0 rfl ?_
  refine vv_get (ci := 0) (C := nr_FB) (T := nt_FB) (N := 6) fx nt_FB_in 0 rfl rfl 0 (by decide) nf_FB_10 rfl nd_FB_ownCurrentPath_6 ?_
  refine vv_aload_n fx nd_FB_ownCurrentPath_9 rfl 0 rfl ?_
  refine vv_get (ci := 0) (C := nr_FB) (T := nt_FB) (N := 6) fx nt_FB_in 0 rfl rfl 1 (by decide) nf_FB_16 rfl nd_FB_ownCurrentPath_10 ?_
  refine vv_iconst (v := nI 0) fx nd_FB_ownCurrentPath_13 (by decide) ?_
  refine vv_iald fx 2 0 rfl rfl (by omega) (by decide) nd_FB_ownCurrentPath_14 ?_
  refine vv_top (y := nI (fb_r M 0)) (hr2) ?_
  refine vv_iload_n fx nd_FB_ownCurrentPath_15 rfl 1 rfl ?_
  refine vv_iload_n fx nd_FB_ownCurrentPath_16 rfl 2 rfl ?_
  refine vv_callVi (C := nr_RM) (T := nt_RM) (N := 4) (ci := 1) fx (cc_RM_nodesToMake l Y (fb_mr M).2 U o (fb_r M 0) k L hk hL (fb_wfp hw2) (fb_pk_wf hw2 k).2) nm_FB_157 ns_RM_nodesToMake nv_RM_nodesToMake nz_RM nc_RM_nodesToMake ni_RM_nodesToMake 1 rfl rfl ⟨rfl, rfl, by decide, by decide⟩ ⟨Nat.le_of_ble_eq_true rfl, Nat.le_of_ble_eq_true rfl⟩ (Nat.le_of_ble_eq_true rfl) nd_FB_ownCurrentPath_17 rfl ?_
  refine vv_iload_n fx nd_FB_ownCurrentPath_20 rfl 3 rfl ?_
  refine vv_icmp_le (tgt := 34) fx nd_FB_ownCurrentPath_21 (by decide) (fun hb => absurd hb (Int32.not_le.mpr h)) (fun _ => ?_)
  exact vv_throw_3 (text := "no room") fx htab hst (by decide +kernel) nd_FB_ownCurrentPath_24 nd_FB_ownCurrentPath_27 nd_FB_ownCurrentPath_28 nd_FB_ownCurrentPath_30 nd_FB_ownCurrentPath_33 (Nat.le_of_ble_eq_true rfl) (Nat.le_of_ble_eq_true rfl) (Nat.le_of_ble_eq_true rfl) (Nat.le_of_ble_eq_true rfl) (rfl) (rfl) (rfl) (rfl) (Nat.le_of_ble_eq_true rfl) (Nat.le_of_ble_eq_true rfl)
set_option maxRecDepth 4000 in
theorem cc_FB_put (l : Launch) (Y : sy_Y) (M U : me_M) (o : Int64) (k v : Int32) {N : Nat} (hst : l.stackTraces = false) (hI : rf_I M U N) : ct_IX l ny_FB_put nb_FB_put 4 (some .int) { frames := 7, cells := 1, slots := 6, locals := 137 } Y [.ref (Y.2.1 0), .int k, .int v] M U o ((fb_put M k v).1) ((fb_put M k v).2.1) ((fb_put M k v).2.2) U o 1 6 := by
  refine ct_bodyX (own := nr_FB) (L0 := [(0, .ref (Y.2.1 0)), (1, .int k), (2, .int v)]) (by decide) rfl (Nat.le_of_ble_eq_true rfl) rfl ?_
  intro p e s m args below meth c fx htab
  by_cases h5 : M 5 0 ≠ 0
  · rw [show fb_put M k v = (1, 0, M) from if_pos h5]
    refine vv_aload_n fx nd_FB_put_0 rfl 0 rfl ?_
    exact vv_callVxv (C := nr_FB) (T := nt_FB) (N := 6) (ci := 0) fx htab (cc_FB_requireUp1 l Y M U o hst h5) nm_FB_39 ns_FB_requireUp nv_FB_requireUp nz_FB nc_FB_requireUp ni_FB_requireUp 0 rfl rfl ⟨rfl, rfl, by decide, by decide⟩ ⟨(Nat.le_of_ble_eq_true rfl), (Nat.le_of_ble_eq_true rfl)⟩ (Nat.le_of_ble_eq_true rfl) nd_FB_put_1 rfl (fun _ => ⟨rfl, rfl, rfl, rfl⟩) (Nat.le_of_ble_eq_true rfl) (Nat.le_of_ble_eq_true rfl) (fun z => absurd z (by decide))
  · refine vv_aload_n fx nd_FB_put_0 rfl 0 rfl ?_
    refine vv_callVv (C := nr_FB) (T := nt_FB) (N := 6) (ci := 0) fx (cc_FB_requireUp0 l Y M U o (Classical.not_not.mp h5)) nm_FB_39 ns_FB_requireUp nv_FB_requireUp nz_FB nc_FB_requireUp ni_FB_requireUp 0 rfl rfl ⟨rfl, rfl, by decide, by decide⟩ ⟨Nat.le_of_ble_eq_true rfl, Nat.le_of_ble_eq_true rfl⟩ (Nat.le_of_ble_eq_true rfl) nd_FB_put_1 rfl ?_
    refine vv_aload_n fx nd_FB_put_4 rfl 0 rfl ?_
    refine vv_iload_n fx nd_FB_put_5 rfl 1 rfl ?_
    refine vv_callVi (C := nr_FB) (T := nt_FB) (N := 6) (ci := 0) fx (cc_FB_isKey l Y M U o k) nm_FB_42 ns_FB_isKey nv_FB_isKey nz_FB nc_FB_isKey ni_FB_isKey 0 rfl rfl ⟨rfl, rfl, by decide, by decide⟩ ⟨Nat.le_of_ble_eq_true rfl, Nat.le_of_ble_eq_true rfl⟩ (Nat.le_of_ble_eq_true rfl) nd_FB_put_6 rfl ?_
    refine vv_if_ne (tgt := 22) fx nd_FB_put_9 (by decide) (fun hb9 => ?_) (fun hb9 => ?_)
    · have hi := b01_1 hb9
      obtain ⟨j, hj, rfl⟩ := fb_isk_nat hi
      obtain ⟨hr0, hw⟩ := rf_rootw hI (j := 0) (by decide) (rf_root0 hI)
      rw [show fb_put M (nI j) v = fb_put2 M j v from ((if_neg h5).trans (if_neg (by rw [hi]; decide))).trans (by rw [nI_clamp (by omega)])]
      refine vv_aload_n fx nd_FB_put_22 rfl 0 rfl ?_
      refine vv_get (ci := 0) (C := nr_FB) (T := nt_FB) (N := 6) fx nt_FB_in 0 rfl rfl 0 (by decide) nf_FB_10 rfl nd_FB_put_23 ?_
      refine vv_aload_n fx nd_FB_put_26 rfl 0 rfl ?_
      refine vv_get (ci := 0) (C := nr_FB) (T := nt_FB) (N := 6) fx nt_FB_in 0 rfl rfl 1 (by decide) nf_FB_16 rfl nd_FB_put_27 ?_
      refine vv_iconst (v := nI 0) fx nd_FB_put_30 (by decide) ?_
      refine vv_iald fx 2 0 rfl rfl (by omega) (by decide) nd_FB_put_31 ?_
      refine vv_top (y := nI (fb_r M 0)) (hr0) ?_
      refine vv_iload_n fx nd_FB_put_32 rfl 1 rfl ?_
      refine vv_callVi (C := nr_RM) (T := nt_RM) (N := 4) (ci := 1) fx (cc_RM_binds l Y M U o (fb_r M 0) j hj (fb_wfp hw) (fb_wfq hw)) nm_FB_53 ns_RM_binds nv_RM_binds nz_RM nc_RM_binds ni_RM_binds 1 rfl rfl ⟨rfl, rfl, by decide, by decide⟩ ⟨Nat.le_of_ble_eq_true rfl, Nat.le_of_ble_eq_true rfl⟩ (Nat.le_of_ble_eq_true rfl) nd_FB_put_33 rfl ?_
      refine vv_istore_n (L' := [(0, .ref (Y.2.1 0)), (1, .int (nI j)), (2, .int v), (3, .int (if fb_bd M (fb_r M 0) j = true then 1 else 0))]) fx nd_FB_put_36 rfl (by decide) [1, 2, 3, 0] rfl ?_
      refine vv_iload_n fx nd_FB_put_37 rfl 3 rfl ?_
      refine vv_if_eq (tgt := 61) fx nd_FB_put_38 (by decide) (fun hb38 => ?_) (fun hb38 => ?_)
      · have hbq := b01_0 hb38
        by_cases hO : fb_free M < nI (fb_ntm (fb_mr M).2 (fb_r M 0) j 3)
        · rw [show fb_put2 M j v = (3, 0, (fb_mr M).2) by unfold fb_put2; rw [if_neg (by rw [hbq]; simp), fb_ocp1 hO]; rfl]
          refine vv_aload_n fx nd_FB_put_61 rfl 0 rfl ?_
          refine vv_iload_n fx nd_FB_put_62 rfl 1 rfl ?_
          refine vv_iconst (v := nI 3) fx nd_FB_put_63 (by decide) ?_
          exact vv_callVxv (C := nr_FB) (T := nt_FB) (N := 6) (ci := 0) fx htab (cc_FB_ownCurrentPath1 l Y M U o j 3 hst hI hj (by decide) hO) nm_FB_61 ns_FB_ownCurrentPath nv_FB_ownCurrentPath nz_FB nc_FB_ownCurrentPath ni_FB_ownCurrentPath 0 rfl rfl ⟨rfl, rfl, by decide, by decide⟩ ⟨(Nat.le_of_ble_eq_true rfl), (Nat.le_of_ble_eq_true rfl)⟩ (Nat.le_of_ble_eq_true rfl) nd_FB_put_64 rfl (fun _ => ⟨rfl, rfl, rfl, rfl⟩) (Nat.le_of_ble_eq_true rfl) (Nat.le_of_ble_eq_true rfl) (fun z => absurd z (by decide))
        · obtain ⟨p1, p2, p3⟩ := ow_path hI hj (L := 2) (by decide) hO
          have p4 : (fb_op (fb_mr M).2 (fb_r M 0) j 3).1 ≤ 60 := Nat.le_of_lt_succ p1
          have e7 : fb_put2 M j v = (0, nI 0, fb_bind (me_up (fb_op (fb_mr M).2 (fb_r M 0) j 3).2 3 0 (nI (fb_op (fb_mr M).2 (fb_r M 0) j 3).1)) (fb_op (fb_mr M).2 (fb_r M 0) j 3).1 j v) := by unfold fb_put2; rw [if_neg (by rw [hbq]; simp), fb_ocp0 hO]; dsimp only; rw [if_neg Bool.false_ne_true, rf_r_up _ p4, hbq]; rfl
          rw [e7]
          refine vv_aload_n fx nd_FB_put_61 rfl 0 rfl ?_
          refine vv_iload_n fx nd_FB_put_62 rfl 1 rfl ?_
          refine vv_iconst (v := nI 3) fx nd_FB_put_63 (by decide) ?_
          refine vv_callVv (C := nr_FB) (T := nt_FB) (N := 6) (ci := 0) fx (cc_FB_ownCurrentPath0 l Y M U o j 3 hI hj (by decide) hO) nm_FB_61 ns_FB_ownCurrentPath nv_FB_ownCurrentPath nz_FB nc_FB_ownCurrentPath ni_FB_ownCurrentPath 0 rfl rfl ⟨rfl, rfl, by decide, by decide⟩ ⟨Nat.le_of_ble_eq_true rfl, Nat.le_of_ble_eq_true rfl⟩ (Nat.le_of_ble_eq_true rfl) nd_FB_put_64 rfl ?_
          refine vv_aload_n fx nd_FB_put_67 rfl 0 rfl ?_
          refine vv_get (ci := 0) (C := nr_FB) (T := nt_FB) (N := 6) fx nt_FB_in 0 rfl rfl 0 (by decide) nf_FB_10 rfl nd_FB_put_68 ?_
          refine vv_aload_n fx nd_FB_put_71 rfl 0 rfl ?_
          refine vv_get (ci := 0) (C := nr_FB) (T := nt_FB) (N := 6) fx nt_FB_in 0 rfl rfl 1 (by decide) nf_FB_16 rfl nd_FB_put_72 ?_
          refine vv_iconst (v := nI 0) fx nd_FB_put_75 (by decide) ?_
          refine vv_iald fx 2 0 rfl rfl (by omega) (by decide) nd_FB_put_76 ?_
          refine vv_top (y := nI (fb_op (fb_mr M).2 (fb_r M 0) j 3).1) (me_up_s _ _ _ _) ?_
          refine vv_iload_n fx nd_FB_put_77 rfl 1 rfl ?_
          refine vv_iload_n fx nd_FB_put_78 rfl 2 rfl ?_
          refine vv_callVv (C := nr_RM) (T := nt_RM) (N := 4) (ci := 1) fx (cc_RM_bind l Y (me_up (fb_op (fb_mr M).2 (fb_r M 0) j 3).2 3 0 (nI (fb_op (fb_mr M).2 (fb_r M 0) j 3).1)) U o (fb_op (fb_mr M).2 (fb_r M 0) j 3).1 j v hj p2 p3) nm_FB_65 ns_RM_bind nv_RM_bind nz_RM nc_RM_bind ni_RM_bind 1 rfl rfl ⟨rfl, rfl, by decide, by decide⟩ ⟨Nat.le_of_ble_eq_true rfl, Nat.le_of_ble_eq_true rfl⟩ (Nat.le_of_ble_eq_true rfl) nd_FB_put_79 rfl ?_
          refine vv_iload_n fx nd_FB_put_82 rfl 3 rfl ?_
          refine vv_if_eq (tgt := 90) fx nd_FB_put_83 (by decide) (fun _ => ?_) (fun hb => absurd (by rw [hbq]; rfl) hb)
          refine vv_iconst (v := nI 0) fx nd_FB_put_90 (by decide) ?_
          exact vv_ixret fx rfl nd_FB_put_91 (rfl) (rfl) (Nat.le_of_ble_eq_true rfl) (Nat.le_of_ble_eq_true rfl)
      · have hbq := b01_1 hb38
        refine vv_aload_n fx nd_FB_put_41 rfl 0 rfl ?_
        refine vv_get (ci := 0) (C := nr_FB) (T := nt_FB) (N := 6) fx nt_FB_in 0 rfl rfl 0 (by decide) nf_FB_10 rfl nd_FB_put_42 ?_
        refine vv_aload_n fx nd_FB_put_45 rfl 0 rfl ?_
        refine vv_get (ci := 0) (C := nr_FB) (T := nt_FB) (N := 6) fx nt_FB_in 0 rfl rfl 1 (by decide) nf_FB_16 rfl nd_FB_put_46 ?_
        refine vv_iconst (v := nI 0) fx nd_FB_put_49 (by decide) ?_
        refine vv_iald fx 2 0 rfl rfl (by omega) (by decide) nd_FB_put_50 ?_
        refine vv_top (y := nI (fb_r M 0)) (hr0) ?_
        refine vv_iload_n fx nd_FB_put_51 rfl 1 rfl ?_
        refine vv_callVi (C := nr_RM) (T := nt_RM) (N := 4) (ci := 1) fx (cc_RM_valueOf l Y M U o (fb_r M 0) j hj (fb_wfp hw) (fb_wfq hw)) nm_FB_57 ns_RM_valueOf nv_RM_valueOf nz_RM nc_RM_valueOf ni_RM_valueOf 1 rfl rfl ⟨rfl, rfl, by decide, by decide⟩ ⟨Nat.le_of_ble_eq_true rfl, Nat.le_of_ble_eq_true rfl⟩ (Nat.le_of_ble_eq_true rfl) nd_FB_put_52 rfl ?_
        refine vv_iload_n fx nd_FB_put_55 rfl 2 rfl ?_
        refine vv_icmp_ne (tgt := 61) fx nd_FB_put_56 (by decide) (fun hb56 => ?_) (fun hb56 => ?_)
        · by_cases hO : fb_free M < nI (fb_ntm (fb_mr M).2 (fb_r M 0) j 3)
          · rw [show fb_put2 M j v = (3, 0, (fb_mr M).2) by unfold fb_put2; rw [if_neg (by rw [hbq, decide_eq_false hb56]; decide), fb_ocp1 hO]; rfl]
            refine vv_aload_n fx nd_FB_put_61 rfl 0 rfl ?_
            refine vv_iload_n fx nd_FB_put_62 rfl 1 rfl ?_
            refine vv_iconst (v := nI 3) fx nd_FB_put_63 (by decide) ?_
            exact vv_callVxv (C := nr_FB) (T := nt_FB) (N := 6) (ci := 0) fx htab (cc_FB_ownCurrentPath1 l Y M U o j 3 hst hI hj (by decide) hO) nm_FB_61 ns_FB_ownCurrentPath nv_FB_ownCurrentPath nz_FB nc_FB_ownCurrentPath ni_FB_ownCurrentPath 0 rfl rfl ⟨rfl, rfl, by decide, by decide⟩ ⟨(Nat.le_of_ble_eq_true rfl), (Nat.le_of_ble_eq_true rfl)⟩ (Nat.le_of_ble_eq_true rfl) nd_FB_put_64 rfl (fun _ => ⟨rfl, rfl, rfl, rfl⟩) (Nat.le_of_ble_eq_true rfl) (Nat.le_of_ble_eq_true rfl) (fun z => absurd z (by decide))
          · obtain ⟨p1, p2, p3⟩ := ow_path hI hj (L := 2) (by decide) hO
            have p4 : (fb_op (fb_mr M).2 (fb_r M 0) j 3).1 ≤ 60 := Nat.le_of_lt_succ p1
            have e7 : fb_put2 M j v = (0, nI 1, fb_bind (me_up (fb_op (fb_mr M).2 (fb_r M 0) j 3).2 3 0 (nI (fb_op (fb_mr M).2 (fb_r M 0) j 3).1)) (fb_op (fb_mr M).2 (fb_r M 0) j 3).1 j v) := by unfold fb_put2; rw [if_neg (by rw [hbq, decide_eq_false hb56]; decide), fb_ocp0 hO]; dsimp only; rw [if_neg Bool.false_ne_true, rf_r_up _ p4, hbq]; rfl
            rw [e7]
            refine vv_aload_n fx nd_FB_put_61 rfl 0 rfl ?_
            refine vv_iload_n fx nd_FB_put_62 rfl 1 rfl ?_
            refine vv_iconst (v := nI 3) fx nd_FB_put_63 (by decide) ?_
            refine vv_callVv (C := nr_FB) (T := nt_FB) (N := 6) (ci := 0) fx (cc_FB_ownCurrentPath0 l Y M U o j 3 hI hj (by decide) hO) nm_FB_61 ns_FB_ownCurrentPath nv_FB_ownCurrentPath nz_FB nc_FB_ownCurrentPath ni_FB_ownCurrentPath 0 rfl rfl ⟨rfl, rfl, by decide, by decide⟩ ⟨Nat.le_of_ble_eq_true rfl, Nat.le_of_ble_eq_true rfl⟩ (Nat.le_of_ble_eq_true rfl) nd_FB_put_64 rfl ?_
            refine vv_aload_n fx nd_FB_put_67 rfl 0 rfl ?_
            refine vv_get (ci := 0) (C := nr_FB) (T := nt_FB) (N := 6) fx nt_FB_in 0 rfl rfl 0 (by decide) nf_FB_10 rfl nd_FB_put_68 ?_
            refine vv_aload_n fx nd_FB_put_71 rfl 0 rfl ?_
            refine vv_get (ci := 0) (C := nr_FB) (T := nt_FB) (N := 6) fx nt_FB_in 0 rfl rfl 1 (by decide) nf_FB_16 rfl nd_FB_put_72 ?_
            refine vv_iconst (v := nI 0) fx nd_FB_put_75 (by decide) ?_
            refine vv_iald fx 2 0 rfl rfl (by omega) (by decide) nd_FB_put_76 ?_
            refine vv_top (y := nI (fb_op (fb_mr M).2 (fb_r M 0) j 3).1) (me_up_s _ _ _ _) ?_
            refine vv_iload_n fx nd_FB_put_77 rfl 1 rfl ?_
            refine vv_iload_n fx nd_FB_put_78 rfl 2 rfl ?_
            refine vv_callVv (C := nr_RM) (T := nt_RM) (N := 4) (ci := 1) fx (cc_RM_bind l Y (me_up (fb_op (fb_mr M).2 (fb_r M 0) j 3).2 3 0 (nI (fb_op (fb_mr M).2 (fb_r M 0) j 3).1)) U o (fb_op (fb_mr M).2 (fb_r M 0) j 3).1 j v hj p2 p3) nm_FB_65 ns_RM_bind nv_RM_bind nz_RM nc_RM_bind ni_RM_bind 1 rfl rfl ⟨rfl, rfl, by decide, by decide⟩ ⟨Nat.le_of_ble_eq_true rfl, Nat.le_of_ble_eq_true rfl⟩ (Nat.le_of_ble_eq_true rfl) nd_FB_put_79 rfl ?_
            refine vv_iload_n fx nd_FB_put_82 rfl 3 rfl ?_
            refine vv_if_eq (tgt := 90) fx nd_FB_put_83 (by decide) (fun hb => absurd hb (by rw [hbq]; decide)) (fun _ => ?_)
            refine vv_iconst (v := nI 1) fx nd_FB_put_86 (by decide) ?_
            refine vv_goto (tgt := 91) fx nd_FB_put_87 (by decide) ?_
            exact vv_ixret fx rfl nd_FB_put_91 (rfl) (rfl) (Nat.le_of_ble_eq_true rfl) (Nat.le_of_ble_eq_true rfl)
        · rw [show fb_put2 M j v = (0, 2, M) from if_pos (by rw [hbq, decide_eq_true hb56]; rfl)]
          refine vv_iconst (v := nI 2) fx nd_FB_put_59 (by decide) ?_
          exact vv_ixret fx rfl nd_FB_put_60 (rfl) (rfl) (Nat.le_of_ble_eq_true rfl) (Nat.le_of_ble_eq_true rfl)
    · rw [show fb_put M k v = (2, 0, M) from (if_neg h5).trans (if_pos (b01_0 hb9))]
      exact vv_throw_2 (text := "no such key") fx htab hst (by decide +kernel) nd_FB_put_12 nd_FB_put_15 nd_FB_put_16 nd_FB_put_18 nd_FB_put_21 (Nat.le_of_ble_eq_true rfl) (Nat.le_of_ble_eq_true rfl) (Nat.le_of_ble_eq_true rfl) (Nat.le_of_ble_eq_true rfl) (rfl) (rfl) (rfl) (rfl) (Nat.le_of_ble_eq_true rfl) (Nat.le_of_ble_eq_true rfl)
theorem fb_lw_le (M : me_M) (r k n : Nat) : fb_lw M r k n ≤ n := by
  induction n with
  | zero => exact Nat.le_refl _
  | succ n ih =>
    unfold fb_lw
    split
    · omega
    · exact Nat.le_refl _
theorem ow_pathL {M U : me_M} {N k L : Nat} (hI : rf_I M U N) (hk : k < 64) (hL : L ≤ 3) (h : ¬ fb_free M < nI (fb_ntm (fb_mr M).2 (fb_r M 0) k L)) : (fb_op (fb_mr M).2 (fb_r M 0) k L).1 < 61 ∧ (0 < L → fb_pk (me_up (fb_op (fb_mr M).2 (fb_r M 0) k L).2 3 0 (nI (fb_op (fb_mr M).2 (fb_r M 0) k L).1)) (fb_op (fb_mr M).2 (fb_r M 0) k L).1 k (L - 1)) ∧ (0 < L → fb_na (me_up (fb_op (fb_mr M).2 (fb_r M 0) k L).2 3 0 (nI (fb_op (fb_mr M).2 (fb_r M 0) k L).1)) (fb_op (fb_mr M).2 (fb_r M 0) k L).1 k (L - 1) < 61) := by
  cases L with
  | zero => exact ⟨(by decide : (0 : Nat) < 61), fun z => absurd z (by decide), fun z => absurd z (by decide)⟩
  | succ L =>
    obtain ⟨a, b, c⟩ := ow_path hI hk hL h
    exact ⟨a, fun _ => b, fun _ => c⟩
set_option maxRecDepth 4000 in
theorem cc_FB_remove (l : Launch) (Y : sy_Y) (M U : me_M) (o : Int64) (k : Int32) {N : Nat} (hst : l.stackTraces = false) (hI : rf_I M U N) : ct_IX l ny_FB_remove nb_FB_remove 4 (some .int) { frames := 7, cells := 1, slots := 6, locals := 137 } Y [.ref (Y.2.1 0), .int k] M U o ((fb_remove M k).1) ((fb_remove M k).2.1) ((fb_remove M k).2.2) U o 1 6 := by
  refine ct_bodyX (own := nr_FB) (L0 := [(0, .ref (Y.2.1 0)), (1, .int k)]) (by decide) rfl (Nat.le_of_ble_eq_true rfl) rfl ?_
  intro p e s m args below meth c fx htab
  by_cases h5 : M 5 0 ≠ 0
  · rw [show fb_remove M k = (1, 0, M) from if_pos h5]
    refine vv_aload_n fx nd_FB_remove_0 rfl 0 rfl ?_
    exact vv_callVxv (C := nr_FB) (T := nt_FB) (N := 6) (ci := 0) fx htab (cc_FB_requireUp1 l Y M U o hst h5) nm_FB_39 ns_FB_requireUp nv_FB_requireUp nz_FB nc_FB_requireUp ni_FB_requireUp 0 rfl rfl ⟨rfl, rfl, by decide, by decide⟩ ⟨(Nat.le_of_ble_eq_true rfl), (Nat.le_of_ble_eq_true rfl)⟩ (Nat.le_of_ble_eq_true rfl) nd_FB_remove_1 rfl (fun _ => ⟨rfl, rfl, rfl, rfl⟩) (Nat.le_of_ble_eq_true rfl) (Nat.le_of_ble_eq_true rfl) (fun z => absurd z (by decide))
  · refine vv_aload_n fx nd_FB_remove_0 rfl 0 rfl ?_
    refine vv_callVv (C := nr_FB) (T := nt_FB) (N := 6) (ci := 0) fx (cc_FB_requireUp0 l Y M U o (Classical.not_not.mp h5)) nm_FB_39 ns_FB_requireUp nv_FB_requireUp nz_FB nc_FB_requireUp ni_FB_requireUp 0 rfl rfl ⟨rfl, rfl, by decide, by decide⟩ ⟨Nat.le_of_ble_eq_true rfl, Nat.le_of_ble_eq_true rfl⟩ (Nat.le_of_ble_eq_true rfl) nd_FB_remove_1 rfl ?_
    obtain ⟨hr0, hw⟩ := rf_rootw hI (j := 0) (by decide) (rf_root0 hI)
    by_cases hb : (fb_isk k && fb_bd M (fb_r M 0) k.toNatClampNeg) = false
    · rw [show fb_remove M k = (4, 0, M) from (if_neg h5).trans (if_pos hb)]
      refine vv_aload_n fx nd_FB_remove_4 rfl 0 rfl ?_
      refine vv_aload_n fx nd_FB_remove_5 rfl 0 rfl ?_
      refine vv_get (ci := 0) (C := nr_FB) (T := nt_FB) (N := 6) fx nt_FB_in 0 rfl rfl 1 (by decide) nf_FB_16 rfl nd_FB_remove_6 ?_
      refine vv_iconst (v := nI 0) fx nd_FB_remove_9 (by decide) ?_
      refine vv_iald fx 2 0 rfl rfl (by omega) (by decide) nd_FB_remove_10 ?_
      refine vv_top (y := nI (fb_r M 0)) (hr0) ?_
      refine vv_iload_n fx nd_FB_remove_11 rfl 1 rfl ?_
      exact vv_callVxv (C := nr_FB) (T := nt_FB) (N := 6) (ci := 0) fx htab (cc_FB_requireBound1 l Y M U o (fb_r M 0) k hst hw hb) nm_FB_69 ns_FB_requireBound nv_FB_requireBound nz_FB nc_FB_requireBound ni_FB_requireBound 0 rfl rfl ⟨rfl, rfl, by decide, by decide⟩ ⟨(Nat.le_of_ble_eq_true rfl), (Nat.le_of_ble_eq_true rfl)⟩ (Nat.le_of_ble_eq_true rfl) nd_FB_remove_12 rfl (fun _ => ⟨rfl, rfl, rfl, rfl⟩) (Nat.le_of_ble_eq_true rfl) (Nat.le_of_ble_eq_true rfl) (fun z => absurd z (by decide))
    · have hb2 : (fb_isk k && fb_bd M (fb_r M 0) k.toNatClampNeg) = true := by cases q : (fb_isk k && fb_bd M (fb_r M 0) k.toNatClampNeg) with | false => exact absurd q hb | true => rfl
      rw [Bool.and_eq_true] at hb2
      obtain ⟨hi, hbd⟩ := hb2
      obtain ⟨j, hj, rfl⟩ := fb_isk_nat hi
      rw [nI_clamp (by omega)] at hbd
      rw [show fb_remove M (nI j) = fb_remove2 M j (fb_lw M (fb_r M 0) j 3) from ((if_neg h5).trans (if_neg hb)).trans (by rw [nI_clamp (by omega)])]
      have hL : (fb_lw M (fb_r M 0) j 3) ≤ 3 := fb_lw_le _ _ _ _
      refine vv_aload_n fx nd_FB_remove_4 rfl 0 rfl ?_
      refine vv_aload_n fx nd_FB_remove_5 rfl 0 rfl ?_
      refine vv_get (ci := 0) (C := nr_FB) (T := nt_FB) (N := 6) fx nt_FB_in 0 rfl rfl 1 (by decide) nf_FB_16 rfl nd_FB_remove_6 ?_
      refine vv_iconst (v := nI 0) fx nd_FB_remove_9 (by decide) ?_
      refine vv_iald fx 2 0 rfl rfl (by omega) (by decide) nd_FB_remove_10 ?_
      refine vv_top (y := nI (fb_r M 0)) (hr0) ?_
      refine vv_iload_n fx nd_FB_remove_11 rfl 1 rfl ?_
      refine vv_callVv (C := nr_FB) (T := nt_FB) (N := 6) (ci := 0) fx (cc_FB_requireBound0 l Y M U o (fb_r M 0) j hw hj hi hbd) nm_FB_69 ns_FB_requireBound nv_FB_requireBound nz_FB nc_FB_requireBound ni_FB_requireBound 0 rfl rfl ⟨rfl, rfl, by decide, by decide⟩ ⟨Nat.le_of_ble_eq_true rfl, Nat.le_of_ble_eq_true rfl⟩ (Nat.le_of_ble_eq_true rfl) nd_FB_remove_12 rfl ?_
      refine vv_aload_n fx nd_FB_remove_15 rfl 0 rfl ?_
      refine vv_get (ci := 0) (C := nr_FB) (T := nt_FB) (N := 6) fx nt_FB_in 0 rfl rfl 0 (by decide) nf_FB_10 rfl nd_FB_remove_16 ?_
      refine vv_aload_n fx nd_FB_remove_19 rfl 0 rfl ?_
      refine vv_get (ci := 0) (C := nr_FB) (T := nt_FB) (N := 6) fx nt_FB_in 0 rfl rfl 1 (by decide) nf_FB_16 rfl nd_FB_remove_20 ?_
      refine vv_iconst (v := nI 0) fx nd_FB_remove_23 (by decide) ?_
      refine vv_iald fx 2 0 rfl rfl (by omega) (by decide) nd_FB_remove_24 ?_
      refine vv_top (y := nI (fb_r M 0)) (hr0) ?_
      refine vv_iload_n fx nd_FB_remove_25 rfl 1 rfl ?_
      refine vv_callVi (C := nr_RM) (T := nt_RM) (N := 4) (ci := 1) fx (cc_RM_valueOf l Y M U o (fb_r M 0) j hj (fb_wfp hw) (fb_wfq hw)) nm_FB_57 ns_RM_valueOf nv_RM_valueOf nz_RM nc_RM_valueOf ni_RM_valueOf 1 rfl rfl ⟨rfl, rfl, by decide, by decide⟩ ⟨Nat.le_of_ble_eq_true rfl, Nat.le_of_ble_eq_true rfl⟩ (Nat.le_of_ble_eq_true rfl) nd_FB_remove_26 rfl ?_
      refine vv_istore_n (L' := [(0, .ref (Y.2.1 0)), (1, .int (nI j)), (2, .int (fb_val M (fb_r M 0) j))]) fx nd_FB_remove_29 rfl (by decide) [1, 2, 0] rfl ?_
      refine vv_aload_n fx nd_FB_remove_30 rfl 0 rfl ?_
      refine vv_get (ci := 0) (C := nr_FB) (T := nt_FB) (N := 6) fx nt_FB_in 0 rfl rfl 0 (by decide) nf_FB_10 rfl nd_FB_remove_31 ?_
      refine vv_aload_n fx nd_FB_remove_34 rfl 0 rfl ?_
      refine vv_get (ci := 0) (C := nr_FB) (T := nt_FB) (N := 6) fx nt_FB_in 0 rfl rfl 1 (by decide) nf_FB_16 rfl nd_FB_remove_35 ?_
      refine vv_iconst (v := nI 0) fx nd_FB_remove_38 (by decide) ?_
      refine vv_iald fx 2 0 rfl rfl (by omega) (by decide) nd_FB_remove_39 ?_
      refine vv_top (y := nI (fb_r M 0)) (hr0) ?_
      refine vv_iload_n fx nd_FB_remove_40 rfl 1 rfl ?_
      refine vv_callVi (C := nr_RM) (T := nt_RM) (N := 4) (ci := 1) fx (cc_RM_levelsWithout l Y M U o (fb_r M 0) j hj (fb_wfp hw) (fb_pk_wf hw j).2) nm_FB_72 ns_RM_levelsWithout nv_RM_levelsWithout nz_RM nc_RM_levelsWithout ni_RM_levelsWithout 1 rfl rfl ⟨rfl, rfl, by decide, by decide⟩ ⟨Nat.le_of_ble_eq_true rfl, Nat.le_of_ble_eq_true rfl⟩ (Nat.le_of_ble_eq_true rfl) nd_FB_remove_41 rfl ?_
      refine vv_istore_n (L' := [(0, .ref (Y.2.1 0)), (1, .int (nI j)), (2, .int (fb_val M (fb_r M 0) j)), (3, .int (nI (fb_lw M (fb_r M 0) j 3)))]) fx nd_FB_remove_44 rfl (by decide) [1, 2, 3, 0] rfl ?_
      refine vv_aload_n fx nd_FB_remove_45 rfl 0 rfl ?_
      refine vv_iload_n fx nd_FB_remove_46 rfl 1 rfl ?_
      refine vv_iload_n fx nd_FB_remove_47 rfl 3 rfl ?_
      by_cases hO : fb_free M < nI (fb_ntm (fb_mr M).2 (fb_r M 0) j (fb_lw M (fb_r M 0) j 3))
      · rw [show fb_remove2 M j (fb_lw M (fb_r M 0) j 3) = (3, 0, (fb_mr M).2) by unfold fb_remove2; rw [fb_ocp1 hO]; rfl]
        exact vv_callVxv (C := nr_FB) (T := nt_FB) (N := 6) (ci := 0) fx htab (cc_FB_ownCurrentPath1 l Y M U o j (fb_lw M (fb_r M 0) j 3) hst hI hj hL hO) nm_FB_61 ns_FB_ownCurrentPath nv_FB_ownCurrentPath nz_FB nc_FB_ownCurrentPath ni_FB_ownCurrentPath 0 rfl rfl ⟨rfl, rfl, by decide, by decide⟩ ⟨(Nat.le_of_ble_eq_true rfl), (Nat.le_of_ble_eq_true rfl)⟩ (Nat.le_of_ble_eq_true rfl) nd_FB_remove_48 rfl (fun _ => ⟨rfl, rfl, rfl, rfl⟩) (Nat.le_of_ble_eq_true rfl) (Nat.le_of_ble_eq_true rfl) (fun z => absurd z (by decide))
      · have hc : (fb_op (fb_mr M).2 (fb_r M 0) j (fb_lw M (fb_r M 0) j 3)).1 < 61 ∧ (0 < (fb_lw M (fb_r M 0) j 3) → fb_pk (me_up (fb_op (fb_mr M).2 (fb_r M 0) j (fb_lw M (fb_r M 0) j 3)).2 3 0 (nI (fb_op (fb_mr M).2 (fb_r M 0) j (fb_lw M (fb_r M 0) j 3)).1)) (fb_op (fb_mr M).2 (fb_r M 0) j (fb_lw M (fb_r M 0) j 3)).1 j ((fb_lw M (fb_r M 0) j 3) - 1)) ∧ (0 < (fb_lw M (fb_r M 0) j 3) → fb_na (me_up (fb_op (fb_mr M).2 (fb_r M 0) j (fb_lw M (fb_r M 0) j 3)).2 3 0 (nI (fb_op (fb_mr M).2 (fb_r M 0) j (fb_lw M (fb_r M 0) j 3)).1)) (fb_op (fb_mr M).2 (fb_r M 0) j (fb_lw M (fb_r M 0) j 3)).1 j ((fb_lw M (fb_r M 0) j 3) - 1) < 61) := ow_pathL hI hj hL hO
        have e7 : fb_remove2 M j (fb_lw M (fb_r M 0) j 3) = (0, fb_val M (fb_r M 0) j, fb_cut (me_up (fb_op (fb_mr M).2 (fb_r M 0) j (fb_lw M (fb_r M 0) j 3)).2 3 0 (nI (fb_op (fb_mr M).2 (fb_r M 0) j (fb_lw M (fb_r M 0) j 3)).1)) (fb_op (fb_mr M).2 (fb_r M 0) j (fb_lw M (fb_r M 0) j 3)).1 j (fb_lw M (fb_r M 0) j 3)) := by unfold fb_remove2; rw [fb_ocp0 hO]; dsimp only; rw [if_neg Bool.false_ne_true, rf_r_up _ (by have := hc.1; omega)]
        rw [e7]
        refine vv_callVv (C := nr_FB) (T := nt_FB) (N := 6) (ci := 0) fx (cc_FB_ownCurrentPath0 l Y M U o j (fb_lw M (fb_r M 0) j 3) hI hj hL hO) nm_FB_61 ns_FB_ownCurrentPath nv_FB_ownCurrentPath nz_FB nc_FB_ownCurrentPath ni_FB_ownCurrentPath 0 rfl rfl ⟨rfl, rfl, by decide, by decide⟩ ⟨Nat.le_of_ble_eq_true rfl, Nat.le_of_ble_eq_true rfl⟩ (Nat.le_of_ble_eq_true rfl) nd_FB_remove_48 rfl ?_
        refine vv_aload_n fx nd_FB_remove_51 rfl 0 rfl ?_
        refine vv_get (ci := 0) (C := nr_FB) (T := nt_FB) (N := 6) fx nt_FB_in 0 rfl rfl 0 (by decide) nf_FB_10 rfl nd_FB_remove_52 ?_
        refine vv_aload_n fx nd_FB_remove_55 rfl 0 rfl ?_
        refine vv_get (ci := 0) (C := nr_FB) (T := nt_FB) (N := 6) fx nt_FB_in 0 rfl rfl 1 (by decide) nf_FB_16 rfl nd_FB_remove_56 ?_
        refine vv_iconst (v := nI 0) fx nd_FB_remove_59 (by decide) ?_
        refine vv_iald fx 2 0 rfl rfl (by omega) (by decide) nd_FB_remove_60 ?_
        refine vv_top (y := nI (fb_op (fb_mr M).2 (fb_r M 0) j (fb_lw M (fb_r M 0) j 3)).1) (me_up_s _ _ _ _) ?_
        refine vv_iload_n fx nd_FB_remove_61 rfl 1 rfl ?_
        refine vv_iload_n fx nd_FB_remove_62 rfl 3 rfl ?_
        refine vv_callVv (C := nr_RM) (T := nt_RM) (N := 4) (ci := 1) fx (cc_RM_cut l Y (me_up (fb_op (fb_mr M).2 (fb_r M 0) j (fb_lw M (fb_r M 0) j 3)).2 3 0 (nI (fb_op (fb_mr M).2 (fb_r M 0) j (fb_lw M (fb_r M 0) j 3)).1)) U o (fb_op (fb_mr M).2 (fb_r M 0) j (fb_lw M (fb_r M 0) j 3)).1 j (fb_lw M (fb_r M 0) j 3) hj hL hc.2.1 hc.2.2) nm_FB_75 ns_RM_cut nv_RM_cut nz_RM nc_RM_cut ni_RM_cut 1 rfl rfl ⟨rfl, rfl, by decide, by decide⟩ ⟨Nat.le_of_ble_eq_true rfl, Nat.le_of_ble_eq_true rfl⟩ (Nat.le_of_ble_eq_true rfl) nd_FB_remove_63 rfl ?_
        refine vv_iload_n fx nd_FB_remove_66 rfl 2 rfl ?_
        exact vv_ixret fx rfl nd_FB_remove_67 (rfl) (rfl) (Nat.le_of_ble_eq_true rfl) (Nat.le_of_ble_eq_true rfl)
set_option maxRecDepth 4000 in
theorem cc_FB_get (l : Launch) (Y : sy_Y) (M U : me_M) (o : Int64) (h k : Int32) {N : Nat} (hst : l.stackTraces = false) (hI : rf_I M U N) : ct_IX l ny_FB_get nb_FB_get 3 (some .int) { frames := 7, cells := 1, slots := 6, locals := 104 } Y [.ref (Y.2.1 0), .int h, .int k] M U o ((fb_get M h k).1) ((fb_get M h k).2.1) ((fb_get M h k).2.2) U o 1 6 := by
  refine ct_bodyX (own := nr_FB) (L0 := [(0, .ref (Y.2.1 0)), (1, .int h), (2, .int k)]) (by decide) rfl (Nat.le_of_ble_eq_true rfl) rfl ?_
  intro p e s m args below meth c fx htab
  by_cases h5 : M 5 0 ≠ 0
  · rw [show fb_get M h k = (1, 0, M) from if_pos h5]
    refine vv_aload_n fx nd_FB_get_0 rfl 0 rfl ?_
    exact vv_callVxv (C := nr_FB) (T := nt_FB) (N := 6) (ci := 0) fx htab (cc_FB_requireUp1 l Y M U o hst h5) nm_FB_39 ns_FB_requireUp nv_FB_requireUp nz_FB nc_FB_requireUp ni_FB_requireUp 0 rfl rfl ⟨rfl, rfl, by decide, by decide⟩ ⟨(Nat.le_of_ble_eq_true rfl), (Nat.le_of_ble_eq_true rfl)⟩ (Nat.le_of_ble_eq_true rfl) nd_FB_get_1 rfl (fun _ => ⟨rfl, rfl, rfl, rfl⟩) (Nat.le_of_ble_eq_true rfl) (Nat.le_of_ble_eq_true rfl) (fun z => absurd z (by decide))
  · refine vv_aload_n fx nd_FB_get_0 rfl 0 rfl ?_
    refine vv_callVv (C := nr_FB) (T := nt_FB) (N := 6) (ci := 0) fx (cc_FB_requireUp0 l Y M U o (Classical.not_not.mp h5)) nm_FB_39 ns_FB_requireUp nv_FB_requireUp nz_FB nc_FB_requireUp ni_FB_requireUp 0 rfl rfl ⟨rfl, rfl, by decide, by decide⟩ ⟨Nat.le_of_ble_eq_true rfl, Nat.le_of_ble_eq_true rfl⟩ (Nat.le_of_ble_eq_true rfl) nd_FB_get_1 rfl ?_
    by_cases hm : fb_ism M h = false
    · rw [show fb_get M h k = (2, 0, M) from (if_neg h5).trans (if_pos hm)]
      refine vv_aload_n fx nd_FB_get_4 rfl 0 rfl ?_
      refine vv_iload_n fx nd_FB_get_5 rfl 1 rfl ?_
      exact vv_callVxv (C := nr_FB) (T := nt_FB) (N := 6) (ci := 0) fx htab (cc_FB_requireMap1 l Y M U o h hst hm) nm_FB_78 ns_FB_requireMap nv_FB_requireMap nz_FB nc_FB_requireMap ni_FB_requireMap 0 rfl rfl ⟨rfl, rfl, by decide, by decide⟩ ⟨(Nat.le_of_ble_eq_true rfl), (Nat.le_of_ble_eq_true rfl)⟩ (Nat.le_of_ble_eq_true rfl) nd_FB_get_6 rfl (fun _ => ⟨rfl, rfl, rfl, rfl⟩) (Nat.le_of_ble_eq_true rfl) (Nat.le_of_ble_eq_true rfl) (fun z => absurd z (by decide))
    · have hm : fb_ism M h = true := by cases q : fb_ism M h with | false => exact absurd q hm | true => rfl
      refine vv_aload_n fx nd_FB_get_4 rfl 0 rfl ?_
      refine vv_iload_n fx nd_FB_get_5 rfl 1 rfl ?_
      refine vv_callVv (C := nr_FB) (T := nt_FB) (N := 6) (ci := 0) fx (cc_FB_requireMap0 l Y M U o h hm) nm_FB_78 ns_FB_requireMap nv_FB_requireMap nz_FB nc_FB_requireMap ni_FB_requireMap 0 rfl rfl ⟨rfl, rfl, by decide, by decide⟩ ⟨Nat.le_of_ble_eq_true rfl, Nat.le_of_ble_eq_true rfl⟩ (Nat.le_of_ble_eq_true rfl) nd_FB_get_6 rfl ?_
      obtain ⟨hn, hn7, rfl, hne⟩ := fb_ism_nat hm
      obtain ⟨hnr, hnw⟩ := rf_rootw hI hn7 hne
      have ecl : (nI hn).toNatClampNeg = hn := nI_clamp (by omega)
      by_cases hb : (fb_isk k && fb_bd M (fb_r M hn) k.toNatClampNeg) = false
      · rw [show fb_get M (nI hn) k = (4, 0, M) from ((if_neg h5).trans (if_neg (by rw [hm]; decide))).trans (if_pos (by rw [ecl]; exact hb))]
        refine vv_aload_n fx nd_FB_get_9 rfl 0 rfl ?_
        refine vv_aload_n fx nd_FB_get_10 rfl 0 rfl ?_
        refine vv_get (ci := 0) (C := nr_FB) (T := nt_FB) (N := 6) fx nt_FB_in 0 rfl rfl 1 (by decide) nf_FB_16 rfl nd_FB_get_11 ?_
        refine vv_iload_n fx nd_FB_get_14 rfl 1 rfl ?_
        refine vv_iald fx 2 0 rfl rfl (hn7) (by decide) nd_FB_get_15 ?_
        refine vv_top (y := nI (fb_r M hn)) (hnr) ?_
        refine vv_iload_n fx nd_FB_get_16 rfl 2 rfl ?_
        exact vv_callVxv (C := nr_FB) (T := nt_FB) (N := 6) (ci := 0) fx htab (cc_FB_requireBound1 l Y M U o (fb_r M hn) k hst hnw hb) nm_FB_69 ns_FB_requireBound nv_FB_requireBound nz_FB nc_FB_requireBound ni_FB_requireBound 0 rfl rfl ⟨rfl, rfl, by decide, by decide⟩ ⟨(Nat.le_of_ble_eq_true rfl), (Nat.le_of_ble_eq_true rfl)⟩ (Nat.le_of_ble_eq_true rfl) nd_FB_get_17 rfl (fun _ => ⟨rfl, rfl, rfl, rfl⟩) (Nat.le_of_ble_eq_true rfl) (Nat.le_of_ble_eq_true rfl) (fun z => absurd z (by decide))
      · have hb2 : (fb_isk k && fb_bd M (fb_r M hn) k.toNatClampNeg) = true := by cases q : (fb_isk k && fb_bd M (fb_r M hn) k.toNatClampNeg) with | false => exact absurd q hb | true => rfl
        rw [Bool.and_eq_true] at hb2
        obtain ⟨hi, hbd⟩ := hb2
        obtain ⟨j, hj, rfl⟩ := fb_isk_nat hi
        have ecj : (nI j).toNatClampNeg = j := nI_clamp (by omega)
        rw [ecj] at hbd
        rw [show fb_get M (nI hn) (nI j) = (0, fb_val M (fb_r M hn) j, M) from ((if_neg h5).trans (if_neg (by rw [hm]; decide))).trans ((if_neg (by rw [ecl]; exact hb)).trans (by rw [ecl, ecj]))]
        refine vv_aload_n fx nd_FB_get_9 rfl 0 rfl ?_
        refine vv_aload_n fx nd_FB_get_10 rfl 0 rfl ?_
        refine vv_get (ci := 0) (C := nr_FB) (T := nt_FB) (N := 6) fx nt_FB_in 0 rfl rfl 1 (by decide) nf_FB_16 rfl nd_FB_get_11 ?_
        refine vv_iload_n fx nd_FB_get_14 rfl 1 rfl ?_
        refine vv_iald fx 2 0 rfl rfl (hn7) (by decide) nd_FB_get_15 ?_
        refine vv_top (y := nI (fb_r M hn)) (hnr) ?_
        refine vv_iload_n fx nd_FB_get_16 rfl 2 rfl ?_
        refine vv_callVv (C := nr_FB) (T := nt_FB) (N := 6) (ci := 0) fx (cc_FB_requireBound0 l Y M U o (fb_r M hn) j hnw hj hi hbd) nm_FB_69 ns_FB_requireBound nv_FB_requireBound nz_FB nc_FB_requireBound ni_FB_requireBound 0 rfl rfl ⟨rfl, rfl, by decide, by decide⟩ ⟨Nat.le_of_ble_eq_true rfl, Nat.le_of_ble_eq_true rfl⟩ (Nat.le_of_ble_eq_true rfl) nd_FB_get_17 rfl ?_
        refine vv_aload_n fx nd_FB_get_20 rfl 0 rfl ?_
        refine vv_get (ci := 0) (C := nr_FB) (T := nt_FB) (N := 6) fx nt_FB_in 0 rfl rfl 0 (by decide) nf_FB_10 rfl nd_FB_get_21 ?_
        refine vv_aload_n fx nd_FB_get_24 rfl 0 rfl ?_
        refine vv_get (ci := 0) (C := nr_FB) (T := nt_FB) (N := 6) fx nt_FB_in 0 rfl rfl 1 (by decide) nf_FB_16 rfl nd_FB_get_25 ?_
        refine vv_iload_n fx nd_FB_get_28 rfl 1 rfl ?_
        refine vv_iald fx 2 0 rfl rfl (hn7) (by decide) nd_FB_get_29 ?_
        refine vv_top (y := nI (fb_r M hn)) (hnr) ?_
        refine vv_iload_n fx nd_FB_get_30 rfl 2 rfl ?_
        refine vv_callVi (C := nr_RM) (T := nt_RM) (N := 4) (ci := 1) fx (cc_RM_valueOf l Y M U o (fb_r M hn) j hj (fb_wfp hnw) (fb_wfq hnw)) nm_FB_57 ns_RM_valueOf nv_RM_valueOf nz_RM nc_RM_valueOf ni_RM_valueOf 1 rfl rfl ⟨rfl, rfl, by decide, by decide⟩ ⟨Nat.le_of_ble_eq_true rfl, Nat.le_of_ble_eq_true rfl⟩ (Nat.le_of_ble_eq_true rfl) nd_FB_get_31 rfl ?_
        exact vv_ixret fx rfl nd_FB_get_34 (rfl) (rfl) (Nat.le_of_ble_eq_true rfl) (Nat.le_of_ble_eq_true rfl)
set_option maxRecDepth 4000 in
theorem cc_FB_next (l : Launch) (Y : sy_Y) (M U : me_M) (o : Int64) (h k : Int32) {N : Nat} (hst : l.stackTraces = false) (hI : rf_I M U N) : ct_IX l ny_FB_next nb_FB_next 4 (some .int) { frames := 7, cells := 1, slots := 6, locals := 103 } Y [.ref (Y.2.1 0), .int h, .int k] M U o ((fb_next M h k).1) ((fb_next M h k).2.1) ((fb_next M h k).2.2) U o 1 6 := by
  refine ct_bodyX (own := nr_FB) (L0 := [(0, .ref (Y.2.1 0)), (1, .int h), (2, .int k)]) (by decide) rfl (Nat.le_of_ble_eq_true rfl) rfl ?_
  intro p e s m args below meth c fx htab
  by_cases h5 : M 5 0 ≠ 0
  · rw [show fb_next M h k = (1, 0, M) from if_pos h5]
    refine vv_aload_n fx nd_FB_next_0 rfl 0 rfl ?_
    exact vv_callVxv (C := nr_FB) (T := nt_FB) (N := 6) (ci := 0) fx htab (cc_FB_requireUp1 l Y M U o hst h5) nm_FB_39 ns_FB_requireUp nv_FB_requireUp nz_FB nc_FB_requireUp ni_FB_requireUp 0 rfl rfl ⟨rfl, rfl, by decide, by decide⟩ ⟨(Nat.le_of_ble_eq_true rfl), (Nat.le_of_ble_eq_true rfl)⟩ (Nat.le_of_ble_eq_true rfl) nd_FB_next_1 rfl (fun _ => ⟨rfl, rfl, rfl, rfl⟩) (Nat.le_of_ble_eq_true rfl) (Nat.le_of_ble_eq_true rfl) (fun z => absurd z (by decide))
  · refine vv_aload_n fx nd_FB_next_0 rfl 0 rfl ?_
    refine vv_callVv (C := nr_FB) (T := nt_FB) (N := 6) (ci := 0) fx (cc_FB_requireUp0 l Y M U o (Classical.not_not.mp h5)) nm_FB_39 ns_FB_requireUp nv_FB_requireUp nz_FB nc_FB_requireUp ni_FB_requireUp 0 rfl rfl ⟨rfl, rfl, by decide, by decide⟩ ⟨Nat.le_of_ble_eq_true rfl, Nat.le_of_ble_eq_true rfl⟩ (Nat.le_of_ble_eq_true rfl) nd_FB_next_1 rfl ?_
    by_cases hm : fb_ism M h = false
    · rw [show fb_next M h k = (2, 0, M) from (if_neg h5).trans (if_pos hm)]
      refine vv_aload_n fx nd_FB_next_4 rfl 0 rfl ?_
      refine vv_iload_n fx nd_FB_next_5 rfl 1 rfl ?_
      exact vv_callVxv (C := nr_FB) (T := nt_FB) (N := 6) (ci := 0) fx htab (cc_FB_requireMap1 l Y M U o h hst hm) nm_FB_78 ns_FB_requireMap nv_FB_requireMap nz_FB nc_FB_requireMap ni_FB_requireMap 0 rfl rfl ⟨rfl, rfl, by decide, by decide⟩ ⟨(Nat.le_of_ble_eq_true rfl), (Nat.le_of_ble_eq_true rfl)⟩ (Nat.le_of_ble_eq_true rfl) nd_FB_next_6 rfl (fun _ => ⟨rfl, rfl, rfl, rfl⟩) (Nat.le_of_ble_eq_true rfl) (Nat.le_of_ble_eq_true rfl) (fun z => absurd z (by decide))
    · have hm : fb_ism M h = true := by cases q : fb_ism M h with | false => exact absurd q hm | true => rfl
      refine vv_aload_n fx nd_FB_next_4 rfl 0 rfl ?_
      refine vv_iload_n fx nd_FB_next_5 rfl 1 rfl ?_
      refine vv_callVv (C := nr_FB) (T := nt_FB) (N := 6) (ci := 0) fx (cc_FB_requireMap0 l Y M U o h hm) nm_FB_78 ns_FB_requireMap nv_FB_requireMap nz_FB nc_FB_requireMap ni_FB_requireMap 0 rfl rfl ⟨rfl, rfl, by decide, by decide⟩ ⟨Nat.le_of_ble_eq_true rfl, Nat.le_of_ble_eq_true rfl⟩ (Nat.le_of_ble_eq_true rfl) nd_FB_next_6 rfl ?_
      obtain ⟨hn, hn7, rfl, hne⟩ := fb_ism_nat hm
      obtain ⟨hnr, hnw⟩ := rf_rootw hI hn7 hne
      have ecl : (nI hn).toNatClampNeg = hn := nI_clamp (by omega)
      rw [show fb_next M (nI hn) k = (0, fb_nx (fb_bd M (fb_r M hn)) 64 k.toNatClampNeg, M) from ((if_neg h5).trans (if_neg (by rw [hm]; decide))).trans (by rw [ecl])]
      have hk31 : k.toNatClampNeg < 2 ^ 31 := by have := k.toInt_lt; show k.toInt.toNat < _; omega
      refine vv_iload_n fx nd_FB_next_9 rfl 2 rfl ?_
      refine vv_iconst (v := nI 0) fx nd_FB_next_10 (by decide) ?_
      refine vv_mmax fx nm_FB_82 (Nat.le_of_ble_eq_true rfl) (Nat.le_of_ble_eq_true rfl) (Nat.zero_le _) (Nat.zero_le _) nd_FB_next_11 ?_
      refine vv_top (y := nI k.toNatClampNeg) (fb_max k) ?_
      refine vv_istore_n (L' := [(0, .ref (Y.2.1 0)), (1, .int (nI hn)), (2, .int k), (3, .int (nI k.toNatClampNeg))]) fx nd_FB_next_14 rfl (by decide) [1, 2, 3, 0] rfl ?_
      have loop : ∀ f i, 64 ≤ i + f → i < 2 ^ 31 → fb_nx (fb_bd M (fb_r M hn)) f i = fb_nx (fb_bd M (fb_r M hn)) 64 k.toNatClampNeg → vv p l e { frames := 7, cells := 1, slots := 6, locals := 103 } s m args below meth c 0 0 (vx_MQ below (ct_Xi Y 0 (fb_nx (fb_bd M (fb_r M hn)) 64 k.toNatClampNeg) M U o) (ct_XC Y 0 M U o) args s 1 6 Y.2.2.2) 4 Y M U o 15 [(0, .ref (Y.2.1 0)), (1, .int (nI hn)), (2, .int k), (3, .int (nI i))] [] := by
        intro f
        induction f with
        | zero =>
          intro i hi h31 he
          refine vv_iload_n fx nd_FB_next_15 rfl 3 rfl ?_
          refine vv_bipush (v := nI 64) fx nd_FB_next_16 (by decide) ?_
          refine vv_icmp_ge (tgt := 46) fx nd_FB_next_18 (by decide) (fun _ => ?_) (fun hb => absurd (nI_le (by omega) h31) hb)
          refine vv_iconst (v := -1) fx nd_FB_next_46 (by decide) ?_
          exact vv_ixret fx rfl nd_FB_next_47 (rfl) (he) (Nat.le_of_ble_eq_true rfl) (Nat.le_of_ble_eq_true rfl)
        | succ f ih =>
          intro i hi h31 he
          have ex : fb_nx (fb_bd M (fb_r M hn)) (f + 1) i = if i < 64 then (if fb_bd M (fb_r M hn) i = true then nI i else fb_nx (fb_bd M (fb_r M hn)) f (i + 1)) else -1 := rfl
          refine vv_iload_n fx nd_FB_next_15 rfl 3 rfl ?_
          refine vv_bipush (v := nI 64) fx nd_FB_next_16 (by decide) ?_
          refine vv_icmp_ge (tgt := 46) fx nd_FB_next_18 (by decide) (fun hb18 => ?_) (fun hb18 => ?_)
          · have hge : ¬ i < 64 := fun q => absurd hb18 (nI_ge q (by decide))
            refine vv_iconst (v := -1) fx nd_FB_next_46 (by decide) ?_
            exact vv_ixret fx rfl nd_FB_next_47 (rfl) (by rw [← he, ex, if_neg hge]) (Nat.le_of_ble_eq_true rfl) (Nat.le_of_ble_eq_true rfl)
          · have hlt : i < 64 := by apply Classical.byContradiction; intro q; exact hb18 (nI_le (by omega) h31)
            refine vv_aload_n fx nd_FB_next_21 rfl 0 rfl ?_
            refine vv_get (ci := 0) (C := nr_FB) (T := nt_FB) (N := 6) fx nt_FB_in 0 rfl rfl 0 (by decide) nf_FB_10 rfl nd_FB_next_22 ?_
            refine vv_aload_n fx nd_FB_next_25 rfl 0 rfl ?_
            refine vv_get (ci := 0) (C := nr_FB) (T := nt_FB) (N := 6) fx nt_FB_in 0 rfl rfl 1 (by decide) nf_FB_16 rfl nd_FB_next_26 ?_
            refine vv_iload_n fx nd_FB_next_29 rfl 1 rfl ?_
            refine vv_iald fx 2 0 rfl rfl (hn7) (by decide) nd_FB_next_30 ?_
            refine vv_top (y := nI (fb_r M hn)) (hnr) ?_
            refine vv_iload_n fx nd_FB_next_31 rfl 3 rfl ?_
            refine vv_callVi (C := nr_RM) (T := nt_RM) (N := 4) (ci := 1) fx (cc_RM_binds l Y M U o (fb_r M hn) i hlt (fb_wfp hnw) (fb_wfq hnw)) nm_FB_53 ns_RM_binds nv_RM_binds nz_RM nc_RM_binds ni_RM_binds 1 rfl rfl ⟨rfl, rfl, by decide, by decide⟩ ⟨Nat.le_of_ble_eq_true rfl, Nat.le_of_ble_eq_true rfl⟩ (Nat.le_of_ble_eq_true rfl) nd_FB_next_32 rfl ?_
            refine vv_if_eq (tgt := 40) fx nd_FB_next_35 (by decide) (fun hb35 => ?_) (fun hb35 => ?_)
            · refine vv_iinc (v := nI (i + 1)) (L' := [(0, .ref (Y.2.1 0)), (1, .int (nI hn)), (2, .int k), (3, .int (nI (i + 1)))]) fx nd_FB_next_40 3 rfl (nI_1 i) (by decide) [1, 2, 3, 0] rfl ?_
              refine vv_goto (tgt := 15) fx nd_FB_next_43 (by decide) ?_
              exact ih (i + 1) (by omega) (by omega) (by rw [← he, ex, if_pos hlt, if_neg (by rw [b01_0 hb35]; decide)])
            · refine vv_iload_n fx nd_FB_next_38 rfl 3 rfl ?_
              exact vv_ixret fx rfl nd_FB_next_39 (rfl) (by rw [← he, ex, if_pos hlt, if_pos (b01_1 hb35)]) (Nat.le_of_ble_eq_true rfl) (Nat.le_of_ble_eq_true rfl)
      exact loop 64 k.toNatClampNeg (by omega) hk31 rfl
set_option maxRecDepth 4000 in
theorem cc_FB_count (l : Launch) (Y : sy_Y) (M U : me_M) (o : Int64) (h : Int32) {N : Nat} (hst : l.stackTraces = false) (hI : rf_I M U N) : ct_IX l ny_FB_count nb_FB_count 2 (some .int) { frames := 7, cells := 1, slots := 6, locals := 103 } Y [.ref (Y.2.1 0), .int h] M U o ((fb_count M h).1) ((fb_count M h).2.1) ((fb_count M h).2.2) U o 1 6 := by
  refine ct_bodyX (own := nr_FB) (L0 := [(0, .ref (Y.2.1 0)), (1, .int h)]) (by decide) rfl (Nat.le_of_ble_eq_true rfl) rfl ?_
  intro p e s m args below meth c fx htab
  by_cases h5 : M 5 0 ≠ 0
  · rw [show fb_count M h = (1, 0, M) from if_pos h5]
    refine vv_aload_n fx nd_FB_count_0 rfl 0 rfl ?_
    exact vv_callVxv (C := nr_FB) (T := nt_FB) (N := 6) (ci := 0) fx htab (cc_FB_requireUp1 l Y M U o hst h5) nm_FB_39 ns_FB_requireUp nv_FB_requireUp nz_FB nc_FB_requireUp ni_FB_requireUp 0 rfl rfl ⟨rfl, rfl, by decide, by decide⟩ ⟨(Nat.le_of_ble_eq_true rfl), (Nat.le_of_ble_eq_true rfl)⟩ (Nat.le_of_ble_eq_true rfl) nd_FB_count_1 rfl (fun _ => ⟨rfl, rfl, rfl, rfl⟩) (Nat.le_of_ble_eq_true rfl) (Nat.le_of_ble_eq_true rfl) (fun z => absurd z (by decide))
  · refine vv_aload_n fx nd_FB_count_0 rfl 0 rfl ?_
    refine vv_callVv (C := nr_FB) (T := nt_FB) (N := 6) (ci := 0) fx (cc_FB_requireUp0 l Y M U o (Classical.not_not.mp h5)) nm_FB_39 ns_FB_requireUp nv_FB_requireUp nz_FB nc_FB_requireUp ni_FB_requireUp 0 rfl rfl ⟨rfl, rfl, by decide, by decide⟩ ⟨Nat.le_of_ble_eq_true rfl, Nat.le_of_ble_eq_true rfl⟩ (Nat.le_of_ble_eq_true rfl) nd_FB_count_1 rfl ?_
    by_cases hm : fb_ism M h = false
    · rw [show fb_count M h = (2, 0, M) from (if_neg h5).trans (if_pos hm)]
      refine vv_aload_n fx nd_FB_count_4 rfl 0 rfl ?_
      refine vv_iload_n fx nd_FB_count_5 rfl 1 rfl ?_
      exact vv_callVxv (C := nr_FB) (T := nt_FB) (N := 6) (ci := 0) fx htab (cc_FB_requireMap1 l Y M U o h hst hm) nm_FB_78 ns_FB_requireMap nv_FB_requireMap nz_FB nc_FB_requireMap ni_FB_requireMap 0 rfl rfl ⟨rfl, rfl, by decide, by decide⟩ ⟨(Nat.le_of_ble_eq_true rfl), (Nat.le_of_ble_eq_true rfl)⟩ (Nat.le_of_ble_eq_true rfl) nd_FB_count_6 rfl (fun _ => ⟨rfl, rfl, rfl, rfl⟩) (Nat.le_of_ble_eq_true rfl) (Nat.le_of_ble_eq_true rfl) (fun z => absurd z (by decide))
    · have hm : fb_ism M h = true := by cases q : fb_ism M h with | false => exact absurd q hm | true => rfl
      refine vv_aload_n fx nd_FB_count_4 rfl 0 rfl ?_
      refine vv_iload_n fx nd_FB_count_5 rfl 1 rfl ?_
      refine vv_callVv (C := nr_FB) (T := nt_FB) (N := 6) (ci := 0) fx (cc_FB_requireMap0 l Y M U o h hm) nm_FB_78 ns_FB_requireMap nv_FB_requireMap nz_FB nc_FB_requireMap ni_FB_requireMap 0 rfl rfl ⟨rfl, rfl, by decide, by decide⟩ ⟨Nat.le_of_ble_eq_true rfl, Nat.le_of_ble_eq_true rfl⟩ (Nat.le_of_ble_eq_true rfl) nd_FB_count_6 rfl ?_
      obtain ⟨hn, hn7, rfl, hne⟩ := fb_ism_nat hm
      obtain ⟨hnr, hnw⟩ := rf_rootw hI hn7 hne
      have ecl : (nI hn).toNatClampNeg = hn := nI_clamp (by omega)
      rw [show fb_count M (nI hn) = (0, nI (fb_kb M (fb_r M hn)), M) from ((if_neg h5).trans (if_neg (by rw [hm]; decide))).trans (by rw [ecl])]
      refine vv_aload_n fx nd_FB_count_9 rfl 0 rfl ?_
      refine vv_aload_n fx nd_FB_count_10 rfl 0 rfl ?_
      refine vv_get (ci := 0) (C := nr_FB) (T := nt_FB) (N := 6) fx nt_FB_in 0 rfl rfl 1 (by decide) nf_FB_16 rfl nd_FB_count_11 ?_
      refine vv_iload_n fx nd_FB_count_14 rfl 1 rfl ?_
      refine vv_iald fx 2 0 rfl rfl (hn7) (by decide) nd_FB_count_15 ?_
      refine vv_top (y := nI (fb_r M hn)) (hnr) ?_
      refine vv_callVi (C := nr_FB) (T := nt_FB) (N := 6) (ci := 0) fx (cc_FB_keysBound l Y M U o (fb_r M hn) hnw) nm_FB_87 ns_FB_keysBound nv_FB_keysBound nz_FB nc_FB_keysBound ni_FB_keysBound 0 rfl rfl ⟨rfl, rfl, by decide, by decide⟩ ⟨Nat.le_of_ble_eq_true rfl, Nat.le_of_ble_eq_true rfl⟩ (Nat.le_of_ble_eq_true rfl) nd_FB_count_16 rfl ?_
      exact vv_ixret fx rfl nd_FB_count_19 (rfl) (rfl) (Nat.le_of_ble_eq_true rfl) (Nat.le_of_ble_eq_true rfl)
set_option maxRecDepth 4000 in
theorem cc_FB_nodes (l : Launch) (Y : sy_Y) (M U : me_M) (o : Int64) (h : Int32) {N : Nat} (hst : l.stackTraces = false) (hI : rf_I M U N) : ct_IX l ny_FB_nodes nb_FB_nodes 2 (some .int) { frames := 7, cells := 1, slots := 6, locals := 103 } Y [.ref (Y.2.1 0), .int h] M U o ((fb_nodes M h).1) ((fb_nodes M h).2.1) ((fb_nodes M h).2.2) U o 1 6 := by
  refine ct_bodyX (own := nr_FB) (L0 := [(0, .ref (Y.2.1 0)), (1, .int h)]) (by decide) rfl (Nat.le_of_ble_eq_true rfl) rfl ?_
  intro p e s m args below meth c fx htab
  by_cases h5 : M 5 0 ≠ 0
  · rw [show fb_nodes M h = (1, 0, M) from if_pos h5]
    refine vv_aload_n fx nd_FB_nodes_0 rfl 0 rfl ?_
    exact vv_callVxv (C := nr_FB) (T := nt_FB) (N := 6) (ci := 0) fx htab (cc_FB_requireUp1 l Y M U o hst h5) nm_FB_39 ns_FB_requireUp nv_FB_requireUp nz_FB nc_FB_requireUp ni_FB_requireUp 0 rfl rfl ⟨rfl, rfl, by decide, by decide⟩ ⟨(Nat.le_of_ble_eq_true rfl), (Nat.le_of_ble_eq_true rfl)⟩ (Nat.le_of_ble_eq_true rfl) nd_FB_nodes_1 rfl (fun _ => ⟨rfl, rfl, rfl, rfl⟩) (Nat.le_of_ble_eq_true rfl) (Nat.le_of_ble_eq_true rfl) (fun z => absurd z (by decide))
  · refine vv_aload_n fx nd_FB_nodes_0 rfl 0 rfl ?_
    refine vv_callVv (C := nr_FB) (T := nt_FB) (N := 6) (ci := 0) fx (cc_FB_requireUp0 l Y M U o (Classical.not_not.mp h5)) nm_FB_39 ns_FB_requireUp nv_FB_requireUp nz_FB nc_FB_requireUp ni_FB_requireUp 0 rfl rfl ⟨rfl, rfl, by decide, by decide⟩ ⟨Nat.le_of_ble_eq_true rfl, Nat.le_of_ble_eq_true rfl⟩ (Nat.le_of_ble_eq_true rfl) nd_FB_nodes_1 rfl ?_
    by_cases hm : fb_ism M h = false
    · rw [show fb_nodes M h = (2, 0, M) from (if_neg h5).trans (if_pos hm)]
      refine vv_aload_n fx nd_FB_nodes_4 rfl 0 rfl ?_
      refine vv_iload_n fx nd_FB_nodes_5 rfl 1 rfl ?_
      exact vv_callVxv (C := nr_FB) (T := nt_FB) (N := 6) (ci := 0) fx htab (cc_FB_requireMap1 l Y M U o h hst hm) nm_FB_78 ns_FB_requireMap nv_FB_requireMap nz_FB nc_FB_requireMap ni_FB_requireMap 0 rfl rfl ⟨rfl, rfl, by decide, by decide⟩ ⟨(Nat.le_of_ble_eq_true rfl), (Nat.le_of_ble_eq_true rfl)⟩ (Nat.le_of_ble_eq_true rfl) nd_FB_nodes_6 rfl (fun _ => ⟨rfl, rfl, rfl, rfl⟩) (Nat.le_of_ble_eq_true rfl) (Nat.le_of_ble_eq_true rfl) (fun z => absurd z (by decide))
    · have hm : fb_ism M h = true := by cases q : fb_ism M h with | false => exact absurd q hm | true => rfl
      refine vv_aload_n fx nd_FB_nodes_4 rfl 0 rfl ?_
      refine vv_iload_n fx nd_FB_nodes_5 rfl 1 rfl ?_
      refine vv_callVv (C := nr_FB) (T := nt_FB) (N := 6) (ci := 0) fx (cc_FB_requireMap0 l Y M U o h hm) nm_FB_78 ns_FB_requireMap nv_FB_requireMap nz_FB nc_FB_requireMap ni_FB_requireMap 0 rfl rfl ⟨rfl, rfl, by decide, by decide⟩ ⟨Nat.le_of_ble_eq_true rfl, Nat.le_of_ble_eq_true rfl⟩ (Nat.le_of_ble_eq_true rfl) nd_FB_nodes_6 rfl ?_
      obtain ⟨hn, hn7, rfl, hne⟩ := fb_ism_nat hm
      obtain ⟨hnr, hnw⟩ := rf_rootw hI hn7 hne
      have ecl : (nI hn).toNatClampNeg = hn := nI_clamp (by omega)
      rw [show fb_nodes M (nI hn) = (0, nI (fb_mark (fb_unmark M) (fb_r M hn)).1, (fb_mark (fb_unmark M) (fb_r M hn)).2) from ((if_neg h5).trans (if_neg (by rw [hm]; decide))).trans (by rw [ecl])]
      have w1 : fb_wf (fb_unmark M) (fb_r M hn) := fb_wf_of (fun x => fb_unmark_n M (by omega)) hnw
      refine vv_aload_n fx nd_FB_nodes_9 rfl 0 rfl ?_
      refine vv_get (ci := 0) (C := nr_FB) (T := nt_FB) (N := 6) fx nt_FB_in 0 rfl rfl 0 (by decide) nf_FB_10 rfl nd_FB_nodes_10 ?_
      refine vv_callVv (C := nr_RM) (T := nt_RM) (N := 4) (ci := 1) fx (cc_RM_unmarkAll l Y M U o) nm_FB_91 ns_RM_unmarkAll nv_RM_unmarkAll nz_RM nc_RM_unmarkAll ni_RM_unmarkAll 1 rfl rfl ⟨rfl, rfl, by decide, by decide⟩ ⟨Nat.le_of_ble_eq_true rfl, Nat.le_of_ble_eq_true rfl⟩ (Nat.le_of_ble_eq_true rfl) nd_FB_nodes_13 rfl ?_
      refine vv_aload_n fx nd_FB_nodes_16 rfl 0 rfl ?_
      refine vv_get (ci := 0) (C := nr_FB) (T := nt_FB) (N := 6) fx nt_FB_in 0 rfl rfl 0 (by decide) nf_FB_10 rfl nd_FB_nodes_17 ?_
      refine vv_aload_n fx nd_FB_nodes_20 rfl 0 rfl ?_
      refine vv_get (ci := 0) (C := nr_FB) (T := nt_FB) (N := 6) fx nt_FB_in 0 rfl rfl 1 (by decide) nf_FB_16 rfl nd_FB_nodes_21 ?_
      refine vv_iload_n fx nd_FB_nodes_24 rfl 1 rfl ?_
      refine vv_iald fx 2 0 rfl rfl (hn7) (by decide) nd_FB_nodes_25 ?_
      refine vv_top (y := nI (fb_r M hn)) (by rw [fb_unmark_n M (by decide)]; exact hnr) ?_
      refine vv_callVi (C := nr_RM) (T := nt_RM) (N := 4) (ci := 1) fx (cc_RM_mark l Y (fb_unmark M) U o (fb_r M hn) (fb_wfr w1) (fun k _ => fb_wfp w1) (fun k _ => (fb_pk_wf w1 k).2)) nm_FB_94 ns_RM_mark nv_RM_mark nz_RM nc_RM_mark ni_RM_mark 1 rfl rfl ⟨rfl, rfl, by decide, by decide⟩ ⟨Nat.le_of_ble_eq_true rfl, Nat.le_of_ble_eq_true rfl⟩ (Nat.le_of_ble_eq_true rfl) nd_FB_nodes_26 rfl ?_
      exact vv_ixret fx rfl nd_FB_nodes_29 (rfl) (rfl) (Nat.le_of_ble_eq_true rfl) (Nat.le_of_ble_eq_true rfl)
set_option maxRecDepth 4000 in
theorem cc_FB_shared (l : Launch) (Y : sy_Y) (M U : me_M) (o : Int64) (a b : Int32) {N : Nat} (hst : l.stackTraces = false) (hI : rf_I M U N) : ct_IX l ny_FB_shared nb_FB_shared 5 (some .int) { frames := 7, cells := 1, slots := 6, locals := 103 } Y [.ref (Y.2.1 0), .int a, .int b] M U o ((fb_shared M a b).1) ((fb_shared M a b).2.1) ((fb_shared M a b).2.2) U o 1 6 := by
  refine ct_bodyX (own := nr_FB) (L0 := [(0, .ref (Y.2.1 0)), (1, .int a), (2, .int b)]) (by decide) rfl (Nat.le_of_ble_eq_true rfl) rfl ?_
  intro p e s m args below meth c fx htab
  by_cases h5 : M 5 0 ≠ 0
  · rw [show fb_shared M a b = (1, 0, M) from if_pos h5]
    refine vv_aload_n fx nd_FB_shared_0 rfl 0 rfl ?_
    exact vv_callVxv (C := nr_FB) (T := nt_FB) (N := 6) (ci := 0) fx htab (cc_FB_requireUp1 l Y M U o hst h5) nm_FB_39 ns_FB_requireUp nv_FB_requireUp nz_FB nc_FB_requireUp ni_FB_requireUp 0 rfl rfl ⟨rfl, rfl, by decide, by decide⟩ ⟨(Nat.le_of_ble_eq_true rfl), (Nat.le_of_ble_eq_true rfl)⟩ (Nat.le_of_ble_eq_true rfl) nd_FB_shared_1 rfl (fun _ => ⟨rfl, rfl, rfl, rfl⟩) (Nat.le_of_ble_eq_true rfl) (Nat.le_of_ble_eq_true rfl) (fun z => absurd z (by decide))
  · refine vv_aload_n fx nd_FB_shared_0 rfl 0 rfl ?_
    refine vv_callVv (C := nr_FB) (T := nt_FB) (N := 6) (ci := 0) fx (cc_FB_requireUp0 l Y M U o (Classical.not_not.mp h5)) nm_FB_39 ns_FB_requireUp nv_FB_requireUp nz_FB nc_FB_requireUp ni_FB_requireUp 0 rfl rfl ⟨rfl, rfl, by decide, by decide⟩ ⟨Nat.le_of_ble_eq_true rfl, Nat.le_of_ble_eq_true rfl⟩ (Nat.le_of_ble_eq_true rfl) nd_FB_shared_1 rfl ?_
    by_cases ha : fb_ism M a = false
    · rw [show fb_shared M a b = (2, 0, M) from (if_neg h5).trans (if_pos (by rw [ha]; rfl))]
      refine vv_aload_n fx nd_FB_shared_4 rfl 0 rfl ?_
      refine vv_iload_n fx nd_FB_shared_5 rfl 1 rfl ?_
      exact vv_callVxv (C := nr_FB) (T := nt_FB) (N := 6) (ci := 0) fx htab (cc_FB_requireMap1 l Y M U o a hst ha) nm_FB_78 ns_FB_requireMap nv_FB_requireMap nz_FB nc_FB_requireMap ni_FB_requireMap 0 rfl rfl ⟨rfl, rfl, by decide, by decide⟩ ⟨(Nat.le_of_ble_eq_true rfl), (Nat.le_of_ble_eq_true rfl)⟩ (Nat.le_of_ble_eq_true rfl) nd_FB_shared_6 rfl (fun _ => ⟨rfl, rfl, rfl, rfl⟩) (Nat.le_of_ble_eq_true rfl) (Nat.le_of_ble_eq_true rfl) (fun z => absurd z (by decide))
    · have ha : fb_ism M a = true := by cases q : fb_ism M a with | false => exact absurd q ha | true => rfl
      refine vv_aload_n fx nd_FB_shared_4 rfl 0 rfl ?_
      refine vv_iload_n fx nd_FB_shared_5 rfl 1 rfl ?_
      refine vv_callVv (C := nr_FB) (T := nt_FB) (N := 6) (ci := 0) fx (cc_FB_requireMap0 l Y M U o a ha) nm_FB_78 ns_FB_requireMap nv_FB_requireMap nz_FB nc_FB_requireMap ni_FB_requireMap 0 rfl rfl ⟨rfl, rfl, by decide, by decide⟩ ⟨Nat.le_of_ble_eq_true rfl, Nat.le_of_ble_eq_true rfl⟩ (Nat.le_of_ble_eq_true rfl) nd_FB_shared_6 rfl ?_
      by_cases hb : fb_ism M b = false
      · rw [show fb_shared M a b = (2, 0, M) from (if_neg h5).trans (if_pos (by rw [hb, Bool.and_false]))]
        refine vv_aload_n fx nd_FB_shared_9 rfl 0 rfl ?_
        refine vv_iload_n fx nd_FB_shared_10 rfl 2 rfl ?_
        exact vv_callVxv (C := nr_FB) (T := nt_FB) (N := 6) (ci := 0) fx htab (cc_FB_requireMap1 l Y M U o b hst hb) nm_FB_78 ns_FB_requireMap nv_FB_requireMap nz_FB nc_FB_requireMap ni_FB_requireMap 0 rfl rfl ⟨rfl, rfl, by decide, by decide⟩ ⟨(Nat.le_of_ble_eq_true rfl), (Nat.le_of_ble_eq_true rfl)⟩ (Nat.le_of_ble_eq_true rfl) nd_FB_shared_11 rfl (fun _ => ⟨rfl, rfl, rfl, rfl⟩) (Nat.le_of_ble_eq_true rfl) (Nat.le_of_ble_eq_true rfl) (fun z => absurd z (by decide))
      · have hb : fb_ism M b = true := by cases q : fb_ism M b with | false => exact absurd q hb | true => rfl
        refine vv_aload_n fx nd_FB_shared_9 rfl 0 rfl ?_
        refine vv_iload_n fx nd_FB_shared_10 rfl 2 rfl ?_
        refine vv_callVv (C := nr_FB) (T := nt_FB) (N := 6) (ci := 0) fx (cc_FB_requireMap0 l Y M U o b hb) nm_FB_78 ns_FB_requireMap nv_FB_requireMap nz_FB nc_FB_requireMap ni_FB_requireMap 0 rfl rfl ⟨rfl, rfl, by decide, by decide⟩ ⟨Nat.le_of_ble_eq_true rfl, Nat.le_of_ble_eq_true rfl⟩ (Nat.le_of_ble_eq_true rfl) nd_FB_shared_11 rfl ?_
        obtain ⟨an, an7, rfl, ane⟩ := fb_ism_nat ha
        obtain ⟨anr, anw⟩ := rf_rootw hI an7 ane
        obtain ⟨bn, bn7, rfl, bne⟩ := fb_ism_nat hb
        obtain ⟨bnr, bnw⟩ := rf_rootw hI bn7 bne
        have ea : (nI an).toNatClampNeg = an := nI_clamp (by omega)
        have eb : (nI bn).toNatClampNeg = bn := nI_clamp (by omega)
        have hab : ¬ (fb_ism M (nI an) && fb_ism M (nI bn)) = false := by rw [ha, hb]; decide
        rw [show fb_shared M (nI an) (nI bn) = (0, nI (fb_mark (fb_unmark M) (fb_r M bn)).1 - nI (fb_mark (fb_mark (fb_unmark (fb_mark (fb_unmark M) (fb_r M bn)).2) (fb_r M an)).2 (fb_r M bn)).1, (fb_mark (fb_mark (fb_unmark (fb_mark (fb_unmark M) (fb_r M bn)).2) (fb_r M an)).2 (fb_r M bn)).2) from ((if_neg h5).trans (if_neg hab)).trans (by rw [ea, eb]; rfl)]
        have n1 : ∀ {x : Nat}, x ≠ 2 → (fb_unmark M) x = M x := fun h => fb_unmark_n M h
        have n2 : ∀ {x : Nat}, x ≠ 2 → (fb_mark (fb_unmark M) (fb_r M bn)).2 x = M x := fun h => (fb_mark_n _ _ h).trans (n1 h)
        have n3 : ∀ {x : Nat}, x ≠ 2 → (fb_unmark (fb_mark (fb_unmark M) (fb_r M bn)).2) x = M x := fun h => (fb_unmark_n _ h).trans (n2 h)
        have n4 : ∀ {x : Nat}, x ≠ 2 → (fb_mark (fb_unmark (fb_mark (fb_unmark M) (fb_r M bn)).2) (fb_r M an)).2 x = M x := fun h => (fb_mark_n _ _ h).trans (n3 h)
        have w1 : fb_wf (fb_unmark M) (fb_r M bn) := fb_wf_of (fun x => n1 (by omega)) bnw
        have w2 : fb_wf (fb_unmark (fb_mark (fb_unmark M) (fb_r M bn)).2) (fb_r M an) := fb_wf_of (fun x => n3 (by omega)) anw
        have w3 : fb_wf (fb_mark (fb_unmark (fb_mark (fb_unmark M) (fb_r M bn)).2) (fb_r M an)).2 (fb_r M bn) := fb_wf_of (fun x => n4 (by omega)) bnw
        refine vv_aload_n fx nd_FB_shared_14 rfl 0 rfl ?_
        refine vv_get (ci := 0) (C := nr_FB) (T := nt_FB) (N := 6) fx nt_FB_in 0 rfl rfl 0 (by decide) nf_FB_10 rfl nd_FB_shared_15 ?_
        refine vv_callVv (C := nr_RM) (T := nt_RM) (N := 4) (ci := 1) fx (cc_RM_unmarkAll l Y M U o) nm_FB_91 ns_RM_unmarkAll nv_RM_unmarkAll nz_RM nc_RM_unmarkAll ni_RM_unmarkAll 1 rfl rfl ⟨rfl, rfl, by decide, by decide⟩ ⟨Nat.le_of_ble_eq_true rfl, Nat.le_of_ble_eq_true rfl⟩ (Nat.le_of_ble_eq_true rfl) nd_FB_shared_18 rfl ?_
        refine vv_aload_n fx nd_FB_shared_21 rfl 0 rfl ?_
        refine vv_get (ci := 0) (C := nr_FB) (T := nt_FB) (N := 6) fx nt_FB_in 0 rfl rfl 0 (by decide) nf_FB_10 rfl nd_FB_shared_22 ?_
        refine vv_aload_n fx nd_FB_shared_25 rfl 0 rfl ?_
        refine vv_get (ci := 0) (C := nr_FB) (T := nt_FB) (N := 6) fx nt_FB_in 0 rfl rfl 1 (by decide) nf_FB_16 rfl nd_FB_shared_26 ?_
        refine vv_iload_n fx nd_FB_shared_29 rfl 2 rfl ?_
        refine vv_iald fx 2 0 rfl rfl (bn7) (by decide) nd_FB_shared_30 ?_
        refine vv_top (y := nI (fb_r M bn)) (by rw [n1 (by decide)]; exact bnr) ?_
        refine vv_callVi (C := nr_RM) (T := nt_RM) (N := 4) (ci := 1) fx (cc_RM_mark l Y ((fb_unmark M)) U o (fb_r M bn) (fb_wfr w1) (fun k _ => fb_wfp w1) (fun k _ => (fb_pk_wf w1 k).2)) nm_FB_94 ns_RM_mark nv_RM_mark nz_RM nc_RM_mark ni_RM_mark 1 rfl rfl ⟨rfl, rfl, by decide, by decide⟩ ⟨Nat.le_of_ble_eq_true rfl, Nat.le_of_ble_eq_true rfl⟩ (Nat.le_of_ble_eq_true rfl) nd_FB_shared_31 rfl ?_
        refine vv_istore_n (L' := [(0, .ref (Y.2.1 0)), (1, .int (nI an)), (2, .int (nI bn)), (3, .int (nI (fb_mark (fb_unmark M) (fb_r M bn)).1))]) fx nd_FB_shared_34 rfl (by decide) [1, 2, 3, 0] rfl ?_
        refine vv_aload_n fx nd_FB_shared_35 rfl 0 rfl ?_
        refine vv_get (ci := 0) (C := nr_FB) (T := nt_FB) (N := 6) fx nt_FB_in 0 rfl rfl 0 (by decide) nf_FB_10 rfl nd_FB_shared_36 ?_
        refine vv_callVv (C := nr_RM) (T := nt_RM) (N := 4) (ci := 1) fx (cc_RM_unmarkAll l Y (fb_mark (fb_unmark M) (fb_r M bn)).2 U o) nm_FB_91 ns_RM_unmarkAll nv_RM_unmarkAll nz_RM nc_RM_unmarkAll ni_RM_unmarkAll 1 rfl rfl ⟨rfl, rfl, by decide, by decide⟩ ⟨Nat.le_of_ble_eq_true rfl, Nat.le_of_ble_eq_true rfl⟩ (Nat.le_of_ble_eq_true rfl) nd_FB_shared_39 rfl ?_
        refine vv_aload_n fx nd_FB_shared_42 rfl 0 rfl ?_
        refine vv_get (ci := 0) (C := nr_FB) (T := nt_FB) (N := 6) fx nt_FB_in 0 rfl rfl 0 (by decide) nf_FB_10 rfl nd_FB_shared_43 ?_
        refine vv_aload_n fx nd_FB_shared_46 rfl 0 rfl ?_
        refine vv_get (ci := 0) (C := nr_FB) (T := nt_FB) (N := 6) fx nt_FB_in 0 rfl rfl 1 (by decide) nf_FB_16 rfl nd_FB_shared_47 ?_
        refine vv_iload_n fx nd_FB_shared_50 rfl 1 rfl ?_
        refine vv_iald fx 2 0 rfl rfl (an7) (by decide) nd_FB_shared_51 ?_
        refine vv_top (y := nI (fb_r M an)) (by rw [n3 (by decide)]; exact anr) ?_
        refine vv_callVi (C := nr_RM) (T := nt_RM) (N := 4) (ci := 1) fx (cc_RM_mark l Y ((fb_unmark (fb_mark (fb_unmark M) (fb_r M bn)).2)) U o (fb_r M an) (fb_wfr w2) (fun k _ => fb_wfp w2) (fun k _ => (fb_pk_wf w2 k).2)) nm_FB_94 ns_RM_mark nv_RM_mark nz_RM nc_RM_mark ni_RM_mark 1 rfl rfl ⟨rfl, rfl, by decide, by decide⟩ ⟨Nat.le_of_ble_eq_true rfl, Nat.le_of_ble_eq_true rfl⟩ (Nat.le_of_ble_eq_true rfl) nd_FB_shared_52 rfl ?_
        refine vv_pop fx nd_FB_shared_55 rfl ?_
        refine vv_aload_n fx nd_FB_shared_56 rfl 0 rfl ?_
        refine vv_get (ci := 0) (C := nr_FB) (T := nt_FB) (N := 6) fx nt_FB_in 0 rfl rfl 0 (by decide) nf_FB_10 rfl nd_FB_shared_57 ?_
        refine vv_aload_n fx nd_FB_shared_60 rfl 0 rfl ?_
        refine vv_get (ci := 0) (C := nr_FB) (T := nt_FB) (N := 6) fx nt_FB_in 0 rfl rfl 1 (by decide) nf_FB_16 rfl nd_FB_shared_61 ?_
        refine vv_iload_n fx nd_FB_shared_64 rfl 2 rfl ?_
        refine vv_iald fx 2 0 rfl rfl (bn7) (by decide) nd_FB_shared_65 ?_
        refine vv_top (y := nI (fb_r M bn)) (by rw [n4 (by decide)]; exact bnr) ?_
        refine vv_callVi (C := nr_RM) (T := nt_RM) (N := 4) (ci := 1) fx (cc_RM_mark l Y ((fb_mark (fb_unmark (fb_mark (fb_unmark M) (fb_r M bn)).2) (fb_r M an)).2) U o (fb_r M bn) (fb_wfr w3) (fun k _ => fb_wfp w3) (fun k _ => (fb_pk_wf w3 k).2)) nm_FB_94 ns_RM_mark nv_RM_mark nz_RM nc_RM_mark ni_RM_mark 1 rfl rfl ⟨rfl, rfl, by decide, by decide⟩ ⟨Nat.le_of_ble_eq_true rfl, Nat.le_of_ble_eq_true rfl⟩ (Nat.le_of_ble_eq_true rfl) nd_FB_shared_66 rfl ?_
        refine vv_istore (L' := [(0, .ref (Y.2.1 0)), (1, .int (nI an)), (2, .int (nI bn)), (3, .int (nI (fb_mark (fb_unmark M) (fb_r M bn)).1)), (4, .int (nI (fb_mark (fb_mark (fb_unmark (fb_mark (fb_unmark M) (fb_r M bn)).2) (fb_r M an)).2 (fb_r M bn)).1))]) fx nd_FB_shared_69 (by decide) [1, 2, 3, 4, 0] rfl ?_
        refine vv_iload_n fx nd_FB_shared_71 rfl 3 rfl ?_
        refine vv_iload fx nd_FB_shared_72 4 rfl ?_
        refine vv_isub fx nd_FB_shared_74 ?_
        exact vv_ixret fx rfl nd_FB_shared_75 (rfl) (rfl) (Nat.le_of_ble_eq_true rfl) (Nat.le_of_ble_eq_true rfl)
set_option maxRecDepth 4000 in
theorem cc_FB_differ (l : Launch) (Y : sy_Y) (M U : me_M) (o : Int64) (a b : Int32) {N : Nat} (hst : l.stackTraces = false) (hI : rf_I M U N) : ct_IX l ny_FB_differ nb_FB_differ 5 (some .int) { frames := 7, cells := 1, slots := 6, locals := 103 } Y [.ref (Y.2.1 0), .int a, .int b] M U o ((fb_differ M a b).1) ((fb_differ M a b).2.1) ((fb_differ M a b).2.2) U o 1 6 := by
  refine ct_bodyX (own := nr_FB) (L0 := [(0, .ref (Y.2.1 0)), (1, .int a), (2, .int b)]) (by decide) rfl (Nat.le_of_ble_eq_true rfl) rfl ?_
  intro p e s m args below meth c fx htab
  by_cases h5 : M 5 0 ≠ 0
  · rw [show fb_differ M a b = (1, 0, M) from if_pos h5]
    refine vv_aload_n fx nd_FB_differ_0 rfl 0 rfl ?_
    exact vv_callVxv (C := nr_FB) (T := nt_FB) (N := 6) (ci := 0) fx htab (cc_FB_requireUp1 l Y M U o hst h5) nm_FB_39 ns_FB_requireUp nv_FB_requireUp nz_FB nc_FB_requireUp ni_FB_requireUp 0 rfl rfl ⟨rfl, rfl, by decide, by decide⟩ ⟨(Nat.le_of_ble_eq_true rfl), (Nat.le_of_ble_eq_true rfl)⟩ (Nat.le_of_ble_eq_true rfl) nd_FB_differ_1 rfl (fun _ => ⟨rfl, rfl, rfl, rfl⟩) (Nat.le_of_ble_eq_true rfl) (Nat.le_of_ble_eq_true rfl) (fun z => absurd z (by decide))
  · refine vv_aload_n fx nd_FB_differ_0 rfl 0 rfl ?_
    refine vv_callVv (C := nr_FB) (T := nt_FB) (N := 6) (ci := 0) fx (cc_FB_requireUp0 l Y M U o (Classical.not_not.mp h5)) nm_FB_39 ns_FB_requireUp nv_FB_requireUp nz_FB nc_FB_requireUp ni_FB_requireUp 0 rfl rfl ⟨rfl, rfl, by decide, by decide⟩ ⟨Nat.le_of_ble_eq_true rfl, Nat.le_of_ble_eq_true rfl⟩ (Nat.le_of_ble_eq_true rfl) nd_FB_differ_1 rfl ?_
    by_cases ha : fb_ism M a = false
    · rw [show fb_differ M a b = (2, 0, M) from (if_neg h5).trans (if_pos (by rw [ha]; rfl))]
      refine vv_aload_n fx nd_FB_differ_4 rfl 0 rfl ?_
      refine vv_iload_n fx nd_FB_differ_5 rfl 1 rfl ?_
      exact vv_callVxv (C := nr_FB) (T := nt_FB) (N := 6) (ci := 0) fx htab (cc_FB_requireMap1 l Y M U o a hst ha) nm_FB_78 ns_FB_requireMap nv_FB_requireMap nz_FB nc_FB_requireMap ni_FB_requireMap 0 rfl rfl ⟨rfl, rfl, by decide, by decide⟩ ⟨(Nat.le_of_ble_eq_true rfl), (Nat.le_of_ble_eq_true rfl)⟩ (Nat.le_of_ble_eq_true rfl) nd_FB_differ_6 rfl (fun _ => ⟨rfl, rfl, rfl, rfl⟩) (Nat.le_of_ble_eq_true rfl) (Nat.le_of_ble_eq_true rfl) (fun z => absurd z (by decide))
    · have ha : fb_ism M a = true := by cases q : fb_ism M a with | false => exact absurd q ha | true => rfl
      refine vv_aload_n fx nd_FB_differ_4 rfl 0 rfl ?_
      refine vv_iload_n fx nd_FB_differ_5 rfl 1 rfl ?_
      refine vv_callVv (C := nr_FB) (T := nt_FB) (N := 6) (ci := 0) fx (cc_FB_requireMap0 l Y M U o a ha) nm_FB_78 ns_FB_requireMap nv_FB_requireMap nz_FB nc_FB_requireMap ni_FB_requireMap 0 rfl rfl ⟨rfl, rfl, by decide, by decide⟩ ⟨Nat.le_of_ble_eq_true rfl, Nat.le_of_ble_eq_true rfl⟩ (Nat.le_of_ble_eq_true rfl) nd_FB_differ_6 rfl ?_
      by_cases hb : fb_ism M b = false
      · rw [show fb_differ M a b = (2, 0, M) from (if_neg h5).trans (if_pos (by rw [hb, Bool.and_false]))]
        refine vv_aload_n fx nd_FB_differ_9 rfl 0 rfl ?_
        refine vv_iload_n fx nd_FB_differ_10 rfl 2 rfl ?_
        exact vv_callVxv (C := nr_FB) (T := nt_FB) (N := 6) (ci := 0) fx htab (cc_FB_requireMap1 l Y M U o b hst hb) nm_FB_78 ns_FB_requireMap nv_FB_requireMap nz_FB nc_FB_requireMap ni_FB_requireMap 0 rfl rfl ⟨rfl, rfl, by decide, by decide⟩ ⟨(Nat.le_of_ble_eq_true rfl), (Nat.le_of_ble_eq_true rfl)⟩ (Nat.le_of_ble_eq_true rfl) nd_FB_differ_11 rfl (fun _ => ⟨rfl, rfl, rfl, rfl⟩) (Nat.le_of_ble_eq_true rfl) (Nat.le_of_ble_eq_true rfl) (fun z => absurd z (by decide))
      · have hb : fb_ism M b = true := by cases q : fb_ism M b with | false => exact absurd q hb | true => rfl
        refine vv_aload_n fx nd_FB_differ_9 rfl 0 rfl ?_
        refine vv_iload_n fx nd_FB_differ_10 rfl 2 rfl ?_
        refine vv_callVv (C := nr_FB) (T := nt_FB) (N := 6) (ci := 0) fx (cc_FB_requireMap0 l Y M U o b hb) nm_FB_78 ns_FB_requireMap nv_FB_requireMap nz_FB nc_FB_requireMap ni_FB_requireMap 0 rfl rfl ⟨rfl, rfl, by decide, by decide⟩ ⟨Nat.le_of_ble_eq_true rfl, Nat.le_of_ble_eq_true rfl⟩ (Nat.le_of_ble_eq_true rfl) nd_FB_differ_11 rfl ?_
        obtain ⟨an, an7, rfl, ane⟩ := fb_ism_nat ha
        obtain ⟨anr, anw⟩ := rf_rootw hI an7 ane
        obtain ⟨bn, bn7, rfl, bne⟩ := fb_ism_nat hb
        obtain ⟨bnr, bnw⟩ := rf_rootw hI bn7 bne
        have ea : (nI an).toNatClampNeg = an := nI_clamp (by omega)
        have eb : (nI bn).toNatClampNeg = bn := nI_clamp (by omega)
        have hab : ¬ (fb_ism M (nI an) && fb_ism M (nI bn)) = false := by rw [ha, hb]; decide
        rw [show fb_differ M (nI an) (nI bn) = (0, nI (me_cn (fun k => !fb_alike M (fb_r M an) (fb_r M bn) k) 64), M) from ((if_neg h5).trans (if_neg hab)).trans (by rw [ea, eb])]
        refine vv_iconst (v := nI 0) fx nd_FB_differ_14 (by decide) ?_
        refine vv_istore_n (L' := [(0, .ref (Y.2.1 0)), (1, .int (nI an)), (2, .int (nI bn)), (3, .int (nI 0))]) fx nd_FB_differ_15 rfl (by decide) [1, 2, 3, 0] rfl ?_
        refine vv_iconst (v := nI 0) fx nd_FB_differ_16 (by decide) ?_
        refine vv_istore (L' := [(0, .ref (Y.2.1 0)), (1, .int (nI an)), (2, .int (nI bn)), (3, .int (nI 0)), (4, .int (nI 0))]) fx nd_FB_differ_17 (by decide) [1, 2, 3, 4, 0] rfl ?_
        have loop : ∀ d i, i + d = 64 → vv p l e { frames := 7, cells := 1, slots := 6, locals := 103 } s m args below meth c 0 0 (vx_MQ below (ct_Xi Y 0 (nI (me_cn (fun k => !fb_alike M (fb_r M an) (fb_r M bn) k) 64)) M U o) (ct_XC Y 0 M U o) args s 1 6 Y.2.2.2) 5 Y M U o 19 [(0, .ref (Y.2.1 0)), (1, .int (nI an)), (2, .int (nI bn)), (3, .int (nI (me_cn (fun k => !fb_alike M (fb_r M an) (fb_r M bn) k) i))), (4, .int (nI i))] [] := by
          intro d
          induction d with
          | zero =>
            intro i hi
            have e9 : i = 64 := by omega
            subst e9
            refine vv_iload fx nd_FB_differ_19 4 rfl ?_
            refine vv_bipush (v := nI 64) fx nd_FB_differ_21 (by decide) ?_
            refine vv_icmp_ge (tgt := 56) fx nd_FB_differ_23 (by decide) (fun _ => ?_) (fun hb => absurd (nI_le (by omega) (by omega)) hb)
            refine vv_iload_n fx nd_FB_differ_56 rfl 3 rfl ?_
            exact vv_ixret fx rfl nd_FB_differ_57 (rfl) (rfl) (Nat.le_of_ble_eq_true rfl) (Nat.le_of_ble_eq_true rfl)
          | succ d ih =>
            intro i hi
            have ev : me_cn (fun k => !fb_alike M (fb_r M an) (fb_r M bn) k) (i + 1) = me_cn (fun k => !fb_alike M (fb_r M an) (fb_r M bn) k) i + if (!fb_alike M (fb_r M an) (fb_r M bn) i) = true then 1 else 0 := rfl
            refine vv_iload fx nd_FB_differ_19 4 rfl ?_
            refine vv_bipush (v := nI 64) fx nd_FB_differ_21 (by decide) ?_
            refine vv_icmp_ge (tgt := 56) fx nd_FB_differ_23 (by decide) (fun hb => absurd hb (nI_ge (by omega) (by omega))) (fun _ => ?_)
            refine vv_aload_n fx nd_FB_differ_26 rfl 0 rfl ?_
            refine vv_aload_n fx nd_FB_differ_27 rfl 0 rfl ?_
            refine vv_get (ci := 0) (C := nr_FB) (T := nt_FB) (N := 6) fx nt_FB_in 0 rfl rfl 1 (by decide) nf_FB_16 rfl nd_FB_differ_28 ?_
            refine vv_iload_n fx nd_FB_differ_31 rfl 1 rfl ?_
            refine vv_iald fx 2 0 rfl rfl (an7) (by decide) nd_FB_differ_32 ?_
            refine vv_top (y := nI (fb_r M an)) (anr) ?_
            refine vv_aload_n fx nd_FB_differ_33 rfl 0 rfl ?_
            refine vv_get (ci := 0) (C := nr_FB) (T := nt_FB) (N := 6) fx nt_FB_in 0 rfl rfl 1 (by decide) nf_FB_16 rfl nd_FB_differ_34 ?_
            refine vv_iload_n fx nd_FB_differ_37 rfl 2 rfl ?_
            refine vv_iald fx 2 0 rfl rfl (bn7) (by decide) nd_FB_differ_38 ?_
            refine vv_top (y := nI (fb_r M bn)) (bnr) ?_
            refine vv_iload fx nd_FB_differ_39 4 rfl ?_
            refine vv_callVi (C := nr_FB) (T := nt_FB) (N := 6) (ci := 0) fx (cc_FB_isBoundAlike l Y M U o (fb_r M an) (fb_r M bn) i anw bnw (by omega)) nm_FB_97 ns_FB_isBoundAlike nv_FB_isBoundAlike nz_FB nc_FB_isBoundAlike ni_FB_isBoundAlike 0 rfl rfl ⟨rfl, rfl, by decide, by decide⟩ ⟨Nat.le_of_ble_eq_true rfl, Nat.le_of_ble_eq_true rfl⟩ (Nat.le_of_ble_eq_true rfl) nd_FB_differ_41 rfl ?_
            refine vv_if_ne (tgt := 50) fx nd_FB_differ_44 (by decide) (fun hb44 => ?_) (fun hb44 => ?_)
            · refine vv_iinc (v := nI (i + 1)) (L' := [(0, .ref (Y.2.1 0)), (1, .int (nI an)), (2, .int (nI bn)), (3, .int (nI (me_cn (fun k => !fb_alike M (fb_r M an) (fb_r M bn) k) i))), (4, .int (nI (i + 1)))]) fx nd_FB_differ_50 4 rfl (nI_1 i) (by decide) [1, 2, 3, 4, 0] rfl ?_
              refine vv_goto (tgt := 19) fx nd_FB_differ_53 (by decide) ?_
              rw [b01_1 hb44, if_neg (by decide), Nat.add_zero] at ev
              have h9 := ih (i + 1) (by omega)
              rw [ev] at h9
              exact h9
            · refine vv_iinc (v := nI (me_cn (fun k => !fb_alike M (fb_r M an) (fb_r M bn) k) i + 1)) (L' := [(0, .ref (Y.2.1 0)), (1, .int (nI an)), (2, .int (nI bn)), (3, .int (nI (me_cn (fun k => !fb_alike M (fb_r M an) (fb_r M bn) k) i + 1))), (4, .int (nI i))]) fx nd_FB_differ_47 3 rfl (nI_1 _) (by decide) [1, 2, 3, 0, 4] rfl ?_
              refine vv_iinc (v := nI (i + 1)) (L' := [(0, .ref (Y.2.1 0)), (1, .int (nI an)), (2, .int (nI bn)), (3, .int (nI (me_cn (fun k => !fb_alike M (fb_r M an) (fb_r M bn) k) i + 1))), (4, .int (nI (i + 1)))]) fx nd_FB_differ_50 4 rfl (nI_1 i) (by decide) [1, 2, 3, 4, 0] rfl ?_
              refine vv_goto (tgt := 19) fx nd_FB_differ_53 (by decide) ?_
              rw [b01_0 hb44, if_pos (by decide)] at ev
              have h9 := ih (i + 1) (by omega)
              rw [ev] at h9
              exact h9
        exact loop 64 0 (by omega)
set_option maxRecDepth 4000 in
theorem cc_FB_snapshot (l : Launch) (Y : sy_Y) (M U : me_M) (o : Int64) {N : Nat} (hst : l.stackTraces = false) (hI : rf_I M U N) : ct_IX l ny_FB_snapshot nb_FB_snapshot 2 (some .int) { frames := 7, cells := 1, slots := 6, locals := 102 } Y [.ref (Y.2.1 0)] M U o ((fb_snapshot M).1) ((fb_snapshot M).2.1) ((fb_snapshot M).2.2) U o 1 6 := by
  refine ct_bodyX (own := nr_FB) (L0 := [(0, .ref (Y.2.1 0))]) (by decide) rfl (Nat.le_of_ble_eq_true rfl) rfl ?_
  intro p e s m args below meth c fx htab
  by_cases h5 : M 5 0 ≠ 0
  · rw [show fb_snapshot M = (1, 0, M) from if_pos h5]
    refine vv_aload_n fx nd_FB_snapshot_0 rfl 0 rfl ?_
    exact vv_callVxv (C := nr_FB) (T := nt_FB) (N := 6) (ci := 0) fx htab (cc_FB_requireUp1 l Y M U o hst h5) nm_FB_39 ns_FB_requireUp nv_FB_requireUp nz_FB nc_FB_requireUp ni_FB_requireUp 0 rfl rfl ⟨rfl, rfl, by decide, by decide⟩ ⟨(Nat.le_of_ble_eq_true rfl), (Nat.le_of_ble_eq_true rfl)⟩ (Nat.le_of_ble_eq_true rfl) nd_FB_snapshot_1 rfl (fun _ => ⟨rfl, rfl, rfl, rfl⟩) (Nat.le_of_ble_eq_true rfl) (Nat.le_of_ble_eq_true rfl) (fun z => absurd z (by decide))
  · refine vv_aload_n fx nd_FB_snapshot_0 rfl 0 rfl ?_
    refine vv_callVv (C := nr_FB) (T := nt_FB) (N := 6) (ci := 0) fx (cc_FB_requireUp0 l Y M U o (Classical.not_not.mp h5)) nm_FB_39 ns_FB_requireUp nv_FB_requireUp nz_FB nc_FB_requireUp ni_FB_requireUp 0 rfl rfl ⟨rfl, rfl, by decide, by decide⟩ ⟨Nat.le_of_ble_eq_true rfl, Nat.le_of_ble_eq_true rfl⟩ (Nat.le_of_ble_eq_true rfl) nd_FB_snapshot_1 rfl ?_
    by_cases h7 : (fb_lu M 6 1) = 7
    · rw [show fb_snapshot M = (3, 0, M) from (if_neg h5).trans (if_pos h7)]
      refine vv_aload_n fx nd_FB_snapshot_4 rfl 0 rfl ?_
      refine vv_callVi (C := nr_FB) (T := nt_FB) (N := 6) (ci := 0) fx (cc_FB_leastUnusedSnapshot l Y M U o) nm_FB_101 ns_FB_leastUnusedSnapshot nv_FB_leastUnusedSnapshot nz_FB nc_FB_leastUnusedSnapshot ni_FB_leastUnusedSnapshot 0 rfl rfl ⟨rfl, rfl, by decide, by decide⟩ ⟨Nat.le_of_ble_eq_true rfl, Nat.le_of_ble_eq_true rfl⟩ (Nat.le_of_ble_eq_true rfl) nd_FB_snapshot_5 rfl ?_
      refine vv_top (y := -1) (if_pos h7) ?_
      refine vv_istore_n (L' := [(0, .ref (Y.2.1 0)), (1, .int (-1))]) fx nd_FB_snapshot_8 rfl (by decide) [1, 0] rfl ?_
      refine vv_iload_n fx nd_FB_snapshot_9 rfl 1 rfl ?_
      refine vv_iconst (v := -1) fx nd_FB_snapshot_10 (by decide) ?_
      refine vv_icmp_ne (tgt := 24) fx nd_FB_snapshot_11 (by decide) (fun hb => absurd (rfl) hb) (fun _ => ?_)
      exact vv_throw_3 (text := "all snapshots are there") fx htab hst (by decide +kernel) nd_FB_snapshot_14 nd_FB_snapshot_17 nd_FB_snapshot_18 nd_FB_snapshot_20 nd_FB_snapshot_23 (Nat.le_of_ble_eq_true rfl) (Nat.le_of_ble_eq_true rfl) (Nat.le_of_ble_eq_true rfl) (Nat.le_of_ble_eq_true rfl) (rfl) (rfl) (rfl) (rfl) (Nat.le_of_ble_eq_true rfl) (Nat.le_of_ble_eq_true rfl)
    · have hlu : (fb_lu M 6 1) < 7 := by have := rf_lu_in U 6 1 (by decide); rw [← rf_lu hI] at this; omega
      rw [show fb_snapshot M = (0, nI (fb_lu M 6 1), fb_freeze (me_up M 3 (fb_lu M 6 1) (M 3 0))) from (if_neg h5).trans (if_neg h7)]
      refine vv_aload_n fx nd_FB_snapshot_4 rfl 0 rfl ?_
      refine vv_callVi (C := nr_FB) (T := nt_FB) (N := 6) (ci := 0) fx (cc_FB_leastUnusedSnapshot l Y M U o) nm_FB_101 ns_FB_leastUnusedSnapshot nv_FB_leastUnusedSnapshot nz_FB nc_FB_leastUnusedSnapshot ni_FB_leastUnusedSnapshot 0 rfl rfl ⟨rfl, rfl, by decide, by decide⟩ ⟨Nat.le_of_ble_eq_true rfl, Nat.le_of_ble_eq_true rfl⟩ (Nat.le_of_ble_eq_true rfl) nd_FB_snapshot_5 rfl ?_
      refine vv_top (y := nI (fb_lu M 6 1)) (if_neg h7) ?_
      refine vv_istore_n (L' := [(0, .ref (Y.2.1 0)), (1, .int (nI (fb_lu M 6 1)))]) fx nd_FB_snapshot_8 rfl (by decide) [1, 0] rfl ?_
      refine vv_iload_n fx nd_FB_snapshot_9 rfl 1 rfl ?_
      refine vv_iconst (v := -1) fx nd_FB_snapshot_10 (by decide) ?_
      refine vv_icmp_ne (tgt := 24) fx nd_FB_snapshot_11 (by decide) (fun _ => ?_) (fun hb => absurd hb (rf_m1n _ (by omega)))
      refine vv_aload_n fx nd_FB_snapshot_24 rfl 0 rfl ?_
      refine vv_get (ci := 0) (C := nr_FB) (T := nt_FB) (N := 6) fx nt_FB_in 0 rfl rfl 1 (by decide) nf_FB_16 rfl nd_FB_snapshot_25 ?_
      refine vv_iload_n fx nd_FB_snapshot_28 rfl 1 rfl ?_
      refine vv_aload_n fx nd_FB_snapshot_29 rfl 0 rfl ?_
      refine vv_get (ci := 0) (C := nr_FB) (T := nt_FB) (N := 6) fx nt_FB_in 0 rfl rfl 1 (by decide) nf_FB_16 rfl nd_FB_snapshot_30 ?_
      refine vv_iconst (v := nI 0) fx nd_FB_snapshot_33 (by decide) ?_
      refine vv_iald fx 2 0 rfl rfl (by omega) (by decide) nd_FB_snapshot_34 ?_
      refine vv_iast (M' := me_up M 3 (fb_lu M 6 1) (M 3 0)) (U' := U) fx 2 0 rfl rfl (hlu) (by decide) nd_FB_snapshot_35 (sy_set3 _) ?_
      refine vv_aload_n fx nd_FB_snapshot_36 rfl 0 rfl ?_
      refine vv_get (ci := 0) (C := nr_FB) (T := nt_FB) (N := 6) fx nt_FB_in 0 rfl rfl 0 (by decide) nf_FB_10 rfl nd_FB_snapshot_37 ?_
      refine vv_callVv (C := nr_RM) (T := nt_RM) (N := 4) (ci := 1) fx (cc_RM_freeze l Y (me_up M 3 (fb_lu M 6 1) (M 3 0)) U o) nm_FB_110 ns_RM_freeze nv_RM_freeze nz_RM nc_RM_freeze ni_RM_freeze 1 rfl rfl ⟨rfl, rfl, by decide, by decide⟩ ⟨Nat.le_of_ble_eq_true rfl, Nat.le_of_ble_eq_true rfl⟩ (Nat.le_of_ble_eq_true rfl) nd_FB_snapshot_40 rfl ?_
      refine vv_iload_n fx nd_FB_snapshot_43 rfl 1 rfl ?_
      exact vv_ixret fx rfl nd_FB_snapshot_44 (rfl) (rfl) (Nat.le_of_ble_eq_true rfl) (Nat.le_of_ble_eq_true rfl)
theorem fb_na_up (M : me_M) (v : Int32) (j r k i : Nat) : fb_na (me_up M 3 j v) r k i = fb_na M r k i := by
  induction i with
  | zero => rfl
  | succ i ih =>
    show fb_ch (me_up M 3 j v) (fb_na (me_up M 3 j v) r k i) (fb_tn k i) = fb_ch M (fb_na M r k i) (fb_tn k i)
    rw [ih]
    unfold fb_ch
    rw [me_up_n _ _ _ (by omega)]
theorem fb_kb_up (M : me_M) (v : Int32) (j r : Nat) : fb_kb (me_up M 3 j v) r = fb_kb M r := by
  unfold fb_kb
  refine me_cn_congr fun i _ => ?_
  unfold fb_bd
  rw [fb_na_up, me_up_n _ _ _ (by decide)]
set_option maxRecDepth 4000 in
theorem cc_FB_rollback (l : Launch) (Y : sy_Y) (M U : me_M) (o : Int64) (h : Int32) {N : Nat} (hst : l.stackTraces = false) (hI : rf_I M U N) : ct_IX l ny_FB_rollback nb_FB_rollback 2 (some .int) { frames := 7, cells := 1, slots := 6, locals := 103 } Y [.ref (Y.2.1 0), .int h] M U o ((fb_rollback M h).1) ((fb_rollback M h).2.1) ((fb_rollback M h).2.2) U o 1 6 := by
  refine ct_bodyX (own := nr_FB) (L0 := [(0, .ref (Y.2.1 0)), (1, .int h)]) (by decide) rfl (Nat.le_of_ble_eq_true rfl) rfl ?_
  intro p e s m args below meth c fx htab
  by_cases h5 : M 5 0 ≠ 0
  · rw [show fb_rollback M h = (1, 0, M) from if_pos h5]
    refine vv_aload_n fx nd_FB_rollback_0 rfl 0 rfl ?_
    exact vv_callVxv (C := nr_FB) (T := nt_FB) (N := 6) (ci := 0) fx htab (cc_FB_requireUp1 l Y M U o hst h5) nm_FB_39 ns_FB_requireUp nv_FB_requireUp nz_FB nc_FB_requireUp ni_FB_requireUp 0 rfl rfl ⟨rfl, rfl, by decide, by decide⟩ ⟨(Nat.le_of_ble_eq_true rfl), (Nat.le_of_ble_eq_true rfl)⟩ (Nat.le_of_ble_eq_true rfl) nd_FB_rollback_1 rfl (fun _ => ⟨rfl, rfl, rfl, rfl⟩) (Nat.le_of_ble_eq_true rfl) (Nat.le_of_ble_eq_true rfl) (fun z => absurd z (by decide))
  · refine vv_aload_n fx nd_FB_rollback_0 rfl 0 rfl ?_
    refine vv_callVv (C := nr_FB) (T := nt_FB) (N := 6) (ci := 0) fx (cc_FB_requireUp0 l Y M U o (Classical.not_not.mp h5)) nm_FB_39 ns_FB_requireUp nv_FB_requireUp nz_FB nc_FB_requireUp ni_FB_requireUp 0 rfl rfl ⟨rfl, rfl, by decide, by decide⟩ ⟨Nat.le_of_ble_eq_true rfl, Nat.le_of_ble_eq_true rfl⟩ (Nat.le_of_ble_eq_true rfl) nd_FB_rollback_1 rfl ?_
    by_cases hm : fb_iss M h = false
    · rw [show fb_rollback M h = (2, 0, M) from (if_neg h5).trans (if_pos hm)]
      refine vv_aload_n fx nd_FB_rollback_4 rfl 0 rfl ?_
      refine vv_iload_n fx nd_FB_rollback_5 rfl 1 rfl ?_
      exact vv_callVxv (C := nr_FB) (T := nt_FB) (N := 6) (ci := 0) fx htab (cc_FB_requireSnapshot1 l Y M U o h hst hm) nm_FB_113 ns_FB_requireSnapshot nv_FB_requireSnapshot nz_FB nc_FB_requireSnapshot ni_FB_requireSnapshot 0 rfl rfl ⟨rfl, rfl, by decide, by decide⟩ ⟨(Nat.le_of_ble_eq_true rfl), (Nat.le_of_ble_eq_true rfl)⟩ (Nat.le_of_ble_eq_true rfl) nd_FB_rollback_6 rfl (fun _ => ⟨rfl, rfl, rfl, rfl⟩) (Nat.le_of_ble_eq_true rfl) (Nat.le_of_ble_eq_true rfl) (fun z => absurd z (by decide))
    · have hm : fb_iss M h = true := by cases q : fb_iss M h with | false => exact absurd q hm | true => rfl
      refine vv_aload_n fx nd_FB_rollback_4 rfl 0 rfl ?_
      refine vv_iload_n fx nd_FB_rollback_5 rfl 1 rfl ?_
      refine vv_callVv (C := nr_FB) (T := nt_FB) (N := 6) (ci := 0) fx (cc_FB_requireSnapshot0 l Y M U o h hm) nm_FB_113 ns_FB_requireSnapshot nv_FB_requireSnapshot nz_FB nc_FB_requireSnapshot ni_FB_requireSnapshot 0 rfl rfl ⟨rfl, rfl, by decide, by decide⟩ ⟨Nat.le_of_ble_eq_true rfl, Nat.le_of_ble_eq_true rfl⟩ (Nat.le_of_ble_eq_true rfl) nd_FB_rollback_6 rfl ?_
      have hmm : fb_ism M h = true := by rw [fb_iss_eq, Bool.and_eq_true] at hm; exact hm.2
      obtain ⟨hn, hn7, rfl, hne⟩ := fb_ism_nat hmm
      obtain ⟨hnr, hnw⟩ := rf_rootw hI hn7 hne
      have ecl : (nI hn).toNatClampNeg = hn := nI_clamp (by omega)
      rw [show fb_rollback M (nI hn) = (0, nI (fb_kb M (fb_r M hn)), me_up M 3 0 (M 3 hn)) from ((if_neg h5).trans (if_neg (by rw [hm]; decide))).trans (by rw [ecl])]
      have w1 : fb_wf (me_up M 3 0 (M 3 hn)) (fb_r M hn) := fb_wf_of (fun x => me_up_n _ _ _ (by omega)) hnw
      refine vv_aload_n fx nd_FB_rollback_9 rfl 0 rfl ?_
      refine vv_get (ci := 0) (C := nr_FB) (T := nt_FB) (N := 6) fx nt_FB_in 0 rfl rfl 1 (by decide) nf_FB_16 rfl nd_FB_rollback_10 ?_
      refine vv_iconst (v := nI 0) fx nd_FB_rollback_13 (by decide) ?_
      refine vv_aload_n fx nd_FB_rollback_14 rfl 0 rfl ?_
      refine vv_get (ci := 0) (C := nr_FB) (T := nt_FB) (N := 6) fx nt_FB_in 0 rfl rfl 1 (by decide) nf_FB_16 rfl nd_FB_rollback_15 ?_
      refine vv_iload_n fx nd_FB_rollback_18 rfl 1 rfl ?_
      refine vv_iald fx 2 0 rfl rfl (hn7) (by decide) nd_FB_rollback_19 ?_
      refine vv_iast (M' := me_up M 3 0 (M 3 hn)) (U' := U) fx 2 0 rfl rfl (by omega) (by decide) nd_FB_rollback_20 (sy_set3 _) ?_
      refine vv_aload_n fx nd_FB_rollback_21 rfl 0 rfl ?_
      refine vv_aload_n fx nd_FB_rollback_22 rfl 0 rfl ?_
      refine vv_get (ci := 0) (C := nr_FB) (T := nt_FB) (N := 6) fx nt_FB_in 0 rfl rfl 1 (by decide) nf_FB_16 rfl nd_FB_rollback_23 ?_
      refine vv_iconst (v := nI 0) fx nd_FB_rollback_26 (by decide) ?_
      refine vv_iald fx 2 0 rfl rfl (by omega) (by decide) nd_FB_rollback_27 ?_
      refine vv_top (y := nI (fb_r M hn)) ((me_up_s _ _ _ _).trans hnr) ?_
      refine vv_callVi (C := nr_FB) (T := nt_FB) (N := 6) (ci := 0) fx (cc_FB_keysBound l Y (me_up M 3 0 (M 3 hn)) U o (fb_r M hn) w1) nm_FB_87 ns_FB_keysBound nv_FB_keysBound nz_FB nc_FB_keysBound ni_FB_keysBound 0 rfl rfl ⟨rfl, rfl, by decide, by decide⟩ ⟨Nat.le_of_ble_eq_true rfl, Nat.le_of_ble_eq_true rfl⟩ (Nat.le_of_ble_eq_true rfl) nd_FB_rollback_28 rfl ?_
      exact vv_ixret fx rfl nd_FB_rollback_31 (rfl) (by rw [fb_kb_up]) (Nat.le_of_ble_eq_true rfl) (Nat.le_of_ble_eq_true rfl)
theorem fb_K_mr {M : me_M} (h : fb_K M) : fb_K (fb_mr M).2 := ⟨fb_KA_of (fun x => fb_mr_n M (by omega)) (fb_mr_n M (by decide)) h.1, fb_KA_of (fun x => fb_mr_n M (by omega)) (fb_mr_n M (by decide)) h.2⟩
theorem fb_K_m1 {M : me_M} (h : fb_K M) (j : Nat) : fb_K (me_up M 3 j (-1)) := by
  have hx : ∀ x, me_up M 3 j (-1) (6 + x) = M (6 + x) := fun x => me_up_n _ _ _ (by omega)
  refine ⟨fun i hi => ?_, fb_KA_of hx (me_up_n _ _ _ (by decide)) h.2⟩
  by_cases q : i = j
  · rw [q]; exact Or.inl (me_up_s _ _ _ _)
  · unfold fb_rt
    rw [me_up_j _ _ _ q]
    exact (h.1 i hi).imp id (fun z => ⟨z.1, fb_wf_of hx z.2⟩)
set_option maxRecDepth 4000 in
theorem cc_FB_drop (l : Launch) (Y : sy_Y) (M U : me_M) (o : Int64) (h : Int32) {N : Nat} (hst : l.stackTraces = false) (hI : rf_I M U N) : ct_IX l ny_FB_drop nb_FB_drop 3 (some .int) { frames := 7, cells := 1, slots := 6, locals := 114 } Y [.ref (Y.2.1 0), .int h] M U o ((fb_drop M h).1) ((fb_drop M h).2.1) ((fb_drop M h).2.2) U o 1 6 := by
  refine ct_bodyX (own := nr_FB) (L0 := [(0, .ref (Y.2.1 0)), (1, .int h)]) (by decide) rfl (Nat.le_of_ble_eq_true rfl) rfl ?_
  intro p e s m args below meth c fx htab
  by_cases h5 : M 5 0 ≠ 0
  · rw [show fb_drop M h = (1, 0, M) from if_pos h5]
    refine vv_aload_n fx nd_FB_drop_0 rfl 0 rfl ?_
    exact vv_callVxv (C := nr_FB) (T := nt_FB) (N := 6) (ci := 0) fx htab (cc_FB_requireUp1 l Y M U o hst h5) nm_FB_39 ns_FB_requireUp nv_FB_requireUp nz_FB nc_FB_requireUp ni_FB_requireUp 0 rfl rfl ⟨rfl, rfl, by decide, by decide⟩ ⟨(Nat.le_of_ble_eq_true rfl), (Nat.le_of_ble_eq_true rfl)⟩ (Nat.le_of_ble_eq_true rfl) nd_FB_drop_1 rfl (fun _ => ⟨rfl, rfl, rfl, rfl⟩) (Nat.le_of_ble_eq_true rfl) (Nat.le_of_ble_eq_true rfl) (fun z => absurd z (by decide))
  · refine vv_aload_n fx nd_FB_drop_0 rfl 0 rfl ?_
    refine vv_callVv (C := nr_FB) (T := nt_FB) (N := 6) (ci := 0) fx (cc_FB_requireUp0 l Y M U o (Classical.not_not.mp h5)) nm_FB_39 ns_FB_requireUp nv_FB_requireUp nz_FB nc_FB_requireUp ni_FB_requireUp 0 rfl rfl ⟨rfl, rfl, by decide, by decide⟩ ⟨Nat.le_of_ble_eq_true rfl, Nat.le_of_ble_eq_true rfl⟩ (Nat.le_of_ble_eq_true rfl) nd_FB_drop_1 rfl ?_
    by_cases hm : fb_iss M h = false
    · rw [show fb_drop M h = (2, 0, M) from (if_neg h5).trans (if_pos hm)]
      refine vv_aload_n fx nd_FB_drop_4 rfl 0 rfl ?_
      refine vv_iload_n fx nd_FB_drop_5 rfl 1 rfl ?_
      exact vv_callVxv (C := nr_FB) (T := nt_FB) (N := 6) (ci := 0) fx htab (cc_FB_requireSnapshot1 l Y M U o h hst hm) nm_FB_113 ns_FB_requireSnapshot nv_FB_requireSnapshot nz_FB nc_FB_requireSnapshot ni_FB_requireSnapshot 0 rfl rfl ⟨rfl, rfl, by decide, by decide⟩ ⟨(Nat.le_of_ble_eq_true rfl), (Nat.le_of_ble_eq_true rfl)⟩ (Nat.le_of_ble_eq_true rfl) nd_FB_drop_6 rfl (fun _ => ⟨rfl, rfl, rfl, rfl⟩) (Nat.le_of_ble_eq_true rfl) (Nat.le_of_ble_eq_true rfl) (fun z => absurd z (by decide))
    · have hm : fb_iss M h = true := by cases q : fb_iss M h with | false => exact absurd q hm | true => rfl
      refine vv_aload_n fx nd_FB_drop_4 rfl 0 rfl ?_
      refine vv_iload_n fx nd_FB_drop_5 rfl 1 rfl ?_
      refine vv_callVv (C := nr_FB) (T := nt_FB) (N := 6) (ci := 0) fx (cc_FB_requireSnapshot0 l Y M U o h hm) nm_FB_113 ns_FB_requireSnapshot nv_FB_requireSnapshot nz_FB nc_FB_requireSnapshot ni_FB_requireSnapshot 0 rfl rfl ⟨rfl, rfl, by decide, by decide⟩ ⟨Nat.le_of_ble_eq_true rfl, Nat.le_of_ble_eq_true rfl⟩ (Nat.le_of_ble_eq_true rfl) nd_FB_drop_6 rfl ?_
      have hmm : fb_ism M h = true := by rw [fb_iss_eq, Bool.and_eq_true] at hm; exact hm.2
      obtain ⟨hn, hn7, rfl, hne⟩ := fb_ism_nat hmm
      obtain ⟨hnr, hnw⟩ := rf_rootw hI hn7 hne
      have ecl : (nI hn).toNatClampNeg = hn := nI_clamp (by omega)
      rw [show fb_drop M (nI hn) = (0, fb_free (me_up (fb_mr M).2 3 hn (-1)) - fb_free M, (fb_mr (me_up (fb_mr M).2 3 hn (-1))).2) from ((if_neg h5).trans (if_neg (by rw [hm]; decide))).trans (by rw [ecl])]
      have hK1 : fb_K (me_up (fb_mr M).2 3 hn (-1)) := fb_K_m1 (fb_K_mr (rf_fbK hI)) hn
      refine vv_aload_n fx nd_FB_drop_9 rfl 0 rfl ?_
      refine vv_callVi (C := nr_FB) (T := nt_FB) (N := 6) (ci := 0) fx (cc_FB_freeNodes l Y M U o (rf_fbK hI)) nm_FB_116 ns_FB_freeNodes nv_FB_freeNodes nz_FB nc_FB_freeNodes ni_FB_freeNodes 0 rfl rfl ⟨rfl, rfl, by decide, by decide⟩ ⟨Nat.le_of_ble_eq_true rfl, Nat.le_of_ble_eq_true rfl⟩ (Nat.le_of_ble_eq_true rfl) nd_FB_drop_10 rfl ?_
      refine vv_istore_n (L' := [(0, .ref (Y.2.1 0)), (1, .int (nI hn)), (2, .int (fb_free M))]) fx nd_FB_drop_13 rfl (by decide) [1, 2, 0] rfl ?_
      refine vv_aload_n fx nd_FB_drop_14 rfl 0 rfl ?_
      refine vv_get (ci := 0) (C := nr_FB) (T := nt_FB) (N := 6) fx nt_FB_in 0 rfl rfl 1 (by decide) nf_FB_16 rfl nd_FB_drop_15 ?_
      refine vv_iload_n fx nd_FB_drop_18 rfl 1 rfl ?_
      refine vv_iconst (v := -1) fx nd_FB_drop_19 (by decide) ?_
      refine vv_iast (M' := me_up ((fb_mr M).2) 3 hn (-1)) (U' := U) fx 2 0 rfl rfl (hn7) (by decide) nd_FB_drop_20 (sy_set3 _) ?_
      refine vv_aload_n fx nd_FB_drop_21 rfl 0 rfl ?_
      refine vv_callVi (C := nr_FB) (T := nt_FB) (N := 6) (ci := 0) fx (cc_FB_freeNodes l Y (me_up (fb_mr M).2 3 hn (-1)) U o hK1) nm_FB_116 ns_FB_freeNodes nv_FB_freeNodes nz_FB nc_FB_freeNodes ni_FB_freeNodes 0 rfl rfl ⟨rfl, rfl, by decide, by decide⟩ ⟨Nat.le_of_ble_eq_true rfl, Nat.le_of_ble_eq_true rfl⟩ (Nat.le_of_ble_eq_true rfl) nd_FB_drop_22 rfl ?_
      refine vv_iload_n fx nd_FB_drop_25 rfl 2 rfl ?_
      refine vv_isub fx nd_FB_drop_26 ?_
      exact vv_ixret fx rfl nd_FB_drop_27 (rfl) (rfl) (Nat.le_of_ble_eq_true rfl) (Nat.le_of_ble_eq_true rfl)
set_option maxRecDepth 4000 in
theorem cc_FB_commit (l : Launch) (Y : sy_Y) (M U : me_M) (o : Int64) {N : Nat} (hst : l.stackTraces = false) (hI : rf_I M U N) : ct_IX l ny_FB_commit nb_FB_commit 2 (some .int) { frames := 7, cells := 1, slots := 6, locals := 114 } Y [.ref (Y.2.1 0)] M U o ((fb_commit M).1) ((fb_commit M).2.1) ((fb_commit M).2.2) U o 1 6 := by
  refine ct_bodyX (own := nr_FB) (L0 := [(0, .ref (Y.2.1 0))]) (by decide) rfl (Nat.le_of_ble_eq_true rfl) rfl ?_
  intro p e s m args below meth c fx htab
  by_cases h5 : M 5 0 ≠ 0
  · rw [show fb_commit M = (1, 0, M) from if_pos h5]
    refine vv_aload_n fx nd_FB_commit_0 rfl 0 rfl ?_
    exact vv_callVxv (C := nr_FB) (T := nt_FB) (N := 6) (ci := 0) fx htab (cc_FB_requireUp1 l Y M U o hst h5) nm_FB_39 ns_FB_requireUp nv_FB_requireUp nz_FB nc_FB_requireUp ni_FB_requireUp 0 rfl rfl ⟨rfl, rfl, by decide, by decide⟩ ⟨(Nat.le_of_ble_eq_true rfl), (Nat.le_of_ble_eq_true rfl)⟩ (Nat.le_of_ble_eq_true rfl) nd_FB_commit_1 rfl (fun _ => ⟨rfl, rfl, rfl, rfl⟩) (Nat.le_of_ble_eq_true rfl) (Nat.le_of_ble_eq_true rfl) (fun z => absurd z (by decide))
  · refine vv_aload_n fx nd_FB_commit_0 rfl 0 rfl ?_
    refine vv_callVv (C := nr_FB) (T := nt_FB) (N := 6) (ci := 0) fx (cc_FB_requireUp0 l Y M U o (Classical.not_not.mp h5)) nm_FB_39 ns_FB_requireUp nv_FB_requireUp nz_FB nc_FB_requireUp ni_FB_requireUp 0 rfl rfl ⟨rfl, rfl, by decide, by decide⟩ ⟨Nat.le_of_ble_eq_true rfl, Nat.le_of_ble_eq_true rfl⟩ (Nat.le_of_ble_eq_true rfl) nd_FB_commit_1 rfl ?_
    refine vv_aload_n fx nd_FB_commit_4 rfl 0 rfl ?_
    refine vv_callVi (C := nr_FB) (T := nt_FB) (N := 6) (ci := 0) fx (cc_FB_writesNeeded l Y M U o (rf_fbK hI)) nm_FB_119 ns_FB_writesNeeded nv_FB_writesNeeded nz_FB nc_FB_writesNeeded ni_FB_writesNeeded 0 rfl rfl ⟨rfl, rfl, by decide, by decide⟩ ⟨Nat.le_of_ble_eq_true rfl, Nat.le_of_ble_eq_true rfl⟩ (Nat.le_of_ble_eq_true rfl) nd_FB_commit_5 rfl ?_
    have n5 : ∀ j, (fb_mr M).2 5 j = M 5 j := fun j => congrFun (fb_mr_n M (by decide)) j
    refine vv_istore_n (L' := [(0, .ref (Y.2.1 0)), (1, .int (fb_due0 M))]) fx nd_FB_commit_8 rfl (by decide) [1, 0] rfl ?_
    refine vv_aload_n fx nd_FB_commit_9 rfl 0 rfl ?_
    refine vv_iload_n fx nd_FB_commit_10 rfl 1 rfl ?_
    refine vv_callVi (C := nr_FB) (T := nt_FB) (N := 6) (ci := 0) fx (cc_FB_failsWithin l Y (fb_mr M).2 U o (fb_due0 M)) nm_FB_122 ns_FB_failsWithin nv_FB_failsWithin nz_FB nc_FB_failsWithin ni_FB_failsWithin 0 rfl rfl ⟨rfl, rfl, by decide, by decide⟩ ⟨Nat.le_of_ble_eq_true rfl, Nat.le_of_ble_eq_true rfl⟩ (Nat.le_of_ble_eq_true rfl) nd_FB_commit_11 rfl ?_
    have n3 : (fb_mr M).2 3 = M 3 := fb_mr_n M (by decide)
    have n4 : (fb_mr M).2 4 = M 4 := fb_mr_n M (by decide)
    refine vv_if_eq (tgt := 31) fx nd_FB_commit_14 (by decide) (fun hb14 => ?_) (fun hb14 => ?_)
    · have hf : ¬ (M 5 2 ≠ -1 ∧ M 5 2 < (fb_due0 M)) := by have h9 := b01_0 hb14; rw [n5] at h9; intro q; rw [decide_eq_true q.1, decide_eq_true q.2] at h9; exact absurd h9 (by decide)
      refine vv_aload_n fx nd_FB_commit_31 rfl 0 rfl ?_
      refine vv_get (ci := 0) (C := nr_FB) (T := nt_FB) (N := 6) fx nt_FB_in 0 rfl rfl 5 (by decide) nf_FB_23 rfl nd_FB_commit_32 ?_
      refine vv_iconst (v := -1) fx nd_FB_commit_35 (by decide) ?_
      refine vv_icmp_eq (tgt := 49) fx nd_FB_commit_36 (by decide) (fun hb36 => ?_) (fun hb36 => ?_)
      · rw [n5] at hb36
        have q1 : ((fb_mr M).2) 5 1 = M 5 1 := n5 1
        have q3 : (me_up ((fb_mr M).2) 5 1 (M 5 1 + (fb_due0 M))) 3 = M 3 := by rw [me_up_n _ _ _ (by decide)]; exact n3
        have q4 : (me_up ((fb_mr M).2) 5 1 (M 5 1 + (fb_due0 M))) 4 = M 4 := by rw [me_up_n _ _ _ (by decide)]; exact n4
        rw [show fb_commit M = (0, (fb_due0 M), fb_freeze (me_set (me_up ((fb_mr M).2) 5 1 (M 5 1 + (fb_due0 M))) 4 (va_cpy (M 3) (M 4) 0 0 7))) from (if_neg h5).trans ((if_neg hf).trans (by rw [if_neg (fun q => q hb36)]))]
        refine vv_aload_n fx nd_FB_commit_49 rfl 0 rfl ?_
        refine vv_dup fx nd_FB_commit_50 rfl ?_
        refine vv_get (ci := 0) (C := nr_FB) (T := nt_FB) (N := 6) fx nt_FB_in 0 rfl rfl 4 (by decide) nf_FB_133 rfl nd_FB_commit_51 ?_
        refine vv_iload_n fx nd_FB_commit_54 rfl 1 rfl ?_
        refine vv_iadd fx nd_FB_commit_55 ?_
        refine vv_top (y := M 5 1 + (fb_due0 M)) (by rw [q1]) ?_
        refine vv_put (M' := me_up ((fb_mr M).2) 5 1 (M 5 1 + (fb_due0 M))) (U' := U) (ci := 0) (C := nr_FB) (T := nt_FB) (N := 6) (ty := .int) fx nt_FB_in nt_FB_ty nt_FB_ok nt_FB_nm 0 rfl rfl 4 (by decide) nf_FB_133 rfl (by decide +kernel) rfl rfl (Nat.le_of_ble_eq_true rfl) nd_FB_commit_56 (sy_put1 _) ?_
        refine vv_aload_n fx nd_FB_commit_59 rfl 0 rfl ?_
        refine vv_get (ci := 0) (C := nr_FB) (T := nt_FB) (N := 6) fx nt_FB_in 0 rfl rfl 1 (by decide) nf_FB_16 rfl nd_FB_commit_60 ?_
        refine vv_iconst (v := nI 0) fx nd_FB_commit_63 (by decide) ?_
        refine vv_aload_n fx nd_FB_commit_64 rfl 0 rfl ?_
        refine vv_get (ci := 0) (C := nr_FB) (T := nt_FB) (N := 6) fx nt_FB_in 0 rfl rfl 2 (by decide) nf_FB_20 rfl nd_FB_commit_65 ?_
        refine vv_iconst (v := nI 0) fx nd_FB_commit_68 (by decide) ?_
        refine vv_aload_n fx nd_FB_commit_69 rfl 0 rfl ?_
        refine vv_get (ci := 0) (C := nr_FB) (T := nt_FB) (N := 6) fx nt_FB_in 0 rfl rfl 1 (by decide) nf_FB_16 rfl nd_FB_commit_70 ?_
        refine vv_alen fx 2 0 rfl rfl nd_FB_commit_73 ?_
        refine vv_copy (M' := me_set (me_up ((fb_mr M).2) 5 1 (M 5 1 + (fb_due0 M))) 4 (va_cpy ((me_up ((fb_mr M).2) 5 1 (M 5 1 + (fb_due0 M))) 3) ((me_up ((fb_mr M).2) 5 1 (M 5 1 + (fb_due0 M))) 4) 0 0 7)) (U' := U) (n := 7) fx nm_FB_33 2 3 (rfl) (rfl) (by decide) (by decide) (by decide) (by decide) (Nat.le_of_ble_eq_true rfl) nd_FB_commit_74 (sy_set4 _) ?_
        refine vv_mem (M9 := me_set (me_up ((fb_mr M).2) 5 1 (M 5 1 + (fb_due0 M))) 4 (va_cpy (M 3) (M 4) 0 0 7)) (U9 := U) (by rw [q3, q4]) (rfl) ?_
        refine vv_aload_n fx nd_FB_commit_77 rfl 0 rfl ?_
        refine vv_get (ci := 0) (C := nr_FB) (T := nt_FB) (N := 6) fx nt_FB_in 0 rfl rfl 0 (by decide) nf_FB_10 rfl nd_FB_commit_78 ?_
        refine vv_callVv (C := nr_RM) (T := nt_RM) (N := 4) (ci := 1) fx (cc_RM_freeze l Y (me_set (me_up ((fb_mr M).2) 5 1 (M 5 1 + (fb_due0 M))) 4 (va_cpy (M 3) (M 4) 0 0 7)) U o) nm_FB_110 ns_RM_freeze nv_RM_freeze nz_RM nc_RM_freeze ni_RM_freeze 1 rfl rfl ⟨rfl, rfl, by decide, by decide⟩ ⟨Nat.le_of_ble_eq_true rfl, Nat.le_of_ble_eq_true rfl⟩ (Nat.le_of_ble_eq_true rfl) nd_FB_commit_81 rfl ?_
        refine vv_iload_n fx nd_FB_commit_84 rfl 1 rfl ?_
        exact vv_ixret fx rfl nd_FB_commit_85 (rfl) (rfl) (Nat.le_of_ble_eq_true rfl) (Nat.le_of_ble_eq_true rfl)
      · rw [n5] at hb36
        refine vv_aload_n fx nd_FB_commit_39 rfl 0 rfl ?_
        refine vv_dup fx nd_FB_commit_40 rfl ?_
        refine vv_get (ci := 0) (C := nr_FB) (T := nt_FB) (N := 6) fx nt_FB_in 0 rfl rfl 5 (by decide) nf_FB_23 rfl nd_FB_commit_41 ?_
        refine vv_iload_n fx nd_FB_commit_44 rfl 1 rfl ?_
        refine vv_isub fx nd_FB_commit_45 ?_
        refine vv_top (y := M 5 2 - (fb_due0 M)) (by rw [n5]) ?_
        refine vv_put (M' := me_up ((fb_mr M).2) 5 2 (M 5 2 - (fb_due0 M))) (U' := U) (ci := 0) (C := nr_FB) (T := nt_FB) (N := 6) (ty := .int) fx nt_FB_in nt_FB_ty nt_FB_ok nt_FB_nm 0 rfl rfl 5 (by decide) nf_FB_23 rfl (by decide +kernel) rfl rfl (Nat.le_of_ble_eq_true rfl) nd_FB_commit_46 (sy_put2 _) ?_
        have q1 : (me_up (fb_mr M).2 5 2 (M 5 2 - (fb_due0 M))) 5 1 = M 5 1 := by rw [me_up_j _ _ _ (by decide)]; exact n5 1
        have q3 : (me_up (me_up (fb_mr M).2 5 2 (M 5 2 - (fb_due0 M))) 5 1 (M 5 1 + (fb_due0 M))) 3 = M 3 := by rw [me_up_n _ _ _ (by decide), me_up_n _ _ _ (by decide)]; exact n3
        have q4 : (me_up (me_up (fb_mr M).2 5 2 (M 5 2 - (fb_due0 M))) 5 1 (M 5 1 + (fb_due0 M))) 4 = M 4 := by rw [me_up_n _ _ _ (by decide), me_up_n _ _ _ (by decide)]; exact n4
        rw [show fb_commit M = (0, (fb_due0 M), fb_freeze (me_set (me_up (me_up (fb_mr M).2 5 2 (M 5 2 - (fb_due0 M))) 5 1 (M 5 1 + (fb_due0 M))) 4 (va_cpy (M 3) (M 4) 0 0 7))) from (if_neg h5).trans ((if_neg hf).trans (by rw [if_pos hb36]))]
        refine vv_aload_n fx nd_FB_commit_49 rfl 0 rfl ?_
        refine vv_dup fx nd_FB_commit_50 rfl ?_
        refine vv_get (ci := 0) (C := nr_FB) (T := nt_FB) (N := 6) fx nt_FB_in 0 rfl rfl 4 (by decide) nf_FB_133 rfl nd_FB_commit_51 ?_
        refine vv_iload_n fx nd_FB_commit_54 rfl 1 rfl ?_
        refine vv_iadd fx nd_FB_commit_55 ?_
        refine vv_top (y := M 5 1 + (fb_due0 M)) (by rw [q1]) ?_
        refine vv_put (M' := me_up (me_up ((fb_mr M).2) 5 2 (M 5 2 - (fb_due0 M))) 5 1 (M 5 1 + (fb_due0 M))) (U' := U) (ci := 0) (C := nr_FB) (T := nt_FB) (N := 6) (ty := .int) fx nt_FB_in nt_FB_ty nt_FB_ok nt_FB_nm 0 rfl rfl 4 (by decide) nf_FB_133 rfl (by decide +kernel) rfl rfl (Nat.le_of_ble_eq_true rfl) nd_FB_commit_56 (sy_put1 _) ?_
        refine vv_aload_n fx nd_FB_commit_59 rfl 0 rfl ?_
        refine vv_get (ci := 0) (C := nr_FB) (T := nt_FB) (N := 6) fx nt_FB_in 0 rfl rfl 1 (by decide) nf_FB_16 rfl nd_FB_commit_60 ?_
        refine vv_iconst (v := nI 0) fx nd_FB_commit_63 (by decide) ?_
        refine vv_aload_n fx nd_FB_commit_64 rfl 0 rfl ?_
        refine vv_get (ci := 0) (C := nr_FB) (T := nt_FB) (N := 6) fx nt_FB_in 0 rfl rfl 2 (by decide) nf_FB_20 rfl nd_FB_commit_65 ?_
        refine vv_iconst (v := nI 0) fx nd_FB_commit_68 (by decide) ?_
        refine vv_aload_n fx nd_FB_commit_69 rfl 0 rfl ?_
        refine vv_get (ci := 0) (C := nr_FB) (T := nt_FB) (N := 6) fx nt_FB_in 0 rfl rfl 1 (by decide) nf_FB_16 rfl nd_FB_commit_70 ?_
        refine vv_alen fx 2 0 rfl rfl nd_FB_commit_73 ?_
        refine vv_copy (M' := me_set (me_up (me_up (fb_mr M).2 5 2 (M 5 2 - (fb_due0 M))) 5 1 (M 5 1 + (fb_due0 M))) 4 (va_cpy ((me_up (me_up (fb_mr M).2 5 2 (M 5 2 - (fb_due0 M))) 5 1 (M 5 1 + (fb_due0 M))) 3) ((me_up (me_up (fb_mr M).2 5 2 (M 5 2 - (fb_due0 M))) 5 1 (M 5 1 + (fb_due0 M))) 4) 0 0 7)) (U' := U) (n := 7) fx nm_FB_33 2 3 (rfl) (rfl) (by decide) (by decide) (by decide) (by decide) (Nat.le_of_ble_eq_true rfl) nd_FB_commit_74 (sy_set4 _) ?_
        refine vv_mem (M9 := me_set (me_up (me_up (fb_mr M).2 5 2 (M 5 2 - (fb_due0 M))) 5 1 (M 5 1 + (fb_due0 M))) 4 (va_cpy (M 3) (M 4) 0 0 7)) (U9 := U) (by rw [q3, q4]) (rfl) ?_
        refine vv_aload_n fx nd_FB_commit_77 rfl 0 rfl ?_
        refine vv_get (ci := 0) (C := nr_FB) (T := nt_FB) (N := 6) fx nt_FB_in 0 rfl rfl 0 (by decide) nf_FB_10 rfl nd_FB_commit_78 ?_
        refine vv_callVv (C := nr_RM) (T := nt_RM) (N := 4) (ci := 1) fx (cc_RM_freeze l Y (me_set (me_up (me_up (fb_mr M).2 5 2 (M 5 2 - (fb_due0 M))) 5 1 (M 5 1 + (fb_due0 M))) 4 (va_cpy (M 3) (M 4) 0 0 7)) U o) nm_FB_110 ns_RM_freeze nv_RM_freeze nz_RM nc_RM_freeze ni_RM_freeze 1 rfl rfl ⟨rfl, rfl, by decide, by decide⟩ ⟨Nat.le_of_ble_eq_true rfl, Nat.le_of_ble_eq_true rfl⟩ (Nat.le_of_ble_eq_true rfl) nd_FB_commit_81 rfl ?_
        refine vv_iload_n fx nd_FB_commit_84 rfl 1 rfl ?_
        exact vv_ixret fx rfl nd_FB_commit_85 (rfl) (rfl) (Nat.le_of_ble_eq_true rfl) (Nat.le_of_ble_eq_true rfl)
    · have hf : M 5 2 ≠ -1 ∧ M 5 2 < (fb_due0 M) := by have h9 := b01_1 hb14; rw [n5, Bool.and_eq_true] at h9; exact ⟨of_decide_eq_true h9.1, of_decide_eq_true h9.2⟩
      rw [show fb_commit M = (1, 0, me_up (me_up (me_up (fb_mr M).2 5 1 (M 5 1 + M 5 2)) 5 2 (-1)) 5 0 1) from (if_neg h5).trans (if_pos hf)]
      refine vv_aload_n fx nd_FB_commit_17 rfl 0 rfl ?_
      refine vv_callVv (C := nr_FB) (T := nt_FB) (N := 6) (ci := 0) fx (cc_FB_losePower l Y (fb_mr M).2 U o) nm_FB_125 ns_FB_losePower nv_FB_losePower nz_FB nc_FB_losePower ni_FB_losePower 0 rfl rfl ⟨rfl, rfl, by decide, by decide⟩ ⟨Nat.le_of_ble_eq_true rfl, Nat.le_of_ble_eq_true rfl⟩ (Nat.le_of_ble_eq_true rfl) nd_FB_commit_18 rfl ?_
      refine vv_mem (M9 := me_up (me_up (me_up (fb_mr M).2 5 1 (M 5 1 + M 5 2)) 5 2 (-1)) 5 0 1) (U9 := U) (by rw [n5, n5]) (rfl) ?_
      exact vv_throw_1 (text := "the power failed") fx htab hst (by decide +kernel) nd_FB_commit_21 nd_FB_commit_24 nd_FB_commit_25 nd_FB_commit_27 nd_FB_commit_30 (Nat.le_of_ble_eq_true rfl) (Nat.le_of_ble_eq_true rfl) (Nat.le_of_ble_eq_true rfl) (Nat.le_of_ble_eq_true rfl) (rfl) (rfl) (rfl) (rfl) (Nat.le_of_ble_eq_true rfl) (Nat.le_of_ble_eq_true rfl)
set_option maxRecDepth 4000 in
theorem cc_FB_free (l : Launch) (Y : sy_Y) (M U : me_M) (o : Int64) {N : Nat} (hst : l.stackTraces = false) (hI : rf_I M U N) : ct_IX l ny_FB_free nb_FB_free 1 (some .int) { frames := 7, cells := 1, slots := 6, locals := 114 } Y [.ref (Y.2.1 0)] M U o ((fb_freeC M).1) ((fb_freeC M).2.1) ((fb_freeC M).2.2) U o 1 6 := by
  refine ct_bodyX (own := nr_FB) (L0 := [(0, .ref (Y.2.1 0))]) (by decide) rfl (Nat.le_of_ble_eq_true rfl) rfl ?_
  intro p e s m args below meth c fx htab
  by_cases h5 : M 5 0 ≠ 0
  · rw [show fb_freeC M = (1, 0, M) from if_pos h5]
    refine vv_aload_n fx nd_FB_free_0 rfl 0 rfl ?_
    exact vv_callVxv (C := nr_FB) (T := nt_FB) (N := 6) (ci := 0) fx htab (cc_FB_requireUp1 l Y M U o hst h5) nm_FB_39 ns_FB_requireUp nv_FB_requireUp nz_FB nc_FB_requireUp ni_FB_requireUp 0 rfl rfl ⟨rfl, rfl, by decide, by decide⟩ ⟨(Nat.le_of_ble_eq_true rfl), (Nat.le_of_ble_eq_true rfl)⟩ (Nat.le_of_ble_eq_true rfl) nd_FB_free_1 rfl (fun _ => ⟨rfl, rfl, rfl, rfl⟩) (Nat.le_of_ble_eq_true rfl) (Nat.le_of_ble_eq_true rfl) (fun z => absurd z (by decide))
  · refine vv_aload_n fx nd_FB_free_0 rfl 0 rfl ?_
    refine vv_callVv (C := nr_FB) (T := nt_FB) (N := 6) (ci := 0) fx (cc_FB_requireUp0 l Y M U o (Classical.not_not.mp h5)) nm_FB_39 ns_FB_requireUp nv_FB_requireUp nz_FB nc_FB_requireUp ni_FB_requireUp 0 rfl rfl ⟨rfl, rfl, by decide, by decide⟩ ⟨Nat.le_of_ble_eq_true rfl, Nat.le_of_ble_eq_true rfl⟩ (Nat.le_of_ble_eq_true rfl) nd_FB_free_1 rfl ?_
    rw [show fb_freeC M = (0, fb_free M, (fb_mr M).2) from if_neg h5]
    refine vv_aload_n fx nd_FB_free_4 rfl 0 rfl ?_
    refine vv_callVi (C := nr_FB) (T := nt_FB) (N := 6) (ci := 0) fx (cc_FB_freeNodes l Y M U o (rf_fbK hI)) nm_FB_116 ns_FB_freeNodes nv_FB_freeNodes nz_FB nc_FB_freeNodes ni_FB_freeNodes 0 rfl rfl ⟨rfl, rfl, by decide, by decide⟩ ⟨Nat.le_of_ble_eq_true rfl, Nat.le_of_ble_eq_true rfl⟩ (Nat.le_of_ble_eq_true rfl) nd_FB_free_5 rfl ?_
    exact vv_ixret fx rfl nd_FB_free_8 (rfl) (rfl) (Nat.le_of_ble_eq_true rfl) (Nat.le_of_ble_eq_true rfl)
set_option maxRecDepth 4000 in
theorem cc_FB_due (l : Launch) (Y : sy_Y) (M U : me_M) (o : Int64) {N : Nat} (hst : l.stackTraces = false) (hI : rf_I M U N) : ct_IX l ny_FB_due nb_FB_due 1 (some .int) { frames := 7, cells := 1, slots := 6, locals := 114 } Y [.ref (Y.2.1 0)] M U o ((fb_due M).1) ((fb_due M).2.1) ((fb_due M).2.2) U o 1 6 := by
  refine ct_bodyX (own := nr_FB) (L0 := [(0, .ref (Y.2.1 0))]) (by decide) rfl (Nat.le_of_ble_eq_true rfl) rfl ?_
  intro p e s m args below meth c fx htab
  by_cases h5 : M 5 0 ≠ 0
  · rw [show fb_due M = (1, 0, M) from if_pos h5]
    refine vv_aload_n fx nd_FB_due_0 rfl 0 rfl ?_
    exact vv_callVxv (C := nr_FB) (T := nt_FB) (N := 6) (ci := 0) fx htab (cc_FB_requireUp1 l Y M U o hst h5) nm_FB_39 ns_FB_requireUp nv_FB_requireUp nz_FB nc_FB_requireUp ni_FB_requireUp 0 rfl rfl ⟨rfl, rfl, by decide, by decide⟩ ⟨(Nat.le_of_ble_eq_true rfl), (Nat.le_of_ble_eq_true rfl)⟩ (Nat.le_of_ble_eq_true rfl) nd_FB_due_1 rfl (fun _ => ⟨rfl, rfl, rfl, rfl⟩) (Nat.le_of_ble_eq_true rfl) (Nat.le_of_ble_eq_true rfl) (fun z => absurd z (by decide))
  · refine vv_aload_n fx nd_FB_due_0 rfl 0 rfl ?_
    refine vv_callVv (C := nr_FB) (T := nt_FB) (N := 6) (ci := 0) fx (cc_FB_requireUp0 l Y M U o (Classical.not_not.mp h5)) nm_FB_39 ns_FB_requireUp nv_FB_requireUp nz_FB nc_FB_requireUp ni_FB_requireUp 0 rfl rfl ⟨rfl, rfl, by decide, by decide⟩ ⟨Nat.le_of_ble_eq_true rfl, Nat.le_of_ble_eq_true rfl⟩ (Nat.le_of_ble_eq_true rfl) nd_FB_due_1 rfl ?_
    rw [show fb_due M = (0, fb_due0 M, (fb_mr M).2) from if_neg h5]
    refine vv_aload_n fx nd_FB_due_4 rfl 0 rfl ?_
    refine vv_callVi (C := nr_FB) (T := nt_FB) (N := 6) (ci := 0) fx (cc_FB_writesNeeded l Y M U o (rf_fbK hI)) nm_FB_119 ns_FB_writesNeeded nv_FB_writesNeeded nz_FB nc_FB_writesNeeded ni_FB_writesNeeded 0 rfl rfl ⟨rfl, rfl, by decide, by decide⟩ ⟨Nat.le_of_ble_eq_true rfl, Nat.le_of_ble_eq_true rfl⟩ (Nat.le_of_ble_eq_true rfl) nd_FB_due_5 rfl ?_
    exact vv_ixret fx rfl nd_FB_due_8 (rfl) (rfl) (Nat.le_of_ble_eq_true rfl) (Nat.le_of_ble_eq_true rfl)
