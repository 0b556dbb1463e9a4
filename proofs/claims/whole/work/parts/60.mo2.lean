/-! the calls of the reference (printed by mo2.py) -/
set_option maxRecDepth 4000 in
theorem cc_MO_put (l : Launch) (Y : sy_Y) (M U : me_M) (o : Int64) (k v : Int32) (hB : mo_B U) : ct_I l ny_MO_put nb_MO_put 5 (some .int) { frames := 4, cells := 0, slots := 0, locals := 96 } Y [.ref (Y.2.1 8), .int k, .int v] M U o ((mo_put U k v).1) M ((mo_put U k v).2) o := by
  refine ct_body (own := nr_MO) (L0 := [(0, .ref (Y.2.1 8)), (1, .int k), (2, .int v)]) (by decide) rfl (Nat.le_of_ble_eq_true rfl) rfl ?_
  intro p e s m args below meth c fx
  by_cases h5 : U 4 5 ≠ 0
  · rw [show mo_put U k v = (0, me_up U 4 0 1) from if_pos h5]
    refine vv_aload_n fx nd_MO_put_0 rfl 0 rfl ?_
    refine vv_aload_n fx nd_MO_put_1 rfl 0 rfl ?_
    refine vv_get (ci := 2) (C := nr_MO) (T := nt_MO) (N := 10) fx nt_MO_in 8 rfl rfl 9 (by decide) nf_MO_66 rfl nd_MO_put_2 ?_
    refine vv_if_eq (tgt := 12) fx nd_MO_put_5 (by decide) (fun hb => absurd hb (h5)) (fun _ => ?_)
    refine vv_iconst (v := nI 1) fx nd_MO_put_8 (by decide) ?_
    refine vv_goto (tgt := 24) fx nd_MO_put_9 (by decide) ?_
    refine vv_put (U' := me_up U 4 0 (nI 1)) (M' := M) (ci := 2) (C := nr_MO) (T := nt_MO) (N := 10) (ty := .int) fx nt_MO_in nt_MO_ty nt_MO_ok nt_MO_nm 8 rfl rfl 0 (by decide) nf_MO_27 rfl (by decide +kernel) rfl rfl (Nat.le_of_ble_eq_true rfl) nd_MO_put_24 (sy_putU 0 _ rfl) ?_
    refine vv_mem (M9 := M) (U9 := me_up U 4 0 1) (rfl) (rfl) ?_
    refine vv_aload_n fx nd_MO_put_27 rfl 0 rfl ?_
    refine vv_get (ci := 2) (C := nr_MO) (T := nt_MO) (N := 10) fx nt_MO_in 8 rfl rfl 0 (by decide) nf_MO_27 rfl nd_MO_put_28 ?_
    refine vv_top (y := 1) (me_up_s _ _ _ _) ?_
    refine vv_if_le (tgt := 36) fx nd_MO_put_31 (by decide) (fun hb => absurd hb (by decide)) (fun _ => ?_)
    refine vv_iconst (v := nI 0) fx nd_MO_put_34 (by decide) ?_
    exact vv_iret fx rfl nd_MO_put_35 (rfl)
  · have h5z : U 4 5 = 0 := Classical.not_not.mp h5
    refine vv_aload_n fx nd_MO_put_0 rfl 0 rfl ?_
    refine vv_aload_n fx nd_MO_put_1 rfl 0 rfl ?_
    refine vv_get (ci := 2) (C := nr_MO) (T := nt_MO) (N := 10) fx nt_MO_in 8 rfl rfl 9 (by decide) nf_MO_66 rfl nd_MO_put_2 ?_
    refine vv_if_eq (tgt := 12) fx nd_MO_put_5 (by decide) (fun _ => ?_) (fun hb => absurd (h5z) hb)
    refine vv_iload_n fx nd_MO_put_12 rfl 1 rfl ?_
    refine vv_callSi fx (cc_MO_isKey l Y M U o k) nm_MO_70 ns_MO_isKey nz_MO nc_MO_isKey ni_MO_isKey ⟨rfl, rfl, by decide, by decide⟩ ⟨Nat.le_of_ble_eq_true rfl, Nat.le_of_ble_eq_true rfl⟩ (Nat.le_of_ble_eq_true rfl) nd_MO_put_13 rfl ?_
    refine vv_if_ne (tgt := 23) fx nd_MO_put_16 (by decide) (fun hb16 => ?_) (fun hb16 => ?_)
    · have hi := b01_1 hb16
      obtain ⟨j, hj, rfl⟩ := fb_isk_nat hi
      rw [show mo_put U (nI j) v = mo_put2 (me_up U 4 0 0) j v from ((if_neg h5).trans (if_neg (by rw [hi]; decide))).trans (by rw [nI_clamp (by omega)])]
      refine vv_iconst (v := nI 0) fx nd_MO_put_23 (by decide) ?_
      refine vv_put (U' := me_up U 4 0 (nI 0)) (M' := M) (ci := 2) (C := nr_MO) (T := nt_MO) (N := 10) (ty := .int) fx nt_MO_in nt_MO_ty nt_MO_ok nt_MO_nm 8 rfl rfl 0 (by decide) nf_MO_27 rfl (by decide +kernel) rfl rfl (Nat.le_of_ble_eq_true rfl) nd_MO_put_24 (sy_putU 0 _ rfl) ?_
      refine vv_mem (M9 := M) (U9 := me_up U 4 0 0) (rfl) (rfl) ?_
      refine vv_aload_n fx nd_MO_put_27 rfl 0 rfl ?_
      refine vv_get (ci := 2) (C := nr_MO) (T := nt_MO) (N := 10) fx nt_MO_in 8 rfl rfl 0 (by decide) nf_MO_27 rfl nd_MO_put_28 ?_
      refine vv_top (y := 0) (me_up_s _ _ _ _) ?_
      refine vv_if_le (tgt := 36) fx nd_MO_put_31 (by decide) (fun _ => ?_) (fun hb => absurd (by decide) hb)
      have hV : mo_B (me_up U 4 0 0) := mo_B_code hB 0
      generalize (me_up U 4 0 0) = V at hV ⊢
      refine vv_aload_n fx nd_MO_put_36 rfl 0 rfl ?_
      refine vv_get (ci := 2) (C := nr_MO) (T := nt_MO) (N := 10) fx nt_MO_in 8 rfl rfl 2 (by decide) nf_MO_13 rfl nd_MO_put_37 ?_
      refine vv_iload_n fx nd_MO_put_40 rfl 1 rfl ?_
      refine vv_zald fx 10 1 rfl rfl (by omega) (by decide) nd_MO_put_41 ?_
      refine vv_istore_n (L' := [(0, .ref (Y.2.1 8)), (1, .int (nI j)), (2, .int v), (3, .int (V 1 j))]) fx nd_MO_put_42 rfl (by decide) [1, 2, 3, 0] rfl ?_
      refine vv_iload_n fx nd_MO_put_43 rfl 3 rfl ?_
      refine vv_if_eq (tgt := 59) fx nd_MO_put_44 (by decide) (fun hb44 => ?_) (fun hb44 => ?_)
      · have em : (if V 1 j ≠ 0 then (0 : Int32) else 1) = 1 := if_neg (fun z => z hb44)
        refine vv_iload_n fx nd_MO_put_59 rfl 3 rfl ?_
        refine vv_if_eq (tgt := 67) fx nd_MO_put_60 (by decide) (fun _ => ?_) (fun hb => absurd (hb44) hb)
        refine vv_iconst (v := 1) fx nd_MO_put_67 (by decide) ?_
        refine vv_istore (L' := [(0, .ref (Y.2.1 8)), (1, .int (nI j)), (2, .int v), (3, .int (V 1 j)), (4, .int 1)]) fx nd_MO_put_68 (by decide) [1, 2, 3, 4, 0] rfl ?_
        refine vv_aload_n fx nd_MO_put_70 rfl 0 rfl ?_
        refine vv_iload_n fx nd_MO_put_71 rfl 1 rfl ?_
        refine vv_iload fx nd_MO_put_72 4 rfl ?_
        refine vv_callVi (C := nr_MO) (T := nt_MO) (N := 10) (ci := 2) fx (cc_MO_fits l Y M V o j 1 hj) nm_MO_73 ns_MO_fits nv_MO_fits nz_MO nc_MO_fits ni_MO_fits 8 rfl rfl ⟨rfl, rfl, by decide, by decide⟩ ⟨Nat.le_of_ble_eq_true rfl, Nat.le_of_ble_eq_true rfl⟩ (Nat.le_of_ble_eq_true rfl) nd_MO_put_74 rfl ?_
        refine vv_if_ne (tgt := 87) fx nd_MO_put_77 (by decide) (fun hb77 => ?_) (fun hb77 => ?_)
        · have hfit := of_decide_eq_true (b01_1 hb77)
          rw [show mo_put2 V j v = (0, me_up (mo_change V j 1) 2 j v) by unfold mo_put2; rw [if_neg (fun z => z.1 hb44), em, if_pos hfit, if_neg (fun z => z hb44)]]
          refine vv_aload_n fx nd_MO_put_87 rfl 0 rfl ?_
          refine vv_iload_n fx nd_MO_put_88 rfl 1 rfl ?_
          refine vv_iload fx nd_MO_put_89 4 rfl ?_
          refine vv_callVv (C := nr_MO) (T := nt_MO) (N := 10) (ci := 2) fx (cc_MO_change l Y M V o j 1 hj) nm_MO_77 ns_MO_change nv_MO_change nz_MO nc_MO_change ni_MO_change 8 rfl rfl ⟨rfl, rfl, by decide, by decide⟩ ⟨Nat.le_of_ble_eq_true rfl, Nat.le_of_ble_eq_true rfl⟩ (Nat.le_of_ble_eq_true rfl) nd_MO_put_91 rfl ?_
          refine vv_aload_n fx nd_MO_put_94 rfl 0 rfl ?_
          refine vv_get (ci := 2) (C := nr_MO) (T := nt_MO) (N := 10) fx nt_MO_in 8 rfl rfl 3 (by decide) nf_MO_16 rfl nd_MO_put_95 ?_
          refine vv_iload_n fx nd_MO_put_98 rfl 1 rfl ?_
          refine vv_iload_n fx nd_MO_put_99 rfl 2 rfl ?_
          refine vv_iast (U' := me_up (mo_change V j 1) 2 j v) (M' := M) fx 11 0 rfl rfl (by omega) (by decide) nd_MO_put_100 (sy_setU2 _) ?_
          refine vv_iload_n fx nd_MO_put_101 rfl 3 rfl ?_
          refine vv_if_eq (tgt := 109) fx nd_MO_put_102 (by decide) (fun _ => ?_) (fun hb => absurd (hb44) hb)
          refine vv_iconst (v := nI 0) fx nd_MO_put_109 (by decide) ?_
          exact vv_iret fx rfl nd_MO_put_110 (rfl)
        · have hfit := of_decide_eq_false (b01_0 hb77)
          rw [show mo_put2 V j v = (0, me_up V 4 0 3) by unfold mo_put2; rw [if_neg (fun z => z.1 hb44), em, if_neg hfit]]
          refine vv_aload_n fx nd_MO_put_80 rfl 0 rfl ?_
          refine vv_iconst (v := nI 3) fx nd_MO_put_81 (by decide) ?_
          refine vv_put (U' := me_up V 4 0 (nI 3)) (M' := M) (ci := 2) (C := nr_MO) (T := nt_MO) (N := 10) (ty := .int) fx nt_MO_in nt_MO_ty nt_MO_ok nt_MO_nm 8 rfl rfl 0 (by decide) nf_MO_27 rfl (by decide +kernel) rfl rfl (Nat.le_of_ble_eq_true rfl) nd_MO_put_82 (sy_putU 0 _ rfl) ?_
          refine vv_iconst (v := nI 0) fx nd_MO_put_85 (by decide) ?_
          exact vv_iret fx rfl nd_MO_put_86 (rfl)
      · refine vv_aload_n fx nd_MO_put_47 rfl 0 rfl ?_
        refine vv_get (ci := 2) (C := nr_MO) (T := nt_MO) (N := 10) fx nt_MO_in 8 rfl rfl 3 (by decide) nf_MO_16 rfl nd_MO_put_48 ?_
        refine vv_iload_n fx nd_MO_put_51 rfl 1 rfl ?_
        refine vv_iald fx 11 0 rfl rfl (by omega) (by decide) nd_MO_put_52 ?_
        refine vv_iload_n fx nd_MO_put_53 rfl 2 rfl ?_
        refine vv_icmp_ne (tgt := 59) fx nd_MO_put_54 (by decide) (fun hb54 => ?_) (fun hb54 => ?_)
        · have em : (if V 1 j ≠ 0 then (0 : Int32) else 1) = 0 := if_pos hb44
          refine vv_iload_n fx nd_MO_put_59 rfl 3 rfl ?_
          refine vv_if_eq (tgt := 67) fx nd_MO_put_60 (by decide) (fun hb => absurd hb (hb44)) (fun _ => ?_)
          refine vv_iconst (v := 0) fx nd_MO_put_63 (by decide) ?_
          refine vv_goto (tgt := 68) fx nd_MO_put_64 (by decide) ?_
          refine vv_istore (L' := [(0, .ref (Y.2.1 8)), (1, .int (nI j)), (2, .int v), (3, .int (V 1 j)), (4, .int 0)]) fx nd_MO_put_68 (by decide) [1, 2, 3, 4, 0] rfl ?_
          refine vv_aload_n fx nd_MO_put_70 rfl 0 rfl ?_
          refine vv_iload_n fx nd_MO_put_71 rfl 1 rfl ?_
          refine vv_iload fx nd_MO_put_72 4 rfl ?_
          refine vv_callVi (C := nr_MO) (T := nt_MO) (N := 10) (ci := 2) fx (cc_MO_fits l Y M V o j 0 hj) nm_MO_73 ns_MO_fits nv_MO_fits nz_MO nc_MO_fits ni_MO_fits 8 rfl rfl ⟨rfl, rfl, by decide, by decide⟩ ⟨Nat.le_of_ble_eq_true rfl, Nat.le_of_ble_eq_true rfl⟩ (Nat.le_of_ble_eq_true rfl) nd_MO_put_74 rfl ?_
          refine vv_if_ne (tgt := 87) fx nd_MO_put_77 (by decide) (fun hb77 => ?_) (fun hb77 => ?_)
          · have hfit := of_decide_eq_true (b01_1 hb77)
            rw [show mo_put2 V j v = (1, me_up (mo_change V j 0) 2 j v) by unfold mo_put2; rw [if_neg (fun z => hb54 z.2), em, if_pos hfit, if_pos hb44]]
            refine vv_aload_n fx nd_MO_put_87 rfl 0 rfl ?_
            refine vv_iload_n fx nd_MO_put_88 rfl 1 rfl ?_
            refine vv_iload fx nd_MO_put_89 4 rfl ?_
            refine vv_callVv (C := nr_MO) (T := nt_MO) (N := 10) (ci := 2) fx (cc_MO_change l Y M V o j 0 hj) nm_MO_77 ns_MO_change nv_MO_change nz_MO nc_MO_change ni_MO_change 8 rfl rfl ⟨rfl, rfl, by decide, by decide⟩ ⟨Nat.le_of_ble_eq_true rfl, Nat.le_of_ble_eq_true rfl⟩ (Nat.le_of_ble_eq_true rfl) nd_MO_put_91 rfl ?_
            refine vv_aload_n fx nd_MO_put_94 rfl 0 rfl ?_
            refine vv_get (ci := 2) (C := nr_MO) (T := nt_MO) (N := 10) fx nt_MO_in 8 rfl rfl 3 (by decide) nf_MO_16 rfl nd_MO_put_95 ?_
            refine vv_iload_n fx nd_MO_put_98 rfl 1 rfl ?_
            refine vv_iload_n fx nd_MO_put_99 rfl 2 rfl ?_
            refine vv_iast (U' := me_up (mo_change V j 0) 2 j v) (M' := M) fx 11 0 rfl rfl (by omega) (by decide) nd_MO_put_100 (sy_setU2 _) ?_
            refine vv_iload_n fx nd_MO_put_101 rfl 3 rfl ?_
            refine vv_if_eq (tgt := 109) fx nd_MO_put_102 (by decide) (fun hb => absurd hb (hb44)) (fun _ => ?_)
            refine vv_iconst (v := nI 1) fx nd_MO_put_105 (by decide) ?_
            refine vv_goto (tgt := 110) fx nd_MO_put_106 (by decide) ?_
            exact vv_iret fx rfl nd_MO_put_110 (rfl)
          · have hfit := of_decide_eq_false (b01_0 hb77)
            rw [show mo_put2 V j v = (0, me_up V 4 0 3) by unfold mo_put2; rw [if_neg (fun z => hb54 z.2), em, if_neg hfit]]
            refine vv_aload_n fx nd_MO_put_80 rfl 0 rfl ?_
            refine vv_iconst (v := nI 3) fx nd_MO_put_81 (by decide) ?_
            refine vv_put (U' := me_up V 4 0 (nI 3)) (M' := M) (ci := 2) (C := nr_MO) (T := nt_MO) (N := 10) (ty := .int) fx nt_MO_in nt_MO_ty nt_MO_ok nt_MO_nm 8 rfl rfl 0 (by decide) nf_MO_27 rfl (by decide +kernel) rfl rfl (Nat.le_of_ble_eq_true rfl) nd_MO_put_82 (sy_putU 0 _ rfl) ?_
            refine vv_iconst (v := nI 0) fx nd_MO_put_85 (by decide) ?_
            exact vv_iret fx rfl nd_MO_put_86 (rfl)
        · rw [show mo_put2 V j v = (2, V) from if_pos ⟨hb44, hb54⟩]
          refine vv_iconst (v := nI 2) fx nd_MO_put_57 (by decide) ?_
          exact vv_iret fx rfl nd_MO_put_58 (rfl)
    · rw [show mo_put U k v = (0, me_up U 4 0 2) from (if_neg h5).trans (if_pos (b01_0 hb16))]
      refine vv_iconst (v := nI 2) fx nd_MO_put_19 (by decide) ?_
      refine vv_goto (tgt := 24) fx nd_MO_put_20 (by decide) ?_
      refine vv_put (U' := me_up U 4 0 (nI 2)) (M' := M) (ci := 2) (C := nr_MO) (T := nt_MO) (N := 10) (ty := .int) fx nt_MO_in nt_MO_ty nt_MO_ok nt_MO_nm 8 rfl rfl 0 (by decide) nf_MO_27 rfl (by decide +kernel) rfl rfl (Nat.le_of_ble_eq_true rfl) nd_MO_put_24 (sy_putU 0 _ rfl) ?_
      refine vv_mem (M9 := M) (U9 := me_up U 4 0 2) (rfl) (rfl) ?_
      refine vv_aload_n fx nd_MO_put_27 rfl 0 rfl ?_
      refine vv_get (ci := 2) (C := nr_MO) (T := nt_MO) (N := 10) fx nt_MO_in 8 rfl rfl 0 (by decide) nf_MO_27 rfl nd_MO_put_28 ?_
      refine vv_top (y := 2) (me_up_s _ _ _ _) ?_
      refine vv_if_le (tgt := 36) fx nd_MO_put_31 (by decide) (fun hb => absurd hb (by decide)) (fun _ => ?_)
      refine vv_iconst (v := nI 0) fx nd_MO_put_34 (by decide) ?_
      exact vv_iret fx rfl nd_MO_put_35 (rfl)
set_option maxRecDepth 4000 in
theorem cc_MO_remove (l : Launch) (Y : sy_Y) (M U : me_M) (o : Int64) (k : Int32) (hB : mo_B U) : ct_I l ny_MO_remove nb_MO_remove 2 (some .int) { frames := 4, cells := 0, slots := 0, locals := 96 } Y [.ref (Y.2.1 8), .int k] M U o ((mo_remove U k).1) M ((mo_remove U k).2) o := by
  refine ct_body (own := nr_MO) (L0 := [(0, .ref (Y.2.1 8)), (1, .int k)]) (by decide) rfl (Nat.le_of_ble_eq_true rfl) rfl ?_
  intro p e s m args below meth c fx
  by_cases h5 : U 4 5 ≠ 0
  · rw [show mo_remove U k = (0, me_up U 4 0 1) from if_pos h5]
    refine vv_aload_n fx nd_MO_remove_0 rfl 0 rfl ?_
    refine vv_aload_n fx nd_MO_remove_1 rfl 0 rfl ?_
    refine vv_get (ci := 2) (C := nr_MO) (T := nt_MO) (N := 10) fx nt_MO_in 8 rfl rfl 9 (by decide) nf_MO_66 rfl nd_MO_remove_2 ?_
    refine vv_if_eq (tgt := 12) fx nd_MO_remove_5 (by decide) (fun hb => absurd hb (h5)) (fun _ => ?_)
    refine vv_iconst (v := nI 1) fx nd_MO_remove_8 (by decide) ?_
    refine vv_goto (tgt := 46) fx nd_MO_remove_9 (by decide) ?_
    refine vv_put (U' := me_up U 4 0 (nI 1)) (M' := M) (ci := 2) (C := nr_MO) (T := nt_MO) (N := 10) (ty := .int) fx nt_MO_in nt_MO_ty nt_MO_ok nt_MO_nm 8 rfl rfl 0 (by decide) nf_MO_27 rfl (by decide +kernel) rfl rfl (Nat.le_of_ble_eq_true rfl) nd_MO_remove_46 (sy_putU 0 _ rfl) ?_
    refine vv_mem (M9 := M) (U9 := me_up U 4 0 1) (rfl) (rfl) ?_
    refine vv_aload_n fx nd_MO_remove_49 rfl 0 rfl ?_
    refine vv_get (ci := 2) (C := nr_MO) (T := nt_MO) (N := 10) fx nt_MO_in 8 rfl rfl 0 (by decide) nf_MO_27 rfl nd_MO_remove_50 ?_
    refine vv_top (y := 1) (me_up_s _ _ _ _) ?_
    refine vv_if_le (tgt := 58) fx nd_MO_remove_53 (by decide) (fun hb => absurd hb (by decide)) (fun _ => ?_)
    refine vv_iconst (v := nI 0) fx nd_MO_remove_56 (by decide) ?_
    exact vv_iret fx rfl nd_MO_remove_57 (rfl)
  · have h5z : U 4 5 = 0 := Classical.not_not.mp h5
    refine vv_aload_n fx nd_MO_remove_0 rfl 0 rfl ?_
    refine vv_aload_n fx nd_MO_remove_1 rfl 0 rfl ?_
    refine vv_get (ci := 2) (C := nr_MO) (T := nt_MO) (N := 10) fx nt_MO_in 8 rfl rfl 9 (by decide) nf_MO_66 rfl nd_MO_remove_2 ?_
    refine vv_if_eq (tgt := 12) fx nd_MO_remove_5 (by decide) (fun _ => ?_) (fun hb => absurd (h5z) hb)
    refine vv_iload_n fx nd_MO_remove_12 rfl 1 rfl ?_
    refine vv_callSi fx (cc_MO_isKey l Y M U o k) nm_MO_70 ns_MO_isKey nz_MO nc_MO_isKey ni_MO_isKey ⟨rfl, rfl, by decide, by decide⟩ ⟨Nat.le_of_ble_eq_true rfl, Nat.le_of_ble_eq_true rfl⟩ (Nat.le_of_ble_eq_true rfl) nd_MO_remove_13 rfl ?_
    refine vv_if_eq (tgt := 28) fx nd_MO_remove_16 (by decide) (fun hb16 => ?_) (fun hb16 => ?_)
    · rw [show mo_remove U k = (0, me_up U 4 0 2) from (if_neg h5).trans (if_pos (by rw [b01_0 hb16]; rfl))]
      refine vv_iconst (v := nI 2) fx nd_MO_remove_28 (by decide) ?_
      refine vv_goto (tgt := 46) fx nd_MO_remove_29 (by decide) ?_
      refine vv_put (U' := me_up U 4 0 (nI 2)) (M' := M) (ci := 2) (C := nr_MO) (T := nt_MO) (N := 10) (ty := .int) fx nt_MO_in nt_MO_ty nt_MO_ok nt_MO_nm 8 rfl rfl 0 (by decide) nf_MO_27 rfl (by decide +kernel) rfl rfl (Nat.le_of_ble_eq_true rfl) nd_MO_remove_46 (sy_putU 0 _ rfl) ?_
      refine vv_mem (M9 := M) (U9 := me_up U 4 0 2) (rfl) (rfl) ?_
      refine vv_aload_n fx nd_MO_remove_49 rfl 0 rfl ?_
      refine vv_get (ci := 2) (C := nr_MO) (T := nt_MO) (N := 10) fx nt_MO_in 8 rfl rfl 0 (by decide) nf_MO_27 rfl nd_MO_remove_50 ?_
      refine vv_top (y := 2) (me_up_s _ _ _ _) ?_
      refine vv_if_le (tgt := 58) fx nd_MO_remove_53 (by decide) (fun hb => absurd hb (by decide)) (fun _ => ?_)
      refine vv_iconst (v := nI 0) fx nd_MO_remove_56 (by decide) ?_
      exact vv_iret fx rfl nd_MO_remove_57 (rfl)
    · have hi := b01_1 hb16
      obtain ⟨j, hj, rfl⟩ := fb_isk_nat hi
      have ecj : (nI j).toNatClampNeg = j := nI_clamp (by omega)
      refine vv_aload_n fx nd_MO_remove_19 rfl 0 rfl ?_
      refine vv_get (ci := 2) (C := nr_MO) (T := nt_MO) (N := 10) fx nt_MO_in 8 rfl rfl 2 (by decide) nf_MO_13 rfl nd_MO_remove_20 ?_
      refine vv_iload_n fx nd_MO_remove_23 rfl 1 rfl ?_
      refine vv_zald fx 10 1 rfl rfl (by omega) (by decide) nd_MO_remove_24 ?_
      refine vv_if_ne (tgt := 32) fx nd_MO_remove_25 (by decide) (fun hb25 => ?_) (fun hb25 => ?_)
      · have hn : ¬ (fb_isk (nI j) && decide (U 1 (nI j).toNatClampNeg ≠ 0)) = false := by rw [hi, ecj, decide_eq_true hb25]; decide
        refine vv_aload_n fx nd_MO_remove_32 rfl 0 rfl ?_
        refine vv_iload_n fx nd_MO_remove_33 rfl 1 rfl ?_
        refine vv_iconst (v := -1) fx nd_MO_remove_34 (by decide) ?_
        refine vv_callVi (C := nr_MO) (T := nt_MO) (N := 10) (ci := 2) fx (cc_MO_fits l Y M U o j (-1) hj) nm_MO_73 ns_MO_fits nv_MO_fits nz_MO nc_MO_fits ni_MO_fits 8 rfl rfl ⟨rfl, rfl, by decide, by decide⟩ ⟨Nat.le_of_ble_eq_true rfl, Nat.le_of_ble_eq_true rfl⟩ (Nat.le_of_ble_eq_true rfl) nd_MO_remove_35 rfl ?_
        refine vv_if_ne (tgt := 45) fx nd_MO_remove_38 (by decide) (fun hb38 => ?_) (fun hb38 => ?_)
        · have hfit := of_decide_eq_true (b01_1 hb38)
          rw [show mo_remove U (nI j) = (U 2 j, mo_change (me_up U 4 0 0) j (-1)) from ((if_neg h5).trans (if_neg hn)).trans (by rw [ecj, if_pos hfit])]
          refine vv_iconst (v := nI 0) fx nd_MO_remove_45 (by decide) ?_
          refine vv_put (U' := me_up U 4 0 (nI 0)) (M' := M) (ci := 2) (C := nr_MO) (T := nt_MO) (N := 10) (ty := .int) fx nt_MO_in nt_MO_ty nt_MO_ok nt_MO_nm 8 rfl rfl 0 (by decide) nf_MO_27 rfl (by decide +kernel) rfl rfl (Nat.le_of_ble_eq_true rfl) nd_MO_remove_46 (sy_putU 0 _ rfl) ?_
          refine vv_mem (M9 := M) (U9 := me_up U 4 0 0) (rfl) (rfl) ?_
          refine vv_aload_n fx nd_MO_remove_49 rfl 0 rfl ?_
          refine vv_get (ci := 2) (C := nr_MO) (T := nt_MO) (N := 10) fx nt_MO_in 8 rfl rfl 0 (by decide) nf_MO_27 rfl nd_MO_remove_50 ?_
          refine vv_top (y := 0) (me_up_s _ _ _ _) ?_
          refine vv_if_le (tgt := 58) fx nd_MO_remove_53 (by decide) (fun _ => ?_) (fun hb => absurd (by decide) hb)
          refine vv_aload_n fx nd_MO_remove_58 rfl 0 rfl ?_
          refine vv_iload_n fx nd_MO_remove_59 rfl 1 rfl ?_
          refine vv_iconst (v := -1) fx nd_MO_remove_60 (by decide) ?_
          refine vv_callVv (C := nr_MO) (T := nt_MO) (N := 10) (ci := 2) fx (cc_MO_change l Y M (me_up U 4 0 0) o j (-1) hj) nm_MO_77 ns_MO_change nv_MO_change nz_MO nc_MO_change ni_MO_change 8 rfl rfl ⟨rfl, rfl, by decide, by decide⟩ ⟨Nat.le_of_ble_eq_true rfl, Nat.le_of_ble_eq_true rfl⟩ (Nat.le_of_ble_eq_true rfl) nd_MO_remove_61 rfl ?_
          refine vv_aload_n fx nd_MO_remove_64 rfl 0 rfl ?_
          refine vv_get (ci := 2) (C := nr_MO) (T := nt_MO) (N := 10) fx nt_MO_in 8 rfl rfl 3 (by decide) nf_MO_16 rfl nd_MO_remove_65 ?_
          refine vv_iload_n fx nd_MO_remove_68 rfl 1 rfl ?_
          refine vv_iald fx 11 0 rfl rfl (by omega) (by decide) nd_MO_remove_69 ?_
          exact vv_iret fx rfl nd_MO_remove_70 (by unfold mo_change; rw [me_up_n _ _ _ (by decide), mo_cl_2 _ _ _ (by decide) (by decide), me_up_n _ _ _ (by decide)])
        · have hfit := of_decide_eq_false (b01_0 hb38)
          rw [show mo_remove U (nI j) = (0, me_up U 4 0 3) from ((if_neg h5).trans (if_neg hn)).trans (by rw [ecj, if_neg hfit])]
          refine vv_iconst (v := nI 3) fx nd_MO_remove_41 (by decide) ?_
          refine vv_goto (tgt := 46) fx nd_MO_remove_42 (by decide) ?_
          refine vv_put (U' := me_up U 4 0 (nI 3)) (M' := M) (ci := 2) (C := nr_MO) (T := nt_MO) (N := 10) (ty := .int) fx nt_MO_in nt_MO_ty nt_MO_ok nt_MO_nm 8 rfl rfl 0 (by decide) nf_MO_27 rfl (by decide +kernel) rfl rfl (Nat.le_of_ble_eq_true rfl) nd_MO_remove_46 (sy_putU 0 _ rfl) ?_
          refine vv_mem (M9 := M) (U9 := me_up U 4 0 3) (rfl) (rfl) ?_
          refine vv_aload_n fx nd_MO_remove_49 rfl 0 rfl ?_
          refine vv_get (ci := 2) (C := nr_MO) (T := nt_MO) (N := 10) fx nt_MO_in 8 rfl rfl 0 (by decide) nf_MO_27 rfl nd_MO_remove_50 ?_
          refine vv_top (y := 3) (me_up_s _ _ _ _) ?_
          refine vv_if_le (tgt := 58) fx nd_MO_remove_53 (by decide) (fun hb => absurd hb (by decide)) (fun _ => ?_)
          refine vv_iconst (v := nI 0) fx nd_MO_remove_56 (by decide) ?_
          exact vv_iret fx rfl nd_MO_remove_57 (rfl)
      · rw [show mo_remove U (nI j) = (0, me_up U 4 0 2) from (if_neg h5).trans (if_pos (by rw [ecj, decide_eq_false (p := U 1 j ≠ 0) (fun q => q hb25), Bool.and_false]))]
        refine vv_iconst (v := nI 2) fx nd_MO_remove_28 (by decide) ?_
        refine vv_goto (tgt := 46) fx nd_MO_remove_29 (by decide) ?_
        refine vv_put (U' := me_up U 4 0 (nI 2)) (M' := M) (ci := 2) (C := nr_MO) (T := nt_MO) (N := 10) (ty := .int) fx nt_MO_in nt_MO_ty nt_MO_ok nt_MO_nm 8 rfl rfl 0 (by decide) nf_MO_27 rfl (by decide +kernel) rfl rfl (Nat.le_of_ble_eq_true rfl) nd_MO_remove_46 (sy_putU 0 _ rfl) ?_
        refine vv_mem (M9 := M) (U9 := me_up U 4 0 2) (rfl) (rfl) ?_
        refine vv_aload_n fx nd_MO_remove_49 rfl 0 rfl ?_
        refine vv_get (ci := 2) (C := nr_MO) (T := nt_MO) (N := 10) fx nt_MO_in 8 rfl rfl 0 (by decide) nf_MO_27 rfl nd_MO_remove_50 ?_
        refine vv_top (y := 2) (me_up_s _ _ _ _) ?_
        refine vv_if_le (tgt := 58) fx nd_MO_remove_53 (by decide) (fun hb => absurd hb (by decide)) (fun _ => ?_)
        refine vv_iconst (v := nI 0) fx nd_MO_remove_56 (by decide) ?_
        exact vv_iret fx rfl nd_MO_remove_57 (rfl)
set_option maxRecDepth 4000 in
theorem cc_MO_get (l : Launch) (Y : sy_Y) (M U : me_M) (o : Int64) (h k : Int32) (hB : mo_B U) : ct_I l ny_MO_get nb_MO_get 3 (some .int) { frames := 1, cells := 0, slots := 0, locals := 21 } Y [.ref (Y.2.1 8), .int h, .int k] M U o ((mo_get U h k).1) M ((mo_get U h k).2) o := by
  refine ct_body (own := nr_MO) (L0 := [(0, .ref (Y.2.1 8)), (1, .int h), (2, .int k)]) (by decide) rfl (Nat.le_of_ble_eq_true rfl) rfl ?_
  intro p e s m args below meth c fx
  by_cases h5 : U 4 5 ≠ 0
  · rw [show mo_get U h k = (0, me_up U 4 0 1) from if_pos h5]
    refine vv_aload_n fx nd_MO_get_0 rfl 0 rfl ?_
    refine vv_aload_n fx nd_MO_get_1 rfl 0 rfl ?_
    refine vv_get (ci := 2) (C := nr_MO) (T := nt_MO) (N := 10) fx nt_MO_in 8 rfl rfl 9 (by decide) nf_MO_66 rfl nd_MO_get_2 ?_
    refine vv_if_eq (tgt := 12) fx nd_MO_get_5 (by decide) (fun hb => absurd hb (h5)) (fun _ => ?_)
    refine vv_iconst (v := nI 1) fx nd_MO_get_8 (by decide) ?_
    refine vv_goto (tgt := 50) fx nd_MO_get_9 (by decide) ?_
    refine vv_put (U' := me_up U 4 0 (nI 1)) (M' := M) (ci := 2) (C := nr_MO) (T := nt_MO) (N := 10) (ty := .int) fx nt_MO_in nt_MO_ty nt_MO_ok nt_MO_nm 8 rfl rfl 0 (by decide) nf_MO_27 rfl (by decide +kernel) rfl rfl (Nat.le_of_ble_eq_true rfl) nd_MO_get_50 (sy_putU 0 _ rfl) ?_
    refine vv_mem (M9 := M) (U9 := me_up U 4 0 1) (rfl) (rfl) ?_
    refine vv_aload_n fx nd_MO_get_53 rfl 0 rfl ?_
    refine vv_get (ci := 2) (C := nr_MO) (T := nt_MO) (N := 10) fx nt_MO_in 8 rfl rfl 0 (by decide) nf_MO_27 rfl nd_MO_get_54 ?_
    refine vv_top (y := 1) (me_up_s _ _ _ _) ?_
    refine vv_if_le (tgt := 64) fx nd_MO_get_57 (by decide) (fun hb => absurd hb (by decide)) (fun _ => ?_)
    refine vv_iconst (v := nI 0) fx nd_MO_get_60 (by decide) ?_
    refine vv_goto (tgt := 75) fx nd_MO_get_61 (by decide) ?_
    exact vv_iret fx rfl nd_MO_get_75 (rfl)
  · have h5z : U 4 5 = 0 := Classical.not_not.mp h5
    refine vv_aload_n fx nd_MO_get_0 rfl 0 rfl ?_
    refine vv_aload_n fx nd_MO_get_1 rfl 0 rfl ?_
    refine vv_get (ci := 2) (C := nr_MO) (T := nt_MO) (N := 10) fx nt_MO_in 8 rfl rfl 9 (by decide) nf_MO_66 rfl nd_MO_get_2 ?_
    refine vv_if_eq (tgt := 12) fx nd_MO_get_5 (by decide) (fun _ => ?_) (fun hb => absurd (h5z) hb)
    refine vv_aload_n fx nd_MO_get_12 rfl 0 rfl ?_
    refine vv_iload_n fx nd_MO_get_13 rfl 1 rfl ?_
    refine vv_callVi (C := nr_MO) (T := nt_MO) (N := 10) (ci := 2) fx (cc_MO_isMap l Y M U o h) nm_MO_30 ns_MO_isMap nv_MO_isMap nz_MO nc_MO_isMap ni_MO_isMap 8 rfl rfl ⟨rfl, rfl, by decide, by decide⟩ ⟨Nat.le_of_ble_eq_true rfl, Nat.le_of_ble_eq_true rfl⟩ (Nat.le_of_ble_eq_true rfl) nd_MO_get_14 rfl ?_
    refine vv_if_ne (tgt := 24) fx nd_MO_get_17 (by decide) (fun hb17 => ?_) (fun hb17 => ?_)
    · have hm := b01_1 hb17
      obtain ⟨n, hn, rfl⟩ := mo_ism_nat hm
      have ecn : (nI n).toNatClampNeg = n := nI_clamp (by omega)
      have hm2 : ¬ mo_ism U (nI n) = false := by rw [hm]; decide
      refine vv_iload_n fx nd_MO_get_24 rfl 2 rfl ?_
      refine vv_callSi fx (cc_MO_isKey l Y M U o k) nm_MO_70 ns_MO_isKey nz_MO nc_MO_isKey ni_MO_isKey ⟨rfl, rfl, by decide, by decide⟩ ⟨Nat.le_of_ble_eq_true rfl, Nat.le_of_ble_eq_true rfl⟩ (Nat.le_of_ble_eq_true rfl) nd_MO_get_25 rfl ?_
      refine vv_if_eq (tgt := 45) fx nd_MO_get_28 (by decide) (fun hb28 => ?_) (fun hb28 => ?_)
      · rw [show mo_get U (nI n) k = (0, me_up U 4 0 3) from ((if_neg h5).trans (if_neg hm2)).trans (if_pos (by rw [b01_0 hb28]; rfl))]
        refine vv_iconst (v := nI 3) fx nd_MO_get_45 (by decide) ?_
        refine vv_goto (tgt := 50) fx nd_MO_get_46 (by decide) ?_
        refine vv_put (U' := me_up U 4 0 (nI 3)) (M' := M) (ci := 2) (C := nr_MO) (T := nt_MO) (N := 10) (ty := .int) fx nt_MO_in nt_MO_ty nt_MO_ok nt_MO_nm 8 rfl rfl 0 (by decide) nf_MO_27 rfl (by decide +kernel) rfl rfl (Nat.le_of_ble_eq_true rfl) nd_MO_get_50 (sy_putU 0 _ rfl) ?_
        refine vv_mem (M9 := M) (U9 := me_up U 4 0 3) (rfl) (rfl) ?_
        refine vv_aload_n fx nd_MO_get_53 rfl 0 rfl ?_
        refine vv_get (ci := 2) (C := nr_MO) (T := nt_MO) (N := 10) fx nt_MO_in 8 rfl rfl 0 (by decide) nf_MO_27 rfl nd_MO_get_54 ?_
        refine vv_top (y := 3) (me_up_s _ _ _ _) ?_
        refine vv_if_le (tgt := 64) fx nd_MO_get_57 (by decide) (fun hb => absurd hb (by decide)) (fun _ => ?_)
        refine vv_iconst (v := nI 0) fx nd_MO_get_60 (by decide) ?_
        refine vv_goto (tgt := 75) fx nd_MO_get_61 (by decide) ?_
        exact vv_iret fx rfl nd_MO_get_75 (rfl)
      · have hi := b01_1 hb28
        obtain ⟨j, hj, rfl⟩ := fb_isk_nat hi
        have ecj : (nI j).toNatClampNeg = j := nI_clamp (by omega)
        refine vv_aload_n fx nd_MO_get_31 rfl 0 rfl ?_
        refine vv_get (ci := 2) (C := nr_MO) (T := nt_MO) (N := 10) fx nt_MO_in 8 rfl rfl 2 (by decide) nf_MO_13 rfl nd_MO_get_32 ?_
        refine vv_bipush (v := nI 64) fx nd_MO_get_35 (by decide) ?_
        refine vv_iload_n fx nd_MO_get_37 rfl 1 rfl ?_
        refine vv_imul fx nd_MO_get_38 ?_
        refine vv_top (y := nI (64 * n)) (pk_mul _ _) ?_
        refine vv_iload_n fx nd_MO_get_39 rfl 2 rfl ?_
        refine vv_iadd fx nd_MO_get_40 ?_
        refine vv_top (y := nI ((64 * n) + j)) (nI_add _ _) ?_
        refine vv_zald fx 10 1 rfl rfl (by omega) (by decide) nd_MO_get_41 ?_
        refine vv_if_ne (tgt := 49) fx nd_MO_get_42 (by decide) (fun hb42 => ?_) (fun hb42 => ?_)
        · rw [show mo_get U (nI n) (nI j) = (U 2 (64 * n + j), (me_up U 4 0 0)) from ((if_neg h5).trans (if_neg hm2)).trans ((if_neg (by rw [hi, ecn, ecj, decide_eq_true hb42]; decide)).trans (by rw [ecn, ecj]))]
          refine vv_iconst (v := nI 0) fx nd_MO_get_49 (by decide) ?_
          refine vv_put (U' := me_up U 4 0 (nI 0)) (M' := M) (ci := 2) (C := nr_MO) (T := nt_MO) (N := 10) (ty := .int) fx nt_MO_in nt_MO_ty nt_MO_ok nt_MO_nm 8 rfl rfl 0 (by decide) nf_MO_27 rfl (by decide +kernel) rfl rfl (Nat.le_of_ble_eq_true rfl) nd_MO_get_50 (sy_putU 0 _ rfl) ?_
          refine vv_mem (M9 := M) (U9 := me_up U 4 0 0) (rfl) (rfl) ?_
          refine vv_aload_n fx nd_MO_get_53 rfl 0 rfl ?_
          refine vv_get (ci := 2) (C := nr_MO) (T := nt_MO) (N := 10) fx nt_MO_in 8 rfl rfl 0 (by decide) nf_MO_27 rfl nd_MO_get_54 ?_
          refine vv_top (y := 0) (me_up_s _ _ _ _) ?_
          refine vv_if_le (tgt := 64) fx nd_MO_get_57 (by decide) (fun _ => ?_) (fun hb => absurd (by decide) hb)
          refine vv_aload_n fx nd_MO_get_64 rfl 0 rfl ?_
          refine vv_get (ci := 2) (C := nr_MO) (T := nt_MO) (N := 10) fx nt_MO_in 8 rfl rfl 3 (by decide) nf_MO_16 rfl nd_MO_get_65 ?_
          refine vv_bipush (v := nI 64) fx nd_MO_get_68 (by decide) ?_
          refine vv_iload_n fx nd_MO_get_70 rfl 1 rfl ?_
          refine vv_imul fx nd_MO_get_71 ?_
          refine vv_top (y := nI (64 * n)) (pk_mul _ _) ?_
          refine vv_iload_n fx nd_MO_get_72 rfl 2 rfl ?_
          refine vv_iadd fx nd_MO_get_73 ?_
          refine vv_top (y := nI ((64 * n) + j)) (nI_add _ _) ?_
          refine vv_iald fx 11 0 rfl rfl (by omega) (by decide) nd_MO_get_74 ?_
          exact vv_iret fx rfl nd_MO_get_75 (congrFun (me_up_n _ _ _ (by decide)) _)
        · rw [show mo_get U (nI n) (nI j) = (0, me_up U 4 0 3) from ((if_neg h5).trans (if_neg hm2)).trans (if_pos (by rw [ecn, ecj, decide_eq_false (p := U 1 (64 * n + j) ≠ 0) (fun q => q hb42), Bool.and_false]))]
          refine vv_iconst (v := nI 3) fx nd_MO_get_45 (by decide) ?_
          refine vv_goto (tgt := 50) fx nd_MO_get_46 (by decide) ?_
          refine vv_put (U' := me_up U 4 0 (nI 3)) (M' := M) (ci := 2) (C := nr_MO) (T := nt_MO) (N := 10) (ty := .int) fx nt_MO_in nt_MO_ty nt_MO_ok nt_MO_nm 8 rfl rfl 0 (by decide) nf_MO_27 rfl (by decide +kernel) rfl rfl (Nat.le_of_ble_eq_true rfl) nd_MO_get_50 (sy_putU 0 _ rfl) ?_
          refine vv_mem (M9 := M) (U9 := me_up U 4 0 3) (rfl) (rfl) ?_
          refine vv_aload_n fx nd_MO_get_53 rfl 0 rfl ?_
          refine vv_get (ci := 2) (C := nr_MO) (T := nt_MO) (N := 10) fx nt_MO_in 8 rfl rfl 0 (by decide) nf_MO_27 rfl nd_MO_get_54 ?_
          refine vv_top (y := 3) (me_up_s _ _ _ _) ?_
          refine vv_if_le (tgt := 64) fx nd_MO_get_57 (by decide) (fun hb => absurd hb (by decide)) (fun _ => ?_)
          refine vv_iconst (v := nI 0) fx nd_MO_get_60 (by decide) ?_
          refine vv_goto (tgt := 75) fx nd_MO_get_61 (by decide) ?_
          exact vv_iret fx rfl nd_MO_get_75 (rfl)
    · rw [show mo_get U h k = (0, me_up U 4 0 2) from (if_neg h5).trans (if_pos (b01_0 hb17))]
      refine vv_iconst (v := nI 2) fx nd_MO_get_20 (by decide) ?_
      refine vv_goto (tgt := 50) fx nd_MO_get_21 (by decide) ?_
      refine vv_put (U' := me_up U 4 0 (nI 2)) (M' := M) (ci := 2) (C := nr_MO) (T := nt_MO) (N := 10) (ty := .int) fx nt_MO_in nt_MO_ty nt_MO_ok nt_MO_nm 8 rfl rfl 0 (by decide) nf_MO_27 rfl (by decide +kernel) rfl rfl (Nat.le_of_ble_eq_true rfl) nd_MO_get_50 (sy_putU 0 _ rfl) ?_
      refine vv_mem (M9 := M) (U9 := me_up U 4 0 2) (rfl) (rfl) ?_
      refine vv_aload_n fx nd_MO_get_53 rfl 0 rfl ?_
      refine vv_get (ci := 2) (C := nr_MO) (T := nt_MO) (N := 10) fx nt_MO_in 8 rfl rfl 0 (by decide) nf_MO_27 rfl nd_MO_get_54 ?_
      refine vv_top (y := 2) (me_up_s _ _ _ _) ?_
      refine vv_if_le (tgt := 64) fx nd_MO_get_57 (by decide) (fun hb => absurd hb (by decide)) (fun _ => ?_)
      refine vv_iconst (v := nI 0) fx nd_MO_get_60 (by decide) ?_
      refine vv_goto (tgt := 75) fx nd_MO_get_61 (by decide) ?_
      exact vv_iret fx rfl nd_MO_get_75 (rfl)
set_option maxRecDepth 4000 in
theorem cc_MO_next (l : Launch) (Y : sy_Y) (M U : me_M) (o : Int64) (h fr : Int32) (hB : mo_B U) : ct_I l ny_MO_next nb_MO_next 5 (some .int) { frames := 1, cells := 0, slots := 0, locals := 21 } Y [.ref (Y.2.1 8), .int h, .int fr] M U o ((mo_next U h fr).1) M ((mo_next U h fr).2) o := by
  refine ct_body (own := nr_MO) (L0 := [(0, .ref (Y.2.1 8)), (1, .int h), (2, .int fr)]) (by decide) rfl (Nat.le_of_ble_eq_true rfl) rfl ?_
  intro p e s m args below meth c fx
  by_cases h5 : U 4 5 ≠ 0
  · rw [show mo_next U h fr = (0, me_up U 4 0 1) from if_pos h5]
    refine vv_aload_n fx nd_MO_next_0 rfl 0 rfl ?_
    refine vv_aload_n fx nd_MO_next_1 rfl 0 rfl ?_
    refine vv_get (ci := 2) (C := nr_MO) (T := nt_MO) (N := 10) fx nt_MO_in 8 rfl rfl 9 (by decide) nf_MO_66 rfl nd_MO_next_2 ?_
    refine vv_if_eq (tgt := 12) fx nd_MO_next_5 (by decide) (fun hb => absurd hb (h5)) (fun _ => ?_)
    refine vv_iconst (v := nI 1) fx nd_MO_next_8 (by decide) ?_
    refine vv_goto (tgt := 25) fx nd_MO_next_9 (by decide) ?_
    refine vv_put (U' := me_up U 4 0 (nI 1)) (M' := M) (ci := 2) (C := nr_MO) (T := nt_MO) (N := 10) (ty := .int) fx nt_MO_in nt_MO_ty nt_MO_ok nt_MO_nm 8 rfl rfl 0 (by decide) nf_MO_27 rfl (by decide +kernel) rfl rfl (Nat.le_of_ble_eq_true rfl) nd_MO_next_25 (sy_putU 0 _ rfl) ?_
    refine vv_mem (M9 := M) (U9 := me_up U 4 0 1) (rfl) (rfl) ?_
    refine vv_aload_n fx nd_MO_next_28 rfl 0 rfl ?_
    refine vv_get (ci := 2) (C := nr_MO) (T := nt_MO) (N := 10) fx nt_MO_in 8 rfl rfl 0 (by decide) nf_MO_27 rfl nd_MO_next_29 ?_
    refine vv_top (y := 1) (me_up_s _ _ _ _) ?_
    refine vv_if_le (tgt := 37) fx nd_MO_next_32 (by decide) (fun hb => absurd hb (by decide)) (fun _ => ?_)
    refine vv_iconst (v := nI 0) fx nd_MO_next_35 (by decide) ?_
    exact vv_iret fx rfl nd_MO_next_36 (rfl)
  · have h5z : U 4 5 = 0 := Classical.not_not.mp h5
    refine vv_aload_n fx nd_MO_next_0 rfl 0 rfl ?_
    refine vv_aload_n fx nd_MO_next_1 rfl 0 rfl ?_
    refine vv_get (ci := 2) (C := nr_MO) (T := nt_MO) (N := 10) fx nt_MO_in 8 rfl rfl 9 (by decide) nf_MO_66 rfl nd_MO_next_2 ?_
    refine vv_if_eq (tgt := 12) fx nd_MO_next_5 (by decide) (fun _ => ?_) (fun hb => absurd (h5z) hb)
    refine vv_aload_n fx nd_MO_next_12 rfl 0 rfl ?_
    refine vv_iload_n fx nd_MO_next_13 rfl 1 rfl ?_
    refine vv_callVi (C := nr_MO) (T := nt_MO) (N := 10) (ci := 2) fx (cc_MO_isMap l Y M U o h) nm_MO_30 ns_MO_isMap nv_MO_isMap nz_MO nc_MO_isMap ni_MO_isMap 8 rfl rfl ⟨rfl, rfl, by decide, by decide⟩ ⟨Nat.le_of_ble_eq_true rfl, Nat.le_of_ble_eq_true rfl⟩ (Nat.le_of_ble_eq_true rfl) nd_MO_next_14 rfl ?_
    refine vv_if_eq (tgt := 24) fx nd_MO_next_17 (by decide) (fun hb17 => ?_) (fun hb17 => ?_)
    · rw [show mo_next U h fr = (0, me_up U 4 0 2) from (if_neg h5).trans (if_pos (b01_0 hb17))]
      refine vv_iconst (v := nI 2) fx nd_MO_next_24 (by decide) ?_
      refine vv_put (U' := me_up U 4 0 (nI 2)) (M' := M) (ci := 2) (C := nr_MO) (T := nt_MO) (N := 10) (ty := .int) fx nt_MO_in nt_MO_ty nt_MO_ok nt_MO_nm 8 rfl rfl 0 (by decide) nf_MO_27 rfl (by decide +kernel) rfl rfl (Nat.le_of_ble_eq_true rfl) nd_MO_next_25 (sy_putU 0 _ rfl) ?_
      refine vv_mem (M9 := M) (U9 := me_up U 4 0 2) (rfl) (rfl) ?_
      refine vv_aload_n fx nd_MO_next_28 rfl 0 rfl ?_
      refine vv_get (ci := 2) (C := nr_MO) (T := nt_MO) (N := 10) fx nt_MO_in 8 rfl rfl 0 (by decide) nf_MO_27 rfl nd_MO_next_29 ?_
      refine vv_top (y := 2) (me_up_s _ _ _ _) ?_
      refine vv_if_le (tgt := 37) fx nd_MO_next_32 (by decide) (fun hb => absurd hb (by decide)) (fun _ => ?_)
      refine vv_iconst (v := nI 0) fx nd_MO_next_35 (by decide) ?_
      exact vv_iret fx rfl nd_MO_next_36 (rfl)
    · have hm := b01_1 hb17
      obtain ⟨n, hn, rfl⟩ := mo_ism_nat hm
      have ecn : (nI n).toNatClampNeg = n := nI_clamp (by omega)
      have hm2 : ¬ mo_ism U (nI n) = false := by rw [hm]; decide
      refine vv_iconst (v := nI 0) fx nd_MO_next_20 (by decide) ?_
      refine vv_goto (tgt := 25) fx nd_MO_next_21 (by decide) ?_
      refine vv_put (U' := me_up U 4 0 (nI 0)) (M' := M) (ci := 2) (C := nr_MO) (T := nt_MO) (N := 10) (ty := .int) fx nt_MO_in nt_MO_ty nt_MO_ok nt_MO_nm 8 rfl rfl 0 (by decide) nf_MO_27 rfl (by decide +kernel) rfl rfl (Nat.le_of_ble_eq_true rfl) nd_MO_next_25 (sy_putU 0 _ rfl) ?_
      refine vv_mem (M9 := M) (U9 := me_up U 4 0 0) (rfl) (rfl) ?_
      rw [show mo_next U (nI n) fr = (mo_nx (fun k => decide (U 1 (64 * n + k) ≠ 0)) fr 64 (-1), (me_up U 4 0 0)) from ((if_neg h5).trans (if_neg hm2)).trans (by rw [ecn])]
      refine vv_aload_n fx nd_MO_next_28 rfl 0 rfl ?_
      refine vv_get (ci := 2) (C := nr_MO) (T := nt_MO) (N := 10) fx nt_MO_in 8 rfl rfl 0 (by decide) nf_MO_27 rfl nd_MO_next_29 ?_
      refine vv_top (y := 0) (me_up_s _ _ _ _) ?_
      refine vv_if_le (tgt := 37) fx nd_MO_next_32 (by decide) (fun _ => ?_) (fun hb => absurd (by decide) hb)
      refine vv_iconst (v := -1) fx nd_MO_next_37 (by decide) ?_
      refine vv_istore_n (L' := [(0, .ref (Y.2.1 8)), (1, .int (nI n)), (2, .int fr), (3, .int (-1))]) fx nd_MO_next_38 rfl (by decide) [1, 2, 3, 0] rfl ?_
      refine vv_bipush (v := nI 63) fx nd_MO_next_39 (by decide) ?_
      refine vv_top (y := nI 64 + (-1)) ((pk_m1 63).symm) ?_
      refine vv_istore (L' := [(0, .ref (Y.2.1 8)), (1, .int (nI n)), (2, .int fr), (3, .int (-1)), (4, .int (nI 64 + (-1)))]) fx nd_MO_next_41 (by decide) [1, 2, 3, 4, 0] rfl ?_
      have loop : ∀ i x, i ≤ 64 → mo_nx (fun k => decide (U 1 (64 * n + k) ≠ 0)) fr i x = mo_nx (fun k => decide (U 1 (64 * n + k) ≠ 0)) fr 64 (-1) → vv p l e { frames := 1, cells := 0, slots := 0, locals := 21 } s m args below meth c 0 0 (MQ below (ct_Qi Y (mo_nx (fun k => decide (U 1 (64 * n + k) ≠ 0)) fr 64 (-1)) M (me_up U 4 0 0) o) args s 0 0 Y.2.2.2) 5 Y M (me_up U 4 0 0) o 43 [(0, .ref (Y.2.1 8)), (1, .int (nI n)), (2, .int fr), (3, .int x), (4, .int (nI i + (-1)))] [] := by
        intro i
        induction i with
        | zero =>
          intro x hi he
          refine vv_iload fx nd_MO_next_43 4 rfl ?_
          refine vv_if_lt (tgt := 82) fx nd_MO_next_45 (by decide) (fun _ => ?_) (fun hb => absurd (by decide) hb)
          refine vv_iload_n fx nd_MO_next_82 rfl 3 rfl ?_
          exact vv_iret fx rfl nd_MO_next_83 (he)
        | succ i ih =>
          intro x hi he
          rw [pk_m1]
          have ex : mo_nx (fun k => decide (U 1 (64 * n + k) ≠ 0)) fr (i + 1) x = if fr ≤ nI i then mo_nx (fun k => decide (U 1 (64 * n + k) ≠ 0)) fr i (if (fun k => decide (U 1 (64 * n + k) ≠ 0)) i = true then nI i else x) else x := rfl
          refine vv_iload fx nd_MO_next_43 4 rfl ?_
          refine vv_if_lt (tgt := 82) fx nd_MO_next_45 (by decide) (fun hb => absurd hb (nI_pos (by omega))) (fun _ => ?_)
          refine vv_iload fx nd_MO_next_48 4 rfl ?_
          refine vv_iload_n fx nd_MO_next_50 rfl 2 rfl ?_
          refine vv_icmp_lt (tgt := 82) fx nd_MO_next_51 (by decide) (fun hb51 => ?_) (fun hb51 => ?_)
          · refine vv_iload_n fx nd_MO_next_82 rfl 3 rfl ?_
            exact vv_iret fx rfl nd_MO_next_83 (by rw [← he, ex, if_neg (Int32.not_le.mpr hb51)])
          · rw [if_pos (Int32.not_lt.mp hb51)] at ex
            refine vv_aload_n fx nd_MO_next_54 rfl 0 rfl ?_
            refine vv_get (ci := 2) (C := nr_MO) (T := nt_MO) (N := 10) fx nt_MO_in 8 rfl rfl 2 (by decide) nf_MO_13 rfl nd_MO_next_55 ?_
            refine vv_bipush (v := nI 64) fx nd_MO_next_58 (by decide) ?_
            refine vv_iload_n fx nd_MO_next_60 rfl 1 rfl ?_
            refine vv_imul fx nd_MO_next_61 ?_
            refine vv_top (y := nI (64 * n)) (pk_mul _ _) ?_
            refine vv_iload fx nd_MO_next_62 4 rfl ?_
            refine vv_iadd fx nd_MO_next_64 ?_
            refine vv_top (y := nI ((64 * n) + i)) (nI_add _ _) ?_
            refine vv_zald fx 10 1 rfl rfl (by omega) (by decide) nd_MO_next_65 ?_
            refine vv_top (y := U 1 (64 * n + i)) (congrFun (me_up_n _ _ _ (by decide)) _) ?_
            refine vv_if_eq (tgt := 74) fx nd_MO_next_66 (by decide) (fun hb66 => ?_) (fun hb66 => ?_)
            · refine vv_iload_n fx nd_MO_next_74 rfl 3 rfl ?_
              refine vv_istore_n (L' := [(0, .ref (Y.2.1 8)), (1, .int (nI n)), (2, .int fr), (3, .int x), (4, .int (nI i))]) fx nd_MO_next_75 rfl (by decide) [1, 2, 3, 0, 4] rfl ?_
              refine vv_iinc (v := nI i + (-1)) (L' := [(0, .ref (Y.2.1 8)), (1, .int (nI n)), (2, .int fr), (3, .int x), (4, .int (nI i + (-1)))]) fx nd_MO_next_76 4 rfl (rfl) (by decide) [1, 2, 3, 4, 0] rfl ?_
              refine vv_goto (tgt := 43) fx nd_MO_next_79 (by decide) ?_
              exact ih x (by omega) (by rw [← he, ex, if_neg (fun q => (of_decide_eq_true q) hb66)])
            · refine vv_iload fx nd_MO_next_69 4 rfl ?_
              refine vv_goto (tgt := 75) fx nd_MO_next_71 (by decide) ?_
              refine vv_istore_n (L' := [(0, .ref (Y.2.1 8)), (1, .int (nI n)), (2, .int fr), (3, .int (nI i)), (4, .int (nI i))]) fx nd_MO_next_75 rfl (by decide) [1, 2, 3, 0, 4] rfl ?_
              refine vv_iinc (v := nI i + (-1)) (L' := [(0, .ref (Y.2.1 8)), (1, .int (nI n)), (2, .int fr), (3, .int (nI i)), (4, .int (nI i + (-1)))]) fx nd_MO_next_76 4 rfl (rfl) (by decide) [1, 2, 3, 4, 0] rfl ?_
              refine vv_goto (tgt := 43) fx nd_MO_next_79 (by decide) ?_
              exact ih (nI i) (by omega) (by rw [← he, ex, if_pos (decide_eq_true hb66)])
      exact loop 64 (-1) (by omega) rfl
set_option maxRecDepth 4000 in
theorem cc_MO_count (l : Launch) (Y : sy_Y) (M U : me_M) (o : Int64) (h : Int32) (hB : mo_B U) : ct_I l ny_MO_count nb_MO_count 2 (some .int) { frames := 1, cells := 0, slots := 0, locals := 25 } Y [.ref (Y.2.1 8), .int h] M U o ((mo_count U h).1) M ((mo_count U h).2) o := by
  refine ct_body (own := nr_MO) (L0 := [(0, .ref (Y.2.1 8)), (1, .int h)]) (by decide) rfl (Nat.le_of_ble_eq_true rfl) rfl ?_
  intro p e s m args below meth c fx
  by_cases h5 : U 4 5 ≠ 0
  · rw [show mo_count U h = (0, me_up U 4 0 1) from if_pos h5]
    refine vv_aload_n fx nd_MO_count_0 rfl 0 rfl ?_
    refine vv_aload_n fx nd_MO_count_1 rfl 0 rfl ?_
    refine vv_get (ci := 2) (C := nr_MO) (T := nt_MO) (N := 10) fx nt_MO_in 8 rfl rfl 9 (by decide) nf_MO_66 rfl nd_MO_count_2 ?_
    refine vv_if_eq (tgt := 12) fx nd_MO_count_5 (by decide) (fun hb => absurd hb (h5)) (fun _ => ?_)
    refine vv_iconst (v := nI 1) fx nd_MO_count_8 (by decide) ?_
    refine vv_goto (tgt := 25) fx nd_MO_count_9 (by decide) ?_
    refine vv_put (U' := me_up U 4 0 (nI 1)) (M' := M) (ci := 2) (C := nr_MO) (T := nt_MO) (N := 10) (ty := .int) fx nt_MO_in nt_MO_ty nt_MO_ok nt_MO_nm 8 rfl rfl 0 (by decide) nf_MO_27 rfl (by decide +kernel) rfl rfl (Nat.le_of_ble_eq_true rfl) nd_MO_count_25 (sy_putU 0 _ rfl) ?_
    refine vv_mem (M9 := M) (U9 := me_up U 4 0 1) (rfl) (rfl) ?_
    refine vv_aload_n fx nd_MO_count_28 rfl 0 rfl ?_
    refine vv_get (ci := 2) (C := nr_MO) (T := nt_MO) (N := 10) fx nt_MO_in 8 rfl rfl 0 (by decide) nf_MO_27 rfl nd_MO_count_29 ?_
    refine vv_top (y := 1) (me_up_s _ _ _ _) ?_
    refine vv_if_le (tgt := 39) fx nd_MO_count_32 (by decide) (fun hb => absurd hb (by decide)) (fun _ => ?_)
    refine vv_iconst (v := nI 0) fx nd_MO_count_35 (by decide) ?_
    refine vv_goto (tgt := 47) fx nd_MO_count_36 (by decide) ?_
    exact vv_iret fx rfl nd_MO_count_47 (rfl)
  · have h5z : U 4 5 = 0 := Classical.not_not.mp h5
    refine vv_aload_n fx nd_MO_count_0 rfl 0 rfl ?_
    refine vv_aload_n fx nd_MO_count_1 rfl 0 rfl ?_
    refine vv_get (ci := 2) (C := nr_MO) (T := nt_MO) (N := 10) fx nt_MO_in 8 rfl rfl 9 (by decide) nf_MO_66 rfl nd_MO_count_2 ?_
    refine vv_if_eq (tgt := 12) fx nd_MO_count_5 (by decide) (fun _ => ?_) (fun hb => absurd (h5z) hb)
    refine vv_aload_n fx nd_MO_count_12 rfl 0 rfl ?_
    refine vv_iload_n fx nd_MO_count_13 rfl 1 rfl ?_
    refine vv_callVi (C := nr_MO) (T := nt_MO) (N := 10) (ci := 2) fx (cc_MO_isMap l Y M U o h) nm_MO_30 ns_MO_isMap nv_MO_isMap nz_MO nc_MO_isMap ni_MO_isMap 8 rfl rfl ⟨rfl, rfl, by decide, by decide⟩ ⟨Nat.le_of_ble_eq_true rfl, Nat.le_of_ble_eq_true rfl⟩ (Nat.le_of_ble_eq_true rfl) nd_MO_count_14 rfl ?_
    refine vv_if_eq (tgt := 24) fx nd_MO_count_17 (by decide) (fun hb17 => ?_) (fun hb17 => ?_)
    · rw [show mo_count U h = (0, me_up U 4 0 2) from (if_neg h5).trans (if_pos (b01_0 hb17))]
      refine vv_iconst (v := nI 2) fx nd_MO_count_24 (by decide) ?_
      refine vv_put (U' := me_up U 4 0 (nI 2)) (M' := M) (ci := 2) (C := nr_MO) (T := nt_MO) (N := 10) (ty := .int) fx nt_MO_in nt_MO_ty nt_MO_ok nt_MO_nm 8 rfl rfl 0 (by decide) nf_MO_27 rfl (by decide +kernel) rfl rfl (Nat.le_of_ble_eq_true rfl) nd_MO_count_25 (sy_putU 0 _ rfl) ?_
      refine vv_mem (M9 := M) (U9 := me_up U 4 0 2) (rfl) (rfl) ?_
      refine vv_aload_n fx nd_MO_count_28 rfl 0 rfl ?_
      refine vv_get (ci := 2) (C := nr_MO) (T := nt_MO) (N := 10) fx nt_MO_in 8 rfl rfl 0 (by decide) nf_MO_27 rfl nd_MO_count_29 ?_
      refine vv_top (y := 2) (me_up_s _ _ _ _) ?_
      refine vv_if_le (tgt := 39) fx nd_MO_count_32 (by decide) (fun hb => absurd hb (by decide)) (fun _ => ?_)
      refine vv_iconst (v := nI 0) fx nd_MO_count_35 (by decide) ?_
      refine vv_goto (tgt := 47) fx nd_MO_count_36 (by decide) ?_
      exact vv_iret fx rfl nd_MO_count_47 (rfl)
    · have hm := b01_1 hb17
      obtain ⟨n, hn, rfl⟩ := mo_ism_nat hm
      have ecn : (nI n).toNatClampNeg = n := nI_clamp (by omega)
      have hm2 : ¬ mo_ism U (nI n) = false := by rw [hm]; decide
      refine vv_iconst (v := nI 0) fx nd_MO_count_20 (by decide) ?_
      refine vv_goto (tgt := 25) fx nd_MO_count_21 (by decide) ?_
      refine vv_put (U' := me_up U 4 0 (nI 0)) (M' := M) (ci := 2) (C := nr_MO) (T := nt_MO) (N := 10) (ty := .int) fx nt_MO_in nt_MO_ty nt_MO_ok nt_MO_nm 8 rfl rfl 0 (by decide) nf_MO_27 rfl (by decide +kernel) rfl rfl (Nat.le_of_ble_eq_true rfl) nd_MO_count_25 (sy_putU 0 _ rfl) ?_
      refine vv_mem (M9 := M) (U9 := me_up U 4 0 0) (rfl) (rfl) ?_
      rw [show mo_count U (nI n) = (nI (mo_bi U n 0 64), (me_up U 4 0 0)) from ((if_neg h5).trans (if_neg hm2)).trans (by rw [ecn])]
      refine vv_aload_n fx nd_MO_count_28 rfl 0 rfl ?_
      refine vv_get (ci := 2) (C := nr_MO) (T := nt_MO) (N := 10) fx nt_MO_in 8 rfl rfl 0 (by decide) nf_MO_27 rfl nd_MO_count_29 ?_
      refine vv_top (y := 0) (me_up_s _ _ _ _) ?_
      refine vv_if_le (tgt := 39) fx nd_MO_count_32 (by decide) (fun _ => ?_) (fun hb => absurd (by decide) hb)
      refine vv_aload_n fx nd_MO_count_39 rfl 0 rfl ?_
      refine vv_iload_n fx nd_MO_count_40 rfl 1 rfl ?_
      refine vv_iconst (v := nI 0) fx nd_MO_count_41 (by decide) ?_
      refine vv_bipush (v := nI 64) fx nd_MO_count_42 (by decide) ?_
      refine vv_callVi (C := nr_MO) (T := nt_MO) (N := 10) (ci := 2) fx (cc_MO_boundIn l Y M (me_up U 4 0 0) o n 0 64 (by omega) (by decide)) nm_MO_42 ns_MO_boundIn nv_MO_boundIn nz_MO nc_MO_boundIn ni_MO_boundIn 8 rfl rfl ⟨rfl, rfl, by decide, by decide⟩ ⟨Nat.le_of_ble_eq_true rfl, Nat.le_of_ble_eq_true rfl⟩ (Nat.le_of_ble_eq_true rfl) nd_MO_count_44 rfl ?_
      exact vv_iret fx rfl nd_MO_count_47 (by unfold mo_bi; rw [me_up_n _ _ _ (by decide)])
set_option maxRecDepth 4000 in
theorem cc_MO_nodes (l : Launch) (Y : sy_Y) (M U : me_M) (o : Int64) (h : Int32) (hB : mo_B U) : ct_I l ny_MO_nodes nb_MO_nodes 2 (some .int) { frames := 2, cells := 0, slots := 0, locals := 52 } Y [.ref (Y.2.1 8), .int h] M U o ((mo_nodes U h).1) M ((mo_nodes U h).2) o := by
  refine ct_body (own := nr_MO) (L0 := [(0, .ref (Y.2.1 8)), (1, .int h)]) (by decide) rfl (Nat.le_of_ble_eq_true rfl) rfl ?_
  intro p e s m args below meth c fx
  by_cases h5 : U 4 5 ≠ 0
  · rw [show mo_nodes U h = (0, me_up U 4 0 1) from if_pos h5]
    refine vv_aload_n fx nd_MO_nodes_0 rfl 0 rfl ?_
    refine vv_aload_n fx nd_MO_nodes_1 rfl 0 rfl ?_
    refine vv_get (ci := 2) (C := nr_MO) (T := nt_MO) (N := 10) fx nt_MO_in 8 rfl rfl 9 (by decide) nf_MO_66 rfl nd_MO_nodes_2 ?_
    refine vv_if_eq (tgt := 12) fx nd_MO_nodes_5 (by decide) (fun hb => absurd hb (h5)) (fun _ => ?_)
    refine vv_iconst (v := nI 1) fx nd_MO_nodes_8 (by decide) ?_
    refine vv_goto (tgt := 25) fx nd_MO_nodes_9 (by decide) ?_
    refine vv_put (U' := me_up U 4 0 (nI 1)) (M' := M) (ci := 2) (C := nr_MO) (T := nt_MO) (N := 10) (ty := .int) fx nt_MO_in nt_MO_ty nt_MO_ok nt_MO_nm 8 rfl rfl 0 (by decide) nf_MO_27 rfl (by decide +kernel) rfl rfl (Nat.le_of_ble_eq_true rfl) nd_MO_nodes_25 (sy_putU 0 _ rfl) ?_
    refine vv_mem (M9 := M) (U9 := me_up U 4 0 1) (rfl) (rfl) ?_
    refine vv_aload_n fx nd_MO_nodes_28 rfl 0 rfl ?_
    refine vv_get (ci := 2) (C := nr_MO) (T := nt_MO) (N := 10) fx nt_MO_in 8 rfl rfl 0 (by decide) nf_MO_27 rfl nd_MO_nodes_29 ?_
    refine vv_top (y := 1) (me_up_s _ _ _ _) ?_
    refine vv_if_le (tgt := 39) fx nd_MO_nodes_32 (by decide) (fun hb => absurd hb (by decide)) (fun _ => ?_)
    refine vv_iconst (v := nI 0) fx nd_MO_nodes_35 (by decide) ?_
    refine vv_goto (tgt := 47) fx nd_MO_nodes_36 (by decide) ?_
    exact vv_iret fx rfl nd_MO_nodes_47 (rfl)
  · have h5z : U 4 5 = 0 := Classical.not_not.mp h5
    refine vv_aload_n fx nd_MO_nodes_0 rfl 0 rfl ?_
    refine vv_aload_n fx nd_MO_nodes_1 rfl 0 rfl ?_
    refine vv_get (ci := 2) (C := nr_MO) (T := nt_MO) (N := 10) fx nt_MO_in 8 rfl rfl 9 (by decide) nf_MO_66 rfl nd_MO_nodes_2 ?_
    refine vv_if_eq (tgt := 12) fx nd_MO_nodes_5 (by decide) (fun _ => ?_) (fun hb => absurd (h5z) hb)
    refine vv_aload_n fx nd_MO_nodes_12 rfl 0 rfl ?_
    refine vv_iload_n fx nd_MO_nodes_13 rfl 1 rfl ?_
    refine vv_callVi (C := nr_MO) (T := nt_MO) (N := 10) (ci := 2) fx (cc_MO_isMap l Y M U o h) nm_MO_30 ns_MO_isMap nv_MO_isMap nz_MO nc_MO_isMap ni_MO_isMap 8 rfl rfl ⟨rfl, rfl, by decide, by decide⟩ ⟨Nat.le_of_ble_eq_true rfl, Nat.le_of_ble_eq_true rfl⟩ (Nat.le_of_ble_eq_true rfl) nd_MO_nodes_14 rfl ?_
    refine vv_if_eq (tgt := 24) fx nd_MO_nodes_17 (by decide) (fun hb17 => ?_) (fun hb17 => ?_)
    · rw [show mo_nodes U h = (0, me_up U 4 0 2) from (if_neg h5).trans (if_pos (b01_0 hb17))]
      refine vv_iconst (v := nI 2) fx nd_MO_nodes_24 (by decide) ?_
      refine vv_put (U' := me_up U 4 0 (nI 2)) (M' := M) (ci := 2) (C := nr_MO) (T := nt_MO) (N := 10) (ty := .int) fx nt_MO_in nt_MO_ty nt_MO_ok nt_MO_nm 8 rfl rfl 0 (by decide) nf_MO_27 rfl (by decide +kernel) rfl rfl (Nat.le_of_ble_eq_true rfl) nd_MO_nodes_25 (sy_putU 0 _ rfl) ?_
      refine vv_mem (M9 := M) (U9 := me_up U 4 0 2) (rfl) (rfl) ?_
      refine vv_aload_n fx nd_MO_nodes_28 rfl 0 rfl ?_
      refine vv_get (ci := 2) (C := nr_MO) (T := nt_MO) (N := 10) fx nt_MO_in 8 rfl rfl 0 (by decide) nf_MO_27 rfl nd_MO_nodes_29 ?_
      refine vv_top (y := 2) (me_up_s _ _ _ _) ?_
      refine vv_if_le (tgt := 39) fx nd_MO_nodes_32 (by decide) (fun hb => absurd hb (by decide)) (fun _ => ?_)
      refine vv_iconst (v := nI 0) fx nd_MO_nodes_35 (by decide) ?_
      refine vv_goto (tgt := 47) fx nd_MO_nodes_36 (by decide) ?_
      exact vv_iret fx rfl nd_MO_nodes_47 (rfl)
    · have hm := b01_1 hb17
      obtain ⟨n, hn, rfl⟩ := mo_ism_nat hm
      have ecn : (nI n).toNatClampNeg = n := nI_clamp (by omega)
      have hm2 : ¬ mo_ism U (nI n) = false := by rw [hm]; decide
      refine vv_iconst (v := nI 0) fx nd_MO_nodes_20 (by decide) ?_
      refine vv_goto (tgt := 25) fx nd_MO_nodes_21 (by decide) ?_
      refine vv_put (U' := me_up U 4 0 (nI 0)) (M' := M) (ci := 2) (C := nr_MO) (T := nt_MO) (N := 10) (ty := .int) fx nt_MO_in nt_MO_ty nt_MO_ok nt_MO_nm 8 rfl rfl 0 (by decide) nf_MO_27 rfl (by decide +kernel) rfl rfl (Nat.le_of_ble_eq_true rfl) nd_MO_nodes_25 (sy_putU 0 _ rfl) ?_
      refine vv_mem (M9 := M) (U9 := me_up U 4 0 0) (rfl) (rfl) ?_
      rw [show mo_nodes U (nI n) = (nI (mo_df U n 1 21), (me_up U 4 0 0)) from ((if_neg h5).trans (if_neg hm2)).trans (by rw [ecn])]
      refine vv_aload_n fx nd_MO_nodes_28 rfl 0 rfl ?_
      refine vv_get (ci := 2) (C := nr_MO) (T := nt_MO) (N := 10) fx nt_MO_in 8 rfl rfl 0 (by decide) nf_MO_27 rfl nd_MO_nodes_29 ?_
      refine vv_top (y := 0) (me_up_s _ _ _ _) ?_
      refine vv_if_le (tgt := 39) fx nd_MO_nodes_32 (by decide) (fun _ => ?_) (fun hb => absurd (by decide) hb)
      refine vv_aload_n fx nd_MO_nodes_39 rfl 0 rfl ?_
      refine vv_iload_n fx nd_MO_nodes_40 rfl 1 rfl ?_
      refine vv_iload_n fx nd_MO_nodes_41 rfl 1 rfl ?_
      refine vv_iconst (v := nI 1) fx nd_MO_nodes_42 (by decide) ?_
      refine vv_iadd fx nd_MO_nodes_43 ?_
      refine vv_top (y := nI (n + 1)) (nI_add _ _) ?_
      refine vv_callVi (C := nr_MO) (T := nt_MO) (N := 10) (ci := 2) fx (cc_MO_diff l Y M (me_up U 4 0 0) o n (n + 1) 1 rfl (by omega)) nm_MO_38 ns_MO_different nv_MO_different nz_MO nc_MO_different ni_MO_different 8 rfl rfl ⟨rfl, rfl, by decide, by decide⟩ ⟨Nat.le_of_ble_eq_true rfl, Nat.le_of_ble_eq_true rfl⟩ (Nat.le_of_ble_eq_true rfl) nd_MO_nodes_44 rfl ?_
      exact vv_iret fx rfl nd_MO_nodes_47 (by rw [mo_df_of (me_up_n _ _ _ (by decide))])
set_option maxRecDepth 4000 in
theorem cc_MO_shared (l : Launch) (Y : sy_Y) (M U : me_M) (o : Int64) (a b : Int32) (hB : mo_B U) : ct_I l ny_MO_shared nb_MO_shared 6 (some .int) { frames := 1, cells := 0, slots := 0, locals := 21 } Y [.ref (Y.2.1 8), .int a, .int b] M U o ((mo_shared U a b).1) M ((mo_shared U a b).2) o := by
  refine ct_body (own := nr_MO) (L0 := [(0, .ref (Y.2.1 8)), (1, .int a), (2, .int b)]) (by decide) rfl (Nat.le_of_ble_eq_true rfl) rfl ?_
  intro p e s m args below meth c fx
  by_cases h5 : U 4 5 ≠ 0
  · refine vv_aload_n fx nd_MO_shared_0 rfl 0 rfl ?_
    refine vv_aload_n fx nd_MO_shared_1 rfl 0 rfl ?_
    refine vv_get (ci := 2) (C := nr_MO) (T := nt_MO) (N := 10) fx nt_MO_in 8 rfl rfl 9 (by decide) nf_MO_66 rfl nd_MO_shared_2 ?_
    refine vv_if_eq (tgt := 12) fx nd_MO_shared_5 (by decide) (fun hb => absurd hb (h5)) (fun _ => ?_)
    rw [show mo_shared U a b = (0, me_up U 4 0 1) from if_pos h5]
    refine vv_iconst (v := nI 1) fx nd_MO_shared_8 (by decide) ?_
    refine vv_goto (tgt := 33) fx nd_MO_shared_9 (by decide) ?_
    refine vv_put (U' := me_up U 4 0 (nI 1)) (M' := M) (ci := 2) (C := nr_MO) (T := nt_MO) (N := 10) (ty := .int) fx nt_MO_in nt_MO_ty nt_MO_ok nt_MO_nm 8 rfl rfl 0 (by decide) nf_MO_27 rfl (by decide +kernel) rfl rfl (Nat.le_of_ble_eq_true rfl) nd_MO_shared_33 (sy_putU 0 _ rfl) ?_
    refine vv_mem (M9 := M) (U9 := me_up U 4 0 1) (rfl) (rfl) ?_
    refine vv_iconst (v := nI 0) fx nd_MO_shared_36 (by decide) ?_
    refine vv_istore_n (L' := [(0, .ref (Y.2.1 8)), (1, .int a), (2, .int b), (3, .int (nI 0))]) fx nd_MO_shared_37 rfl (by decide) [1, 2, 3, 0] rfl ?_
    refine vv_iconst (v := nI 0) fx nd_MO_shared_38 (by decide) ?_
    refine vv_istore (L' := [(0, .ref (Y.2.1 8)), (1, .int a), (2, .int b), (3, .int (nI 0)), (4, .int (nI 0))]) fx nd_MO_shared_39 (by decide) [1, 2, 3, 4, 0] rfl ?_
    refine vv_iload fx nd_MO_shared_41 4 rfl ?_
    refine vv_bipush (v := nI 21) fx nd_MO_shared_43 (by decide) ?_
    refine vv_icmp_ge (tgt := 105) fx nd_MO_shared_45 (by decide) (fun hb => absurd hb (nI_ge (by decide) (by decide))) (fun _ => ?_)
    refine vv_aload_n fx nd_MO_shared_48 rfl 0 rfl ?_
    refine vv_get (ci := 2) (C := nr_MO) (T := nt_MO) (N := 10) fx nt_MO_in 8 rfl rfl 0 (by decide) nf_MO_27 rfl nd_MO_shared_49 ?_
    refine vv_top (y := 1) (me_up_s _ _ _ _) ?_
    refine vv_if_ne (tgt := 105) fx nd_MO_shared_52 (by decide) (fun _ => ?_) (fun hb => absurd hb (by decide))
    refine vv_iload_n fx nd_MO_shared_105 rfl 3 rfl ?_
    exact vv_iret fx rfl nd_MO_shared_106 (rfl)
  · have h5z : U 4 5 = 0 := Classical.not_not.mp h5
    refine vv_aload_n fx nd_MO_shared_0 rfl 0 rfl ?_
    refine vv_aload_n fx nd_MO_shared_1 rfl 0 rfl ?_
    refine vv_get (ci := 2) (C := nr_MO) (T := nt_MO) (N := 10) fx nt_MO_in 8 rfl rfl 9 (by decide) nf_MO_66 rfl nd_MO_shared_2 ?_
    refine vv_if_eq (tgt := 12) fx nd_MO_shared_5 (by decide) (fun _ => ?_) (fun hb => absurd (h5z) hb)
    refine vv_aload_n fx nd_MO_shared_12 rfl 0 rfl ?_
    refine vv_iload_n fx nd_MO_shared_13 rfl 1 rfl ?_
    refine vv_callVi (C := nr_MO) (T := nt_MO) (N := 10) (ci := 2) fx (cc_MO_isMap l Y M U o a) nm_MO_30 ns_MO_isMap nv_MO_isMap nz_MO nc_MO_isMap ni_MO_isMap 8 rfl rfl ⟨rfl, rfl, by decide, by decide⟩ ⟨Nat.le_of_ble_eq_true rfl, Nat.le_of_ble_eq_true rfl⟩ (Nat.le_of_ble_eq_true rfl) nd_MO_shared_14 rfl ?_
    refine vv_if_eq (tgt := 32) fx nd_MO_shared_17 (by decide) (fun hb17 => ?_) (fun hb17 => ?_)
    · rw [show mo_shared U a b = (0, me_up U 4 0 2) from (if_neg h5).trans (if_pos (by rw [b01_0 hb17]; rfl))]
      refine vv_iconst (v := nI 2) fx nd_MO_shared_32 (by decide) ?_
      refine vv_put (U' := me_up U 4 0 (nI 2)) (M' := M) (ci := 2) (C := nr_MO) (T := nt_MO) (N := 10) (ty := .int) fx nt_MO_in nt_MO_ty nt_MO_ok nt_MO_nm 8 rfl rfl 0 (by decide) nf_MO_27 rfl (by decide +kernel) rfl rfl (Nat.le_of_ble_eq_true rfl) nd_MO_shared_33 (sy_putU 0 _ rfl) ?_
      refine vv_mem (M9 := M) (U9 := me_up U 4 0 2) (rfl) (rfl) ?_
      refine vv_iconst (v := nI 0) fx nd_MO_shared_36 (by decide) ?_
      refine vv_istore_n (L' := [(0, .ref (Y.2.1 8)), (1, .int a), (2, .int b), (3, .int (nI 0))]) fx nd_MO_shared_37 rfl (by decide) [1, 2, 3, 0] rfl ?_
      refine vv_iconst (v := nI 0) fx nd_MO_shared_38 (by decide) ?_
      refine vv_istore (L' := [(0, .ref (Y.2.1 8)), (1, .int a), (2, .int b), (3, .int (nI 0)), (4, .int (nI 0))]) fx nd_MO_shared_39 (by decide) [1, 2, 3, 4, 0] rfl ?_
      refine vv_iload fx nd_MO_shared_41 4 rfl ?_
      refine vv_bipush (v := nI 21) fx nd_MO_shared_43 (by decide) ?_
      refine vv_icmp_ge (tgt := 105) fx nd_MO_shared_45 (by decide) (fun hb => absurd hb (nI_ge (by decide) (by decide))) (fun _ => ?_)
      refine vv_aload_n fx nd_MO_shared_48 rfl 0 rfl ?_
      refine vv_get (ci := 2) (C := nr_MO) (T := nt_MO) (N := 10) fx nt_MO_in 8 rfl rfl 0 (by decide) nf_MO_27 rfl nd_MO_shared_49 ?_
      refine vv_top (y := 2) (me_up_s _ _ _ _) ?_
      refine vv_if_ne (tgt := 105) fx nd_MO_shared_52 (by decide) (fun _ => ?_) (fun hb => absurd hb (by decide))
      refine vv_iload_n fx nd_MO_shared_105 rfl 3 rfl ?_
      exact vv_iret fx rfl nd_MO_shared_106 (rfl)
    · refine vv_aload_n fx nd_MO_shared_20 rfl 0 rfl ?_
      refine vv_iload_n fx nd_MO_shared_21 rfl 2 rfl ?_
      refine vv_callVi (C := nr_MO) (T := nt_MO) (N := 10) (ci := 2) fx (cc_MO_isMap l Y M U o b) nm_MO_30 ns_MO_isMap nv_MO_isMap nz_MO nc_MO_isMap ni_MO_isMap 8 rfl rfl ⟨rfl, rfl, by decide, by decide⟩ ⟨Nat.le_of_ble_eq_true rfl, Nat.le_of_ble_eq_true rfl⟩ (Nat.le_of_ble_eq_true rfl) nd_MO_shared_22 rfl ?_
      refine vv_if_eq (tgt := 32) fx nd_MO_shared_25 (by decide) (fun hb25 => ?_) (fun hb25 => ?_)
      · rw [show mo_shared U a b = (0, me_up U 4 0 2) from (if_neg h5).trans (if_pos (by rw [b01_0 hb25, Bool.and_false]))]
        refine vv_iconst (v := nI 2) fx nd_MO_shared_32 (by decide) ?_
        refine vv_put (U' := me_up U 4 0 (nI 2)) (M' := M) (ci := 2) (C := nr_MO) (T := nt_MO) (N := 10) (ty := .int) fx nt_MO_in nt_MO_ty nt_MO_ok nt_MO_nm 8 rfl rfl 0 (by decide) nf_MO_27 rfl (by decide +kernel) rfl rfl (Nat.le_of_ble_eq_true rfl) nd_MO_shared_33 (sy_putU 0 _ rfl) ?_
        refine vv_mem (M9 := M) (U9 := me_up U 4 0 2) (rfl) (rfl) ?_
        refine vv_iconst (v := nI 0) fx nd_MO_shared_36 (by decide) ?_
        refine vv_istore_n (L' := [(0, .ref (Y.2.1 8)), (1, .int a), (2, .int b), (3, .int (nI 0))]) fx nd_MO_shared_37 rfl (by decide) [1, 2, 3, 0] rfl ?_
        refine vv_iconst (v := nI 0) fx nd_MO_shared_38 (by decide) ?_
        refine vv_istore (L' := [(0, .ref (Y.2.1 8)), (1, .int a), (2, .int b), (3, .int (nI 0)), (4, .int (nI 0))]) fx nd_MO_shared_39 (by decide) [1, 2, 3, 4, 0] rfl ?_
        refine vv_iload fx nd_MO_shared_41 4 rfl ?_
        refine vv_bipush (v := nI 21) fx nd_MO_shared_43 (by decide) ?_
        refine vv_icmp_ge (tgt := 105) fx nd_MO_shared_45 (by decide) (fun hb => absurd hb (nI_ge (by decide) (by decide))) (fun _ => ?_)
        refine vv_aload_n fx nd_MO_shared_48 rfl 0 rfl ?_
        refine vv_get (ci := 2) (C := nr_MO) (T := nt_MO) (N := 10) fx nt_MO_in 8 rfl rfl 0 (by decide) nf_MO_27 rfl nd_MO_shared_49 ?_
        refine vv_top (y := 2) (me_up_s _ _ _ _) ?_
        refine vv_if_ne (tgt := 105) fx nd_MO_shared_52 (by decide) (fun _ => ?_) (fun hb => absurd hb (by decide))
        refine vv_iload_n fx nd_MO_shared_105 rfl 3 rfl ?_
        exact vv_iret fx rfl nd_MO_shared_106 (rfl)
      · have ha := b01_1 hb17
        have hb := b01_1 hb25
        obtain ⟨an, an7, rfl⟩ := mo_ism_nat ha
        obtain ⟨bn, bn7, rfl⟩ := mo_ism_nat hb
        have ea : (nI an).toNatClampNeg = an := nI_clamp (by omega)
        have eb : (nI bn).toNatClampNeg = bn := nI_clamp (by omega)
        have hab : ¬ (mo_ism U (nI an) && mo_ism U (nI bn)) = false := by rw [ha, hb]; decide
        refine vv_iconst (v := nI 0) fx nd_MO_shared_28 (by decide) ?_
        refine vv_goto (tgt := 33) fx nd_MO_shared_29 (by decide) ?_
        refine vv_put (U' := me_up U 4 0 (nI 0)) (M' := M) (ci := 2) (C := nr_MO) (T := nt_MO) (N := 10) (ty := .int) fx nt_MO_in nt_MO_ty nt_MO_ok nt_MO_nm 8 rfl rfl 0 (by decide) nf_MO_27 rfl (by decide +kernel) rfl rfl (Nat.le_of_ble_eq_true rfl) nd_MO_shared_33 (sy_putU 0 _ rfl) ?_
        refine vv_mem (M9 := M) (U9 := me_up U 4 0 0) (rfl) (rfl) ?_
        rw [show mo_shared U (nI an) (nI bn) = (nI (me_cn (fun p => decide (0 < U 3 (21 * an + p)) && decide (U 3 (21 * bn + p) = U 3 (21 * an + p))) 21), (me_up U 4 0 0)) from ((if_neg h5).trans (if_neg hab)).trans (by rw [ea, eb])]
        refine vv_iconst (v := nI 0) fx nd_MO_shared_36 (by decide) ?_
        refine vv_istore_n (L' := [(0, .ref (Y.2.1 8)), (1, .int (nI an)), (2, .int (nI bn)), (3, .int (nI 0))]) fx nd_MO_shared_37 rfl (by decide) [1, 2, 3, 0] rfl ?_
        refine vv_iconst (v := nI 0) fx nd_MO_shared_38 (by decide) ?_
        refine vv_istore (L' := [(0, .ref (Y.2.1 8)), (1, .int (nI an)), (2, .int (nI bn)), (3, .int (nI 0)), (4, .int (nI 0))]) fx nd_MO_shared_39 (by decide) [1, 2, 3, 4, 0] rfl ?_
        have loop : ∀ d i, i + d = 21 → vv p l e { frames := 1, cells := 0, slots := 0, locals := 21 } s m args below meth c 0 0 (MQ below (ct_Qi Y (nI (me_cn (fun p => decide (0 < U 3 (21 * an + p)) && decide (U 3 (21 * bn + p) = U 3 (21 * an + p))) 21)) M (me_up U 4 0 0) o) args s 0 0 Y.2.2.2) 6 Y M (me_up U 4 0 0) o 41 [(0, .ref (Y.2.1 8)), (1, .int (nI an)), (2, .int (nI bn)), (3, .int (nI (me_cn (fun p => decide (0 < U 3 (21 * an + p)) && decide (U 3 (21 * bn + p) = U 3 (21 * an + p))) i))), (4, .int (nI i))] [] := by
          intro d
          induction d with
          | zero =>
            intro i hi
            have e9 : i = 21 := by omega
            subst e9
            refine vv_iload fx nd_MO_shared_41 4 rfl ?_
            refine vv_bipush (v := nI 21) fx nd_MO_shared_43 (by decide) ?_
            refine vv_icmp_ge (tgt := 105) fx nd_MO_shared_45 (by decide) (fun _ => ?_) (fun hb => absurd (nI_le (by omega) (by omega)) hb)
            refine vv_iload_n fx nd_MO_shared_105 rfl 3 rfl ?_
            exact vv_iret fx rfl nd_MO_shared_106 (rfl)
          | succ d ih_loop =>
            intro i hi
            have ev : me_cn (fun p => decide (0 < U 3 (21 * an + p)) && decide (U 3 (21 * bn + p) = U 3 (21 * an + p))) (i + 1) = me_cn (fun p => decide (0 < U 3 (21 * an + p)) && decide (U 3 (21 * bn + p) = U 3 (21 * an + p))) i + if (decide (0 < (U 3 (21 * an + i))) && decide ((U 3 (21 * bn + i)) = (U 3 (21 * an + i)))) = true then 1 else 0 := rfl
            refine vv_iload fx nd_MO_shared_41 4 rfl ?_
            refine vv_bipush (v := nI 21) fx nd_MO_shared_43 (by decide) ?_
            refine vv_icmp_ge (tgt := 105) fx nd_MO_shared_45 (by decide) (fun hb => absurd hb (nI_ge (by omega) (by omega))) (fun _ => ?_)
            refine vv_aload_n fx nd_MO_shared_48 rfl 0 rfl ?_
            refine vv_get (ci := 2) (C := nr_MO) (T := nt_MO) (N := 10) fx nt_MO_in 8 rfl rfl 0 (by decide) nf_MO_27 rfl nd_MO_shared_49 ?_
            refine vv_top (y := 0) (me_up_s _ _ _ _) ?_
            refine vv_if_ne (tgt := 105) fx nd_MO_shared_52 (by decide) (fun hb => absurd (rfl) hb) (fun _ => ?_)
            refine vv_aload_n fx nd_MO_shared_55 rfl 0 rfl ?_
            refine vv_get (ci := 2) (C := nr_MO) (T := nt_MO) (N := 10) fx nt_MO_in 8 rfl rfl 4 (by decide) nf_MO_20 rfl nd_MO_shared_56 ?_
            refine vv_bipush (v := nI 21) fx nd_MO_shared_59 (by decide) ?_
            refine vv_iload_n fx nd_MO_shared_61 rfl 1 rfl ?_
            refine vv_imul fx nd_MO_shared_62 ?_
            refine vv_top (y := nI (21 * an)) (pk_mul _ _) ?_
            refine vv_iload fx nd_MO_shared_63 4 rfl ?_
            refine vv_iadd fx nd_MO_shared_65 ?_
            refine vv_top (y := nI ((21 * an) + i)) (nI_add _ _) ?_
            refine vv_iald fx 12 0 rfl rfl (by omega) (by decide) nd_MO_shared_66 ?_
            refine vv_top (y := U 3 (21 * an + i)) (congrFun (me_up_n _ _ _ (by decide)) _) ?_
            refine vv_istore (L' := [(0, .ref (Y.2.1 8)), (1, .int (nI an)), (2, .int (nI bn)), (3, .int (nI (me_cn (fun p => decide (0 < U 3 (21 * an + p)) && decide (U 3 (21 * bn + p) = U 3 (21 * an + p))) i))), (4, .int (nI i)), (5, .int (U 3 (21 * an + i)))]) fx nd_MO_shared_67 (by decide) [1, 2, 3, 4, 5, 0] rfl ?_
            refine vv_iload fx nd_MO_shared_69 5 rfl ?_
            refine vv_if_le (tgt := 97) fx nd_MO_shared_71 (by decide) (fun hb71 => ?_) (fun hb71 => ?_)
            · rw [decide_eq_false (p := 0 < (U 3 (21 * an + i))) (Int32.not_lt.mpr hb71), Bool.false_and, if_neg (by decide), Nat.add_zero] at ev
              refine vv_iload_n fx nd_MO_shared_97 rfl 3 rfl ?_
              refine vv_istore_n (L' := [(0, .ref (Y.2.1 8)), (1, .int (nI an)), (2, .int (nI bn)), (3, .int (nI (me_cn (fun p => decide (0 < U 3 (21 * an + p)) && decide (U 3 (21 * bn + p) = U 3 (21 * an + p))) i))), (4, .int (nI i)), (5, .int (U 3 (21 * an + i)))]) fx nd_MO_shared_98 rfl (by decide) [1, 2, 3, 0, 4, 5] rfl ?_
              refine vv_iinc (v := nI (i + 1)) (L' := [(0, .ref (Y.2.1 8)), (1, .int (nI an)), (2, .int (nI bn)), (3, .int (nI (me_cn (fun p => decide (0 < U 3 (21 * an + p)) && decide (U 3 (21 * bn + p) = U 3 (21 * an + p))) i))), (4, .int (nI (i + 1))), (5, .int (U 3 (21 * an + i)))]) fx nd_MO_shared_99 4 rfl (nI_1 i) (by decide) [1, 2, 3, 4, 0, 5] rfl ?_
              refine vv_goto (tgt := 41) fx nd_MO_shared_102 (by decide) ?_
              refine vv_loc (L' := [(0, .ref (Y.2.1 8)), (1, .int (nI an)), (2, .int (nI bn)), (3, .int (nI (me_cn (fun p => decide (0 < U 3 (21 * an + p)) && decide (U 3 (21 * bn + p) = U 3 (21 * an + p))) i))), (4, .int (nI (i + 1)))]) [0, 1, 2, 3, 4] rfl ?_
              have h9 := ih_loop (i + 1) (by omega)
              rw [ev] at h9
              exact h9
            · refine vv_aload_n fx nd_MO_shared_74 rfl 0 rfl ?_
              refine vv_get (ci := 2) (C := nr_MO) (T := nt_MO) (N := 10) fx nt_MO_in 8 rfl rfl 4 (by decide) nf_MO_20 rfl nd_MO_shared_75 ?_
              refine vv_bipush (v := nI 21) fx nd_MO_shared_78 (by decide) ?_
              refine vv_iload_n fx nd_MO_shared_80 rfl 2 rfl ?_
              refine vv_imul fx nd_MO_shared_81 ?_
              refine vv_top (y := nI (21 * bn)) (pk_mul _ _) ?_
              refine vv_iload fx nd_MO_shared_82 4 rfl ?_
              refine vv_iadd fx nd_MO_shared_84 ?_
              refine vv_top (y := nI ((21 * bn) + i)) (nI_add _ _) ?_
              refine vv_iald fx 12 0 rfl rfl (by omega) (by decide) nd_MO_shared_85 ?_
              refine vv_top (y := U 3 (21 * bn + i)) (congrFun (me_up_n _ _ _ (by decide)) _) ?_
              refine vv_iload fx nd_MO_shared_86 5 rfl ?_
              refine vv_icmp_ne (tgt := 97) fx nd_MO_shared_88 (by decide) (fun hb88 => ?_) (fun hb88 => ?_)
              · rw [decide_eq_false (p := (U 3 (21 * bn + i)) = (U 3 (21 * an + i))) hb88, Bool.and_false, if_neg (by decide), Nat.add_zero] at ev
                refine vv_iload_n fx nd_MO_shared_97 rfl 3 rfl ?_
                refine vv_istore_n (L' := [(0, .ref (Y.2.1 8)), (1, .int (nI an)), (2, .int (nI bn)), (3, .int (nI (me_cn (fun p => decide (0 < U 3 (21 * an + p)) && decide (U 3 (21 * bn + p) = U 3 (21 * an + p))) i))), (4, .int (nI i)), (5, .int (U 3 (21 * an + i)))]) fx nd_MO_shared_98 rfl (by decide) [1, 2, 3, 0, 4, 5] rfl ?_
                refine vv_iinc (v := nI (i + 1)) (L' := [(0, .ref (Y.2.1 8)), (1, .int (nI an)), (2, .int (nI bn)), (3, .int (nI (me_cn (fun p => decide (0 < U 3 (21 * an + p)) && decide (U 3 (21 * bn + p) = U 3 (21 * an + p))) i))), (4, .int (nI (i + 1))), (5, .int (U 3 (21 * an + i)))]) fx nd_MO_shared_99 4 rfl (nI_1 i) (by decide) [1, 2, 3, 4, 0, 5] rfl ?_
                refine vv_goto (tgt := 41) fx nd_MO_shared_102 (by decide) ?_
                refine vv_loc (L' := [(0, .ref (Y.2.1 8)), (1, .int (nI an)), (2, .int (nI bn)), (3, .int (nI (me_cn (fun p => decide (0 < U 3 (21 * an + p)) && decide (U 3 (21 * bn + p) = U 3 (21 * an + p))) i))), (4, .int (nI (i + 1)))]) [0, 1, 2, 3, 4] rfl ?_
                have h9 := ih_loop (i + 1) (by omega)
                rw [ev] at h9
                exact h9
              · rw [decide_eq_true (p := (U 3 (21 * bn + i)) = (U 3 (21 * an + i))) hb88, decide_eq_true (p := 0 < (U 3 (21 * an + i))) (Int32.not_le.mp hb71), if_pos (by decide)] at ev
                refine vv_iload_n fx nd_MO_shared_91 rfl 3 rfl ?_
                refine vv_iconst (v := nI 1) fx nd_MO_shared_92 (by decide) ?_
                refine vv_iadd fx nd_MO_shared_93 ?_
                refine vv_top (y := nI ((me_cn (fun p => decide (0 < U 3 (21 * an + p)) && decide (U 3 (21 * bn + p) = U 3 (21 * an + p))) i) + 1)) (nI_add _ _) ?_
                refine vv_goto (tgt := 98) fx nd_MO_shared_94 (by decide) ?_
                refine vv_istore_n (L' := [(0, .ref (Y.2.1 8)), (1, .int (nI an)), (2, .int (nI bn)), (3, .int (nI ((me_cn (fun p => decide (0 < U 3 (21 * an + p)) && decide (U 3 (21 * bn + p) = U 3 (21 * an + p))) i) + 1))), (4, .int (nI i)), (5, .int (U 3 (21 * an + i)))]) fx nd_MO_shared_98 rfl (by decide) [1, 2, 3, 0, 4, 5] rfl ?_
                refine vv_iinc (v := nI (i + 1)) (L' := [(0, .ref (Y.2.1 8)), (1, .int (nI an)), (2, .int (nI bn)), (3, .int (nI ((me_cn (fun p => decide (0 < U 3 (21 * an + p)) && decide (U 3 (21 * bn + p) = U 3 (21 * an + p))) i) + 1))), (4, .int (nI (i + 1))), (5, .int (U 3 (21 * an + i)))]) fx nd_MO_shared_99 4 rfl (nI_1 i) (by decide) [1, 2, 3, 4, 0, 5] rfl ?_
                refine vv_goto (tgt := 41) fx nd_MO_shared_102 (by decide) ?_
                refine vv_loc (L' := [(0, .ref (Y.2.1 8)), (1, .int (nI an)), (2, .int (nI bn)), (3, .int (nI ((me_cn (fun p => decide (0 < U 3 (21 * an + p)) && decide (U 3 (21 * bn + p) = U 3 (21 * an + p))) i) + 1))), (4, .int (nI (i + 1)))]) [0, 1, 2, 3, 4] rfl ?_
                have h9 := ih_loop (i + 1) (by omega)
                rw [ev] at h9
                exact h9
        exact loop 21 0 (by omega)
theorem mo_al1 {U : me_M} {a b k : Nat} (h : ¬ U 1 (64 * a + k) = U 1 (64 * b + k)) (h1 : U 1 (64 * a + k) = 0 ∨ U 1 (64 * a + k) = 1) (h2 : U 1 (64 * b + k) = 0 ∨ U 1 (64 * b + k) = 1) : mo_alike U a b k = false := by
  unfold mo_alike
  rcases h1 with h1 | h1 <;> rcases h2 with h2 | h2 <;> rw [h1, h2] at h ⊢ <;> first | exact absurd rfl h | rfl
theorem mo_al2 {U : me_M} {a b k : Nat} (h : U 1 (64 * a + k) = U 1 (64 * b + k)) (h0 : U 1 (64 * a + k) = 0) : mo_alike U a b k = true := by
  unfold mo_alike
  rw [← h, h0]; rfl
theorem mo_al3 {U : me_M} {a b k : Nat} (h : U 1 (64 * a + k) = U 1 (64 * b + k)) (h0 : ¬ U 1 (64 * a + k) = 0) : mo_alike U a b k = decide (U 2 (64 * a + k) = U 2 (64 * b + k)) := by
  unfold mo_alike
  rw [← h, decide_eq_true (p := U 1 (64 * a + k) ≠ 0) h0]; rfl
set_option maxRecDepth 4000 in
theorem cc_MO_differ (l : Launch) (Y : sy_Y) (M U : me_M) (o : Int64) (a b : Int32) (hB : mo_B U) : ct_I l ny_MO_differ nb_MO_differ 8 (some .int) { frames := 1, cells := 0, slots := 0, locals := 21 } Y [.ref (Y.2.1 8), .int a, .int b] M U o ((mo_differ U a b).1) M ((mo_differ U a b).2) o := by
  refine ct_body (own := nr_MO) (L0 := [(0, .ref (Y.2.1 8)), (1, .int a), (2, .int b)]) (by decide) rfl (Nat.le_of_ble_eq_true rfl) rfl ?_
  intro p e s m args below meth c fx
  by_cases h5 : U 4 5 ≠ 0
  · refine vv_aload_n fx nd_MO_differ_0 rfl 0 rfl ?_
    refine vv_aload_n fx nd_MO_differ_1 rfl 0 rfl ?_
    refine vv_get (ci := 2) (C := nr_MO) (T := nt_MO) (N := 10) fx nt_MO_in 8 rfl rfl 9 (by decide) nf_MO_66 rfl nd_MO_differ_2 ?_
    refine vv_if_eq (tgt := 12) fx nd_MO_differ_5 (by decide) (fun hb => absurd hb (h5)) (fun _ => ?_)
    rw [show mo_differ U a b = (0, me_up U 4 0 1) from if_pos h5]
    refine vv_iconst (v := nI 1) fx nd_MO_differ_8 (by decide) ?_
    refine vv_goto (tgt := 33) fx nd_MO_differ_9 (by decide) ?_
    refine vv_put (U' := me_up U 4 0 (nI 1)) (M' := M) (ci := 2) (C := nr_MO) (T := nt_MO) (N := 10) (ty := .int) fx nt_MO_in nt_MO_ty nt_MO_ok nt_MO_nm 8 rfl rfl 0 (by decide) nf_MO_27 rfl (by decide +kernel) rfl rfl (Nat.le_of_ble_eq_true rfl) nd_MO_differ_33 (sy_putU 0 _ rfl) ?_
    refine vv_mem (M9 := M) (U9 := me_up U 4 0 1) (rfl) (rfl) ?_
    refine vv_iconst (v := nI 0) fx nd_MO_differ_36 (by decide) ?_
    refine vv_istore_n (L' := [(0, .ref (Y.2.1 8)), (1, .int a), (2, .int b), (3, .int (nI 0))]) fx nd_MO_differ_37 rfl (by decide) [1, 2, 3, 0] rfl ?_
    refine vv_iconst (v := nI 0) fx nd_MO_differ_38 (by decide) ?_
    refine vv_istore (L' := [(0, .ref (Y.2.1 8)), (1, .int a), (2, .int b), (3, .int (nI 0)), (4, .int (nI 0))]) fx nd_MO_differ_39 (by decide) [1, 2, 3, 4, 0] rfl ?_
    refine vv_iload fx nd_MO_differ_41 4 rfl ?_
    refine vv_bipush (v := nI 64) fx nd_MO_differ_43 (by decide) ?_
    refine vv_icmp_ge (tgt := 148) fx nd_MO_differ_45 (by decide) (fun hb => absurd hb (nI_ge (by decide) (by decide))) (fun _ => ?_)
    refine vv_aload_n fx nd_MO_differ_48 rfl 0 rfl ?_
    refine vv_get (ci := 2) (C := nr_MO) (T := nt_MO) (N := 10) fx nt_MO_in 8 rfl rfl 0 (by decide) nf_MO_27 rfl nd_MO_differ_49 ?_
    refine vv_top (y := 1) (me_up_s _ _ _ _) ?_
    refine vv_if_ne (tgt := 148) fx nd_MO_differ_52 (by decide) (fun _ => ?_) (fun hb => absurd hb (by decide))
    refine vv_iload_n fx nd_MO_differ_148 rfl 3 rfl ?_
    exact vv_iret fx rfl nd_MO_differ_149 (rfl)
  · have h5z : U 4 5 = 0 := Classical.not_not.mp h5
    refine vv_aload_n fx nd_MO_differ_0 rfl 0 rfl ?_
    refine vv_aload_n fx nd_MO_differ_1 rfl 0 rfl ?_
    refine vv_get (ci := 2) (C := nr_MO) (T := nt_MO) (N := 10) fx nt_MO_in 8 rfl rfl 9 (by decide) nf_MO_66 rfl nd_MO_differ_2 ?_
    refine vv_if_eq (tgt := 12) fx nd_MO_differ_5 (by decide) (fun _ => ?_) (fun hb => absurd (h5z) hb)
    refine vv_aload_n fx nd_MO_differ_12 rfl 0 rfl ?_
    refine vv_iload_n fx nd_MO_differ_13 rfl 1 rfl ?_
    refine vv_callVi (C := nr_MO) (T := nt_MO) (N := 10) (ci := 2) fx (cc_MO_isMap l Y M U o a) nm_MO_30 ns_MO_isMap nv_MO_isMap nz_MO nc_MO_isMap ni_MO_isMap 8 rfl rfl ⟨rfl, rfl, by decide, by decide⟩ ⟨Nat.le_of_ble_eq_true rfl, Nat.le_of_ble_eq_true rfl⟩ (Nat.le_of_ble_eq_true rfl) nd_MO_differ_14 rfl ?_
    refine vv_if_eq (tgt := 32) fx nd_MO_differ_17 (by decide) (fun hb17 => ?_) (fun hb17 => ?_)
    · rw [show mo_differ U a b = (0, me_up U 4 0 2) from (if_neg h5).trans (if_pos (by rw [b01_0 hb17]; rfl))]
      refine vv_iconst (v := nI 2) fx nd_MO_differ_32 (by decide) ?_
      refine vv_put (U' := me_up U 4 0 (nI 2)) (M' := M) (ci := 2) (C := nr_MO) (T := nt_MO) (N := 10) (ty := .int) fx nt_MO_in nt_MO_ty nt_MO_ok nt_MO_nm 8 rfl rfl 0 (by decide) nf_MO_27 rfl (by decide +kernel) rfl rfl (Nat.le_of_ble_eq_true rfl) nd_MO_differ_33 (sy_putU 0 _ rfl) ?_
      refine vv_mem (M9 := M) (U9 := me_up U 4 0 2) (rfl) (rfl) ?_
      refine vv_iconst (v := nI 0) fx nd_MO_differ_36 (by decide) ?_
      refine vv_istore_n (L' := [(0, .ref (Y.2.1 8)), (1, .int a), (2, .int b), (3, .int (nI 0))]) fx nd_MO_differ_37 rfl (by decide) [1, 2, 3, 0] rfl ?_
      refine vv_iconst (v := nI 0) fx nd_MO_differ_38 (by decide) ?_
      refine vv_istore (L' := [(0, .ref (Y.2.1 8)), (1, .int a), (2, .int b), (3, .int (nI 0)), (4, .int (nI 0))]) fx nd_MO_differ_39 (by decide) [1, 2, 3, 4, 0] rfl ?_
      refine vv_iload fx nd_MO_differ_41 4 rfl ?_
      refine vv_bipush (v := nI 64) fx nd_MO_differ_43 (by decide) ?_
      refine vv_icmp_ge (tgt := 148) fx nd_MO_differ_45 (by decide) (fun hb => absurd hb (nI_ge (by decide) (by decide))) (fun _ => ?_)
      refine vv_aload_n fx nd_MO_differ_48 rfl 0 rfl ?_
      refine vv_get (ci := 2) (C := nr_MO) (T := nt_MO) (N := 10) fx nt_MO_in 8 rfl rfl 0 (by decide) nf_MO_27 rfl nd_MO_differ_49 ?_
      refine vv_top (y := 2) (me_up_s _ _ _ _) ?_
      refine vv_if_ne (tgt := 148) fx nd_MO_differ_52 (by decide) (fun _ => ?_) (fun hb => absurd hb (by decide))
      refine vv_iload_n fx nd_MO_differ_148 rfl 3 rfl ?_
      exact vv_iret fx rfl nd_MO_differ_149 (rfl)
    · refine vv_aload_n fx nd_MO_differ_20 rfl 0 rfl ?_
      refine vv_iload_n fx nd_MO_differ_21 rfl 2 rfl ?_
      refine vv_callVi (C := nr_MO) (T := nt_MO) (N := 10) (ci := 2) fx (cc_MO_isMap l Y M U o b) nm_MO_30 ns_MO_isMap nv_MO_isMap nz_MO nc_MO_isMap ni_MO_isMap 8 rfl rfl ⟨rfl, rfl, by decide, by decide⟩ ⟨Nat.le_of_ble_eq_true rfl, Nat.le_of_ble_eq_true rfl⟩ (Nat.le_of_ble_eq_true rfl) nd_MO_differ_22 rfl ?_
      refine vv_if_eq (tgt := 32) fx nd_MO_differ_25 (by decide) (fun hb25 => ?_) (fun hb25 => ?_)
      · rw [show mo_differ U a b = (0, me_up U 4 0 2) from (if_neg h5).trans (if_pos (by rw [b01_0 hb25, Bool.and_false]))]
        refine vv_iconst (v := nI 2) fx nd_MO_differ_32 (by decide) ?_
        refine vv_put (U' := me_up U 4 0 (nI 2)) (M' := M) (ci := 2) (C := nr_MO) (T := nt_MO) (N := 10) (ty := .int) fx nt_MO_in nt_MO_ty nt_MO_ok nt_MO_nm 8 rfl rfl 0 (by decide) nf_MO_27 rfl (by decide +kernel) rfl rfl (Nat.le_of_ble_eq_true rfl) nd_MO_differ_33 (sy_putU 0 _ rfl) ?_
        refine vv_mem (M9 := M) (U9 := me_up U 4 0 2) (rfl) (rfl) ?_
        refine vv_iconst (v := nI 0) fx nd_MO_differ_36 (by decide) ?_
        refine vv_istore_n (L' := [(0, .ref (Y.2.1 8)), (1, .int a), (2, .int b), (3, .int (nI 0))]) fx nd_MO_differ_37 rfl (by decide) [1, 2, 3, 0] rfl ?_
        refine vv_iconst (v := nI 0) fx nd_MO_differ_38 (by decide) ?_
        refine vv_istore (L' := [(0, .ref (Y.2.1 8)), (1, .int a), (2, .int b), (3, .int (nI 0)), (4, .int (nI 0))]) fx nd_MO_differ_39 (by decide) [1, 2, 3, 4, 0] rfl ?_
        refine vv_iload fx nd_MO_differ_41 4 rfl ?_
        refine vv_bipush (v := nI 64) fx nd_MO_differ_43 (by decide) ?_
        refine vv_icmp_ge (tgt := 148) fx nd_MO_differ_45 (by decide) (fun hb => absurd hb (nI_ge (by decide) (by decide))) (fun _ => ?_)
        refine vv_aload_n fx nd_MO_differ_48 rfl 0 rfl ?_
        refine vv_get (ci := 2) (C := nr_MO) (T := nt_MO) (N := 10) fx nt_MO_in 8 rfl rfl 0 (by decide) nf_MO_27 rfl nd_MO_differ_49 ?_
        refine vv_top (y := 2) (me_up_s _ _ _ _) ?_
        refine vv_if_ne (tgt := 148) fx nd_MO_differ_52 (by decide) (fun _ => ?_) (fun hb => absurd hb (by decide))
        refine vv_iload_n fx nd_MO_differ_148 rfl 3 rfl ?_
        exact vv_iret fx rfl nd_MO_differ_149 (rfl)
      · have ha := b01_1 hb17
        have hb := b01_1 hb25
        obtain ⟨an, an7, rfl⟩ := mo_ism_nat ha
        obtain ⟨bn, bn7, rfl⟩ := mo_ism_nat hb
        have ea : (nI an).toNatClampNeg = an := nI_clamp (by omega)
        have eb : (nI bn).toNatClampNeg = bn := nI_clamp (by omega)
        have hab : ¬ (mo_ism U (nI an) && mo_ism U (nI bn)) = false := by rw [ha, hb]; decide
        refine vv_iconst (v := nI 0) fx nd_MO_differ_28 (by decide) ?_
        refine vv_goto (tgt := 33) fx nd_MO_differ_29 (by decide) ?_
        refine vv_put (U' := me_up U 4 0 (nI 0)) (M' := M) (ci := 2) (C := nr_MO) (T := nt_MO) (N := 10) (ty := .int) fx nt_MO_in nt_MO_ty nt_MO_ok nt_MO_nm 8 rfl rfl 0 (by decide) nf_MO_27 rfl (by decide +kernel) rfl rfl (Nat.le_of_ble_eq_true rfl) nd_MO_differ_33 (sy_putU 0 _ rfl) ?_
        refine vv_mem (M9 := M) (U9 := me_up U 4 0 0) (rfl) (rfl) ?_
        rw [show mo_differ U (nI an) (nI bn) = (nI (me_cn (fun k => !mo_alike U an bn k) 64), (me_up U 4 0 0)) from ((if_neg h5).trans (if_neg hab)).trans (by rw [ea, eb])]
        refine vv_iconst (v := nI 0) fx nd_MO_differ_36 (by decide) ?_
        refine vv_istore_n (L' := [(0, .ref (Y.2.1 8)), (1, .int (nI an)), (2, .int (nI bn)), (3, .int (nI 0))]) fx nd_MO_differ_37 rfl (by decide) [1, 2, 3, 0] rfl ?_
        refine vv_iconst (v := nI 0) fx nd_MO_differ_38 (by decide) ?_
        refine vv_istore (L' := [(0, .ref (Y.2.1 8)), (1, .int (nI an)), (2, .int (nI bn)), (3, .int (nI 0)), (4, .int (nI 0))]) fx nd_MO_differ_39 (by decide) [1, 2, 3, 4, 0] rfl ?_
        have loop : ∀ d i, i + d = 64 → vv p l e { frames := 1, cells := 0, slots := 0, locals := 21 } s m args below meth c 0 0 (MQ below (ct_Qi Y (nI (me_cn (fun k => !mo_alike U an bn k) 64)) M (me_up U 4 0 0) o) args s 0 0 Y.2.2.2) 8 Y M (me_up U 4 0 0) o 41 [(0, .ref (Y.2.1 8)), (1, .int (nI an)), (2, .int (nI bn)), (3, .int (nI (me_cn (fun k => !mo_alike U an bn k) i))), (4, .int (nI i))] [] := by
          intro d
          induction d with
          | zero =>
            intro i hi
            have e9 : i = 64 := by omega
            subst e9
            refine vv_iload fx nd_MO_differ_41 4 rfl ?_
            refine vv_bipush (v := nI 64) fx nd_MO_differ_43 (by decide) ?_
            refine vv_icmp_ge (tgt := 148) fx nd_MO_differ_45 (by decide) (fun _ => ?_) (fun hb => absurd (nI_le (by omega) (by omega)) hb)
            refine vv_iload_n fx nd_MO_differ_148 rfl 3 rfl ?_
            exact vv_iret fx rfl nd_MO_differ_149 (rfl)
          | succ d ih_loop =>
            intro i hi
            have ev : me_cn (fun k => !mo_alike U an bn k) (i + 1) = me_cn (fun k => !mo_alike U an bn k) i + if (!mo_alike U an bn i) = true then 1 else 0 := rfl
            refine vv_iload fx nd_MO_differ_41 4 rfl ?_
            refine vv_bipush (v := nI 64) fx nd_MO_differ_43 (by decide) ?_
            refine vv_icmp_ge (tgt := 148) fx nd_MO_differ_45 (by decide) (fun hb => absurd hb (nI_ge (by omega) (by omega))) (fun _ => ?_)
            refine vv_aload_n fx nd_MO_differ_48 rfl 0 rfl ?_
            refine vv_get (ci := 2) (C := nr_MO) (T := nt_MO) (N := 10) fx nt_MO_in 8 rfl rfl 0 (by decide) nf_MO_27 rfl nd_MO_differ_49 ?_
            refine vv_top (y := 0) (me_up_s _ _ _ _) ?_
            refine vv_if_ne (tgt := 148) fx nd_MO_differ_52 (by decide) (fun hb => absurd (rfl) hb) (fun _ => ?_)
            refine vv_aload_n fx nd_MO_differ_55 rfl 0 rfl ?_
            refine vv_get (ci := 2) (C := nr_MO) (T := nt_MO) (N := 10) fx nt_MO_in 8 rfl rfl 2 (by decide) nf_MO_13 rfl nd_MO_differ_56 ?_
            refine vv_bipush (v := nI 64) fx nd_MO_differ_59 (by decide) ?_
            refine vv_iload_n fx nd_MO_differ_61 rfl 1 rfl ?_
            refine vv_imul fx nd_MO_differ_62 ?_
            refine vv_top (y := nI (64 * an)) (pk_mul _ _) ?_
            refine vv_iload fx nd_MO_differ_63 4 rfl ?_
            refine vv_iadd fx nd_MO_differ_65 ?_
            refine vv_top (y := nI ((64 * an) + i)) (nI_add _ _) ?_
            refine vv_zald fx 10 1 rfl rfl (by omega) (by decide) nd_MO_differ_66 ?_
            refine vv_top (y := U 1 (64 * an + i)) (congrFun (me_up_n _ _ _ (by decide)) _) ?_
            refine vv_istore (L' := [(0, .ref (Y.2.1 8)), (1, .int (nI an)), (2, .int (nI bn)), (3, .int (nI (me_cn (fun k => !mo_alike U an bn k) i))), (4, .int (nI i)), (5, .int (U 1 (64 * an + i)))]) fx nd_MO_differ_67 (by decide) [1, 2, 3, 4, 5, 0] rfl ?_
            refine vv_aload_n fx nd_MO_differ_69 rfl 0 rfl ?_
            refine vv_get (ci := 2) (C := nr_MO) (T := nt_MO) (N := 10) fx nt_MO_in 8 rfl rfl 2 (by decide) nf_MO_13 rfl nd_MO_differ_70 ?_
            refine vv_bipush (v := nI 64) fx nd_MO_differ_73 (by decide) ?_
            refine vv_iload_n fx nd_MO_differ_75 rfl 2 rfl ?_
            refine vv_imul fx nd_MO_differ_76 ?_
            refine vv_top (y := nI (64 * bn)) (pk_mul _ _) ?_
            refine vv_iload fx nd_MO_differ_77 4 rfl ?_
            refine vv_iadd fx nd_MO_differ_79 ?_
            refine vv_top (y := nI ((64 * bn) + i)) (nI_add _ _) ?_
            refine vv_zald fx 10 1 rfl rfl (by omega) (by decide) nd_MO_differ_80 ?_
            refine vv_top (y := U 1 (64 * bn + i)) (congrFun (me_up_n _ _ _ (by decide)) _) ?_
            refine vv_istore (L' := [(0, .ref (Y.2.1 8)), (1, .int (nI an)), (2, .int (nI bn)), (3, .int (nI (me_cn (fun k => !mo_alike U an bn k) i))), (4, .int (nI i)), (5, .int (U 1 (64 * an + i))), (6, .int (U 1 (64 * bn + i)))]) fx nd_MO_differ_81 (by decide) [1, 2, 3, 4, 5, 6, 0] rfl ?_
            refine vv_iload fx nd_MO_differ_83 5 rfl ?_
            refine vv_iload fx nd_MO_differ_85 6 rfl ?_
            refine vv_icmp_ne (tgt := 126) fx nd_MO_differ_87 (by decide) (fun hb87 => ?_) (fun hb87 => ?_)
            · rw [mo_al1 hb87 (hB.2.1 _ (by omega)) (hB.2.1 _ (by omega)), if_pos (by decide)] at ev
              refine vv_iconst (v := nI 0) fx nd_MO_differ_126 (by decide) ?_
              refine vv_istore (L' := [(0, .ref (Y.2.1 8)), (1, .int (nI an)), (2, .int (nI bn)), (3, .int (nI (me_cn (fun k => !mo_alike U an bn k) i))), (4, .int (nI i)), (5, .int (U 1 (64 * an + i))), (6, .int (U 1 (64 * bn + i))), (7, .int (nI 0))]) fx nd_MO_differ_127 (by decide) [1, 2, 3, 4, 5, 6, 7, 0] rfl ?_
              refine vv_iload fx nd_MO_differ_129 7 rfl ?_
              refine vv_if_eq (tgt := 138) fx nd_MO_differ_131 (by decide) (fun _ => ?_) (fun hb => absurd (rfl) hb)
              refine vv_iload_n fx nd_MO_differ_138 rfl 3 rfl ?_
              refine vv_iconst (v := nI 1) fx nd_MO_differ_139 (by decide) ?_
              refine vv_iadd fx nd_MO_differ_140 ?_
              refine vv_top (y := nI ((me_cn (fun k => !mo_alike U an bn k) i) + 1)) (nI_add _ _) ?_
              refine vv_istore_n (L' := [(0, .ref (Y.2.1 8)), (1, .int (nI an)), (2, .int (nI bn)), (3, .int (nI ((me_cn (fun k => !mo_alike U an bn k) i) + 1))), (4, .int (nI i)), (5, .int (U 1 (64 * an + i))), (6, .int (U 1 (64 * bn + i))), (7, .int (nI 0))]) fx nd_MO_differ_141 rfl (by decide) [1, 2, 3, 0, 4, 5, 6, 7] rfl ?_
              refine vv_iinc (v := nI (i + 1)) (L' := [(0, .ref (Y.2.1 8)), (1, .int (nI an)), (2, .int (nI bn)), (3, .int (nI ((me_cn (fun k => !mo_alike U an bn k) i) + 1))), (4, .int (nI (i + 1))), (5, .int (U 1 (64 * an + i))), (6, .int (U 1 (64 * bn + i))), (7, .int (nI 0))]) fx nd_MO_differ_142 4 rfl (nI_1 i) (by decide) [1, 2, 3, 4, 0, 5, 6, 7] rfl ?_
              refine vv_goto (tgt := 41) fx nd_MO_differ_145 (by decide) ?_
              refine vv_loc (L' := [(0, .ref (Y.2.1 8)), (1, .int (nI an)), (2, .int (nI bn)), (3, .int (nI ((me_cn (fun k => !mo_alike U an bn k) i) + 1))), (4, .int (nI (i + 1)))]) [0, 1, 2, 3, 4] rfl ?_
              have h9 := ih_loop (i + 1) (by omega)
              rw [ev] at h9
              exact h9
            · refine vv_iload fx nd_MO_differ_90 5 rfl ?_
              refine vv_if_eq (tgt := 122) fx nd_MO_differ_92 (by decide) (fun hb92 => ?_) (fun hb92 => ?_)
              · rw [mo_al2 hb87 hb92, if_neg (by decide), Nat.add_zero] at ev
                refine vv_iconst (v := nI 1) fx nd_MO_differ_122 (by decide) ?_
                refine vv_goto (tgt := 127) fx nd_MO_differ_123 (by decide) ?_
                refine vv_istore (L' := [(0, .ref (Y.2.1 8)), (1, .int (nI an)), (2, .int (nI bn)), (3, .int (nI (me_cn (fun k => !mo_alike U an bn k) i))), (4, .int (nI i)), (5, .int (U 1 (64 * an + i))), (6, .int (U 1 (64 * bn + i))), (7, .int (nI 1))]) fx nd_MO_differ_127 (by decide) [1, 2, 3, 4, 5, 6, 7, 0] rfl ?_
                refine vv_iload fx nd_MO_differ_129 7 rfl ?_
                refine vv_if_eq (tgt := 138) fx nd_MO_differ_131 (by decide) (fun hb => absurd hb (by decide)) (fun _ => ?_)
                refine vv_iload_n fx nd_MO_differ_134 rfl 3 rfl ?_
                refine vv_goto (tgt := 141) fx nd_MO_differ_135 (by decide) ?_
                refine vv_istore_n (L' := [(0, .ref (Y.2.1 8)), (1, .int (nI an)), (2, .int (nI bn)), (3, .int (nI (me_cn (fun k => !mo_alike U an bn k) i))), (4, .int (nI i)), (5, .int (U 1 (64 * an + i))), (6, .int (U 1 (64 * bn + i))), (7, .int (nI 1))]) fx nd_MO_differ_141 rfl (by decide) [1, 2, 3, 0, 4, 5, 6, 7] rfl ?_
                refine vv_iinc (v := nI (i + 1)) (L' := [(0, .ref (Y.2.1 8)), (1, .int (nI an)), (2, .int (nI bn)), (3, .int (nI (me_cn (fun k => !mo_alike U an bn k) i))), (4, .int (nI (i + 1))), (5, .int (U 1 (64 * an + i))), (6, .int (U 1 (64 * bn + i))), (7, .int (nI 1))]) fx nd_MO_differ_142 4 rfl (nI_1 i) (by decide) [1, 2, 3, 4, 0, 5, 6, 7] rfl ?_
                refine vv_goto (tgt := 41) fx nd_MO_differ_145 (by decide) ?_
                refine vv_loc (L' := [(0, .ref (Y.2.1 8)), (1, .int (nI an)), (2, .int (nI bn)), (3, .int (nI (me_cn (fun k => !mo_alike U an bn k) i))), (4, .int (nI (i + 1)))]) [0, 1, 2, 3, 4] rfl ?_
                have h9 := ih_loop (i + 1) (by omega)
                rw [ev] at h9
                exact h9
              · refine vv_aload_n fx nd_MO_differ_95 rfl 0 rfl ?_
                refine vv_get (ci := 2) (C := nr_MO) (T := nt_MO) (N := 10) fx nt_MO_in 8 rfl rfl 3 (by decide) nf_MO_16 rfl nd_MO_differ_96 ?_
                refine vv_bipush (v := nI 64) fx nd_MO_differ_99 (by decide) ?_
                refine vv_iload_n fx nd_MO_differ_101 rfl 1 rfl ?_
                refine vv_imul fx nd_MO_differ_102 ?_
                refine vv_top (y := nI (64 * an)) (pk_mul _ _) ?_
                refine vv_iload fx nd_MO_differ_103 4 rfl ?_
                refine vv_iadd fx nd_MO_differ_105 ?_
                refine vv_top (y := nI ((64 * an) + i)) (nI_add _ _) ?_
                refine vv_iald fx 11 0 rfl rfl (by omega) (by decide) nd_MO_differ_106 ?_
                refine vv_top (y := U 2 (64 * an + i)) (congrFun (me_up_n _ _ _ (by decide)) _) ?_
                refine vv_aload_n fx nd_MO_differ_107 rfl 0 rfl ?_
                refine vv_get (ci := 2) (C := nr_MO) (T := nt_MO) (N := 10) fx nt_MO_in 8 rfl rfl 3 (by decide) nf_MO_16 rfl nd_MO_differ_108 ?_
                refine vv_bipush (v := nI 64) fx nd_MO_differ_111 (by decide) ?_
                refine vv_iload_n fx nd_MO_differ_113 rfl 2 rfl ?_
                refine vv_imul fx nd_MO_differ_114 ?_
                refine vv_top (y := nI (64 * bn)) (pk_mul _ _) ?_
                refine vv_iload fx nd_MO_differ_115 4 rfl ?_
                refine vv_iadd fx nd_MO_differ_117 ?_
                refine vv_top (y := nI ((64 * bn) + i)) (nI_add _ _) ?_
                refine vv_iald fx 11 0 rfl rfl (by omega) (by decide) nd_MO_differ_118 ?_
                refine vv_top (y := U 2 (64 * bn + i)) (congrFun (me_up_n _ _ _ (by decide)) _) ?_
                refine vv_icmp_ne (tgt := 126) fx nd_MO_differ_119 (by decide) (fun hb119 => ?_) (fun hb119 => ?_)
                · rw [mo_al3 hb87 hb92, decide_eq_false hb119, if_pos (by decide)] at ev
                  refine vv_iconst (v := nI 0) fx nd_MO_differ_126 (by decide) ?_
                  refine vv_istore (L' := [(0, .ref (Y.2.1 8)), (1, .int (nI an)), (2, .int (nI bn)), (3, .int (nI (me_cn (fun k => !mo_alike U an bn k) i))), (4, .int (nI i)), (5, .int (U 1 (64 * an + i))), (6, .int (U 1 (64 * bn + i))), (7, .int (nI 0))]) fx nd_MO_differ_127 (by decide) [1, 2, 3, 4, 5, 6, 7, 0] rfl ?_
                  refine vv_iload fx nd_MO_differ_129 7 rfl ?_
                  refine vv_if_eq (tgt := 138) fx nd_MO_differ_131 (by decide) (fun _ => ?_) (fun hb => absurd (rfl) hb)
                  refine vv_iload_n fx nd_MO_differ_138 rfl 3 rfl ?_
                  refine vv_iconst (v := nI 1) fx nd_MO_differ_139 (by decide) ?_
                  refine vv_iadd fx nd_MO_differ_140 ?_
                  refine vv_top (y := nI ((me_cn (fun k => !mo_alike U an bn k) i) + 1)) (nI_add _ _) ?_
                  refine vv_istore_n (L' := [(0, .ref (Y.2.1 8)), (1, .int (nI an)), (2, .int (nI bn)), (3, .int (nI ((me_cn (fun k => !mo_alike U an bn k) i) + 1))), (4, .int (nI i)), (5, .int (U 1 (64 * an + i))), (6, .int (U 1 (64 * bn + i))), (7, .int (nI 0))]) fx nd_MO_differ_141 rfl (by decide) [1, 2, 3, 0, 4, 5, 6, 7] rfl ?_
                  refine vv_iinc (v := nI (i + 1)) (L' := [(0, .ref (Y.2.1 8)), (1, .int (nI an)), (2, .int (nI bn)), (3, .int (nI ((me_cn (fun k => !mo_alike U an bn k) i) + 1))), (4, .int (nI (i + 1))), (5, .int (U 1 (64 * an + i))), (6, .int (U 1 (64 * bn + i))), (7, .int (nI 0))]) fx nd_MO_differ_142 4 rfl (nI_1 i) (by decide) [1, 2, 3, 4, 0, 5, 6, 7] rfl ?_
                  refine vv_goto (tgt := 41) fx nd_MO_differ_145 (by decide) ?_
                  refine vv_loc (L' := [(0, .ref (Y.2.1 8)), (1, .int (nI an)), (2, .int (nI bn)), (3, .int (nI ((me_cn (fun k => !mo_alike U an bn k) i) + 1))), (4, .int (nI (i + 1)))]) [0, 1, 2, 3, 4] rfl ?_
                  have h9 := ih_loop (i + 1) (by omega)
                  rw [ev] at h9
                  exact h9
                · rw [mo_al3 hb87 hb92, decide_eq_true hb119, if_neg (by decide), Nat.add_zero] at ev
                  refine vv_iconst (v := nI 1) fx nd_MO_differ_122 (by decide) ?_
                  refine vv_goto (tgt := 127) fx nd_MO_differ_123 (by decide) ?_
                  refine vv_istore (L' := [(0, .ref (Y.2.1 8)), (1, .int (nI an)), (2, .int (nI bn)), (3, .int (nI (me_cn (fun k => !mo_alike U an bn k) i))), (4, .int (nI i)), (5, .int (U 1 (64 * an + i))), (6, .int (U 1 (64 * bn + i))), (7, .int (nI 1))]) fx nd_MO_differ_127 (by decide) [1, 2, 3, 4, 5, 6, 7, 0] rfl ?_
                  refine vv_iload fx nd_MO_differ_129 7 rfl ?_
                  refine vv_if_eq (tgt := 138) fx nd_MO_differ_131 (by decide) (fun hb => absurd hb (by decide)) (fun _ => ?_)
                  refine vv_iload_n fx nd_MO_differ_134 rfl 3 rfl ?_
                  refine vv_goto (tgt := 141) fx nd_MO_differ_135 (by decide) ?_
                  refine vv_istore_n (L' := [(0, .ref (Y.2.1 8)), (1, .int (nI an)), (2, .int (nI bn)), (3, .int (nI (me_cn (fun k => !mo_alike U an bn k) i))), (4, .int (nI i)), (5, .int (U 1 (64 * an + i))), (6, .int (U 1 (64 * bn + i))), (7, .int (nI 1))]) fx nd_MO_differ_141 rfl (by decide) [1, 2, 3, 0, 4, 5, 6, 7] rfl ?_
                  refine vv_iinc (v := nI (i + 1)) (L' := [(0, .ref (Y.2.1 8)), (1, .int (nI an)), (2, .int (nI bn)), (3, .int (nI (me_cn (fun k => !mo_alike U an bn k) i))), (4, .int (nI (i + 1))), (5, .int (U 1 (64 * an + i))), (6, .int (U 1 (64 * bn + i))), (7, .int (nI 1))]) fx nd_MO_differ_142 4 rfl (nI_1 i) (by decide) [1, 2, 3, 4, 0, 5, 6, 7] rfl ?_
                  refine vv_goto (tgt := 41) fx nd_MO_differ_145 (by decide) ?_
                  refine vv_loc (L' := [(0, .ref (Y.2.1 8)), (1, .int (nI an)), (2, .int (nI bn)), (3, .int (nI (me_cn (fun k => !mo_alike U an bn k) i))), (4, .int (nI (i + 1)))]) [0, 1, 2, 3, 4] rfl ?_
                  have h9 := ih_loop (i + 1) (by omega)
                  rw [ev] at h9
                  exact h9
        exact loop 64 0 (by omega)
set_option maxRecDepth 4000 in
theorem cc_MO_snapshot (l : Launch) (Y : sy_Y) (M U : me_M) (o : Int64) (hB : mo_B U) : ct_I l ny_MO_snapshot nb_MO_snapshot 2 (some .int) { frames := 1, cells := 0, slots := 0, locals := 23 } Y [.ref (Y.2.1 8)] M U o ((mo_snapshot U).1) M ((mo_snapshot U).2) o := by
  refine ct_body (own := nr_MO) (L0 := [(0, .ref (Y.2.1 8))]) (by decide) rfl (Nat.le_of_ble_eq_true rfl) rfl ?_
  intro p e s m args below meth c fx
  refine vv_iconst (v := nI 1) fx nd_MO_snapshot_0 (by decide) ?_
  refine vv_istore_n (L' := [(0, .ref (Y.2.1 8)), (1, .int (nI 1))]) fx nd_MO_snapshot_1 rfl (by decide) [1, 0] rfl ?_
  have behind : vv p l e { frames := 1, cells := 0, slots := 0, locals := 23 } s m args below meth c 0 0 (MQ below (ct_Qi Y ((mo_snapshot U).1) M ((mo_snapshot U).2) o) args s 0 0 Y.2.2.2) 2 Y M U o 24 [(0, .ref (Y.2.1 8)), (1, .int (nI (mo_lu U 6 1)))] [] := by
    have hlu := rf_lu_in U 6 1 (by decide)
    by_cases h5 : U 4 5 ≠ 0
    · rw [show mo_snapshot U = (0, me_up U 4 0 1) from if_pos h5]
      refine vv_aload_n fx nd_MO_snapshot_24 rfl 0 rfl ?_
      refine vv_aload_n fx nd_MO_snapshot_25 rfl 0 rfl ?_
      refine vv_get (ci := 2) (C := nr_MO) (T := nt_MO) (N := 10) fx nt_MO_in 8 rfl rfl 9 (by decide) nf_MO_66 rfl nd_MO_snapshot_26 ?_
      refine vv_if_eq (tgt := 36) fx nd_MO_snapshot_29 (by decide) (fun hb => absurd hb (h5)) (fun _ => ?_)
      refine vv_iconst (v := nI 1) fx nd_MO_snapshot_32 (by decide) ?_
      refine vv_goto (tgt := 47) fx nd_MO_snapshot_33 (by decide) ?_
      refine vv_put (U' := me_up U 4 0 (nI 1)) (M' := M) (ci := 2) (C := nr_MO) (T := nt_MO) (N := 10) (ty := .int) fx nt_MO_in nt_MO_ty nt_MO_ok nt_MO_nm 8 rfl rfl 0 (by decide) nf_MO_27 rfl (by decide +kernel) rfl rfl (Nat.le_of_ble_eq_true rfl) nd_MO_snapshot_47 (sy_putU 0 _ rfl) ?_
      refine vv_mem (M9 := M) (U9 := me_up U 4 0 1) (rfl) (rfl) ?_
      refine vv_aload_n fx nd_MO_snapshot_50 rfl 0 rfl ?_
      refine vv_get (ci := 2) (C := nr_MO) (T := nt_MO) (N := 10) fx nt_MO_in 8 rfl rfl 0 (by decide) nf_MO_27 rfl nd_MO_snapshot_51 ?_
      refine vv_top (y := 1) (me_up_s _ _ _ _) ?_
      refine vv_if_le (tgt := 59) fx nd_MO_snapshot_54 (by decide) (fun hb => absurd hb (by decide)) (fun _ => ?_)
      refine vv_iconst (v := nI 0) fx nd_MO_snapshot_57 (by decide) ?_
      exact vv_iret fx rfl nd_MO_snapshot_58 (rfl)
    · refine vv_aload_n fx nd_MO_snapshot_24 rfl 0 rfl ?_
      refine vv_aload_n fx nd_MO_snapshot_25 rfl 0 rfl ?_
      refine vv_get (ci := 2) (C := nr_MO) (T := nt_MO) (N := 10) fx nt_MO_in 8 rfl rfl 9 (by decide) nf_MO_66 rfl nd_MO_snapshot_26 ?_
      refine vv_if_eq (tgt := 36) fx nd_MO_snapshot_29 (by decide) (fun _ => ?_) (fun hb => absurd (Classical.not_not.mp h5) hb)
      by_cases h7 : (mo_lu U 6 1) = 7
      · rw [show mo_snapshot U = (0, me_up U 4 0 2) from (if_neg h5).trans (if_pos h7)]
        refine vv_iload_n fx nd_MO_snapshot_36 rfl 1 rfl ?_
        refine vv_bipush (v := nI 7) fx nd_MO_snapshot_37 (by decide) ?_
        refine vv_icmp_ne (tgt := 46) fx nd_MO_snapshot_39 (by decide) (fun hb => absurd (by rw [h7]) hb) (fun _ => ?_)
        refine vv_iconst (v := nI 2) fx nd_MO_snapshot_42 (by decide) ?_
        refine vv_goto (tgt := 47) fx nd_MO_snapshot_43 (by decide) ?_
        refine vv_put (U' := me_up U 4 0 (nI 2)) (M' := M) (ci := 2) (C := nr_MO) (T := nt_MO) (N := 10) (ty := .int) fx nt_MO_in nt_MO_ty nt_MO_ok nt_MO_nm 8 rfl rfl 0 (by decide) nf_MO_27 rfl (by decide +kernel) rfl rfl (Nat.le_of_ble_eq_true rfl) nd_MO_snapshot_47 (sy_putU 0 _ rfl) ?_
        refine vv_mem (M9 := M) (U9 := me_up U 4 0 2) (rfl) (rfl) ?_
        refine vv_aload_n fx nd_MO_snapshot_50 rfl 0 rfl ?_
        refine vv_get (ci := 2) (C := nr_MO) (T := nt_MO) (N := 10) fx nt_MO_in 8 rfl rfl 0 (by decide) nf_MO_27 rfl nd_MO_snapshot_51 ?_
        refine vv_top (y := 2) (me_up_s _ _ _ _) ?_
        refine vv_if_le (tgt := 59) fx nd_MO_snapshot_54 (by decide) (fun hb => absurd hb (by decide)) (fun _ => ?_)
        refine vv_iconst (v := nI 0) fx nd_MO_snapshot_57 (by decide) ?_
        exact vv_iret fx rfl nd_MO_snapshot_58 (rfl)
      · rw [show mo_snapshot U = (nI (mo_lu U 6 1), me_up (mo_copy (me_up U 4 0 0) 0 (mo_lu U 6 1)) 4 2 (U 4 1)) from (if_neg h5).trans (if_neg h7)]
        refine vv_iload_n fx nd_MO_snapshot_36 rfl 1 rfl ?_
        refine vv_bipush (v := nI 7) fx nd_MO_snapshot_37 (by decide) ?_
        refine vv_icmp_ne (tgt := 46) fx nd_MO_snapshot_39 (by decide) (fun _ => ?_) (fun hb => absurd hb (fun q => h7 ((nI_eq (by omega) (by decide)).mp q)))
        refine vv_iconst (v := nI 0) fx nd_MO_snapshot_46 (by decide) ?_
        refine vv_put (U' := me_up U 4 0 (nI 0)) (M' := M) (ci := 2) (C := nr_MO) (T := nt_MO) (N := 10) (ty := .int) fx nt_MO_in nt_MO_ty nt_MO_ok nt_MO_nm 8 rfl rfl 0 (by decide) nf_MO_27 rfl (by decide +kernel) rfl rfl (Nat.le_of_ble_eq_true rfl) nd_MO_snapshot_47 (sy_putU 0 _ rfl) ?_
        refine vv_mem (M9 := M) (U9 := me_up U 4 0 0) (rfl) (rfl) ?_
        refine vv_aload_n fx nd_MO_snapshot_50 rfl 0 rfl ?_
        refine vv_get (ci := 2) (C := nr_MO) (T := nt_MO) (N := 10) fx nt_MO_in 8 rfl rfl 0 (by decide) nf_MO_27 rfl nd_MO_snapshot_51 ?_
        refine vv_top (y := 0) (me_up_s _ _ _ _) ?_
        refine vv_if_le (tgt := 59) fx nd_MO_snapshot_54 (by decide) (fun _ => ?_) (fun hb => absurd (by decide) hb)
        refine vv_aload_n fx nd_MO_snapshot_59 rfl 0 rfl ?_
        refine vv_iconst (v := nI 0) fx nd_MO_snapshot_60 (by decide) ?_
        refine vv_iload_n fx nd_MO_snapshot_61 rfl 1 rfl ?_
        refine vv_callVv (C := nr_MO) (T := nt_MO) (N := 10) (ci := 2) fx (cc_MO_copy l Y M (me_up U 4 0 0) o 0 (mo_lu U 6 1) (by decide) (by omega) (mo_B_code hB 0)) nm_MO_81 ns_MO_copy nv_MO_copy nz_MO nc_MO_copy ni_MO_copy 8 rfl rfl ⟨rfl, rfl, by decide, by decide⟩ ⟨Nat.le_of_ble_eq_true rfl, Nat.le_of_ble_eq_true rfl⟩ (Nat.le_of_ble_eq_true rfl) nd_MO_snapshot_62 rfl ?_
        refine vv_aload_n fx nd_MO_snapshot_65 rfl 0 rfl ?_
        refine vv_aload_n fx nd_MO_snapshot_66 rfl 0 rfl ?_
        refine vv_get (ci := 2) (C := nr_MO) (T := nt_MO) (N := 10) fx nt_MO_in 8 rfl rfl 5 (by decide) nf_MO_63 rfl nd_MO_snapshot_67 ?_
        refine vv_top (y := U 4 1) (by rw [(rf_copy (me_up U 4 0 0) 0 (mo_lu U 6 1) 0).2, me_up_j _ _ _ (by decide)]) ?_
        refine vv_put (U' := me_up (mo_copy (me_up U 4 0 0) 0 (mo_lu U 6 1)) 4 2 (U 4 1)) (M' := M) (ci := 2) (C := nr_MO) (T := nt_MO) (N := 10) (ty := .int) fx nt_MO_in nt_MO_ty nt_MO_ok nt_MO_nm 8 rfl rfl 6 (by decide) nf_MO_52 rfl (by decide +kernel) rfl rfl (Nat.le_of_ble_eq_true rfl) nd_MO_snapshot_70 (sy_putU 2 _ rfl) ?_
        refine vv_iload_n fx nd_MO_snapshot_73 rfl 1 rfl ?_
        exact vv_iret fx rfl nd_MO_snapshot_74 (rfl)
  have loop : ∀ f i, i + f = 7 → mo_lu U f i = (mo_lu U 6 1) → vv p l e { frames := 1, cells := 0, slots := 0, locals := 23 } s m args below meth c 0 0 (MQ below (ct_Qi Y ((mo_snapshot U).1) M ((mo_snapshot U).2) o) args s 0 0 Y.2.2.2) 2 Y M U o 2 [(0, .ref (Y.2.1 8)), (1, .int (nI i))] [] := by
    intro f
    induction f with
    | zero =>
      intro i hi he
      have e9 : (mo_lu U 6 1) = i := he.symm
      refine vv_iload_n fx nd_MO_snapshot_2 rfl 1 rfl ?_
      refine vv_bipush (v := nI 7) fx nd_MO_snapshot_3 (by decide) ?_
      refine vv_icmp_ge (tgt := 24) fx nd_MO_snapshot_5 (by decide) (fun _ => ?_) (fun hb => absurd (nI_le (by omega) (by omega)) hb)
      rw [← e9]
      exact behind
    | succ f ih =>
      intro i hi he
      have ex : mo_lu U (f + 1) i = if i < 7 ∧ U 0 i ≠ 0 then mo_lu U f (i + 1) else i := rfl
      refine vv_iload_n fx nd_MO_snapshot_2 rfl 1 rfl ?_
      refine vv_bipush (v := nI 7) fx nd_MO_snapshot_3 (by decide) ?_
      refine vv_icmp_ge (tgt := 24) fx nd_MO_snapshot_5 (by decide) (fun hb => absurd hb (nI_ge (by omega) (by omega))) (fun _ => ?_)
      refine vv_aload_n fx nd_MO_snapshot_8 rfl 0 rfl ?_
      refine vv_get (ci := 2) (C := nr_MO) (T := nt_MO) (N := 10) fx nt_MO_in 8 rfl rfl 1 (by decide) nf_MO_7 rfl nd_MO_snapshot_9 ?_
      refine vv_iload_n fx nd_MO_snapshot_12 rfl 1 rfl ?_
      refine vv_zald fx 9 1 rfl rfl (by omega) (by decide) nd_MO_snapshot_13 ?_
      refine vv_if_eq (tgt := 24) fx nd_MO_snapshot_14 (by decide) (fun hb14 => ?_) (fun hb14 => ?_)
      · have e9 : (mo_lu U 6 1) = i := by rw [← he, ex, if_neg (fun q => q.2 hb14)]
        rw [← e9]
        exact behind
      · refine vv_iload_n fx nd_MO_snapshot_17 rfl 1 rfl ?_
        refine vv_iconst (v := nI 1) fx nd_MO_snapshot_18 (by decide) ?_
        refine vv_iadd fx nd_MO_snapshot_19 ?_
        refine vv_top (y := nI (i + 1)) (nI_add _ _) ?_
        refine vv_istore_n (L' := [(0, .ref (Y.2.1 8)), (1, .int (nI (i + 1)))]) fx nd_MO_snapshot_20 rfl (by decide) [1, 0] rfl ?_
        refine vv_goto (tgt := 2) fx nd_MO_snapshot_21 (by decide) ?_
        exact ih (i + 1) (by omega) (by rw [← he, ex, if_pos ⟨by omega, hb14⟩])
  exact loop 6 1 (by omega) rfl
set_option maxRecDepth 4000 in
theorem cc_MO_rollback (l : Launch) (Y : sy_Y) (M U : me_M) (o : Int64) (h : Int32) (hB : mo_B U) : ct_I l ny_MO_rollback nb_MO_rollback 2 (some .int) { frames := 2, cells := 0, slots := 0, locals := 42 } Y [.ref (Y.2.1 8), .int h] M U o ((mo_rollback U h).1) M ((mo_rollback U h).2) o := by
  refine ct_body (own := nr_MO) (L0 := [(0, .ref (Y.2.1 8)), (1, .int h)]) (by decide) rfl (Nat.le_of_ble_eq_true rfl) rfl ?_
  intro p e s m args below meth c fx
  by_cases h5 : U 4 5 ≠ 0
  · rw [show mo_rollback U h = (0, me_up U 4 0 1) from if_pos h5]
    refine vv_aload_n fx nd_MO_rollback_0 rfl 0 rfl ?_
    refine vv_aload_n fx nd_MO_rollback_1 rfl 0 rfl ?_
    refine vv_get (ci := 2) (C := nr_MO) (T := nt_MO) (N := 10) fx nt_MO_in 8 rfl rfl 9 (by decide) nf_MO_66 rfl nd_MO_rollback_2 ?_
    refine vv_if_eq (tgt := 12) fx nd_MO_rollback_5 (by decide) (fun hb => absurd hb (h5)) (fun _ => ?_)
    refine vv_iconst (v := nI 1) fx nd_MO_rollback_8 (by decide) ?_
    refine vv_goto (tgt := 25) fx nd_MO_rollback_9 (by decide) ?_
    refine vv_put (U' := me_up U 4 0 (nI 1)) (M' := M) (ci := 2) (C := nr_MO) (T := nt_MO) (N := 10) (ty := .int) fx nt_MO_in nt_MO_ty nt_MO_ok nt_MO_nm 8 rfl rfl 0 (by decide) nf_MO_27 rfl (by decide +kernel) rfl rfl (Nat.le_of_ble_eq_true rfl) nd_MO_rollback_25 (sy_putU 0 _ rfl) ?_
    refine vv_mem (M9 := M) (U9 := me_up U 4 0 1) (rfl) (rfl) ?_
    refine vv_aload_n fx nd_MO_rollback_28 rfl 0 rfl ?_
    refine vv_get (ci := 2) (C := nr_MO) (T := nt_MO) (N := 10) fx nt_MO_in 8 rfl rfl 0 (by decide) nf_MO_27 rfl nd_MO_rollback_29 ?_
    refine vv_top (y := 1) (me_up_s _ _ _ _) ?_
    refine vv_if_le (tgt := 37) fx nd_MO_rollback_32 (by decide) (fun hb => absurd hb (by decide)) (fun _ => ?_)
    refine vv_iconst (v := nI 0) fx nd_MO_rollback_35 (by decide) ?_
    exact vv_iret fx rfl nd_MO_rollback_36 (rfl)
  · have h5z : U 4 5 = 0 := Classical.not_not.mp h5
    refine vv_aload_n fx nd_MO_rollback_0 rfl 0 rfl ?_
    refine vv_aload_n fx nd_MO_rollback_1 rfl 0 rfl ?_
    refine vv_get (ci := 2) (C := nr_MO) (T := nt_MO) (N := 10) fx nt_MO_in 8 rfl rfl 9 (by decide) nf_MO_66 rfl nd_MO_rollback_2 ?_
    refine vv_if_eq (tgt := 12) fx nd_MO_rollback_5 (by decide) (fun _ => ?_) (fun hb => absurd (h5z) hb)
    refine vv_aload_n fx nd_MO_rollback_12 rfl 0 rfl ?_
    refine vv_iload_n fx nd_MO_rollback_13 rfl 1 rfl ?_
    refine vv_callVi (C := nr_MO) (T := nt_MO) (N := 10) (ci := 2) fx (cc_MO_isSnapshot l Y M U o h) nm_MO_84 ns_MO_isSnapshot nv_MO_isSnapshot nz_MO nc_MO_isSnapshot ni_MO_isSnapshot 8 rfl rfl ⟨rfl, rfl, by decide, by decide⟩ ⟨Nat.le_of_ble_eq_true rfl, Nat.le_of_ble_eq_true rfl⟩ (Nat.le_of_ble_eq_true rfl) nd_MO_rollback_14 rfl ?_
    refine vv_if_eq (tgt := 24) fx nd_MO_rollback_17 (by decide) (fun hb17 => ?_) (fun hb17 => ?_)
    · rw [show mo_rollback U h = (0, me_up U 4 0 2) from (if_neg h5).trans (if_pos (b01_0 hb17))]
      refine vv_iconst (v := nI 2) fx nd_MO_rollback_24 (by decide) ?_
      refine vv_put (U' := me_up U 4 0 (nI 2)) (M' := M) (ci := 2) (C := nr_MO) (T := nt_MO) (N := 10) (ty := .int) fx nt_MO_in nt_MO_ty nt_MO_ok nt_MO_nm 8 rfl rfl 0 (by decide) nf_MO_27 rfl (by decide +kernel) rfl rfl (Nat.le_of_ble_eq_true rfl) nd_MO_rollback_25 (sy_putU 0 _ rfl) ?_
      refine vv_mem (M9 := M) (U9 := me_up U 4 0 2) (rfl) (rfl) ?_
      refine vv_aload_n fx nd_MO_rollback_28 rfl 0 rfl ?_
      refine vv_get (ci := 2) (C := nr_MO) (T := nt_MO) (N := 10) fx nt_MO_in 8 rfl rfl 0 (by decide) nf_MO_27 rfl nd_MO_rollback_29 ?_
      refine vv_top (y := 2) (me_up_s _ _ _ _) ?_
      refine vv_if_le (tgt := 37) fx nd_MO_rollback_32 (by decide) (fun hb => absurd hb (by decide)) (fun _ => ?_)
      refine vv_iconst (v := nI 0) fx nd_MO_rollback_35 (by decide) ?_
      exact vv_iret fx rfl nd_MO_rollback_36 (rfl)
    · have hm := b01_1 hb17
      obtain ⟨n, hn, rfl⟩ := mo_iss_nat hm
      have ecn : (nI n).toNatClampNeg = n := nI_clamp (by omega)
      have hm2 : ¬ mo_iss U (nI n) = false := by rw [hm]; decide
      refine vv_iconst (v := nI 0) fx nd_MO_rollback_20 (by decide) ?_
      refine vv_goto (tgt := 25) fx nd_MO_rollback_21 (by decide) ?_
      refine vv_put (U' := me_up U 4 0 (nI 0)) (M' := M) (ci := 2) (C := nr_MO) (T := nt_MO) (N := 10) (ty := .int) fx nt_MO_in nt_MO_ty nt_MO_ok nt_MO_nm 8 rfl rfl 0 (by decide) nf_MO_27 rfl (by decide +kernel) rfl rfl (Nat.le_of_ble_eq_true rfl) nd_MO_rollback_25 (sy_putU 0 _ rfl) ?_
      refine vv_mem (M9 := M) (U9 := me_up U 4 0 0) (rfl) (rfl) ?_
      rw [show mo_rollback U (nI n) = (nI (mo_bi (mo_copy (me_up U 4 0 0) n 0) 0 0 64), (mo_copy (me_up U 4 0 0) n 0)) from ((if_neg h5).trans (if_neg hm2)).trans (by rw [ecn])]
      refine vv_aload_n fx nd_MO_rollback_28 rfl 0 rfl ?_
      refine vv_get (ci := 2) (C := nr_MO) (T := nt_MO) (N := 10) fx nt_MO_in 8 rfl rfl 0 (by decide) nf_MO_27 rfl nd_MO_rollback_29 ?_
      refine vv_top (y := 0) (me_up_s _ _ _ _) ?_
      refine vv_if_le (tgt := 37) fx nd_MO_rollback_32 (by decide) (fun _ => ?_) (fun hb => absurd (by decide) hb)
      refine vv_aload_n fx nd_MO_rollback_37 rfl 0 rfl ?_
      refine vv_iload_n fx nd_MO_rollback_38 rfl 1 rfl ?_
      refine vv_iconst (v := nI 0) fx nd_MO_rollback_39 (by decide) ?_
      refine vv_callVv (C := nr_MO) (T := nt_MO) (N := 10) (ci := 2) fx (cc_MO_copy l Y M (me_up U 4 0 0) o n 0 (by omega) (by decide) (mo_B_code hB 0)) nm_MO_81 ns_MO_copy nv_MO_copy nz_MO nc_MO_copy ni_MO_copy 8 rfl rfl ⟨rfl, rfl, by decide, by decide⟩ ⟨Nat.le_of_ble_eq_true rfl, Nat.le_of_ble_eq_true rfl⟩ (Nat.le_of_ble_eq_true rfl) nd_MO_rollback_40 rfl ?_
      refine vv_aload_n fx nd_MO_rollback_43 rfl 0 rfl ?_
      refine vv_iconst (v := nI 0) fx nd_MO_rollback_44 (by decide) ?_
      refine vv_iconst (v := nI 0) fx nd_MO_rollback_45 (by decide) ?_
      refine vv_bipush (v := nI 64) fx nd_MO_rollback_46 (by decide) ?_
      refine vv_callVi (C := nr_MO) (T := nt_MO) (N := 10) (ci := 2) fx (cc_MO_boundIn l Y M (mo_copy (me_up U 4 0 0) n 0) o 0 0 64 (by decide) (by decide)) nm_MO_42 ns_MO_boundIn nv_MO_boundIn nz_MO nc_MO_boundIn ni_MO_boundIn 8 rfl rfl ⟨rfl, rfl, by decide, by decide⟩ ⟨Nat.le_of_ble_eq_true rfl, Nat.le_of_ble_eq_true rfl⟩ (Nat.le_of_ble_eq_true rfl) nd_MO_rollback_48 rfl ?_
      exact vv_iret fx rfl nd_MO_rollback_51 (rfl)
set_option maxRecDepth 4000 in
theorem cc_MO_drop (l : Launch) (Y : sy_Y) (M U : me_M) (o : Int64) (h : Int32) (hB : mo_B U) : ct_I l ny_MO_drop nb_MO_drop 3 (some .int) { frames := 3, cells := 0, slots := 0, locals := 72 } Y [.ref (Y.2.1 8), .int h] M U o ((mo_drop U h).1) M ((mo_drop U h).2) o := by
  refine ct_body (own := nr_MO) (L0 := [(0, .ref (Y.2.1 8)), (1, .int h)]) (by decide) rfl (Nat.le_of_ble_eq_true rfl) rfl ?_
  intro p e s m args below meth c fx
  by_cases h5 : U 4 5 ≠ 0
  · rw [show mo_drop U h = (0, me_up U 4 0 1) from if_pos h5]
    refine vv_aload_n fx nd_MO_drop_0 rfl 0 rfl ?_
    refine vv_aload_n fx nd_MO_drop_1 rfl 0 rfl ?_
    refine vv_get (ci := 2) (C := nr_MO) (T := nt_MO) (N := 10) fx nt_MO_in 8 rfl rfl 9 (by decide) nf_MO_66 rfl nd_MO_drop_2 ?_
    refine vv_if_eq (tgt := 12) fx nd_MO_drop_5 (by decide) (fun hb => absurd hb (h5)) (fun _ => ?_)
    refine vv_iconst (v := nI 1) fx nd_MO_drop_8 (by decide) ?_
    refine vv_goto (tgt := 25) fx nd_MO_drop_9 (by decide) ?_
    refine vv_put (U' := me_up U 4 0 (nI 1)) (M' := M) (ci := 2) (C := nr_MO) (T := nt_MO) (N := 10) (ty := .int) fx nt_MO_in nt_MO_ty nt_MO_ok nt_MO_nm 8 rfl rfl 0 (by decide) nf_MO_27 rfl (by decide +kernel) rfl rfl (Nat.le_of_ble_eq_true rfl) nd_MO_drop_25 (sy_putU 0 _ rfl) ?_
    refine vv_mem (M9 := M) (U9 := me_up U 4 0 1) (rfl) (rfl) ?_
    refine vv_aload_n fx nd_MO_drop_28 rfl 0 rfl ?_
    refine vv_get (ci := 2) (C := nr_MO) (T := nt_MO) (N := 10) fx nt_MO_in 8 rfl rfl 0 (by decide) nf_MO_27 rfl nd_MO_drop_29 ?_
    refine vv_top (y := 1) (me_up_s _ _ _ _) ?_
    refine vv_if_le (tgt := 37) fx nd_MO_drop_32 (by decide) (fun hb => absurd hb (by decide)) (fun _ => ?_)
    refine vv_iconst (v := nI 0) fx nd_MO_drop_35 (by decide) ?_
    exact vv_iret fx rfl nd_MO_drop_36 (rfl)
  · have h5z : U 4 5 = 0 := Classical.not_not.mp h5
    refine vv_aload_n fx nd_MO_drop_0 rfl 0 rfl ?_
    refine vv_aload_n fx nd_MO_drop_1 rfl 0 rfl ?_
    refine vv_get (ci := 2) (C := nr_MO) (T := nt_MO) (N := 10) fx nt_MO_in 8 rfl rfl 9 (by decide) nf_MO_66 rfl nd_MO_drop_2 ?_
    refine vv_if_eq (tgt := 12) fx nd_MO_drop_5 (by decide) (fun _ => ?_) (fun hb => absurd (h5z) hb)
    refine vv_aload_n fx nd_MO_drop_12 rfl 0 rfl ?_
    refine vv_iload_n fx nd_MO_drop_13 rfl 1 rfl ?_
    refine vv_callVi (C := nr_MO) (T := nt_MO) (N := 10) (ci := 2) fx (cc_MO_isSnapshot l Y M U o h) nm_MO_84 ns_MO_isSnapshot nv_MO_isSnapshot nz_MO nc_MO_isSnapshot ni_MO_isSnapshot 8 rfl rfl ⟨rfl, rfl, by decide, by decide⟩ ⟨Nat.le_of_ble_eq_true rfl, Nat.le_of_ble_eq_true rfl⟩ (Nat.le_of_ble_eq_true rfl) nd_MO_drop_14 rfl ?_
    refine vv_if_eq (tgt := 24) fx nd_MO_drop_17 (by decide) (fun hb17 => ?_) (fun hb17 => ?_)
    · rw [show mo_drop U h = (0, me_up U 4 0 2) from (if_neg h5).trans (if_pos (b01_0 hb17))]
      refine vv_iconst (v := nI 2) fx nd_MO_drop_24 (by decide) ?_
      refine vv_put (U' := me_up U 4 0 (nI 2)) (M' := M) (ci := 2) (C := nr_MO) (T := nt_MO) (N := 10) (ty := .int) fx nt_MO_in nt_MO_ty nt_MO_ok nt_MO_nm 8 rfl rfl 0 (by decide) nf_MO_27 rfl (by decide +kernel) rfl rfl (Nat.le_of_ble_eq_true rfl) nd_MO_drop_25 (sy_putU 0 _ rfl) ?_
      refine vv_mem (M9 := M) (U9 := me_up U 4 0 2) (rfl) (rfl) ?_
      refine vv_aload_n fx nd_MO_drop_28 rfl 0 rfl ?_
      refine vv_get (ci := 2) (C := nr_MO) (T := nt_MO) (N := 10) fx nt_MO_in 8 rfl rfl 0 (by decide) nf_MO_27 rfl nd_MO_drop_29 ?_
      refine vv_top (y := 2) (me_up_s _ _ _ _) ?_
      refine vv_if_le (tgt := 37) fx nd_MO_drop_32 (by decide) (fun hb => absurd hb (by decide)) (fun _ => ?_)
      refine vv_iconst (v := nI 0) fx nd_MO_drop_35 (by decide) ?_
      exact vv_iret fx rfl nd_MO_drop_36 (rfl)
    · have hm := b01_1 hb17
      obtain ⟨n, hn, rfl⟩ := mo_iss_nat hm
      have ecn : (nI n).toNatClampNeg = n := nI_clamp (by omega)
      have hm2 : ¬ mo_iss U (nI n) = false := by rw [hm]; decide
      refine vv_iconst (v := nI 0) fx nd_MO_drop_20 (by decide) ?_
      refine vv_goto (tgt := 25) fx nd_MO_drop_21 (by decide) ?_
      refine vv_put (U' := me_up U 4 0 (nI 0)) (M' := M) (ci := 2) (C := nr_MO) (T := nt_MO) (N := 10) (ty := .int) fx nt_MO_in nt_MO_ty nt_MO_ok nt_MO_nm 8 rfl rfl 0 (by decide) nf_MO_27 rfl (by decide +kernel) rfl rfl (Nat.le_of_ble_eq_true rfl) nd_MO_drop_25 (sy_putU 0 _ rfl) ?_
      refine vv_mem (M9 := M) (U9 := me_up U 4 0 0) (rfl) (rfl) ?_
      rw [show mo_drop U (nI n) = (mo_free (mo_empty (me_up U 4 0 0) n) - mo_free U, (mo_empty (me_up U 4 0 0) n)) from ((if_neg h5).trans (if_neg hm2)).trans (by rw [ecn])]
      refine vv_aload_n fx nd_MO_drop_28 rfl 0 rfl ?_
      refine vv_get (ci := 2) (C := nr_MO) (T := nt_MO) (N := 10) fx nt_MO_in 8 rfl rfl 0 (by decide) nf_MO_27 rfl nd_MO_drop_29 ?_
      refine vv_top (y := 0) (me_up_s _ _ _ _) ?_
      refine vv_if_le (tgt := 37) fx nd_MO_drop_32 (by decide) (fun _ => ?_) (fun hb => absurd (by decide) hb)
      refine vv_aload_n fx nd_MO_drop_37 rfl 0 rfl ?_
      refine vv_callVi (C := nr_MO) (T := nt_MO) (N := 10) (ci := 2) fx (cc_MO_freeNow l Y M (me_up U 4 0 0) o) nm_MO_59 ns_MO_freeNow nv_MO_freeNow nz_MO nc_MO_freeNow ni_MO_freeNow 8 rfl rfl ⟨rfl, rfl, by decide, by decide⟩ ⟨Nat.le_of_ble_eq_true rfl, Nat.le_of_ble_eq_true rfl⟩ (Nat.le_of_ble_eq_true rfl) nd_MO_drop_38 rfl ?_
      refine vv_top (y := mo_free U) (mo_free_of (me_up_n _ _ _ (by decide))) ?_
      refine vv_istore_n (L' := [(0, .ref (Y.2.1 8)), (1, .int (nI n)), (2, .int (mo_free U))]) fx nd_MO_drop_41 rfl (by decide) [1, 2, 0] rfl ?_
      refine vv_aload_n fx nd_MO_drop_42 rfl 0 rfl ?_
      refine vv_iload_n fx nd_MO_drop_43 rfl 1 rfl ?_
      refine vv_callVv (C := nr_MO) (T := nt_MO) (N := 10) (ci := 2) fx (cc_MO_empty l Y M (me_up U 4 0 0) o n (by omega)) nm_MO_87 ns_MO_empty nv_MO_empty nz_MO nc_MO_empty ni_MO_empty 8 rfl rfl ⟨rfl, rfl, by decide, by decide⟩ ⟨Nat.le_of_ble_eq_true rfl, Nat.le_of_ble_eq_true rfl⟩ (Nat.le_of_ble_eq_true rfl) nd_MO_drop_44 rfl ?_
      refine vv_aload_n fx nd_MO_drop_47 rfl 0 rfl ?_
      refine vv_callVi (C := nr_MO) (T := nt_MO) (N := 10) (ci := 2) fx (cc_MO_freeNow l Y M (mo_empty (me_up U 4 0 0) n) o) nm_MO_59 ns_MO_freeNow nv_MO_freeNow nz_MO nc_MO_freeNow ni_MO_freeNow 8 rfl rfl ⟨rfl, rfl, by decide, by decide⟩ ⟨Nat.le_of_ble_eq_true rfl, Nat.le_of_ble_eq_true rfl⟩ (Nat.le_of_ble_eq_true rfl) nd_MO_drop_48 rfl ?_
      refine vv_iload_n fx nd_MO_drop_51 rfl 2 rfl ?_
      refine vv_isub fx nd_MO_drop_52 ?_
      exact vv_iret fx rfl nd_MO_drop_53 (rfl)
theorem mo_due0_of {U V : me_M} (h : V 3 = U 3) : mo_due0 V = mo_due0 U := by unfold mo_due0; rw [mo_df_of h, mo_df_of h]
theorem mo_B_cps {U : me_M} (h : mo_B U) {f t n : Nat} (hf : f + n ≤ 14) (ht : t + n ≤ 14) : mo_B (mo_cps U f t n) := by
  induction n with
  | zero => exact h
  | succ n ih => exact mo_B_copy (ih (by omega) (by omega)) (by omega) (by omega)
theorem mo_cps_4 (U : me_M) (f t n : Nat) : mo_cps U f t n 4 = U 4 := by
  induction n with
  | zero => rfl
  | succ n ih => exact ((rf_copy (mo_cps U f t n) (f + n) (t + n) 0).2).trans ih
set_option maxRecDepth 4000 in
theorem cc_MO_commit (l : Launch) (Y : sy_Y) (M U : me_M) (o : Int64) (hB : mo_B U) : ct_I l ny_MO_commit nb_MO_commit 3 (some .int) { frames := 3, cells := 0, slots := 0, locals := 72 } Y [.ref (Y.2.1 8)] M U o ((mo_commit U).1) M ((mo_commit U).2) o := by
  refine ct_body (own := nr_MO) (L0 := [(0, .ref (Y.2.1 8))]) (by decide) rfl (Nat.le_of_ble_eq_true rfl) rfl ?_
  intro p e s m args below meth c fx
  by_cases h5 : U 4 5 ≠ 0
  · rw [show mo_commit U = (0, me_up U 4 0 1) from if_pos h5]
    refine vv_aload_n fx nd_MO_commit_0 rfl 0 rfl ?_
    refine vv_aload_n fx nd_MO_commit_1 rfl 0 rfl ?_
    refine vv_get (ci := 2) (C := nr_MO) (T := nt_MO) (N := 10) fx nt_MO_in 8 rfl rfl 9 (by decide) nf_MO_66 rfl nd_MO_commit_2 ?_
    refine vv_if_eq (tgt := 12) fx nd_MO_commit_5 (by decide) (fun hb => absurd hb (h5)) (fun _ => ?_)
    refine vv_iconst (v := nI 1) fx nd_MO_commit_8 (by decide) ?_
    refine vv_goto (tgt := 13) fx nd_MO_commit_9 (by decide) ?_
    refine vv_put (U' := me_up U 4 0 (nI 1)) (M' := M) (ci := 2) (C := nr_MO) (T := nt_MO) (N := 10) (ty := .int) fx nt_MO_in nt_MO_ty nt_MO_ok nt_MO_nm 8 rfl rfl 0 (by decide) nf_MO_27 rfl (by decide +kernel) rfl rfl (Nat.le_of_ble_eq_true rfl) nd_MO_commit_13 (sy_putU 0 _ rfl) ?_
    refine vv_mem (M9 := M) (U9 := me_up U 4 0 1) (rfl) (rfl) ?_
    refine vv_aload_n fx nd_MO_commit_16 rfl 0 rfl ?_
    refine vv_get (ci := 2) (C := nr_MO) (T := nt_MO) (N := 10) fx nt_MO_in 8 rfl rfl 0 (by decide) nf_MO_27 rfl nd_MO_commit_17 ?_
    refine vv_top (y := 1) (me_up_s _ _ _ _) ?_
    refine vv_if_le (tgt := 25) fx nd_MO_commit_20 (by decide) (fun hb => absurd hb (by decide)) (fun _ => ?_)
    refine vv_iconst (v := nI 0) fx nd_MO_commit_23 (by decide) ?_
    exact vv_iret fx rfl nd_MO_commit_24 (rfl)
  · have h5z : U 4 5 = 0 := Classical.not_not.mp h5
    refine vv_aload_n fx nd_MO_commit_0 rfl 0 rfl ?_
    refine vv_aload_n fx nd_MO_commit_1 rfl 0 rfl ?_
    refine vv_get (ci := 2) (C := nr_MO) (T := nt_MO) (N := 10) fx nt_MO_in 8 rfl rfl 9 (by decide) nf_MO_66 rfl nd_MO_commit_2 ?_
    refine vv_if_eq (tgt := 12) fx nd_MO_commit_5 (by decide) (fun _ => ?_) (fun hb => absurd (h5z) hb)
    refine vv_iconst (v := nI 0) fx nd_MO_commit_12 (by decide) ?_
    refine vv_put (U' := me_up U 4 0 (nI 0)) (M' := M) (ci := 2) (C := nr_MO) (T := nt_MO) (N := 10) (ty := .int) fx nt_MO_in nt_MO_ty nt_MO_ok nt_MO_nm 8 rfl rfl 0 (by decide) nf_MO_27 rfl (by decide +kernel) rfl rfl (Nat.le_of_ble_eq_true rfl) nd_MO_commit_13 (sy_putU 0 _ rfl) ?_
    refine vv_mem (M9 := M) (U9 := me_up U 4 0 0) (rfl) (rfl) ?_
    refine vv_aload_n fx nd_MO_commit_16 rfl 0 rfl ?_
    refine vv_get (ci := 2) (C := nr_MO) (T := nt_MO) (N := 10) fx nt_MO_in 8 rfl rfl 0 (by decide) nf_MO_27 rfl nd_MO_commit_17 ?_
    refine vv_top (y := 0) (me_up_s _ _ _ _) ?_
    refine vv_if_le (tgt := 25) fx nd_MO_commit_20 (by decide) (fun _ => ?_) (fun hb => absurd (by decide) hb)
    refine vv_aload_n fx nd_MO_commit_25 rfl 0 rfl ?_
    refine vv_callVi (C := nr_MO) (T := nt_MO) (N := 10) (ci := 2) fx (cc_MO_dueNow l Y M (me_up U 4 0 0) o) nm_MO_91 ns_MO_dueNow nv_MO_dueNow nz_MO nc_MO_dueNow ni_MO_dueNow 8 rfl rfl ⟨rfl, rfl, by decide, by decide⟩ ⟨Nat.le_of_ble_eq_true rfl, Nat.le_of_ble_eq_true rfl⟩ (Nat.le_of_ble_eq_true rfl) nd_MO_commit_26 rfl ?_
    refine vv_top (y := mo_due0 U) (mo_due0_of (me_up_n _ _ _ (by decide))) ?_
    have v4 : ∀ {j : Nat}, j ≠ 0 → (me_up U 4 0 0) 4 j = U 4 j := fun h => me_up_j _ _ _ h
    have hV : mo_B (me_up U 4 0 0) := mo_B_code hB 0
    refine vv_istore_n (L' := [(0, .ref (Y.2.1 8)), (1, .int (mo_due0 U))]) fx nd_MO_commit_29 rfl (by decide) [1, 0] rfl ?_
    refine vv_aload_n fx nd_MO_commit_30 rfl 0 rfl ?_
    refine vv_get (ci := 2) (C := nr_MO) (T := nt_MO) (N := 10) fx nt_MO_in 8 rfl rfl 8 (by decide) nf_MO_23 rfl nd_MO_commit_31 ?_
    refine vv_top (y := U 4 4) (v4 (by decide)) ?_
    refine vv_if_lt (tgt := 75) fx nd_MO_commit_34 (by decide) (fun hb34 => ?_) (fun hb34 => ?_)
    · rw [show mo_commit U = ((mo_due0 U), me_up (mo_cps (me_up (me_up (me_up U 4 0 0) 4 4 (if U 4 4 < 0 then U 4 4 else U 4 4 - (mo_due0 U))) 4 3 (U 4 3 + (mo_due0 U))) 0 7 7) 4 2 (U 4 1)) from (if_neg h5).trans (if_neg (fun z => absurd hb34 (Int32.not_lt.mpr z.1)))]
      refine vv_aload_n fx nd_MO_commit_75 rfl 0 rfl ?_
      refine vv_aload_n fx nd_MO_commit_76 rfl 0 rfl ?_
      refine vv_get (ci := 2) (C := nr_MO) (T := nt_MO) (N := 10) fx nt_MO_in 8 rfl rfl 8 (by decide) nf_MO_23 rfl nd_MO_commit_77 ?_
      refine vv_top (y := U 4 4) (v4 (by decide)) ?_
      refine vv_if_ge (tgt := 90) fx nd_MO_commit_80 (by decide) (fun hb => absurd hb (Int32.not_le.mpr hb34)) (fun _ => ?_)
      refine vv_aload_n fx nd_MO_commit_83 rfl 0 rfl ?_
      refine vv_get (ci := 2) (C := nr_MO) (T := nt_MO) (N := 10) fx nt_MO_in 8 rfl rfl 8 (by decide) nf_MO_23 rfl nd_MO_commit_84 ?_
      refine vv_top (y := U 4 4) (v4 (by decide)) ?_
      refine vv_goto (tgt := 96) fx nd_MO_commit_87 (by decide) ?_
      refine vv_top (y := (if U 4 4 < 0 then U 4 4 else U 4 4 - (mo_due0 U))) ((if_pos hb34).symm) ?_
      refine vv_put (U' := me_up (me_up U 4 0 0) 4 4 (if U 4 4 < 0 then U 4 4 else U 4 4 - (mo_due0 U))) (M' := M) (ci := 2) (C := nr_MO) (T := nt_MO) (N := 10) (ty := .int) fx nt_MO_in nt_MO_ty nt_MO_ok nt_MO_nm 8 rfl rfl 8 (by decide) nf_MO_23 rfl (by decide +kernel) rfl rfl (Nat.le_of_ble_eq_true rfl) nd_MO_commit_96 (sy_putU 4 _ rfl) ?_
      refine vv_aload_n fx nd_MO_commit_99 rfl 0 rfl ?_
      refine vv_aload_n fx nd_MO_commit_100 rfl 0 rfl ?_
      refine vv_get (ci := 2) (C := nr_MO) (T := nt_MO) (N := 10) fx nt_MO_in 8 rfl rfl 7 (by decide) nf_MO_94 rfl nd_MO_commit_101 ?_
      refine vv_top (y := U 4 3) (by rw [me_up_j _ _ _ (by decide)]; exact v4 (by decide)) ?_
      refine vv_iload_n fx nd_MO_commit_104 rfl 1 rfl ?_
      refine vv_iadd fx nd_MO_commit_105 ?_
      refine vv_put (U' := me_up (me_up (me_up U 4 0 0) 4 4 (if U 4 4 < 0 then U 4 4 else U 4 4 - (mo_due0 U))) 4 3 ((U 4 3) + (mo_due0 U))) (M' := M) (ci := 2) (C := nr_MO) (T := nt_MO) (N := 10) (ty := .int) fx nt_MO_in nt_MO_ty nt_MO_ok nt_MO_nm 8 rfl rfl 7 (by decide) nf_MO_94 rfl (by decide +kernel) rfl rfl (Nat.le_of_ble_eq_true rfl) nd_MO_commit_106 (sy_putU 3 _ rfl) ?_
      refine vv_iconst (v := nI 0) fx nd_MO_commit_109 (by decide) ?_
      refine vv_istore_n (L' := [(0, .ref (Y.2.1 8)), (1, .int (mo_due0 U)), (2, .int (nI 0))]) fx nd_MO_commit_110 rfl (by decide) [1, 2, 0] rfl ?_
      have hU2 : mo_B (me_up (me_up (me_up U 4 0 0) 4 4 (if U 4 4 < 0 then U 4 4 else U 4 4 - (mo_due0 U))) 4 3 (U 4 3 + (mo_due0 U))) := mo_B_up (mo_B_up hV (by decide) _) (by decide) _
      have u1 : (me_up (me_up (me_up U 4 0 0) 4 4 (if U 4 4 < 0 then U 4 4 else U 4 4 - (mo_due0 U))) 4 3 (U 4 3 + (mo_due0 U))) 4 1 = U 4 1 := by rw [me_up_j _ _ _ (by decide), me_up_j _ _ _ (by decide)]; exact v4 (by decide)
      generalize (me_up (me_up (me_up U 4 0 0) 4 4 (if U 4 4 < 0 then U 4 4 else U 4 4 - (mo_due0 U))) 4 3 (U 4 3 + (mo_due0 U))) = W at hU2 u1 ⊢
      have loop : ∀ d i, i + d = 7 → vv p l e { frames := 3, cells := 0, slots := 0, locals := 72 } s m args below meth c 0 0 (MQ below (ct_Qi Y (mo_due0 U) M (me_up (mo_cps W 0 7 7) 4 2 (U 4 1)) o) args s 0 0 Y.2.2.2) 3 Y M (mo_cps W 0 7 i) o 111 [(0, .ref (Y.2.1 8)), (1, .int (mo_due0 U)), (2, .int (nI i))] [] := by
        intro d
        induction d with
        | zero =>
          intro i hi
          have e9 : i = 7 := by omega
          subst e9
          refine vv_iload_n fx nd_MO_commit_111 rfl 2 rfl ?_
          refine vv_bipush (v := nI 7) fx nd_MO_commit_112 (by decide) ?_
          refine vv_icmp_ge (tgt := 132) fx nd_MO_commit_114 (by decide) (fun _ => ?_) (fun hb => absurd (nI_le (by omega) (by omega)) hb)
          refine vv_aload_n fx nd_MO_commit_132 rfl 0 rfl ?_
          refine vv_aload_n fx nd_MO_commit_133 rfl 0 rfl ?_
          refine vv_get (ci := 2) (C := nr_MO) (T := nt_MO) (N := 10) fx nt_MO_in 8 rfl rfl 5 (by decide) nf_MO_63 rfl nd_MO_commit_134 ?_
          refine vv_top (y := U 4 1) (by rw [mo_cps_4]; exact u1) ?_
          refine vv_put (U' := me_up (mo_cps W 0 7 7) 4 2 (U 4 1)) (M' := M) (ci := 2) (C := nr_MO) (T := nt_MO) (N := 10) (ty := .int) fx nt_MO_in nt_MO_ty nt_MO_ok nt_MO_nm 8 rfl rfl 6 (by decide) nf_MO_52 rfl (by decide +kernel) rfl rfl (Nat.le_of_ble_eq_true rfl) nd_MO_commit_137 (sy_putU 2 _ rfl) ?_
          refine vv_iload_n fx nd_MO_commit_140 rfl 1 rfl ?_
          exact vv_iret fx rfl nd_MO_commit_141 (rfl)
        | succ d ih_loop =>
          intro i hi
          refine vv_iload_n fx nd_MO_commit_111 rfl 2 rfl ?_
          refine vv_bipush (v := nI 7) fx nd_MO_commit_112 (by decide) ?_
          refine vv_icmp_ge (tgt := 132) fx nd_MO_commit_114 (by decide) (fun hb => absurd hb (nI_ge (by omega) (by omega))) (fun _ => ?_)
          refine vv_aload_n fx nd_MO_commit_117 rfl 0 rfl ?_
          refine vv_iload_n fx nd_MO_commit_118 rfl 2 rfl ?_
          refine vv_bipush (v := nI 7) fx nd_MO_commit_119 (by decide) ?_
          refine vv_iload_n fx nd_MO_commit_121 rfl 2 rfl ?_
          refine vv_iadd fx nd_MO_commit_122 ?_
          refine vv_top (y := nI (7 + i)) (nI_add _ _) ?_
          refine vv_callVv (C := nr_MO) (T := nt_MO) (N := 10) (ci := 2) fx (cc_MO_copy l Y M (mo_cps W 0 7 i) o i (7 + i) (by omega) (by omega) (mo_B_cps hU2 (by omega) (by omega))) nm_MO_81 ns_MO_copy nv_MO_copy nz_MO nc_MO_copy ni_MO_copy 8 rfl rfl ⟨rfl, rfl, by decide, by decide⟩ ⟨Nat.le_of_ble_eq_true rfl, Nat.le_of_ble_eq_true rfl⟩ (Nat.le_of_ble_eq_true rfl) nd_MO_commit_123 rfl ?_
          refine vv_mem (M9 := M) (U9 := (mo_cps W 0 7 (i + 1))) (rfl) (by show _ = mo_copy (mo_cps W 0 7 i) (0 + i) (7 + i); rw [Nat.zero_add]) ?_
          refine vv_iinc (v := nI (i + 1)) (L' := [(0, .ref (Y.2.1 8)), (1, .int (mo_due0 U)), (2, .int (nI (i + 1)))]) fx nd_MO_commit_126 2 rfl (nI_1 i) (by decide) [1, 2, 0] rfl ?_
          refine vv_goto (tgt := 111) fx nd_MO_commit_129 (by decide) ?_
          exact ih_loop (i + 1) (by omega)
      exact loop 7 0 (by omega)
    · refine vv_aload_n fx nd_MO_commit_37 rfl 0 rfl ?_
      refine vv_get (ci := 2) (C := nr_MO) (T := nt_MO) (N := 10) fx nt_MO_in 8 rfl rfl 8 (by decide) nf_MO_23 rfl nd_MO_commit_38 ?_
      refine vv_top (y := U 4 4) (v4 (by decide)) ?_
      refine vv_iload_n fx nd_MO_commit_41 rfl 1 rfl ?_
      refine vv_icmp_ge (tgt := 75) fx nd_MO_commit_42 (by decide) (fun hb42 => ?_) (fun hb42 => ?_)
      · rw [show mo_commit U = ((mo_due0 U), me_up (mo_cps (me_up (me_up (me_up U 4 0 0) 4 4 (if U 4 4 < 0 then U 4 4 else U 4 4 - (mo_due0 U))) 4 3 (U 4 3 + (mo_due0 U))) 0 7 7) 4 2 (U 4 1)) from (if_neg h5).trans (if_neg (fun z => absurd z.2 (Int32.not_lt.mpr hb42)))]
        refine vv_aload_n fx nd_MO_commit_75 rfl 0 rfl ?_
        refine vv_aload_n fx nd_MO_commit_76 rfl 0 rfl ?_
        refine vv_get (ci := 2) (C := nr_MO) (T := nt_MO) (N := 10) fx nt_MO_in 8 rfl rfl 8 (by decide) nf_MO_23 rfl nd_MO_commit_77 ?_
        refine vv_top (y := U 4 4) (v4 (by decide)) ?_
        refine vv_if_ge (tgt := 90) fx nd_MO_commit_80 (by decide) (fun _ => ?_) (fun hb => absurd (Int32.not_lt.mp hb34) hb)
        refine vv_aload_n fx nd_MO_commit_90 rfl 0 rfl ?_
        refine vv_get (ci := 2) (C := nr_MO) (T := nt_MO) (N := 10) fx nt_MO_in 8 rfl rfl 8 (by decide) nf_MO_23 rfl nd_MO_commit_91 ?_
        refine vv_top (y := U 4 4) (v4 (by decide)) ?_
        refine vv_iload_n fx nd_MO_commit_94 rfl 1 rfl ?_
        refine vv_isub fx nd_MO_commit_95 ?_
        refine vv_top (y := (if U 4 4 < 0 then U 4 4 else U 4 4 - (mo_due0 U))) ((if_neg hb34).symm) ?_
        refine vv_put (U' := me_up (me_up U 4 0 0) 4 4 (if U 4 4 < 0 then U 4 4 else U 4 4 - (mo_due0 U))) (M' := M) (ci := 2) (C := nr_MO) (T := nt_MO) (N := 10) (ty := .int) fx nt_MO_in nt_MO_ty nt_MO_ok nt_MO_nm 8 rfl rfl 8 (by decide) nf_MO_23 rfl (by decide +kernel) rfl rfl (Nat.le_of_ble_eq_true rfl) nd_MO_commit_96 (sy_putU 4 _ rfl) ?_
        refine vv_aload_n fx nd_MO_commit_99 rfl 0 rfl ?_
        refine vv_aload_n fx nd_MO_commit_100 rfl 0 rfl ?_
        refine vv_get (ci := 2) (C := nr_MO) (T := nt_MO) (N := 10) fx nt_MO_in 8 rfl rfl 7 (by decide) nf_MO_94 rfl nd_MO_commit_101 ?_
        refine vv_top (y := U 4 3) (by rw [me_up_j _ _ _ (by decide)]; exact v4 (by decide)) ?_
        refine vv_iload_n fx nd_MO_commit_104 rfl 1 rfl ?_
        refine vv_iadd fx nd_MO_commit_105 ?_
        refine vv_put (U' := me_up (me_up (me_up U 4 0 0) 4 4 (if U 4 4 < 0 then U 4 4 else U 4 4 - (mo_due0 U))) 4 3 ((U 4 3) + (mo_due0 U))) (M' := M) (ci := 2) (C := nr_MO) (T := nt_MO) (N := 10) (ty := .int) fx nt_MO_in nt_MO_ty nt_MO_ok nt_MO_nm 8 rfl rfl 7 (by decide) nf_MO_94 rfl (by decide +kernel) rfl rfl (Nat.le_of_ble_eq_true rfl) nd_MO_commit_106 (sy_putU 3 _ rfl) ?_
        refine vv_iconst (v := nI 0) fx nd_MO_commit_109 (by decide) ?_
        refine vv_istore_n (L' := [(0, .ref (Y.2.1 8)), (1, .int (mo_due0 U)), (2, .int (nI 0))]) fx nd_MO_commit_110 rfl (by decide) [1, 2, 0] rfl ?_
        have hU2 : mo_B (me_up (me_up (me_up U 4 0 0) 4 4 (if U 4 4 < 0 then U 4 4 else U 4 4 - (mo_due0 U))) 4 3 (U 4 3 + (mo_due0 U))) := mo_B_up (mo_B_up hV (by decide) _) (by decide) _
        have u1 : (me_up (me_up (me_up U 4 0 0) 4 4 (if U 4 4 < 0 then U 4 4 else U 4 4 - (mo_due0 U))) 4 3 (U 4 3 + (mo_due0 U))) 4 1 = U 4 1 := by rw [me_up_j _ _ _ (by decide), me_up_j _ _ _ (by decide)]; exact v4 (by decide)
        generalize (me_up (me_up (me_up U 4 0 0) 4 4 (if U 4 4 < 0 then U 4 4 else U 4 4 - (mo_due0 U))) 4 3 (U 4 3 + (mo_due0 U))) = W at hU2 u1 ⊢
        have loop : ∀ d i, i + d = 7 → vv p l e { frames := 3, cells := 0, slots := 0, locals := 72 } s m args below meth c 0 0 (MQ below (ct_Qi Y (mo_due0 U) M (me_up (mo_cps W 0 7 7) 4 2 (U 4 1)) o) args s 0 0 Y.2.2.2) 3 Y M (mo_cps W 0 7 i) o 111 [(0, .ref (Y.2.1 8)), (1, .int (mo_due0 U)), (2, .int (nI i))] [] := by
          intro d
          induction d with
          | zero =>
            intro i hi
            have e9 : i = 7 := by omega
            subst e9
            refine vv_iload_n fx nd_MO_commit_111 rfl 2 rfl ?_
            refine vv_bipush (v := nI 7) fx nd_MO_commit_112 (by decide) ?_
            refine vv_icmp_ge (tgt := 132) fx nd_MO_commit_114 (by decide) (fun _ => ?_) (fun hb => absurd (nI_le (by omega) (by omega)) hb)
            refine vv_aload_n fx nd_MO_commit_132 rfl 0 rfl ?_
            refine vv_aload_n fx nd_MO_commit_133 rfl 0 rfl ?_
            refine vv_get (ci := 2) (C := nr_MO) (T := nt_MO) (N := 10) fx nt_MO_in 8 rfl rfl 5 (by decide) nf_MO_63 rfl nd_MO_commit_134 ?_
            refine vv_top (y := U 4 1) (by rw [mo_cps_4]; exact u1) ?_
            refine vv_put (U' := me_up (mo_cps W 0 7 7) 4 2 (U 4 1)) (M' := M) (ci := 2) (C := nr_MO) (T := nt_MO) (N := 10) (ty := .int) fx nt_MO_in nt_MO_ty nt_MO_ok nt_MO_nm 8 rfl rfl 6 (by decide) nf_MO_52 rfl (by decide +kernel) rfl rfl (Nat.le_of_ble_eq_true rfl) nd_MO_commit_137 (sy_putU 2 _ rfl) ?_
            refine vv_iload_n fx nd_MO_commit_140 rfl 1 rfl ?_
            exact vv_iret fx rfl nd_MO_commit_141 (rfl)
          | succ d ih_loop =>
            intro i hi
            refine vv_iload_n fx nd_MO_commit_111 rfl 2 rfl ?_
            refine vv_bipush (v := nI 7) fx nd_MO_commit_112 (by decide) ?_
            refine vv_icmp_ge (tgt := 132) fx nd_MO_commit_114 (by decide) (fun hb => absurd hb (nI_ge (by omega) (by omega))) (fun _ => ?_)
            refine vv_aload_n fx nd_MO_commit_117 rfl 0 rfl ?_
            refine vv_iload_n fx nd_MO_commit_118 rfl 2 rfl ?_
            refine vv_bipush (v := nI 7) fx nd_MO_commit_119 (by decide) ?_
            refine vv_iload_n fx nd_MO_commit_121 rfl 2 rfl ?_
            refine vv_iadd fx nd_MO_commit_122 ?_
            refine vv_top (y := nI (7 + i)) (nI_add _ _) ?_
            refine vv_callVv (C := nr_MO) (T := nt_MO) (N := 10) (ci := 2) fx (cc_MO_copy l Y M (mo_cps W 0 7 i) o i (7 + i) (by omega) (by omega) (mo_B_cps hU2 (by omega) (by omega))) nm_MO_81 ns_MO_copy nv_MO_copy nz_MO nc_MO_copy ni_MO_copy 8 rfl rfl ⟨rfl, rfl, by decide, by decide⟩ ⟨Nat.le_of_ble_eq_true rfl, Nat.le_of_ble_eq_true rfl⟩ (Nat.le_of_ble_eq_true rfl) nd_MO_commit_123 rfl ?_
            refine vv_mem (M9 := M) (U9 := (mo_cps W 0 7 (i + 1))) (rfl) (by show _ = mo_copy (mo_cps W 0 7 i) (0 + i) (7 + i); rw [Nat.zero_add]) ?_
            refine vv_iinc (v := nI (i + 1)) (L' := [(0, .ref (Y.2.1 8)), (1, .int (mo_due0 U)), (2, .int (nI (i + 1)))]) fx nd_MO_commit_126 2 rfl (nI_1 i) (by decide) [1, 2, 0] rfl ?_
            refine vv_goto (tgt := 111) fx nd_MO_commit_129 (by decide) ?_
            exact ih_loop (i + 1) (by omega)
        exact loop 7 0 (by omega)
      · rw [show mo_commit U = (0, me_up (me_up (me_up (me_up (me_up U 4 0 0) 4 3 (U 4 3 + U 4 4)) 4 4 (-1)) 4 5 1) 4 0 1) from (if_neg h5).trans (if_pos ⟨Int32.not_lt.mp hb34, Int32.not_le.mp hb42⟩)]
        refine vv_aload_n fx nd_MO_commit_45 rfl 0 rfl ?_
        refine vv_aload_n fx nd_MO_commit_46 rfl 0 rfl ?_
        refine vv_get (ci := 2) (C := nr_MO) (T := nt_MO) (N := 10) fx nt_MO_in 8 rfl rfl 7 (by decide) nf_MO_94 rfl nd_MO_commit_47 ?_
        refine vv_top (y := U 4 3) (v4 (by decide)) ?_
        refine vv_aload_n fx nd_MO_commit_50 rfl 0 rfl ?_
        refine vv_get (ci := 2) (C := nr_MO) (T := nt_MO) (N := 10) fx nt_MO_in 8 rfl rfl 8 (by decide) nf_MO_23 rfl nd_MO_commit_51 ?_
        refine vv_top (y := U 4 4) (v4 (by decide)) ?_
        refine vv_iadd fx nd_MO_commit_54 ?_
        refine vv_put (U' := me_up (me_up U 4 0 0) 4 3 ((U 4 3) + (U 4 4))) (M' := M) (ci := 2) (C := nr_MO) (T := nt_MO) (N := 10) (ty := .int) fx nt_MO_in nt_MO_ty nt_MO_ok nt_MO_nm 8 rfl rfl 7 (by decide) nf_MO_94 rfl (by decide +kernel) rfl rfl (Nat.le_of_ble_eq_true rfl) nd_MO_commit_55 (sy_putU 3 _ rfl) ?_
        refine vv_aload_n fx nd_MO_commit_58 rfl 0 rfl ?_
        refine vv_iconst (v := -1) fx nd_MO_commit_59 (by decide) ?_
        refine vv_put (U' := me_up (me_up (me_up U 4 0 0) 4 3 ((U 4 3) + (U 4 4))) 4 4 (-1)) (M' := M) (ci := 2) (C := nr_MO) (T := nt_MO) (N := 10) (ty := .int) fx nt_MO_in nt_MO_ty nt_MO_ok nt_MO_nm 8 rfl rfl 8 (by decide) nf_MO_23 rfl (by decide +kernel) rfl rfl (Nat.le_of_ble_eq_true rfl) nd_MO_commit_60 (sy_putU 4 _ rfl) ?_
        refine vv_aload_n fx nd_MO_commit_63 rfl 0 rfl ?_
        refine vv_iconst (v := nI 1) fx nd_MO_commit_64 (by decide) ?_
        refine vv_put (U' := me_up (me_up (me_up (me_up U 4 0 0) 4 3 ((U 4 3) + (U 4 4))) 4 4 (-1)) 4 5 (nI 1)) (M' := M) (ci := 2) (C := nr_MO) (T := nt_MO) (N := 10) (ty := .boolean) fx nt_MO_in nt_MO_ty nt_MO_ok nt_MO_nm 8 rfl rfl 9 (by decide) nf_MO_66 rfl (by decide +kernel) rfl rfl (Nat.le_of_ble_eq_true rfl) nd_MO_commit_65 (sy_putU 5 _ rfl) ?_
        refine vv_aload_n fx nd_MO_commit_68 rfl 0 rfl ?_
        refine vv_iconst (v := nI 1) fx nd_MO_commit_69 (by decide) ?_
        refine vv_put (U' := me_up (me_up (me_up (me_up (me_up U 4 0 0) 4 3 ((U 4 3) + (U 4 4))) 4 4 (-1)) 4 5 (nI 1)) 4 0 (nI 1)) (M' := M) (ci := 2) (C := nr_MO) (T := nt_MO) (N := 10) (ty := .int) fx nt_MO_in nt_MO_ty nt_MO_ok nt_MO_nm 8 rfl rfl 0 (by decide) nf_MO_27 rfl (by decide +kernel) rfl rfl (Nat.le_of_ble_eq_true rfl) nd_MO_commit_70 (sy_putU 0 _ rfl) ?_
        refine vv_iconst (v := nI 0) fx nd_MO_commit_73 (by decide) ?_
        exact vv_iret fx rfl nd_MO_commit_74 (rfl)
set_option maxRecDepth 4000 in
theorem cc_MO_free (l : Launch) (Y : sy_Y) (M U : me_M) (o : Int64) (hB : mo_B U) : ct_I l ny_MO_free nb_MO_free 1 (some .int) { frames := 3, cells := 0, slots := 0, locals := 72 } Y [.ref (Y.2.1 8)] M U o ((mo_freeC U).1) M ((mo_freeC U).2) o := by
  refine ct_body (own := nr_MO) (L0 := [(0, .ref (Y.2.1 8))]) (by decide) rfl (Nat.le_of_ble_eq_true rfl) rfl ?_
  intro p e s m args below meth c fx
  by_cases h5 : U 4 5 ≠ 0
  · rw [show mo_freeC U = (0, me_up U 4 0 1) from if_pos h5]
    refine vv_aload_n fx nd_MO_free_0 rfl 0 rfl ?_
    refine vv_aload_n fx nd_MO_free_1 rfl 0 rfl ?_
    refine vv_get (ci := 2) (C := nr_MO) (T := nt_MO) (N := 10) fx nt_MO_in 8 rfl rfl 9 (by decide) nf_MO_66 rfl nd_MO_free_2 ?_
    refine vv_if_eq (tgt := 12) fx nd_MO_free_5 (by decide) (fun hb => absurd hb (h5)) (fun _ => ?_)
    refine vv_iconst (v := nI 1) fx nd_MO_free_8 (by decide) ?_
    refine vv_goto (tgt := 13) fx nd_MO_free_9 (by decide) ?_
    refine vv_put (U' := me_up U 4 0 (nI 1)) (M' := M) (ci := 2) (C := nr_MO) (T := nt_MO) (N := 10) (ty := .int) fx nt_MO_in nt_MO_ty nt_MO_ok nt_MO_nm 8 rfl rfl 0 (by decide) nf_MO_27 rfl (by decide +kernel) rfl rfl (Nat.le_of_ble_eq_true rfl) nd_MO_free_13 (sy_putU 0 _ rfl) ?_
    refine vv_mem (M9 := M) (U9 := me_up U 4 0 1) (rfl) (rfl) ?_
    refine vv_aload_n fx nd_MO_free_16 rfl 0 rfl ?_
    refine vv_get (ci := 2) (C := nr_MO) (T := nt_MO) (N := 10) fx nt_MO_in 8 rfl rfl 0 (by decide) nf_MO_27 rfl nd_MO_free_17 ?_
    refine vv_top (y := 1) (me_up_s _ _ _ _) ?_
    refine vv_if_le (tgt := 27) fx nd_MO_free_20 (by decide) (fun hb => absurd hb (by decide)) (fun _ => ?_)
    refine vv_iconst (v := nI 0) fx nd_MO_free_23 (by decide) ?_
    refine vv_goto (tgt := 31) fx nd_MO_free_24 (by decide) ?_
    exact vv_iret fx rfl nd_MO_free_31 (rfl)
  · have h5z : U 4 5 = 0 := Classical.not_not.mp h5
    refine vv_aload_n fx nd_MO_free_0 rfl 0 rfl ?_
    refine vv_aload_n fx nd_MO_free_1 rfl 0 rfl ?_
    refine vv_get (ci := 2) (C := nr_MO) (T := nt_MO) (N := 10) fx nt_MO_in 8 rfl rfl 9 (by decide) nf_MO_66 rfl nd_MO_free_2 ?_
    refine vv_if_eq (tgt := 12) fx nd_MO_free_5 (by decide) (fun _ => ?_) (fun hb => absurd (h5z) hb)
    rw [show mo_freeC U = (mo_free U, (me_up U 4 0 0)) from if_neg h5]
    refine vv_iconst (v := nI 0) fx nd_MO_free_12 (by decide) ?_
    refine vv_put (U' := me_up U 4 0 (nI 0)) (M' := M) (ci := 2) (C := nr_MO) (T := nt_MO) (N := 10) (ty := .int) fx nt_MO_in nt_MO_ty nt_MO_ok nt_MO_nm 8 rfl rfl 0 (by decide) nf_MO_27 rfl (by decide +kernel) rfl rfl (Nat.le_of_ble_eq_true rfl) nd_MO_free_13 (sy_putU 0 _ rfl) ?_
    refine vv_mem (M9 := M) (U9 := me_up U 4 0 0) (rfl) (rfl) ?_
    refine vv_aload_n fx nd_MO_free_16 rfl 0 rfl ?_
    refine vv_get (ci := 2) (C := nr_MO) (T := nt_MO) (N := 10) fx nt_MO_in 8 rfl rfl 0 (by decide) nf_MO_27 rfl nd_MO_free_17 ?_
    refine vv_top (y := 0) (me_up_s _ _ _ _) ?_
    refine vv_if_le (tgt := 27) fx nd_MO_free_20 (by decide) (fun _ => ?_) (fun hb => absurd (by decide) hb)
    refine vv_aload_n fx nd_MO_free_27 rfl 0 rfl ?_
    refine vv_callVi (C := nr_MO) (T := nt_MO) (N := 10) (ci := 2) fx (cc_MO_freeNow l Y M (me_up U 4 0 0) o) nm_MO_59 ns_MO_freeNow nv_MO_freeNow nz_MO nc_MO_freeNow ni_MO_freeNow 8 rfl rfl ⟨rfl, rfl, by decide, by decide⟩ ⟨Nat.le_of_ble_eq_true rfl, Nat.le_of_ble_eq_true rfl⟩ (Nat.le_of_ble_eq_true rfl) nd_MO_free_28 rfl ?_
    exact vv_iret fx rfl nd_MO_free_31 (mo_free_of (me_up_n _ _ _ (by decide)))
set_option maxRecDepth 4000 in
theorem cc_MO_due (l : Launch) (Y : sy_Y) (M U : me_M) (o : Int64) (hB : mo_B U) : ct_I l ny_MO_due nb_MO_due 1 (some .int) { frames := 3, cells := 0, slots := 0, locals := 72 } Y [.ref (Y.2.1 8)] M U o ((mo_due U).1) M ((mo_due U).2) o := by
  refine ct_body (own := nr_MO) (L0 := [(0, .ref (Y.2.1 8))]) (by decide) rfl (Nat.le_of_ble_eq_true rfl) rfl ?_
  intro p e s m args below meth c fx
  by_cases h5 : U 4 5 ≠ 0
  · rw [show mo_due U = (0, me_up U 4 0 1) from if_pos h5]
    refine vv_aload_n fx nd_MO_due_0 rfl 0 rfl ?_
    refine vv_aload_n fx nd_MO_due_1 rfl 0 rfl ?_
    refine vv_get (ci := 2) (C := nr_MO) (T := nt_MO) (N := 10) fx nt_MO_in 8 rfl rfl 9 (by decide) nf_MO_66 rfl nd_MO_due_2 ?_
    refine vv_if_eq (tgt := 12) fx nd_MO_due_5 (by decide) (fun hb => absurd hb (h5)) (fun _ => ?_)
    refine vv_iconst (v := nI 1) fx nd_MO_due_8 (by decide) ?_
    refine vv_goto (tgt := 13) fx nd_MO_due_9 (by decide) ?_
    refine vv_put (U' := me_up U 4 0 (nI 1)) (M' := M) (ci := 2) (C := nr_MO) (T := nt_MO) (N := 10) (ty := .int) fx nt_MO_in nt_MO_ty nt_MO_ok nt_MO_nm 8 rfl rfl 0 (by decide) nf_MO_27 rfl (by decide +kernel) rfl rfl (Nat.le_of_ble_eq_true rfl) nd_MO_due_13 (sy_putU 0 _ rfl) ?_
    refine vv_mem (M9 := M) (U9 := me_up U 4 0 1) (rfl) (rfl) ?_
    refine vv_aload_n fx nd_MO_due_16 rfl 0 rfl ?_
    refine vv_get (ci := 2) (C := nr_MO) (T := nt_MO) (N := 10) fx nt_MO_in 8 rfl rfl 0 (by decide) nf_MO_27 rfl nd_MO_due_17 ?_
    refine vv_top (y := 1) (me_up_s _ _ _ _) ?_
    refine vv_if_le (tgt := 27) fx nd_MO_due_20 (by decide) (fun hb => absurd hb (by decide)) (fun _ => ?_)
    refine vv_iconst (v := nI 0) fx nd_MO_due_23 (by decide) ?_
    refine vv_goto (tgt := 31) fx nd_MO_due_24 (by decide) ?_
    exact vv_iret fx rfl nd_MO_due_31 (rfl)
  · have h5z : U 4 5 = 0 := Classical.not_not.mp h5
    refine vv_aload_n fx nd_MO_due_0 rfl 0 rfl ?_
    refine vv_aload_n fx nd_MO_due_1 rfl 0 rfl ?_
    refine vv_get (ci := 2) (C := nr_MO) (T := nt_MO) (N := 10) fx nt_MO_in 8 rfl rfl 9 (by decide) nf_MO_66 rfl nd_MO_due_2 ?_
    refine vv_if_eq (tgt := 12) fx nd_MO_due_5 (by decide) (fun _ => ?_) (fun hb => absurd (h5z) hb)
    rw [show mo_due U = (mo_due0 U, (me_up U 4 0 0)) from if_neg h5]
    refine vv_iconst (v := nI 0) fx nd_MO_due_12 (by decide) ?_
    refine vv_put (U' := me_up U 4 0 (nI 0)) (M' := M) (ci := 2) (C := nr_MO) (T := nt_MO) (N := 10) (ty := .int) fx nt_MO_in nt_MO_ty nt_MO_ok nt_MO_nm 8 rfl rfl 0 (by decide) nf_MO_27 rfl (by decide +kernel) rfl rfl (Nat.le_of_ble_eq_true rfl) nd_MO_due_13 (sy_putU 0 _ rfl) ?_
    refine vv_mem (M9 := M) (U9 := me_up U 4 0 0) (rfl) (rfl) ?_
    refine vv_aload_n fx nd_MO_due_16 rfl 0 rfl ?_
    refine vv_get (ci := 2) (C := nr_MO) (T := nt_MO) (N := 10) fx nt_MO_in 8 rfl rfl 0 (by decide) nf_MO_27 rfl nd_MO_due_17 ?_
    refine vv_top (y := 0) (me_up_s _ _ _ _) ?_
    refine vv_if_le (tgt := 27) fx nd_MO_due_20 (by decide) (fun _ => ?_) (fun hb => absurd (by decide) hb)
    refine vv_aload_n fx nd_MO_due_27 rfl 0 rfl ?_
    refine vv_callVi (C := nr_MO) (T := nt_MO) (N := 10) (ci := 2) fx (cc_MO_dueNow l Y M (me_up U 4 0 0) o) nm_MO_91 ns_MO_dueNow nv_MO_dueNow nz_MO nc_MO_dueNow ni_MO_dueNow 8 rfl rfl ⟨rfl, rfl, by decide, by decide⟩ ⟨Nat.le_of_ble_eq_true rfl, Nat.le_of_ble_eq_true rfl⟩ (Nat.le_of_ble_eq_true rfl) nd_MO_due_28 rfl ?_
    exact vv_iret fx rfl nd_MO_due_31 (mo_due0_of (me_up_n _ _ _ (by decide)))
set_option maxRecDepth 4000 in
theorem cc_MO_order (l : Launch) (Y : sy_Y) (M U : me_M) (o : Int64) (n : Int32) : ct_I l ny_MO_order nb_MO_order 2 (some .boolean) { frames := 0, cells := 0, slots := 0, locals := 0 } Y [.ref (Y.2.1 8), .int n] M U o ((mo_order U n).1) M ((mo_order U n).2) o := by
  refine ct_body (own := nr_MO) (L0 := [(0, .ref (Y.2.1 8)), (1, .int n)]) (by decide) rfl (Nat.le_of_ble_eq_true rfl) rfl ?_
  intro p e s m args below meth c fx
  refine vv_aload_n fx nd_MO_order_0 rfl 0 rfl ?_
  refine vv_iconst (v := 0) fx nd_MO_order_1 (by decide) ?_
  refine vv_put (U' := me_up U 4 0 0) (M' := M) (ci := 2) (C := nr_MO) (T := nt_MO) (N := 10) (ty := .int) fx nt_MO_in nt_MO_ty nt_MO_ok nt_MO_nm 8 rfl rfl 0 (by decide) nf_MO_27 rfl (by decide +kernel) rfl rfl (Nat.le_of_ble_eq_true rfl) nd_MO_order_2 (sy_putU 0 _ rfl) ?_
  refine vv_iload_n fx nd_MO_order_5 rfl 1 rfl ?_
  refine vv_if_lt (tgt := 15) fx nd_MO_order_6 (by decide) (fun hb6 => ?_) (fun hb6 => ?_)
  · rw [show mo_order U n = (0, (me_up U 4 0 0)) from if_pos (Or.inl hb6)]
    refine vv_iconst (v := nI 0) fx nd_MO_order_15 (by decide) ?_
    exact vv_zret fx rfl nd_MO_order_16 (rfl) (Or.inl rfl)
  · refine vv_iload_n fx nd_MO_order_9 rfl 1 rfl ?_
    refine vv_bipush (v := nI 100) fx nd_MO_order_10 (by decide) ?_
    refine vv_icmp_le (tgt := 17) fx nd_MO_order_12 (by decide) (fun hb12 => ?_) (fun hb12 => ?_)
    · rw [show mo_order U n = (1, me_up (me_up U 4 0 0) 4 4 n) from if_neg (fun z => z.elim hb6 (Int32.not_lt.mpr hb12))]
      refine vv_aload_n fx nd_MO_order_17 rfl 0 rfl ?_
      refine vv_iload_n fx nd_MO_order_18 rfl 1 rfl ?_
      refine vv_put (U' := me_up (me_up U 4 0 0) 4 4 n) (M' := M) (ci := 2) (C := nr_MO) (T := nt_MO) (N := 10) (ty := .int) fx nt_MO_in nt_MO_ty nt_MO_ok nt_MO_nm 8 rfl rfl 8 (by decide) nf_MO_23 rfl (by decide +kernel) rfl rfl (Nat.le_of_ble_eq_true rfl) nd_MO_order_19 (sy_putU 4 _ rfl) ?_
      refine vv_iconst (v := nI 1) fx nd_MO_order_22 (by decide) ?_
      exact vv_zret fx rfl nd_MO_order_23 (rfl) (Or.inr rfl)
    · rw [show mo_order U n = (0, (me_up U 4 0 0)) from if_pos (Or.inr (Int32.not_le.mp hb12))]
      refine vv_iconst (v := nI 0) fx nd_MO_order_15 (by decide) ?_
      exact vv_zret fx rfl nd_MO_order_16 (rfl) (Or.inl rfl)
theorem mo_cps_there {U : me_M} (i : Nat) : mo_cps U 7 0 (i + 1) 0 i = U 0 (7 + i) := by
  show mo_copy (mo_cps U 7 0 i) (7 + i) (0 + i) 0 i = _
  unfold mo_copy
  rw [me_set_n _ _ (by decide), me_set_n _ _ (by decide), me_set_n _ _ (by decide), Nat.zero_add, me_up_s]
  have : ∀ n, n ≤ 7 → ∀ m, 7 ≤ m → mo_cps U 7 0 n 0 m = U 0 m := by
    intro n
    induction n with
    | zero => intro _ m _; rfl
    | succ n ih =>
      intro hn m hm
      show mo_copy (mo_cps U 7 0 n) (7 + n) (0 + n) 0 m = _
      unfold mo_copy
      rw [me_set_n _ _ (by decide), me_set_n _ _ (by decide), me_set_n _ _ (by decide), me_up_j _ _ _ (by omega)]
      exact ih (by omega) m hm
  by_cases h : i ≤ 7
  · exact this i h (7 + i) (by omega)
  · have h2 : ∀ n m, n ≤ m → mo_cps U 7 0 n 0 m = U 0 m := by
      intro n
      induction n with
      | zero => intro m _; rfl
      | succ n ih =>
        intro m hm
        show mo_copy (mo_cps U 7 0 n) (7 + n) (0 + n) 0 m = _
        unfold mo_copy
        rw [me_set_n _ _ (by decide), me_set_n _ _ (by decide), me_set_n _ _ (by decide), me_up_j _ _ _ (by omega)]
        exact ih m (by omega)
    exact h2 i (7 + i) (by omega)
set_option maxRecDepth 4000 in
theorem cc_MO_recover (l : Launch) (Y : sy_Y) (M U : me_M) (o : Int64) (hB : mo_B U) : ct_I l ny_MO_recover nb_MO_recover 3 (some .int) { frames := 1, cells := 0, slots := 0, locals := 23 } Y [.ref (Y.2.1 8)] M U o ((mo_recover U).1) M ((mo_recover U).2) o := by
  refine ct_body (own := nr_MO) (L0 := [(0, .ref (Y.2.1 8))]) (by decide) rfl (Nat.le_of_ble_eq_true rfl) rfl ?_
  intro p e s m args below meth c fx
  refine vv_aload_n fx nd_MO_recover_0 rfl 0 rfl ?_
  refine vv_iconst (v := 0) fx nd_MO_recover_1 (by decide) ?_
  refine vv_put (U' := me_up U 4 0 0) (M' := M) (ci := 2) (C := nr_MO) (T := nt_MO) (N := 10) (ty := .int) fx nt_MO_in nt_MO_ty nt_MO_ok nt_MO_nm 8 rfl rfl 0 (by decide) nf_MO_27 rfl (by decide +kernel) rfl rfl (Nat.le_of_ble_eq_true rfl) nd_MO_recover_2 (sy_putU 0 _ rfl) ?_
  refine vv_aload_n fx nd_MO_recover_5 rfl 0 rfl ?_
  refine vv_get (ci := 2) (C := nr_MO) (T := nt_MO) (N := 10) fx nt_MO_in 8 rfl rfl 9 (by decide) nf_MO_66 rfl nd_MO_recover_6 ?_
  refine vv_top (y := U 4 5) (me_up_j _ _ _ (by decide)) ?_
  refine vv_if_ne (tgt := 14) fx nd_MO_recover_9 (by decide) (fun hb9 => ?_) (fun hb9 => ?_)
  · rw [show mo_recover U = (nI (me_cn (fun h => decide (U 0 (7 + (h + 1)) ≠ 0)) 6), me_up (mo_cps (me_up U 4 0 0) 7 0 7) 4 5 0) from if_neg hb9]
    have hV : mo_B (me_up U 4 0 0) := mo_B_code hB 0
    refine vv_iconst (v := nI 0) fx nd_MO_recover_14 (by decide) ?_
    refine vv_istore_n (L' := [(0, .ref (Y.2.1 8)), (1, .int (nI 0))]) fx nd_MO_recover_15 rfl (by decide) [1, 0] rfl ?_
    refine vv_iconst (v := nI 0) fx nd_MO_recover_16 (by decide) ?_
    refine vv_istore_n (L' := [(0, .ref (Y.2.1 8)), (1, .int (nI 0)), (2, .int (nI 0))]) fx nd_MO_recover_17 rfl (by decide) [1, 2, 0] rfl ?_
    have loop : ∀ d i, i + d = 7 → vv p l e { frames := 1, cells := 0, slots := 0, locals := 23 } s m args below meth c 0 0 (MQ below (ct_Qi Y (nI (me_cn (fun h => decide (U 0 (7 + (h + 1)) ≠ 0)) 6)) M (me_up (mo_cps (me_up U 4 0 0) 7 0 7) 4 5 0) o) args s 0 0 Y.2.2.2) 3 Y M (mo_cps (me_up U 4 0 0) 7 0 i) o 18 [(0, .ref (Y.2.1 8)), (1, .int (nI (me_cn (fun h => decide (U 0 (7 + (h + 1)) ≠ 0)) (i - 1)))), (2, .int (nI i))] [] := by
      intro d
      induction d with
      | zero =>
        intro i hi
        have e9 : i = 7 := by omega
        subst e9
        refine vv_iload_n fx nd_MO_recover_18 rfl 2 rfl ?_
        refine vv_bipush (v := nI 7) fx nd_MO_recover_19 (by decide) ?_
        refine vv_icmp_ge (tgt := 60) fx nd_MO_recover_21 (by decide) (fun _ => ?_) (fun hb => absurd (nI_le (by omega) (by omega)) hb)
        refine vv_aload_n fx nd_MO_recover_60 rfl 0 rfl ?_
        refine vv_iconst (v := 0) fx nd_MO_recover_61 (by decide) ?_
        refine vv_put (U' := me_up (mo_cps (me_up U 4 0 0) 7 0 7) 4 5 0) (M' := M) (ci := 2) (C := nr_MO) (T := nt_MO) (N := 10) (ty := .boolean) fx nt_MO_in nt_MO_ty nt_MO_ok nt_MO_nm 8 rfl rfl 9 (by decide) nf_MO_66 rfl (by decide +kernel) rfl rfl (Nat.le_of_ble_eq_true rfl) nd_MO_recover_62 (sy_putU 5 _ rfl) ?_
        refine vv_iload_n fx nd_MO_recover_65 rfl 1 rfl ?_
        exact vv_iret fx rfl nd_MO_recover_66 (rfl)
      | succ d ih_loop =>
        intro i hi
        refine vv_iload_n fx nd_MO_recover_18 rfl 2 rfl ?_
        refine vv_bipush (v := nI 7) fx nd_MO_recover_19 (by decide) ?_
        refine vv_icmp_ge (tgt := 60) fx nd_MO_recover_21 (by decide) (fun hb => absurd hb (nI_ge (by omega) (by omega))) (fun _ => ?_)
        refine vv_aload_n fx nd_MO_recover_24 rfl 0 rfl ?_
        refine vv_bipush (v := nI 7) fx nd_MO_recover_25 (by decide) ?_
        refine vv_iload_n fx nd_MO_recover_27 rfl 2 rfl ?_
        refine vv_iadd fx nd_MO_recover_28 ?_
        refine vv_top (y := nI (7 + i)) (nI_add _ _) ?_
        refine vv_iload_n fx nd_MO_recover_29 rfl 2 rfl ?_
        refine vv_callVv (C := nr_MO) (T := nt_MO) (N := 10) (ci := 2) fx (cc_MO_copy l Y M (mo_cps (me_up U 4 0 0) 7 0 i) o (7 + i) i (by omega) (by omega) (mo_B_cps hV (by omega) (by omega))) nm_MO_81 ns_MO_copy nv_MO_copy nz_MO nc_MO_copy ni_MO_copy 8 rfl rfl ⟨rfl, rfl, by decide, by decide⟩ ⟨Nat.le_of_ble_eq_true rfl, Nat.le_of_ble_eq_true rfl⟩ (Nat.le_of_ble_eq_true rfl) nd_MO_recover_30 rfl ?_
        refine vv_mem (M9 := M) (U9 := (mo_cps (me_up U 4 0 0) 7 0 (i + 1))) (rfl) (by show _ = mo_copy (mo_cps (me_up U 4 0 0) 7 0 i) (7 + i) (0 + i); rw [Nat.zero_add]) ?_
        refine vv_iload_n fx nd_MO_recover_33 rfl 2 rfl ?_
        refine vv_if_le (tgt := 52) fx nd_MO_recover_34 (by decide) (fun hb34 => ?_) (fun hb34 => ?_)
        · have hi0 : i = 0 := by apply Classical.byContradiction; intro q; exact absurd hb34 (nI_nle (by omega) (by omega))
          have ev : me_cn (fun h => decide (U 0 (7 + (h + 1)) ≠ 0)) ((i + 1) - 1) = me_cn (fun h => decide (U 0 (7 + (h + 1)) ≠ 0)) (i - 1) := by rw [hi0]
          refine vv_iload_n fx nd_MO_recover_52 rfl 1 rfl ?_
          refine vv_istore_n (L' := [(0, .ref (Y.2.1 8)), (1, .int (nI (me_cn (fun h => decide (U 0 (7 + (h + 1)) ≠ 0)) (i - 1)))), (2, .int (nI i))]) fx nd_MO_recover_53 rfl (by decide) [1, 0, 2] rfl ?_
          refine vv_iinc (v := nI (i + 1)) (L' := [(0, .ref (Y.2.1 8)), (1, .int (nI (me_cn (fun h => decide (U 0 (7 + (h + 1)) ≠ 0)) (i - 1)))), (2, .int (nI (i + 1)))]) fx nd_MO_recover_54 2 rfl (nI_1 i) (by decide) [1, 2, 0] rfl ?_
          refine vv_goto (tgt := 18) fx nd_MO_recover_57 (by decide) ?_
          have h9 := ih_loop (i + 1) (by omega)
          rw [ev] at h9
          exact h9
        · obtain ⟨j, rfl⟩ : ∃ j, i = j + 1 := ⟨i - 1, by have : i ≠ 0 := fun q => hb34 (by rw [q]; decide); omega⟩
          have ev0 : me_cn (fun h => decide (U 0 (7 + (h + 1)) ≠ 0)) (j + 1 + 1 - 1) = me_cn (fun h => decide (U 0 (7 + (h + 1)) ≠ 0)) (j + 1 - 1) + if decide (U 0 (7 + (j + 1)) ≠ 0) = true then 1 else 0 := rfl
          refine vv_aload_n fx nd_MO_recover_37 rfl 0 rfl ?_
          refine vv_get (ci := 2) (C := nr_MO) (T := nt_MO) (N := 10) fx nt_MO_in 8 rfl rfl 1 (by decide) nf_MO_7 rfl nd_MO_recover_38 ?_
          refine vv_iload_n fx nd_MO_recover_41 rfl 2 rfl ?_
          refine vv_zald fx 9 1 rfl rfl (by omega) (by decide) nd_MO_recover_42 ?_
          refine vv_top (y := U 0 (7 + (j + 1))) ((mo_cps_there (j + 1)).trans (congrFun (me_up_n _ _ _ (by decide)) _)) ?_
          refine vv_if_eq (tgt := 52) fx nd_MO_recover_43 (by decide) (fun hb43 => ?_) (fun hb43 => ?_)
          · rw [decide_eq_false (p := U 0 (7 + (j + 1)) ≠ 0) (fun z => z hb43), if_neg (by decide), Nat.add_zero] at ev0
            refine vv_iload_n fx nd_MO_recover_52 rfl 1 rfl ?_
            refine vv_istore_n (L' := [(0, .ref (Y.2.1 8)), (1, .int (nI (me_cn (fun h => decide (U 0 (7 + (h + 1)) ≠ 0)) ((j + 1) - 1)))), (2, .int (nI (j + 1)))]) fx nd_MO_recover_53 rfl (by decide) [1, 0, 2] rfl ?_
            refine vv_iinc (v := nI (j + 1 + 1)) (L' := [(0, .ref (Y.2.1 8)), (1, .int (nI (me_cn (fun h => decide (U 0 (7 + (h + 1)) ≠ 0)) ((j + 1) - 1)))), (2, .int (nI (j + 1 + 1)))]) fx nd_MO_recover_54 2 rfl (nI_1 _) (by decide) [1, 2, 0] rfl ?_
            refine vv_goto (tgt := 18) fx nd_MO_recover_57 (by decide) ?_
            have h9 := ih_loop (j + 1 + 1) (by omega)
            rw [ev0] at h9
            exact h9
          · rw [decide_eq_true (p := U 0 (7 + (j + 1)) ≠ 0) hb43, if_pos rfl] at ev0
            refine vv_iload_n fx nd_MO_recover_46 rfl 1 rfl ?_
            refine vv_iconst (v := nI 1) fx nd_MO_recover_47 (by decide) ?_
            refine vv_iadd fx nd_MO_recover_48 ?_
            refine vv_top (y := nI ((me_cn (fun h => decide (U 0 (7 + (h + 1)) ≠ 0)) ((j + 1) - 1)) + 1)) (nI_add _ _) ?_
            refine vv_goto (tgt := 53) fx nd_MO_recover_49 (by decide) ?_
            refine vv_istore_n (L' := [(0, .ref (Y.2.1 8)), (1, .int (nI ((me_cn (fun h => decide (U 0 (7 + (h + 1)) ≠ 0)) ((j + 1) - 1)) + 1))), (2, .int (nI (j + 1)))]) fx nd_MO_recover_53 rfl (by decide) [1, 0, 2] rfl ?_
            refine vv_iinc (v := nI (j + 1 + 1)) (L' := [(0, .ref (Y.2.1 8)), (1, .int (nI ((me_cn (fun h => decide (U 0 (7 + (h + 1)) ≠ 0)) ((j + 1) - 1)) + 1))), (2, .int (nI (j + 1 + 1)))]) fx nd_MO_recover_54 2 rfl (nI_1 _) (by decide) [1, 2, 0] rfl ?_
            refine vv_goto (tgt := 18) fx nd_MO_recover_57 (by decide) ?_
            have h9 := ih_loop (j + 1 + 1) (by omega)
            rw [ev0] at h9
            exact h9
    exact loop 7 0 (by omega)
  · rw [show mo_recover U = (-1, (me_up U 4 0 0)) from if_pos hb9]
    refine vv_iconst (v := -1) fx nd_MO_recover_12 (by decide) ?_
    exact vv_iret fx rfl nd_MO_recover_13 (rfl)
set_option maxRecDepth 4000 in
theorem cc_MO_writes (l : Launch) (Y : sy_Y) (M U : me_M) (o : Int64)  : ct_I l ny_MO_writes nb_MO_writes 1 (some .int) { frames := 0, cells := 0, slots := 0, locals := 0 } Y [.ref (Y.2.1 8)] M U o (U 4 3) M (me_up U 4 0 0) o := by
  refine ct_body (own := nr_MO) (L0 := [(0, .ref (Y.2.1 8))]) (by decide) rfl (Nat.le_of_ble_eq_true rfl) rfl ?_
  intro p e s m args below meth c fx
  refine vv_aload_n fx nd_MO_writes_0 rfl 0 rfl ?_
  refine vv_iconst (v := 0) fx nd_MO_writes_1 (by decide) ?_
  refine vv_put (U' := me_up U 4 0 0) (M' := M) (ci := 2) (C := nr_MO) (T := nt_MO) (N := 10) (ty := .int) fx nt_MO_in nt_MO_ty nt_MO_ok nt_MO_nm 8 rfl rfl 0 (by decide) nf_MO_27 rfl (by decide +kernel) rfl rfl (Nat.le_of_ble_eq_true rfl) nd_MO_writes_2 (sy_putU 0 _ rfl) ?_
  refine vv_aload_n fx nd_MO_writes_5 rfl 0 rfl ?_
  refine vv_get (ci := 2) (C := nr_MO) (T := nt_MO) (N := 10) fx nt_MO_in 8 rfl rfl 7 (by decide) nf_MO_94 rfl nd_MO_writes_6 ?_
  exact vv_iret fx rfl nd_MO_writes_9 (me_up_j _ _ _ (by decide))
set_option maxRecDepth 4000 in
theorem cc_MO_down (l : Launch) (Y : sy_Y) (M U : me_M) (o : Int64) (hB : mo_B U) : ct_I l ny_MO_down nb_MO_down 1 (some .boolean) { frames := 0, cells := 0, slots := 0, locals := 0 } Y [.ref (Y.2.1 8)] M U o (U 4 5) M (me_up U 4 0 0) o := by
  refine ct_body (own := nr_MO) (L0 := [(0, .ref (Y.2.1 8))]) (by decide) rfl (Nat.le_of_ble_eq_true rfl) rfl ?_
  intro p e s m args below meth c fx
  refine vv_aload_n fx nd_MO_down_0 rfl 0 rfl ?_
  refine vv_iconst (v := 0) fx nd_MO_down_1 (by decide) ?_
  refine vv_put (U' := me_up U 4 0 0) (M' := M) (ci := 2) (C := nr_MO) (T := nt_MO) (N := 10) (ty := .int) fx nt_MO_in nt_MO_ty nt_MO_ok nt_MO_nm 8 rfl rfl 0 (by decide) nf_MO_27 rfl (by decide +kernel) rfl rfl (Nat.le_of_ble_eq_true rfl) nd_MO_down_2 (sy_putU 0 _ rfl) ?_
  refine vv_aload_n fx nd_MO_down_5 rfl 0 rfl ?_
  refine vv_get (ci := 2) (C := nr_MO) (T := nt_MO) (N := 10) fx nt_MO_in 8 rfl rfl 9 (by decide) nf_MO_66 rfl nd_MO_down_6 ?_
  exact vv_zret fx rfl nd_MO_down_9 (me_up_j _ _ _ (by decide)) (hB.2.2)
