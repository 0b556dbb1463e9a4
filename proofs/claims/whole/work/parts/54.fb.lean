/-! the outer object's methods that throw nothing (printed by fb.py) -/
theorem b01_0 {b : Bool} (h : (if b = true then (1 : Int32) else 0) = 0) : b = false := by cases b with
  | false => rfl
  | true => exact absurd h (by decide)
theorem b01_1 {b : Bool} (h : ¬ (if b = true then (1 : Int32) else 0) = 0) : b = true := by cases b with
  | false => exact absurd rfl h
  | true => rfl
theorem b01_t {b : Bool} (h : b = true) : nI 1 = if b = true then (1 : Int32) else 0 := by rw [if_pos h]; rfl
theorem b01_f {b : Bool} (h : b = false) : nI 0 = if b = true then (1 : Int32) else 0 := by rw [h]; rfl
theorem b01_eq {a b : Bool} (h : (if a = true then (1 : Int32) else 0) = if b = true then (1 : Int32) else 0) : a = b := by
  cases a <;> cases b <;> first | rfl | exact absurd h (by decide)
theorem fb_isk_lt {k : Int32} (h : k < 0) : fb_isk k = false := by
  unfold fb_isk; rw [decide_eq_false (Int32.not_le.mpr h)]; rfl
theorem fb_isk_ge {k : Int32} (h : nI 64 ≤ k) : fb_isk k = false := by
  unfold fb_isk; rw [decide_eq_false (p := k < 64) (Int32.not_lt.mpr h), Bool.and_false]
theorem fb_isk_in {k : Int32} (h1 : ¬ k < 0) (h2 : ¬ nI 64 ≤ k) : fb_isk k = true := by
  unfold fb_isk; rw [decide_eq_true (p := k < 64) (Int32.not_le.mp h2), decide_eq_true (Int32.not_lt.mp h1)]; rfl
theorem fb_ism_lt {M : me_M} {k : Int32} (h : k < 0) : fb_ism M k = false := by
  unfold fb_ism; rw [decide_eq_false (Int32.not_le.mpr h)]; rfl
theorem fb_ism_ge {M : me_M} {k : Int32} (h : nI 7 ≤ k) : fb_ism M k = false := by
  unfold fb_ism; rw [decide_eq_false (p := k < 7) (Int32.not_lt.mpr h), Bool.and_false]; rfl
theorem fb_ism_m1 {M : me_M} {k : Int32} (h : M 3 k.toNatClampNeg = -1) : fb_ism M k = false := by
  unfold fb_ism; rw [decide_eq_false (p := M 3 k.toNatClampNeg ≠ -1) (fun z => z h), Bool.and_false]
theorem fb_ism_in {M : me_M} {k : Int32} (h1 : ¬ k < 0) (h2 : ¬ nI 7 ≤ k) (h3 : ¬ M 3 k.toNatClampNeg = -1) : fb_ism M k = true := by
  unfold fb_ism; rw [decide_eq_true (p := k < 7) (Int32.not_le.mp h2), decide_eq_true (Int32.not_lt.mp h1), decide_eq_true h3]; rfl
def fb_rt (M : me_M) (a h : Nat) : Nat := (M a h).toNatClampNeg
def fb_KA (M : me_M) (a : Nat) : Prop := ∀ h, h < 7 → M a h = -1 ∨ (M a h = nI (fb_rt M a h) ∧ fb_wf M (fb_rt M a h))
def fb_K (M : me_M) : Prop := fb_KA M 3 ∧ fb_KA M 4
theorem fb_wf_of {M M' : me_M} (h : ∀ x, M' (6 + x) = M (6 + x)) {r : Nat} (hw : fb_wf M r) : fb_wf M' r := by
  have e : ∀ n t, fb_ch M' n t = fb_ch M n t := fun n t => by unfold fb_ch; rw [h]
  have e1 : ∀ n, fb_w1 M n → fb_w1 M' n := fun n hn t ht => by rw [h, e]; exact hn t ht
  exact ⟨hw.1, e1 r hw.2.1, fun t ht => by rw [e]; exact e1 _ (hw.2.2 t ht)⟩
theorem fb_KA_of {M M' : me_M} {a : Nat} (h : ∀ x, M' (6 + x) = M (6 + x)) (ha : M' a = M a) (hk : fb_KA M a) : fb_KA M' a := fun i hi => by
  unfold fb_rt
  rw [ha]
  exact (hk i hi).imp id (fun z => ⟨z.1, fb_wf_of h z.2⟩)
theorem fb_mark_n (M : me_M) (r : Nat) {x : Nat} (hx : x ≠ 2) : (fb_mark M r).2 x = M x := by
  unfold fb_mark
  split
  · rfl
  · exact me_set_n _ _ hx
theorem fb_mm_n (M : me_M) (a h : Nat) {x : Nat} (hx : x ≠ 2) : (fb_mm M a h).2 x = M x := by
  induction h with
  | zero => rfl
  | succ h ih =>
    unfold fb_mm
    split
    · exact ih
    · exact (fb_mark_n _ _ hx).trans ih
theorem fb_unmark_n (M : me_M) {x : Nat} (hx : x ≠ 2) : fb_unmark M x = M x := me_set_n _ _ hx
theorem fb_md_n (M : me_M) {x : Nat} (hx : x ≠ 2) : (fb_md M).2 x = M x := (fb_mm_n _ _ _ hx).trans (fb_unmark_n M hx)
theorem fb_mr_n (M : me_M) {x : Nat} (hx : x ≠ 2) : (fb_mr M).2 x = M x := (fb_mm_n _ _ _ hx).trans (fb_md_n M hx)
theorem fb_wfp {M : me_M} {r k : Nat} (h : fb_wf M r) : fb_pk M r k 2 := (fb_pk_wf h k).1
theorem fb_wfq {M : me_M} {r k : Nat} (h : fb_wf M r) : fb_na M r k 2 < 61 := (fb_pk_wf h k).2 2 (by decide)
theorem fb_wfr {M : me_M} {r : Nat} (h : fb_wf M r) : r < 61 := Nat.lt_succ_of_le h.1
set_option maxRecDepth 4000 in
theorem cc_FB_isKey (l : Launch) (Y : sy_Y) (M U : me_M) (o : Int64) (k : Int32) : ct_I l ny_FB_isKey nb_FB_isKey 2 (some .boolean) { frames := 0, cells := 0, slots := 0, locals := 0 } Y [.ref (Y.2.1 0), .int k] M U o (if fb_isk k = true then 1 else 0) M U o := by
  refine ct_body (own := nr_FB) (L0 := [(0, .ref (Y.2.1 0)), (1, .int k)]) (by decide) rfl (Nat.le_of_ble_eq_true rfl) rfl ?_
  intro p e s m args below meth c fx
  refine vv_iload_n fx nd_FB_isKey_0 rfl 1 rfl ?_
  refine vv_if_lt (tgt := 14) fx nd_FB_isKey_1 (by decide) (fun hb1 => ?_) (fun hb1 => ?_)
  · refine vv_iconst (v := nI 0) fx nd_FB_isKey_14 (by decide) ?_
    exact vv_zret fx rfl nd_FB_isKey_15 (b01_f (fb_isk_lt hb1)) (fb_01 _)
  · refine vv_iload_n fx nd_FB_isKey_4 rfl 1 rfl ?_
    refine vv_bipush (v := nI 64) fx nd_FB_isKey_5 (by decide) ?_
    refine vv_icmp_ge (tgt := 14) fx nd_FB_isKey_7 (by decide) (fun hb7 => ?_) (fun hb7 => ?_)
    · refine vv_iconst (v := nI 0) fx nd_FB_isKey_14 (by decide) ?_
      exact vv_zret fx rfl nd_FB_isKey_15 (b01_f (fb_isk_ge hb7)) (fb_01 _)
    · refine vv_iconst (v := nI 1) fx nd_FB_isKey_10 (by decide) ?_
      refine vv_goto (tgt := 15) fx nd_FB_isKey_11 (by decide) ?_
      exact vv_zret fx rfl nd_FB_isKey_15 (b01_t (fb_isk_in hb1 hb7)) (fb_01 _)
set_option maxRecDepth 4000 in
theorem cc_FB_isMap (l : Launch) (Y : sy_Y) (M U : me_M) (o : Int64) (k : Int32) : ct_I l ny_FB_isMap nb_FB_isMap 2 (some .boolean) { frames := 0, cells := 0, slots := 0, locals := 0 } Y [.ref (Y.2.1 0), .int k] M U o (if fb_ism M k = true then 1 else 0) M U o := by
  refine ct_body (own := nr_FB) (L0 := [(0, .ref (Y.2.1 0)), (1, .int k)]) (by decide) rfl (Nat.le_of_ble_eq_true rfl) rfl ?_
  intro p e s m args below meth c fx
  refine vv_iload_n fx nd_FB_isMap_0 rfl 1 rfl ?_
  refine vv_if_lt (tgt := 27) fx nd_FB_isMap_1 (by decide) (fun hb1 => ?_) (fun hb1 => ?_)
  · refine vv_iconst (v := nI 0) fx nd_FB_isMap_27 (by decide) ?_
    exact vv_zret fx rfl nd_FB_isMap_28 (b01_f (fb_ism_lt hb1)) (fb_01 _)
  · refine vv_iload_n fx nd_FB_isMap_4 rfl 1 rfl ?_
    refine vv_aload_n fx nd_FB_isMap_5 rfl 0 rfl ?_
    refine vv_get (ci := 0) (C := nr_FB) (T := nt_FB) (N := 6) fx nt_FB_in 0 rfl rfl 1 (by decide) nf_FB_16 rfl nd_FB_isMap_6 ?_
    refine vv_alen fx 2 0 rfl rfl nd_FB_isMap_9 ?_
    refine vv_icmp_ge (tgt := 27) fx nd_FB_isMap_10 (by decide) (fun hb10 => ?_) (fun hb10 => ?_)
    · refine vv_iconst (v := nI 0) fx nd_FB_isMap_27 (by decide) ?_
      exact vv_zret fx rfl nd_FB_isMap_28 (b01_f (fb_ism_ge hb10)) (fb_01 _)
    · obtain ⟨hx7, hxe⟩ := rf_h7 (Int32.not_lt.mp hb1) (Int32.not_le.mp hb10)
      refine vv_aload_n fx nd_FB_isMap_13 rfl 0 rfl ?_
      refine vv_get (ci := 0) (C := nr_FB) (T := nt_FB) (N := 6) fx nt_FB_in 0 rfl rfl 1 (by decide) nf_FB_16 rfl nd_FB_isMap_14 ?_
      refine vv_iload_n fx nd_FB_isMap_17 rfl 1 rfl ?_
      refine vv_top (y := nI k.toNatClampNeg) (hxe) ?_
      refine vv_iald fx 2 0 rfl rfl (hx7) (by decide) nd_FB_isMap_18 ?_
      refine vv_iconst (v := -1) fx nd_FB_isMap_19 (by decide) ?_
      refine vv_icmp_eq (tgt := 27) fx nd_FB_isMap_20 (by decide) (fun hb20 => ?_) (fun hb20 => ?_)
      · refine vv_iconst (v := nI 0) fx nd_FB_isMap_27 (by decide) ?_
        exact vv_zret fx rfl nd_FB_isMap_28 (b01_f (fb_ism_m1 hb20)) (fb_01 _)
      · refine vv_iconst (v := nI 1) fx nd_FB_isMap_23 (by decide) ?_
        refine vv_goto (tgt := 28) fx nd_FB_isMap_24 (by decide) ?_
        exact vv_zret fx rfl nd_FB_isMap_28 (b01_t (fb_ism_in hb1 hb10 hb20)) (fb_01 _)
set_option maxRecDepth 4000 in
theorem cc_FB_isBoundAlike (l : Launch) (Y : sy_Y) (M U : me_M) (o : Int64) (a b k : Nat) (ha : fb_wf M a) (hb : fb_wf M b) (hk : k < 64) : ct_I l ny_FB_isBoundAlike nb_FB_isBoundAlike 4 (some .boolean) { frames := 3, cells := 0, slots := 0, locals := 69 } Y [.ref (Y.2.1 0), .int (nI a), .int (nI b), .int (nI k)] M U o (if fb_alike M a b k = true then 1 else 0) M U o := by
  refine ct_body (own := nr_FB) (L0 := [(0, .ref (Y.2.1 0)), (1, .int (nI a)), (2, .int (nI b)), (3, .int (nI k))]) (by decide) rfl (Nat.le_of_ble_eq_true rfl) rfl ?_
  intro p e s m args below meth c fx
  refine vv_aload_n fx nd_FB_isBoundAlike_0 rfl 0 rfl ?_
  refine vv_get (ci := 0) (C := nr_FB) (T := nt_FB) (N := 6) fx nt_FB_in 0 rfl rfl 0 (by decide) nf_FB_10 rfl nd_FB_isBoundAlike_1 ?_
  refine vv_iload_n fx nd_FB_isBoundAlike_4 rfl 1 rfl ?_
  refine vv_iload_n fx nd_FB_isBoundAlike_5 rfl 3 rfl ?_
  refine vv_callVi (C := nr_RM) (T := nt_RM) (N := 4) (ci := 1) fx (cc_RM_binds l Y M U o a k hk (fb_wfp ha) (fb_wfq ha)) nm_FB_53 ns_RM_binds nv_RM_binds nz_RM nc_RM_binds ni_RM_binds 1 rfl rfl ⟨rfl, rfl, by decide, by decide⟩ ⟨Nat.le_of_ble_eq_true rfl, Nat.le_of_ble_eq_true rfl⟩ (Nat.le_of_ble_eq_true rfl) nd_FB_isBoundAlike_6 rfl ?_
  refine vv_if_eq (tgt := 24) fx nd_FB_isBoundAlike_9 (by decide) (fun hb9 => ?_) (fun hb9 => ?_)
  · refine vv_aload_n fx nd_FB_isBoundAlike_24 rfl 0 rfl ?_
    refine vv_get (ci := 0) (C := nr_FB) (T := nt_FB) (N := 6) fx nt_FB_in 0 rfl rfl 0 (by decide) nf_FB_10 rfl nd_FB_isBoundAlike_25 ?_
    refine vv_iload_n fx nd_FB_isBoundAlike_28 rfl 1 rfl ?_
    refine vv_iload_n fx nd_FB_isBoundAlike_29 rfl 3 rfl ?_
    refine vv_callVi (C := nr_RM) (T := nt_RM) (N := 4) (ci := 1) fx (cc_RM_binds l Y M U o a k hk (fb_wfp ha) (fb_wfq ha)) nm_FB_53 ns_RM_binds nv_RM_binds nz_RM nc_RM_binds ni_RM_binds 1 rfl rfl ⟨rfl, rfl, by decide, by decide⟩ ⟨Nat.le_of_ble_eq_true rfl, Nat.le_of_ble_eq_true rfl⟩ (Nat.le_of_ble_eq_true rfl) nd_FB_isBoundAlike_30 rfl ?_
    refine vv_aload_n fx nd_FB_isBoundAlike_33 rfl 0 rfl ?_
    refine vv_get (ci := 0) (C := nr_FB) (T := nt_FB) (N := 6) fx nt_FB_in 0 rfl rfl 0 (by decide) nf_FB_10 rfl nd_FB_isBoundAlike_34 ?_
    refine vv_iload_n fx nd_FB_isBoundAlike_37 rfl 2 rfl ?_
    refine vv_iload_n fx nd_FB_isBoundAlike_38 rfl 3 rfl ?_
    refine vv_callVi (C := nr_RM) (T := nt_RM) (N := 4) (ci := 1) fx (cc_RM_binds l Y M U o b k hk (fb_wfp hb) (fb_wfq hb)) nm_FB_53 ns_RM_binds nv_RM_binds nz_RM nc_RM_binds ni_RM_binds 1 rfl rfl ⟨rfl, rfl, by decide, by decide⟩ ⟨Nat.le_of_ble_eq_true rfl, Nat.le_of_ble_eq_true rfl⟩ (Nat.le_of_ble_eq_true rfl) nd_FB_isBoundAlike_39 rfl ?_
    have ea : fb_alike M a b k = (fb_bd M a k == fb_bd M b k) := if_neg (by rw [b01_0 hb9]; simp)
    refine vv_icmp_ne (tgt := 49) fx nd_FB_isBoundAlike_42 (by decide) (fun hb42 => ?_) (fun hb42 => ?_)
    · refine vv_iconst (v := nI 0) fx nd_FB_isBoundAlike_49 (by decide) ?_
      exact vv_zret fx rfl nd_FB_isBoundAlike_50 (b01_f (ea.trans (beq_eq_false_iff_ne.mpr (fun z => hb42 (by rw [z]))))) (fb_01 _)
    · refine vv_iconst (v := nI 1) fx nd_FB_isBoundAlike_45 (by decide) ?_
      refine vv_goto (tgt := 50) fx nd_FB_isBoundAlike_46 (by decide) ?_
      exact vv_zret fx rfl nd_FB_isBoundAlike_50 (b01_t (ea.trans (beq_iff_eq.mpr (b01_eq hb42)))) (fb_01 _)
  · refine vv_aload_n fx nd_FB_isBoundAlike_12 rfl 0 rfl ?_
    refine vv_get (ci := 0) (C := nr_FB) (T := nt_FB) (N := 6) fx nt_FB_in 0 rfl rfl 0 (by decide) nf_FB_10 rfl nd_FB_isBoundAlike_13 ?_
    refine vv_iload_n fx nd_FB_isBoundAlike_16 rfl 2 rfl ?_
    refine vv_iload_n fx nd_FB_isBoundAlike_17 rfl 3 rfl ?_
    refine vv_callVi (C := nr_RM) (T := nt_RM) (N := 4) (ci := 1) fx (cc_RM_binds l Y M U o b k hk (fb_wfp hb) (fb_wfq hb)) nm_FB_53 ns_RM_binds nv_RM_binds nz_RM nc_RM_binds ni_RM_binds 1 rfl rfl ⟨rfl, rfl, by decide, by decide⟩ ⟨Nat.le_of_ble_eq_true rfl, Nat.le_of_ble_eq_true rfl⟩ (Nat.le_of_ble_eq_true rfl) nd_FB_isBoundAlike_18 rfl ?_
    refine vv_if_ne (tgt := 51) fx nd_FB_isBoundAlike_21 (by decide) (fun hb21 => ?_) (fun hb21 => ?_)
    · have ea : fb_alike M a b k = decide (fb_val M a k = fb_val M b k) := if_pos (by rw [b01_1 hb9, b01_1 hb21]; rfl)
      refine vv_aload_n fx nd_FB_isBoundAlike_51 rfl 0 rfl ?_
      refine vv_get (ci := 0) (C := nr_FB) (T := nt_FB) (N := 6) fx nt_FB_in 0 rfl rfl 0 (by decide) nf_FB_10 rfl nd_FB_isBoundAlike_52 ?_
      refine vv_iload_n fx nd_FB_isBoundAlike_55 rfl 1 rfl ?_
      refine vv_iload_n fx nd_FB_isBoundAlike_56 rfl 3 rfl ?_
      refine vv_callVi (C := nr_RM) (T := nt_RM) (N := 4) (ci := 1) fx (cc_RM_valueOf l Y M U o a k hk (fb_wfp ha) (fb_wfq ha)) nm_FB_57 ns_RM_valueOf nv_RM_valueOf nz_RM nc_RM_valueOf ni_RM_valueOf 1 rfl rfl ⟨rfl, rfl, by decide, by decide⟩ ⟨Nat.le_of_ble_eq_true rfl, Nat.le_of_ble_eq_true rfl⟩ (Nat.le_of_ble_eq_true rfl) nd_FB_isBoundAlike_57 rfl ?_
      refine vv_aload_n fx nd_FB_isBoundAlike_60 rfl 0 rfl ?_
      refine vv_get (ci := 0) (C := nr_FB) (T := nt_FB) (N := 6) fx nt_FB_in 0 rfl rfl 0 (by decide) nf_FB_10 rfl nd_FB_isBoundAlike_61 ?_
      refine vv_iload_n fx nd_FB_isBoundAlike_64 rfl 2 rfl ?_
      refine vv_iload_n fx nd_FB_isBoundAlike_65 rfl 3 rfl ?_
      refine vv_callVi (C := nr_RM) (T := nt_RM) (N := 4) (ci := 1) fx (cc_RM_valueOf l Y M U o b k hk (fb_wfp hb) (fb_wfq hb)) nm_FB_57 ns_RM_valueOf nv_RM_valueOf nz_RM nc_RM_valueOf ni_RM_valueOf 1 rfl rfl ⟨rfl, rfl, by decide, by decide⟩ ⟨Nat.le_of_ble_eq_true rfl, Nat.le_of_ble_eq_true rfl⟩ (Nat.le_of_ble_eq_true rfl) nd_FB_isBoundAlike_66 rfl ?_
      refine vv_icmp_ne (tgt := 76) fx nd_FB_isBoundAlike_69 (by decide) (fun hb69 => ?_) (fun hb69 => ?_)
      · refine vv_iconst (v := nI 0) fx nd_FB_isBoundAlike_76 (by decide) ?_
        exact vv_zret fx rfl nd_FB_isBoundAlike_77 (b01_f (ea.trans (decide_eq_false hb69))) (fb_01 _)
      · refine vv_iconst (v := nI 1) fx nd_FB_isBoundAlike_72 (by decide) ?_
        refine vv_goto (tgt := 77) fx nd_FB_isBoundAlike_73 (by decide) ?_
        exact vv_zret fx rfl nd_FB_isBoundAlike_77 (b01_t (ea.trans (decide_eq_true hb69))) (fb_01 _)
    · refine vv_aload_n fx nd_FB_isBoundAlike_24 rfl 0 rfl ?_
      refine vv_get (ci := 0) (C := nr_FB) (T := nt_FB) (N := 6) fx nt_FB_in 0 rfl rfl 0 (by decide) nf_FB_10 rfl nd_FB_isBoundAlike_25 ?_
      refine vv_iload_n fx nd_FB_isBoundAlike_28 rfl 1 rfl ?_
      refine vv_iload_n fx nd_FB_isBoundAlike_29 rfl 3 rfl ?_
      refine vv_callVi (C := nr_RM) (T := nt_RM) (N := 4) (ci := 1) fx (cc_RM_binds l Y M U o a k hk (fb_wfp ha) (fb_wfq ha)) nm_FB_53 ns_RM_binds nv_RM_binds nz_RM nc_RM_binds ni_RM_binds 1 rfl rfl ⟨rfl, rfl, by decide, by decide⟩ ⟨Nat.le_of_ble_eq_true rfl, Nat.le_of_ble_eq_true rfl⟩ (Nat.le_of_ble_eq_true rfl) nd_FB_isBoundAlike_30 rfl ?_
      refine vv_aload_n fx nd_FB_isBoundAlike_33 rfl 0 rfl ?_
      refine vv_get (ci := 0) (C := nr_FB) (T := nt_FB) (N := 6) fx nt_FB_in 0 rfl rfl 0 (by decide) nf_FB_10 rfl nd_FB_isBoundAlike_34 ?_
      refine vv_iload_n fx nd_FB_isBoundAlike_37 rfl 2 rfl ?_
      refine vv_iload_n fx nd_FB_isBoundAlike_38 rfl 3 rfl ?_
      refine vv_callVi (C := nr_RM) (T := nt_RM) (N := 4) (ci := 1) fx (cc_RM_binds l Y M U o b k hk (fb_wfp hb) (fb_wfq hb)) nm_FB_53 ns_RM_binds nv_RM_binds nz_RM nc_RM_binds ni_RM_binds 1 rfl rfl ⟨rfl, rfl, by decide, by decide⟩ ⟨Nat.le_of_ble_eq_true rfl, Nat.le_of_ble_eq_true rfl⟩ (Nat.le_of_ble_eq_true rfl) nd_FB_isBoundAlike_39 rfl ?_
      have ea : fb_alike M a b k = (fb_bd M a k == fb_bd M b k) := if_neg (by rw [b01_0 hb21]; simp)
      refine vv_icmp_ne (tgt := 49) fx nd_FB_isBoundAlike_42 (by decide) (fun hb42 => ?_) (fun hb42 => ?_)
      · refine vv_iconst (v := nI 0) fx nd_FB_isBoundAlike_49 (by decide) ?_
        exact vv_zret fx rfl nd_FB_isBoundAlike_50 (b01_f (ea.trans (beq_eq_false_iff_ne.mpr (fun z => hb42 (by rw [z]))))) (fb_01 _)
      · refine vv_iconst (v := nI 1) fx nd_FB_isBoundAlike_45 (by decide) ?_
        refine vv_goto (tgt := 50) fx nd_FB_isBoundAlike_46 (by decide) ?_
        exact vv_zret fx rfl nd_FB_isBoundAlike_50 (b01_t (ea.trans (beq_iff_eq.mpr (b01_eq hb42)))) (fb_01 _)
set_option maxRecDepth 4000 in
theorem cc_FB_keysBound (l : Launch) (Y : sy_Y) (M U : me_M) (o : Int64) (r : Nat) (hr : fb_wf M r) : ct_I l ny_FB_keysBound nb_FB_keysBound 4 (some .int) { frames := 3, cells := 0, slots := 0, locals := 69 } Y [.ref (Y.2.1 0), .int (nI r)] M U o (nI (fb_kb M r)) M U o := by
  refine ct_body (own := nr_FB) (L0 := [(0, .ref (Y.2.1 0)), (1, .int (nI r))]) (by decide) rfl (Nat.le_of_ble_eq_true rfl) rfl ?_
  intro p e s m args below meth c fx
  refine vv_iconst (v := nI 0) fx nd_FB_keysBound_0 (by decide) ?_
  refine vv_istore_n (L' := [(0, .ref (Y.2.1 0)), (1, .int (nI r)), (2, .int (nI 0))]) fx nd_FB_keysBound_1 rfl (by decide) [1, 2, 0] rfl ?_
  refine vv_iconst (v := nI 0) fx nd_FB_keysBound_2 (by decide) ?_
  refine vv_istore_n (L' := [(0, .ref (Y.2.1 0)), (1, .int (nI r)), (2, .int (nI 0)), (3, .int (nI 0))]) fx nd_FB_keysBound_3 rfl (by decide) [1, 2, 3, 0] rfl ?_
  have loop : ∀ d i, i + d = 64 → vv p l e { frames := 3, cells := 0, slots := 0, locals := 69 } s m args below meth c 0 0 (MQ below (ct_Qi Y (nI (fb_kb M r)) M U o) args s 0 0 Y.2.2.2) 4 Y M U o 4 [(0, .ref (Y.2.1 0)), (1, .int (nI r)), (2, .int (nI (me_cn (fb_bd M r) i))), (3, .int (nI i))] [] := by
    intro d
    induction d with
    | zero =>
      intro i hi
      have e9 : i = 64 := by omega
      subst e9
      refine vv_iload_n fx nd_FB_keysBound_4 rfl 3 rfl ?_
      refine vv_bipush (v := nI 64) fx nd_FB_keysBound_5 (by decide) ?_
      refine vv_icmp_ge (tgt := 31) fx nd_FB_keysBound_7 (by decide) (fun _ => ?_) (fun hb => absurd (nI_le (by omega) (by omega)) hb)
      refine vv_iload_n fx nd_FB_keysBound_31 rfl 2 rfl ?_
      exact vv_iret fx rfl nd_FB_keysBound_32 (rfl)
    | succ d ih =>
      intro i hi
      have ev : me_cn (fb_bd M r) (i + 1) = me_cn (fb_bd M r) i + if fb_bd M r i = true then 1 else 0 := rfl
      refine vv_iload_n fx nd_FB_keysBound_4 rfl 3 rfl ?_
      refine vv_bipush (v := nI 64) fx nd_FB_keysBound_5 (by decide) ?_
      refine vv_icmp_ge (tgt := 31) fx nd_FB_keysBound_7 (by decide) (fun hb => absurd hb (nI_ge (by omega) (by omega))) (fun _ => ?_)
      refine vv_aload_n fx nd_FB_keysBound_10 rfl 0 rfl ?_
      refine vv_get (ci := 0) (C := nr_FB) (T := nt_FB) (N := 6) fx nt_FB_in 0 rfl rfl 0 (by decide) nf_FB_10 rfl nd_FB_keysBound_11 ?_
      refine vv_iload_n fx nd_FB_keysBound_14 rfl 1 rfl ?_
      refine vv_iload_n fx nd_FB_keysBound_15 rfl 3 rfl ?_
      refine vv_callVi (C := nr_RM) (T := nt_RM) (N := 4) (ci := 1) fx (cc_RM_binds l Y M U o r i (by omega) (fb_wfp hr) (fb_wfq hr)) nm_FB_53 ns_RM_binds nv_RM_binds nz_RM nc_RM_binds ni_RM_binds 1 rfl rfl ⟨rfl, rfl, by decide, by decide⟩ ⟨Nat.le_of_ble_eq_true rfl, Nat.le_of_ble_eq_true rfl⟩ (Nat.le_of_ble_eq_true rfl) nd_FB_keysBound_16 rfl ?_
      refine vv_if_eq (tgt := 25) fx nd_FB_keysBound_19 (by decide) (fun hb19 => ?_) (fun hb19 => ?_)
      · refine vv_iinc (v := nI (i + 1)) (L' := [(0, .ref (Y.2.1 0)), (1, .int (nI r)), (2, .int (nI (me_cn (fb_bd M r) i))), (3, .int (nI (i + 1)))]) fx nd_FB_keysBound_25 3 rfl (nI_1 i) (by decide) [1, 2, 3, 0] rfl ?_
        refine vv_goto (tgt := 4) fx nd_FB_keysBound_28 (by decide) ?_
        rw [b01_0 hb19, if_neg (by decide), Nat.add_zero] at ev
        have h9 := ih (i + 1) (by omega)
        rw [ev] at h9
        exact h9
      · refine vv_iinc (v := nI (me_cn (fb_bd M r) i + 1)) (L' := [(0, .ref (Y.2.1 0)), (1, .int (nI r)), (2, .int (nI (me_cn (fb_bd M r) i + 1))), (3, .int (nI i))]) fx nd_FB_keysBound_22 2 rfl (nI_1 _) (by decide) [1, 2, 0, 3] rfl ?_
        refine vv_iinc (v := nI (i + 1)) (L' := [(0, .ref (Y.2.1 0)), (1, .int (nI r)), (2, .int (nI (me_cn (fb_bd M r) i + 1))), (3, .int (nI (i + 1)))]) fx nd_FB_keysBound_25 3 rfl (nI_1 i) (by decide) [1, 2, 3, 0] rfl ?_
        refine vv_goto (tgt := 4) fx nd_FB_keysBound_28 (by decide) ?_
        rw [b01_1 hb19, if_pos rfl] at ev
        have h9 := ih (i + 1) (by omega)
        rw [ev] at h9
        exact h9
  exact loop 64 0 (by omega)
set_option maxRecDepth 4000 in
theorem cc_FB_leastUnusedSnapshot (l : Launch) (Y : sy_Y) (M U : me_M) (o : Int64)  : ct_I l ny_FB_leastUnusedSnapshot nb_FB_leastUnusedSnapshot 2 (some .int) { frames := 0, cells := 0, slots := 0, locals := 0 } Y [.ref (Y.2.1 0)] M U o (if fb_lu M 6 1 = 7 then -1 else nI (fb_lu M 6 1)) M U o := by
  refine ct_body (own := nr_FB) (L0 := [(0, .ref (Y.2.1 0))]) (by decide) rfl (Nat.le_of_ble_eq_true rfl) rfl ?_
  intro p e s m args below meth c fx
  refine vv_iconst (v := nI 1) fx nd_FB_leastUnusedSnapshot_0 (by decide) ?_
  refine vv_istore_n (L' := [(0, .ref (Y.2.1 0)), (1, .int (nI 1))]) fx nd_FB_leastUnusedSnapshot_1 rfl (by decide) [1, 0] rfl ?_
  have loop : ∀ f n, n + f = 7 → fb_lu M f n = fb_lu M 6 1 → vv p l e { frames := 0, cells := 0, slots := 0, locals := 0 } s m args below meth c 0 0 (MQ below (ct_Qi Y (if fb_lu M 6 1 = 7 then -1 else nI (fb_lu M 6 1)) M U o) args s 0 0 Y.2.2.2) 2 Y M U o 2 [(0, .ref (Y.2.1 0)), (1, .int (nI n))] [] := by
    intro f
    induction f with
    | zero =>
      intro n h1 he
      have e9 : fb_lu M 6 1 = 7 := by rw [← he]; show n = 7; omega
      refine vv_iload_n fx nd_FB_leastUnusedSnapshot_2 rfl 1 rfl ?_
      refine vv_aload_n fx nd_FB_leastUnusedSnapshot_3 rfl 0 rfl ?_
      refine vv_get (ci := 0) (C := nr_FB) (T := nt_FB) (N := 6) fx nt_FB_in 0 rfl rfl 1 (by decide) nf_FB_16 rfl nd_FB_leastUnusedSnapshot_4 ?_
      refine vv_alen fx 2 0 rfl rfl nd_FB_leastUnusedSnapshot_7 ?_
      refine vv_icmp_ge (tgt := 29) fx nd_FB_leastUnusedSnapshot_8 (by decide) (fun _ => ?_) (fun hb => absurd (nI_le (by omega) (by omega)) hb)
      refine vv_iconst (v := -1) fx nd_FB_leastUnusedSnapshot_29 (by decide) ?_
      exact vv_iret fx rfl nd_FB_leastUnusedSnapshot_30 ((if_pos e9).symm)
    | succ f ih =>
      intro n h1 he
      have ex : fb_lu M (f + 1) n = if n < 7 ∧ M 3 n ≠ -1 then fb_lu M f (n + 1) else n := rfl
      refine vv_iload_n fx nd_FB_leastUnusedSnapshot_2 rfl 1 rfl ?_
      refine vv_aload_n fx nd_FB_leastUnusedSnapshot_3 rfl 0 rfl ?_
      refine vv_get (ci := 0) (C := nr_FB) (T := nt_FB) (N := 6) fx nt_FB_in 0 rfl rfl 1 (by decide) nf_FB_16 rfl nd_FB_leastUnusedSnapshot_4 ?_
      refine vv_alen fx 2 0 rfl rfl nd_FB_leastUnusedSnapshot_7 ?_
      refine vv_icmp_ge (tgt := 29) fx nd_FB_leastUnusedSnapshot_8 (by decide) (fun hb => absurd hb (nI_ge (by omega) (by omega))) (fun _ => ?_)
      refine vv_aload_n fx nd_FB_leastUnusedSnapshot_11 rfl 0 rfl ?_
      refine vv_get (ci := 0) (C := nr_FB) (T := nt_FB) (N := 6) fx nt_FB_in 0 rfl rfl 1 (by decide) nf_FB_16 rfl nd_FB_leastUnusedSnapshot_12 ?_
      refine vv_iload_n fx nd_FB_leastUnusedSnapshot_15 rfl 1 rfl ?_
      refine vv_iald fx 2 0 rfl rfl (by omega) (by decide) nd_FB_leastUnusedSnapshot_16 ?_
      refine vv_iconst (v := -1) fx nd_FB_leastUnusedSnapshot_17 (by decide) ?_
      refine vv_icmp_ne (tgt := 23) fx nd_FB_leastUnusedSnapshot_18 (by decide) (fun hb18 => ?_) (fun hb18 => ?_)
      · refine vv_iinc (v := nI (n + 1)) (L' := [(0, .ref (Y.2.1 0)), (1, .int (nI (n + 1)))]) fx nd_FB_leastUnusedSnapshot_23 1 rfl (nI_1 n) (by decide) [1, 0] rfl ?_
        refine vv_goto (tgt := 2) fx nd_FB_leastUnusedSnapshot_26 (by decide) ?_
        exact ih (n + 1) (by omega) (by rw [← he, ex, if_pos ⟨by omega, hb18⟩])
      · have e9 : fb_lu M 6 1 = n := by rw [← he, ex, if_neg (fun z => z.2 hb18)]
        refine vv_iload_n fx nd_FB_leastUnusedSnapshot_21 rfl 1 rfl ?_
        exact vv_iret fx rfl nd_FB_leastUnusedSnapshot_22 (by rw [e9]; exact (if_neg (by omega)).symm)
  exact loop 6 1 (by omega) rfl
set_option maxRecDepth 4000 in
theorem cc_FB_snapshotsThere (l : Launch) (Y : sy_Y) (M U : me_M) (o : Int64)  : ct_I l ny_FB_snapshotsThere nb_FB_snapshotsThere 3 (some .int) { frames := 0, cells := 0, slots := 0, locals := 0 } Y [.ref (Y.2.1 0)] M U o (nI (me_cn (fun h => decide (M 3 (h + 1) ≠ -1)) 6)) M U o := by
  refine ct_body (own := nr_FB) (L0 := [(0, .ref (Y.2.1 0))]) (by decide) rfl (Nat.le_of_ble_eq_true rfl) rfl ?_
  intro p e s m args below meth c fx
  refine vv_iconst (v := nI 0) fx nd_FB_snapshotsThere_0 (by decide) ?_
  refine vv_istore_n (L' := [(0, .ref (Y.2.1 0)), (1, .int (nI 0))]) fx nd_FB_snapshotsThere_1 rfl (by decide) [1, 0] rfl ?_
  refine vv_iconst (v := nI 1) fx nd_FB_snapshotsThere_2 (by decide) ?_
  refine vv_istore_n (L' := [(0, .ref (Y.2.1 0)), (1, .int (nI 0)), (2, .int (nI 1))]) fx nd_FB_snapshotsThere_3 rfl (by decide) [1, 2, 0] rfl ?_
  have loop : ∀ d i, i + d = 6 → vv p l e { frames := 0, cells := 0, slots := 0, locals := 0 } s m args below meth c 0 0 (MQ below (ct_Qi Y (nI (me_cn (fun h => decide (M 3 (h + 1) ≠ -1)) 6)) M U o) args s 0 0 Y.2.2.2) 3 Y M U o 4 [(0, .ref (Y.2.1 0)), (1, .int (nI (me_cn (fun h => decide (M 3 (h + 1) ≠ -1)) i))), (2, .int (nI (i + 1)))] [] := by
    intro d
    induction d with
    | zero =>
      intro i hi
      have e9 : i = 6 := by omega
      subst e9
      refine vv_iload_n fx nd_FB_snapshotsThere_4 rfl 2 rfl ?_
      refine vv_aload_n fx nd_FB_snapshotsThere_5 rfl 0 rfl ?_
      refine vv_get (ci := 0) (C := nr_FB) (T := nt_FB) (N := 6) fx nt_FB_in 0 rfl rfl 1 (by decide) nf_FB_16 rfl nd_FB_snapshotsThere_6 ?_
      refine vv_alen fx 2 0 rfl rfl nd_FB_snapshotsThere_9 ?_
      refine vv_icmp_ge (tgt := 32) fx nd_FB_snapshotsThere_10 (by decide) (fun _ => ?_) (fun hb => absurd (nI_le (by omega) (by omega)) hb)
      refine vv_iload_n fx nd_FB_snapshotsThere_32 rfl 1 rfl ?_
      exact vv_iret fx rfl nd_FB_snapshotsThere_33 (rfl)
    | succ d ih =>
      intro i hi
      have ev : me_cn (fun h => decide (M 3 (h + 1) ≠ -1)) (i + 1) = me_cn (fun h => decide (M 3 (h + 1) ≠ -1)) i + if decide (M 3 (i + 1) ≠ -1) = true then 1 else 0 := rfl
      refine vv_iload_n fx nd_FB_snapshotsThere_4 rfl 2 rfl ?_
      refine vv_aload_n fx nd_FB_snapshotsThere_5 rfl 0 rfl ?_
      refine vv_get (ci := 0) (C := nr_FB) (T := nt_FB) (N := 6) fx nt_FB_in 0 rfl rfl 1 (by decide) nf_FB_16 rfl nd_FB_snapshotsThere_6 ?_
      refine vv_alen fx 2 0 rfl rfl nd_FB_snapshotsThere_9 ?_
      refine vv_icmp_ge (tgt := 32) fx nd_FB_snapshotsThere_10 (by decide) (fun hb => absurd hb (nI_ge (by omega) (by omega))) (fun _ => ?_)
      refine vv_aload_n fx nd_FB_snapshotsThere_13 rfl 0 rfl ?_
      refine vv_get (ci := 0) (C := nr_FB) (T := nt_FB) (N := 6) fx nt_FB_in 0 rfl rfl 1 (by decide) nf_FB_16 rfl nd_FB_snapshotsThere_14 ?_
      refine vv_iload_n fx nd_FB_snapshotsThere_17 rfl 2 rfl ?_
      refine vv_iald fx 2 0 rfl rfl (by omega) (by decide) nd_FB_snapshotsThere_18 ?_
      refine vv_iconst (v := -1) fx nd_FB_snapshotsThere_19 (by decide) ?_
      refine vv_icmp_eq (tgt := 26) fx nd_FB_snapshotsThere_20 (by decide) (fun hb20 => ?_) (fun hb20 => ?_)
      · refine vv_iinc (v := nI (i + 1 + 1)) (L' := [(0, .ref (Y.2.1 0)), (1, .int (nI (me_cn (fun h => decide (M 3 (h + 1) ≠ -1)) i))), (2, .int (nI (i + 1 + 1)))]) fx nd_FB_snapshotsThere_26 2 rfl (nI_1 _) (by decide) [1, 2, 0] rfl ?_
        refine vv_goto (tgt := 4) fx nd_FB_snapshotsThere_29 (by decide) ?_
        rw [decide_eq_false (p := M 3 (i + 1) ≠ -1) (fun z => z hb20), if_neg (by decide), Nat.add_zero] at ev
        have h9 := ih (i + 1) (by omega)
        rw [ev] at h9
        exact h9
      · refine vv_iinc (v := nI (me_cn (fun h => decide (M 3 (h + 1) ≠ -1)) i + 1)) (L' := [(0, .ref (Y.2.1 0)), (1, .int (nI (me_cn (fun h => decide (M 3 (h + 1) ≠ -1)) i + 1))), (2, .int (nI (i + 1)))]) fx nd_FB_snapshotsThere_23 1 rfl (nI_1 _) (by decide) [1, 0, 2] rfl ?_
        refine vv_iinc (v := nI (i + 1 + 1)) (L' := [(0, .ref (Y.2.1 0)), (1, .int (nI (me_cn (fun h => decide (M 3 (h + 1) ≠ -1)) i + 1))), (2, .int (nI (i + 1 + 1)))]) fx nd_FB_snapshotsThere_26 2 rfl (nI_1 _) (by decide) [1, 2, 0] rfl ?_
        refine vv_goto (tgt := 4) fx nd_FB_snapshotsThere_29 (by decide) ?_
        rw [decide_eq_true (p := M 3 (i + 1) ≠ -1) hb20, if_pos rfl] at ev
        have h9 := ih (i + 1) (by omega)
        rw [ev] at h9
        exact h9
  exact loop 6 0 (by omega)
set_option maxRecDepth 4000 in
theorem cc_FB_markMaps3 (l : Launch) (Y : sy_Y) (M U : me_M) (o : Int64) (hK : fb_KA M 3) : ct_I l ny_FB_markMaps nb_FB_markMaps 4 (some .int) { frames := 3, cells := 0, slots := 0, locals := 71 } Y [.ref (Y.2.1 0), .ref (Y.2.1 2)] M U o (nI (fb_mm M 3 7).1) ((fb_mm M 3 7).2) U o := by
  refine ct_body (own := nr_FB) (L0 := [(0, .ref (Y.2.1 0)), (1, .ref (Y.2.1 2))]) (by decide) rfl (Nat.le_of_ble_eq_true rfl) rfl ?_
  intro p e s m args below meth c fx
  refine vv_iconst (v := nI 0) fx nd_FB_markMaps_0 (by decide) ?_
  refine vv_istore_n (L' := [(0, .ref (Y.2.1 0)), (1, .ref (Y.2.1 2)), (2, .int (nI 0))]) fx nd_FB_markMaps_1 rfl (by decide) [1, 2, 0] rfl ?_
  refine vv_iconst (v := nI 0) fx nd_FB_markMaps_2 (by decide) ?_
  refine vv_istore_n (L' := [(0, .ref (Y.2.1 0)), (1, .ref (Y.2.1 2)), (2, .int (nI 0)), (3, .int (nI 0))]) fx nd_FB_markMaps_3 rfl (by decide) [1, 2, 3, 0] rfl ?_
  have loop : ∀ d i, i + d = 7 → vv p l e { frames := 3, cells := 0, slots := 0, locals := 71 } s m args below meth c 0 0 (MQ below (ct_Qi Y (nI (fb_mm M 3 7).1) ((fb_mm M 3 7).2) U o) args s 0 0 Y.2.2.2) 4 Y ((fb_mm M 3 i).2) U o 4 [(0, .ref (Y.2.1 0)), (1, .ref (Y.2.1 2)), (2, .int (nI (fb_mm M 3 i).1)), (3, .int (nI i))] [] := by
    intro d
    induction d with
    | zero =>
      intro i hi
      have e9 : i = 7 := by omega
      subst e9
      refine vv_iload_n fx nd_FB_markMaps_4 rfl 3 rfl ?_
      refine vv_aload_n fx nd_FB_markMaps_5 rfl 1 rfl ?_
      refine vv_alen fx 2 0 rfl rfl nd_FB_markMaps_6 ?_
      refine vv_icmp_ge (tgt := 36) fx nd_FB_markMaps_7 (by decide) (fun _ => ?_) (fun hb => absurd (nI_le (by omega) (by omega)) hb)
      refine vv_iload_n fx nd_FB_markMaps_36 rfl 2 rfl ?_
      exact vv_iret fx rfl nd_FB_markMaps_37 (rfl)
    | succ d ih =>
      intro i hi
      have ev : fb_mm M 3 (i + 1) = if M 3 i = -1 then (fb_mm M 3 i) else ((fb_mm M 3 i).1 + (fb_mark (fb_mm M 3 i).2 (fb_rt M 3 i)).1, (fb_mark (fb_mm M 3 i).2 (fb_rt M 3 i)).2) := rfl
      have ea : (fb_mm M 3 i).2 3 i = M 3 i := congrFun (fb_mm_n _ _ _ (by decide)) i
      refine vv_iload_n fx nd_FB_markMaps_4 rfl 3 rfl ?_
      refine vv_aload_n fx nd_FB_markMaps_5 rfl 1 rfl ?_
      refine vv_alen fx 2 0 rfl rfl nd_FB_markMaps_6 ?_
      refine vv_icmp_ge (tgt := 36) fx nd_FB_markMaps_7 (by decide) (fun hb => absurd hb (nI_ge (by omega) (by omega))) (fun _ => ?_)
      refine vv_aload_n fx nd_FB_markMaps_10 rfl 1 rfl ?_
      refine vv_iload_n fx nd_FB_markMaps_11 rfl 3 rfl ?_
      refine vv_iald fx 2 0 rfl rfl (by omega) (by decide) nd_FB_markMaps_12 ?_
      refine vv_top (y := M 3 i) (ea) ?_
      refine vv_iconst (v := -1) fx nd_FB_markMaps_13 (by decide) ?_
      refine vv_icmp_eq (tgt := 30) fx nd_FB_markMaps_14 (by decide) (fun hb14 => ?_) (fun hb14 => ?_)
      · refine vv_iinc (v := nI (i + 1)) (L' := [(0, .ref (Y.2.1 0)), (1, .ref (Y.2.1 2)), (2, .int (nI (fb_mm M 3 i).1)), (3, .int (nI (i + 1)))]) fx nd_FB_markMaps_30 3 rfl (nI_1 i) (by decide) [1, 2, 3, 0] rfl ?_
        refine vv_goto (tgt := 4) fx nd_FB_markMaps_33 (by decide) ?_
        rw [if_pos hb14] at ev
        have h9 := ih (i + 1) (by omega)
        rw [ev] at h9
        exact h9
      · obtain ⟨hr1, hr2⟩ := (hK i (by omega)).resolve_left hb14
        have hw := fb_wf_of (M := M) (M' := (fb_mm M 3 i).2) (fun x => fb_mm_n _ _ _ (by omega)) hr2
        refine vv_iload_n fx nd_FB_markMaps_17 rfl 2 rfl ?_
        refine vv_aload_n fx nd_FB_markMaps_18 rfl 0 rfl ?_
        refine vv_get (ci := 0) (C := nr_FB) (T := nt_FB) (N := 6) fx nt_FB_in 0 rfl rfl 0 (by decide) nf_FB_10 rfl nd_FB_markMaps_19 ?_
        refine vv_aload_n fx nd_FB_markMaps_22 rfl 1 rfl ?_
        refine vv_iload_n fx nd_FB_markMaps_23 rfl 3 rfl ?_
        refine vv_iald fx 2 0 rfl rfl (by omega) (by decide) nd_FB_markMaps_24 ?_
        refine vv_top (y := nI (fb_rt M 3 i)) (ea.trans hr1) ?_
        refine vv_callVi (C := nr_RM) (T := nt_RM) (N := 4) (ci := 1) fx (cc_RM_mark l Y (fb_mm M 3 i).2 U o (fb_rt M 3 i) (fb_wfr hw) (fun k _ => fb_wfp hw) (fun k _ => (fb_pk_wf hw k).2)) nm_FB_94 ns_RM_mark nv_RM_mark nz_RM nc_RM_mark ni_RM_mark 1 rfl rfl ⟨rfl, rfl, by decide, by decide⟩ ⟨Nat.le_of_ble_eq_true rfl, Nat.le_of_ble_eq_true rfl⟩ (Nat.le_of_ble_eq_true rfl) nd_FB_markMaps_25 rfl ?_
        refine vv_iadd fx nd_FB_markMaps_28 ?_
        refine vv_top (y := nI ((fb_mm M 3 i).1 + (fb_mark (fb_mm M 3 i).2 (fb_rt M 3 i)).1)) (nI_add _ _) ?_
        refine vv_istore_n (L' := [(0, .ref (Y.2.1 0)), (1, .ref (Y.2.1 2)), (2, .int (nI ((fb_mm M 3 i).1 + (fb_mark (fb_mm M 3 i).2 (fb_rt M 3 i)).1))), (3, .int (nI i))]) fx nd_FB_markMaps_29 rfl (by decide) [1, 2, 0, 3] rfl ?_
        refine vv_iinc (v := nI (i + 1)) (L' := [(0, .ref (Y.2.1 0)), (1, .ref (Y.2.1 2)), (2, .int (nI ((fb_mm M 3 i).1 + (fb_mark (fb_mm M 3 i).2 (fb_rt M 3 i)).1))), (3, .int (nI (i + 1)))]) fx nd_FB_markMaps_30 3 rfl (nI_1 i) (by decide) [1, 2, 3, 0] rfl ?_
        refine vv_goto (tgt := 4) fx nd_FB_markMaps_33 (by decide) ?_
        rw [if_neg hb14] at ev
        have h9 := ih (i + 1) (by omega)
        rw [ev] at h9
        exact h9
  exact loop 7 0 (by omega)
set_option maxRecDepth 4000 in
theorem cc_FB_markMaps4 (l : Launch) (Y : sy_Y) (M U : me_M) (o : Int64) (hK : fb_KA M 4) : ct_I l ny_FB_markMaps nb_FB_markMaps 4 (some .int) { frames := 3, cells := 0, slots := 0, locals := 71 } Y [.ref (Y.2.1 0), .ref (Y.2.1 3)] M U o (nI (fb_mm M 4 7).1) ((fb_mm M 4 7).2) U o := by
  refine ct_body (own := nr_FB) (L0 := [(0, .ref (Y.2.1 0)), (1, .ref (Y.2.1 3))]) (by decide) rfl (Nat.le_of_ble_eq_true rfl) rfl ?_
  intro p e s m args below meth c fx
  refine vv_iconst (v := nI 0) fx nd_FB_markMaps_0 (by decide) ?_
  refine vv_istore_n (L' := [(0, .ref (Y.2.1 0)), (1, .ref (Y.2.1 3)), (2, .int (nI 0))]) fx nd_FB_markMaps_1 rfl (by decide) [1, 2, 0] rfl ?_
  refine vv_iconst (v := nI 0) fx nd_FB_markMaps_2 (by decide) ?_
  refine vv_istore_n (L' := [(0, .ref (Y.2.1 0)), (1, .ref (Y.2.1 3)), (2, .int (nI 0)), (3, .int (nI 0))]) fx nd_FB_markMaps_3 rfl (by decide) [1, 2, 3, 0] rfl ?_
  have loop : ∀ d i, i + d = 7 → vv p l e { frames := 3, cells := 0, slots := 0, locals := 71 } s m args below meth c 0 0 (MQ below (ct_Qi Y (nI (fb_mm M 4 7).1) ((fb_mm M 4 7).2) U o) args s 0 0 Y.2.2.2) 4 Y ((fb_mm M 4 i).2) U o 4 [(0, .ref (Y.2.1 0)), (1, .ref (Y.2.1 3)), (2, .int (nI (fb_mm M 4 i).1)), (3, .int (nI i))] [] := by
    intro d
    induction d with
    | zero =>
      intro i hi
      have e9 : i = 7 := by omega
      subst e9
      refine vv_iload_n fx nd_FB_markMaps_4 rfl 3 rfl ?_
      refine vv_aload_n fx nd_FB_markMaps_5 rfl 1 rfl ?_
      refine vv_alen fx 3 0 rfl rfl nd_FB_markMaps_6 ?_
      refine vv_icmp_ge (tgt := 36) fx nd_FB_markMaps_7 (by decide) (fun _ => ?_) (fun hb => absurd (nI_le (by omega) (by omega)) hb)
      refine vv_iload_n fx nd_FB_markMaps_36 rfl 2 rfl ?_
      exact vv_iret fx rfl nd_FB_markMaps_37 (rfl)
    | succ d ih =>
      intro i hi
      have ev : fb_mm M 4 (i + 1) = if M 4 i = -1 then (fb_mm M 4 i) else ((fb_mm M 4 i).1 + (fb_mark (fb_mm M 4 i).2 (fb_rt M 4 i)).1, (fb_mark (fb_mm M 4 i).2 (fb_rt M 4 i)).2) := rfl
      have ea : (fb_mm M 4 i).2 4 i = M 4 i := congrFun (fb_mm_n _ _ _ (by decide)) i
      refine vv_iload_n fx nd_FB_markMaps_4 rfl 3 rfl ?_
      refine vv_aload_n fx nd_FB_markMaps_5 rfl 1 rfl ?_
      refine vv_alen fx 3 0 rfl rfl nd_FB_markMaps_6 ?_
      refine vv_icmp_ge (tgt := 36) fx nd_FB_markMaps_7 (by decide) (fun hb => absurd hb (nI_ge (by omega) (by omega))) (fun _ => ?_)
      refine vv_aload_n fx nd_FB_markMaps_10 rfl 1 rfl ?_
      refine vv_iload_n fx nd_FB_markMaps_11 rfl 3 rfl ?_
      refine vv_iald fx 3 0 rfl rfl (by omega) (by decide) nd_FB_markMaps_12 ?_
      refine vv_top (y := M 4 i) (ea) ?_
      refine vv_iconst (v := -1) fx nd_FB_markMaps_13 (by decide) ?_
      refine vv_icmp_eq (tgt := 30) fx nd_FB_markMaps_14 (by decide) (fun hb14 => ?_) (fun hb14 => ?_)
      · refine vv_iinc (v := nI (i + 1)) (L' := [(0, .ref (Y.2.1 0)), (1, .ref (Y.2.1 3)), (2, .int (nI (fb_mm M 4 i).1)), (3, .int (nI (i + 1)))]) fx nd_FB_markMaps_30 3 rfl (nI_1 i) (by decide) [1, 2, 3, 0] rfl ?_
        refine vv_goto (tgt := 4) fx nd_FB_markMaps_33 (by decide) ?_
        rw [if_pos hb14] at ev
        have h9 := ih (i + 1) (by omega)
        rw [ev] at h9
        exact h9
      · obtain ⟨hr1, hr2⟩ := (hK i (by omega)).resolve_left hb14
        have hw := fb_wf_of (M := M) (M' := (fb_mm M 4 i).2) (fun x => fb_mm_n _ _ _ (by omega)) hr2
        refine vv_iload_n fx nd_FB_markMaps_17 rfl 2 rfl ?_
        refine vv_aload_n fx nd_FB_markMaps_18 rfl 0 rfl ?_
        refine vv_get (ci := 0) (C := nr_FB) (T := nt_FB) (N := 6) fx nt_FB_in 0 rfl rfl 0 (by decide) nf_FB_10 rfl nd_FB_markMaps_19 ?_
        refine vv_aload_n fx nd_FB_markMaps_22 rfl 1 rfl ?_
        refine vv_iload_n fx nd_FB_markMaps_23 rfl 3 rfl ?_
        refine vv_iald fx 3 0 rfl rfl (by omega) (by decide) nd_FB_markMaps_24 ?_
        refine vv_top (y := nI (fb_rt M 4 i)) (ea.trans hr1) ?_
        refine vv_callVi (C := nr_RM) (T := nt_RM) (N := 4) (ci := 1) fx (cc_RM_mark l Y (fb_mm M 4 i).2 U o (fb_rt M 4 i) (fb_wfr hw) (fun k _ => fb_wfp hw) (fun k _ => (fb_pk_wf hw k).2)) nm_FB_94 ns_RM_mark nv_RM_mark nz_RM nc_RM_mark ni_RM_mark 1 rfl rfl ⟨rfl, rfl, by decide, by decide⟩ ⟨Nat.le_of_ble_eq_true rfl, Nat.le_of_ble_eq_true rfl⟩ (Nat.le_of_ble_eq_true rfl) nd_FB_markMaps_25 rfl ?_
        refine vv_iadd fx nd_FB_markMaps_28 ?_
        refine vv_top (y := nI ((fb_mm M 4 i).1 + (fb_mark (fb_mm M 4 i).2 (fb_rt M 4 i)).1)) (nI_add _ _) ?_
        refine vv_istore_n (L' := [(0, .ref (Y.2.1 0)), (1, .ref (Y.2.1 3)), (2, .int (nI ((fb_mm M 4 i).1 + (fb_mark (fb_mm M 4 i).2 (fb_rt M 4 i)).1))), (3, .int (nI i))]) fx nd_FB_markMaps_29 rfl (by decide) [1, 2, 0, 3] rfl ?_
        refine vv_iinc (v := nI (i + 1)) (L' := [(0, .ref (Y.2.1 0)), (1, .ref (Y.2.1 3)), (2, .int (nI ((fb_mm M 4 i).1 + (fb_mark (fb_mm M 4 i).2 (fb_rt M 4 i)).1))), (3, .int (nI (i + 1)))]) fx nd_FB_markMaps_30 3 rfl (nI_1 i) (by decide) [1, 2, 3, 0] rfl ?_
        refine vv_goto (tgt := 4) fx nd_FB_markMaps_33 (by decide) ?_
        rw [if_neg hb14] at ev
        have h9 := ih (i + 1) (by omega)
        rw [ev] at h9
        exact h9
  exact loop 7 0 (by omega)
theorem fb_K4 {M : me_M} (hK : fb_K M) : fb_KA (fb_unmark M) 4 := fb_KA_of (fun x => fb_unmark_n M (by omega)) (fb_unmark_n M (by decide)) hK.2
theorem fb_K3 {M : me_M} (hK : fb_K M) : fb_KA (fb_md M).2 3 := fb_KA_of (fun x => fb_md_n M (by omega)) (fb_md_n M (by decide)) hK.1
set_option maxRecDepth 4000 in
theorem cc_FB_freeNodes (l : Launch) (Y : sy_Y) (M U : me_M) (o : Int64) (hK : fb_K M) : ct_I l ny_FB_freeNodes nb_FB_freeNodes 1 (some .int) { frames := 4, cells := 0, slots := 0, locals := 94 } Y [.ref (Y.2.1 0)] M U o (fb_free M) ((fb_mr M).2) U o := by
  refine ct_body (own := nr_FB) (L0 := [(0, .ref (Y.2.1 0))]) (by decide) rfl (Nat.le_of_ble_eq_true rfl) rfl ?_
  intro p e s m args below meth c fx
  refine vv_aload_n fx nd_FB_freeNodes_0 rfl 0 rfl ?_
  refine vv_get (ci := 0) (C := nr_FB) (T := nt_FB) (N := 6) fx nt_FB_in 0 rfl rfl 0 (by decide) nf_FB_10 rfl nd_FB_freeNodes_1 ?_
  refine vv_callVv (C := nr_RM) (T := nt_RM) (N := 4) (ci := 1) fx (cc_RM_unmarkAll l Y M U o) nm_FB_91 ns_RM_unmarkAll nv_RM_unmarkAll nz_RM nc_RM_unmarkAll ni_RM_unmarkAll 1 rfl rfl ⟨rfl, rfl, by decide, by decide⟩ ⟨Nat.le_of_ble_eq_true rfl, Nat.le_of_ble_eq_true rfl⟩ (Nat.le_of_ble_eq_true rfl) nd_FB_freeNodes_4 rfl ?_
  refine vv_bipush (v := nI 60) fx nd_FB_freeNodes_7 (by decide) ?_
  refine vv_aload_n fx nd_FB_freeNodes_9 rfl 0 rfl ?_
  refine vv_aload_n fx nd_FB_freeNodes_10 rfl 0 rfl ?_
  refine vv_get (ci := 0) (C := nr_FB) (T := nt_FB) (N := 6) fx nt_FB_in 0 rfl rfl 2 (by decide) nf_FB_20 rfl nd_FB_freeNodes_11 ?_
  refine vv_callVi (C := nr_FB) (T := nt_FB) (N := 6) (ci := 0) fx (cc_FB_markMaps4 l Y (fb_unmark M) U o (fb_K4 hK)) nm_FB_166 ns_FB_markMaps nv_FB_markMaps nz_FB nc_FB_markMaps ni_FB_markMaps 0 rfl rfl ⟨rfl, rfl, by decide, by decide⟩ ⟨Nat.le_of_ble_eq_true rfl, Nat.le_of_ble_eq_true rfl⟩ (Nat.le_of_ble_eq_true rfl) nd_FB_freeNodes_14 rfl ?_
  refine vv_isub fx nd_FB_freeNodes_17 ?_
  refine vv_aload_n fx nd_FB_freeNodes_18 rfl 0 rfl ?_
  refine vv_aload_n fx nd_FB_freeNodes_19 rfl 0 rfl ?_
  refine vv_get (ci := 0) (C := nr_FB) (T := nt_FB) (N := 6) fx nt_FB_in 0 rfl rfl 1 (by decide) nf_FB_16 rfl nd_FB_freeNodes_20 ?_
  refine vv_callVi (C := nr_FB) (T := nt_FB) (N := 6) (ci := 0) fx (cc_FB_markMaps3 l Y (fb_md M).2 U o (fb_K3 hK)) nm_FB_166 ns_FB_markMaps nv_FB_markMaps nz_FB nc_FB_markMaps ni_FB_markMaps 0 rfl rfl ⟨rfl, rfl, by decide, by decide⟩ ⟨Nat.le_of_ble_eq_true rfl, Nat.le_of_ble_eq_true rfl⟩ (Nat.le_of_ble_eq_true rfl) nd_FB_freeNodes_23 rfl ?_
  refine vv_isub fx nd_FB_freeNodes_26 ?_
  exact vv_iret fx rfl nd_FB_freeNodes_27 (rfl)
set_option maxRecDepth 4000 in
theorem cc_FB_writesNeeded (l : Launch) (Y : sy_Y) (M U : me_M) (o : Int64) (hK : fb_K M) : ct_I l ny_FB_writesNeeded nb_FB_writesNeeded 1 (some .int) { frames := 4, cells := 0, slots := 0, locals := 94 } Y [.ref (Y.2.1 0)] M U o (fb_due0 M) ((fb_mr M).2) U o := by
  refine ct_body (own := nr_FB) (L0 := [(0, .ref (Y.2.1 0))]) (by decide) rfl (Nat.le_of_ble_eq_true rfl) rfl ?_
  intro p e s m args below meth c fx
  refine vv_aload_n fx nd_FB_writesNeeded_0 rfl 0 rfl ?_
  refine vv_get (ci := 0) (C := nr_FB) (T := nt_FB) (N := 6) fx nt_FB_in 0 rfl rfl 0 (by decide) nf_FB_10 rfl nd_FB_writesNeeded_1 ?_
  refine vv_callVv (C := nr_RM) (T := nt_RM) (N := 4) (ci := 1) fx (cc_RM_unmarkAll l Y M U o) nm_FB_91 ns_RM_unmarkAll nv_RM_unmarkAll nz_RM nc_RM_unmarkAll ni_RM_unmarkAll 1 rfl rfl ⟨rfl, rfl, by decide, by decide⟩ ⟨Nat.le_of_ble_eq_true rfl, Nat.le_of_ble_eq_true rfl⟩ (Nat.le_of_ble_eq_true rfl) nd_FB_writesNeeded_4 rfl ?_
  refine vv_aload_n fx nd_FB_writesNeeded_7 rfl 0 rfl ?_
  refine vv_aload_n fx nd_FB_writesNeeded_8 rfl 0 rfl ?_
  refine vv_get (ci := 0) (C := nr_FB) (T := nt_FB) (N := 6) fx nt_FB_in 0 rfl rfl 2 (by decide) nf_FB_20 rfl nd_FB_writesNeeded_9 ?_
  refine vv_callVi (C := nr_FB) (T := nt_FB) (N := 6) (ci := 0) fx (cc_FB_markMaps4 l Y (fb_unmark M) U o (fb_K4 hK)) nm_FB_166 ns_FB_markMaps nv_FB_markMaps nz_FB nc_FB_markMaps ni_FB_markMaps 0 rfl rfl ⟨rfl, rfl, by decide, by decide⟩ ⟨Nat.le_of_ble_eq_true rfl, Nat.le_of_ble_eq_true rfl⟩ (Nat.le_of_ble_eq_true rfl) nd_FB_writesNeeded_12 rfl ?_
  refine vv_pop fx nd_FB_writesNeeded_15 rfl ?_
  refine vv_aload_n fx nd_FB_writesNeeded_16 rfl 0 rfl ?_
  refine vv_aload_n fx nd_FB_writesNeeded_17 rfl 0 rfl ?_
  refine vv_get (ci := 0) (C := nr_FB) (T := nt_FB) (N := 6) fx nt_FB_in 0 rfl rfl 1 (by decide) nf_FB_16 rfl nd_FB_writesNeeded_18 ?_
  refine vv_callVi (C := nr_FB) (T := nt_FB) (N := 6) (ci := 0) fx (cc_FB_markMaps3 l Y (fb_md M).2 U o (fb_K3 hK)) nm_FB_166 ns_FB_markMaps nv_FB_markMaps nz_FB nc_FB_markMaps ni_FB_markMaps 0 rfl rfl ⟨rfl, rfl, by decide, by decide⟩ ⟨Nat.le_of_ble_eq_true rfl, Nat.le_of_ble_eq_true rfl⟩ (Nat.le_of_ble_eq_true rfl) nd_FB_writesNeeded_21 rfl ?_
  refine vv_iconst (v := nI 1) fx nd_FB_writesNeeded_24 (by decide) ?_
  refine vv_iadd fx nd_FB_writesNeeded_25 ?_
  exact vv_iret fx rfl nd_FB_writesNeeded_26 (rfl)
set_option maxRecDepth 4000 in
theorem cc_FB_failsWithin (l : Launch) (Y : sy_Y) (M U : me_M) (o : Int64) (n : Int32) : ct_I l ny_FB_failsWithin nb_FB_failsWithin 2 (some .boolean) { frames := 0, cells := 0, slots := 0, locals := 0 } Y [.ref (Y.2.1 0), .int n] M U o (if (decide (M 5 2 ≠ -1) && decide (M 5 2 < n)) = true then 1 else 0) M U o := by
  refine ct_body (own := nr_FB) (L0 := [(0, .ref (Y.2.1 0)), (1, .int n)]) (by decide) rfl (Nat.le_of_ble_eq_true rfl) rfl ?_
  intro p e s m args below meth c fx
  refine vv_aload_n fx nd_FB_failsWithin_0 rfl 0 rfl ?_
  refine vv_get (ci := 0) (C := nr_FB) (T := nt_FB) (N := 6) fx nt_FB_in 0 rfl rfl 5 (by decide) nf_FB_23 rfl nd_FB_failsWithin_1 ?_
  refine vv_iconst (v := -1) fx nd_FB_failsWithin_4 (by decide) ?_
  refine vv_icmp_eq (tgt := 20) fx nd_FB_failsWithin_5 (by decide) (fun hb5 => ?_) (fun hb5 => ?_)
  · refine vv_iconst (v := nI 0) fx nd_FB_failsWithin_20 (by decide) ?_
    exact vv_zret fx rfl nd_FB_failsWithin_21 (b01_f (by rw [decide_eq_false (p := M 5 2 ≠ -1) (fun z => z hb5)]; rfl)) (fb_01 _)
  · refine vv_aload_n fx nd_FB_failsWithin_8 rfl 0 rfl ?_
    refine vv_get (ci := 0) (C := nr_FB) (T := nt_FB) (N := 6) fx nt_FB_in 0 rfl rfl 5 (by decide) nf_FB_23 rfl nd_FB_failsWithin_9 ?_
    refine vv_iload_n fx nd_FB_failsWithin_12 rfl 1 rfl ?_
    refine vv_icmp_ge (tgt := 20) fx nd_FB_failsWithin_13 (by decide) (fun hb13 => ?_) (fun hb13 => ?_)
    · refine vv_iconst (v := nI 0) fx nd_FB_failsWithin_20 (by decide) ?_
      exact vv_zret fx rfl nd_FB_failsWithin_21 (b01_f (by rw [decide_eq_false (p := M 5 2 < n) (Int32.not_lt.mpr hb13), Bool.and_false])) (fb_01 _)
    · refine vv_iconst (v := nI 1) fx nd_FB_failsWithin_16 (by decide) ?_
      refine vv_goto (tgt := 21) fx nd_FB_failsWithin_17 (by decide) ?_
      exact vv_zret fx rfl nd_FB_failsWithin_21 (b01_t (by rw [decide_eq_true (p := M 5 2 < n) (Int32.not_le.mp hb13), decide_eq_true (p := M 5 2 ≠ -1) hb5]; rfl)) (fb_01 _)
set_option maxRecDepth 4000 in
theorem cc_FB_losePower (l : Launch) (Y : sy_Y) (M U : me_M) (o : Int64)  : ct_V l ny_FB_losePower nb_FB_losePower 1 { frames := 0, cells := 0, slots := 0, locals := 0 } Y [.ref (Y.2.1 0)] M U o (me_up (me_up (me_up M 5 1 (M 5 1 + M 5 2)) 5 2 (-1)) 5 0 1) U o := by
  refine ct_body (own := nr_FB) (L0 := [(0, .ref (Y.2.1 0))]) (by decide) rfl (Nat.le_of_ble_eq_true rfl) rfl ?_
  intro p e s m args below meth c fx
  refine vv_aload_n fx nd_FB_losePower_0 rfl 0 rfl ?_
  refine vv_dup fx nd_FB_losePower_1 rfl ?_
  refine vv_get (ci := 0) (C := nr_FB) (T := nt_FB) (N := 6) fx nt_FB_in 0 rfl rfl 4 (by decide) nf_FB_133 rfl nd_FB_losePower_2 ?_
  refine vv_aload_n fx nd_FB_losePower_5 rfl 0 rfl ?_
  refine vv_get (ci := 0) (C := nr_FB) (T := nt_FB) (N := 6) fx nt_FB_in 0 rfl rfl 5 (by decide) nf_FB_23 rfl nd_FB_losePower_6 ?_
  refine vv_iadd fx nd_FB_losePower_9 ?_
  refine vv_put (M' := me_up M 5 1 ((M 5 1) + (M 5 2))) (U' := U) (ci := 0) (C := nr_FB) (T := nt_FB) (N := 6) (ty := .int) fx nt_FB_in nt_FB_ty nt_FB_ok nt_FB_nm 0 rfl rfl 4 (by decide) nf_FB_133 rfl (by decide +kernel) rfl rfl (Nat.le_of_ble_eq_true rfl) nd_FB_losePower_10 (sy_put1 _) ?_
  refine vv_aload_n fx nd_FB_losePower_13 rfl 0 rfl ?_
  refine vv_iconst (v := -1) fx nd_FB_losePower_14 (by decide) ?_
  refine vv_put (M' := me_up (me_up M 5 1 ((M 5 1) + (M 5 2))) 5 2 (-1)) (U' := U) (ci := 0) (C := nr_FB) (T := nt_FB) (N := 6) (ty := .int) fx nt_FB_in nt_FB_ty nt_FB_ok nt_FB_nm 0 rfl rfl 5 (by decide) nf_FB_23 rfl (by decide +kernel) rfl rfl (Nat.le_of_ble_eq_true rfl) nd_FB_losePower_15 (sy_put2 _) ?_
  refine vv_aload_n fx nd_FB_losePower_18 rfl 0 rfl ?_
  refine vv_iconst (v := nI 1) fx nd_FB_losePower_19 (by decide) ?_
  refine vv_put (M' := me_up (me_up (me_up M 5 1 ((M 5 1) + (M 5 2))) 5 2 (-1)) 5 0 (nI 1)) (U' := U) (ci := 0) (C := nr_FB) (T := nt_FB) (N := 6) (ty := .boolean) fx nt_FB_in nt_FB_ty nt_FB_ok nt_FB_nm 0 rfl rfl 3 (by decide) nf_FB_136 rfl (by decide +kernel) rfl rfl (Nat.le_of_ble_eq_true rfl) nd_FB_losePower_20 (sy_put0 _) ?_
  exact vv_vret fx rfl nd_FB_losePower_23
set_option maxRecDepth 4000 in
theorem cc_FB_order (l : Launch) (Y : sy_Y) (M U : me_M) (o : Int64) (n : Int32) : ct_I l ny_FB_order nb_FB_order 2 (some .boolean) { frames := 0, cells := 0, slots := 0, locals := 0 } Y [.ref (Y.2.1 0), .int n] M U o ((fb_order M n).2.1) ((fb_order M n).2.2) U o := by
  refine ct_body (own := nr_FB) (L0 := [(0, .ref (Y.2.1 0)), (1, .int n)]) (by decide) rfl (Nat.le_of_ble_eq_true rfl) rfl ?_
  intro p e s m args below meth c fx
  refine vv_iload_n fx nd_FB_order_0 rfl 1 rfl ?_
  refine vv_if_lt (tgt := 10) fx nd_FB_order_1 (by decide) (fun hb1 => ?_) (fun hb1 => ?_)
  · rw [show fb_order M n = (0, 0, M) from if_pos (Or.inl hb1)]
    refine vv_iconst (v := nI 0) fx nd_FB_order_10 (by decide) ?_
    exact vv_zret fx rfl nd_FB_order_11 (rfl) (Or.inl rfl)
  · refine vv_iload_n fx nd_FB_order_4 rfl 1 rfl ?_
    refine vv_bipush (v := nI 100) fx nd_FB_order_5 (by decide) ?_
    refine vv_icmp_le (tgt := 12) fx nd_FB_order_7 (by decide) (fun hb7 => ?_) (fun hb7 => ?_)
    · rw [show fb_order M n = (0, 1, me_up M 5 2 n) from if_neg (fun z => z.elim hb1 (Int32.not_lt.mpr hb7))]
      refine vv_aload_n fx nd_FB_order_12 rfl 0 rfl ?_
      refine vv_iload_n fx nd_FB_order_13 rfl 1 rfl ?_
      refine vv_put (M' := me_up M 5 2 n) (U' := U) (ci := 0) (C := nr_FB) (T := nt_FB) (N := 6) (ty := .int) fx nt_FB_in nt_FB_ty nt_FB_ok nt_FB_nm 0 rfl rfl 5 (by decide) nf_FB_23 rfl (by decide +kernel) rfl rfl (Nat.le_of_ble_eq_true rfl) nd_FB_order_14 (sy_put2 _) ?_
      refine vv_iconst (v := nI 1) fx nd_FB_order_17 (by decide) ?_
      exact vv_zret fx rfl nd_FB_order_18 (rfl) (Or.inr rfl)
    · rw [show fb_order M n = (0, 0, M) from if_pos (Or.inr (Int32.not_le.mp hb7))]
      refine vv_iconst (v := nI 0) fx nd_FB_order_10 (by decide) ?_
      exact vv_zret fx rfl nd_FB_order_11 (rfl) (Or.inl rfl)
set_option maxRecDepth 4000 in
theorem cc_FB_recover (l : Launch) (Y : sy_Y) (M U : me_M) (o : Int64)  : ct_I l ny_FB_recover nb_FB_recover 1 (some .int) { frames := 1, cells := 0, slots := 0, locals := 40 } Y [.ref (Y.2.1 0)] M U o ((fb_recover M).2.1) ((fb_recover M).2.2) U o := by
  refine ct_body (own := nr_FB) (L0 := [(0, .ref (Y.2.1 0))]) (by decide) rfl (Nat.le_of_ble_eq_true rfl) rfl ?_
  intro p e s m args below meth c fx
  refine vv_aload_n fx nd_FB_recover_0 rfl 0 rfl ?_
  refine vv_get (ci := 0) (C := nr_FB) (T := nt_FB) (N := 6) fx nt_FB_in 0 rfl rfl 3 (by decide) nf_FB_136 rfl nd_FB_recover_1 ?_
  refine vv_if_ne (tgt := 9) fx nd_FB_recover_4 (by decide) (fun hb4 => ?_) (fun hb4 => ?_)
  · rw [show fb_recover M = (0, nI (me_cn (fun h => decide (M 4 (h + 1) ≠ -1)) 6), me_up (me_set M 3 (va_cpy (M 4) (M 3) 0 0 7)) 5 0 0) from if_neg hb4]
    refine vv_aload_n fx nd_FB_recover_9 rfl 0 rfl ?_
    refine vv_get (ci := 0) (C := nr_FB) (T := nt_FB) (N := 6) fx nt_FB_in 0 rfl rfl 2 (by decide) nf_FB_20 rfl nd_FB_recover_10 ?_
    refine vv_iconst (v := nI 0) fx nd_FB_recover_13 (by decide) ?_
    refine vv_aload_n fx nd_FB_recover_14 rfl 0 rfl ?_
    refine vv_get (ci := 0) (C := nr_FB) (T := nt_FB) (N := 6) fx nt_FB_in 0 rfl rfl 1 (by decide) nf_FB_16 rfl nd_FB_recover_15 ?_
    refine vv_iconst (v := nI 0) fx nd_FB_recover_18 (by decide) ?_
    refine vv_aload_n fx nd_FB_recover_19 rfl 0 rfl ?_
    refine vv_get (ci := 0) (C := nr_FB) (T := nt_FB) (N := 6) fx nt_FB_in 0 rfl rfl 1 (by decide) nf_FB_16 rfl nd_FB_recover_20 ?_
    refine vv_alen fx 2 0 rfl rfl nd_FB_recover_23 ?_
    refine vv_copy (M' := me_set M 3 (va_cpy (M 4) (M 3) 0 0 7)) (U' := U) (n := 7) fx nm_FB_33 3 2 (rfl) (rfl) (by decide) (by decide) (by decide) (by decide) (Nat.le_of_ble_eq_true rfl) nd_FB_recover_24 (sy_set3 _) ?_
    refine vv_aload_n fx nd_FB_recover_27 rfl 0 rfl ?_
    refine vv_iconst (v := 0) fx nd_FB_recover_28 (by decide) ?_
    refine vv_put (M' := me_up (me_set M 3 (va_cpy (M 4) (M 3) 0 0 7)) 5 0 0) (U' := U) (ci := 0) (C := nr_FB) (T := nt_FB) (N := 6) (ty := .boolean) fx nt_FB_in nt_FB_ty nt_FB_ok nt_FB_nm 0 rfl rfl 3 (by decide) nf_FB_136 rfl (by decide +kernel) rfl rfl (Nat.le_of_ble_eq_true rfl) nd_FB_recover_29 (sy_put0 _) ?_
    refine vv_aload_n fx nd_FB_recover_32 rfl 0 rfl ?_
    refine vv_callVi (C := nr_FB) (T := nt_FB) (N := 6) (ci := 0) fx (cc_FB_snapshotsThere l Y (me_up (me_set M 3 (va_cpy (M 4) (M 3) 0 0 7)) 5 0 0) U o) nm_FB_140 ns_FB_snapshotsThere nv_FB_snapshotsThere nz_FB nc_FB_snapshotsThere ni_FB_snapshotsThere 0 rfl rfl ⟨rfl, rfl, by decide, by decide⟩ ⟨Nat.le_of_ble_eq_true rfl, Nat.le_of_ble_eq_true rfl⟩ (Nat.le_of_ble_eq_true rfl) nd_FB_recover_33 rfl ?_
    exact vv_iret fx rfl nd_FB_recover_36 (congrArg nI (me_cn_congr (fun i hi => by rw [me_up_n _ _ _ (by decide), me_set_s, rf_cpy7 _ _ (by omega)])))
  · rw [show fb_recover M = (0, -1, M) from if_pos hb4]
    refine vv_iconst (v := -1) fx nd_FB_recover_7 (by decide) ?_
    exact vv_iret fx rfl nd_FB_recover_8 (rfl)
set_option maxRecDepth 4000 in
theorem cc_FB_writes (l : Launch) (Y : sy_Y) (M U : me_M) (o : Int64)  : ct_I l ny_FB_writes nb_FB_writes 1 (some .int) { frames := 0, cells := 0, slots := 0, locals := 0 } Y [.ref (Y.2.1 0)] M U o (M 5 1) M U o := by
  refine ct_body (own := nr_FB) (L0 := [(0, .ref (Y.2.1 0))]) (by decide) rfl (Nat.le_of_ble_eq_true rfl) rfl ?_
  intro p e s m args below meth c fx
  refine vv_aload_n fx nd_FB_writes_0 rfl 0 rfl ?_
  refine vv_get (ci := 0) (C := nr_FB) (T := nt_FB) (N := 6) fx nt_FB_in 0 rfl rfl 4 (by decide) nf_FB_133 rfl nd_FB_writes_1 ?_
  exact vv_iret fx rfl nd_FB_writes_4 (rfl)
set_option maxRecDepth 4000 in
theorem cc_FB_down (l : Launch) (Y : sy_Y) (M U : me_M) (o : Int64) (h0 : M 5 0 = 0 ∨ M 5 0 = 1) : ct_I l ny_FB_down nb_FB_down 1 (some .boolean) { frames := 0, cells := 0, slots := 0, locals := 0 } Y [.ref (Y.2.1 0)] M U o (M 5 0) M U o := by
  refine ct_body (own := nr_FB) (L0 := [(0, .ref (Y.2.1 0))]) (by decide) rfl (Nat.le_of_ble_eq_true rfl) rfl ?_
  intro p e s m args below meth c fx
  refine vv_aload_n fx nd_FB_down_0 rfl 0 rfl ?_
  refine vv_get (ci := 0) (C := nr_FB) (T := nt_FB) (N := 6) fx nt_FB_in 0 rfl rfl 3 (by decide) nf_FB_136 rfl nd_FB_down_1 ?_
  exact vv_zret fx rfl nd_FB_down_4 (rfl) (h0)
