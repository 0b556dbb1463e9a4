/-! the constructors (printed by ctor.py) -/
theorem nk_int : Cond.arrayClass .int ∈ wl := wl_t1 43 rfl rfl
theorem nk_bool : Cond.arrayClass .boolean ∈ wl := wl_t1 44 rfl rfl
theorem no_i : Cond.instanceMethod objectInit ∈ wl := wl_t1 20 rfl rfl
theorem no_c : Cond.code objectInit ⟨#[0xb1]⟩ 1 none ∈ wl := wl_t1 21 rfl rfl
theorem sy_same {D : va_G} {cl : List vw_C} {s : State} {tys : List (ClassId × FieldType)} {c1 c2 : ClassId} {ty : FieldType} (hK : va_K D cl tys s) (hty : ty = .int ∨ ty = .boolean) {i j : Nat} (h1 : tys[i]? = some (c1, ty)) (h2 : tys[j]? = some (c2, ty)) : c2 = c1 := by
  have a := (hK.2 i _ h1).2
  have b := (hK.2 j _ h2).2
  rcases hty with rfl | rfl
  · exact Option.some.inj ((show s.vm.findClass _ = some c2 from b).symm.trans (show s.vm.findClass _ = some c1 from a))
  · exact Option.some.inj ((show s.vm.findClass _ = some c2 from b).symm.trans (show s.vm.findClass _ = some c1 from a))
/-- a world whose last cell a callee has made more of -/
theorem sy_join {A0 : Nat → Prop} {D : va_G} {cl : List vw_C} {wr w1 : va_W} {h0 : Nat} {e0 : va_E} {H H1 : Heap} (hP : va_P D cl (wr ++ [(h0, e0)]) H) (hD : va_D A0 (wr ++ [(h0, e0)])) (hk : ∀ q : Nat, q < H.size → ¬ va_A [(h0, e0)] H.size q → H1[q]? = H[q]?) (hF : ∀ q, va_A [(h0, e0)] H.size q → A0 q) (hP1 : va_P D cl w1 H1) (hD1 : va_D (va_A [(h0, e0)] H.size) w1) : va_P D cl (wr ++ w1) H1 ∧ va_D A0 (wr ++ w1) := by
  have hin : ∀ (k : Nat) (q : Nat × va_E), wr[k]? = some q → (wr ++ [(h0, e0)])[k]? = some q := fun k q hq => by
    rw [List.getElem?_append_left (List.getElem?_eq_some_iff.mp hq).1]; exact hq
  have hlast : (wr ++ [(h0, e0)])[wr.length]? = some (h0, e0) := by rw [List.getElem?_append_right (Nat.le_refl _), Nat.sub_self]; rfl
  have hno : ∀ (k : Nat) (q : Nat × va_E), wr[k]? = some q → q.1 < H.size ∧ ¬ va_A [(h0, e0)] H.size q.1 := fun k q hq => by
    have hlt := (hP k q (hin k q hq)).lt
    refine ⟨hlt, ?_⟩
    rintro (⟨i, e, hi⟩ | h)
    · have h9 : q.1 = h0 := by
        cases i with
        | zero => exact (congrArg Prod.fst (Option.some.inj hi)).symm
        | succ i => cases hi
      have := hD.1 k wr.length q _ (hin k q hq) hlast h9
      have := (List.getElem?_eq_some_iff.mp hq).1
      omega
    · omega
  refine ⟨va_P.app (fun k q hq => (hP k q (hin k q hq)).kept (hk q.1 (hno k q hq).1 (hno k q hq).2)) hP1, fun i j p q hp hq e => ?_, fun k q hq => ?_⟩
  · by_cases hi : i < wr.length
    · rw [List.getElem?_append_left hi] at hp
      by_cases hj : j < wr.length
      · rw [List.getElem?_append_left hj] at hq
        exact hD.1 i j p q (hin i p hp) (hin j q hq) e
      · rw [List.getElem?_append_right (by omega)] at hq
        exact absurd (hD1.2 _ q hq) (by rw [← e]; exact (hno i p hp).2)
    · rw [List.getElem?_append_right (by omega)] at hp
      by_cases hj : j < wr.length
      · rw [List.getElem?_append_left hj] at hq
        exact absurd (hD1.2 _ p hp) (by rw [e]; exact (hno j q hq).2)
      · rw [List.getElem?_append_right (by omega)] at hq
        have := hD1.1 _ _ p q hp hq e
        omega
  · by_cases hi : k < wr.length
    · rw [List.getElem?_append_left hi] at hq
      exact hD.2 k q (hin k q hq)
    · rw [List.getElem?_append_right (by omega)] at hq
      exact hF _ (hD1.2 _ q hq)
theorem sy_freeL {A0 : Nat → Prop} {wr : va_W} {h0 : Nat} {e0 : va_E} {H0 H : Heap} {locs : List Loc} (hD : va_D A0 (wr ++ [(h0, e0)])) (hS : va_S A0 H0 H locs) (hA : ∀ q, H0.size ≤ q → A0 q) : ∀ q, va_A [(h0, e0)] H.size q → A0 q := by
  rintro q (⟨i, e, hi⟩ | h)
  · have h9 : q = h0 := by
      cases i with
      | zero => exact (congrArg Prod.fst (Option.some.inj hi)).symm
      | succ i => cases hi
    rw [h9]
    exact hD.2 wr.length (h0, e0) (by rw [List.getElem?_append_right (Nat.le_refl _), Nat.sub_self]; rfl)
  · exact hA q (Nat.le_trans hS.1 h)
theorem sy_lastP {D : va_G} {cl : List vw_C} {wr : va_W} {x : Nat × va_E} {H : Heap} (hP : va_P D cl (wr ++ [x]) H) : va_P D cl [x] H := fun k q hq => by
  cases k with
  | zero => exact hP wr.length q (by rw [List.getElem?_append_right (Nat.le_refl _), Nat.sub_self]; exact hq)
  | succ k => cases hq
theorem sy_oneD (x : Nat × va_E) : va_D (fun _ => True) [x] := by
  refine ⟨fun i j p q hp hq _ => ?_, fun _ _ _ => trivial⟩
  cases i with
  | zero => cases j with
    | zero => rfl
    | succ j => cases hq
  | succ i => cases hp
set_option maxHeartbeats 2000000 in
set_option maxRecDepth 20000 in
theorem cc_MO_init (l : Launch) (D : va_G) (h0 sz : Nat) : Met l ny_MO_init (.code ny_MO_init nb_MO_init 1 none :: wl) { frames := 1, cells := 4, slots := 2100, locals := 12 } (va_Pc [.ref h0] (fun S => S.heap.size = sz ∧ va_P D sy_cl [(h0, .inr (2, [.int 0, .null, .null, .null, .null, .int 0, .int 0, .int 0, .int 0, .int 0]))] S.heap ∧ va_K D sy_cl [] S ∧ va_D (fun _ => True) [(h0, .inr (2, [.int 0, .null, .null, .null, .null, .int 0, .int 0, .int 0, .int 0, .int 0]))])) (va_Qv (fun (_ : (Nat × Nat × Nat × Nat) × ClassId × ClassId) => True) (fun u t => va_P D sy_cl ([(h0, .inr (2, [.int 0, .ref u.1.1, .ref u.1.2.1, .ref u.1.2.2.1, .ref u.1.2.2.2, .int 0, .int 0, .int 0, .int (-1), .int 0])), (u.1.1, .inl (u.2.2, 14, .inl (upd (upd (fun _ => 0) 0 1) 7 1))), (u.1.2.1, .inl (u.2.2, 896, .inl (fun _ => 0))), (u.1.2.2.1, .inl (u.2.1, 896, .inl (fun _ => 0))), (u.1.2.2.2, .inl (u.2.1, 294, .inl (fun _ => 0)))]) t.heap ∧ va_K D sy_cl [(u.2.2, .boolean), (u.2.1, .int)] t ∧ va_D (va_A [(h0, .inr (2, [.int 0, .null, .null, .null, .null, .int 0, .int 0, .int 0, .int 0, .int 0]))] sz) ([(h0, .inr (2, [.int 0, .ref u.1.1, .ref u.1.2.1, .ref u.1.2.2.1, .ref u.1.2.2.2, .int 0, .int 0, .int 0, .int (-1), .int 0])), (u.1.1, .inl (u.2.2, 14, .inl (upd (upd (fun _ => 0) 0 1) 7 1))), (u.1.2.1, .inl (u.2.2, 896, .inl (fun _ => 0))), (u.1.2.2.1, .inl (u.2.1, 896, .inl (fun _ => 0))), (u.1.2.2.2, .inl (u.2.1, 294, .inl (fun _ => 0)))])) (va_A [(h0, .inr (2, [.int 0, .null, .null, .null, .null, .int 0, .int 0, .int 0, .int 0, .int 0]))] sz)) 4 2100 (va_A [(h0, .inr (2, [.int 0, .null, .null, .null, .null, .int 0, .int 0, .int 0, .int 0, .int 0]))] sz) := by
  refine Met.ofW (cc := nb_MO_init) (maxL := 1) (ret := none) (by decide) rfl ?_
  intro p e s m args below meth c s₁ B hml hv
  obtain ⟨rfl, hsz, hP, hK, hD0⟩ := hv
  have hx := B.exec
  have hb := B.bytes
  have hr := B.returns
  have hts : ∀ w ∈ wl, w.before #[.ref h0] s = true := fun w hw => atoms_spec (ws := .code ny_MO_init nb_MO_init 1 none :: wl) B.pre w (List.mem_cons_of_mem _ hw)
  have hown : s.vm.findClass nr_MO = some m.cls := findClass_of_methodNamed B.named
  have hlocks := B.notSynchronized
  have hin : meth.name = "<init>" := (name_of_methodNamed B.named B.method).1
  subst hsz
  have hD := hD0.self (sz := s.heap.size)
  generalize hAe : va_A [(h0, .inr (2, [.int 0, .null, .null, .null, .null, .int 0, .int 0, .int 0, .int 0, .int 0]))] s.heap.size = A at hD ⊢
  have hA : ∀ q : Nat, s.heap.size ≤ q → A q := fun q h => by rw [← hAe]; exact Or.inr h
  have hS : va_S A s.heap s.heap [] := va_S.rf
  have hl := lv_entry ([.ref h0]) (n := 1) (Nat.le_of_ble_eq_true rfl)
  rw [lg_entry_eq]
  generalize (lg_sl ([.ref h0]) ++ List.replicate (1 - (lg_sl ([.ref h0])).length) Slot.unset).toArray = ls at hl ⊢
  have hl : lv_has ls 1 [(0, .ref h0)] := hl

  refine lv_aload_n hx hb nd_MO_init_0 rfl (lv_at hl 0 rfl) ?_
  refine W.objInit hx hb hown (hts _ nm_MO_1) (hts _ no_i) (hts _ no_c) rfl (by rw [hml]; exact hl.1) rfl nd_MO_init_1 (Nat.le_of_ble_eq_true rfl) (Nat.le_of_ble_eq_true rfl) ?_
  refine W.eq (g2 := F0 m 4 ls []) rfl ?_
  refine lv_aload_n hx hb nd_MO_init_4 rfl (lv_at hl 0 rfl) ?_
  refine lv_bipush (v := nI 14) hx hb nd_MO_init_5 (by decide) ?_
  refine va_newa (atype := .boolean) (ty := .boolean) (N' := 14) (a0 := (14, .inl (fun _ => 0))) hx hb (hts _ nk_bool) rfl hK hP hD hS hA (fun _ => rfl) (nI_pos (by decide)) (nI_clamp (by decide)) (Nat.le_of_ble_eq_true rfl) (Nat.le_of_ble_eq_true rfl) (Nat.le_of_ble_eq_true rfl) nd_MO_init_7 (fun q1 cZ H hK hP hD hS => ?_)
  refine W.widen (k := 1) (n := 14) (Nat.le_of_ble_eq_true rfl) (Nat.le_of_ble_eq_true rfl) ?_
  have hP : va_P D sy_cl ([(h0, .inr (2, [.int 0, .null, .null, .null, .null, .int 0, .int 0, .int 0, .int 0, .int 0])), (q1, .inl (cZ, 14, .inl (fun _ => 0)))]) H := hP
  have hD : va_D A ([(h0, .inr (2, [.int 0, .null, .null, .null, .null, .int 0, .int 0, .int 0, .int 0, .int 0])), (q1, .inl (cZ, 14, .inl (fun _ => 0)))]) := hD
  refine va_putF (D := D) (ci := 2) (v := .ref q1) (ty := .array .boolean) (C := nr_MO) (T := nt_MO) (N := 10) hx hb hts nt_MO_in nt_MO_ty nt_MO_ok nt_MO_nm hown hK hP hD hS 0 rfl rfl 1 (by decide) (hts _ nf_MO_7) (fun _ h9 => h9) rfl hin rfl (by decide +kernel) rfl rfl (Nat.le_of_ble_eq_true rfl) nd_MO_init_9 (fun H locs hP hD hS => ?_)
  have hP : va_P D sy_cl ([(h0, .inr (2, [.int 0, .ref q1, .null, .null, .null, .int 0, .int 0, .int 0, .int 0, .int 0])), (q1, .inl (cZ, 14, .inl (fun _ => 0)))]) H := hP
  have hD : va_D A ([(h0, .inr (2, [.int 0, .ref q1, .null, .null, .null, .int 0, .int 0, .int 0, .int 0, .int 0])), (q1, .inl (cZ, 14, .inl (fun _ => 0)))]) := hD
  refine lv_aload_n hx hb nd_MO_init_12 rfl (lv_at hl 0 rfl) ?_
  refine lv_sipush (v := nI 896) hx hb nd_MO_init_13 (by decide) ?_
  refine va_newa (atype := .boolean) (ty := .boolean) (N' := 896) (a0 := (896, .inl (fun _ => 0))) hx hb (hts _ nk_bool) rfl hK hP hD hS hA (fun _ => rfl) (nI_pos (by decide)) (nI_clamp (by decide)) (Nat.le_of_ble_eq_true rfl) (Nat.le_of_ble_eq_true rfl) (Nat.le_of_ble_eq_true rfl) nd_MO_init_16 (fun q2 c9 H hK hP hD hS => ?_)
  refine W.widen (k := 2) (n := 910) (Nat.le_of_ble_eq_true rfl) (Nat.le_of_ble_eq_true rfl) ?_
  have e9 : cZ = c9 := (sy_same hK (Or.inr rfl) (i := 0) (j := 1) rfl rfl).symm
  subst e9
  have hK := hK.sub (tys' := [(cZ, .boolean)]) [0] rfl
  have hP : va_P D sy_cl ([(h0, .inr (2, [.int 0, .ref q1, .null, .null, .null, .int 0, .int 0, .int 0, .int 0, .int 0])), (q1, .inl (cZ, 14, .inl (fun _ => 0))), (q2, .inl (cZ, 896, .inl (fun _ => 0)))]) H := hP
  have hD : va_D A ([(h0, .inr (2, [.int 0, .ref q1, .null, .null, .null, .int 0, .int 0, .int 0, .int 0, .int 0])), (q1, .inl (cZ, 14, .inl (fun _ => 0))), (q2, .inl (cZ, 896, .inl (fun _ => 0)))]) := hD
  refine va_putF (D := D) (ci := 2) (v := .ref q2) (ty := .array .boolean) (C := nr_MO) (T := nt_MO) (N := 10) hx hb hts nt_MO_in nt_MO_ty nt_MO_ok nt_MO_nm hown hK hP hD hS 0 rfl rfl 2 (by decide) (hts _ nf_MO_13) (fun _ h9 => h9) rfl hin rfl (by decide +kernel) rfl rfl (Nat.le_of_ble_eq_true rfl) nd_MO_init_18 (fun H locs hP hD hS => ?_)
  have hP : va_P D sy_cl ([(h0, .inr (2, [.int 0, .ref q1, .ref q2, .null, .null, .int 0, .int 0, .int 0, .int 0, .int 0])), (q1, .inl (cZ, 14, .inl (fun _ => 0))), (q2, .inl (cZ, 896, .inl (fun _ => 0)))]) H := hP
  have hD : va_D A ([(h0, .inr (2, [.int 0, .ref q1, .ref q2, .null, .null, .int 0, .int 0, .int 0, .int 0, .int 0])), (q1, .inl (cZ, 14, .inl (fun _ => 0))), (q2, .inl (cZ, 896, .inl (fun _ => 0)))]) := hD
  refine lv_aload_n hx hb nd_MO_init_21 rfl (lv_at hl 0 rfl) ?_
  refine lv_sipush (v := nI 896) hx hb nd_MO_init_22 (by decide) ?_
  refine va_newa (atype := .int) (ty := .int) (N' := 896) (a0 := (896, .inl (fun _ => 0))) hx hb (hts _ nk_int) rfl hK hP hD hS hA (fun _ => rfl) (nI_pos (by decide)) (nI_clamp (by decide)) (Nat.le_of_ble_eq_true rfl) (Nat.le_of_ble_eq_true rfl) (Nat.le_of_ble_eq_true rfl) nd_MO_init_25 (fun q3 cI H hK hP hD hS => ?_)
  refine W.widen (k := 3) (n := 1806) (Nat.le_of_ble_eq_true rfl) (Nat.le_of_ble_eq_true rfl) ?_
  have hP : va_P D sy_cl ([(h0, .inr (2, [.int 0, .ref q1, .ref q2, .null, .null, .int 0, .int 0, .int 0, .int 0, .int 0])), (q1, .inl (cZ, 14, .inl (fun _ => 0))), (q2, .inl (cZ, 896, .inl (fun _ => 0))), (q3, .inl (cI, 896, .inl (fun _ => 0)))]) H := hP
  have hD : va_D A ([(h0, .inr (2, [.int 0, .ref q1, .ref q2, .null, .null, .int 0, .int 0, .int 0, .int 0, .int 0])), (q1, .inl (cZ, 14, .inl (fun _ => 0))), (q2, .inl (cZ, 896, .inl (fun _ => 0))), (q3, .inl (cI, 896, .inl (fun _ => 0)))]) := hD
  refine va_putF (D := D) (ci := 2) (v := .ref q3) (ty := .array .int) (C := nr_MO) (T := nt_MO) (N := 10) hx hb hts nt_MO_in nt_MO_ty nt_MO_ok nt_MO_nm hown hK hP hD hS 0 rfl rfl 3 (by decide) (hts _ nf_MO_16) (fun _ h9 => h9) rfl hin rfl (by decide +kernel) rfl rfl (Nat.le_of_ble_eq_true rfl) nd_MO_init_27 (fun H locs hP hD hS => ?_)
  have hP : va_P D sy_cl ([(h0, .inr (2, [.int 0, .ref q1, .ref q2, .ref q3, .null, .int 0, .int 0, .int 0, .int 0, .int 0])), (q1, .inl (cZ, 14, .inl (fun _ => 0))), (q2, .inl (cZ, 896, .inl (fun _ => 0))), (q3, .inl (cI, 896, .inl (fun _ => 0)))]) H := hP
  have hD : va_D A ([(h0, .inr (2, [.int 0, .ref q1, .ref q2, .ref q3, .null, .int 0, .int 0, .int 0, .int 0, .int 0])), (q1, .inl (cZ, 14, .inl (fun _ => 0))), (q2, .inl (cZ, 896, .inl (fun _ => 0))), (q3, .inl (cI, 896, .inl (fun _ => 0)))]) := hD
  refine lv_aload_n hx hb nd_MO_init_30 rfl (lv_at hl 0 rfl) ?_
  refine lv_sipush (v := nI 294) hx hb nd_MO_init_31 (by decide) ?_
  refine va_newa (atype := .int) (ty := .int) (N' := 294) (a0 := (294, .inl (fun _ => 0))) hx hb (hts _ nk_int) rfl hK hP hD hS hA (fun _ => rfl) (nI_pos (by decide)) (nI_clamp (by decide)) (Nat.le_of_ble_eq_true rfl) (Nat.le_of_ble_eq_true rfl) (Nat.le_of_ble_eq_true rfl) nd_MO_init_34 (fun q4 c9 H hK hP hD hS => ?_)
  refine W.widen (k := 4) (n := 2100) (Nat.le_of_ble_eq_true rfl) (Nat.le_of_ble_eq_true rfl) ?_
  have e9 : cI = c9 := (sy_same hK (Or.inl rfl) (i := 1) (j := 2) rfl rfl).symm
  subst e9
  have hK := hK.sub (tys' := [(cZ, .boolean), (cI, .int)]) [0, 1] rfl
  have hP : va_P D sy_cl ([(h0, .inr (2, [.int 0, .ref q1, .ref q2, .ref q3, .null, .int 0, .int 0, .int 0, .int 0, .int 0])), (q1, .inl (cZ, 14, .inl (fun _ => 0))), (q2, .inl (cZ, 896, .inl (fun _ => 0))), (q3, .inl (cI, 896, .inl (fun _ => 0))), (q4, .inl (cI, 294, .inl (fun _ => 0)))]) H := hP
  have hD : va_D A ([(h0, .inr (2, [.int 0, .ref q1, .ref q2, .ref q3, .null, .int 0, .int 0, .int 0, .int 0, .int 0])), (q1, .inl (cZ, 14, .inl (fun _ => 0))), (q2, .inl (cZ, 896, .inl (fun _ => 0))), (q3, .inl (cI, 896, .inl (fun _ => 0))), (q4, .inl (cI, 294, .inl (fun _ => 0)))]) := hD
  refine va_putF (D := D) (ci := 2) (v := .ref q4) (ty := .array .int) (C := nr_MO) (T := nt_MO) (N := 10) hx hb hts nt_MO_in nt_MO_ty nt_MO_ok nt_MO_nm hown hK hP hD hS 0 rfl rfl 4 (by decide) (hts _ nf_MO_20) (fun _ h9 => h9) rfl hin rfl (by decide +kernel) rfl rfl (Nat.le_of_ble_eq_true rfl) nd_MO_init_36 (fun H locs hP hD hS => ?_)
  have hP : va_P D sy_cl ([(h0, .inr (2, [.int 0, .ref q1, .ref q2, .ref q3, .ref q4, .int 0, .int 0, .int 0, .int 0, .int 0])), (q1, .inl (cZ, 14, .inl (fun _ => 0))), (q2, .inl (cZ, 896, .inl (fun _ => 0))), (q3, .inl (cI, 896, .inl (fun _ => 0))), (q4, .inl (cI, 294, .inl (fun _ => 0)))]) H := hP
  have hD : va_D A ([(h0, .inr (2, [.int 0, .ref q1, .ref q2, .ref q3, .ref q4, .int 0, .int 0, .int 0, .int 0, .int 0])), (q1, .inl (cZ, 14, .inl (fun _ => 0))), (q2, .inl (cZ, 896, .inl (fun _ => 0))), (q3, .inl (cI, 896, .inl (fun _ => 0))), (q4, .inl (cI, 294, .inl (fun _ => 0)))]) := hD
  refine lv_aload_n hx hb nd_MO_init_39 rfl (lv_at hl 0 rfl) ?_
  refine lv_iconst (v := -1) hx hb nd_MO_init_40 (by decide) ?_
  refine va_put (D := D) (ci := 2) (v := .int (-1)) (ty := .int) (C := nr_MO) (T := nt_MO) (N := 10) hx hb hts nt_MO_in nt_MO_ty nt_MO_ok nt_MO_nm hown hK hP hD hS 0 rfl rfl 8 (by decide) (hts _ nf_MO_23) (fun _ h9 => h9) rfl (by decide +kernel) rfl rfl (Nat.le_of_ble_eq_true rfl) nd_MO_init_41 (fun H locs hP hD hS => ?_)
  have hP : va_P D sy_cl ([(h0, .inr (2, [.int 0, .ref q1, .ref q2, .ref q3, .ref q4, .int 0, .int 0, .int 0, .int (-1), .int 0])), (q1, .inl (cZ, 14, .inl (fun _ => 0))), (q2, .inl (cZ, 896, .inl (fun _ => 0))), (q3, .inl (cI, 896, .inl (fun _ => 0))), (q4, .inl (cI, 294, .inl (fun _ => 0)))]) H := hP
  have hD : va_D A ([(h0, .inr (2, [.int 0, .ref q1, .ref q2, .ref q3, .ref q4, .int 0, .int 0, .int 0, .int (-1), .int 0])), (q1, .inl (cZ, 14, .inl (fun _ => 0))), (q2, .inl (cZ, 896, .inl (fun _ => 0))), (q3, .inl (cI, 896, .inl (fun _ => 0))), (q4, .inl (cI, 294, .inl (fun _ => 0)))]) := hD
  refine lv_aload_n hx hb nd_MO_init_44 rfl (lv_at hl 0 rfl) ?_
  refine va_get (D := D) (ci := 2) (C := nr_MO) (T := nt_MO) (N := 10) hx hb hts nt_MO_in hown hK hP 0 rfl rfl 1 (by decide) (hts _ nf_MO_7) (fun _ h9 => h9) rfl nd_MO_init_45 ?_
  refine lv_iconst (v := nI 0) hx hb nd_MO_init_48 (by decide) ?_
  refine lv_iconst (v := nI 1) hx hb nd_MO_init_49 (by decide) ?_
  refine va_zast (D := D) (cl := sy_cl) (f := (fun _ => 0)) hx hb hK hP hD hS 1 0 rfl rfl (vp_in_nI (n := 0) (N := 14) (by decide) (by decide)) nd_MO_init_50 (fun H locs hP hD hS => ?_)
  rw [nI_clamp (by decide), vv_nar01 (x := nI 1) (Or.inr rfl)] at hP hD
  have hP : va_P D sy_cl ([(h0, .inr (2, [.int 0, .ref q1, .ref q2, .ref q3, .ref q4, .int 0, .int 0, .int 0, .int (-1), .int 0])), (q1, .inl (cZ, 14, .inl (upd (fun _ => 0) 0 1))), (q2, .inl (cZ, 896, .inl (fun _ => 0))), (q3, .inl (cI, 896, .inl (fun _ => 0))), (q4, .inl (cI, 294, .inl (fun _ => 0)))]) H := hP
  have hD : va_D A ([(h0, .inr (2, [.int 0, .ref q1, .ref q2, .ref q3, .ref q4, .int 0, .int 0, .int 0, .int (-1), .int 0])), (q1, .inl (cZ, 14, .inl (upd (fun _ => 0) 0 1))), (q2, .inl (cZ, 896, .inl (fun _ => 0))), (q3, .inl (cI, 896, .inl (fun _ => 0))), (q4, .inl (cI, 294, .inl (fun _ => 0)))]) := hD
  refine lv_aload_n hx hb nd_MO_init_51 rfl (lv_at hl 0 rfl) ?_
  refine va_get (D := D) (ci := 2) (C := nr_MO) (T := nt_MO) (N := 10) hx hb hts nt_MO_in hown hK hP 0 rfl rfl 1 (by decide) (hts _ nf_MO_7) (fun _ h9 => h9) rfl nd_MO_init_52 ?_
  refine lv_bipush (v := nI 7) hx hb nd_MO_init_55 (by decide) ?_
  refine lv_iconst (v := nI 1) hx hb nd_MO_init_57 (by decide) ?_
  refine va_zast (D := D) (cl := sy_cl) (f := (upd (fun _ => 0) 0 1)) hx hb hK hP hD hS 1 0 rfl rfl (vp_in_nI (n := 7) (N := 14) (by decide) (by decide)) nd_MO_init_58 (fun H locs hP hD hS => ?_)
  rw [nI_clamp (by decide), vv_nar01 (x := nI 1) (Or.inr rfl)] at hP hD
  have hP : va_P D sy_cl ([(h0, .inr (2, [.int 0, .ref q1, .ref q2, .ref q3, .ref q4, .int 0, .int 0, .int 0, .int (-1), .int 0])), (q1, .inl (cZ, 14, .inl (upd (upd (fun _ => 0) 0 1) 7 1))), (q2, .inl (cZ, 896, .inl (fun _ => 0))), (q3, .inl (cI, 896, .inl (fun _ => 0))), (q4, .inl (cI, 294, .inl (fun _ => 0)))]) H := hP
  have hD : va_D A ([(h0, .inr (2, [.int 0, .ref q1, .ref q2, .ref q3, .ref q4, .int 0, .int 0, .int 0, .int (-1), .int 0])), (q1, .inl (cZ, 14, .inl (upd (upd (fun _ => 0) 0 1) 7 1))), (q2, .inl (cZ, 896, .inl (fun _ => 0))), (q3, .inl (cI, 896, .inl (fun _ => 0))), (q4, .inl (cI, 294, .inl (fun _ => 0)))]) := hD
  exact W.vret hx hb hr (fun t ht hW => ⟨⟨((q1, q2, q3, q4), cI, cZ), rfl, trivial, by rw [ht]; exact hP, va_K.moved hW.alike hK, hD⟩, hS.F (by rw [ht])⟩) hS.2.2 nd_MO_init_59 hlocks
theorem nl_ways : Cond.classLink nr_RM 11 "[[I" ∈ wl := wl_t1 28 rfl rfl
def sy_AO (S : State) : Prop := (Cond.arrayOver (.array .int)).before #[] S = true
theorem sy_AO_any {A A' : Array Value} {s U : State} (h : s.vm = U.vm) (hb : (Cond.arrayOver (.array .int)).before A s = true) : (Cond.arrayOver (.array .int)).before A' U = true := by
  have e1 : (Cond.arrayOver (.array .int)).before A' U = (Cond.arrayOver (.array .int)).before A (s.setVm U.vm) := rfl
  rw [e1, ← h]
  exact hb
theorem sy_AO_warm {s U : State} (hW : s.WarmedH U.vm) (h : sy_AO s) : sy_AO U := sy_AO_any (s := s.setVm U.vm) (A := #[]) rfl (by rw [Cond.arrayOver_setVmC hW.alike]; exact h)
theorem sy_pl (n : Nat) (r : Nat → Nat) (f : Nat → va_E) (z : va_E) : va_pl ([] ++ (List.range n).map r) (vr_up f ((List.range n).map r) z) = (List.range n).map (fun i => (r i, z)) := by
  unfold va_pl
  rw [List.nil_append, List.map_map]
  refine List.map_congr_left fun i hi => ?_
  show (r i, vr_up f ((List.range n).map r) z (r i)) = (r i, z)
  rw [vr_up_in (List.mem_map.mpr ⟨i, hi, rfl⟩)]
def sy_rmW (h0 q qo qf qm : Nat) (r : Nat → Nat) (cI cZ cII : ClassId) : va_W := [(h0, .inr (1, [.ref q, .ref qo, .ref qf, .ref qm])), (q, .inl (cII, 61, .inr (.inr (.inr (.inr (fun i => if i < 61 then some (r i) else none))))))] ++ (((((List.range 61).map (fun i => (r i, (.inl (cI, 4, .inl (fun _ => 0)) : va_E)))) ++ [(qo, .inl (cI, 61, .inl (fun _ => 0)))]) ++ [(qf, .inl (cZ, 61, .inl (fun _ => 0)))]) ++ [(qm, .inl (cZ, 61, .inl (fun _ => 0)))])
theorem sy_arr {args : Array Value} {s : State} (h : (Cond.arrayClass .int).before args s = true) : ∃ cy, s.vm.findClass (FieldType.array .int).toString = some cy := by
  obtain ⟨c9, k9, comp, h1, -⟩ := Cond.arrayClass_spec h
  exact ⟨c9, h1⟩
set_option maxHeartbeats 2000000 in
set_option maxRecDepth 20000 in
theorem cc_RM_init (l : Launch) (D : va_G) (h0 sz : Nat) : Met l ny_RM_init (.code ny_RM_init nb_RM_init 1 none :: wl) { frames := 1, cells := 65, slots := 488, locals := 12 } (va_Pc [.ref h0] (fun S => S.heap.size = sz ∧ va_P D sy_cl [(h0, .inr (1, [.null, .null, .null, .null]))] S.heap ∧ va_K D sy_cl [] S ∧ va_D (fun _ => True) [(h0, .inr (1, [.null, .null, .null, .null]))] ∧ sy_AO S)) (va_Qv (fun (_ : (Nat × Nat × Nat × Nat) × (Nat → Nat) × ClassId × ClassId × ClassId) => True) (fun u t => va_P D sy_cl (sy_rmW h0 u.1.1 u.1.2.1 u.1.2.2.1 u.1.2.2.2 u.2.1 u.2.2.1 u.2.2.2.1 u.2.2.2.2) t.heap ∧ va_K D sy_cl [(u.2.2.1, .int), (u.2.2.2.1, .boolean), (u.2.2.2.2, .array .int)] t ∧ va_D (va_A [(h0, .inr (1, [.null, .null, .null, .null]))] sz) (sy_rmW h0 u.1.1 u.1.2.1 u.1.2.2.1 u.1.2.2.2 u.2.1 u.2.2.1 u.2.2.2.1 u.2.2.2.2)) (va_A [(h0, .inr (1, [.null, .null, .null, .null]))] sz)) 65 488 (va_A [(h0, .inr (1, [.null, .null, .null, .null]))] sz) := by
  refine Met.ofW (cc := nb_RM_init) (maxL := 1) (ret := none) (by decide) rfl ?_
  intro p e s m args below meth c s₁ B hml hv
  obtain ⟨rfl, hsz, hP, hK, hD0, hAO⟩ := hv
  have hx := B.exec
  have hb := B.bytes
  have hr := B.returns
  have hts : ∀ w ∈ wl, w.before #[.ref h0] s = true := fun w hw => atoms_spec (ws := .code ny_RM_init nb_RM_init 1 none :: wl) B.pre w (List.mem_cons_of_mem _ hw)
  have hown : s.vm.findClass nr_RM = some m.cls := findClass_of_methodNamed B.named
  have hlocks := B.notSynchronized
  have hin : meth.name = "<init>" := (name_of_methodNamed B.named B.method).1
  subst hsz
  have hD := hD0.self (sz := s.heap.size)
  generalize hAe : va_A [(h0, .inr (1, [.null, .null, .null, .null]))] s.heap.size = A at hD ⊢
  have hA : ∀ q : Nat, s.heap.size ≤ q → A q := fun q h => by rw [← hAe]; exact Or.inr h
  have hS : va_S A s.heap s.heap [] := va_S.rf
  have hl := lv_entry ([.ref h0]) (n := 1) (Nat.le_of_ble_eq_true rfl)
  rw [lg_entry_eq]
  generalize (lg_sl ([.ref h0]) ++ List.replicate (1 - (lg_sl ([.ref h0])).length) Slot.unset).toArray = ls at hl ⊢
  have hl : lv_has ls 1 [(0, .ref h0)] := hl

  refine lv_aload_n hx hb nd_RM_init_0 rfl (lv_at hl 0 rfl) ?_
  refine W.objInit hx hb hown (hts _ nm_RM_3) (hts _ no_i) (hts _ no_c) rfl (by rw [hml]; exact hl.1) rfl nd_RM_init_1 (Nat.le_of_ble_eq_true rfl) (Nat.le_of_ble_eq_true rfl) ?_
  refine W.eq (g2 := F0 m 4 ls []) rfl ?_
  obtain ⟨cI, hcI⟩ : ∃ cy, s.vm.findClass (FieldType.array .int).toString = some cy := sy_arr (hts _ nk_int)
  have hcw : (Cond.classLink nr_RM 11 ("[" ++ (FieldType.array .int).toString)).before #[.ref h0] s = true := by rw [show "[" ++ (FieldType.array .int).toString = "[[I" by decide +kernel]; exact hts _ nl_ways
  refine lv_aload_n hx hb nd_RM_init_4 rfl (lv_at hl 0 rfl) ?_
  refine lv_bipush (v := nI 61) hx hb nd_RM_init_5 (by decide) ?_
  refine lv_iconst (v := nI 4) hx hb nd_RM_init_7 (by decide) ?_
  refine va_mna (X := [(h0, .inr (1, [.null, .null, .null, .null]))]) (L := []) (f := fun _ => .inl (cI, 4, .inl (fun _ => 0))) (ty := .int) (N' := 61) (K' := 4) (z := (4, .inl (fun _ => 0))) hx hb hown hcw (sy_AO_any rfl hAO) (hts _ nk_int) hcI hK hP hD hS hA (nI_pos (by decide)) (nI_pos (by decide)) (nI_clamp (by decide)) (nI_clamp (by decide)) (Nat.le_of_ble_eq_true rfl) (Nat.le_of_ble_eq_true rfl) (Nat.le_of_ble_eq_true rfl) rfl rfl (Nat.le_of_ble_eq_true rfl) (Nat.le_of_ble_eq_true rfl) (fun _ => rfl) nd_RM_init_8 (fun q r cII H hrr _ hK hP hD hS => ?_)
  rw [sy_pl] at hP hD
  generalize hrow : (List.range 61).map (fun i => (r i, (.inl (cI, 4, .inl (fun _ => 0)) : va_E))) = rows at hP hD
  refine W.widen (k := 62) (n := 305) (Nat.le_of_ble_eq_true rfl) (Nat.le_of_ble_eq_true rfl) ?_
  have hP : va_P D sy_cl ((h0, .inr (1, [.null, .null, .null, .null])) :: (q, .inl (cII, 61, .inr (.inr (.inr (.inr (fun i => if i < 61 then some (r i) else none)))))) :: (rows)) H := hP
  have hD : va_D A ((h0, .inr (1, [.null, .null, .null, .null])) :: (q, .inl (cII, 61, .inr (.inr (.inr (.inr (fun i => if i < 61 then some (r i) else none)))))) :: (rows)) := hD
  refine va_putF (D := D) (ci := 1) (v := .ref q) (ty := .array (.array .int)) (C := nr_RM) (T := nt_RM) (N := 4) hx hb hts nt_RM_in nt_RM_ty nt_RM_ok nt_RM_nm hown hK hP hD hS 0 rfl rfl 0 (by decide) (hts _ nf_RM_13) (fun _ h9 => h9) rfl hin rfl (by decide +kernel) rfl rfl (Nat.le_of_ble_eq_true rfl) nd_RM_init_12 (fun H locs hP hD hS => ?_)
  have hP : va_P D sy_cl ((h0, .inr (1, [.ref q, .null, .null, .null])) :: (q, .inl (cII, 61, .inr (.inr (.inr (.inr (fun i => if i < 61 then some (r i) else none)))))) :: (rows)) H := hP
  have hD : va_D A ((h0, .inr (1, [.ref q, .null, .null, .null])) :: (q, .inl (cII, 61, .inr (.inr (.inr (.inr (fun i => if i < 61 then some (r i) else none)))))) :: (rows)) := hD
  refine lv_aload_n hx hb nd_RM_init_15 rfl (lv_at hl 0 rfl) ?_
  refine lv_bipush (v := nI 61) hx hb nd_RM_init_16 (by decide) ?_
  refine va_newa (atype := .int) (ty := .int) (N' := 61) (a0 := (61, .inl (fun _ => 0))) hx hb (hts _ nk_int) rfl hK hP hD hS hA (fun _ => rfl) (nI_pos (by decide)) (nI_clamp (by decide)) (Nat.le_of_ble_eq_true rfl) (Nat.le_of_ble_eq_true rfl) (Nat.le_of_ble_eq_true rfl) nd_RM_init_18 (fun qo c9 H hK hP hD hS => ?_)
  refine W.widen (k := 63) (n := 366) (Nat.le_of_ble_eq_true rfl) (Nat.le_of_ble_eq_true rfl) ?_
  have e9 : cI = c9 := Option.some.inj (hcI.symm.trans (show s.vm.findClass _ = some c9 from (hK.2 1 _ rfl).2))
  subst e9
  have hP : va_P D sy_cl ((h0, .inr (1, [.ref q, .null, .null, .null])) :: (q, .inl (cII, 61, .inr (.inr (.inr (.inr (fun i => if i < 61 then some (r i) else none)))))) :: ((rows ++ [(qo, .inl (cI, 61, .inl (fun _ => 0)))]))) H := hP
  have hD : va_D A ((h0, .inr (1, [.ref q, .null, .null, .null])) :: (q, .inl (cII, 61, .inr (.inr (.inr (.inr (fun i => if i < 61 then some (r i) else none)))))) :: ((rows ++ [(qo, .inl (cI, 61, .inl (fun _ => 0)))]))) := hD
  refine va_putF (D := D) (ci := 1) (v := .ref qo) (ty := .array .int) (C := nr_RM) (T := nt_RM) (N := 4) hx hb hts nt_RM_in nt_RM_ty nt_RM_ok nt_RM_nm hown hK hP hD hS 0 rfl rfl 1 (by decide) (hts _ nf_RM_16) (fun _ h9 => h9) rfl hin rfl (by decide +kernel) rfl rfl (Nat.le_of_ble_eq_true rfl) nd_RM_init_20 (fun H locs hP hD hS => ?_)
  have hP : va_P D sy_cl ((h0, .inr (1, [.ref q, .ref qo, .null, .null])) :: (q, .inl (cII, 61, .inr (.inr (.inr (.inr (fun i => if i < 61 then some (r i) else none)))))) :: ((rows ++ [(qo, .inl (cI, 61, .inl (fun _ => 0)))]))) H := hP
  have hD : va_D A ((h0, .inr (1, [.ref q, .ref qo, .null, .null])) :: (q, .inl (cII, 61, .inr (.inr (.inr (.inr (fun i => if i < 61 then some (r i) else none)))))) :: ((rows ++ [(qo, .inl (cI, 61, .inl (fun _ => 0)))]))) := hD
  refine lv_aload_n hx hb nd_RM_init_23 rfl (lv_at hl 0 rfl) ?_
  refine lv_bipush (v := nI 61) hx hb nd_RM_init_24 (by decide) ?_
  refine va_newa (atype := .boolean) (ty := .boolean) (N' := 61) (a0 := (61, .inl (fun _ => 0))) hx hb (hts _ nk_bool) rfl hK hP hD hS hA (fun _ => rfl) (nI_pos (by decide)) (nI_clamp (by decide)) (Nat.le_of_ble_eq_true rfl) (Nat.le_of_ble_eq_true rfl) (Nat.le_of_ble_eq_true rfl) nd_RM_init_26 (fun qf cZ H hK hP hD hS => ?_)
  refine W.widen (k := 64) (n := 427) (Nat.le_of_ble_eq_true rfl) (Nat.le_of_ble_eq_true rfl) ?_
  have hP : va_P D sy_cl ((h0, .inr (1, [.ref q, .ref qo, .null, .null])) :: (q, .inl (cII, 61, .inr (.inr (.inr (.inr (fun i => if i < 61 then some (r i) else none)))))) :: (((rows ++ [(qo, .inl (cI, 61, .inl (fun _ => 0)))]) ++ [(qf, .inl (cZ, 61, .inl (fun _ => 0)))]))) H := hP
  have hD : va_D A ((h0, .inr (1, [.ref q, .ref qo, .null, .null])) :: (q, .inl (cII, 61, .inr (.inr (.inr (.inr (fun i => if i < 61 then some (r i) else none)))))) :: (((rows ++ [(qo, .inl (cI, 61, .inl (fun _ => 0)))]) ++ [(qf, .inl (cZ, 61, .inl (fun _ => 0)))]))) := hD
  refine va_putF (D := D) (ci := 1) (v := .ref qf) (ty := .array .boolean) (C := nr_RM) (T := nt_RM) (N := 4) hx hb hts nt_RM_in nt_RM_ty nt_RM_ok nt_RM_nm hown hK hP hD hS 0 rfl rfl 2 (by decide) (hts _ nf_RM_20) (fun _ h9 => h9) rfl hin rfl (by decide +kernel) rfl rfl (Nat.le_of_ble_eq_true rfl) nd_RM_init_28 (fun H locs hP hD hS => ?_)
  have hP : va_P D sy_cl ((h0, .inr (1, [.ref q, .ref qo, .ref qf, .null])) :: (q, .inl (cII, 61, .inr (.inr (.inr (.inr (fun i => if i < 61 then some (r i) else none)))))) :: (((rows ++ [(qo, .inl (cI, 61, .inl (fun _ => 0)))]) ++ [(qf, .inl (cZ, 61, .inl (fun _ => 0)))]))) H := hP
  have hD : va_D A ((h0, .inr (1, [.ref q, .ref qo, .ref qf, .null])) :: (q, .inl (cII, 61, .inr (.inr (.inr (.inr (fun i => if i < 61 then some (r i) else none)))))) :: (((rows ++ [(qo, .inl (cI, 61, .inl (fun _ => 0)))]) ++ [(qf, .inl (cZ, 61, .inl (fun _ => 0)))]))) := hD
  refine lv_aload_n hx hb nd_RM_init_31 rfl (lv_at hl 0 rfl) ?_
  refine lv_bipush (v := nI 61) hx hb nd_RM_init_32 (by decide) ?_
  refine va_newa (atype := .boolean) (ty := .boolean) (N' := 61) (a0 := (61, .inl (fun _ => 0))) hx hb (hts _ nk_bool) rfl hK hP hD hS hA (fun _ => rfl) (nI_pos (by decide)) (nI_clamp (by decide)) (Nat.le_of_ble_eq_true rfl) (Nat.le_of_ble_eq_true rfl) (Nat.le_of_ble_eq_true rfl) nd_RM_init_34 (fun qm c9 H hK hP hD hS => ?_)
  refine W.widen (k := 65) (n := 488) (Nat.le_of_ble_eq_true rfl) (Nat.le_of_ble_eq_true rfl) ?_
  have e9 : cZ = c9 := (sy_same hK (Or.inr rfl) (i := 2) (j := 3) rfl rfl).symm
  subst e9
  have hK := hK.sub (tys' := [(cII, .array .int), (cI, .int), (cZ, .boolean)]) [0, 1, 2] rfl
  have hP : va_P D sy_cl ((h0, .inr (1, [.ref q, .ref qo, .ref qf, .null])) :: (q, .inl (cII, 61, .inr (.inr (.inr (.inr (fun i => if i < 61 then some (r i) else none)))))) :: ((((rows ++ [(qo, .inl (cI, 61, .inl (fun _ => 0)))]) ++ [(qf, .inl (cZ, 61, .inl (fun _ => 0)))]) ++ [(qm, .inl (cZ, 61, .inl (fun _ => 0)))]))) H := hP
  have hD : va_D A ((h0, .inr (1, [.ref q, .ref qo, .ref qf, .null])) :: (q, .inl (cII, 61, .inr (.inr (.inr (.inr (fun i => if i < 61 then some (r i) else none)))))) :: ((((rows ++ [(qo, .inl (cI, 61, .inl (fun _ => 0)))]) ++ [(qf, .inl (cZ, 61, .inl (fun _ => 0)))]) ++ [(qm, .inl (cZ, 61, .inl (fun _ => 0)))]))) := hD
  refine va_putF (D := D) (ci := 1) (v := .ref qm) (ty := .array .boolean) (C := nr_RM) (T := nt_RM) (N := 4) hx hb hts nt_RM_in nt_RM_ty nt_RM_ok nt_RM_nm hown hK hP hD hS 0 rfl rfl 3 (by decide) (hts _ nf_RM_24) (fun _ h9 => h9) rfl hin rfl (by decide +kernel) rfl rfl (Nat.le_of_ble_eq_true rfl) nd_RM_init_36 (fun H locs hP hD hS => ?_)
  have hP : va_P D sy_cl ((h0, .inr (1, [.ref q, .ref qo, .ref qf, .ref qm])) :: (q, .inl (cII, 61, .inr (.inr (.inr (.inr (fun i => if i < 61 then some (r i) else none)))))) :: ((((rows ++ [(qo, .inl (cI, 61, .inl (fun _ => 0)))]) ++ [(qf, .inl (cZ, 61, .inl (fun _ => 0)))]) ++ [(qm, .inl (cZ, 61, .inl (fun _ => 0)))]))) H := hP
  have hD : va_D A ((h0, .inr (1, [.ref q, .ref qo, .ref qf, .ref qm])) :: (q, .inl (cII, 61, .inr (.inr (.inr (.inr (fun i => if i < 61 then some (r i) else none)))))) :: ((((rows ++ [(qo, .inl (cI, 61, .inl (fun _ => 0)))]) ++ [(qf, .inl (cZ, 61, .inl (fun _ => 0)))]) ++ [(qm, .inl (cZ, 61, .inl (fun _ => 0)))]))) := hD
  subst hrow
  exact W.vret hx hb hr (fun t ht hW => ⟨⟨((q, qo, qf, qm), r, cI, cZ, cII), rfl, trivial, by rw [ht]; exact hP, va_K.moved hW.alike (hK.sub (tys' := [(cI, .int), (cZ, .boolean), (cII, .array .int)]) [1, 2, 0] rfl), hD⟩, hS.F ht⟩) hS.2.2 nd_RM_init_39 hlocks
/-! Arrays.fill over a row of seven -/
abbrev nb_fill : ByteArray := prog_14_method_103_code
def ny_fill : MethodName := ⟨"java/util/Arrays", "fill", "([II)V"⟩
theorem nc_fill : Cond.code ny_fill nb_fill 4 none ∈ wl := wl_t1 47 rfl rfl
theorem ns_fill : Cond.static ny_fill ∈ wl := wl_t1 46 rfl rfl
theorem nz_fill : Cond.initialized "java/util/Arrays" ∈ wl := wl_t1 3 rfl rfl
theorem nd_fill_0 : decode nb_fill 0 = .ok (.iconst 0, 1) := by decide +kernel
theorem nd_fill_1 : decode nb_fill 1 = .ok (.istore_n 2, 1) := by decide +kernel
theorem nd_fill_2 : decode nb_fill 2 = .ok (.aload_n 0, 1) := by decide +kernel
theorem nd_fill_3 : decode nb_fill 3 = .ok (.arraylength, 1) := by decide +kernel
theorem nd_fill_4 : decode nb_fill 4 = .ok (.istore_n 3, 1) := by decide +kernel
theorem nd_fill_5 : decode nb_fill 5 = .ok (.iload_n 2, 1) := by decide +kernel
theorem nd_fill_6 : decode nb_fill 6 = .ok (.iload_n 3, 1) := by decide +kernel
theorem nd_fill_7 : decode nb_fill 7 = .ok (.if_icmp .ge 13, 3) := by decide +kernel
theorem nd_fill_10 : decode nb_fill 10 = .ok (.aload_n 0, 1) := by decide +kernel
theorem nd_fill_11 : decode nb_fill 11 = .ok (.iload_n 2, 1) := by decide +kernel
theorem nd_fill_12 : decode nb_fill 12 = .ok (.iload_n 1, 1) := by decide +kernel
theorem nd_fill_13 : decode nb_fill 13 = .ok (.iastore, 1) := by decide +kernel
theorem nd_fill_14 : decode nb_fill 14 = .ok (.iinc 2 1, 3) := by decide +kernel
theorem nd_fill_17 : decode nb_fill 17 = .ok (.goto (-12), 3) := by decide +kernel
theorem nd_fill_20 : decode nb_fill 20 = .ok (.return_, 1) := by decide +kernel
def sy_fl (v : Int32) (g : Nat → Int32) (i : Nat) : Nat → Int32 := fun j => if j < i then v else g j
theorem sy_fl_0 (v : Int32) (g : Nat → Int32) : sy_fl v g 0 = g := by funext j; exact if_neg (by omega)
theorem sy_fl_s (v : Int32) (g : Nat → Int32) (i : Nat) : upd (sy_fl v g i) i v = sy_fl v g (i + 1) := by
  funext j
  unfold upd sy_fl
  by_cases h : j = i
  · rw [if_pos h, if_pos (by omega)]
  · rw [if_neg h]
    by_cases q : j < i
    · rw [if_pos q, if_pos (by omega)]
    · rw [if_neg q, if_neg (by omega)]
set_option maxRecDepth 4000 in
theorem cc_fill (l : Launch) (D : va_G) (a : Nat) (v : Int32) (cI : ClassId) (g : Nat → Int32) : Met l ny_fill (.code ny_fill nb_fill 4 none :: wl) { frames := 0, cells := 0, slots := 0, locals := 0 } (va_Pc [.ref a, .int v] (fun S => va_P D sy_cl [(a, .inl (cI, 7, .inl g))] S.heap ∧ va_K D sy_cl [(cI, .int)] S)) (va_Qv (fun (_ : Unit) => True) (fun _ t => va_P D sy_cl [(a, .inl (cI, 7, .inl (sy_fl v g 7)))] t.heap) (fun q => q = a)) 0 0 (fun q => q = a) := by
  refine Met.ofW (cc := nb_fill) (maxL := 4) (ret := none) (by decide) rfl ?_
  intro p e s m args below meth c s₁ B hml hv
  obtain ⟨rfl, hP, hK⟩ := hv
  have hx := B.exec
  have hb := B.bytes
  have hr := B.returns
  have hlocks := B.notSynchronized
  have hD : ∀ e, va_D (fun q => q = a) [(a, e)] := fun e => ⟨(sy_oneD (a, e)).1, fun k q hq => by
    cases k with
    | zero => exact (congrArg Prod.fst (Option.some.inj hq)).symm
    | succ k => cases hq⟩
  have hS : va_S (fun q => q = a) s.heap s.heap [] := va_S.rf
  have hl := lv_entry ([.ref a, .int v]) (n := 4) (Nat.le_of_ble_eq_true rfl)
  rw [lg_entry_eq]
  generalize (lg_sl ([.ref a, .int v]) ++ List.replicate (4 - (lg_sl ([.ref a, .int v])).length) Slot.unset).toArray = ls at hl ⊢
  have hl : lv_has ls 4 [(0, .ref a), (1, .int v)] := hl
  refine lv_iconst (v := nI 0) hx hb nd_fill_0 (by decide) ?_
  refine lv_istore_n hx hb nd_fill_1 rfl hl (by decide) rfl (fun ls hl => ?_)
  have hl := lv_sub (l' := [(0, .ref a), (1, .int v), (2, .int (nI 0))]) hl [1, 2, 0] rfl
  refine lv_aload_n hx hb nd_fill_2 rfl (lv_at hl 0 rfl) ?_
  refine va_alen (D := D) (cl := sy_cl) hx hb hK hP 0 0 rfl rfl rfl nd_fill_3 ?_
  refine lv_istore_n hx hb nd_fill_4 rfl hl (by decide) rfl (fun ls hl => ?_)
  have hl := lv_sub (l' := [(0, .ref a), (1, .int v), (2, .int (nI 0)), (3, .int (nI 7))]) hl [1, 2, 3, 0] rfl
  have loop : ∀ d i, i + d = 7 → ∀ (H : Heap) (locs : List Loc) (ls : Array Slot), va_P D sy_cl [(a, .inl (cI, 7, .inl (sy_fl v g i)))] H → va_S (fun q => q = a) s.heap H locs → lv_has ls 4 [(0, .ref a), (1, .int v), (2, .int (nI i)), (3, .int (nI 7))] →
      W p l e (headSpec (.code ny_fill nb_fill 4 none :: wl) { frames := 0, cells := 0, slots := 0, locals := 0 }).room s m ([Value.ref a, Value.int v] : List Value).toArray below meth c H locs 0 0 (MQ below (va_Qv (fun (_ : Unit) => True) (fun _ t => va_P D sy_cl [(a, .inl (cI, 7, .inl (sy_fl v g 7)))] t.heap) (fun q => q = a)) ([Value.ref a, Value.int v] : List Value).toArray s 0 0 (fun q => q = a)) (F0 m 5 ls []) := by
    intro d
    induction d with
    | zero =>
      intro i hi H locs ls hP hS hl
      have e9 : i = 7 := by omega
      subst e9
      refine lv_iload_n hx hb nd_fill_5 rfl (lv_at hl 2 rfl) ?_
      refine lv_iload_n hx hb nd_fill_6 rfl (lv_at hl 3 rfl) ?_
      refine lv_icmp_ge (tgt := 20) hx hb nd_fill_7 (by decide) (fun _ => ?_) (fun h => absurd (nI_le (Nat.le_refl 7) (by decide)) h)
      exact W.vret hx hb hr (fun t ht hW => ⟨⟨(), rfl, trivial, by show va_P _ _ _ t.heap; rw [ht]; exact hP⟩, hS.F ht⟩) hS.2.2 nd_fill_20 hlocks
    | succ d ih =>
      intro i hi H locs ls hP hS hl
      refine lv_iload_n hx hb nd_fill_5 rfl (lv_at hl 2 rfl) ?_
      refine lv_iload_n hx hb nd_fill_6 rfl (lv_at hl 3 rfl) ?_
      refine lv_icmp_ge (tgt := 20) hx hb nd_fill_7 (by decide) (fun h => absurd h (nI_ge (by omega) (by decide))) (fun _ => ?_)
      refine lv_aload_n hx hb nd_fill_10 rfl (lv_at hl 0 rfl) ?_
      refine lv_iload_n hx hb nd_fill_11 rfl (lv_at hl 2 rfl) ?_
      refine lv_iload_n hx hb nd_fill_12 rfl (lv_at hl 1 rfl) ?_
      refine va_iast (D := D) (cl := sy_cl) (f := sy_fl v g i) hx hb hK hP (hD _) hS 0 0 rfl rfl (vp_in_nI (n := i) (N := 7) (by omega) (by decide)) nd_fill_13 (fun H locs hP _ hS => ?_)
      rw [nI_clamp (by omega), sy_fl_s] at hP
      refine lv_iinc (v := nI (i + 1)) (k := 2) hx hb nd_fill_14 hl rfl (nI_1 i) (by decide) rfl (fun ls hl => ?_)
      have hl := lv_sub (l' := [(0, .ref a), (1, .int v), (2, .int (nI (i + 1))), (3, .int (nI 7))]) hl [1, 2, 0, 3] rfl
      refine lv_goto (tgt := 5) hx hb nd_fill_17 (by decide) ?_
      exact ih (i + 1) (by omega) H locs ls hP hS hl
  exact loop 7 0 rfl s.heap [] ls (by rw [sy_fl_0]; exact hP) hS hl
theorem sy_chg {A : Nat → Prop} {D : va_G} {cl : List vw_C} {ws : va_W} {k a : Nat} {e0 e1 : va_E} {H H1 : Heap} (hP : va_P D cl ws H) (hD : va_D A ws) (hk : ws[k]? = some (a, e0)) (keep : ∀ q : Nat, q < H.size → ¬ q = a → H1[q]? = H[q]?) (hat : va_P D cl [(a, e1)] H1) : va_P D cl (ws.set k (a, e1)) H1 ∧ va_D A (ws.set k (a, e1)) := by
  have hl := (List.getElem?_eq_some_iff.mp hk).1
  refine ⟨fun j q hq => ?_, sy_Dmap (w := ws) ?_ hD⟩
  · by_cases e : j = k
    · subst e
      rw [List.getElem?_set_self hl] at hq
      cases hq
      exact hat 0 _ rfl
    · rw [List.getElem?_set_ne (fun z => e z.symm)] at hq
      refine (hP j q hq).kept (keep q.1 (hP j q hq).lt (fun z => e (hD.1 j k q _ hq hk z)))
  · apply List.ext_getElem?
    intro j
    rw [List.getElem?_map, List.getElem?_map]
    by_cases e : j = k
    · subst e
      rw [List.getElem?_set_self hl, hk]; rfl
    · rw [List.getElem?_set_ne (fun z => e z.symm)]
theorem sy_g0 (w : va_W) (z x y : Nat × va_E) : (z :: (w ++ [x, y]))[w.length + 1]? = some x := by
  rw [List.getElem?_cons_succ, List.getElem?_append_right (Nat.le_refl _), Nat.sub_self]; rfl
theorem sy_g1 (w : va_W) (z x y : Nat × va_E) : (z :: (w ++ [x, y]))[w.length + 2]? = some y := by
  rw [List.getElem?_cons_succ, List.getElem?_append_right (by omega), show w.length + 1 - w.length = 1 by omega]; rfl
theorem sy_s0 (w : va_W) (z x y x' : Nat × va_E) : (z :: (w ++ [x, y])).set (w.length + 1) x' = z :: (w ++ [x', y]) := by
  rw [List.set_cons_succ, List.set_append_right _ _ (Nat.le_refl _), Nat.sub_self]; rfl
theorem sy_s1 (w : va_W) (z x y y' : Nat × va_E) : (z :: (w ++ [x, y])).set (w.length + 2) y' = z :: (w ++ [x, y']) := by
  rw [List.set_cons_succ, List.set_append_right _ _ (by omega), show w.length + 1 - w.length = 1 by omega]; rfl
theorem nl_room : Cond.classLink nr_FB 7 nr_RM ∈ wl := wl_t1 22 rfl rfl
theorem nj_RM : Cond.instantiable nr_RM 4 ∈ wl := wl_t1 23 rfl rfl
def sy_fbW (h0 h1 q qo qf qm q2 q3 : Nat) (r : Nat → Nat) (cI cZ cII : ClassId) : va_W := (h0, .inr (0, [.ref h1, .ref q2, .ref q3, .int 0, .int 0, .int (-1)])) :: (sy_rmW h1 q qo qf qm r cI cZ cII ++ [(q2, .inl (cI, 7, .inl (upd (sy_fl (-1) (fun _ => 0) 7) 0 0))), (q3, .inl (cI, 7, .inl (va_cpy (upd (sy_fl (-1) (fun _ => 0) 7) 0 0) (fun _ => 0) 0 0 7)))])
set_option maxHeartbeats 2000000 in
set_option maxRecDepth 20000 in
theorem cc_FB_init (l : Launch) (D : va_G) (h0 sz : Nat) : Met l ny_FB_init (.code ny_FB_init nb_FB_init 1 none :: wl) { frames := 2, cells := 68, slots := 506, locals := 60 } (va_Pc [.ref h0] (fun S => S.heap.size = sz ∧ va_P D sy_cl [(h0, .inr (0, [.null, .null, .null, .int 0, .int 0, .int 0]))] S.heap ∧ va_K D sy_cl [] S ∧ va_D (fun _ => True) [(h0, .inr (0, [.null, .null, .null, .int 0, .int 0, .int 0]))] ∧ sy_AO S ∧ va_Nw (.methodLinkNest nr_FB 9 ny_RM_init nr_FB) S)) (va_Qv (fun (_ : Nat × (Nat × Nat × Nat × Nat) × Nat × Nat × (Nat → Nat) × ClassId × ClassId × ClassId) => True) (fun u t => va_P D sy_cl (sy_fbW h0 u.1 u.2.1.1 u.2.1.2.1 u.2.1.2.2.1 u.2.1.2.2.2 u.2.2.1 u.2.2.2.1 u.2.2.2.2.1 u.2.2.2.2.2.1 u.2.2.2.2.2.2.1 u.2.2.2.2.2.2.2) t.heap ∧ va_K D sy_cl [(u.2.2.2.2.2.1, .int), (u.2.2.2.2.2.2.1, .boolean), (u.2.2.2.2.2.2.2, .array .int)] t ∧ va_D (va_A [(h0, .inr (0, [.null, .null, .null, .int 0, .int 0, .int 0]))] sz) (sy_fbW h0 u.1 u.2.1.1 u.2.1.2.1 u.2.1.2.2.1 u.2.1.2.2.2 u.2.2.1 u.2.2.2.1 u.2.2.2.2.1 u.2.2.2.2.2.1 u.2.2.2.2.2.2.1 u.2.2.2.2.2.2.2)) (va_A [(h0, .inr (0, [.null, .null, .null, .int 0, .int 0, .int 0]))] sz)) 68 506 (va_A [(h0, .inr (0, [.null, .null, .null, .int 0, .int 0, .int 0]))] sz) := by
  refine Met.ofW (cc := nb_FB_init) (maxL := 1) (ret := none) (by decide) rfl ?_
  intro p e s m args below meth c s₁ B hml hv
  obtain ⟨rfl, hsz, hP, hK, hD0, hAO, hnest⟩ := hv
  have hx := B.exec
  have hb := B.bytes
  have hr := B.returns
  have hts : ∀ w ∈ wl, w.before #[.ref h0] s = true := fun w hw => atoms_spec (ws := .code ny_FB_init nb_FB_init 1 none :: wl) B.pre w (List.mem_cons_of_mem _ hw)
  have hown : s.vm.findClass nr_FB = some m.cls := findClass_of_methodNamed B.named
  have hlocks := B.notSynchronized
  have hin : meth.name = "<init>" := (name_of_methodNamed B.named B.method).1
  subst hsz
  have hD := hD0.self (sz := s.heap.size)
  generalize hAe : va_A [(h0, .inr (0, [.null, .null, .null, .int 0, .int 0, .int 0]))] s.heap.size = A at hD ⊢
  have hA : ∀ q : Nat, s.heap.size ≤ q → A q := fun q h => by rw [← hAe]; exact Or.inr h
  have hS : va_S A s.heap s.heap [] := va_S.rf
  have hl := lv_entry ([.ref h0]) (n := 1) (Nat.le_of_ble_eq_true rfl)
  rw [lg_entry_eq]
  generalize (lg_sl ([.ref h0]) ++ List.replicate (1 - (lg_sl ([.ref h0])).length) Slot.unset).toArray = ls at hl ⊢
  have hl : lv_has ls 1 [(0, .ref h0)] := hl

  refine lv_aload_n hx hb nd_FB_init_0 rfl (lv_at hl 0 rfl) ?_
  refine W.objInit hx hb hown (hts _ nm_FB_1) (hts _ no_i) (hts _ no_c) rfl (by rw [hml]; exact hl.1) rfl nd_FB_init_1 (Nat.le_of_ble_eq_true rfl) (Nat.le_of_ble_eq_true rfl) ?_
  refine W.eq (g2 := F0 m 4 ls []) rfl ?_
  refine lv_aload_n hx hb nd_FB_init_4 rfl (lv_at hl 0 rfl) ?_
  refine va_new (ci := 1) (fs := [.null, .null, .null, .null]) (C := nr_RM) (T := nt_RM) (N := 4) hx hb hts nt_RM_in nt_RM_ty nt_RM_ok hown (hts _ nl_room) (hts _ nj_RM) (hts _ nz_RM) hK hP hD hS hA rfl (fun j hj => by match j, hj with | 0, _ => rfl | 1, _ => rfl | 2, _ => rfl | 3, _ => rfl) (Nat.le_of_ble_eq_true rfl) (Nat.le_of_ble_eq_true rfl) nd_FB_init_5 (fun h1 H hP hD hS => ?_)
  refine W.widen (k := 1) (n := 4) (Nat.le_of_ble_eq_true rfl) (Nat.le_of_ble_eq_true rfl) ?_
  have hP : va_P D sy_cl ([(h0, .inr (0, [.null, .null, .null, .int 0, .int 0, .int 0]))] ++ [(h1, .inr (1, [.null, .null, .null, .null]))]) H := hP
  have hD : va_D A ([(h0, .inr (0, [.null, .null, .null, .int 0, .int 0, .int 0]))] ++ [(h1, .inr (1, [.null, .null, .null, .null]))]) := hD
  refine lv_dup hx hb nd_FB_init_8 rfl ?_
  have hFc := sy_freeL hD hS hA
  refine va_callv (va_runIN (As := []) (rest := [.ref h1, .ref h0]) (host := nr_FB) ⟨hx, hb, hml, hown, hts⟩ (cc_RM_init l D h1 H.size) ⟨va_cnB 0 hts (ct_good (own := nr_FB) (C := nr_RM) (index := 9) nc_RM_init) rfl rfl rfl hnest (hts _ nz_RM) ⟨ni_RM_init.2.1, ni_RM_init.2.2.1, ni_RM_init.2.2.2⟩ ⟨(Nat.le_of_ble_eq_true rfl), (Nat.le_of_ble_eq_true rfl)⟩, rfl, hts _ ns_RM_init⟩ ⟨fun a U g mk q => by obtain ⟨q0, q1, qP, qK, qD, qA⟩ := q; exact ⟨q0, q1, qP, va_K.moved (u := U) (U := U.calling g mk a) (Vm.Alike.refl U.vm) qK, qD, sy_AO_any (A := #[]) (s := U) rfl qA⟩, fun U hU hW => ⟨rfl, by rw [hU], by rw [hU]; exact sy_lastP hP, va_K.moved hW.alike hK, sy_oneD _, sy_AO_warm hW hAO⟩⟩ rfl rfl hl.1 rfl (lv_room (Nat.le_of_ble_eq_true rfl)) nd_FB_init_9 ⟨(Nat.le_of_ble_eq_true rfl), (Nat.le_of_ble_eq_true rfl)⟩) hS (fun q _ h => hFc q h) hFc (fun u t H1 locs ht hvm h5 hB hz1 hk1 hS => ?_)
  obtain ⟨⟨q, qo, qf, qm⟩, r, cI, cZ, cII⟩ := u
  obtain ⟨hP1, hK1, hD1⟩ := hB
  rw [ht] at hP1
  have hK := va_K.moved hvm.symm hK1
  obtain ⟨hP, hD⟩ := sy_join hP hD hk1 hFc hP1 hD1
  generalize H1 = H at hP hS ⊢
  dsimp only at hP hD hK
  generalize hwR : sy_rmW h1 q qo qf qm r cI cZ cII = wR at hP hD
  have hK : va_K D sy_cl [(cI, .int), (cZ, .boolean), (cII, .array .int)] s := hK
  refine W.widen (k := 66) (n := 492) (Nat.le_of_ble_eq_true rfl) (Nat.le_of_ble_eq_true rfl) ?_
  have hP : va_P D sy_cl ((h0, .inr (0, [.null, .null, .null, .int 0, .int 0, .int 0])) :: (wR)) H := hP
  have hD : va_D A ((h0, .inr (0, [.null, .null, .null, .int 0, .int 0, .int 0])) :: (wR)) := hD
  refine va_putF (D := D) (ci := 0) (v := .ref h1) (ty := .object nr_RM) (C := nr_FB) (T := nt_FB) (N := 6) hx hb hts nt_FB_in nt_FB_ty nt_FB_ok nt_FB_nm hown hK hP hD hS 0 rfl rfl 0 (by decide) (hts _ nf_FB_10) (fun _ h9 => h9) rfl hin rfl (by decide +kernel) rfl rfl (Nat.le_of_ble_eq_true rfl) nd_FB_init_12 (fun H locs hP hD hS => ?_)
  have hP : va_P D sy_cl ((h0, .inr (0, [.ref h1, .null, .null, .int 0, .int 0, .int 0])) :: (wR)) H := hP
  have hD : va_D A ((h0, .inr (0, [.ref h1, .null, .null, .int 0, .int 0, .int 0])) :: (wR)) := hD
  refine lv_aload_n hx hb nd_FB_init_15 rfl (lv_at hl 0 rfl) ?_
  refine lv_bipush (v := nI 7) hx hb nd_FB_init_16 (by decide) ?_
  refine va_newa (atype := .int) (ty := .int) (N' := 7) (a0 := (7, .inl (fun _ => 0))) hx hb (hts _ nk_int) rfl hK hP hD hS hA (fun _ => rfl) (nI_pos (by decide)) (nI_clamp (by decide)) (Nat.le_of_ble_eq_true rfl) (Nat.le_of_ble_eq_true rfl) (Nat.le_of_ble_eq_true rfl) nd_FB_init_18 (fun q2 c9 H hK hP hD hS => ?_)
  refine W.widen (k := 67) (n := 499) (Nat.le_of_ble_eq_true rfl) (Nat.le_of_ble_eq_true rfl) ?_
  have e9 : cI = c9 := (sy_same hK (Or.inl rfl) (i := 0) (j := 3) rfl rfl).symm
  subst e9
  have hK := hK.sub (tys' := [(cI, .int), (cZ, .boolean), (cII, .array .int)]) [0, 1, 2] rfl
  have hP : va_P D sy_cl ((h0, .inr (0, [.ref h1, .null, .null, .int 0, .int 0, .int 0])) :: (wR ++ [(q2, .inl (cI, 7, .inl (fun _ => 0)))])) H := hP
  have hD : va_D A ((h0, .inr (0, [.ref h1, .null, .null, .int 0, .int 0, .int 0])) :: (wR ++ [(q2, .inl (cI, 7, .inl (fun _ => 0)))])) := hD
  refine va_putF (D := D) (ci := 0) (v := .ref q2) (ty := .array .int) (C := nr_FB) (T := nt_FB) (N := 6) hx hb hts nt_FB_in nt_FB_ty nt_FB_ok nt_FB_nm hown hK hP hD hS 0 rfl rfl 1 (by decide) (hts _ nf_FB_16) (fun _ h9 => h9) rfl hin rfl (by decide +kernel) rfl rfl (Nat.le_of_ble_eq_true rfl) nd_FB_init_20 (fun H locs hP hD hS => ?_)
  have hP : va_P D sy_cl ((h0, .inr (0, [.ref h1, .ref q2, .null, .int 0, .int 0, .int 0])) :: (wR ++ [(q2, .inl (cI, 7, .inl (fun _ => 0)))])) H := hP
  have hD : va_D A ((h0, .inr (0, [.ref h1, .ref q2, .null, .int 0, .int 0, .int 0])) :: (wR ++ [(q2, .inl (cI, 7, .inl (fun _ => 0)))])) := hD
  refine lv_aload_n hx hb nd_FB_init_23 rfl (lv_at hl 0 rfl) ?_
  refine lv_bipush (v := nI 7) hx hb nd_FB_init_24 (by decide) ?_
  refine va_newa (atype := .int) (ty := .int) (N' := 7) (a0 := (7, .inl (fun _ => 0))) hx hb (hts _ nk_int) rfl hK hP hD hS hA (fun _ => rfl) (nI_pos (by decide)) (nI_clamp (by decide)) (Nat.le_of_ble_eq_true rfl) (Nat.le_of_ble_eq_true rfl) (Nat.le_of_ble_eq_true rfl) nd_FB_init_26 (fun q3 c9 H hK hP hD hS => ?_)
  refine W.widen (k := 68) (n := 506) (Nat.le_of_ble_eq_true rfl) (Nat.le_of_ble_eq_true rfl) ?_
  have e9 : cI = c9 := (sy_same hK (Or.inl rfl) (i := 0) (j := 3) rfl rfl).symm
  subst e9
  have hK := hK.sub (tys' := [(cI, .int), (cZ, .boolean), (cII, .array .int)]) [0, 1, 2] rfl
  have hP : va_P D sy_cl ((h0, .inr (0, [.ref h1, .ref q2, .null, .int 0, .int 0, .int 0])) :: ((wR ++ [(q2, .inl (cI, 7, .inl (fun _ => 0)))]) ++ [(q3, .inl (cI, 7, .inl (fun _ => 0)))])) H := hP
  have hD : va_D A ((h0, .inr (0, [.ref h1, .ref q2, .null, .int 0, .int 0, .int 0])) :: ((wR ++ [(q2, .inl (cI, 7, .inl (fun _ => 0)))]) ++ [(q3, .inl (cI, 7, .inl (fun _ => 0)))])) := hD
  rw [List.append_assoc] at hP hD
  have hP : va_P D sy_cl ((h0, .inr (0, [.ref h1, .ref q2, .null, .int 0, .int 0, .int 0])) :: (wR ++ [(q2, .inl (cI, 7, .inl (fun _ => 0))), (q3, .inl (cI, 7, .inl (fun _ => 0)))])) H := hP
  have hD : va_D A ((h0, .inr (0, [.ref h1, .ref q2, .null, .int 0, .int 0, .int 0])) :: (wR ++ [(q2, .inl (cI, 7, .inl (fun _ => 0))), (q3, .inl (cI, 7, .inl (fun _ => 0)))])) := hD
  refine va_putF (D := D) (ci := 0) (v := .ref q3) (ty := .array .int) (C := nr_FB) (T := nt_FB) (N := 6) hx hb hts nt_FB_in nt_FB_ty nt_FB_ok nt_FB_nm hown hK hP hD hS 0 rfl rfl 2 (by decide) (hts _ nf_FB_20) (fun _ h9 => h9) rfl hin rfl (by decide +kernel) rfl rfl (Nat.le_of_ble_eq_true rfl) nd_FB_init_28 (fun H locs hP hD hS => ?_)
  have hP : va_P D sy_cl ((h0, .inr (0, [.ref h1, .ref q2, .ref q3, .int 0, .int 0, .int 0])) :: (wR ++ [(q2, .inl (cI, 7, .inl (fun _ => 0))), (q3, .inl (cI, 7, .inl (fun _ => 0)))])) H := hP
  have hD : va_D A ((h0, .inr (0, [.ref h1, .ref q2, .ref q3, .int 0, .int 0, .int 0])) :: (wR ++ [(q2, .inl (cI, 7, .inl (fun _ => 0))), (q3, .inl (cI, 7, .inl (fun _ => 0)))])) := hD
  refine lv_aload_n hx hb nd_FB_init_31 rfl (lv_at hl 0 rfl) ?_
  refine lv_iconst (v := -1) hx hb nd_FB_init_32 (by decide) ?_
  refine va_put (D := D) (ci := 0) (v := .int (-1)) (ty := .int) (C := nr_FB) (T := nt_FB) (N := 6) hx hb hts nt_FB_in nt_FB_ty nt_FB_ok nt_FB_nm hown hK hP hD hS 0 rfl rfl 5 (by decide) (hts _ nf_FB_23) (fun _ h9 => h9) rfl (by decide +kernel) rfl rfl (Nat.le_of_ble_eq_true rfl) nd_FB_init_33 (fun H locs hP hD hS => ?_)
  have hP : va_P D sy_cl ((h0, .inr (0, [.ref h1, .ref q2, .ref q3, .int 0, .int 0, .int (-1)])) :: (wR ++ [(q2, .inl (cI, 7, .inl (fun _ => 0))), (q3, .inl (cI, 7, .inl (fun _ => 0)))])) H := hP
  have hD : va_D A ((h0, .inr (0, [.ref h1, .ref q2, .ref q3, .int 0, .int 0, .int (-1)])) :: (wR ++ [(q2, .inl (cI, 7, .inl (fun _ => 0))), (q3, .inl (cI, 7, .inl (fun _ => 0)))])) := hD
  refine lv_aload_n hx hb nd_FB_init_36 rfl (lv_at hl 0 rfl) ?_
  refine va_get (D := D) (ci := 0) (C := nr_FB) (T := nt_FB) (N := 6) hx hb hts nt_FB_in hown hK hP 0 rfl rfl 1 (by decide) (hts _ nf_FB_16) (fun _ h9 => h9) rfl nd_FB_init_37 ?_
  refine lv_iconst (v := -1) hx hb nd_FB_init_40 (by decide) ?_
  have hat2 : va_P D sy_cl [(q2, .inl (cI, 7, .inl (fun _ => 0)))] H := fun k q hq => by cases k with | zero => (cases hq; exact hP (wR.length + 1) _ (sy_g0 _ _ _ _)) | succ k => cases hq
  have hAq : ∀ q : Nat, q = q2 → A q := fun q hq => by rw [hq]; exact hD.2 (wR.length + 1) _ (sy_g0 _ _ _ _)
  refine va_callv (va_runS (As := [.ref q2, .int (-1)]) (rest := []) ⟨hx, hb, hml, hown, hts⟩ (cc_fill l D q2 (-1) cI (fun _ => 0)) (va_cwS 2 hts (ct_goodL (fun w hw => by simp only [List.mem_cons, List.not_mem_nil, or_false] at hw; rcases hw with rfl | rfl | rfl; exact nm_FB_27; exact ns_fill; exact nz_fill) (ct_good (own := nr_FB) (C := nr_FB) (index := 27) nc_fill)) rfl rfl rfl ⟨by decide, by decide, by decide +kernel⟩ ⟨(Nat.le_of_ble_eq_true rfl), (Nat.le_of_ble_eq_true rfl)⟩) ⟨fun a U g mk q => by obtain ⟨q0, qP, qK⟩ := q; exact ⟨q0, qP, va_K.moved (u := U) (U := U.calling g mk a) (Vm.Alike.refl U.vm) qK⟩, fun U hU hW => ⟨rfl, by rw [hU]; exact hat2, va_K.moved hW.alike (hK.sub (tys' := [(cI, .int)]) [0] rfl)⟩⟩ rfl rfl hl.1 rfl (lv_room (Nat.le_of_ble_eq_true rfl)) nd_FB_init_41 ⟨(Nat.le_of_ble_eq_true rfl), (Nat.le_of_ble_eq_true rfl)⟩) hS (fun q _ h => hAq q h) hAq (fun u t H1 locs ht hvm _ hB hz1 hk1 hS => ?_)
  have hB : va_P D sy_cl [(q2, .inl (cI, 7, .inl (sy_fl (-1) (fun _ => 0) 7)))] H1 := by rw [← ht]; exact hB
  obtain ⟨hP, hD⟩ := sy_chg (k := wR.length + 1) hP hD (sy_g0 _ _ _ _) hk1 hB
  generalize H1 = H at hP hS ⊢
  rw [sy_s0] at hP hD
  have hP : va_P D sy_cl ((h0, .inr (0, [.ref h1, .ref q2, .ref q3, .int 0, .int 0, .int (-1)])) :: (wR ++ [(q2, .inl (cI, 7, .inl (sy_fl (-1) (fun _ => 0) 7))), (q3, .inl (cI, 7, .inl (fun _ => 0)))])) H := hP
  have hD : va_D A ((h0, .inr (0, [.ref h1, .ref q2, .ref q3, .int 0, .int 0, .int (-1)])) :: (wR ++ [(q2, .inl (cI, 7, .inl (sy_fl (-1) (fun _ => 0) 7))), (q3, .inl (cI, 7, .inl (fun _ => 0)))])) := hD
  refine lv_aload_n hx hb nd_FB_init_44 rfl (lv_at hl 0 rfl) ?_
  refine va_get (D := D) (ci := 0) (C := nr_FB) (T := nt_FB) (N := 6) hx hb hts nt_FB_in hown hK hP 0 rfl rfl 1 (by decide) (hts _ nf_FB_16) (fun _ h9 => h9) rfl nd_FB_init_45 ?_
  refine lv_iconst (v := nI 0) hx hb nd_FB_init_48 (by decide) ?_
  refine lv_iconst (v := nI 0) hx hb nd_FB_init_49 (by decide) ?_
  refine va_iast (D := D) (cl := sy_cl) (f := sy_fl (-1) (fun _ => 0) 7) hx hb hK hP hD hS (wR.length + 1) 0 (sy_g0 _ _ _ _) rfl (vp_in_nI (n := 0) (N := 7) (by decide) (by decide)) nd_FB_init_50 (fun H locs hP hD hS => ?_)
  rw [nI_clamp (by decide), sy_s0] at hP hD
  have hP : va_P D sy_cl ((h0, .inr (0, [.ref h1, .ref q2, .ref q3, .int 0, .int 0, .int (-1)])) :: (wR ++ [(q2, .inl (cI, 7, .inl (upd (sy_fl (-1) (fun _ => 0) 7) 0 0))), (q3, .inl (cI, 7, .inl (fun _ => 0)))])) H := hP
  have hD : va_D A ((h0, .inr (0, [.ref h1, .ref q2, .ref q3, .int 0, .int 0, .int (-1)])) :: (wR ++ [(q2, .inl (cI, 7, .inl (upd (sy_fl (-1) (fun _ => 0) 7) 0 0))), (q3, .inl (cI, 7, .inl (fun _ => 0)))])) := hD
  refine lv_aload_n hx hb nd_FB_init_51 rfl (lv_at hl 0 rfl) ?_
  refine va_get (D := D) (ci := 0) (C := nr_FB) (T := nt_FB) (N := 6) hx hb hts nt_FB_in hown hK hP 0 rfl rfl 1 (by decide) (hts _ nf_FB_16) (fun _ h9 => h9) rfl nd_FB_init_52 ?_
  refine lv_iconst (v := nI 0) hx hb nd_FB_init_55 (by decide) ?_
  refine lv_aload_n hx hb nd_FB_init_56 rfl (lv_at hl 0 rfl) ?_
  refine va_get (D := D) (ci := 0) (C := nr_FB) (T := nt_FB) (N := 6) hx hb hts nt_FB_in hown hK hP 0 rfl rfl 2 (by decide) (hts _ nf_FB_20) (fun _ h9 => h9) rfl nd_FB_init_57 ?_
  refine lv_iconst (v := nI 0) hx hb nd_FB_init_60 (by decide) ?_
  refine lv_aload_n hx hb nd_FB_init_61 rfl (lv_at hl 0 rfl) ?_
  refine va_get (D := D) (ci := 0) (C := nr_FB) (T := nt_FB) (N := 6) hx hb hts nt_FB_in hown hK hP 0 rfl rfl 1 (by decide) (hts _ nf_FB_16) (fun _ h9 => h9) rfl nd_FB_init_62 ?_
  refine va_alen (D := D) (cl := sy_cl) hx hb hK hP (wR.length + 1) 0 (sy_g0 _ _ _ _) rfl rfl nd_FB_init_65 ?_
  refine va_copyi (D := D) (cl := sy_cl) (tys := [(cI, .int), (cZ, .boolean), (cII, .array .int)]) (ty := .int) (sp := nI 0) (dp := nI 0) (n := nI 7) hx hb (hml.trans hl.1.symm) hown (hts _ nm_FB_33) (hts _ nx_nat) (hts _ nx_sta) (hts _ nx_ini) hK hP hD hS (wR.length + 1) (wR.length + 2) 0 0 (sy_g0 _ _ _ _) (sy_g1 _ _ _ _) rfl rfl rfl (nI_pos (by decide)) (nI_pos (by decide)) (nI_pos (by decide)) (by rw [nI_clamp (by decide), nI_clamp (by decide)]; decide) (by rw [nI_clamp (by decide), nI_clamp (by decide)]; decide) (fun _ _ => rfl) (Nat.le_of_ble_eq_true rfl) (Nat.le_of_ble_eq_true rfl) nd_FB_init_66 (fun H locs hP hD hS => ?_)
  rw [nI_clamp (by decide), nI_clamp (by decide), sy_s1] at hP hD
  subst hwR
  exact W.vret hx hb hr (fun t ht hW => ⟨⟨(h1, (q, qo, qf, qm), q2, q3, r, cI, cZ, cII), rfl, trivial, by rw [ht]; exact hP, va_K.moved hW.alike hK, hD⟩, hS.F ht⟩) hS.2.2 nd_FB_init_69 hlocks
