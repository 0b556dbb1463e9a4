/-! the law's fourteen wrappers: a call of the object, its exceptions caught (printed by wr.py) -/
def lw_o (x : Nat) (r : Int32) (o : Int64) : Int64 := match x with
  | 0 => r.toInt64
  | _ + 1 => o
theorem nl_13 : Cond.classLink nr_LW 13 "java/lang/IllegalStateException" ∈ wl := wl_t1 93 rfl rfl
theorem nl_15 : Cond.classLink nr_LW 15 "java/lang/IllegalArgumentException" ∈ wl := wl_t1 94 rfl rfl
theorem nl_17 : Cond.classLink nr_LW 17 "java/lang/UnsupportedOperationException" ∈ wl := wl_t1 95 rfl rfl
theorem nl_23 : Cond.classLink nr_LW 23 "java/util/NoSuchElementException" ∈ wl := wl_t2 35 rfl rfl
abbrev ct_IW (l : Launch) (y : MethodName) (b : ByteArray) (n : Nat) (hh : List (Nat × Nat × Nat × Nat)) (rm : Room) (Y : sy_Y) (as : List Value) (M U : me_M) (o : Int64) (r : Int32) (M' U' : me_M) (o' : Int64) (mc ms : Nat) : Prop := vx_Met l y (.codeWith y b n (some .int) hh :: wl) rm (ct_P Y as M U o) (ct_Xi Y 0 r M' U' o') (ct_XC Y 0 M' U' o') mc ms Y.2.2.2
theorem ct_bodyW {l : Launch} {y : MethodName} {b : ByteArray} {n : Nat} {ret : Option FieldType} {hh : List (Nat × Nat × Nat × Nat)} {rm : Room} {Y : sy_Y} {as : List Value} {M U : me_M} {o : Int64} {Qc : Array Value → State → Outcome → State → Prop} {XC : String → State → State → Prop} {mc ms : Nat} {own : String} (hy : plainName y.cls = true) (ho : y.cls = own) (hlen : (lg_sl as).length ≤ n) {L0 : List (Nat × Value)} (hL0 : lv_args 0 as = L0)
    (body : ∀ (p : Program) (e : Env) (s : State) (m : MethodId) (args : Array Value) (below : List Frame) (meth : Method) (c : Code), vv_fix p s m args meth c b n ret own Y → c.exceptionTable.toList = tableOf hh → vv p l e rm s m args below meth c 0 0 (vx_MQ below Qc XC args s mc ms Y.2.2.2) n Y M U o 0 L0 []) :
    vx_Met l y (.codeWith y b n ret hh :: wl) rm (ct_P Y as M U o) Qc XC mc ms Y.2.2.2 := by
  refine vx_ofWH (cc := b) (maxL := n) (ret := ret) (hh := hh) hy rfl ?_
  intro p e s m args below meth c s₁ B hml hv
  obtain ⟨rfl, hok, hP⟩ := hv
  have hown : s.vm.findClass y.cls = some m.cls := findClass_of_methodNamed B.named
  have hall := atoms_spec (ws := .codeWith y b n ret hh :: wl) B.pre
  have fx : vv_fix p s m as.toArray meth c b n ret own Y := ⟨B.exec, B.bytes, hml, by rw [← ho]; exact hown, fun w hw => hall w (List.mem_cons_of_mem _ hw), hok, B.returns, B.notSynchronized⟩
  have hl := lv_entry as (n := n) hlen
  rw [hL0] at hl
  rw [lg_entry_eq]
  exact body p e s m as.toArray below meth c fx (vx_table (x := y) B (hall _ List.mem_cons_self)) s.heap [] _ hP va_S.rf hl
section
variable {p : Program} {l : Launch} {e : Env} {R : Room} {s : State} {m : MethodId} {args : Array Value} {below : List Frame} {meth : Method} {c : Code} {cells slots : Nat} {Q : State → Prop}
variable {cc : ByteArray} {nL : Nat} {ret : Option FieldType} {own : String} {Y : sy_Y} {M U M' U' : me_M} {o o' : Int64} {pc : Nat} {L L' : List (Nat × Value)} {st : List Value}
theorem vv_i2l (fx : vv_fix p s m args meth c cc nL ret own Y) {x : Int32} (hd : decode cc pc = .ok (.i2l, 1)) (kk : vv p l e R s m args below meth c cells slots Q nL Y M U o (pc + 1) L (.long x.toInt64 :: st)) : vv p l e R s m args below meth c cells slots Q nL Y M U o pc L (.int x :: st) := fun H locs ls hP hS hl => lv_i2l fx.1 fx.2.1 hd rfl (kk H locs ls hP hS hl)
/-- the machine as a throw comes up in this frame, from a call at pc -/
def vt (p : Program) (l : Launch) (e : Env) (R : Room) (s : State) (m : MethodId) (args : Array Value) (below : List Frame) (meth : Method) (c : Code) (cells slots : Nat) (Q : State → Prop) (nL : Nat) (Y : sy_Y) (M U : me_M) (o : Int64) (pc : Nat) (L : List (Nat × Value)) (st : List Value) (E : String) : Prop :=
  ∀ (H : Heap) (locs : List Loc) (ls : Array Slot) (q9 : Addr) (ce : Cell), va_P Y.1 sy_cl (sy_w Y M U o) H → va_S Y.2.2.2 s.heap H locs → lv_has ls nL L → H[q9]? = some ce → ce.vm = .none → s.vm.findClass E = some ce.cls → vx_W p l e R s m args below meth c H locs cells slots Q (F0 m pc ls st) q9
theorem vt_catch (fx : vv_fix p s m args meth c cc nL ret own Y) {hh : List (Nat × Nat × Nat × Nat)} (htab : c.exceptionTable.toList = tableOf hh) {E : String} (pre : List (Nat × Nat × Nat × Nat)) (q : Nat × Nat × Nat × Nat) (suf : List (Nat × Nat × Nat × Nat)) (hsp : hh = pre ++ q :: suf) (hpass : ∀ z ∈ pre, z.2.2.2 ≠ 0 ∧ ∃ nm, Cond.classLink own z.2.2.2 nm ∈ wl ∧ (E, nm) ∈ sy_nc) (hcov : covers ⟨q.1, q.2.1, q.2.2.1, q.2.2.2⟩ pc = true) (h0 : q.2.2.2 ≠ 0) (hlink : Cond.classLink own q.2.2.2 E ∈ wl) (hcast : Cond.castable E E ∈ sy_nw) {tgt : Nat} (htgt : q.2.2.1 = tgt)
    (kk : ∀ q9, vv p l e R s m args below meth c cells slots Q nL Y M U o tgt L [.ref q9]) : vt p l e R s m args below meth c cells slots Q nL Y M U o pc L st E := fun H locs ls q9 ce hP hS hl hce hcv hcl => by
  obtain ⟨hx, hb, hml, hown, hts, hok, -, -⟩ := id fx
  subst htgt
  refine vx_catch (name := E) hown (tableOf pre) ⟨q.1, q.2.1, q.2.2.1, q.2.2.2⟩ (tableOf suf) (by rw [htab, hsp]; unfold tableOf; rw [List.map_append, List.map_cons]) (fun z hz => ?_) hcov h0 (hts _ hlink) (sy_nwB hok.2.2.2 _ hcast) hce hcv hcl (kk q9 H locs ls hP hS hl)
  unfold tableOf at hz
  obtain ⟨y, hy, rfl⟩ := List.mem_map.mp hz
  obtain ⟨g1, nm, g2, g3⟩ := hpass y hy
  exact Or.inr ⟨g1, nm, hts _ g2, hok.2.2.2.2.2.2.2 _ g3⟩
theorem vv_callVxc (fx : vv_fix p s m args meth c cc nL ret own Y) {y : MethodName} {b2 : ByteArray} {n2 : Nat} {ret2 : Option FieldType} {rm2 : Room} {a x2 mc2 ms2 : Nat} {As : List Value} {r : Int32} {C : String} {T : u_T} {N ci index : Nat} {fs : List Value} (hct : ct_IX l y b2 n2 ret2 rm2 Y (.ref a :: As) M U o x2 r M' U' o' mc2 ms2)
    (h1 : Cond.methodLink own index y ∈ wl) (h2 : Cond.instanceMethod y ∈ wl) (h3 : Cond.selects C y y ∈ wl) (h4 : Cond.initialized C ∈ wl) (h5 : Cond.code y b2 n2 ret2 ∈ wl) (hi : y.cls = C ∧ y.cls ≠ "java/lang/invoke/MethodHandle" ∧ y.cls ≠ "java/lang/invoke/VarHandle" ∧ (parseMethodDescriptor y.desc).map (fun d => d.parameters.length) = some As.length)
    (q0 : Nat) (he : (sy_w Y M U o)[q0]? = some (a, .inr (ci, fs))) (hc : sy_cl[ci]? = some (C, T, N)) (hR : ct_CX R rm2 n2 mc2 ms2) (hcs : cells + mc2 ≤ R.cells ∧ slots + ms2 ≤ R.slots) (hst : (st.map fun v => v.category).sum ≤ 8) (hd : decode cc pc = .ok (.invokevirtual index, 3)) {S9 : List Value} (hS9 : S9 = As.reverse ++ .ref a :: st)
    (kx : x2 ≠ 0 → vt p l e R s m args below meth c (cells + mc2) (slots + ms2) Q nL Y M' U' o' pc L st (sy_nm x2))
    (kk : x2 = 0 → vv p l e R s m args below meth c (cells + mc2) (slots + ms2) Q nL Y M' U' o' (pc + 3) L (.int r :: st)) : vv p l e R s m args below meth c cells slots Q nL Y M U o pc L S9 := fun H locs ls hP hS hl => by
  subst hS9
  obtain ⟨hx0, hb, hml, hown, hts, hok, -, hlk⟩ := id fx
  have hG : GoodIn wl (wsV own index C y (.code y b2 n2 ret2 :: wl)) := ct_goodL (fun w hw => by
    simp only [List.mem_cons, List.not_mem_nil, or_false] at hw
    rcases hw with rfl | rfl | rfl | rfl
    · exact h1
    · exact h2
    · exact h3
    · exact h4) (ct_good (own := own) (C := C) (index := index) h5)
  refine vx_calli (vx_runV (As := As) (rest := st) ⟨hx0, hb, hml, hown, hts⟩ hct (cwV As.length hts hG rfl hR.1 hR.2.1 hi ⟨hR.2.2.1, hR.2.2.2⟩) ⟨ct_blind Y _ M U o, va_recv hok.1 hP hc he, fun S hS1 hW => ⟨rfl, by rw [hS1]; exact sy_ok_go hW hS hok, by rw [hS1]; exact hP⟩⟩ rfl rfl hl.1 rfl (lv_room hst) hd ⟨hcs.1, hcs.2⟩) hS (fun q _ h => h) (fun q h => h) (fun q _ h => h) (fun E ce q9 u t H1 locs1 ht hvm _ hB _ _ hS1 hce hcv hcl => ?_) (fun r2 u t H1 locs1 ht hvm hr hB _ _ hS1 => ?_)
  · obtain ⟨g1, g2, g3⟩ := hB
    subst g2
    exact kx g1 H1 locs1 ls q9 ce (by rw [← ht]; exact g3) hS1 hl hce hcv hcl
  · obtain ⟨hr1, hr2⟩ := hr
    subst hr2
    exact kk hr1 H1 locs1 ls (by rw [← ht]; exact hB) hS1 hl
end
theorem fx_put (M : me_M) (k v : Int32) : (fb_put M k v).1 = 0 ∨ (fb_put M k v).1 = 1 ∨ (fb_put M k v).1 = 2 ∨ (fb_put M k v).1 = 3 := by
  unfold fb_put fb_put2
  repeat' split
  all_goals first | exact Or.inl rfl | exact Or.inr (Or.inl rfl) | exact Or.inr (Or.inr (Or.inl rfl)) | exact Or.inr (Or.inr (Or.inr (rfl)))
def nh_LW_put : List (Nat × Nat × Nat × Nat) := [(0, 10, 13, 13), (0, 10, 17, 15), (0, 10, 21, 17)]
theorem nc_LW_put : Cond.codeWith ny_LW_put nb_LW_put 5 (some .int) nh_LW_put ∈ wl := wl_t1 92 rfl rfl
set_option maxRecDepth 4000 in
theorem cc_LW_put (l : Launch) (Y : sy_Y) (M U : me_M) (o : Int64) (k v : Int32) {N : Nat} (hst : l.stackTraces = false) (hI : rf_I M U N) : ct_IW l ny_LW_put nb_LW_put 5 nh_LW_put { frames := 8, cells := 1, slots := 6, locals := 160 } Y [.ref (Y.2.1 0), .int k, .int v, .ref (Y.2.1 13)] M U o (rf_cP (fb_put M k v).1) (fb_put M k v).2.2 U (lw_o (fb_put M k v).1 (fb_put M k v).2.1 o) 1 6 := by
  refine ct_bodyW (own := nr_LW) (L0 := [(0, .ref (Y.2.1 0)), (1, .int k), (2, .int v), (3, .ref (Y.2.1 13))]) (by decide) rfl (Nat.le_of_ble_eq_true rfl) rfl ?_
  intro p e s m args below meth c fx htab
  refine vv_aload_n fx nd_LW_put_0 rfl 3 rfl ?_
  refine vv_iconst (v := 0) fx nd_LW_put_1 (by decide) ?_
  refine vv_aload_n fx nd_LW_put_2 rfl 0 rfl ?_
  refine vv_iload_n fx nd_LW_put_3 rfl 1 rfl ?_
  refine vv_iload_n fx nd_LW_put_4 rfl 2 rfl ?_
  refine vv_callVxc (C := nr_FB) (T := nt_FB) (N := 6) (ci := 0) fx (cc_FB_put l Y M U o k v hst hI) nm_LW_7 ns_FB_put nv_FB_put nz_FB nc_FB_put ni_FB_put 0 rfl rfl ⟨rfl, rfl, by decide, by decide⟩ ⟨(Nat.le_of_ble_eq_true rfl), (Nat.le_of_ble_eq_true rfl)⟩ (Nat.le_of_ble_eq_true rfl) nd_LW_put_5 rfl (fun hx => ?_) (fun hx => ?_)
  · rcases fx_put M k v with hq8 | hq8 | hq8 | hq8
    · exact absurd hq8 hx
    · rw [hq8]
      refine vt_catch (tgt := 13) fx htab (E := "java/lang/IllegalStateException") [] (0, 10, 13, 13) [(0, 10, 17, 15), (0, 10, 21, 17)] rfl (fun _ hz => absurd hz List.not_mem_nil) rfl (by decide) nl_13 (by decide +kernel) rfl (fun q9 => ?_)
      refine vv_astore (L' := [(0, .ref (Y.2.1 0)), (1, .int k), (2, .int v), (3, .ref (Y.2.1 13)), (4, .ref q9)]) fx nd_LW_put_13 (by decide) [1, 2, 3, 4, 0] rfl ?_
      refine vv_iconst (v := nI 1) fx nd_LW_put_15 (by decide) ?_
      exact vv_ixret fx rfl nd_LW_put_16 (rfl) (rfl) (Nat.le_of_ble_eq_true rfl) (Nat.le_of_ble_eq_true rfl)
    · rw [hq8]
      refine vt_catch (tgt := 17) fx htab (E := "java/lang/IllegalArgumentException") [(0, 10, 13, 13)] (0, 10, 17, 15) [(0, 10, 21, 17)] rfl (List.forall_mem_cons.mpr ⟨⟨by decide, "java/lang/IllegalStateException", nl_13, by decide +kernel⟩, fun _ hz => absurd hz List.not_mem_nil⟩) rfl (by decide) nl_15 (by decide +kernel) rfl (fun q9 => ?_)
      refine vv_astore (L' := [(0, .ref (Y.2.1 0)), (1, .int k), (2, .int v), (3, .ref (Y.2.1 13)), (4, .ref q9)]) fx nd_LW_put_17 (by decide) [1, 2, 3, 4, 0] rfl ?_
      refine vv_iconst (v := nI 2) fx nd_LW_put_19 (by decide) ?_
      exact vv_ixret fx rfl nd_LW_put_20 (rfl) (rfl) (Nat.le_of_ble_eq_true rfl) (Nat.le_of_ble_eq_true rfl)
    · rw [hq8]
      refine vt_catch (tgt := 21) fx htab (E := "java/lang/UnsupportedOperationException") [(0, 10, 13, 13), (0, 10, 17, 15)] (0, 10, 21, 17) [] rfl (List.forall_mem_cons.mpr ⟨⟨by decide, "java/lang/IllegalStateException", nl_13, by decide +kernel⟩, List.forall_mem_cons.mpr ⟨⟨by decide, "java/lang/IllegalArgumentException", nl_15, by decide +kernel⟩, fun _ hz => absurd hz List.not_mem_nil⟩⟩) rfl (by decide) nl_17 (by decide +kernel) rfl (fun q9 => ?_)
      refine vv_astore (L' := [(0, .ref (Y.2.1 0)), (1, .int k), (2, .int v), (3, .ref (Y.2.1 13)), (4, .ref q9)]) fx nd_LW_put_21 (by decide) [1, 2, 3, 4, 0] rfl ?_
      refine vv_iconst (v := nI 3) fx nd_LW_put_23 (by decide) ?_
      exact vv_ixret fx rfl nd_LW_put_24 (rfl) (rfl) (Nat.le_of_ble_eq_true rfl) (Nat.le_of_ble_eq_true rfl)
  · rw [hx]
    refine vv_i2l fx nd_LW_put_8 ?_
    refine vv_last fx nd_LW_put_9 ?_
    refine vv_goto (tgt := 25) fx nd_LW_put_10 (by decide) ?_
    refine vv_iconst (v := nI 0) fx nd_LW_put_25 (by decide) ?_
    exact vv_ixret fx rfl nd_LW_put_26 (rfl) (rfl) (Nat.le_of_ble_eq_true rfl) (Nat.le_of_ble_eq_true rfl)
theorem fx_remove (M : me_M) (k : Int32) : (fb_remove M k).1 = 0 ∨ (fb_remove M k).1 = 1 ∨ (fb_remove M k).1 = 4 ∨ (fb_remove M k).1 = 3 := by
  unfold fb_remove fb_remove2
  repeat' split
  all_goals first | exact Or.inl rfl | exact Or.inr (Or.inl rfl) | exact Or.inr (Or.inr (Or.inl rfl)) | exact Or.inr (Or.inr (Or.inr (rfl)))
def nh_LW_remove : List (Nat × Nat × Nat × Nat) := [(0, 9, 12, 13), (0, 9, 15, 23), (0, 9, 18, 17)]
theorem nc_LW_remove : Cond.codeWith ny_LW_remove nb_LW_remove 4 (some .int) nh_LW_remove ∈ wl := wl_t2 34 rfl rfl
set_option maxRecDepth 4000 in
theorem cc_LW_remove (l : Launch) (Y : sy_Y) (M U : me_M) (o : Int64) (k : Int32) {N : Nat} (hst : l.stackTraces = false) (hI : rf_I M U N) : ct_IW l ny_LW_remove nb_LW_remove 4 nh_LW_remove { frames := 8, cells := 1, slots := 6, locals := 160 } Y [.ref (Y.2.1 0), .int k, .ref (Y.2.1 13)] M U o (rf_cR (fb_remove M k).1) (fb_remove M k).2.2 U (lw_o (fb_remove M k).1 (fb_remove M k).2.1 o) 1 6 := by
  refine ct_bodyW (own := nr_LW) (L0 := [(0, .ref (Y.2.1 0)), (1, .int k), (2, .ref (Y.2.1 13))]) (by decide) rfl (Nat.le_of_ble_eq_true rfl) rfl ?_
  intro p e s m args below meth c fx htab
  refine vv_aload_n fx nd_LW_remove_0 rfl 2 rfl ?_
  refine vv_iconst (v := 0) fx nd_LW_remove_1 (by decide) ?_
  refine vv_aload_n fx nd_LW_remove_2 rfl 0 rfl ?_
  refine vv_iload_n fx nd_LW_remove_3 rfl 1 rfl ?_
  refine vv_callVxc (C := nr_FB) (T := nt_FB) (N := 6) (ci := 0) fx (cc_FB_remove l Y M U o k hst hI) nm_LW_19 ns_FB_remove nv_FB_remove nz_FB nc_FB_remove ni_FB_remove 0 rfl rfl ⟨rfl, rfl, by decide, by decide⟩ ⟨(Nat.le_of_ble_eq_true rfl), (Nat.le_of_ble_eq_true rfl)⟩ (Nat.le_of_ble_eq_true rfl) nd_LW_remove_4 rfl (fun hx => ?_) (fun hx => ?_)
  · rcases fx_remove M k with hq8 | hq8 | hq8 | hq8
    · exact absurd hq8 hx
    · rw [hq8]
      refine vt_catch (tgt := 12) fx htab (E := "java/lang/IllegalStateException") [] (0, 9, 12, 13) [(0, 9, 15, 23), (0, 9, 18, 17)] rfl (fun _ hz => absurd hz List.not_mem_nil) rfl (by decide) nl_13 (by decide +kernel) rfl (fun q9 => ?_)
      refine vv_astore_n (L' := [(0, .ref (Y.2.1 0)), (1, .int k), (2, .ref (Y.2.1 13)), (3, .ref q9)]) fx nd_LW_remove_12 rfl (by decide) [1, 2, 3, 0] rfl ?_
      refine vv_iconst (v := nI 1) fx nd_LW_remove_13 (by decide) ?_
      exact vv_ixret fx rfl nd_LW_remove_14 (rfl) (rfl) (Nat.le_of_ble_eq_true rfl) (Nat.le_of_ble_eq_true rfl)
    · rw [hq8]
      refine vt_catch (tgt := 15) fx htab (E := "java/util/NoSuchElementException") [(0, 9, 12, 13)] (0, 9, 15, 23) [(0, 9, 18, 17)] rfl (List.forall_mem_cons.mpr ⟨⟨by decide, "java/lang/IllegalStateException", nl_13, by decide +kernel⟩, fun _ hz => absurd hz List.not_mem_nil⟩) rfl (by decide) nl_23 (by decide +kernel) rfl (fun q9 => ?_)
      refine vv_astore_n (L' := [(0, .ref (Y.2.1 0)), (1, .int k), (2, .ref (Y.2.1 13)), (3, .ref q9)]) fx nd_LW_remove_15 rfl (by decide) [1, 2, 3, 0] rfl ?_
      refine vv_iconst (v := nI 2) fx nd_LW_remove_16 (by decide) ?_
      exact vv_ixret fx rfl nd_LW_remove_17 (rfl) (rfl) (Nat.le_of_ble_eq_true rfl) (Nat.le_of_ble_eq_true rfl)
    · rw [hq8]
      refine vt_catch (tgt := 18) fx htab (E := "java/lang/UnsupportedOperationException") [(0, 9, 12, 13), (0, 9, 15, 23)] (0, 9, 18, 17) [] rfl (List.forall_mem_cons.mpr ⟨⟨by decide, "java/lang/IllegalStateException", nl_13, by decide +kernel⟩, List.forall_mem_cons.mpr ⟨⟨by decide, "java/util/NoSuchElementException", nl_23, by decide +kernel⟩, fun _ hz => absurd hz List.not_mem_nil⟩⟩) rfl (by decide) nl_17 (by decide +kernel) rfl (fun q9 => ?_)
      refine vv_astore_n (L' := [(0, .ref (Y.2.1 0)), (1, .int k), (2, .ref (Y.2.1 13)), (3, .ref q9)]) fx nd_LW_remove_18 rfl (by decide) [1, 2, 3, 0] rfl ?_
      refine vv_iconst (v := nI 3) fx nd_LW_remove_19 (by decide) ?_
      exact vv_ixret fx rfl nd_LW_remove_20 (rfl) (rfl) (Nat.le_of_ble_eq_true rfl) (Nat.le_of_ble_eq_true rfl)
  · rw [hx]
    refine vv_i2l fx nd_LW_remove_7 ?_
    refine vv_last fx nd_LW_remove_8 ?_
    refine vv_goto (tgt := 21) fx nd_LW_remove_9 (by decide) ?_
    refine vv_iconst (v := nI 0) fx nd_LW_remove_21 (by decide) ?_
    exact vv_ixret fx rfl nd_LW_remove_22 (rfl) (rfl) (Nat.le_of_ble_eq_true rfl) (Nat.le_of_ble_eq_true rfl)
theorem fx_get (M : me_M) (h k : Int32) : (fb_get M h k).1 = 0 ∨ (fb_get M h k).1 = 1 ∨ (fb_get M h k).1 = 2 ∨ (fb_get M h k).1 = 4 := by
  unfold fb_get
  repeat' split
  all_goals first | exact Or.inl rfl | exact Or.inr (Or.inl rfl) | exact Or.inr (Or.inr (Or.inl rfl)) | exact Or.inr (Or.inr (Or.inr (rfl)))
def nh_LW_get : List (Nat × Nat × Nat × Nat) := [(0, 10, 13, 13), (0, 10, 17, 15), (0, 10, 21, 23)]
theorem nc_LW_get : Cond.codeWith ny_LW_get nb_LW_get 5 (some .int) nh_LW_get ∈ wl := wl_t2 74 rfl rfl
set_option maxRecDepth 4000 in
theorem cc_LW_get (l : Launch) (Y : sy_Y) (M U : me_M) (o : Int64) (h k : Int32) {N : Nat} (hst : l.stackTraces = false) (hI : rf_I M U N) : ct_IW l ny_LW_get nb_LW_get 5 nh_LW_get { frames := 8, cells := 1, slots := 6, locals := 126 } Y [.ref (Y.2.1 0), .int h, .int k, .ref (Y.2.1 13)] M U o (rf_cG (fb_get M h k).1) (fb_get M h k).2.2 U (lw_o (fb_get M h k).1 (fb_get M h k).2.1 o) 1 6 := by
  refine ct_bodyW (own := nr_LW) (L0 := [(0, .ref (Y.2.1 0)), (1, .int h), (2, .int k), (3, .ref (Y.2.1 13))]) (by decide) rfl (Nat.le_of_ble_eq_true rfl) rfl ?_
  intro p e s m args below meth c fx htab
  refine vv_aload_n fx nd_LW_get_0 rfl 3 rfl ?_
  refine vv_iconst (v := 0) fx nd_LW_get_1 (by decide) ?_
  refine vv_aload_n fx nd_LW_get_2 rfl 0 rfl ?_
  refine vv_iload_n fx nd_LW_get_3 rfl 1 rfl ?_
  refine vv_iload_n fx nd_LW_get_4 rfl 2 rfl ?_
  refine vv_callVxc (C := nr_FB) (T := nt_FB) (N := 6) (ci := 0) fx (cc_FB_get l Y M U o h k hst hI) nm_LW_25 ns_FB_get nv_FB_get nz_FB nc_FB_get ni_FB_get 0 rfl rfl ⟨rfl, rfl, by decide, by decide⟩ ⟨(Nat.le_of_ble_eq_true rfl), (Nat.le_of_ble_eq_true rfl)⟩ (Nat.le_of_ble_eq_true rfl) nd_LW_get_5 rfl (fun hx => ?_) (fun hx => ?_)
  · rcases fx_get M h k with hq8 | hq8 | hq8 | hq8
    · exact absurd hq8 hx
    · rw [hq8]
      refine vt_catch (tgt := 13) fx htab (E := "java/lang/IllegalStateException") [] (0, 10, 13, 13) [(0, 10, 17, 15), (0, 10, 21, 23)] rfl (fun _ hz => absurd hz List.not_mem_nil) rfl (by decide) nl_13 (by decide +kernel) rfl (fun q9 => ?_)
      refine vv_astore (L' := [(0, .ref (Y.2.1 0)), (1, .int h), (2, .int k), (3, .ref (Y.2.1 13)), (4, .ref q9)]) fx nd_LW_get_13 (by decide) [1, 2, 3, 4, 0] rfl ?_
      refine vv_iconst (v := nI 1) fx nd_LW_get_15 (by decide) ?_
      exact vv_ixret fx rfl nd_LW_get_16 (rfl) (rfl) (Nat.le_of_ble_eq_true rfl) (Nat.le_of_ble_eq_true rfl)
    · rw [hq8]
      refine vt_catch (tgt := 17) fx htab (E := "java/lang/IllegalArgumentException") [(0, 10, 13, 13)] (0, 10, 17, 15) [(0, 10, 21, 23)] rfl (List.forall_mem_cons.mpr ⟨⟨by decide, "java/lang/IllegalStateException", nl_13, by decide +kernel⟩, fun _ hz => absurd hz List.not_mem_nil⟩) rfl (by decide) nl_15 (by decide +kernel) rfl (fun q9 => ?_)
      refine vv_astore (L' := [(0, .ref (Y.2.1 0)), (1, .int h), (2, .int k), (3, .ref (Y.2.1 13)), (4, .ref q9)]) fx nd_LW_get_17 (by decide) [1, 2, 3, 4, 0] rfl ?_
      refine vv_iconst (v := nI 2) fx nd_LW_get_19 (by decide) ?_
      exact vv_ixret fx rfl nd_LW_get_20 (rfl) (rfl) (Nat.le_of_ble_eq_true rfl) (Nat.le_of_ble_eq_true rfl)
    · rw [hq8]
      refine vt_catch (tgt := 21) fx htab (E := "java/util/NoSuchElementException") [(0, 10, 13, 13), (0, 10, 17, 15)] (0, 10, 21, 23) [] rfl (List.forall_mem_cons.mpr ⟨⟨by decide, "java/lang/IllegalStateException", nl_13, by decide +kernel⟩, List.forall_mem_cons.mpr ⟨⟨by decide, "java/lang/IllegalArgumentException", nl_15, by decide +kernel⟩, fun _ hz => absurd hz List.not_mem_nil⟩⟩) rfl (by decide) nl_23 (by decide +kernel) rfl (fun q9 => ?_)
      refine vv_astore (L' := [(0, .ref (Y.2.1 0)), (1, .int h), (2, .int k), (3, .ref (Y.2.1 13)), (4, .ref q9)]) fx nd_LW_get_21 (by decide) [1, 2, 3, 4, 0] rfl ?_
      refine vv_iconst (v := nI 3) fx nd_LW_get_23 (by decide) ?_
      exact vv_ixret fx rfl nd_LW_get_24 (rfl) (rfl) (Nat.le_of_ble_eq_true rfl) (Nat.le_of_ble_eq_true rfl)
  · rw [hx]
    refine vv_i2l fx nd_LW_get_8 ?_
    refine vv_last fx nd_LW_get_9 ?_
    refine vv_goto (tgt := 25) fx nd_LW_get_10 (by decide) ?_
    refine vv_iconst (v := nI 0) fx nd_LW_get_25 (by decide) ?_
    exact vv_ixret fx rfl nd_LW_get_26 (rfl) (rfl) (Nat.le_of_ble_eq_true rfl) (Nat.le_of_ble_eq_true rfl)
theorem fx_next (M : me_M) (h k : Int32) : (fb_next M h k).1 = 0 ∨ (fb_next M h k).1 = 1 ∨ (fb_next M h k).1 = 2 := by
  unfold fb_next
  repeat' split
  all_goals first | exact Or.inl rfl | exact Or.inr (Or.inl rfl) | exact Or.inr (Or.inr (rfl))
def nh_LW_next : List (Nat × Nat × Nat × Nat) := [(0, 10, 13, 13), (0, 10, 17, 15)]
theorem nc_LW_next : Cond.codeWith ny_LW_next nb_LW_next 5 (some .int) nh_LW_next ∈ wl := wl_t2 90 rfl rfl
set_option maxRecDepth 4000 in
theorem cc_LW_next (l : Launch) (Y : sy_Y) (M U : me_M) (o : Int64) (h k : Int32) {N : Nat} (hst : l.stackTraces = false) (hI : rf_I M U N) : ct_IW l ny_LW_next nb_LW_next 5 nh_LW_next { frames := 8, cells := 1, slots := 6, locals := 126 } Y [.ref (Y.2.1 0), .int h, .int k, .ref (Y.2.1 13)] M U o (rf_cG (fb_next M h k).1) (fb_next M h k).2.2 U (lw_o (fb_next M h k).1 (fb_next M h k).2.1 o) 1 6 := by
  refine ct_bodyW (own := nr_LW) (L0 := [(0, .ref (Y.2.1 0)), (1, .int h), (2, .int k), (3, .ref (Y.2.1 13))]) (by decide) rfl (Nat.le_of_ble_eq_true rfl) rfl ?_
  intro p e s m args below meth c fx htab
  refine vv_aload_n fx nd_LW_next_0 rfl 3 rfl ?_
  refine vv_iconst (v := 0) fx nd_LW_next_1 (by decide) ?_
  refine vv_aload_n fx nd_LW_next_2 rfl 0 rfl ?_
  refine vv_iload_n fx nd_LW_next_3 rfl 1 rfl ?_
  refine vv_iload_n fx nd_LW_next_4 rfl 2 rfl ?_
  refine vv_callVxc (C := nr_FB) (T := nt_FB) (N := 6) (ci := 0) fx (cc_FB_next l Y M U o h k hst hI) nm_LW_28 ns_FB_next nv_FB_next nz_FB nc_FB_next ni_FB_next 0 rfl rfl ⟨rfl, rfl, by decide, by decide⟩ ⟨(Nat.le_of_ble_eq_true rfl), (Nat.le_of_ble_eq_true rfl)⟩ (Nat.le_of_ble_eq_true rfl) nd_LW_next_5 rfl (fun hx => ?_) (fun hx => ?_)
  · rcases fx_next M h k with hq8 | hq8 | hq8
    · exact absurd hq8 hx
    · rw [hq8]
      refine vt_catch (tgt := 13) fx htab (E := "java/lang/IllegalStateException") [] (0, 10, 13, 13) [(0, 10, 17, 15)] rfl (fun _ hz => absurd hz List.not_mem_nil) rfl (by decide) nl_13 (by decide +kernel) rfl (fun q9 => ?_)
      refine vv_astore (L' := [(0, .ref (Y.2.1 0)), (1, .int h), (2, .int k), (3, .ref (Y.2.1 13)), (4, .ref q9)]) fx nd_LW_next_13 (by decide) [1, 2, 3, 4, 0] rfl ?_
      refine vv_iconst (v := nI 1) fx nd_LW_next_15 (by decide) ?_
      exact vv_ixret fx rfl nd_LW_next_16 (rfl) (rfl) (Nat.le_of_ble_eq_true rfl) (Nat.le_of_ble_eq_true rfl)
    · rw [hq8]
      refine vt_catch (tgt := 17) fx htab (E := "java/lang/IllegalArgumentException") [(0, 10, 13, 13)] (0, 10, 17, 15) [] rfl (List.forall_mem_cons.mpr ⟨⟨by decide, "java/lang/IllegalStateException", nl_13, by decide +kernel⟩, fun _ hz => absurd hz List.not_mem_nil⟩) rfl (by decide) nl_15 (by decide +kernel) rfl (fun q9 => ?_)
      refine vv_astore (L' := [(0, .ref (Y.2.1 0)), (1, .int h), (2, .int k), (3, .ref (Y.2.1 13)), (4, .ref q9)]) fx nd_LW_next_17 (by decide) [1, 2, 3, 4, 0] rfl ?_
      refine vv_iconst (v := nI 2) fx nd_LW_next_19 (by decide) ?_
      exact vv_ixret fx rfl nd_LW_next_20 (rfl) (rfl) (Nat.le_of_ble_eq_true rfl) (Nat.le_of_ble_eq_true rfl)
  · rw [hx]
    refine vv_i2l fx nd_LW_next_8 ?_
    refine vv_last fx nd_LW_next_9 ?_
    refine vv_goto (tgt := 21) fx nd_LW_next_10 (by decide) ?_
    refine vv_iconst (v := nI 0) fx nd_LW_next_21 (by decide) ?_
    exact vv_ixret fx rfl nd_LW_next_22 (rfl) (rfl) (Nat.le_of_ble_eq_true rfl) (Nat.le_of_ble_eq_true rfl)
theorem fx_count (M : me_M) (h : Int32) : (fb_count M h).1 = 0 ∨ (fb_count M h).1 = 1 ∨ (fb_count M h).1 = 2 := by
  unfold fb_count
  repeat' split
  all_goals first | exact Or.inl rfl | exact Or.inr (Or.inl rfl) | exact Or.inr (Or.inr (rfl))
def nh_LW_count : List (Nat × Nat × Nat × Nat) := [(0, 9, 12, 13), (0, 9, 15, 15)]
theorem nc_LW_count : Cond.codeWith ny_LW_count nb_LW_count 4 (some .int) nh_LW_count ∈ wl := wl_t2 100 rfl rfl
set_option maxRecDepth 4000 in
theorem cc_LW_count (l : Launch) (Y : sy_Y) (M U : me_M) (o : Int64) (h : Int32) {N : Nat} (hst : l.stackTraces = false) (hI : rf_I M U N) : ct_IW l ny_LW_count nb_LW_count 4 nh_LW_count { frames := 8, cells := 1, slots := 6, locals := 124 } Y [.ref (Y.2.1 0), .int h, .ref (Y.2.1 13)] M U o (rf_cG (fb_count M h).1) (fb_count M h).2.2 U (lw_o (fb_count M h).1 (fb_count M h).2.1 o) 1 6 := by
  refine ct_bodyW (own := nr_LW) (L0 := [(0, .ref (Y.2.1 0)), (1, .int h), (2, .ref (Y.2.1 13))]) (by decide) rfl (Nat.le_of_ble_eq_true rfl) rfl ?_
  intro p e s m args below meth c fx htab
  refine vv_aload_n fx nd_LW_count_0 rfl 2 rfl ?_
  refine vv_iconst (v := 0) fx nd_LW_count_1 (by decide) ?_
  refine vv_aload_n fx nd_LW_count_2 rfl 0 rfl ?_
  refine vv_iload_n fx nd_LW_count_3 rfl 1 rfl ?_
  refine vv_callVxc (C := nr_FB) (T := nt_FB) (N := 6) (ci := 0) fx (cc_FB_count l Y M U o h hst hI) nm_LW_31 ns_FB_count nv_FB_count nz_FB nc_FB_count ni_FB_count 0 rfl rfl ⟨rfl, rfl, by decide, by decide⟩ ⟨(Nat.le_of_ble_eq_true rfl), (Nat.le_of_ble_eq_true rfl)⟩ (Nat.le_of_ble_eq_true rfl) nd_LW_count_4 rfl (fun hx => ?_) (fun hx => ?_)
  · rcases fx_count M h with hq8 | hq8 | hq8
    · exact absurd hq8 hx
    · rw [hq8]
      refine vt_catch (tgt := 12) fx htab (E := "java/lang/IllegalStateException") [] (0, 9, 12, 13) [(0, 9, 15, 15)] rfl (fun _ hz => absurd hz List.not_mem_nil) rfl (by decide) nl_13 (by decide +kernel) rfl (fun q9 => ?_)
      refine vv_astore_n (L' := [(0, .ref (Y.2.1 0)), (1, .int h), (2, .ref (Y.2.1 13)), (3, .ref q9)]) fx nd_LW_count_12 rfl (by decide) [1, 2, 3, 0] rfl ?_
      refine vv_iconst (v := nI 1) fx nd_LW_count_13 (by decide) ?_
      exact vv_ixret fx rfl nd_LW_count_14 (rfl) (rfl) (Nat.le_of_ble_eq_true rfl) (Nat.le_of_ble_eq_true rfl)
    · rw [hq8]
      refine vt_catch (tgt := 15) fx htab (E := "java/lang/IllegalArgumentException") [(0, 9, 12, 13)] (0, 9, 15, 15) [] rfl (List.forall_mem_cons.mpr ⟨⟨by decide, "java/lang/IllegalStateException", nl_13, by decide +kernel⟩, fun _ hz => absurd hz List.not_mem_nil⟩) rfl (by decide) nl_15 (by decide +kernel) rfl (fun q9 => ?_)
      refine vv_astore_n (L' := [(0, .ref (Y.2.1 0)), (1, .int h), (2, .ref (Y.2.1 13)), (3, .ref q9)]) fx nd_LW_count_15 rfl (by decide) [1, 2, 3, 0] rfl ?_
      refine vv_iconst (v := nI 2) fx nd_LW_count_16 (by decide) ?_
      exact vv_ixret fx rfl nd_LW_count_17 (rfl) (rfl) (Nat.le_of_ble_eq_true rfl) (Nat.le_of_ble_eq_true rfl)
  · rw [hx]
    refine vv_i2l fx nd_LW_count_7 ?_
    refine vv_last fx nd_LW_count_8 ?_
    refine vv_goto (tgt := 18) fx nd_LW_count_9 (by decide) ?_
    refine vv_iconst (v := nI 0) fx nd_LW_count_18 (by decide) ?_
    exact vv_ixret fx rfl nd_LW_count_19 (rfl) (rfl) (Nat.le_of_ble_eq_true rfl) (Nat.le_of_ble_eq_true rfl)
theorem fx_nodes (M : me_M) (h : Int32) : (fb_nodes M h).1 = 0 ∨ (fb_nodes M h).1 = 1 ∨ (fb_nodes M h).1 = 2 := by
  unfold fb_nodes
  repeat' split
  all_goals first | exact Or.inl rfl | exact Or.inr (Or.inl rfl) | exact Or.inr (Or.inr (rfl))
def nh_LW_nodes : List (Nat × Nat × Nat × Nat) := [(0, 9, 12, 13), (0, 9, 15, 15)]
theorem nc_LW_nodes : Cond.codeWith ny_LW_nodes nb_LW_nodes 4 (some .int) nh_LW_nodes ∈ wl := wl_t2 111 rfl rfl
set_option maxRecDepth 4000 in
theorem cc_LW_nodes (l : Launch) (Y : sy_Y) (M U : me_M) (o : Int64) (h : Int32) {N : Nat} (hst : l.stackTraces = false) (hI : rf_I M U N) : ct_IW l ny_LW_nodes nb_LW_nodes 4 nh_LW_nodes { frames := 8, cells := 1, slots := 6, locals := 124 } Y [.ref (Y.2.1 0), .int h, .ref (Y.2.1 13)] M U o (rf_cG (fb_nodes M h).1) (fb_nodes M h).2.2 U (lw_o (fb_nodes M h).1 (fb_nodes M h).2.1 o) 1 6 := by
  refine ct_bodyW (own := nr_LW) (L0 := [(0, .ref (Y.2.1 0)), (1, .int h), (2, .ref (Y.2.1 13))]) (by decide) rfl (Nat.le_of_ble_eq_true rfl) rfl ?_
  intro p e s m args below meth c fx htab
  refine vv_aload_n fx nd_LW_nodes_0 rfl 2 rfl ?_
  refine vv_iconst (v := 0) fx nd_LW_nodes_1 (by decide) ?_
  refine vv_aload_n fx nd_LW_nodes_2 rfl 0 rfl ?_
  refine vv_iload_n fx nd_LW_nodes_3 rfl 1 rfl ?_
  refine vv_callVxc (C := nr_FB) (T := nt_FB) (N := 6) (ci := 0) fx (cc_FB_nodes l Y M U o h hst hI) nm_LW_34 ns_FB_nodes nv_FB_nodes nz_FB nc_FB_nodes ni_FB_nodes 0 rfl rfl ⟨rfl, rfl, by decide, by decide⟩ ⟨(Nat.le_of_ble_eq_true rfl), (Nat.le_of_ble_eq_true rfl)⟩ (Nat.le_of_ble_eq_true rfl) nd_LW_nodes_4 rfl (fun hx => ?_) (fun hx => ?_)
  · rcases fx_nodes M h with hq8 | hq8 | hq8
    · exact absurd hq8 hx
    · rw [hq8]
      refine vt_catch (tgt := 12) fx htab (E := "java/lang/IllegalStateException") [] (0, 9, 12, 13) [(0, 9, 15, 15)] rfl (fun _ hz => absurd hz List.not_mem_nil) rfl (by decide) nl_13 (by decide +kernel) rfl (fun q9 => ?_)
      refine vv_astore_n (L' := [(0, .ref (Y.2.1 0)), (1, .int h), (2, .ref (Y.2.1 13)), (3, .ref q9)]) fx nd_LW_nodes_12 rfl (by decide) [1, 2, 3, 0] rfl ?_
      refine vv_iconst (v := nI 1) fx nd_LW_nodes_13 (by decide) ?_
      exact vv_ixret fx rfl nd_LW_nodes_14 (rfl) (rfl) (Nat.le_of_ble_eq_true rfl) (Nat.le_of_ble_eq_true rfl)
    · rw [hq8]
      refine vt_catch (tgt := 15) fx htab (E := "java/lang/IllegalArgumentException") [(0, 9, 12, 13)] (0, 9, 15, 15) [] rfl (List.forall_mem_cons.mpr ⟨⟨by decide, "java/lang/IllegalStateException", nl_13, by decide +kernel⟩, fun _ hz => absurd hz List.not_mem_nil⟩) rfl (by decide) nl_15 (by decide +kernel) rfl (fun q9 => ?_)
      refine vv_astore_n (L' := [(0, .ref (Y.2.1 0)), (1, .int h), (2, .ref (Y.2.1 13)), (3, .ref q9)]) fx nd_LW_nodes_15 rfl (by decide) [1, 2, 3, 0] rfl ?_
      refine vv_iconst (v := nI 2) fx nd_LW_nodes_16 (by decide) ?_
      exact vv_ixret fx rfl nd_LW_nodes_17 (rfl) (rfl) (Nat.le_of_ble_eq_true rfl) (Nat.le_of_ble_eq_true rfl)
  · rw [hx]
    refine vv_i2l fx nd_LW_nodes_7 ?_
    refine vv_last fx nd_LW_nodes_8 ?_
    refine vv_goto (tgt := 18) fx nd_LW_nodes_9 (by decide) ?_
    refine vv_iconst (v := nI 0) fx nd_LW_nodes_18 (by decide) ?_
    exact vv_ixret fx rfl nd_LW_nodes_19 (rfl) (rfl) (Nat.le_of_ble_eq_true rfl) (Nat.le_of_ble_eq_true rfl)
theorem fx_shared (M : me_M) (a b : Int32) : (fb_shared M a b).1 = 0 ∨ (fb_shared M a b).1 = 1 ∨ (fb_shared M a b).1 = 2 := by
  unfold fb_shared
  repeat' split
  all_goals first | exact Or.inl rfl | exact Or.inr (Or.inl rfl) | exact Or.inr (Or.inr (rfl))
def nh_LW_shared : List (Nat × Nat × Nat × Nat) := [(0, 10, 13, 13), (0, 10, 17, 15)]
theorem nc_LW_shared : Cond.codeWith ny_LW_shared nb_LW_shared 5 (some .int) nh_LW_shared ∈ wl := wl_t2 118 rfl rfl
set_option maxRecDepth 4000 in
theorem cc_LW_shared (l : Launch) (Y : sy_Y) (M U : me_M) (o : Int64) (a b : Int32) {N : Nat} (hst : l.stackTraces = false) (hI : rf_I M U N) : ct_IW l ny_LW_shared nb_LW_shared 5 nh_LW_shared { frames := 8, cells := 1, slots := 6, locals := 127 } Y [.ref (Y.2.1 0), .int a, .int b, .ref (Y.2.1 13)] M U o (rf_cG (fb_shared M a b).1) (fb_shared M a b).2.2 U (lw_o (fb_shared M a b).1 (fb_shared M a b).2.1 o) 1 6 := by
  refine ct_bodyW (own := nr_LW) (L0 := [(0, .ref (Y.2.1 0)), (1, .int a), (2, .int b), (3, .ref (Y.2.1 13))]) (by decide) rfl (Nat.le_of_ble_eq_true rfl) rfl ?_
  intro p e s m args below meth c fx htab
  refine vv_aload_n fx nd_LW_shared_0 rfl 3 rfl ?_
  refine vv_iconst (v := 0) fx nd_LW_shared_1 (by decide) ?_
  refine vv_aload_n fx nd_LW_shared_2 rfl 0 rfl ?_
  refine vv_iload_n fx nd_LW_shared_3 rfl 1 rfl ?_
  refine vv_iload_n fx nd_LW_shared_4 rfl 2 rfl ?_
  refine vv_callVxc (C := nr_FB) (T := nt_FB) (N := 6) (ci := 0) fx (cc_FB_shared l Y M U o a b hst hI) nm_LW_37 ns_FB_shared nv_FB_shared nz_FB nc_FB_shared ni_FB_shared 0 rfl rfl ⟨rfl, rfl, by decide, by decide⟩ ⟨(Nat.le_of_ble_eq_true rfl), (Nat.le_of_ble_eq_true rfl)⟩ (Nat.le_of_ble_eq_true rfl) nd_LW_shared_5 rfl (fun hx => ?_) (fun hx => ?_)
  · rcases fx_shared M a b with hq8 | hq8 | hq8
    · exact absurd hq8 hx
    · rw [hq8]
      refine vt_catch (tgt := 13) fx htab (E := "java/lang/IllegalStateException") [] (0, 10, 13, 13) [(0, 10, 17, 15)] rfl (fun _ hz => absurd hz List.not_mem_nil) rfl (by decide) nl_13 (by decide +kernel) rfl (fun q9 => ?_)
      refine vv_astore (L' := [(0, .ref (Y.2.1 0)), (1, .int a), (2, .int b), (3, .ref (Y.2.1 13)), (4, .ref q9)]) fx nd_LW_shared_13 (by decide) [1, 2, 3, 4, 0] rfl ?_
      refine vv_iconst (v := nI 1) fx nd_LW_shared_15 (by decide) ?_
      exact vv_ixret fx rfl nd_LW_shared_16 (rfl) (rfl) (Nat.le_of_ble_eq_true rfl) (Nat.le_of_ble_eq_true rfl)
    · rw [hq8]
      refine vt_catch (tgt := 17) fx htab (E := "java/lang/IllegalArgumentException") [(0, 10, 13, 13)] (0, 10, 17, 15) [] rfl (List.forall_mem_cons.mpr ⟨⟨by decide, "java/lang/IllegalStateException", nl_13, by decide +kernel⟩, fun _ hz => absurd hz List.not_mem_nil⟩) rfl (by decide) nl_15 (by decide +kernel) rfl (fun q9 => ?_)
      refine vv_astore (L' := [(0, .ref (Y.2.1 0)), (1, .int a), (2, .int b), (3, .ref (Y.2.1 13)), (4, .ref q9)]) fx nd_LW_shared_17 (by decide) [1, 2, 3, 4, 0] rfl ?_
      refine vv_iconst (v := nI 2) fx nd_LW_shared_19 (by decide) ?_
      exact vv_ixret fx rfl nd_LW_shared_20 (rfl) (rfl) (Nat.le_of_ble_eq_true rfl) (Nat.le_of_ble_eq_true rfl)
  · rw [hx]
    refine vv_i2l fx nd_LW_shared_8 ?_
    refine vv_last fx nd_LW_shared_9 ?_
    refine vv_goto (tgt := 21) fx nd_LW_shared_10 (by decide) ?_
    refine vv_iconst (v := nI 0) fx nd_LW_shared_21 (by decide) ?_
    exact vv_ixret fx rfl nd_LW_shared_22 (rfl) (rfl) (Nat.le_of_ble_eq_true rfl) (Nat.le_of_ble_eq_true rfl)
theorem fx_differ (M : me_M) (a b : Int32) : (fb_differ M a b).1 = 0 ∨ (fb_differ M a b).1 = 1 ∨ (fb_differ M a b).1 = 2 := by
  unfold fb_differ
  repeat' split
  all_goals first | exact Or.inl rfl | exact Or.inr (Or.inl rfl) | exact Or.inr (Or.inr (rfl))
def nh_LW_differ : List (Nat × Nat × Nat × Nat) := [(0, 10, 13, 13), (0, 10, 17, 15)]
theorem nc_LW_differ : Cond.codeWith ny_LW_differ nb_LW_differ 5 (some .int) nh_LW_differ ∈ wl := wl_t2 125 rfl rfl
set_option maxRecDepth 4000 in
theorem cc_LW_differ (l : Launch) (Y : sy_Y) (M U : me_M) (o : Int64) (a b : Int32) {N : Nat} (hst : l.stackTraces = false) (hI : rf_I M U N) : ct_IW l ny_LW_differ nb_LW_differ 5 nh_LW_differ { frames := 8, cells := 1, slots := 6, locals := 127 } Y [.ref (Y.2.1 0), .int a, .int b, .ref (Y.2.1 13)] M U o (rf_cG (fb_differ M a b).1) (fb_differ M a b).2.2 U (lw_o (fb_differ M a b).1 (fb_differ M a b).2.1 o) 1 6 := by
  refine ct_bodyW (own := nr_LW) (L0 := [(0, .ref (Y.2.1 0)), (1, .int a), (2, .int b), (3, .ref (Y.2.1 13))]) (by decide) rfl (Nat.le_of_ble_eq_true rfl) rfl ?_
  intro p e s m args below meth c fx htab
  refine vv_aload_n fx nd_LW_differ_0 rfl 3 rfl ?_
  refine vv_iconst (v := 0) fx nd_LW_differ_1 (by decide) ?_
  refine vv_aload_n fx nd_LW_differ_2 rfl 0 rfl ?_
  refine vv_iload_n fx nd_LW_differ_3 rfl 1 rfl ?_
  refine vv_iload_n fx nd_LW_differ_4 rfl 2 rfl ?_
  refine vv_callVxc (C := nr_FB) (T := nt_FB) (N := 6) (ci := 0) fx (cc_FB_differ l Y M U o a b hst hI) nm_LW_40 ns_FB_differ nv_FB_differ nz_FB nc_FB_differ ni_FB_differ 0 rfl rfl ⟨rfl, rfl, by decide, by decide⟩ ⟨(Nat.le_of_ble_eq_true rfl), (Nat.le_of_ble_eq_true rfl)⟩ (Nat.le_of_ble_eq_true rfl) nd_LW_differ_5 rfl (fun hx => ?_) (fun hx => ?_)
  · rcases fx_differ M a b with hq8 | hq8 | hq8
    · exact absurd hq8 hx
    · rw [hq8]
      refine vt_catch (tgt := 13) fx htab (E := "java/lang/IllegalStateException") [] (0, 10, 13, 13) [(0, 10, 17, 15)] rfl (fun _ hz => absurd hz List.not_mem_nil) rfl (by decide) nl_13 (by decide +kernel) rfl (fun q9 => ?_)
      refine vv_astore (L' := [(0, .ref (Y.2.1 0)), (1, .int a), (2, .int b), (3, .ref (Y.2.1 13)), (4, .ref q9)]) fx nd_LW_differ_13 (by decide) [1, 2, 3, 4, 0] rfl ?_
      refine vv_iconst (v := nI 1) fx nd_LW_differ_15 (by decide) ?_
      exact vv_ixret fx rfl nd_LW_differ_16 (rfl) (rfl) (Nat.le_of_ble_eq_true rfl) (Nat.le_of_ble_eq_true rfl)
    · rw [hq8]
      refine vt_catch (tgt := 17) fx htab (E := "java/lang/IllegalArgumentException") [(0, 10, 13, 13)] (0, 10, 17, 15) [] rfl (List.forall_mem_cons.mpr ⟨⟨by decide, "java/lang/IllegalStateException", nl_13, by decide +kernel⟩, fun _ hz => absurd hz List.not_mem_nil⟩) rfl (by decide) nl_15 (by decide +kernel) rfl (fun q9 => ?_)
      refine vv_astore (L' := [(0, .ref (Y.2.1 0)), (1, .int a), (2, .int b), (3, .ref (Y.2.1 13)), (4, .ref q9)]) fx nd_LW_differ_17 (by decide) [1, 2, 3, 4, 0] rfl ?_
      refine vv_iconst (v := nI 2) fx nd_LW_differ_19 (by decide) ?_
      exact vv_ixret fx rfl nd_LW_differ_20 (rfl) (rfl) (Nat.le_of_ble_eq_true rfl) (Nat.le_of_ble_eq_true rfl)
  · rw [hx]
    refine vv_i2l fx nd_LW_differ_8 ?_
    refine vv_last fx nd_LW_differ_9 ?_
    refine vv_goto (tgt := 21) fx nd_LW_differ_10 (by decide) ?_
    refine vv_iconst (v := nI 0) fx nd_LW_differ_21 (by decide) ?_
    exact vv_ixret fx rfl nd_LW_differ_22 (rfl) (rfl) (Nat.le_of_ble_eq_true rfl) (Nat.le_of_ble_eq_true rfl)
theorem fx_snapshot (M : me_M) : (fb_snapshot M).1 = 0 ∨ (fb_snapshot M).1 = 1 ∨ (fb_snapshot M).1 = 3 := by
  unfold fb_snapshot
  repeat' split
  all_goals first | exact Or.inl rfl | exact Or.inr (Or.inl rfl) | exact Or.inr (Or.inr (rfl))
def nh_LW_snapshot : List (Nat × Nat × Nat × Nat) := [(0, 8, 11, 13), (0, 8, 14, 17)]
theorem nc_LW_snapshot : Cond.codeWith ny_LW_snapshot nb_LW_snapshot 3 (some .int) nh_LW_snapshot ∈ wl := wl_t2 136 rfl rfl
set_option maxRecDepth 4000 in
theorem cc_LW_snapshot (l : Launch) (Y : sy_Y) (M U : me_M) (o : Int64) {N : Nat} (hst : l.stackTraces = false) (hI : rf_I M U N) : ct_IW l ny_LW_snapshot nb_LW_snapshot 3 nh_LW_snapshot { frames := 8, cells := 1, slots := 6, locals := 123 } Y [.ref (Y.2.1 0), .ref (Y.2.1 13)] M U o (rf_cS (fb_snapshot M).1) (fb_snapshot M).2.2 U (lw_o (fb_snapshot M).1 (fb_snapshot M).2.1 o) 1 6 := by
  refine ct_bodyW (own := nr_LW) (L0 := [(0, .ref (Y.2.1 0)), (1, .ref (Y.2.1 13))]) (by decide) rfl (Nat.le_of_ble_eq_true rfl) rfl ?_
  intro p e s m args below meth c fx htab
  refine vv_aload_n fx nd_LW_snapshot_0 rfl 1 rfl ?_
  refine vv_iconst (v := 0) fx nd_LW_snapshot_1 (by decide) ?_
  refine vv_aload_n fx nd_LW_snapshot_2 rfl 0 rfl ?_
  refine vv_callVxc (C := nr_FB) (T := nt_FB) (N := 6) (ci := 0) fx (cc_FB_snapshot l Y M U o hst hI) nm_LW_43 ns_FB_snapshot nv_FB_snapshot nz_FB nc_FB_snapshot ni_FB_snapshot 0 rfl rfl ⟨rfl, rfl, by decide, by decide⟩ ⟨(Nat.le_of_ble_eq_true rfl), (Nat.le_of_ble_eq_true rfl)⟩ (Nat.le_of_ble_eq_true rfl) nd_LW_snapshot_3 rfl (fun hx => ?_) (fun hx => ?_)
  · rcases fx_snapshot M with hq8 | hq8 | hq8
    · exact absurd hq8 hx
    · rw [hq8]
      refine vt_catch (tgt := 11) fx htab (E := "java/lang/IllegalStateException") [] (0, 8, 11, 13) [(0, 8, 14, 17)] rfl (fun _ hz => absurd hz List.not_mem_nil) rfl (by decide) nl_13 (by decide +kernel) rfl (fun q9 => ?_)
      refine vv_astore_n (L' := [(0, .ref (Y.2.1 0)), (1, .ref (Y.2.1 13)), (2, .ref q9)]) fx nd_LW_snapshot_11 rfl (by decide) [1, 2, 0] rfl ?_
      refine vv_iconst (v := nI 1) fx nd_LW_snapshot_12 (by decide) ?_
      exact vv_ixret fx rfl nd_LW_snapshot_13 (rfl) (rfl) (Nat.le_of_ble_eq_true rfl) (Nat.le_of_ble_eq_true rfl)
    · rw [hq8]
      refine vt_catch (tgt := 14) fx htab (E := "java/lang/UnsupportedOperationException") [(0, 8, 11, 13)] (0, 8, 14, 17) [] rfl (List.forall_mem_cons.mpr ⟨⟨by decide, "java/lang/IllegalStateException", nl_13, by decide +kernel⟩, fun _ hz => absurd hz List.not_mem_nil⟩) rfl (by decide) nl_17 (by decide +kernel) rfl (fun q9 => ?_)
      refine vv_astore_n (L' := [(0, .ref (Y.2.1 0)), (1, .ref (Y.2.1 13)), (2, .ref q9)]) fx nd_LW_snapshot_14 rfl (by decide) [1, 2, 0] rfl ?_
      refine vv_iconst (v := nI 2) fx nd_LW_snapshot_15 (by decide) ?_
      exact vv_ixret fx rfl nd_LW_snapshot_16 (rfl) (rfl) (Nat.le_of_ble_eq_true rfl) (Nat.le_of_ble_eq_true rfl)
  · rw [hx]
    refine vv_i2l fx nd_LW_snapshot_6 ?_
    refine vv_last fx nd_LW_snapshot_7 ?_
    refine vv_goto (tgt := 17) fx nd_LW_snapshot_8 (by decide) ?_
    refine vv_iconst (v := nI 0) fx nd_LW_snapshot_17 (by decide) ?_
    exact vv_ixret fx rfl nd_LW_snapshot_18 (rfl) (rfl) (Nat.le_of_ble_eq_true rfl) (Nat.le_of_ble_eq_true rfl)
theorem fx_rollback (M : me_M) (h : Int32) : (fb_rollback M h).1 = 0 ∨ (fb_rollback M h).1 = 1 ∨ (fb_rollback M h).1 = 2 := by
  unfold fb_rollback
  repeat' split
  all_goals first | exact Or.inl rfl | exact Or.inr (Or.inl rfl) | exact Or.inr (Or.inr (rfl))
def nh_LW_rollback : List (Nat × Nat × Nat × Nat) := [(0, 9, 12, 13), (0, 9, 15, 15)]
theorem nc_LW_rollback : Cond.codeWith ny_LW_rollback nb_LW_rollback 4 (some .int) nh_LW_rollback ∈ wl := wl_t2 152 rfl rfl
set_option maxRecDepth 4000 in
theorem cc_LW_rollback (l : Launch) (Y : sy_Y) (M U : me_M) (o : Int64) (h : Int32) {N : Nat} (hst : l.stackTraces = false) (hI : rf_I M U N) : ct_IW l ny_LW_rollback nb_LW_rollback 4 nh_LW_rollback { frames := 8, cells := 1, slots := 6, locals := 124 } Y [.ref (Y.2.1 0), .int h, .ref (Y.2.1 13)] M U o (rf_cG (fb_rollback M h).1) (fb_rollback M h).2.2 U (lw_o (fb_rollback M h).1 (fb_rollback M h).2.1 o) 1 6 := by
  refine ct_bodyW (own := nr_LW) (L0 := [(0, .ref (Y.2.1 0)), (1, .int h), (2, .ref (Y.2.1 13))]) (by decide) rfl (Nat.le_of_ble_eq_true rfl) rfl ?_
  intro p e s m args below meth c fx htab
  refine vv_aload_n fx nd_LW_rollback_0 rfl 2 rfl ?_
  refine vv_iconst (v := 0) fx nd_LW_rollback_1 (by decide) ?_
  refine vv_aload_n fx nd_LW_rollback_2 rfl 0 rfl ?_
  refine vv_iload_n fx nd_LW_rollback_3 rfl 1 rfl ?_
  refine vv_callVxc (C := nr_FB) (T := nt_FB) (N := 6) (ci := 0) fx (cc_FB_rollback l Y M U o h hst hI) nm_LW_47 ns_FB_rollback nv_FB_rollback nz_FB nc_FB_rollback ni_FB_rollback 0 rfl rfl ⟨rfl, rfl, by decide, by decide⟩ ⟨(Nat.le_of_ble_eq_true rfl), (Nat.le_of_ble_eq_true rfl)⟩ (Nat.le_of_ble_eq_true rfl) nd_LW_rollback_4 rfl (fun hx => ?_) (fun hx => ?_)
  · rcases fx_rollback M h with hq8 | hq8 | hq8
    · exact absurd hq8 hx
    · rw [hq8]
      refine vt_catch (tgt := 12) fx htab (E := "java/lang/IllegalStateException") [] (0, 9, 12, 13) [(0, 9, 15, 15)] rfl (fun _ hz => absurd hz List.not_mem_nil) rfl (by decide) nl_13 (by decide +kernel) rfl (fun q9 => ?_)
      refine vv_astore_n (L' := [(0, .ref (Y.2.1 0)), (1, .int h), (2, .ref (Y.2.1 13)), (3, .ref q9)]) fx nd_LW_rollback_12 rfl (by decide) [1, 2, 3, 0] rfl ?_
      refine vv_iconst (v := nI 1) fx nd_LW_rollback_13 (by decide) ?_
      exact vv_ixret fx rfl nd_LW_rollback_14 (rfl) (rfl) (Nat.le_of_ble_eq_true rfl) (Nat.le_of_ble_eq_true rfl)
    · rw [hq8]
      refine vt_catch (tgt := 15) fx htab (E := "java/lang/IllegalArgumentException") [(0, 9, 12, 13)] (0, 9, 15, 15) [] rfl (List.forall_mem_cons.mpr ⟨⟨by decide, "java/lang/IllegalStateException", nl_13, by decide +kernel⟩, fun _ hz => absurd hz List.not_mem_nil⟩) rfl (by decide) nl_15 (by decide +kernel) rfl (fun q9 => ?_)
      refine vv_astore_n (L' := [(0, .ref (Y.2.1 0)), (1, .int h), (2, .ref (Y.2.1 13)), (3, .ref q9)]) fx nd_LW_rollback_15 rfl (by decide) [1, 2, 3, 0] rfl ?_
      refine vv_iconst (v := nI 2) fx nd_LW_rollback_16 (by decide) ?_
      exact vv_ixret fx rfl nd_LW_rollback_17 (rfl) (rfl) (Nat.le_of_ble_eq_true rfl) (Nat.le_of_ble_eq_true rfl)
  · rw [hx]
    refine vv_i2l fx nd_LW_rollback_7 ?_
    refine vv_last fx nd_LW_rollback_8 ?_
    refine vv_goto (tgt := 18) fx nd_LW_rollback_9 (by decide) ?_
    refine vv_iconst (v := nI 0) fx nd_LW_rollback_18 (by decide) ?_
    exact vv_ixret fx rfl nd_LW_rollback_19 (rfl) (rfl) (Nat.le_of_ble_eq_true rfl) (Nat.le_of_ble_eq_true rfl)
theorem fx_drop (M : me_M) (h : Int32) : (fb_drop M h).1 = 0 ∨ (fb_drop M h).1 = 1 ∨ (fb_drop M h).1 = 2 := by
  unfold fb_drop
  repeat' split
  all_goals first | exact Or.inl rfl | exact Or.inr (Or.inl rfl) | exact Or.inr (Or.inr (rfl))
def nh_LW_drop : List (Nat × Nat × Nat × Nat) := [(0, 9, 12, 13), (0, 9, 15, 15)]
theorem nc_LW_drop : Cond.codeWith ny_LW_drop nb_LW_drop 4 (some .int) nh_LW_drop ∈ wl := wl_t2 164 rfl rfl
set_option maxRecDepth 4000 in
theorem cc_LW_drop (l : Launch) (Y : sy_Y) (M U : me_M) (o : Int64) (h : Int32) {N : Nat} (hst : l.stackTraces = false) (hI : rf_I M U N) : ct_IW l ny_LW_drop nb_LW_drop 4 nh_LW_drop { frames := 8, cells := 1, slots := 6, locals := 136 } Y [.ref (Y.2.1 0), .int h, .ref (Y.2.1 13)] M U o (rf_cG (fb_drop M h).1) (fb_drop M h).2.2 U (lw_o (fb_drop M h).1 (fb_drop M h).2.1 o) 1 6 := by
  refine ct_bodyW (own := nr_LW) (L0 := [(0, .ref (Y.2.1 0)), (1, .int h), (2, .ref (Y.2.1 13))]) (by decide) rfl (Nat.le_of_ble_eq_true rfl) rfl ?_
  intro p e s m args below meth c fx htab
  refine vv_aload_n fx nd_LW_drop_0 rfl 2 rfl ?_
  refine vv_iconst (v := 0) fx nd_LW_drop_1 (by decide) ?_
  refine vv_aload_n fx nd_LW_drop_2 rfl 0 rfl ?_
  refine vv_iload_n fx nd_LW_drop_3 rfl 1 rfl ?_
  refine vv_callVxc (C := nr_FB) (T := nt_FB) (N := 6) (ci := 0) fx (cc_FB_drop l Y M U o h hst hI) nm_LW_50 ns_FB_drop nv_FB_drop nz_FB nc_FB_drop ni_FB_drop 0 rfl rfl ⟨rfl, rfl, by decide, by decide⟩ ⟨(Nat.le_of_ble_eq_true rfl), (Nat.le_of_ble_eq_true rfl)⟩ (Nat.le_of_ble_eq_true rfl) nd_LW_drop_4 rfl (fun hx => ?_) (fun hx => ?_)
  · rcases fx_drop M h with hq8 | hq8 | hq8
    · exact absurd hq8 hx
    · rw [hq8]
      refine vt_catch (tgt := 12) fx htab (E := "java/lang/IllegalStateException") [] (0, 9, 12, 13) [(0, 9, 15, 15)] rfl (fun _ hz => absurd hz List.not_mem_nil) rfl (by decide) nl_13 (by decide +kernel) rfl (fun q9 => ?_)
      refine vv_astore_n (L' := [(0, .ref (Y.2.1 0)), (1, .int h), (2, .ref (Y.2.1 13)), (3, .ref q9)]) fx nd_LW_drop_12 rfl (by decide) [1, 2, 3, 0] rfl ?_
      refine vv_iconst (v := nI 1) fx nd_LW_drop_13 (by decide) ?_
      exact vv_ixret fx rfl nd_LW_drop_14 (rfl) (rfl) (Nat.le_of_ble_eq_true rfl) (Nat.le_of_ble_eq_true rfl)
    · rw [hq8]
      refine vt_catch (tgt := 15) fx htab (E := "java/lang/IllegalArgumentException") [(0, 9, 12, 13)] (0, 9, 15, 15) [] rfl (List.forall_mem_cons.mpr ⟨⟨by decide, "java/lang/IllegalStateException", nl_13, by decide +kernel⟩, fun _ hz => absurd hz List.not_mem_nil⟩) rfl (by decide) nl_15 (by decide +kernel) rfl (fun q9 => ?_)
      refine vv_astore_n (L' := [(0, .ref (Y.2.1 0)), (1, .int h), (2, .ref (Y.2.1 13)), (3, .ref q9)]) fx nd_LW_drop_15 rfl (by decide) [1, 2, 3, 0] rfl ?_
      refine vv_iconst (v := nI 2) fx nd_LW_drop_16 (by decide) ?_
      exact vv_ixret fx rfl nd_LW_drop_17 (rfl) (rfl) (Nat.le_of_ble_eq_true rfl) (Nat.le_of_ble_eq_true rfl)
  · rw [hx]
    refine vv_i2l fx nd_LW_drop_7 ?_
    refine vv_last fx nd_LW_drop_8 ?_
    refine vv_goto (tgt := 18) fx nd_LW_drop_9 (by decide) ?_
    refine vv_iconst (v := nI 0) fx nd_LW_drop_18 (by decide) ?_
    exact vv_ixret fx rfl nd_LW_drop_19 (rfl) (rfl) (Nat.le_of_ble_eq_true rfl) (Nat.le_of_ble_eq_true rfl)
theorem fx_commit (M : me_M) : (fb_commit M).1 = 0 ∨ (fb_commit M).1 = 1 := by
  unfold fb_commit
  repeat' split
  all_goals first | exact Or.inl rfl | exact Or.inr (rfl)
def nh_LW_commit : List (Nat × Nat × Nat × Nat) := [(0, 8, 11, 13)]
theorem nc_LW_commit : Cond.codeWith ny_LW_commit nb_LW_commit 3 (some .int) nh_LW_commit ∈ wl := wl_t2 171 rfl rfl
set_option maxRecDepth 4000 in
theorem cc_LW_commit (l : Launch) (Y : sy_Y) (M U : me_M) (o : Int64) {N : Nat} (hst : l.stackTraces = false) (hI : rf_I M U N) : ct_IW l ny_LW_commit nb_LW_commit 3 nh_LW_commit { frames := 8, cells := 1, slots := 6, locals := 135 } Y [.ref (Y.2.1 0), .ref (Y.2.1 13)] M U o (rf_cG (fb_commit M).1) (fb_commit M).2.2 U (lw_o (fb_commit M).1 (fb_commit M).2.1 o) 1 6 := by
  refine ct_bodyW (own := nr_LW) (L0 := [(0, .ref (Y.2.1 0)), (1, .ref (Y.2.1 13))]) (by decide) rfl (Nat.le_of_ble_eq_true rfl) rfl ?_
  intro p e s m args below meth c fx htab
  refine vv_aload_n fx nd_LW_commit_0 rfl 1 rfl ?_
  refine vv_iconst (v := 0) fx nd_LW_commit_1 (by decide) ?_
  refine vv_aload_n fx nd_LW_commit_2 rfl 0 rfl ?_
  refine vv_callVxc (C := nr_FB) (T := nt_FB) (N := 6) (ci := 0) fx (cc_FB_commit l Y M U o hst hI) nm_LW_53 ns_FB_commit nv_FB_commit nz_FB nc_FB_commit ni_FB_commit 0 rfl rfl ⟨rfl, rfl, by decide, by decide⟩ ⟨(Nat.le_of_ble_eq_true rfl), (Nat.le_of_ble_eq_true rfl)⟩ (Nat.le_of_ble_eq_true rfl) nd_LW_commit_3 rfl (fun hx => ?_) (fun hx => ?_)
  · rcases fx_commit M with hq8 | hq8
    · exact absurd hq8 hx
    · rw [hq8]
      refine vt_catch (tgt := 11) fx htab (E := "java/lang/IllegalStateException") [] (0, 8, 11, 13) [] rfl (fun _ hz => absurd hz List.not_mem_nil) rfl (by decide) nl_13 (by decide +kernel) rfl (fun q9 => ?_)
      refine vv_astore_n (L' := [(0, .ref (Y.2.1 0)), (1, .ref (Y.2.1 13)), (2, .ref q9)]) fx nd_LW_commit_11 rfl (by decide) [1, 2, 0] rfl ?_
      refine vv_iconst (v := nI 1) fx nd_LW_commit_12 (by decide) ?_
      exact vv_ixret fx rfl nd_LW_commit_13 (rfl) (rfl) (Nat.le_of_ble_eq_true rfl) (Nat.le_of_ble_eq_true rfl)
  · rw [hx]
    refine vv_i2l fx nd_LW_commit_6 ?_
    refine vv_last fx nd_LW_commit_7 ?_
    refine vv_goto (tgt := 14) fx nd_LW_commit_8 (by decide) ?_
    refine vv_iconst (v := nI 0) fx nd_LW_commit_14 (by decide) ?_
    exact vv_ixret fx rfl nd_LW_commit_15 (rfl) (rfl) (Nat.le_of_ble_eq_true rfl) (Nat.le_of_ble_eq_true rfl)
theorem fx_free (M : me_M) : (fb_freeC M).1 = 0 ∨ (fb_freeC M).1 = 1 := by
  unfold fb_freeC
  repeat' split
  all_goals first | exact Or.inl rfl | exact Or.inr (rfl)
def nh_LW_free : List (Nat × Nat × Nat × Nat) := [(0, 8, 11, 13)]
theorem nc_LW_free : Cond.codeWith ny_LW_free nb_LW_free 3 (some .int) nh_LW_free ∈ wl := wl_t2 191 rfl rfl
set_option maxRecDepth 4000 in
theorem cc_LW_free (l : Launch) (Y : sy_Y) (M U : me_M) (o : Int64) {N : Nat} (hst : l.stackTraces = false) (hI : rf_I M U N) : ct_IW l ny_LW_free nb_LW_free 3 nh_LW_free { frames := 8, cells := 1, slots := 6, locals := 134 } Y [.ref (Y.2.1 0), .ref (Y.2.1 13)] M U o (rf_cG (fb_freeC M).1) (fb_freeC M).2.2 U (lw_o (fb_freeC M).1 (fb_freeC M).2.1 o) 1 6 := by
  refine ct_bodyW (own := nr_LW) (L0 := [(0, .ref (Y.2.1 0)), (1, .ref (Y.2.1 13))]) (by decide) rfl (Nat.le_of_ble_eq_true rfl) rfl ?_
  intro p e s m args below meth c fx htab
  refine vv_aload_n fx nd_LW_free_0 rfl 1 rfl ?_
  refine vv_iconst (v := 0) fx nd_LW_free_1 (by decide) ?_
  refine vv_aload_n fx nd_LW_free_2 rfl 0 rfl ?_
  refine vv_callVxc (C := nr_FB) (T := nt_FB) (N := 6) (ci := 0) fx (cc_FB_free l Y M U o hst hI) nm_LW_56 ns_FB_free nv_FB_free nz_FB nc_FB_free ni_FB_free 0 rfl rfl ⟨rfl, rfl, by decide, by decide⟩ ⟨(Nat.le_of_ble_eq_true rfl), (Nat.le_of_ble_eq_true rfl)⟩ (Nat.le_of_ble_eq_true rfl) nd_LW_free_3 rfl (fun hx => ?_) (fun hx => ?_)
  · rcases fx_free M with hq8 | hq8
    · exact absurd hq8 hx
    · rw [hq8]
      refine vt_catch (tgt := 11) fx htab (E := "java/lang/IllegalStateException") [] (0, 8, 11, 13) [] rfl (fun _ hz => absurd hz List.not_mem_nil) rfl (by decide) nl_13 (by decide +kernel) rfl (fun q9 => ?_)
      refine vv_astore_n (L' := [(0, .ref (Y.2.1 0)), (1, .ref (Y.2.1 13)), (2, .ref q9)]) fx nd_LW_free_11 rfl (by decide) [1, 2, 0] rfl ?_
      refine vv_iconst (v := nI 1) fx nd_LW_free_12 (by decide) ?_
      exact vv_ixret fx rfl nd_LW_free_13 (rfl) (rfl) (Nat.le_of_ble_eq_true rfl) (Nat.le_of_ble_eq_true rfl)
  · rw [hx]
    refine vv_i2l fx nd_LW_free_6 ?_
    refine vv_last fx nd_LW_free_7 ?_
    refine vv_goto (tgt := 14) fx nd_LW_free_8 (by decide) ?_
    refine vv_iconst (v := nI 0) fx nd_LW_free_14 (by decide) ?_
    exact vv_ixret fx rfl nd_LW_free_15 (rfl) (rfl) (Nat.le_of_ble_eq_true rfl) (Nat.le_of_ble_eq_true rfl)
theorem fx_due (M : me_M) : (fb_due M).1 = 0 ∨ (fb_due M).1 = 1 := by
  unfold fb_due
  repeat' split
  all_goals first | exact Or.inl rfl | exact Or.inr (rfl)
def nh_LW_due : List (Nat × Nat × Nat × Nat) := [(0, 8, 11, 13)]
theorem nc_LW_due : Cond.codeWith ny_LW_due nb_LW_due 3 (some .int) nh_LW_due ∈ wl := wl_t2 198 rfl rfl
set_option maxRecDepth 4000 in
theorem cc_LW_due (l : Launch) (Y : sy_Y) (M U : me_M) (o : Int64) {N : Nat} (hst : l.stackTraces = false) (hI : rf_I M U N) : ct_IW l ny_LW_due nb_LW_due 3 nh_LW_due { frames := 8, cells := 1, slots := 6, locals := 134 } Y [.ref (Y.2.1 0), .ref (Y.2.1 13)] M U o (rf_cG (fb_due M).1) (fb_due M).2.2 U (lw_o (fb_due M).1 (fb_due M).2.1 o) 1 6 := by
  refine ct_bodyW (own := nr_LW) (L0 := [(0, .ref (Y.2.1 0)), (1, .ref (Y.2.1 13))]) (by decide) rfl (Nat.le_of_ble_eq_true rfl) rfl ?_
  intro p e s m args below meth c fx htab
  refine vv_aload_n fx nd_LW_due_0 rfl 1 rfl ?_
  refine vv_iconst (v := 0) fx nd_LW_due_1 (by decide) ?_
  refine vv_aload_n fx nd_LW_due_2 rfl 0 rfl ?_
  refine vv_callVxc (C := nr_FB) (T := nt_FB) (N := 6) (ci := 0) fx (cc_FB_due l Y M U o hst hI) nm_LW_59 ns_FB_due nv_FB_due nz_FB nc_FB_due ni_FB_due 0 rfl rfl ⟨rfl, rfl, by decide, by decide⟩ ⟨(Nat.le_of_ble_eq_true rfl), (Nat.le_of_ble_eq_true rfl)⟩ (Nat.le_of_ble_eq_true rfl) nd_LW_due_3 rfl (fun hx => ?_) (fun hx => ?_)
  · rcases fx_due M with hq8 | hq8
    · exact absurd hq8 hx
    · rw [hq8]
      refine vt_catch (tgt := 11) fx htab (E := "java/lang/IllegalStateException") [] (0, 8, 11, 13) [] rfl (fun _ hz => absurd hz List.not_mem_nil) rfl (by decide) nl_13 (by decide +kernel) rfl (fun q9 => ?_)
      refine vv_astore_n (L' := [(0, .ref (Y.2.1 0)), (1, .ref (Y.2.1 13)), (2, .ref q9)]) fx nd_LW_due_11 rfl (by decide) [1, 2, 0] rfl ?_
      refine vv_iconst (v := nI 1) fx nd_LW_due_12 (by decide) ?_
      exact vv_ixret fx rfl nd_LW_due_13 (rfl) (rfl) (Nat.le_of_ble_eq_true rfl) (Nat.le_of_ble_eq_true rfl)
  · rw [hx]
    refine vv_i2l fx nd_LW_due_6 ?_
    refine vv_last fx nd_LW_due_7 ?_
    refine vv_goto (tgt := 14) fx nd_LW_due_8 (by decide) ?_
    refine vv_iconst (v := nI 0) fx nd_LW_due_14 (by decide) ?_
    exact vv_ixret fx rfl nd_LW_due_15 (rfl) (rfl) (Nat.le_of_ble_eq_true rfl) (Nat.le_of_ble_eq_true rfl)
