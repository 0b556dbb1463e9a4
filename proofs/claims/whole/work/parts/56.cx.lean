/-! contracts of methods that may throw (x: which exception, 0 none), and rows for them (printed by cx.py) -/
def sy_nm (x : Nat) : String := match x with
  | 1 => "java/lang/IllegalStateException"
  | 2 => "java/lang/IllegalArgumentException"
  | 3 => "java/lang/UnsupportedOperationException"
  | _ => "java/util/NoSuchElementException"
def sy_up : List String := ["java/lang/RuntimeException", "java/lang/Exception"]
def ct_XC (Y : sy_Y) (x : Nat) (M U : me_M) (o : Int64) : String → State → State → Prop := vx_X (fun (_ : Unit) => True) (fun E _ t => x ≠ 0 ∧ E = sy_nm x ∧ va_P Y.1 sy_cl (sy_w Y M U o) t.heap) Y.2.2.2
def ct_Xi (Y : sy_Y) (x : Nat) (r : Int32) (M U : me_M) (o : Int64) : Array Value → State → Outcome → State → Prop := va_Qi (fun r2 (_ : Unit) => x = 0 ∧ r2 = r) (fun _ t => va_P Y.1 sy_cl (sy_w Y M U o) t.heap) Y.2.2.2
def ct_Xv (Y : sy_Y) (x : Nat) (M U : me_M) (o : Int64) : Array Value → State → Outcome → State → Prop := va_Qv (fun (_ : Unit) => x = 0) (fun _ t => va_P Y.1 sy_cl (sy_w Y M U o) t.heap) Y.2.2.2
abbrev ct_IX (l : Launch) (y : MethodName) (b : ByteArray) (n : Nat) (ret : Option FieldType) (rm : Room) (Y : sy_Y) (as : List Value) (M U : me_M) (o : Int64) (x : Nat) (r : Int32) (M' U' : me_M) (o' : Int64) (mc ms : Nat) : Prop := vx_Met l y (.code y b n ret :: wl) rm (ct_P Y as M U o) (ct_Xi Y x r M' U' o') (ct_XC Y x M' U' o') mc ms Y.2.2.2
abbrev ct_VX (l : Launch) (y : MethodName) (b : ByteArray) (n : Nat) (rm : Room) (Y : sy_Y) (as : List Value) (M U : me_M) (o : Int64) (x : Nat) (M' U' : me_M) (o' : Int64) (mc ms : Nat) : Prop := vx_Met l y (.code y b n none :: wl) rm (ct_P Y as M U o) (ct_Xv Y x M' U' o') (ct_XC Y x M' U' o') mc ms Y.2.2.2
theorem ct_bodyX {l : Launch} {y : MethodName} {b : ByteArray} {n : Nat} {ret : Option FieldType} {rm : Room} {Y : sy_Y} {as : List Value} {M U : me_M} {o : Int64} {Qc : Array Value → State → Outcome → State → Prop} {XC : String → State → State → Prop} {mc ms : Nat} {own : String} (hy : plainName y.cls = true) (ho : y.cls = own) (hlen : (lg_sl as).length ≤ n) {L0 : List (Nat × Value)} (hL0 : lv_args 0 as = L0)
    (body : ∀ (p : Program) (e : Env) (s : State) (m : MethodId) (args : Array Value) (below : List Frame) (meth : Method) (c : Code), vv_fix p s m args meth c b n ret own Y → (∀ x ∈ c.exceptionTable.toList, False) → vv p l e rm s m args below meth c 0 0 (vx_MQ below Qc XC args s mc ms Y.2.2.2) n Y M U o 0 L0 []) :
    vx_Met l y (.code y b n ret :: wl) rm (ct_P Y as M U o) Qc XC mc ms Y.2.2.2 := by
  refine vx_ofW (cc := b) (maxL := n) (ret := ret) hy rfl ?_
  intro p e s m args below meth c s₁ B hml htab hv
  obtain ⟨rfl, hok, hP⟩ := hv
  have hown : s.vm.findClass y.cls = some m.cls := findClass_of_methodNamed B.named
  have fx : vv_fix p s m as.toArray meth c b n ret own Y := ⟨B.exec, B.bytes, hml, by rw [← ho]; exact hown, fun w hw => atoms_spec (ws := .code y b n ret :: wl) B.pre w (List.mem_cons_of_mem _ hw), hok, B.returns, B.notSynchronized⟩
  have hl := lv_entry as (n := n) hlen
  rw [hL0] at hl
  rw [lg_entry_eq]
  exact body p e s m as.toArray below meth c fx htab s.heap [] _ hP va_S.rf hl
theorem sy_nwT : ∀ w ∈ sy_nw, w.onTables = true := by decide +kernel
theorem sy_nwB {Y : sy_Y} {s : State} {args : Array Value} (h : sy_th Y s s.heap) : ∀ w ∈ sy_nw, w.before args s = true := fun w hw => va_tabs (sy_nwT w hw) (u := s) rfl (h.2.2.1 w hw)
section
variable {p : Program} {l : Launch} {e : Env} {R : Room} {s : State} {m : MethodId} {args : Array Value} {below : List Frame} {meth : Method} {c : Code} {cells slots : Nat} {Q : State → Prop}
variable {cc : ByteArray} {nL : Nat} {ret : Option FieldType} {own : String} {Y : sy_Y} {M U M' U' : me_M} {o o' : Int64} {pc : Nat} {L L' : List (Nat × Value)} {st : List Value}
variable {xf mc ms : Nat} {Mf Uf : me_M} {of_ : Int64} {Qc : Array Value → State → Outcome → State → Prop} {XC : String → State → State → Prop}
theorem vv_ixret (fx : vv_fix p s m args meth c cc nL ret own Y) (hret : ret = some .int) (hd : decode cc pc = .ok (.ireturn, 1)) {x r : Int32} (hx : xf = 0) (e9 : x = r) (hc : cells ≤ mc) (hs : slots ≤ ms) : vv p l e R s m args below meth c cells slots (vx_MQ below (ct_Xi Y xf r M U o) XC args s mc ms Y.2.2.2) nL Y M U o pc L [.int x] := fun H locs ls hP hS hl => vx_ret (fun T hT X =>
  W.iret (v := x) fx.1 fx.2.1 (fx.2.2.2.2.2.2.1.trans hret) (fun t ht hW => ⟨⟨x, (), rfl, ⟨hx, e9⟩, by show va_P _ _ _ t.heap; rw [ht]; exact hP⟩, hS.F ht⟩) hS.2.2 hd fx.2.2.2.2.2.2.2 T hT (stand_widen X hc hs))
theorem vv_vxret (fx : vv_fix p s m args meth c cc nL ret own Y) (hret : ret = none) (hd : decode cc pc = .ok (.return_, 1)) (hx : xf = 0) (hc : cells ≤ mc) (hs : slots ≤ ms) : vv p l e R s m args below meth c cells slots (vx_MQ below (ct_Xv Y xf M U o) XC args s mc ms Y.2.2.2) nL Y M U o pc L [] := fun H locs ls hP hS hl => vx_ret (fun T hT X =>
  W.vret fx.1 fx.2.1 (fx.2.2.2.2.2.2.1.trans hret) (fun t ht hW => ⟨⟨(), rfl, hx, by show va_P _ _ _ t.heap; rw [ht]; exact hP⟩, hS.F ht⟩) hS.2.2 hd fx.2.2.2.2.2.2.2 T hT (stand_widen X hc hs))
theorem ct_XCof {E : String} {x : Nat} {t : State} {H : Heap} {locs : List Loc} (hx : x ≠ 0) (hE : E = sy_nm x) (hP : va_P Y.1 sy_cl (sy_w Y M U o) H) (hS : va_S Y.2.2.2 s.heap H locs) (h1 : H.size ≤ t.heap.size) (h2 : ∀ q : Nat, q < H.size → t.heap[q]? = H[q]?) : ct_XC Y x M U o E s t := by
  refine ⟨(), trivial, ⟨hx, hE, fun k q hk => ?_⟩, Nat.le_trans hS.1 h1, fun q hq hn => ?_⟩
  · exact (hP k q hk).kept (h2 q.1 (vx_lt hP hk))
  · rw [h2 q (Nat.lt_of_lt_of_le hq hS.1)]; exact hS.2.1 q hq hn
def ct_CX (R rm : Room) (n mc ms : Nat) : Prop := rm.cells = mc ∧ rm.slots = ms ∧ rm.frames + 1 ≤ R.frames ∧ 8 + (n + 11) + rm.locals ≤ R.locals
theorem sw_1 : ∀ w ∈ (sx_at nr_FB 132 "java/lang/IllegalStateException" 7 Bundle.six sy_up).filter goodWord, w ∈ wl := by
  have h9 : (sx_at nr_FB 132 "java/lang/IllegalStateException" 7 Bundle.six sy_up).filter goodWord = [41, 161, 170, 175, 178, 180, 162, 163, 55, 56, 164, 169, 176, 196, 151, 197, 153, 198, 155, 165, 167, 157, 192, 193, 195, 157, 183, 184, 185, 186, 186, 187, 188, 189, 189, 190, 191, 192, 182, 140, 148, 149, 150, 152, 154, 156, 160, 159, 158].filterMap (fun i => lw_tbl[i]?) := by decide +kernel
  intro w hw
  have g := (List.mem_filter.mp hw).2
  rw [h9] at hw
  obtain ⟨i, _, h⟩ := List.mem_filterMap.mp hw
  exact List.mem_filter.mpr ⟨List.mem_of_getElem? h, g⟩
theorem sn_1 : ∀ w ∈ (sx_at nr_FB 132 "java/lang/IllegalStateException" 7 Bundle.six sy_up).filter (fun w => !goodWord w), w ∈ sy_nw := by
  have h9 : (sx_at nr_FB 132 "java/lang/IllegalStateException" 7 Bundle.six sy_up).filter (fun w => !goodWord w) = [4, 5, 6, 0].filterMap (fun i => sy_nw[i]?) := by decide +kernel
  intro w hw
  rw [h9] at hw
  obtain ⟨i, _, h⟩ := List.mem_filterMap.mp hw
  exact List.mem_of_getElem? h
theorem so_1 : ∀ w ∈ Cond.classLink nr_FB 128 "java/lang/IllegalStateException" :: Cond.initialized "java/lang/IllegalStateException" :: sx_at nr_FB 132 "java/lang/IllegalStateException" 7 Bundle.six sy_up, vx_ot w = true := by decide +kernel
theorem vv_throw_1 (fx : vv_fix p s m args meth c cc nL ret nr_FB Y) (htab : ∀ x ∈ c.exceptionTable.toList, False) (hl : l.stackTraces = false) {is : Nat} {text : String} (hstr : (is, text) ∈ sy_strs) (d0 : decode cc pc = .ok (.new 128, 3)) (d3 : decode cc (pc + 3) = .ok (.dup, 1)) (d4 : decode cc (pc + 4) = .ok (.ldc is, 2)) (d6 : decode cc (pc + 6) = .ok (.invokespecial 132, 3)) (d9 : decode cc (pc + 9) = .ok (.athrow, 1))
    (hRf : 5 < R.frames) (hRl : 82 ≤ R.locals) (hRc : cells + 1 ≤ R.cells) (hRs : slots + 6 ≤ R.slots) (hx : xf = 1) (hM : Mf = M) (hU : Uf = U) (ho : of_ = o) (hc : cells + 1 ≤ mc) (hs : slots + 6 ≤ ms) : vv p l e R s m args below meth c cells slots (vx_MQ below Qc (ct_XC Y xf Mf Uf of_) args s mc ms Y.2.2.2) nL Y M U o pc L [] := fun H locs ls hP hS hl9 => by
  subst hx; subst hM; subst hU; subst ho
  obtain ⟨hx, hb, hml, hown, hts, hok, -, hlk⟩ := id fx
  obtain ⟨sa, hsa⟩ := hok.2.2.2.2.2.2.1 _ hstr
  exact sx_throw (names := sy_up) (cls := "java/lang/IllegalStateException") (ix := 7) (rx := Bundle.six) (A := Y.2.2.2) hx hb hl (by decide +kernel) (by decide +kernel) (by decide +kernel) (by decide +kernel) hown (by decide +kernel) (by decide +kernel) (hts _ (wl_t1 104 rfl rfl)) (hts _ (wl_t1 9 rfl rfl)) hsa (vx_hat (fun w hw => hts w (sw_1 w hw)) sn_1 (sy_nwB hok.2.2.2)) so_1 hok.2.2.2.1 hok.2.2.2.2.1 hS (hl9.1.trans hml.symm) d0 d3 d4 d6 d9 (fun z hz => (htab z hz).elim) hRf hRl hRc hRs hlk (fun t _ h1 h2 => ct_XCof (by decide) rfl hP hS h1 h2) hS.2.2 hc hs
theorem sw_2 : ∀ w ∈ (sx_at nr_FB 50 "java/lang/IllegalArgumentException" 7 Bundle.six sy_up).filter goodWord, w ∈ wl := by
  have h9 : (sx_at nr_FB 50 "java/lang/IllegalArgumentException" 7 Bundle.six sy_up).filter goodWord = [41, 161, 170, 175, 178, 180, 162, 163, 55, 56, 164, 169, 176, 196, 151, 197, 153, 198, 155, 165, 167, 157, 192, 193, 195, 157, 223, 224, 225, 186, 186, 187, 188, 189, 189, 190, 191, 192, 222, 213, 215, 172, 216, 217, 218, 219, 160, 159, 220].filterMap (fun i => lw_tbl[i]?) := by decide +kernel
  intro w hw
  have g := (List.mem_filter.mp hw).2
  rw [h9] at hw
  obtain ⟨i, _, h⟩ := List.mem_filterMap.mp hw
  exact List.mem_filter.mpr ⟨List.mem_of_getElem? h, g⟩
theorem sn_2 : ∀ w ∈ (sx_at nr_FB 50 "java/lang/IllegalArgumentException" 7 Bundle.six sy_up).filter (fun w => !goodWord w), w ∈ sy_nw := by
  have h9 : (sx_at nr_FB 50 "java/lang/IllegalArgumentException" 7 Bundle.six sy_up).filter (fun w => !goodWord w) = [4, 5, 6, 1].filterMap (fun i => sy_nw[i]?) := by decide +kernel
  intro w hw
  rw [h9] at hw
  obtain ⟨i, _, h⟩ := List.mem_filterMap.mp hw
  exact List.mem_of_getElem? h
theorem so_2 : ∀ w ∈ Cond.classLink nr_FB 46 "java/lang/IllegalArgumentException" :: Cond.initialized "java/lang/IllegalArgumentException" :: sx_at nr_FB 50 "java/lang/IllegalArgumentException" 7 Bundle.six sy_up, vx_ot w = true := by decide +kernel
theorem vv_throw_2 (fx : vv_fix p s m args meth c cc nL ret nr_FB Y) (htab : ∀ x ∈ c.exceptionTable.toList, False) (hl : l.stackTraces = false) {is : Nat} {text : String} (hstr : (is, text) ∈ sy_strs) (d0 : decode cc pc = .ok (.new 46, 3)) (d3 : decode cc (pc + 3) = .ok (.dup, 1)) (d4 : decode cc (pc + 4) = .ok (.ldc is, 2)) (d6 : decode cc (pc + 6) = .ok (.invokespecial 50, 3)) (d9 : decode cc (pc + 9) = .ok (.athrow, 1))
    (hRf : 5 < R.frames) (hRl : 82 ≤ R.locals) (hRc : cells + 1 ≤ R.cells) (hRs : slots + 6 ≤ R.slots) (hx : xf = 2) (hM : Mf = M) (hU : Uf = U) (ho : of_ = o) (hc : cells + 1 ≤ mc) (hs : slots + 6 ≤ ms) : vv p l e R s m args below meth c cells slots (vx_MQ below Qc (ct_XC Y xf Mf Uf of_) args s mc ms Y.2.2.2) nL Y M U o pc L [] := fun H locs ls hP hS hl9 => by
  subst hx; subst hM; subst hU; subst ho
  obtain ⟨hx, hb, hml, hown, hts, hok, -, hlk⟩ := id fx
  obtain ⟨sa, hsa⟩ := hok.2.2.2.2.2.2.1 _ hstr
  exact sx_throw (names := sy_up) (cls := "java/lang/IllegalArgumentException") (ix := 7) (rx := Bundle.six) (A := Y.2.2.2) hx hb hl (by decide +kernel) (by decide +kernel) (by decide +kernel) (by decide +kernel) hown (by decide +kernel) (by decide +kernel) (hts _ (wl_t1 177 rfl rfl)) (hts _ (wl_t1 10 rfl rfl)) hsa (vx_hat (fun w hw => hts w (sw_2 w hw)) sn_2 (sy_nwB hok.2.2.2)) so_2 hok.2.2.2.1 hok.2.2.2.2.1 hS (hl9.1.trans hml.symm) d0 d3 d4 d6 d9 (fun z hz => (htab z hz).elim) hRf hRl hRc hRs hlk (fun t _ h1 h2 => ct_XCof (by decide) rfl hP hS h1 h2) hS.2.2 hc hs
theorem sw_3 : ∀ w ∈ (sx_at nr_FB 109 "java/lang/UnsupportedOperationException" 7 Bundle.six sy_up).filter goodWord, w ∈ wl := by
  have h9 : (sx_at nr_FB 109 "java/lang/UnsupportedOperationException" 7 Bundle.six sy_up).filter goodWord = [41, 161, 170, 175, 178, 180, 162, 163, 55, 56, 164, 169, 176, 196, 151, 197, 153, 198, 155, 165, 167, 157, 192, 193, 195, 157, 281, 282, 283, 186, 186, 187, 188, 189, 189, 190, 191, 192, 280, 271, 273, 173, 274, 275, 276, 277, 160, 159, 278].filterMap (fun i => lw_tbl[i]?) := by decide +kernel
  intro w hw
  have g := (List.mem_filter.mp hw).2
  rw [h9] at hw
  obtain ⟨i, _, h⟩ := List.mem_filterMap.mp hw
  exact List.mem_filter.mpr ⟨List.mem_of_getElem? h, g⟩
theorem sn_3 : ∀ w ∈ (sx_at nr_FB 109 "java/lang/UnsupportedOperationException" 7 Bundle.six sy_up).filter (fun w => !goodWord w), w ∈ sy_nw := by
  have h9 : (sx_at nr_FB 109 "java/lang/UnsupportedOperationException" 7 Bundle.six sy_up).filter (fun w => !goodWord w) = [4, 5, 6, 2].filterMap (fun i => sy_nw[i]?) := by decide +kernel
  intro w hw
  rw [h9] at hw
  obtain ⟨i, _, h⟩ := List.mem_filterMap.mp hw
  exact List.mem_of_getElem? h
theorem so_3 : ∀ w ∈ Cond.classLink nr_FB 105 "java/lang/UnsupportedOperationException" :: Cond.initialized "java/lang/UnsupportedOperationException" :: sx_at nr_FB 109 "java/lang/UnsupportedOperationException" 7 Bundle.six sy_up, vx_ot w = true := by decide +kernel
theorem vv_throw_3 (fx : vv_fix p s m args meth c cc nL ret nr_FB Y) (htab : ∀ x ∈ c.exceptionTable.toList, False) (hl : l.stackTraces = false) {is : Nat} {text : String} (hstr : (is, text) ∈ sy_strs) (d0 : decode cc pc = .ok (.new 105, 3)) (d3 : decode cc (pc + 3) = .ok (.dup, 1)) (d4 : decode cc (pc + 4) = .ok (.ldc is, 2)) (d6 : decode cc (pc + 6) = .ok (.invokespecial 109, 3)) (d9 : decode cc (pc + 9) = .ok (.athrow, 1))
    (hRf : 5 < R.frames) (hRl : 82 ≤ R.locals) (hRc : cells + 1 ≤ R.cells) (hRs : slots + 6 ≤ R.slots) (hx : xf = 3) (hM : Mf = M) (hU : Uf = U) (ho : of_ = o) (hc : cells + 1 ≤ mc) (hs : slots + 6 ≤ ms) : vv p l e R s m args below meth c cells slots (vx_MQ below Qc (ct_XC Y xf Mf Uf of_) args s mc ms Y.2.2.2) nL Y M U o pc L [] := fun H locs ls hP hS hl9 => by
  subst hx; subst hM; subst hU; subst ho
  obtain ⟨hx, hb, hml, hown, hts, hok, -, hlk⟩ := id fx
  obtain ⟨sa, hsa⟩ := hok.2.2.2.2.2.2.1 _ hstr
  exact sx_throw (names := sy_up) (cls := "java/lang/UnsupportedOperationException") (ix := 7) (rx := Bundle.six) (A := Y.2.2.2) hx hb hl (by decide +kernel) (by decide +kernel) (by decide +kernel) (by decide +kernel) hown (by decide +kernel) (by decide +kernel) (hts _ (wl_t1 235 rfl rfl)) (hts _ (wl_t1 11 rfl rfl)) hsa (vx_hat (fun w hw => hts w (sw_3 w hw)) sn_3 (sy_nwB hok.2.2.2)) so_3 hok.2.2.2.1 hok.2.2.2.2.1 hS (hl9.1.trans hml.symm) d0 d3 d4 d6 d9 (fun z hz => (htab z hz).elim) hRf hRl hRc hRs hlk (fun t _ h1 h2 => ct_XCof (by decide) rfl hP hS h1 h2) hS.2.2 hc hs
theorem sw_4 : ∀ w ∈ (sx_at nr_FB 156 "java/util/NoSuchElementException" 13 prog_15_method_4_code sy_up).filter goodWord, w ∈ wl := by
  have h9 : (sx_at nr_FB 156 "java/util/NoSuchElementException" 13 prog_15_method_4_code sy_up).filter goodWord = [41, 161, 170, 175, 178, 180, 162, 163, 55, 56, 164, 169, 176, 196, 151, 197, 153, 198, 155, 165, 167, 157, 192, 193, 195, 157, 330, 331, 332, 186, 186, 187, 188, 189, 189, 190, 191, 192, 329, 320, 322, 174, 323, 324, 325, 326, 160, 159, 327].filterMap (fun i => lw_tbl[i]?) := by decide +kernel
  intro w hw
  have g := (List.mem_filter.mp hw).2
  rw [h9] at hw
  obtain ⟨i, _, h⟩ := List.mem_filterMap.mp hw
  exact List.mem_filter.mpr ⟨List.mem_of_getElem? h, g⟩
theorem sn_4 : ∀ w ∈ (sx_at nr_FB 156 "java/util/NoSuchElementException" 13 prog_15_method_4_code sy_up).filter (fun w => !goodWord w), w ∈ sy_nw := by
  have h9 : (sx_at nr_FB 156 "java/util/NoSuchElementException" 13 prog_15_method_4_code sy_up).filter (fun w => !goodWord w) = [4, 5, 6, 3].filterMap (fun i => sy_nw[i]?) := by decide +kernel
  intro w hw
  rw [h9] at hw
  obtain ⟨i, _, h⟩ := List.mem_filterMap.mp hw
  exact List.mem_of_getElem? h
theorem so_4 : ∀ w ∈ Cond.classLink nr_FB 152 "java/util/NoSuchElementException" :: Cond.initialized "java/util/NoSuchElementException" :: sx_at nr_FB 156 "java/util/NoSuchElementException" 13 prog_15_method_4_code sy_up, vx_ot w = true := by decide +kernel
theorem vv_throw_4 (fx : vv_fix p s m args meth c cc nL ret nr_FB Y) (htab : ∀ x ∈ c.exceptionTable.toList, False) (hl : l.stackTraces = false) {is : Nat} {text : String} (hstr : (is, text) ∈ sy_strs) (d0 : decode cc pc = .ok (.new 152, 3)) (d3 : decode cc (pc + 3) = .ok (.dup, 1)) (d4 : decode cc (pc + 4) = .ok (.ldc is, 2)) (d6 : decode cc (pc + 6) = .ok (.invokespecial 156, 3)) (d9 : decode cc (pc + 9) = .ok (.athrow, 1))
    (hRf : 5 < R.frames) (hRl : 82 ≤ R.locals) (hRc : cells + 1 ≤ R.cells) (hRs : slots + 6 ≤ R.slots) (hx : xf = 4) (hM : Mf = M) (hU : Uf = U) (ho : of_ = o) (hc : cells + 1 ≤ mc) (hs : slots + 6 ≤ ms) : vv p l e R s m args below meth c cells slots (vx_MQ below Qc (ct_XC Y xf Mf Uf of_) args s mc ms Y.2.2.2) nL Y M U o pc L [] := fun H locs ls hP hS hl9 => by
  subst hx; subst hM; subst hU; subst ho
  obtain ⟨hx, hb, hml, hown, hts, hok, -, hlk⟩ := id fx
  obtain ⟨sa, hsa⟩ := hok.2.2.2.2.2.2.1 _ hstr
  exact sx_throw (names := sy_up) (cls := "java/util/NoSuchElementException") (ix := 13) (rx := prog_15_method_4_code) (A := Y.2.2.2) hx hb hl (by decide +kernel) (by decide +kernel) (by decide +kernel) (by decide +kernel) hown (by decide +kernel) (by decide +kernel) (hts _ (wl_t2 44 rfl rfl)) (hts _ (wl_t1 12 rfl rfl)) hsa (vx_hat (fun w hw => hts w (sw_4 w hw)) sn_4 (sy_nwB hok.2.2.2)) so_4 hok.2.2.2.1 hok.2.2.2.2.1 hS (hl9.1.trans hml.symm) d0 d3 d4 d6 d9 (fun z hz => (htab z hz).elim) hRf hRl hRc hRs hlk (fun t _ h1 h2 => ct_XCof (by decide) rfl hP hS h1 h2) hS.2.2 hc hs
theorem vv_callVxi (fx : vv_fix p s m args meth c cc nL ret own Y) (htab : ∀ x ∈ c.exceptionTable.toList, False) {y : MethodName} {b2 : ByteArray} {n2 : Nat} {ret2 : Option FieldType} {rm2 : Room} {a x2 mc2 ms2 : Nat} {As : List Value} {r : Int32} {C : String} {T : u_T} {N ci index : Nat} {fs : List Value} (hct : ct_IX l y b2 n2 ret2 rm2 Y (.ref a :: As) M U o x2 r M' U' o' mc2 ms2)
    (h1 : Cond.methodLink own index y ∈ wl) (h2 : Cond.instanceMethod y ∈ wl) (h3 : Cond.selects C y y ∈ wl) (h4 : Cond.initialized C ∈ wl) (h5 : Cond.code y b2 n2 ret2 ∈ wl) (hi : y.cls = C ∧ y.cls ≠ "java/lang/invoke/MethodHandle" ∧ y.cls ≠ "java/lang/invoke/VarHandle" ∧ (parseMethodDescriptor y.desc).map (fun d => d.parameters.length) = some As.length)
    (q0 : Nat) (he : (sy_w Y M U o)[q0]? = some (a, .inr (ci, fs))) (hc : sy_cl[ci]? = some (C, T, N)) (hR : ct_CX R rm2 n2 mc2 ms2) (hcs : cells + mc2 ≤ R.cells ∧ slots + ms2 ≤ R.slots) (hst : (st.map fun v => v.category).sum ≤ 8) (hd : decode cc pc = .ok (.invokevirtual index, 3)) {S9 : List Value} (hS9 : S9 = As.reverse ++ .ref a :: st)
    (hx : x2 ≠ 0 → xf = x2 ∧ Mf = M' ∧ Uf = U' ∧ of_ = o') (hcm : cells + mc2 ≤ mc) (hsm : slots + ms2 ≤ ms)
    (kk : x2 = 0 → vv p l e R s m args below meth c (cells + mc2) (slots + ms2) (vx_MQ below Qc (ct_XC Y xf Mf Uf of_) args s mc ms Y.2.2.2) nL Y M' U' o' (pc + 3) L (.int r :: st)) : vv p l e R s m args below meth c cells slots (vx_MQ below Qc (ct_XC Y xf Mf Uf of_) args s mc ms Y.2.2.2) nL Y M U o pc L S9 := fun H locs ls hP hS hl => by
  subst hS9
  obtain ⟨hx0, hb, hml, hown, hts, hok, -, hlk⟩ := id fx
  have hG : GoodIn wl (wsV own index C y (.code y b2 n2 ret2 :: wl)) := ct_goodL (fun w hw => by
    simp only [List.mem_cons, List.not_mem_nil, or_false] at hw
    rcases hw with rfl | rfl | rfl | rfl
    · exact h1
    · exact h2
    · exact h3
    · exact h4) (ct_good (own := own) (C := C) (index := index) h5)
  refine vx_calli (vx_runV (As := As) (rest := st) ⟨hx0, hb, hml, hown, hts⟩ hct (cwV As.length hts hG rfl hR.1 hR.2.1 hi ⟨hR.2.2.1, hR.2.2.2⟩) ⟨ct_blind Y _ M U o, va_recv hok.1 hP hc he, fun S hS1 hW => ⟨rfl, by rw [hS1]; exact sy_ok_go hW hS hok, by rw [hS1]; exact hP⟩⟩ rfl rfl hl.1 rfl (lv_room hst) hd ⟨hcs.1, hcs.2⟩) hS (fun q _ h => h) (fun q h => h) (fun q _ h => h) (fun E ce q9 u t H1 locs1 ht hvm _ hB _ _ hS1 hce hcv hcl => ?_) (fun r2 u t H1 locs1 ht hvm hr hB _ _ hS1 => ?_)
  · obtain ⟨g1, g2, g3⟩ := hB
    obtain ⟨rfl, rfl, rfl, rfl⟩ := hx g1
    exact vx_out (fun z hz => (htab z hz).elim) hlk hce hcv hcl (fun t2 h9 _ => ct_XCof g1 g2 (by rw [← ht]; exact g3) hS1 (by rw [h9]; exact Nat.le_refl _) (fun q _ => by rw [h9])) hS1.2.2 hcm hsm
  · obtain ⟨hr1, hr2⟩ := hr
    subst hr2
    exact kk hr1 H1 locs1 ls (by rw [← ht]; exact hB) hS1 hl
theorem vv_callVxv (fx : vv_fix p s m args meth c cc nL ret own Y) (htab : ∀ x ∈ c.exceptionTable.toList, False) {y : MethodName} {b2 : ByteArray} {n2 : Nat} {rm2 : Room} {a x2 mc2 ms2 : Nat} {As : List Value} {C : String} {T : u_T} {N ci index : Nat} {fs : List Value} (hct : ct_VX l y b2 n2 rm2 Y (.ref a :: As) M U o x2 M' U' o' mc2 ms2)
    (h1 : Cond.methodLink own index y ∈ wl) (h2 : Cond.instanceMethod y ∈ wl) (h3 : Cond.selects C y y ∈ wl) (h4 : Cond.initialized C ∈ wl) (h5 : Cond.code y b2 n2 none ∈ wl) (hi : y.cls = C ∧ y.cls ≠ "java/lang/invoke/MethodHandle" ∧ y.cls ≠ "java/lang/invoke/VarHandle" ∧ (parseMethodDescriptor y.desc).map (fun d => d.parameters.length) = some As.length)
    (q0 : Nat) (he : (sy_w Y M U o)[q0]? = some (a, .inr (ci, fs))) (hc : sy_cl[ci]? = some (C, T, N)) (hR : ct_CX R rm2 n2 mc2 ms2) (hcs : cells + mc2 ≤ R.cells ∧ slots + ms2 ≤ R.slots) (hst : (st.map fun v => v.category).sum ≤ 8) (hd : decode cc pc = .ok (.invokevirtual index, 3)) {S9 : List Value} (hS9 : S9 = As.reverse ++ .ref a :: st)
    (hx : x2 ≠ 0 → xf = x2 ∧ Mf = M' ∧ Uf = U' ∧ of_ = o') (hcm : cells + mc2 ≤ mc) (hsm : slots + ms2 ≤ ms)
    (kk : x2 = 0 → vv p l e R s m args below meth c (cells + mc2) (slots + ms2) (vx_MQ below Qc (ct_XC Y xf Mf Uf of_) args s mc ms Y.2.2.2) nL Y M' U' o' (pc + 3) L st) : vv p l e R s m args below meth c cells slots (vx_MQ below Qc (ct_XC Y xf Mf Uf of_) args s mc ms Y.2.2.2) nL Y M U o pc L S9 := fun H locs ls hP hS hl => by
  subst hS9
  obtain ⟨hx0, hb, hml, hown, hts, hok, -, hlk⟩ := id fx
  have hG : GoodIn wl (wsV own index C y (.code y b2 n2 none :: wl)) := ct_goodL (fun w hw => by
    simp only [List.mem_cons, List.not_mem_nil, or_false] at hw
    rcases hw with rfl | rfl | rfl | rfl
    · exact h1
    · exact h2
    · exact h3
    · exact h4) (ct_good (own := own) (C := C) (index := index) h5)
  refine vx_callv (vx_runV (As := As) (rest := st) ⟨hx0, hb, hml, hown, hts⟩ hct (cwV As.length hts hG rfl hR.1 hR.2.1 hi ⟨hR.2.2.1, hR.2.2.2⟩) ⟨ct_blind Y _ M U o, va_recv hok.1 hP hc he, fun S hS1 hW => ⟨rfl, by rw [hS1]; exact sy_ok_go hW hS hok, by rw [hS1]; exact hP⟩⟩ rfl rfl hl.1 rfl (lv_room hst) hd ⟨hcs.1, hcs.2⟩) hS (fun q _ h => h) (fun q h => h) (fun q _ h => h) (fun E ce q9 u t H1 locs1 ht hvm _ hB _ _ hS1 hce hcv hcl => ?_) (fun u t H1 locs1 ht hvm hr hB _ _ hS1 => ?_)
  · obtain ⟨g1, g2, g3⟩ := hB
    obtain ⟨rfl, rfl, rfl, rfl⟩ := hx g1
    exact vx_out (fun z hz => (htab z hz).elim) hlk hce hcv hcl (fun t2 h9 _ => ct_XCof g1 g2 (by rw [← ht]; exact g3) hS1 (by rw [h9]; exact Nat.le_refl _) (fun q _ => by rw [h9])) hS1.2.2 hcm hsm
  · exact kk hr H1 locs1 ls (by rw [← ht]; exact hB) hS1 hl
end
