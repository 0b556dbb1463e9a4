/-! contracts over the whole world: ct_I an answer, ct_V none; their bodies, ends and calls -/
def ct_P (Y : sy_Y) (as : List Value) (M U : me_M) (o : Int64) : Array Value → State → Prop := va_Pc as (fun S => sy_ok Y S S.heap ∧ va_P Y.1 sy_cl (sy_w Y M U o) S.heap)
def ct_Qi (Y : sy_Y) (r : Int32) (M U : me_M) (o : Int64) : Array Value → State → Outcome → State → Prop := va_Qi (fun r2 (_ : Unit) => r2 = r) (fun _ t => va_P Y.1 sy_cl (sy_w Y M U o) t.heap) Y.2.2.2
def ct_Qv (Y : sy_Y) (M U : me_M) (o : Int64) : Array Value → State → Outcome → State → Prop := va_Qv (fun (_ : Unit) => True) (fun _ t => va_P Y.1 sy_cl (sy_w Y M U o) t.heap) Y.2.2.2
abbrev ct_I (l : Launch) (y : MethodName) (b : ByteArray) (n : Nat) (ret : Option FieldType) (rm : Room) (Y : sy_Y) (as : List Value) (M U : me_M) (o : Int64) (r : Int32) (M' U' : me_M) (o' : Int64) : Prop := Met l y (.code y b n ret :: wl) rm (ct_P Y as M U o) (ct_Qi Y r M' U' o') 0 0 Y.2.2.2
abbrev ct_V (l : Launch) (y : MethodName) (b : ByteArray) (n : Nat) (rm : Room) (Y : sy_Y) (as : List Value) (M U : me_M) (o : Int64) (M' U' : me_M) (o' : Int64) : Prop := Met l y (.code y b n none :: wl) rm (ct_P Y as M U o) (ct_Qv Y M' U' o') 0 0 Y.2.2.2
theorem ct_blind (Y : sy_Y) (as : List Value) (M U : me_M) (o : Int64) : FrameBlind (ct_P Y as M U o) := by
  intro a S g mk h
  obtain ⟨h1, h2, h3⟩ := h
  exact ⟨h1, sy_ok_go (s := S) (U := S.calling g mk a) (H := S.heap) (locs := []) (State.WarmedH.refl S) va_S.rf h2, h3⟩
theorem ct_body {l : Launch} {y : MethodName} {b : ByteArray} {n : Nat} {ret : Option FieldType} {rm : Room} {Y : sy_Y} {as : List Value} {M U : me_M} {o : Int64} {Qc : Array Value → State → Outcome → State → Prop} {own : String} (hy : plainName y.cls = true) (ho : y.cls = own) (hlen : (lg_sl as).length ≤ n) {L0 : List (Nat × Value)} (hL0 : lv_args 0 as = L0)
    (body : ∀ (p : Program) (e : Env) (s : State) (m : MethodId) (args : Array Value) (below : List Frame) (meth : Method) (c : Code), vv_fix p s m args meth c b n ret own Y → vv p l e rm s m args below meth c 0 0 (MQ below Qc args s 0 0 Y.2.2.2) n Y M U o 0 L0 []) :
    Met l y (.code y b n ret :: wl) rm (ct_P Y as M U o) Qc 0 0 Y.2.2.2 := by
  refine Met.ofW (cc := b) (maxL := n) (ret := ret) hy rfl ?_
  intro p e s m args below meth c s₁ B hml hv
  obtain ⟨rfl, hok, hP⟩ := hv
  have hown : s.vm.findClass y.cls = some m.cls := findClass_of_methodNamed B.named
  have fx : vv_fix p s m as.toArray meth c b n ret own Y := ⟨B.exec, B.bytes, hml, by rw [← ho]; exact hown, fun w hw => atoms_spec (ws := .code y b n ret :: wl) B.pre w (List.mem_cons_of_mem _ hw), hok, B.returns, B.notSynchronized⟩
  have hl := lv_entry as (n := n) hlen
  rw [hL0] at hl
  rw [lg_entry_eq]
  exact body p e s m as.toArray below meth c fx s.heap [] _ hP va_S.rf hl
theorem ct_good {own C : String} {index n : Nat} {y : MethodName} {b : ByteArray} {ret : Option FieldType} (h5 : Cond.code y b n ret ∈ wl) : GoodIn wl (.code y b n ret :: wl) := by
  intro w hw
  have h : w ∈ wl := (List.mem_cons.mp hw).elim (fun e => by rw [e]; exact h5) id
  exact ⟨h, good_of_word (wl_good h)⟩
theorem ct_goodL {L ws : List Cond} (h1 : ∀ w ∈ L, w ∈ wl) (h2 : GoodIn wl ws) : GoodIn wl (L ++ ws) := fun w hw => (List.mem_append.mp hw).elim (fun h => ⟨h1 w h, good_of_word (wl_good (h1 w h))⟩) (h2 w)
section
variable {p : Program} {l : Launch} {e : Env} {R : Room} {s : State} {m : MethodId} {args : Array Value} {below : List Frame} {meth : Method} {c : Code} {cells slots : Nat} {Q : State → Prop}
variable {cc : ByteArray} {nL : Nat} {ret : Option FieldType} {own : String} {Y : sy_Y} {M U M' U' : me_M} {o o' : Int64} {pc : Nat} {L L' : List (Nat × Value)} {st : List Value}
theorem vv_iret (fx : vv_fix p s m args meth c cc nL ret own Y) (hret : ret = some .int) (hd : decode cc pc = .ok (.ireturn, 1)) {x r : Int32} (e9 : x = r) : vv p l e R s m args below meth c cells slots (MQ below (ct_Qi Y r M U o) args s cells slots Y.2.2.2) nL Y M U o pc L [.int x] := fun H locs ls hP hS hl =>
  W.iret (v := x) fx.1 fx.2.1 (fx.2.2.2.2.2.2.1.trans hret) (fun t ht hW => ⟨⟨x, (), rfl, e9, by show va_P _ _ _ t.heap; rw [ht]; exact hP⟩, hS.F ht⟩) hS.2.2 hd fx.2.2.2.2.2.2.2
theorem vv_zret (fx : vv_fix p s m args meth c cc nL ret own Y) (hret : ret = some .boolean) (hd : decode cc pc = .ok (.ireturn, 1)) {x r : Int32} (e9 : x = r) (h01 : r = 0 ∨ r = 1) : vv p l e R s m args below meth c cells slots (MQ below (ct_Qi Y r M U o) args s cells slots Y.2.2.2) nL Y M U o pc L [.int x] := fun H locs ls hP hS hl =>
  W.zret (v := x) fx.1 fx.2.1 (fx.2.2.2.2.2.2.1.trans hret) (by rw [e9]; rcases h01 with rfl | rfl <;> rfl) (fun t ht hW => ⟨⟨x, (), rfl, e9, by show va_P _ _ _ t.heap; rw [ht]; exact hP⟩, hS.F ht⟩) hS.2.2 hd fx.2.2.2.2.2.2.2
theorem vv_vret (fx : vv_fix p s m args meth c cc nL ret own Y) (hret : ret = none) (hd : decode cc pc = .ok (.return_, 1)) : vv p l e R s m args below meth c cells slots (MQ below (ct_Qv Y M U o) args s cells slots Y.2.2.2) nL Y M U o pc L [] := fun H locs ls hP hS hl =>
  W.vret fx.1 fx.2.1 (fx.2.2.2.2.2.2.1.trans hret) (fun t ht hW => ⟨⟨(), rfl, trivial, by show va_P _ _ _ t.heap; rw [ht]; exact hP⟩, hS.F ht⟩) hS.2.2 hd fx.2.2.2.2.2.2.2
/-- the words and the room of a call -/
def ct_C (R rm : Room) (n : Nat) : Prop := rm.cells = 0 ∧ rm.slots = 0 ∧ rm.frames + 1 ≤ R.frames ∧ 8 + (n + 11) + rm.locals ≤ R.locals
theorem vv_callVi (fx : vv_fix p s m args meth c cc nL ret own Y) {y : MethodName} {b2 : ByteArray} {n2 : Nat} {ret2 : Option FieldType} {rm2 : Room} {a : Nat} {As : List Value} {r : Int32} {C : String} {T : u_T} {N ci index : Nat} {fs : List Value} (hct : ct_I l y b2 n2 ret2 rm2 Y (.ref a :: As) M U o r M' U' o')
    (h1 : Cond.methodLink own index y ∈ wl) (h2 : Cond.instanceMethod y ∈ wl) (h3 : Cond.selects C y y ∈ wl) (h4 : Cond.initialized C ∈ wl) (h5 : Cond.code y b2 n2 ret2 ∈ wl) (hi : y.cls = C ∧ y.cls ≠ "java/lang/invoke/MethodHandle" ∧ y.cls ≠ "java/lang/invoke/VarHandle" ∧ (parseMethodDescriptor y.desc).map (fun d => d.parameters.length) = some As.length)
    (q0 : Nat) (he : (sy_w Y M U o)[q0]? = some (a, .inr (ci, fs))) (hc : sy_cl[ci]? = some (C, T, N)) (hR : ct_C R rm2 n2) (hcs : cells ≤ R.cells ∧ slots ≤ R.slots) (hst : (st.map fun v => v.category).sum ≤ 8) (hd : decode cc pc = .ok (.invokevirtual index, 3)) {S9 : List Value} (hS9 : S9 = As.reverse ++ .ref a :: st)
    (kk : vv p l e R s m args below meth c cells slots Q nL Y M' U' o' (pc + 3) L (.int r :: st)) : vv p l e R s m args below meth c cells slots Q nL Y M U o pc L S9 := fun H locs ls hP hS hl => by
  subst hS9
  obtain ⟨hx, hb, hml, hown, hts, hok, -, -⟩ := id fx
  have hG : GoodIn wl (wsV own index C y (.code y b2 n2 ret2 :: wl)) := ct_goodL (fun w hw => by
    simp only [List.mem_cons, List.not_mem_nil, or_false] at hw
    rcases hw with rfl | rfl | rfl | rfl
    · exact h1
    · exact h2
    · exact h3
    · exact h4) (ct_good (own := own) (C := C) (index := index) h5)
  refine va_calli (va_runV (As := As) (rest := st) ⟨hx, hb, hml, hown, hts⟩ hct (cwV As.length hts hG rfl hR.1 hR.2.1 hi ⟨hR.2.2.1, hR.2.2.2⟩) ⟨ct_blind Y _ M U o, va_recv hok.1 hP hc he, fun S hS1 hW => ⟨rfl, by rw [hS1]; exact sy_ok_go hW hS hok, by rw [hS1]; exact hP⟩⟩ rfl rfl hl.1 rfl (lv_room hst) hd ⟨hcs.1, hcs.2⟩) hS (fun q _ h => h) (fun q h => h) (fun r2 u t H1 locs1 ht hvm hr hB _ _ hS1 => ?_)
  subst hr
  exact kk H1 locs1 ls (by rw [← ht]; exact hB) hS1 hl
theorem vv_callVv (fx : vv_fix p s m args meth c cc nL ret own Y) {y : MethodName} {b2 : ByteArray} {n2 : Nat} {rm2 : Room} {a : Nat} {As : List Value} {C : String} {T : u_T} {N ci index : Nat} {fs : List Value} (hct : ct_V l y b2 n2 rm2 Y (.ref a :: As) M U o M' U' o')
    (h1 : Cond.methodLink own index y ∈ wl) (h2 : Cond.instanceMethod y ∈ wl) (h3 : Cond.selects C y y ∈ wl) (h4 : Cond.initialized C ∈ wl) (h5 : Cond.code y b2 n2 none ∈ wl) (hi : y.cls = C ∧ y.cls ≠ "java/lang/invoke/MethodHandle" ∧ y.cls ≠ "java/lang/invoke/VarHandle" ∧ (parseMethodDescriptor y.desc).map (fun d => d.parameters.length) = some As.length)
    (q0 : Nat) (he : (sy_w Y M U o)[q0]? = some (a, .inr (ci, fs))) (hc : sy_cl[ci]? = some (C, T, N)) (hR : ct_C R rm2 n2) (hcs : cells ≤ R.cells ∧ slots ≤ R.slots) (hst : (st.map fun v => v.category).sum ≤ 8) (hd : decode cc pc = .ok (.invokevirtual index, 3)) {S9 : List Value} (hS9 : S9 = As.reverse ++ .ref a :: st)
    (kk : vv p l e R s m args below meth c cells slots Q nL Y M' U' o' (pc + 3) L st) : vv p l e R s m args below meth c cells slots Q nL Y M U o pc L S9 := fun H locs ls hP hS hl => by
  subst hS9
  obtain ⟨hx, hb, hml, hown, hts, hok, -, -⟩ := id fx
  have hG : GoodIn wl (wsV own index C y (.code y b2 n2 none :: wl)) := ct_goodL (fun w hw => by
    simp only [List.mem_cons, List.not_mem_nil, or_false] at hw
    rcases hw with rfl | rfl | rfl | rfl
    · exact h1
    · exact h2
    · exact h3
    · exact h4) (ct_good (own := own) (C := C) (index := index) h5)
  refine va_callv (va_runV (As := As) (rest := st) ⟨hx, hb, hml, hown, hts⟩ hct (cwV As.length hts hG rfl hR.1 hR.2.1 hi ⟨hR.2.2.1, hR.2.2.2⟩) ⟨ct_blind Y _ M U o, va_recv hok.1 hP hc he, fun S hS1 hW => ⟨rfl, by rw [hS1]; exact sy_ok_go hW hS hok, by rw [hS1]; exact hP⟩⟩ rfl rfl hl.1 rfl (lv_room hst) hd ⟨hcs.1, hcs.2⟩) hS (fun q _ h => h) (fun q h => h) (fun u t H1 locs1 ht hvm hr hB _ _ hS1 => ?_)
  exact kk H1 locs1 ls (by rw [← ht]; exact hB) hS1 hl
theorem vv_callSi (fx : vv_fix p s m args meth c cc nL ret own Y) {y : MethodName} {b2 : ByteArray} {n2 : Nat} {ret2 : Option FieldType} {rm2 : Room} {As : List Value} {r : Int32} {index : Nat} (hct : ct_I l y b2 n2 ret2 rm2 Y As M U o r M' U' o')
    (h1 : Cond.methodLink own index y ∈ wl) (h2 : Cond.static y ∈ wl) (h4 : Cond.initialized own ∈ wl) (h5 : Cond.code y b2 n2 ret2 ∈ wl) (hi : y.cls = own ∧ y.cls ≠ "java/lang/invoke/MethodHandle" ∧ y.cls ≠ "java/lang/invoke/VarHandle" ∧ (parseMethodDescriptor y.desc).map (fun d => d.parameters.length) = some As.length)
    (hR : ct_C R rm2 n2) (hcs : cells ≤ R.cells ∧ slots ≤ R.slots) (hst : (st.map fun v => v.category).sum ≤ 8) (hd : decode cc pc = .ok (.invokestatic index, 3)) {S9 : List Value} (hS9 : S9 = As.reverse ++ st)
    (kk : vv p l e R s m args below meth c cells slots Q nL Y M' U' o' (pc + 3) L (.int r :: st)) : vv p l e R s m args below meth c cells slots Q nL Y M U o pc L S9 := fun H locs ls hP hS hl => by
  subst hS9
  obtain ⟨hx, hb, hml, hown, hts, hok, -, -⟩ := id fx
  have hG : GoodIn wl (wsS own index y (.code y b2 n2 ret2 :: wl)) := ct_goodL (fun w hw => by
    simp only [List.mem_cons, List.not_mem_nil, or_false] at hw
    rcases hw with rfl | rfl | rfl
    · exact h1
    · exact h2
    · exact h4) (ct_good (own := own) (C := own) (index := index) h5)
  refine va_calli (va_runS (As := As) (rest := st) ⟨hx, hb, hml, hown, hts⟩ hct (cwS As.length hts hG rfl hR.1 hR.2.1 hi ⟨hR.2.2.1, hR.2.2.2⟩) ⟨ct_blind Y _ M U o, fun S hS1 hW => ⟨rfl, by rw [hS1]; exact sy_ok_go hW hS hok, by rw [hS1]; exact hP⟩⟩ rfl rfl hl.1 rfl (lv_room hst) hd ⟨hcs.1, hcs.2⟩) hS (fun q _ h => h) (fun q h => h) (fun r2 u t H1 locs1 ht hvm hr hB _ _ hS1 => ?_)
  subst hr
  exact kk H1 locs1 ls (by rw [← ht]; exact hB) hS1 hl
end
