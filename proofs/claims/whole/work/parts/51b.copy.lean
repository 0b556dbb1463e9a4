/-! System.arraycopy between int arrays of the world, from their beginnings -/
theorem nx_nat : Cond.native arraycopyName ∈ wl := wl_t1 50 rfl rfl
theorem nx_sta : Cond.static arraycopyName ∈ wl := wl_t1 49 rfl rfl
theorem nx_ini : Cond.initialized "java/lang/System" ∈ wl := wl_t1 4 rfl rfl
section
variable {p : Program} {l : Launch} {e : Env} {R : Room} {s : State} {m : MethodId} {args : Array Value} {below : List Frame} {meth : Method} {c : Code} {cells slots : Nat} {Q : State → Prop}
variable {cc : ByteArray} {nL : Nat} {ret : Option FieldType} {own : String} {Y : sy_Y} {M U M' U' : me_M} {o o' : Int64} {pc : Nat} {L L' : List (Nat × Value)} {st : List Value}
theorem vv_copy (fx : vv_fix p s m args meth c cc nL ret own Y) {index : Nat} (h1 : Cond.methodLink own index arraycopyName ∈ wl) (q0 q1 : Nat) {a0 a n0 n1 : Nat} {f g : Nat → Int32} (ha0 : (sy_w Y M U o)[q0]? = some (a0, .inl (Y.2.2.1 0, n0, .inl f))) (ha1 : (sy_w Y M U o)[q1]? = some (a, .inl (Y.2.2.1 0, n1, .inl g))) {n : Nat} (hn0 : n ≤ n0) (hn1 : n ≤ n1) (hn : n < 2 ^ 31)
    (hframes : 1 ≤ R.frames) (hlocals : (st.map fun v => v.category).sum + (nativeFrameWords "java/lang/System" "arraycopy" 5 + 11) ≤ R.locals) (hd : decode cc pc = .ok (.invokestatic index, 3)) (hw : (sy_w Y M U o).set q1 (a, .inl (Y.2.2.1 0, n1, .inl (va_cpy f g 0 0 n))) = sy_w Y M' U' o)
    (kk : vv p l e R s m args below meth c cells slots Q nL Y M' U' o (pc + 3) L st) : vv p l e R s m args below meth c cells slots Q nL Y M U o pc L (.int (nI n) :: .int (nI 0) :: .ref a :: .int (nI 0) :: .ref a0 :: st) := fun H locs ls hP hS hl => by
  obtain ⟨hx, hb, hml, hown, hts, hok, -, -⟩ := id fx
  refine va_copyi (D := Y.1) (cl := sy_cl) (tys := sy_tys Y) (ty := .int) hx hb (hml.trans hl.1.symm) hown (hts _ h1) (hts _ nx_nat) (hts _ nx_sta) (hts _ nx_ini) hok.1 hP (hok.2.2.1 M U o) hS q0 q1 0 0 ha0 ha1 rfl rfl rfl (nI_pos (by decide)) (nI_pos (by decide)) (nI_pos hn) (by rw [nI_clamp hn, nI_clamp (by decide)]; omega) (by rw [nI_clamp hn, nI_clamp (by decide)]; omega) (fun _ _ => rfl) hframes hlocals hd (fun H1 locs1 hP1 _ hS1 => ?_)
  rw [nI_clamp hn, nI_clamp (by decide), hw] at hP1
  exact kk H1 locs1 ls hP1 hS1 hl
end
