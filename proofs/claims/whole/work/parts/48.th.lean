/-! what a throw and a catch need of the start, and how it goes on -/
def sy_X : List String := ["java/lang/IllegalStateException", "java/lang/IllegalArgumentException", "java/lang/UnsupportedOperationException", "java/util/NoSuchElementException"]
def sy_nw : List Cond := [.castable "java/lang/IllegalStateException" "java/lang/IllegalStateException", .castable "java/lang/IllegalArgumentException" "java/lang/IllegalArgumentException", .castable "java/lang/UnsupportedOperationException" "java/lang/UnsupportedOperationException", .castable "java/util/NoSuchElementException" "java/util/NoSuchElementException", .declares (Bundle.initS "java/lang/RuntimeException"), .declares (Bundle.initS "java/lang/Exception"), .declares (Bundle.initS Bundle.tN)]
def sy_strs : List (Nat × String) := [(48, "no such key"), (107, "all snapshots are there"), (130, "the power failed"), (143, "the store is down"), (148, "no map of this handle"), (150, "no snapshot of this number"), (154, "the key is not bound"), (161, "no room")]
def sy_nc : List (String × String) := sy_X.flatMap (fun a => sy_X.filterMap (fun b => if a = b then none else some (a, b)))
def sy_th (Y : sy_Y) (S : State) (H : Heap) : Prop := vx_Zq Bundle.tN "UNASSIGNED_STACK" Bundle.steD Y.2.2.2 S H ∧ vx_Zq Bundle.tN "SUPPRESSED_SENTINEL" Bundle.listD Y.2.2.2 S H ∧ (∀ w ∈ sy_nw, va_Nw w S) ∧ (∀ q ∈ sy_strs, ∃ sa, vk_R nr_FB q.1 q.2 sa S) ∧ (∀ q ∈ sy_nc, va_Nc q.1 q.2 S)
def sy_ok (Y : sy_Y) (S : State) (H : Heap) : Prop := va_K Y.1 sy_cl (sy_tys Y) S ∧ (∀ q : Nat, H.size ≤ q → Y.2.2.2 q) ∧ (∀ (M U : me_M) (o : Int64), va_D Y.2.2.2 (sy_w Y M U o)) ∧ sy_th Y S H
theorem sy_th_go {Y : sy_Y} {s U : State} {H H1 : Heap} (hW : s.WarmedH U.vm) (hq : ∀ a : Nat, a < H.size → ¬ Y.2.2.2 a → H1[a]? = H[a]?) (h : sy_th Y s H) : sy_th Y U H1 := by
  obtain ⟨h1, h2, h3, h4, h5⟩ := h
  refine ⟨vx_Zq.kept (vx_Zq.moved hW.alike h1) hq, vx_Zq.kept (vx_Zq.moved hW.alike h2) hq, fun w hw => ?_, fun q hq => ?_, fun q hq => ?_⟩
  · have h := h3 w hw
    simp only [sy_nw, List.mem_cons, List.not_mem_nil, or_false] at hw
    rcases hw with rfl | rfl | rfl | rfl | rfl | rfl | rfl
    · exact va_Nw.warmC hW h
    · exact va_Nw.warmC hW h
    · exact va_Nw.warmC hW h
    · exact va_Nw.warmC hW h
    · exact va_Nw.warmD hW h
    · exact va_Nw.warmD hW h
    · exact va_Nw.warmD hW h
  · obtain ⟨sa, h⟩ := h4 q hq
    exact ⟨sa, vk_R.warm hW h⟩
  · exact va_Nc.moved hW.alike (h5 q hq)
theorem sy_ok_go {Y : sy_Y} {s U : State} {H : Heap} {locs : List Loc} (hW : s.WarmedH U.vm) (hS : va_S Y.2.2.2 s.heap H locs) (h : sy_ok Y s s.heap) : sy_ok Y U H := by
  obtain ⟨h1, h2, h3, h4⟩ := h
  exact ⟨va_K.moved hW.alike h1, fun q hq => h2 q (Nat.le_trans hS.1 hq), h3, sy_th_go hW hS.2.1 h4⟩
