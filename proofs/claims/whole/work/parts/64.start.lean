/-! the law's beginning, and the claim (printed by start.py) -/
theorem lt_t1 {w : Cond} (i : Nat) (h : tables_1_1[i]? = some w) : w ∈ lw_tbl := List.mem_append_right _ (List.mem_append_left _ (List.mem_of_getElem? h))
theorem lt_t2 {w : Cond} (i : Nat) (h : tables_1_2[i]? = some w) : w ∈ lw_tbl := List.mem_append_right _ (List.mem_append_right _ (List.mem_append_left _ (List.mem_of_getElem? h)))
theorem nj_FB : Cond.instantiable nr_FB 6 ∈ wl := wl_t1 15 rfl rfl
theorem nj_MO : Cond.instantiable nr_MO 10 ∈ wl := wl_t2 204 rfl rfl
theorem nl_FB : Cond.classLink nr_LW 8 nr_FB ∈ wl := wl_t1 14 rfl rfl
theorem nl_MO : Cond.classLink nr_LW 63 nr_MO ∈ wl := wl_t2 203 rfl rfl
theorem nk_long : Cond.arrayClass .long ∈ wl := wl_t3 134 rfl rfl
theorem sy_Pm {D : va_G} {cl : List vw_C} {ws : va_W} {H : Heap} (hP : va_P D cl ws H) : ∀ q ∈ ws, va_at D cl q H := fun q hq => by
  obtain ⟨k, hk⟩ := List.getElem?_of_mem hq
  exact hP k q hk
theorem sy_mP {D : va_G} {cl : List vw_C} {ws : va_W} {H : Heap} (h : ∀ q ∈ ws, va_at D cl q H) : va_P D cl ws H := fun k q hk => h q (List.mem_of_getElem? hk)
theorem sy_Dn {A : Nat → Prop} {ws : va_W} (hD : va_D A ws) : (ws.map (·.1)).Nodup ∧ ∀ a ∈ ws.map (·.1), A a := by
  refine ⟨?_, fun a ha => ?_⟩
  · rw [List.nodup_iff_pairwise_ne] at *
    rw [List.pairwise_iff_getElem]
    intro i j hi hj hij e
    rw [List.length_map] at hi hj
    rw [List.getElem_map, List.getElem_map] at e
    have := hD.1 i j _ _ (List.getElem?_eq_getElem hi) (List.getElem?_eq_getElem hj) e
    omega
  · obtain ⟨q, hq, rfl⟩ := List.mem_map.mp ha
    obtain ⟨k, hk⟩ := List.getElem?_of_mem hq
    exact hD.2 k q hk
theorem sy_nD {A : Nat → Prop} {ws : va_W} (h1 : (ws.map (·.1)).Nodup) (h2 : ∀ a ∈ ws.map (·.1), A a) : va_D A ws := by
  refine ⟨fun i j p q hp hq e => ?_, fun k q hk => h2 _ (List.mem_map.mpr ⟨q, List.mem_of_getElem? hk, rfl⟩)⟩
  apply Classical.byContradiction
  intro hij
  obtain ⟨hi, ep⟩ := List.getElem?_eq_some_iff.mp hp
  obtain ⟨hj, eq⟩ := List.getElem?_eq_some_iff.mp hq
  rw [List.nodup_iff_pairwise_ne, List.pairwise_iff_getElem] at h1
  rcases Nat.lt_or_gt_of_ne hij with h | h
  · refine h1 i j (by rw [List.length_map]; exact hi) (by rw [List.length_map]; exact hj) h ?_
    rw [List.getElem_map, List.getElem_map, ep, eq]; exact e
  · refine h1 j i (by rw [List.length_map]; exact hj) (by rw [List.length_map]; exact hi) h ?_
    rw [List.getElem_map, List.getElem_map, ep, eq]; exact e.symm
/-- the addresses of the whole system, in their order in sy_w -/
def sy_f (h0 h1 q2 q3 q qo qf qm h8 n1 n2 n3 n4 q13 : Nat) (r : Nat → Nat) : Nat → Nat := fun n => match n with
  | 0 => h0
  | 1 => h1
  | 2 => q2
  | 3 => q3
  | 4 => q
  | 5 => qo
  | 6 => qf
  | 7 => qm
  | 8 => h8
  | 9 => n1
  | 10 => n2
  | 11 => n3
  | 12 => n4
  | 13 => q13
  | 14 => 0
  | 15 => 0
  | 16 => 0
  | 17 => 0
  | 18 => 0
  | 19 => 0
  | n + 20 => r n
def sy_g (cI cZ cJ cII : ClassId) : Nat → ClassId := fun n => match n with
  | 0 => cI
  | 1 => cZ
  | 2 => cJ
  | _ => cII
theorem sy_f20 (h0 h1 q2 q3 q qo qf qm h8 n1 n2 n3 n4 q13 : Nat) (r : Nat → Nat) (i : Nat) : sy_f h0 h1 q2 q3 q qo qf qm h8 n1 n2 n3 n4 q13 r (20 + i) = r i := by
  rw [Nat.add_comm]; rfl
def sy_M0 : me_M := fun a => match a with
  | 3 => upd (sy_fl (-1) (fun _ => 0) 7) 0 0
  | 4 => va_cpy (upd (sy_fl (-1) (fun _ => 0) 7) 0 0) (fun _ => 0) 0 0 7
  | 5 => fun j => if j = 2 then -1 else 0
  | _ => fun _ => 0
def sy_U0 : me_M := fun a => match a with
  | 0 => upd (upd (fun _ => 0) 0 1) 7 1
  | 4 => fun j => if j = 4 then -1 else 0
  | _ => fun _ => 0
theorem sy_fl7 {h : Nat} (h0 : 0 < h) (h7 : h < 7) : upd (sy_fl (-1) (fun _ => 0) 7) 0 0 h = -1 := by
  unfold upd sy_fl
  rw [if_neg (by omega), if_pos h7]
theorem sy_I0 : rf_I sy_M0 sy_U0 0 := rf_I0 (fun _ _ => rfl) (fun _ _ => rfl) (fun _ _ => rfl) rfl (fun h h0 h7 => sy_fl7 h0 h7)
  (by show va_cpy (upd (sy_fl (-1) (fun _ => 0) 7) 0 0) (fun _ => 0) 0 0 7 0 = 0; rw [rf_cpy7 _ _ (by decide)]; rfl) (fun h h0 h7 => by show va_cpy (upd (sy_fl (-1) (fun _ => 0) 7) 0 0) (fun _ => 0) 0 0 7 h = -1; rw [rf_cpy7 _ _ h7]; exact sy_fl7 h0 h7)
  rfl rfl rfl rfl rfl (fun m hm h0 h7 => by show upd (upd (fun _ => (0 : Int32)) 0 1) 7 1 m = 0; unfold upd; rw [if_neg h7, if_neg h0]) (fun _ _ => rfl) (fun _ _ => rfl) rfl rfl rfl rfl rfl
theorem sy_waysC (c : ClassId) {f g : Nat → Option Nat} (h : ∀ i, i < 61 → f i = g i) : vp_cell c (61, .inr (.inr (.inr (.inr f)))) = vp_cell c (61, .inr (.inr (.inr (.inr g)))) := by
  have e9 : (fun j : Fin 61 => va_rf (f j.val)) = fun j => va_rf (g j.val) := by funext j; rw [h j.val j.isLt]
  exact congrArg (fun F => ({ cls := c, slots := Array.ofFn (n := 61) F, vm := .none } : Cell)) e9
def sy_Y0 (D : va_G) (A : Nat → Prop) (h0 h1 q2 q3 q qo qf qm h8 n1 n2 n3 n4 q13 : Nat) (r : Nat → Nat) (cI cZ cJ cII : ClassId) : sy_Y := (D, sy_f h0 h1 q2 q3 q qo qf qm h8 n1 n2 n3 n4 q13 r, sy_g cI cZ cJ cII, A)
def sy_moW (h0 q1 q2 q3 q4 : Nat) (cI cZ : ClassId) : va_W := [(h0, .inr (2, [.int 0, .ref q1, .ref q2, .ref q3, .ref q4, .int 0, .int 0, .int 0, .int (-1), .int 0])), (q1, .inl (cZ, 14, .inl (upd (upd (fun _ => 0) 0 1) 7 1))), (q2, .inl (cZ, 896, .inl (fun _ => 0))), (q3, .inl (cI, 896, .inl (fun _ => 0))), (q4, .inl (cI, 294, .inl (fun _ => 0)))]
section
variable {D : va_G} {A : Nat → Prop} {h0 h1 q2 q3 q qo qf qm h8 n1 n2 n3 n4 q13 : Nat} {r : Nat → Nat} {cI cZ cJ cII : ClassId} {H : Heap}
theorem sy_P0 (hP : va_P D sy_cl ((sy_fbW h0 h1 q qo qf qm q2 q3 r cI cZ cII ++ sy_moW h8 n1 n2 n3 n4 cI cZ) ++ [(q13, .inl (cJ, 1, .inr (.inl (fun _ => 0))))]) H) : va_P D sy_cl (sy_w (sy_Y0 D A h0 h1 q2 q3 q qo qf qm h8 n1 n2 n3 n4 q13 r cI cZ cJ cII) sy_M0 sy_U0 0) H := by
  have hm := sy_Pm hP
  have fb : ∀ x ∈ sy_fbW h0 h1 q qo qf qm q2 q3 r cI cZ cII, va_at D sy_cl x H := fun x hx => hm x (List.mem_append_left _ (List.mem_append_left _ hx))
  have mo : ∀ x ∈ sy_moW h8 n1 n2 n3 n4 cI cZ, va_at D sy_cl x H := fun x hx => hm x (List.mem_append_left _ (List.mem_append_right _ hx))
  have ou := hm _ (List.mem_append_right _ List.mem_cons_self)
  have rm : ∀ x ∈ sy_rmW h1 q qo qf qm r cI cZ cII, va_at D sy_cl x H := fun x hx => fb x (List.mem_cons_of_mem _ (List.mem_append_left _ hx))
  refine sy_mP fun x hx => ?_
  unfold sy_w at hx
  rcases List.mem_append.mp hx with hx | hx
  · simp only [sy_fix, List.mem_cons, List.not_mem_nil, or_false] at hx
    rcases hx with rfl | rfl | rfl | rfl | rfl | rfl | rfl | rfl | rfl | rfl | rfl | rfl | rfl | rfl
    · exact fb _ List.mem_cons_self
    · exact rm _ (List.mem_append_left _ List.mem_cons_self)
    · exact fb _ (List.mem_cons_of_mem _ (List.mem_append_right _ List.mem_cons_self))
    · exact fb _ (List.mem_cons_of_mem _ (List.mem_append_right _ (List.mem_cons_of_mem _ List.mem_cons_self)))
    · have h := rm _ (List.mem_append_left _ (List.mem_cons_of_mem _ List.mem_cons_self))
      show H[q]? = some (vp_cell cII (61, .inr (.inr (.inr (.inr (fun i => some (sy_f h0 h1 q2 q3 q qo qf qm h8 n1 n2 n3 n4 q13 r (20 + i))))))))
      rw [← sy_waysC cII (f := fun i => if i < 61 then some (r i) else none) (fun i hi => by rw [if_pos hi, sy_f20])]
      exact h
    · exact rm _ (List.mem_append_right _ (List.mem_append_left _ (List.mem_append_left _ (List.mem_append_right _ List.mem_cons_self))))
    · exact rm _ (List.mem_append_right _ (List.mem_append_left _ (List.mem_append_right _ List.mem_cons_self)))
    · exact rm _ (List.mem_append_right _ (List.mem_append_right _ List.mem_cons_self))
    · exact mo _ List.mem_cons_self
    · exact mo _ (List.mem_cons_of_mem _ List.mem_cons_self)
    · exact mo _ (List.mem_cons_of_mem _ (List.mem_cons_of_mem _ List.mem_cons_self))
    · exact mo _ (List.mem_cons_of_mem _ (List.mem_cons_of_mem _ (List.mem_cons_of_mem _ List.mem_cons_self)))
    · exact mo _ (List.mem_cons_of_mem _ (List.mem_cons_of_mem _ (List.mem_cons_of_mem _ (List.mem_cons_of_mem _ List.mem_cons_self))))
    · exact ou
  · unfold sy_rows at hx
    obtain ⟨i, hi, rfl⟩ := List.mem_map.mp hx
    show va_at D sy_cl (sy_f h0 h1 q2 q3 q qo qf qm h8 n1 n2 n3 n4 q13 r (20 + i), .inl (cI, 4, .inl (sy_M0 (6 + i)))) H
    rw [sy_f20, show sy_M0 (6 + i) = fun _ => 0 by rw [Nat.add_comm]; rfl]
    exact rm _ (List.mem_append_right _ (List.mem_append_left _ (List.mem_append_left _ (List.mem_append_left _ (List.mem_map.mpr ⟨i, hi, rfl⟩)))))
theorem sy_D0 (hD : va_D A ((sy_fbW h0 h1 q qo qf qm q2 q3 r cI cZ cII ++ sy_moW h8 n1 n2 n3 n4 cI cZ) ++ [(q13, .inl (cJ, 1, .inr (.inl (fun _ => 0))))])) (M U : me_M) (o : Int64) : va_D A (sy_w (sy_Y0 D A h0 h1 q2 q3 q qo qf qm h8 n1 n2 n3 n4 q13 r cI cZ cJ cII) M U o) := by
  obtain ⟨d1, d2⟩ := sy_Dn hD
  have hp : List.Perm (((sy_fbW h0 h1 q qo qf qm q2 q3 r cI cZ cII ++ sy_moW h8 n1 n2 n3 n4 cI cZ) ++ [(q13, (.inl (cJ, 1, .inr (.inl (fun _ => 0))) : va_E))]).map (·.1)) ((sy_w (sy_Y0 D A h0 h1 q2 q3 q qo qf qm h8 n1 n2 n3 n4 q13 r cI cZ cJ cII) M U o).map (·.1)) := by
    have e1 : (((sy_fbW h0 h1 q qo qf qm q2 q3 r cI cZ cII ++ sy_moW h8 n1 n2 n3 n4 cI cZ) ++ [(q13, (.inl (cJ, 1, .inr (.inl (fun _ => 0))) : va_E))]).map (·.1)) = h0 :: (([h1, q] ++ ((((List.range 61).map r ++ [qo]) ++ [qf]) ++ [qm])) ++ [q2, q3]) ++ [h8, n1, n2, n3, n4] ++ [q13] := by
      unfold sy_fbW sy_rmW sy_moW
      simp only [List.map_append, List.map_cons, List.map_nil, List.map_map]
      rfl
    have e2 : ((sy_w (sy_Y0 D A h0 h1 q2 q3 q qo qf qm h8 n1 n2 n3 n4 q13 r cI cZ cJ cII) M U o).map (·.1)) = [h0, h1, q2, q3, q, qo, qf, qm, h8, n1, n2, n3, n4, q13] ++ (List.range 61).map r := by
      unfold sy_w sy_rows
      rw [List.map_append, List.map_map]
      congr 1
    rw [e1, e2]
    generalize (List.range 61).map r = R
    rw [List.perm_iff_count]
    intro a
    simp only [List.count_append, List.count_cons, List.count_nil]
    omega
  exact sy_nD (hp.nodup_iff.mp d1) (fun a ha => d2 a (hp.mem_iff.mpr ha))
end
theorem sy_str {s : State} {A : Array Value} {cF : ClassId} (hcur : s.vm.findClass nr_FB = some cF) {k : Nat} {tx : String} (h : (Cond.stringRef nr_FB k tx).before A s = true) : ∃ sa, vk_R nr_FB k tx sa s := by
  have h0 : (Cond.stringRef nr_FB k tx).before #[] s = true := h
  obtain ⟨-, -, -, sa, -, -, -, -, -, hev⟩ := Cond.stringRef_spec hcur h0
  exact ⟨sa, h0, hev⟩
theorem sy_th0 {p : Program} {s : State} {m : MethodId} {meth : Method} {c : Code} {b L : Nat} {xs : Nat → Int32} (C0 : lw_At p s m meth c b L xs) {cF : ClassId} (hcur : s.vm.findClass nr_FB = some cF) {Y : sy_Y} (hA : ∀ a : Nat, a < s.heap.size → ¬ Y.2.2.2 a) : sy_th Y s s.heap := by
  obtain ⟨-, -, -, -, -, hts, -, -, -, hgv⟩ := C0
  have hs := flat_of_before _ hgv
  refine ⟨vx_Zqof (hts _ (lt_t1 131 rfl)) (hts _ (lt_t1 6 rfl)) (hs _ (by decide +kernel)) hA, vx_Zqof (hts _ (lt_t1 133 rfl)) (hts _ (lt_t1 6 rfl)) (hs _ (by decide +kernel)) hA, fun w hw => ?_, fun q hq => ?_, fun q hq => ?_⟩
  · refine va_Nw.of (sy_nwT w hw) (A := #[Value.ref b]) ?_
    simp only [sy_nw, List.mem_cons, List.not_mem_nil, or_false] at hw
    rcases hw with rfl | rfl | rfl | rfl | rfl | rfl | rfl
    · exact hts _ (lt_t1 106 rfl)
    · exact hts _ (lt_t1 179 rfl)
    · exact hts _ (lt_t1 237 rfl)
    · exact hts _ (lt_t2 46 rfl)
    · exact hts _ (lt_t1 108 rfl)
    · exact hts _ (lt_t1 110 rfl)
    · exact hts _ (lt_t1 112 rfl)
  · simp only [sy_strs, List.mem_cons, List.not_mem_nil, or_false] at hq
    rcases hq with rfl | rfl | rfl | rfl | rfl | rfl | rfl | rfl
    · exact sy_str hcur (hts _ (lt_t1 186 rfl))
    · exact sy_str hcur (hts _ (lt_t2 145 rfl))
    · exact sy_str hcur (hts _ (lt_t2 188 rfl))
    · exact sy_str hcur (hts _ (lt_t1 146 rfl))
    · exact sy_str hcur (hts _ (lt_t2 87 rfl))
    · exact sy_str hcur (hts _ (lt_t2 161 rfl))
    · exact sy_str hcur (hts _ (lt_t2 53 rfl))
    · exact sy_str hcur (hts _ (lt_t2 4 rfl))
  · have hq : q ∈ [("java/lang/IllegalStateException", "java/lang/IllegalArgumentException"), ("java/lang/IllegalStateException", "java/lang/UnsupportedOperationException"), ("java/lang/IllegalStateException", "java/util/NoSuchElementException"), ("java/lang/IllegalArgumentException", "java/lang/IllegalStateException"), ("java/lang/IllegalArgumentException", "java/lang/UnsupportedOperationException"), ("java/lang/IllegalArgumentException", "java/util/NoSuchElementException"), ("java/lang/UnsupportedOperationException", "java/lang/IllegalStateException"), ("java/lang/UnsupportedOperationException", "java/lang/IllegalArgumentException"), ("java/lang/UnsupportedOperationException", "java/util/NoSuchElementException"), ("java/util/NoSuchElementException", "java/lang/IllegalStateException"), ("java/util/NoSuchElementException", "java/lang/IllegalArgumentException"), ("java/util/NoSuchElementException", "java/lang/UnsupportedOperationException")] := by
      have e9 : sy_nc = [("java/lang/IllegalStateException", "java/lang/IllegalArgumentException"), ("java/lang/IllegalStateException", "java/lang/UnsupportedOperationException"), ("java/lang/IllegalStateException", "java/util/NoSuchElementException"), ("java/lang/IllegalArgumentException", "java/lang/IllegalStateException"), ("java/lang/IllegalArgumentException", "java/lang/UnsupportedOperationException"), ("java/lang/IllegalArgumentException", "java/util/NoSuchElementException"), ("java/lang/UnsupportedOperationException", "java/lang/IllegalStateException"), ("java/lang/UnsupportedOperationException", "java/lang/IllegalArgumentException"), ("java/lang/UnsupportedOperationException", "java/util/NoSuchElementException"), ("java/util/NoSuchElementException", "java/lang/IllegalStateException"), ("java/util/NoSuchElementException", "java/lang/IllegalArgumentException"), ("java/util/NoSuchElementException", "java/lang/UnsupportedOperationException")] := by decide +kernel
      rw [← e9]; exact hq
    simp only [List.mem_cons, List.not_mem_nil, or_false] at hq
    rcases hq with rfl | rfl | rfl | rfl | rfl | rfl | rfl | rfl | rfl | rfl | rfl | rfl
    · exact va_Nc.of (hs _ (by decide +kernel))
    · exact va_Nc.of (hs _ (by decide +kernel))
    · exact va_Nc.of (hs _ (by decide +kernel))
    · exact va_Nc.of (hs _ (by decide +kernel))
    · exact va_Nc.of (hs _ (by decide +kernel))
    · exact va_Nc.of (hs _ (by decide +kernel))
    · exact va_Nc.of (hs _ (by decide +kernel))
    · exact va_Nc.of (hs _ (by decide +kernel))
    · exact va_Nc.of (hs _ (by decide +kernel))
    · exact va_Nc.of (hs _ (by decide +kernel))
    · exact va_Nc.of (hs _ (by decide +kernel))
    · exact va_Nc.of (hs _ (by decide +kernel))
set_option maxHeartbeats 4000000 in
set_option maxRecDepth 20000 in
/-- from the entry, for every script of at most 1536 ints, the law comes to its end with true -/
theorem whole_start {p : Program} {e : Env} {s : State} {m : MethodId} {below : List Frame} {meth : Method} {c : Code} (l : Launch) (hst : l.stackTraces = false) {b L : Nat} {xs : Nat → Int32} (hL : L ≤ 1536) (C0 : lw_At p s m meth c b L xs) : W p l e room_1 s m #[Value.ref b] below meth c s.heap [] 0 0 (lw_Z below #[Value.ref b] s) (entryFrame m ([Value.ref b] : List Value).toArray 7) := by
  obtain ⟨hx, hb, hr, hml, hown, hts0, hX, hbl, hlocks, hgv⟩ := id C0
  have hts : ∀ w ∈ wl, w.before #[Value.ref b] s = true := fun w hw => hts0 w (wl_in hw)
  obtain ⟨c0, i0, k0⟩ := u_known hts nt_FB_in (hts _ nj_FB)
  obtain ⟨c1, i1, k1⟩ := u_known hts nt_RM_in (hts _ nj_RM)
  obtain ⟨c2, i2, k2⟩ := u_known hts nt_MO_in (hts _ nj_MO)
  obtain ⟨D, hDD⟩ : ∃ D : va_G, D = ((fun n => match n with | 0 => c0 | 1 => c1 | _ => c2), (fun n => match n with | 0 => i0 | 1 => i1 | _ => i2)) := ⟨_, rfl⟩
  have hK : va_K D sy_cl [] s := ⟨fun n q hq => by
    rw [hDD]
    match n, hq with
    | 0, hq => cases hq; exact k0
    | 1, hq => cases hq; exact k1
    | 2, hq => cases hq; exact k2, fun k q hq => by cases hq⟩
  obtain ⟨A, hAe⟩ : ∃ A : Nat → Prop, A = fun q => s.heap.size ≤ q := ⟨_, rfl⟩
  have hA : ∀ q : Nat, s.heap.size ≤ q → A q := fun q h => by rw [hAe]; exact h
  have hS : va_S A s.heap s.heap [] := va_S.rf
  have hP : va_P D sy_cl [] s.heap := fun k q hq => by cases hq
  have hD : va_D A ([] : va_W) := ⟨fun i j p q hp => (by cases hp), fun k q hq => (by cases hq)⟩
  have hAO : sy_AO s := sy_AO_any (A := #[Value.ref b]) (s := s) rfl (hts0 _ (lt_t1 29 rfl))
  have hnest : va_Nw (.methodLinkNest nr_FB 9 ny_RM_init nr_FB) s := va_Nw.of rfl (A := #[Value.ref b]) (hts0 _ (lt_t1 24 rfl))
  have hl := lv_entry ([.ref b]) (n := 7) (Nat.le_of_ble_eq_true rfl)
  rw [lg_entry_eq]
  generalize (lg_sl ([.ref b]) ++ List.replicate (7 - (lg_sl ([.ref b])).length) Slot.unset).toArray = ls at hl ⊢
  have hl : lv_has ls 7 [(0, .ref b)] := hl
  refine va_new (ci := 0) (fs := [.null, .null, .null, .int 0, .int 0, .int 0]) (C := nr_FB) (T := nt_FB) (N := 6) hx hb hts nt_FB_in nt_FB_ty nt_FB_ok hown (hts _ nl_FB) (hts _ nj_FB) (hts _ nz_FB) hK hP hD hS hA rfl (fun j hj => by match j, hj with | 0, _ => rfl | 1, _ => rfl | 2, _ => rfl | 3, _ => rfl | 4, _ => rfl | 5, _ => rfl) (Nat.le_of_ble_eq_true rfl) (Nat.le_of_ble_eq_true rfl) nd_LW_law_0 (fun h0 H hP hD hS => ?_)
  refine W.widen (k := 1) (n := 6) (Nat.le_of_ble_eq_true rfl) (Nat.le_of_ble_eq_true rfl) ?_
  refine lv_dup hx hb nd_LW_law_3 rfl ?_
  have hFc := sy_freeL hD hS hA
  refine va_callv (va_runI (As := []) (rest := [.ref h0]) ⟨hx, hb, hml, hown, hts⟩ (cc_FB_init l D h0 H.size) (cwI 0 hts (ct_good (own := nr_FB) (C := nr_FB) (index := 0) nc_FB_init) rfl rfl rfl (hts _ nz_FB) (hts _ nm_LW_62) (hts _ ns_FB_init) rfl (by decide +kernel) ⟨(Nat.le_of_ble_eq_true rfl), (Nat.le_of_ble_eq_true rfl)⟩) ⟨fun a U g mk q => by obtain ⟨q0, q1, qP, qK, qD, qA, qN⟩ := q; exact ⟨q0, q1, qP, va_K.moved (u := U) (U := U.calling g mk a) (Vm.Alike.refl U.vm) qK, qD, sy_AO_any (A := #[]) (s := U) rfl qA, va_Nw.same rfl (u := U) rfl qN⟩, fun U hU hW => ⟨rfl, by rw [hU], by rw [hU]; exact sy_lastP hP, va_K.moved hW.alike hK, sy_oneD _, sy_AO_warm hW hAO, va_Nw.warmM hW hnest⟩⟩ rfl rfl hl.1 rfl (lv_room (Nat.le_of_ble_eq_true rfl)) nd_LW_law_4 ⟨(Nat.le_of_ble_eq_true rfl), (Nat.le_of_ble_eq_true rfl)⟩) hS (fun q _ h => hFc q h) hFc (fun u t H1 locs ht hvm h5 hB hz1 hk1 hS => ?_)
  obtain ⟨h1, ⟨q, qo, qf, qm⟩, q2, q3, r, cI, cZ, cII⟩ := u
  obtain ⟨hP1, hK1, hD1⟩ := hB
  rw [ht] at hP1
  have hK3 := va_K.moved hvm.symm hK1
  obtain ⟨hP, hD⟩ := sy_join hP hD hk1 hFc hP1 hD1
  generalize H1 = H at hP hS ⊢
  dsimp only at hP hD hK3
  rw [List.nil_append] at hP hD
  refine W.widen (k := 69) (n := 512) (Nat.le_of_ble_eq_true rfl) (Nat.le_of_ble_eq_true rfl) ?_
  refine lv_astore_n hx hb nd_LW_law_7 rfl hl (by decide) rfl (fun ls hl => ?_)
  have hl := lv_sub (l' := [(0, .ref b), (1, .ref h0)]) hl [1, 0] rfl
  refine va_new (ci := 2) (fs := [.int 0, .null, .null, .null, .null, .int 0, .int 0, .int 0, .int 0, .int 0]) (C := nr_MO) (T := nt_MO) (N := 10) hx hb hts nt_MO_in nt_MO_ty nt_MO_ok hown (hts _ nl_MO) (hts _ nj_MO) (hts _ nz_MO) hK hP hD hS hA rfl (fun j hj => by match j, hj with | 0, _ => rfl | 1, _ => rfl | 2, _ => rfl | 3, _ => rfl | 4, _ => rfl | 5, _ => rfl | 6, _ => rfl | 7, _ => rfl | 8, _ => rfl | 9, _ => rfl) (Nat.le_of_ble_eq_true rfl) (Nat.le_of_ble_eq_true rfl) nd_LW_law_8 (fun h8 H hP hD hS => ?_)
  refine W.widen (k := 70) (n := 522) (Nat.le_of_ble_eq_true rfl) (Nat.le_of_ble_eq_true rfl) ?_
  refine lv_dup hx hb nd_LW_law_11 rfl ?_
  have hFc := sy_freeL hD hS hA
  refine va_callv (va_runI (As := []) (rest := [.ref h8]) ⟨hx, hb, hml, hown, hts⟩ (cc_MO_init l D h8 H.size) (cwI 0 hts (ct_good (own := nr_MO) (C := nr_MO) (index := 0) nc_MO_init) rfl rfl rfl (hts _ nz_MO) (hts _ nm_LW_65) (hts _ ns_MO_init) rfl (by decide +kernel) ⟨(Nat.le_of_ble_eq_true rfl), (Nat.le_of_ble_eq_true rfl)⟩) ⟨fun a U g mk q => by obtain ⟨q0, q1, qP, qK, qD⟩ := q; exact ⟨q0, q1, qP, va_K.moved (u := U) (U := U.calling g mk a) (Vm.Alike.refl U.vm) qK, qD⟩, fun U hU hW => ⟨rfl, by rw [hU], by rw [hU]; exact sy_lastP hP, va_K.moved hW.alike hK, sy_oneD _⟩⟩ rfl rfl hl.1 rfl (lv_room (Nat.le_of_ble_eq_true rfl)) nd_LW_law_12 ⟨(Nat.le_of_ble_eq_true rfl), (Nat.le_of_ble_eq_true rfl)⟩) hS (fun q _ h => hFc q h) hFc (fun u t H1 locs ht hvm h5 hB hz1 hk1 hS => ?_)
  obtain ⟨⟨n1, n2, n3, n4⟩, cI2, cZ2⟩ := u
  obtain ⟨hP1, hK1, hD1⟩ := hB
  rw [ht] at hP1
  have hK4 := va_K.moved hvm.symm hK1
  obtain ⟨hP, hD⟩ := sy_join hP hD hk1 hFc hP1 hD1
  generalize H1 = H at hP hS ⊢
  dsimp only at hP hD hK4
  have hK5 := hK3.app hK4
  have e1 : cI = cI2 := (sy_same hK5 (Or.inl rfl) (i := 0) (j := 4) rfl rfl).symm
  subst e1
  have e1 : cZ = cZ2 := (sy_same hK5 (Or.inr rfl) (i := 1) (j := 3) rfl rfl).symm
  subst e1
  have hK : va_K D sy_cl [(cI, .int), (cZ, .boolean), (cII, .array .int)] s := hK3
  refine W.widen (k := 74) (n := 2622) (Nat.le_of_ble_eq_true rfl) (Nat.le_of_ble_eq_true rfl) ?_
  refine lv_astore_n hx hb nd_LW_law_15 rfl hl (by decide) rfl (fun ls hl => ?_)
  have hl := lv_sub (l' := [(0, .ref b), (1, .ref h0), (2, .ref h8)]) hl [1, 2, 0] rfl
  refine lv_iconst (v := nI 1) hx hb nd_LW_law_16 (by decide) ?_
  refine va_newa (atype := .long) (ty := .long) (N' := 1) (a0 := (1, .inr (.inl (fun _ => 0)))) hx hb (hts _ nk_long) rfl hK hP hD hS hA (fun _ => rfl) (nI_pos (by decide)) (nI_clamp (by decide)) (Nat.le_of_ble_eq_true rfl) (Nat.le_of_ble_eq_true rfl) (Nat.le_of_ble_eq_true rfl) nd_LW_law_17 (fun q13 cJ H hK hP hD hS => ?_)
  refine W.widen (k := 75) (n := 2623) (Nat.le_of_ble_eq_true rfl) (Nat.le_of_ble_eq_true rfl) ?_
  refine lv_astore_n hx hb nd_LW_law_19 rfl hl (by decide) rfl (fun ls hl => ?_)
  have hl := lv_sub (l' := [(0, .ref b), (1, .ref h0), (2, .ref h8), (3, .ref q13)]) hl [1, 2, 3, 0] rfl
  refine lv_iconst (v := nI 0) hx hb nd_LW_law_20 (by decide) ?_
  refine lv_istore hx hb nd_LW_law_21 hl (by decide) rfl (fun ls hl => ?_)
  have hl := lv_sub (l' := [(0, .ref b), (1, .ref h0), (2, .ref h8), (3, .ref q13), (4, .int (nI 0))]) hl [1, 2, 3, 4, 0] rfl
  have hP9 := sy_P0 (A := A) (h0 := h0) (h1 := h1) (q2 := q2) (q3 := q3) (q := q) (qo := qo) (qf := qf) (qm := qm) (h8 := h8) (n1 := n1) (n2 := n2) (n3 := n3) (n4 := n4) (q13 := q13) (r := r) (cI := cI) (cZ := cZ) (cJ := cJ) (cII := cII) hP
  have hD9 := sy_D0 (D := D) (A := A) (h0 := h0) (h1 := h1) (q2 := q2) (q3 := q3) (q := q) (qo := qo) (qf := qf) (qm := qm) (h8 := h8) (n1 := n1) (n2 := n2) (n3 := n3) (n4 := n4) (q13 := q13) (r := r) (cI := cI) (cZ := cZ) (cJ := cJ) (cII := cII) hD
  obtain ⟨Y, hY⟩ : ∃ Y, Y = sy_Y0 D A h0 h1 q2 q3 q qo qf qm h8 n1 n2 n3 n4 q13 r cI cZ cJ cII := ⟨_, rfl⟩
  have y0 : Y.2.1 0 = h0 := by rw [hY]; rfl
  have y8 : Y.2.1 8 = h8 := by rw [hY]; rfl
  have y13 : Y.2.1 13 = q13 := by rw [hY]; rfl
  have yA : Y.2.2.2 = fun q => s.heap.size ≤ q := by rw [hY]; exact hAe
  have hok : sy_ok Y s s.heap := by
    refine ⟨?_, fun q hq => by rw [yA]; exact hq, fun M U o => ?_, sy_th0 C0 (cF := c0) k0.2.1 (fun a ha => by rw [yA]; exact Nat.not_le.mpr ha)⟩
    · rw [hY]
      exact hK.sub (tys' := [(cI, .int), (cZ, .boolean), (cJ, .long), (cII, .array .int)]) [0, 1, 3, 2] rfl
    · rw [hY]; exact hD9 M U o
  have fx : vv_fix p s m #[Value.ref b] meth c code 7 ret nr_LW Y := ⟨hx, hb, hml, hown, hts, hok, hr, hlocks⟩
  have hloop := lw_loop (e := e) (below := below) (cells := 75) (slots := 2623) hst fx hX hbl (fun q hq => by rw [yA] at hq; exact hq) hL (Nat.le_of_ble_eq_true rfl) (Nat.le_of_ble_eq_true rfl) 513 0 sy_M0 sy_U0 0 ⟨by decide, by decide⟩ sy_I0
  refine hloop H locs ls (by rw [hY]; exact hP9) (by rw [hY]; exact hS) ?_
  rw [y0, y8, y13]
  exact hl
set_option maxHeartbeats 4000000 in
theorem lw_walk (l : Launch) (hst : l.stackTraces = false) (b : Addr) (xs : List Int32) : MetFree l x (headSpec (Jvm.Cond.code x code maxLocals ret :: tables_1) room_1) (lw_P b xs) (fun _ _ _ _ _ => True) lw_Q := by
  refine MetFree.of_bodyS (code := code) (maxLocals := maxLocals) (ret := ret) (by decide) ?_ ?_
  · intro args s m h hn
    obtain ⟨meth, c, h1, h2, h3, h4, h5, h6, -, -⟩ := Cond.code_spec hn (atoms_spec (ws := Jvm.Cond.code x code maxLocals ret :: tables_1) h _ List.mem_cons_self)
    exact ⟨meth, c, h1, h2, h3, h4, h5, h6⟩
  · intro p e s m args below meth c s₁ B hml0 hP _
    obtain ⟨rfl, hx, hbd, hgv⟩ := hP
    obtain ⟨scr, harrAt, hlist, hof, hsmall⟩ := hx
    obtain ⟨hcb, hkn, -, -⟩ := State.arrayAt?_spec harrAt
    have hown : s.vm.findClass R_law = some m.cls := findClass_of_methodNamed B.named
    have hts0 : ∀ c ∈ (Jvm.Cond.code x code maxLocals ret :: tables_1), c.before #[Value.ref b] s = true := atoms_spec (ws := Jvm.Cond.code x code maxLocals ret :: tables_1) B.pre
    have hts : ∀ w ∈ lw_tbl, w.before #[Value.ref b] s = true := k2_hts_sels lw_privs (fun w hw => hts0 w (List.mem_cons_of_mem _ hw)) lw_privs_ok
    have hml : c.maxLocals = 7 := B.maxLocals_eq (hts0 _ List.mem_cons_self)
    have X₀ : Stand p l e room_1 s m #[Value.ref b] below meth c s₁ [] 0 0 := Stand.of_body B
    have hh0 : s₁.heap = s.heap := by rw [B.state]; rfl
    have hsz : scr.slots.size = xs.length := by rw [← Array.length_toList, hlist, List.length_map]
    have hval : ∀ j : Nat, j < xs.length → scr.slots[j]? = some (.int (xs.getD j 0)) := fun j hj => by
      rw [← Array.getElem?_toList, hlist]
      simp [hj]
    have hbl : b < s.heap.size := (Array.getElem?_eq_some_iff.mp hcb).1
    have hX : va_X b xs.length (fun j => xs.getD j 0) s s.heap := ⟨scr, hcb, hof, hkn, hsz, hval⟩
    have K : W p l e room_1 s m #[Value.ref b] below meth c s₁.heap [] 0 0 (lw_Z below #[Value.ref b] s) (entryFrame m ([Value.ref b] : List Value).toArray 7) := by
      rw [hh0]
      exact whole_start l hst hbd ⟨B.exec, B.bytes, B.returns, hml, hown, hts, hX, hbl, B.notSynchronized, hgv⟩
    obtain ⟨t, a1, o, b1, b2, b3⟩ := K s₁ rfl X₀
    exact ⟨t, o, a1, b1, b2, b3⟩
theorem lw_pre_spec {args : Array Value} {s : State} (h : (Jvm.Cond.and given_1 narrow_1).before args s = true) (hr : rest_1_c.before args s = true) : ∃ (b : Addr) (xs : List Int32), lw_P b xs args s := by
  have hs := flat_of_before _ h
  have hq := flat_of_before _ hr
  have hc : (Cond.count 1).before args s = true := hs _ (by decide +kernel)
  have harr : (Cond.arrayOf (.arg 0) .int).before args s = true := hs _ (by decide +kernel)
  have hle : (Cond.le (.length (.arg 0)) (.int 1536)).before args s = true := hs _ (by decide +kernel)
  have hlen : (Cond.isInt (.length (.arg 0))).before args s = true := hq _ (by decide +kernel)
  have hall : (Cond.all (.arg 0) (.isInt (.elem (.arg 0) (.index 0)))).before args s = true := hq _ (by decide +kernel)
  obtain ⟨b, xs, hb, hx⟩ := State.ints_of_pre rfl harr hlen hall
  have hsm : xs.length < 2 ^ 31 := hx.choose_spec.2.2.2
  have hev : (Term.length (.arg 0)).eval args s none [] s = some (.int xs.length.toInt32) := hx.length_eval hb
  have hv := Cond.le_ints hev (show (Term.int 1536).eval args s none [] s = some (.int 1536) from rfl)
  have hd : xs.length.toInt32 ≤ 1536 := by
    simpa [Cond.before, Cond.holds, hv] using hle
  have hN : xs.length ≤ 1536 := (Int32.ofNat_le_ofNat hsm (by decide)).mp (show Int32.ofNat xs.length ≤ Int32.ofNat 1536 from hd)
  exact ⟨b, xs, Cond.one_arg hc (show args[0]? = some (.ref b) from hb), hx, hN, h⟩
theorem lw_comes (l : Launch) (hst : l.stackTraces = false) : Comes l x (Jvm.Cond.code x code maxLocals ret :: tables_1) room_1 (fun tb e args s => Calls_1 tb e args s ∧ rest_1 tb e args s ∧ Pre_1 tb e args s)
    (fun _ _ args s o t => lw_Q args s o t) := by
  intro p e ha hc hk s m args below hf hfit hheap happ hpre
  obtain ⟨b, xs, hP⟩ := lw_pre_spec hpre.2.2 hpre.2.1
  obtain ⟨k, o, h1, h2, h3, hQ⟩ := lw_walk l hst b xs p e ha hc hk s m args below hf ((Spec.applies_iff_loose hf).mp happ).1 hP trivial
  exact ⟨k, o, h1, h2, h3, hQ⟩
theorem lw_frame {s t : State} {o : Outcome} {args : Array Value} (h : Framed s o t [] 601024 7293034) :
    Framed s o t (fieldLocs frame_1_writes args s ++ arrayLocs frame_1_arrays args s ++ staticLocs frame_1_statics s) 601024 7293034 := h
theorem lw_limb (L : Cond) (hL : ∀ (args : Array Value) (s t : State), L.after args s (.returned (some (.int 1))) t = true) :
    ArmFor flags0 classFile x code maxLocals ret World_1 tables_1 room_1 Calls_1 rest_1 Pre_1
      (fun tb e a s o t => postC L tb e a s o t ∧ Framed s o t (fieldLocs frame_1_writes a s ++ arrayLocs frame_1_arrays a s ++ staticLocs frame_1_statics s) 601024 7293034) := by
  intro l hfl _ _ p e ha hc hk s m args below hf hfit hheap happ hpre
  have hst : l.stackTraces = false := by unfold Launch.stackTraces; rw [hfl]; decide +kernel
  obtain ⟨k, o, h1, h2, h3, rfl, hF⟩ := lw_comes l hst p e ha hc hk s m args below hf hfit hheap happ hpre
  exact ⟨k, _, h1, h2, h3, hL args s _, lw_frame hF⟩
theorem i_vc : Claimed_1_1 ∧ Claimed_1_2 := ⟨lw_limb limb_1_1 (fun args s t => by simp [limb_1_1, Cond.after, Cond.holds, Cond.value]), lw_limb limb_1_2 (fun args s t => Cond.after_iff.mpr (by
  first | (rw [show limb_1_2 = Cond.eq .result (.int 1) from rfl, Cond.eq_ints (x := 1) (y := 1) rfl rfl]; simp; done) | (simp [limb_1_2, Cond.value, Term.eval]; done)))⟩
