/-! the reference's methods (printed by mo.py) -/
def mo_B (U : me_M) : Prop := (∀ m, m < 14 → U 0 m = 0 ∨ U 0 m = 1) ∧ (∀ j, j < 896 → U 1 j = 0 ∨ U 1 j = 1) ∧ (U 4 5 = 0 ∨ U 4 5 = 1)
theorem me_set_c (V : me_M) {a b : Nat} (A B : Nat → Int32) (h : a ≠ b) : me_set (me_set V a A) b B = me_set (me_set V b B) a A := by
  funext x
  unfold me_set
  by_cases e1 : x = b
  · rw [if_pos e1, if_pos e1, if_neg (by omega)]
  · rw [if_neg e1, if_neg e1]
theorem me_up_s2 (V : me_M) (a : Nat) (A : Nat → Int32) (j : Nat) (v : Int32) : me_up (me_set V a A) a j v = me_set V a (upd A j v) := me_up_2 V A a j v
theorem me_up_o2 (V : me_M) {a b : Nat} (A B : Nat → Int32) (h : a ≠ b) (j : Nat) (v : Int32) : me_up (me_set (me_set V a A) b B) a j v = me_set (me_set V a (upd A j v)) b B := by
  rw [me_set_c V A B h, me_up_s2, me_set_c V _ _ h]
theorem va_cpy_0 (f g : Nat → Int32) (sp dp : Nat) : va_cpy f g sp dp 0 = g := by funext j; exact pk_cpy_out (by omega)
theorem va_cpy_s (f g : Nat → Int32) (sp dp i : Nat) : upd (va_cpy f g sp dp i) (dp + i) (f (sp + i)) = va_cpy f g sp dp (i + 1) := by
  funext j
  by_cases h : j = dp + i
  · rw [h, pk_us, pk_cpy_in (by omega) (by omega), show dp + i - dp = i by omega]
  · rw [pk_un h]
    by_cases q : dp ≤ j ∧ j < dp + i
    · rw [pk_cpy_in q.1 q.2, pk_cpy_in q.1 (by omega)]
    · rw [pk_cpy_out (by omega), pk_cpy_out (by omega)]
theorem va_cpy_r (f g : Nat → Int32) (c : Nat) {fr t i : Nat} (hi : i < c) : va_cpy f f (c * fr) (c * t) i (c * fr + i) = f (c * fr + i) := by
  refine pk_cpy_out ?_
  rcases Nat.lt_trichotomy fr t with h | h | h
  · left
    have : c * (fr + 1) ≤ c * t := Nat.mul_le_mul_left c h
    rw [Nat.mul_succ] at this
    omega
  · right; rw [h]; omega
  · right
    have : c * (t + 1) ≤ c * fr := Nat.mul_le_mul_left c h
    rw [Nat.mul_succ] at this
    omega
theorem va_cpy_01 {f : Nat → Int32} {n sp dp i : Nat} (h : ∀ j, j < n → f j = 0 ∨ f j = 1) {j : Nat} (hj : j < n) (hs : sp + i ≤ n) : va_cpy f f sp dp i j = 0 ∨ va_cpy f f sp dp i j = 1 := by
  by_cases q : dp ≤ j ∧ j < dp + i
  · rw [pk_cpy_in q.1 q.2]; exact h _ (by omega)
  · rw [pk_cpy_out (by omega)]; exact h j hj
theorem mo_B_copy {U : me_M} (h : mo_B U) {f t : Nat} (hf : f < 14) (ht : t < 14) : mo_B (mo_copy U f t) := by
  obtain ⟨h0, h1, h2⟩ := h
  refine ⟨fun m hm => ?_, fun j hj => ?_, ?_⟩
  · unfold mo_copy
    rw [me_set_n _ _ (by decide), me_set_n _ _ (by decide), me_set_n _ _ (by decide), me_up_a]
    unfold upd
    split
    · exact h0 f hf
    · exact h0 m hm
  · unfold mo_copy
    rw [me_set_n _ _ (by decide), me_set_n _ _ (by decide), me_set_s]
    exact va_cpy_01 h1 hj (by omega)
  · unfold mo_copy
    rw [me_set_n _ _ (by decide), me_set_n _ _ (by decide), me_set_n _ _ (by decide), me_up_n _ _ _ (by decide)]
    exact h2
theorem mo_B_code {U : me_M} (h : mo_B U) (x : Int32) : mo_B (me_up U 4 0 x) := by
  obtain ⟨h0, h1, h2⟩ := h
  refine ⟨fun m hm => ?_, fun j hj => ?_, ?_⟩
  · rw [me_up_n _ _ _ (by decide)]; exact h0 m hm
  · rw [me_up_n _ _ _ (by decide)]; exact h1 j hj
  · rw [me_up_j _ _ _ (by decide)]; exact h2
theorem mo_B_up {U : me_M} (h : mo_B U) {j : Nat} (hj : j ≠ 5) (x : Int32) : mo_B (me_up U 4 j x) := by
  obtain ⟨h0, h1, h2⟩ := h
  refine ⟨fun m hm => ?_, fun j hj => ?_, ?_⟩
  · rw [me_up_n _ _ _ (by decide)]; exact h0 m hm
  · rw [me_up_n _ _ _ (by decide)]; exact h1 j hj
  · rw [me_up_j _ _ _ (fun z => hj z.symm)]; exact h2
theorem rf_moB {M U : me_M} {N : Nat} (hI : rf_I M U N) : mo_B U := by
  obtain ⟨hA, hW, hZ, h01, hO, hV, hL, hP, hN, hG, hR, hS⟩ := hI
  refine ⟨fun m hm => (hA.1 m hm).imp (fun z => z.1) (fun z => z.1), h01, ?_⟩
  rw [← hS.1]; exact hS.2.1
theorem mo_ism_lt {U : me_M} {k : Int32} (h : k < 0) : mo_ism U k = false := by
  unfold mo_ism; rw [decide_eq_false (Int32.not_le.mpr h)]; rfl
theorem mo_ism_ge {U : me_M} {k : Int32} (h : nI 7 ≤ k) : mo_ism U k = false := by
  unfold mo_ism; rw [decide_eq_false (p := k < 7) (Int32.not_lt.mpr h), Bool.and_false]; rfl
theorem mo_ism_0 {U : me_M} {k : Int32} (h : U 0 k.toNatClampNeg = 0) : mo_ism U k = false := by
  unfold mo_ism; rw [decide_eq_false (p := U 0 k.toNatClampNeg ≠ 0) (fun z => z h), Bool.and_false]
theorem mo_ism_in {U : me_M} {k : Int32} (h1 : ¬ k < 0) (h2 : ¬ nI 7 ≤ k) (h3 : ¬ U 0 k.toNatClampNeg = 0) : mo_ism U k = true := by
  unfold mo_ism; rw [decide_eq_true (p := k < 7) (Int32.not_le.mp h2), decide_eq_true (Int32.not_lt.mp h1), decide_eq_true h3]; rfl
theorem mo_ism_nat {U : me_M} {h : Int32} (hh : mo_ism U h = true) : ∃ j, j < 7 ∧ h = nI j := by
  unfold mo_ism at hh
  rw [Bool.and_eq_true, Bool.and_eq_true] at hh
  obtain ⟨⟨h1, h2⟩, h3⟩ := hh
  exact ⟨_, rf_h7 (of_decide_eq_true h1) (of_decide_eq_true h2)⟩
theorem mo_iss_nat {U : me_M} {h : Int32} (hh : mo_iss U h = true) : ∃ j, j < 7 ∧ h = nI j := by
  unfold mo_iss at hh
  rw [Bool.and_eq_true] at hh
  exact mo_ism_nat hh.2
theorem mo_cl_2 (U : me_M) (k : Nat) (more : Int32) {a : Nat} (h3 : a ≠ 3) (h4 : a ≠ 4) (i : Nat) : mo_cl U k more i a = U a := by
  induction i with
  | zero => rfl
  | succ i ih =>
    show mo_c2 (mo_cl U k more i) k more i a = U a
    unfold mo_c2
    rw [me_up_n _ _ _ h3]
    unfold mo_c1
    split
    · rw [me_up_n _ _ _ h3, me_up_n _ _ _ h4]; exact ih
    · exact ih
set_option maxRecDepth 4000 in
theorem cc_MO_thrown (l : Launch) (Y : sy_Y) (M U : me_M) (o : Int64)  : ct_I l ny_MO_thrown nb_MO_thrown 1 (some .int) { frames := 0, cells := 0, slots := 0, locals := 0 } Y [.ref (Y.2.1 8)] M U o (U 4 0) M U o := by
  refine ct_body (own := nr_MO) (L0 := [(0, .ref (Y.2.1 8))]) (by decide) rfl (Nat.le_of_ble_eq_true rfl) rfl ?_
  intro p e s m args below meth c fx
  refine vv_aload_n fx nd_MO_thrown_0 rfl 0 rfl ?_
  refine vv_get (ci := 2) (C := nr_MO) (T := nt_MO) (N := 10) fx nt_MO_in 8 rfl rfl 0 (by decide) nf_MO_27 rfl nd_MO_thrown_1 ?_
  exact vv_iret fx rfl nd_MO_thrown_4 (rfl)
theorem mo_cp0 (U : me_M) (f t : Nat) : me_up U 0 t (U 0 f) = me_set (me_set (me_up U 0 t (U 0 f)) 1 (va_cpy (U 1) (U 1) (64 * f) (64 * t) 0)) 2 (va_cpy (U 2) (U 2) (64 * f) (64 * t) 0) := by
  rw [va_cpy_0, va_cpy_0]
  have e1 : U 1 = me_up U 0 t (U 0 f) 1 := (me_up_n _ _ _ (by decide)).symm
  have e2 : U 2 = me_up U 0 t (U 0 f) 2 := (me_up_n _ _ _ (by decide)).symm
  generalize me_up U 0 t (U 0 f) = V at e1 e2
  rw [e1, e2, me_set_i, me_set_i]
theorem mo_cp3 (U : me_M) (f t : Nat) : me_set (me_set (me_up U 0 t (U 0 f)) 1 (va_cpy (U 1) (U 1) (64 * f) (64 * t) 64)) 2 (va_cpy (U 2) (U 2) (64 * f) (64 * t) 64) = me_set (me_set (me_set (me_up U 0 t (U 0 f)) 1 (va_cpy (U 1) (U 1) (64 * f) (64 * t) 64)) 2 (va_cpy (U 2) (U 2) (64 * f) (64 * t) 64)) 3 (va_cpy (U 3) (U 3) (21 * f) (21 * t) 0) := by
  rw [va_cpy_0]
  have e3 : U 3 = me_set (me_set (me_up U 0 t (U 0 f)) 1 (va_cpy (U 1) (U 1) (64 * f) (64 * t) 64)) 2 (va_cpy (U 2) (U 2) (64 * f) (64 * t) 64) 3 := by
    rw [me_set_n _ _ (by decide), me_set_n _ _ (by decide), me_up_n _ _ _ (by decide)]
  generalize me_set (me_set (me_up U 0 t (U 0 f)) 1 (va_cpy (U 1) (U 1) (64 * f) (64 * t) 64)) 2 (va_cpy (U 2) (U 2) (64 * f) (64 * t) 64) = V at e3
  rw [e3, me_set_i]
set_option maxRecDepth 4000 in
theorem cc_MO_copy (l : Launch) (Y : sy_Y) (M U : me_M) (o : Int64) (f t : Nat) (hf : f < 14) (ht : t < 14) (hB : mo_B U) : ct_V l ny_MO_copy nb_MO_copy 4 { frames := 0, cells := 0, slots := 0, locals := 0 } Y [.ref (Y.2.1 8), .int (nI f), .int (nI t)] M U o M (mo_copy U f t) o := by
  refine ct_body (own := nr_MO) (L0 := [(0, .ref (Y.2.1 8)), (1, .int (nI f)), (2, .int (nI t))]) (by decide) rfl (Nat.le_of_ble_eq_true rfl) rfl ?_
  intro p e s m args below meth c fx
  refine vv_aload_n fx nd_MO_copy_0 rfl 0 rfl ?_
  refine vv_get (ci := 2) (C := nr_MO) (T := nt_MO) (N := 10) fx nt_MO_in 8 rfl rfl 1 (by decide) nf_MO_7 rfl nd_MO_copy_1 ?_
  refine vv_iload_n fx nd_MO_copy_4 rfl 2 rfl ?_
  refine vv_aload_n fx nd_MO_copy_5 rfl 0 rfl ?_
  refine vv_get (ci := 2) (C := nr_MO) (T := nt_MO) (N := 10) fx nt_MO_in 8 rfl rfl 1 (by decide) nf_MO_7 rfl nd_MO_copy_6 ?_
  refine vv_iload_n fx nd_MO_copy_9 rfl 1 rfl ?_
  refine vv_zald fx 9 1 rfl rfl (hf) (by decide) nd_MO_copy_10 ?_
  refine vv_zast (U' := me_up U 0 t (U 0 f)) (M' := M) fx 9 1 rfl rfl (ht) (by decide) (hB.1 f hf) nd_MO_copy_11 (sy_setU0 _) ?_
  refine vv_iconst (v := nI 0) fx nd_MO_copy_12 (by decide) ?_
  refine vv_istore_n (L' := [(0, .ref (Y.2.1 8)), (1, .int (nI f)), (2, .int (nI t)), (3, .int (nI 0))]) fx nd_MO_copy_13 rfl (by decide) [1, 2, 3, 0] rfl ?_
  refine vv_mem (M9 := M) (U9 := me_set (me_set (me_up U 0 t (U 0 f)) 1 (va_cpy (U 1) (U 1) (64 * f) (64 * t) 0)) 2 (va_cpy (U 2) (U 2) (64 * f) (64 * t) 0)) (rfl) (mo_cp0 U f t) ?_
  have loop1 : ∀ d i, i + d = 64 → vv p l e { frames := 0, cells := 0, slots := 0, locals := 0 } s m args below meth c 0 0 (MQ below (ct_Qv Y M (mo_copy U f t) o) args s 0 0 Y.2.2.2) 4 Y M (me_set (me_set (me_up U 0 t (U 0 f)) 1 (va_cpy (U 1) (U 1) (64 * f) (64 * t) i)) 2 (va_cpy (U 2) (U 2) (64 * f) (64 * t) i)) o 14 [(0, .ref (Y.2.1 8)), (1, .int (nI f)), (2, .int (nI t)), (3, .int (nI i))] [] := by
    intro d
    induction d with
    | zero =>
      intro i hi
      have e9 : i = 64 := by omega
      subst e9
      refine vv_iload_n fx nd_MO_copy_14 rfl 3 rfl ?_
      refine vv_bipush (v := nI 64) fx nd_MO_copy_15 (by decide) ?_
      refine vv_icmp_ge (tgt := 70) fx nd_MO_copy_17 (by decide) (fun _ => ?_) (fun hb => absurd (nI_le (by omega) (by omega)) hb)
      refine vv_iconst (v := nI 0) fx nd_MO_copy_70 (by decide) ?_
      refine vv_istore_n (L' := [(0, .ref (Y.2.1 8)), (1, .int (nI f)), (2, .int (nI t)), (3, .int (nI 0))]) fx nd_MO_copy_71 rfl (by decide) [1, 2, 3, 0] rfl ?_
      refine vv_mem (M9 := M) (U9 := me_set (me_set (me_set (me_up U 0 t (U 0 f)) 1 (va_cpy (U 1) (U 1) (64 * f) (64 * t) 64)) 2 (va_cpy (U 2) (U 2) (64 * f) (64 * t) 64)) 3 (va_cpy (U 3) (U 3) (21 * f) (21 * t) 0)) (rfl) (mo_cp3 U f t) ?_
      have loop2 : ∀ d q, q + d = 21 → vv p l e { frames := 0, cells := 0, slots := 0, locals := 0 } s m args below meth c 0 0 (MQ below (ct_Qv Y M (mo_copy U f t) o) args s 0 0 Y.2.2.2) 4 Y M (me_set (me_set (me_set (me_up U 0 t (U 0 f)) 1 (va_cpy (U 1) (U 1) (64 * f) (64 * t) 64)) 2 (va_cpy (U 2) (U 2) (64 * f) (64 * t) 64)) 3 (va_cpy (U 3) (U 3) (21 * f) (21 * t) q)) o 72 [(0, .ref (Y.2.1 8)), (1, .int (nI f)), (2, .int (nI t)), (3, .int (nI q))] [] := by
        intro d
        induction d with
        | zero =>
          intro q hq
          have e9 : q = 21 := by omega
          subst e9
          refine vv_iload_n fx nd_MO_copy_72 rfl 3 rfl ?_
          refine vv_bipush (v := nI 21) fx nd_MO_copy_73 (by decide) ?_
          refine vv_icmp_ge (tgt := 106) fx nd_MO_copy_75 (by decide) (fun _ => ?_) (fun hb => absurd (nI_le (by omega) (by omega)) hb)
          exact vv_vret fx rfl nd_MO_copy_106
        | succ d ih_loop2 =>
          intro q hq
          refine vv_iload_n fx nd_MO_copy_72 rfl 3 rfl ?_
          refine vv_bipush (v := nI 21) fx nd_MO_copy_73 (by decide) ?_
          refine vv_icmp_ge (tgt := 106) fx nd_MO_copy_75 (by decide) (fun hb => absurd hb (nI_ge (by omega) (by omega))) (fun _ => ?_)
          refine vv_aload_n fx nd_MO_copy_78 rfl 0 rfl ?_
          refine vv_get (ci := 2) (C := nr_MO) (T := nt_MO) (N := 10) fx nt_MO_in 8 rfl rfl 4 (by decide) nf_MO_20 rfl nd_MO_copy_79 ?_
          refine vv_bipush (v := nI 21) fx nd_MO_copy_82 (by decide) ?_
          refine vv_iload_n fx nd_MO_copy_84 rfl 2 rfl ?_
          refine vv_imul fx nd_MO_copy_85 ?_
          refine vv_top (y := nI (21 * t)) (pk_mul _ _) ?_
          refine vv_iload_n fx nd_MO_copy_86 rfl 3 rfl ?_
          refine vv_iadd fx nd_MO_copy_87 ?_
          refine vv_top (y := nI ((21 * t) + q)) (nI_add _ _) ?_
          refine vv_aload_n fx nd_MO_copy_88 rfl 0 rfl ?_
          refine vv_get (ci := 2) (C := nr_MO) (T := nt_MO) (N := 10) fx nt_MO_in 8 rfl rfl 4 (by decide) nf_MO_20 rfl nd_MO_copy_89 ?_
          refine vv_bipush (v := nI 21) fx nd_MO_copy_92 (by decide) ?_
          refine vv_iload_n fx nd_MO_copy_94 rfl 1 rfl ?_
          refine vv_imul fx nd_MO_copy_95 ?_
          refine vv_top (y := nI (21 * f)) (pk_mul _ _) ?_
          refine vv_iload_n fx nd_MO_copy_96 rfl 3 rfl ?_
          refine vv_iadd fx nd_MO_copy_97 ?_
          refine vv_top (y := nI ((21 * f) + q)) (nI_add _ _) ?_
          refine vv_iald fx 12 0 rfl rfl (by omega) (by decide) nd_MO_copy_98 ?_
          refine vv_top (y := U 3 (21 * f + q)) (by rw [me_set_s]; exact va_cpy_r _ (U 3) 21 (by omega)) ?_
          refine vv_iast (U' := me_up (me_set (me_set (me_set (me_up U 0 t (U 0 f)) 1 (va_cpy (U 1) (U 1) (64 * f) (64 * t) 64)) 2 (va_cpy (U 2) (U 2) (64 * f) (64 * t) 64)) 3 (va_cpy (U 3) (U 3) (21 * f) (21 * t) q)) 3 ((21 * t) + q) (U 3 (21 * f + q))) (M' := M) fx 12 0 rfl rfl (by omega) (by decide) nd_MO_copy_99 (sy_setU3 _) ?_
          refine vv_mem (M9 := M) (U9 := me_set (me_set (me_set (me_up U 0 t (U 0 f)) 1 (va_cpy (U 1) (U 1) (64 * f) (64 * t) 64)) 2 (va_cpy (U 2) (U 2) (64 * f) (64 * t) 64)) 3 (va_cpy (U 3) (U 3) (21 * f) (21 * t) (q + 1))) (rfl) (by rw [me_up_s2, va_cpy_s]) ?_
          refine vv_iinc (v := nI (q + 1)) (L' := [(0, .ref (Y.2.1 8)), (1, .int (nI f)), (2, .int (nI t)), (3, .int (nI (q + 1)))]) fx nd_MO_copy_100 3 rfl (nI_1 q) (by decide) [1, 2, 3, 0] rfl ?_
          refine vv_goto (tgt := 72) fx nd_MO_copy_103 (by decide) ?_
          exact ih_loop2 (q + 1) (by omega)
      exact loop2 21 0 (by omega)
    | succ d ih_loop1 =>
      intro i hi
      refine vv_iload_n fx nd_MO_copy_14 rfl 3 rfl ?_
      refine vv_bipush (v := nI 64) fx nd_MO_copy_15 (by decide) ?_
      refine vv_icmp_ge (tgt := 70) fx nd_MO_copy_17 (by decide) (fun hb => absurd hb (nI_ge (by omega) (by omega))) (fun _ => ?_)
      refine vv_aload_n fx nd_MO_copy_20 rfl 0 rfl ?_
      refine vv_get (ci := 2) (C := nr_MO) (T := nt_MO) (N := 10) fx nt_MO_in 8 rfl rfl 2 (by decide) nf_MO_13 rfl nd_MO_copy_21 ?_
      refine vv_bipush (v := nI 64) fx nd_MO_copy_24 (by decide) ?_
      refine vv_iload_n fx nd_MO_copy_26 rfl 2 rfl ?_
      refine vv_imul fx nd_MO_copy_27 ?_
      refine vv_top (y := nI (64 * t)) (pk_mul _ _) ?_
      refine vv_iload_n fx nd_MO_copy_28 rfl 3 rfl ?_
      refine vv_iadd fx nd_MO_copy_29 ?_
      refine vv_top (y := nI ((64 * t) + i)) (nI_add _ _) ?_
      refine vv_aload_n fx nd_MO_copy_30 rfl 0 rfl ?_
      refine vv_get (ci := 2) (C := nr_MO) (T := nt_MO) (N := 10) fx nt_MO_in 8 rfl rfl 2 (by decide) nf_MO_13 rfl nd_MO_copy_31 ?_
      refine vv_bipush (v := nI 64) fx nd_MO_copy_34 (by decide) ?_
      refine vv_iload_n fx nd_MO_copy_36 rfl 1 rfl ?_
      refine vv_imul fx nd_MO_copy_37 ?_
      refine vv_top (y := nI (64 * f)) (pk_mul _ _) ?_
      refine vv_iload_n fx nd_MO_copy_38 rfl 3 rfl ?_
      refine vv_iadd fx nd_MO_copy_39 ?_
      refine vv_top (y := nI ((64 * f) + i)) (nI_add _ _) ?_
      refine vv_zald fx 10 1 rfl rfl (by omega) (by decide) nd_MO_copy_40 ?_
      refine vv_top (y := U 1 (64 * f + i)) (by rw [me_set_n _ _ (by decide), me_set_s]; exact va_cpy_r _ (U 1) 64 (by omega)) ?_
      refine vv_zast (U' := me_up (me_set (me_set (me_up U 0 t (U 0 f)) 1 (va_cpy (U 1) (U 1) (64 * f) (64 * t) i)) 2 (va_cpy (U 2) (U 2) (64 * f) (64 * t) i)) 1 ((64 * t) + i) (U 1 (64 * f + i))) (M' := M) fx 10 1 rfl rfl (by omega) (by decide) (hB.2.1 _ (by omega)) nd_MO_copy_41 (sy_setU1 _) ?_
      refine vv_mem (M9 := M) (U9 := me_set (me_set (me_up U 0 t (U 0 f)) 1 (va_cpy (U 1) (U 1) (64 * f) (64 * t) (i + 1))) 2 (va_cpy (U 2) (U 2) (64 * f) (64 * t) i)) (rfl) (by rw [me_up_o2 _ _ _ (by decide), va_cpy_s]) ?_
      refine vv_aload_n fx nd_MO_copy_42 rfl 0 rfl ?_
      refine vv_get (ci := 2) (C := nr_MO) (T := nt_MO) (N := 10) fx nt_MO_in 8 rfl rfl 3 (by decide) nf_MO_16 rfl nd_MO_copy_43 ?_
      refine vv_bipush (v := nI 64) fx nd_MO_copy_46 (by decide) ?_
      refine vv_iload_n fx nd_MO_copy_48 rfl 2 rfl ?_
      refine vv_imul fx nd_MO_copy_49 ?_
      refine vv_top (y := nI (64 * t)) (pk_mul _ _) ?_
      refine vv_iload_n fx nd_MO_copy_50 rfl 3 rfl ?_
      refine vv_iadd fx nd_MO_copy_51 ?_
      refine vv_top (y := nI ((64 * t) + i)) (nI_add _ _) ?_
      refine vv_aload_n fx nd_MO_copy_52 rfl 0 rfl ?_
      refine vv_get (ci := 2) (C := nr_MO) (T := nt_MO) (N := 10) fx nt_MO_in 8 rfl rfl 3 (by decide) nf_MO_16 rfl nd_MO_copy_53 ?_
      refine vv_bipush (v := nI 64) fx nd_MO_copy_56 (by decide) ?_
      refine vv_iload_n fx nd_MO_copy_58 rfl 1 rfl ?_
      refine vv_imul fx nd_MO_copy_59 ?_
      refine vv_top (y := nI (64 * f)) (pk_mul _ _) ?_
      refine vv_iload_n fx nd_MO_copy_60 rfl 3 rfl ?_
      refine vv_iadd fx nd_MO_copy_61 ?_
      refine vv_top (y := nI ((64 * f) + i)) (nI_add _ _) ?_
      refine vv_iald fx 11 0 rfl rfl (by omega) (by decide) nd_MO_copy_62 ?_
      refine vv_top (y := U 2 (64 * f + i)) (by rw [me_set_s]; exact va_cpy_r _ (U 2) 64 (by omega)) ?_
      refine vv_iast (U' := me_up (me_set (me_set (me_up U 0 t (U 0 f)) 1 (va_cpy (U 1) (U 1) (64 * f) (64 * t) (i + 1))) 2 (va_cpy (U 2) (U 2) (64 * f) (64 * t) i)) 2 ((64 * t) + i) (U 2 (64 * f + i))) (M' := M) fx 11 0 rfl rfl (by omega) (by decide) nd_MO_copy_63 (sy_setU2 _) ?_
      refine vv_mem (M9 := M) (U9 := me_set (me_set (me_up U 0 t (U 0 f)) 1 (va_cpy (U 1) (U 1) (64 * f) (64 * t) (i + 1))) 2 (va_cpy (U 2) (U 2) (64 * f) (64 * t) (i + 1))) (rfl) (by rw [me_up_s2, va_cpy_s]) ?_
      refine vv_iinc (v := nI (i + 1)) (L' := [(0, .ref (Y.2.1 8)), (1, .int (nI f)), (2, .int (nI t)), (3, .int (nI (i + 1)))]) fx nd_MO_copy_64 3 rfl (nI_1 i) (by decide) [1, 2, 3, 0] rfl ?_
      refine vv_goto (tgt := 14) fx nd_MO_copy_67 (by decide) ?_
      exact ih_loop1 (i + 1) (by omega)
  exact loop1 64 0 (by omega)
set_option maxRecDepth 4000 in
theorem cc_MO_empty (l : Launch) (Y : sy_Y) (M U : me_M) (o : Int64) (x : Nat) (hx : x < 14) : ct_V l ny_MO_empty nb_MO_empty 3 { frames := 0, cells := 0, slots := 0, locals := 0 } Y [.ref (Y.2.1 8), .int (nI x)] M U o M (mo_empty U x) o := by
  refine ct_body (own := nr_MO) (L0 := [(0, .ref (Y.2.1 8)), (1, .int (nI x))]) (by decide) rfl (Nat.le_of_ble_eq_true rfl) rfl ?_
  intro p e s m args below meth c fx
  refine vv_aload_n fx nd_MO_empty_0 rfl 0 rfl ?_
  refine vv_get (ci := 2) (C := nr_MO) (T := nt_MO) (N := 10) fx nt_MO_in 8 rfl rfl 1 (by decide) nf_MO_7 rfl nd_MO_empty_1 ?_
  refine vv_iload_n fx nd_MO_empty_4 rfl 1 rfl ?_
  refine vv_iconst (v := 0) fx nd_MO_empty_5 (by decide) ?_
  refine vv_zast (U' := me_up U 0 x 0) (M' := M) fx 9 1 rfl rfl (hx) (by decide) (Or.inl rfl) nd_MO_empty_6 (sy_setU0 _) ?_
  refine vv_iconst (v := nI 0) fx nd_MO_empty_7 (by decide) ?_
  refine vv_istore_n (L' := [(0, .ref (Y.2.1 8)), (1, .int (nI x)), (2, .int (nI 0))]) fx nd_MO_empty_8 rfl (by decide) [1, 2, 0] rfl ?_
  refine vv_mem (M9 := M) (U9 := me_zero (me_up U 0 x 0) 1 (64 * x) (64 * x + 0)) (rfl) ((me_zero_0 _ _ _).symm) ?_
  have loop1 : ∀ d i, i + d = 64 → vv p l e { frames := 0, cells := 0, slots := 0, locals := 0 } s m args below meth c 0 0 (MQ below (ct_Qv Y M (mo_empty U x) o) args s 0 0 Y.2.2.2) 3 Y M (me_zero (me_up U 0 x 0) 1 (64 * x) (64 * x + i)) o 9 [(0, .ref (Y.2.1 8)), (1, .int (nI x)), (2, .int (nI i))] [] := by
    intro d
    induction d with
    | zero =>
      intro i hi
      have e9 : i = 64 := by omega
      subst e9
      refine vv_iload_n fx nd_MO_empty_9 rfl 2 rfl ?_
      refine vv_bipush (v := nI 64) fx nd_MO_empty_10 (by decide) ?_
      refine vv_icmp_ge (tgt := 33) fx nd_MO_empty_12 (by decide) (fun _ => ?_) (fun hb => absurd (nI_le (by omega) (by omega)) hb)
      refine vv_iconst (v := nI 0) fx nd_MO_empty_33 (by decide) ?_
      refine vv_istore_n (L' := [(0, .ref (Y.2.1 8)), (1, .int (nI x)), (2, .int (nI 0))]) fx nd_MO_empty_34 rfl (by decide) [1, 2, 0] rfl ?_
      refine vv_mem (M9 := M) (U9 := me_zero (me_zero (me_up U 0 x 0) 1 (64 * x) (64 * x + 64)) 3 (21 * x) (21 * x + 0)) (rfl) ((me_zero_0 _ _ _).symm) ?_
      have loop2 : ∀ d q, q + d = 21 → vv p l e { frames := 0, cells := 0, slots := 0, locals := 0 } s m args below meth c 0 0 (MQ below (ct_Qv Y M (mo_empty U x) o) args s 0 0 Y.2.2.2) 3 Y M (me_zero (me_zero (me_up U 0 x 0) 1 (64 * x) (64 * x + 64)) 3 (21 * x) (21 * x + q)) o 35 [(0, .ref (Y.2.1 8)), (1, .int (nI x)), (2, .int (nI q))] [] := by
        intro d
        induction d with
        | zero =>
          intro q hq
          have e9 : q = 21 := by omega
          subst e9
          refine vv_iload_n fx nd_MO_empty_35 rfl 2 rfl ?_
          refine vv_bipush (v := nI 21) fx nd_MO_empty_36 (by decide) ?_
          refine vv_icmp_ge (tgt := 59) fx nd_MO_empty_38 (by decide) (fun _ => ?_) (fun hb => absurd (nI_le (by omega) (by omega)) hb)
          exact vv_vret fx rfl nd_MO_empty_59
        | succ d ih_loop2 =>
          intro q hq
          refine vv_iload_n fx nd_MO_empty_35 rfl 2 rfl ?_
          refine vv_bipush (v := nI 21) fx nd_MO_empty_36 (by decide) ?_
          refine vv_icmp_ge (tgt := 59) fx nd_MO_empty_38 (by decide) (fun hb => absurd hb (nI_ge (by omega) (by omega))) (fun _ => ?_)
          refine vv_aload_n fx nd_MO_empty_41 rfl 0 rfl ?_
          refine vv_get (ci := 2) (C := nr_MO) (T := nt_MO) (N := 10) fx nt_MO_in 8 rfl rfl 4 (by decide) nf_MO_20 rfl nd_MO_empty_42 ?_
          refine vv_bipush (v := nI 21) fx nd_MO_empty_45 (by decide) ?_
          refine vv_iload_n fx nd_MO_empty_47 rfl 1 rfl ?_
          refine vv_imul fx nd_MO_empty_48 ?_
          refine vv_top (y := nI (21 * x)) (pk_mul _ _) ?_
          refine vv_iload_n fx nd_MO_empty_49 rfl 2 rfl ?_
          refine vv_iadd fx nd_MO_empty_50 ?_
          refine vv_top (y := nI ((21 * x) + q)) (nI_add _ _) ?_
          refine vv_iconst (v := 0) fx nd_MO_empty_51 (by decide) ?_
          refine vv_iast (U' := me_up (me_zero (me_zero (me_up U 0 x 0) 1 (64 * x) (64 * x + 64)) 3 (21 * x) (21 * x + q)) 3 ((21 * x) + q) 0) (M' := M) fx 12 0 rfl rfl (by omega) (by decide) nd_MO_empty_52 (sy_setU3 _) ?_
          refine vv_mem (M9 := M) (U9 := me_zero (me_zero (me_up U 0 x 0) 1 (64 * x) (64 * x + 64)) 3 (21 * x) (21 * x + (q + 1))) (rfl) (me_zero_s _ _ _ _ (by omega)) ?_
          refine vv_iinc (v := nI (q + 1)) (L' := [(0, .ref (Y.2.1 8)), (1, .int (nI x)), (2, .int (nI (q + 1)))]) fx nd_MO_empty_53 2 rfl (nI_1 q) (by decide) [1, 2, 0] rfl ?_
          refine vv_goto (tgt := 35) fx nd_MO_empty_56 (by decide) ?_
          exact ih_loop2 (q + 1) (by omega)
      exact loop2 21 0 (by omega)
    | succ d ih_loop1 =>
      intro i hi
      refine vv_iload_n fx nd_MO_empty_9 rfl 2 rfl ?_
      refine vv_bipush (v := nI 64) fx nd_MO_empty_10 (by decide) ?_
      refine vv_icmp_ge (tgt := 33) fx nd_MO_empty_12 (by decide) (fun hb => absurd hb (nI_ge (by omega) (by omega))) (fun _ => ?_)
      refine vv_aload_n fx nd_MO_empty_15 rfl 0 rfl ?_
      refine vv_get (ci := 2) (C := nr_MO) (T := nt_MO) (N := 10) fx nt_MO_in 8 rfl rfl 2 (by decide) nf_MO_13 rfl nd_MO_empty_16 ?_
      refine vv_bipush (v := nI 64) fx nd_MO_empty_19 (by decide) ?_
      refine vv_iload_n fx nd_MO_empty_21 rfl 1 rfl ?_
      refine vv_imul fx nd_MO_empty_22 ?_
      refine vv_top (y := nI (64 * x)) (pk_mul _ _) ?_
      refine vv_iload_n fx nd_MO_empty_23 rfl 2 rfl ?_
      refine vv_iadd fx nd_MO_empty_24 ?_
      refine vv_top (y := nI ((64 * x) + i)) (nI_add _ _) ?_
      refine vv_iconst (v := 0) fx nd_MO_empty_25 (by decide) ?_
      refine vv_zast (U' := me_up (me_zero (me_up U 0 x 0) 1 (64 * x) (64 * x + i)) 1 ((64 * x) + i) 0) (M' := M) fx 10 1 rfl rfl (by omega) (by decide) (Or.inl rfl) nd_MO_empty_26 (sy_setU1 _) ?_
      refine vv_mem (M9 := M) (U9 := me_zero (me_up U 0 x 0) 1 (64 * x) (64 * x + (i + 1))) (rfl) (me_zero_s _ _ _ _ (by omega)) ?_
      refine vv_iinc (v := nI (i + 1)) (L' := [(0, .ref (Y.2.1 8)), (1, .int (nI x)), (2, .int (nI (i + 1)))]) fx nd_MO_empty_27 2 rfl (nI_1 i) (by decide) [1, 2, 0] rfl ?_
      refine vv_goto (tgt := 9) fx nd_MO_empty_30 (by decide) ?_
      exact ih_loop1 (i + 1) (by omega)
  exact loop1 64 0 (by omega)
set_option maxRecDepth 4000 in
theorem cc_MO_isKey (l : Launch) (Y : sy_Y) (M U : me_M) (o : Int64) (k : Int32) : ct_I l ny_MO_isKey nb_MO_isKey 1 (some .boolean) { frames := 0, cells := 0, slots := 0, locals := 0 } Y [.int k] M U o (if fb_isk k = true then 1 else 0) M U o := by
  refine ct_body (own := nr_MO) (L0 := [(0, .int k)]) (by decide) rfl (Nat.le_of_ble_eq_true rfl) rfl ?_
  intro p e s m args below meth c fx
  refine vv_iload_n fx nd_MO_isKey_0 rfl 0 rfl ?_
  refine vv_if_lt (tgt := 14) fx nd_MO_isKey_1 (by decide) (fun hb1 => ?_) (fun hb1 => ?_)
  · refine vv_iconst (v := nI 0) fx nd_MO_isKey_14 (by decide) ?_
    exact vv_zret fx rfl nd_MO_isKey_15 (b01_f (fb_isk_lt hb1)) (fb_01 _)
  · refine vv_iload_n fx nd_MO_isKey_4 rfl 0 rfl ?_
    refine vv_bipush (v := nI 64) fx nd_MO_isKey_5 (by decide) ?_
    refine vv_icmp_ge (tgt := 14) fx nd_MO_isKey_7 (by decide) (fun hb7 => ?_) (fun hb7 => ?_)
    · refine vv_iconst (v := nI 0) fx nd_MO_isKey_14 (by decide) ?_
      exact vv_zret fx rfl nd_MO_isKey_15 (b01_f (fb_isk_ge hb7)) (fb_01 _)
    · refine vv_iconst (v := nI 1) fx nd_MO_isKey_10 (by decide) ?_
      refine vv_goto (tgt := 15) fx nd_MO_isKey_11 (by decide) ?_
      exact vv_zret fx rfl nd_MO_isKey_15 (b01_t (fb_isk_in hb1 hb7)) (fb_01 _)
set_option maxRecDepth 4000 in
theorem cc_MO_isMap (l : Launch) (Y : sy_Y) (M U : me_M) (o : Int64) (k : Int32) : ct_I l ny_MO_isMap nb_MO_isMap 2 (some .boolean) { frames := 0, cells := 0, slots := 0, locals := 0 } Y [.ref (Y.2.1 8), .int k] M U o (if mo_ism U k = true then 1 else 0) M U o := by
  refine ct_body (own := nr_MO) (L0 := [(0, .ref (Y.2.1 8)), (1, .int k)]) (by decide) rfl (Nat.le_of_ble_eq_true rfl) rfl ?_
  intro p e s m args below meth c fx
  refine vv_iload_n fx nd_MO_isMap_0 rfl 1 rfl ?_
  refine vv_if_lt (tgt := 23) fx nd_MO_isMap_1 (by decide) (fun hb1 => ?_) (fun hb1 => ?_)
  · refine vv_iconst (v := nI 0) fx nd_MO_isMap_23 (by decide) ?_
    exact vv_zret fx rfl nd_MO_isMap_24 (b01_f (mo_ism_lt hb1)) (fb_01 _)
  · refine vv_iload_n fx nd_MO_isMap_4 rfl 1 rfl ?_
    refine vv_bipush (v := nI 7) fx nd_MO_isMap_5 (by decide) ?_
    refine vv_icmp_ge (tgt := 23) fx nd_MO_isMap_7 (by decide) (fun hb7 => ?_) (fun hb7 => ?_)
    · refine vv_iconst (v := nI 0) fx nd_MO_isMap_23 (by decide) ?_
      exact vv_zret fx rfl nd_MO_isMap_24 (b01_f (mo_ism_ge hb7)) (fb_01 _)
    · obtain ⟨hx7, hxe⟩ := rf_h7 (Int32.not_lt.mp hb1) (Int32.not_le.mp hb7)
      refine vv_aload_n fx nd_MO_isMap_10 rfl 0 rfl ?_
      refine vv_get (ci := 2) (C := nr_MO) (T := nt_MO) (N := 10) fx nt_MO_in 8 rfl rfl 1 (by decide) nf_MO_7 rfl nd_MO_isMap_11 ?_
      refine vv_iload_n fx nd_MO_isMap_14 rfl 1 rfl ?_
      refine vv_top (y := nI k.toNatClampNeg) (hxe) ?_
      refine vv_zald fx 9 1 rfl rfl (by omega) (by decide) nd_MO_isMap_15 ?_
      refine vv_if_eq (tgt := 23) fx nd_MO_isMap_16 (by decide) (fun hb16 => ?_) (fun hb16 => ?_)
      · refine vv_iconst (v := nI 0) fx nd_MO_isMap_23 (by decide) ?_
        exact vv_zret fx rfl nd_MO_isMap_24 (b01_f (mo_ism_0 hb16)) (fb_01 _)
      · refine vv_iconst (v := nI 1) fx nd_MO_isMap_19 (by decide) ?_
        refine vv_goto (tgt := 24) fx nd_MO_isMap_20 (by decide) ?_
        exact vv_zret fx rfl nd_MO_isMap_24 (b01_t (mo_ism_in hb1 hb7 hb16)) (fb_01 _)
set_option maxRecDepth 4000 in
theorem cc_MO_isSnapshot (l : Launch) (Y : sy_Y) (M U : me_M) (o : Int64) (k : Int32) : ct_I l ny_MO_isSnapshot nb_MO_isSnapshot 2 (some .boolean) { frames := 1, cells := 0, slots := 0, locals := 21 } Y [.ref (Y.2.1 8), .int k] M U o (if mo_iss U k = true then 1 else 0) M U o := by
  refine ct_body (own := nr_MO) (L0 := [(0, .ref (Y.2.1 8)), (1, .int k)]) (by decide) rfl (Nat.le_of_ble_eq_true rfl) rfl ?_
  intro p e s m args below meth c fx
  refine vv_iload_n fx nd_MO_isSnapshot_0 rfl 1 rfl ?_
  refine vv_if_le (tgt := 16) fx nd_MO_isSnapshot_1 (by decide) (fun hb1 => ?_) (fun hb1 => ?_)
  · refine vv_iconst (v := nI 0) fx nd_MO_isSnapshot_16 (by decide) ?_
    exact vv_zret fx rfl nd_MO_isSnapshot_17 (b01_f (by unfold mo_iss; rw [decide_eq_false (p := 0 < k) (Int32.not_lt.mpr hb1)]; rfl)) (fb_01 _)
  · refine vv_aload_n fx nd_MO_isSnapshot_4 rfl 0 rfl ?_
    refine vv_iload_n fx nd_MO_isSnapshot_5 rfl 1 rfl ?_
    refine vv_callVi (C := nr_MO) (T := nt_MO) (N := 10) (ci := 2) fx (cc_MO_isMap l Y M U o k) nm_MO_30 ns_MO_isMap nv_MO_isMap nz_MO nc_MO_isMap ni_MO_isMap 8 rfl rfl ⟨rfl, rfl, by decide, by decide⟩ ⟨Nat.le_of_ble_eq_true rfl, Nat.le_of_ble_eq_true rfl⟩ (Nat.le_of_ble_eq_true rfl) nd_MO_isSnapshot_6 rfl ?_
    refine vv_if_eq (tgt := 16) fx nd_MO_isSnapshot_9 (by decide) (fun hb9 => ?_) (fun hb9 => ?_)
    · refine vv_iconst (v := nI 0) fx nd_MO_isSnapshot_16 (by decide) ?_
      exact vv_zret fx rfl nd_MO_isSnapshot_17 (b01_f (by unfold mo_iss; rw [b01_0 hb9, Bool.and_false])) (fb_01 _)
    · refine vv_iconst (v := nI 1) fx nd_MO_isSnapshot_12 (by decide) ?_
      refine vv_goto (tgt := 17) fx nd_MO_isSnapshot_13 (by decide) ?_
      exact vv_zret fx rfl nd_MO_isSnapshot_17 (b01_t (by unfold mo_iss; rw [b01_1 hb9, decide_eq_true (p := 0 < k) (Int32.not_le.mp hb1)]; rfl)) (fb_01 _)
set_option maxRecDepth 4000 in
theorem cc_MO_boundIn (l : Launch) (Y : sy_Y) (M U : me_M) (o : Int64) (x lo n : Nat) (hx : x < 14) (hl : lo + n ≤ 64) : ct_I l ny_MO_boundIn nb_MO_boundIn 6 (some .int) { frames := 0, cells := 0, slots := 0, locals := 0 } Y [.ref (Y.2.1 8), .int (nI x), .int (nI lo), .int (nI n)] M U o (nI (mo_bi U x lo n)) M U o := by
  refine ct_body (own := nr_MO) (L0 := [(0, .ref (Y.2.1 8)), (1, .int (nI x)), (2, .int (nI lo)), (3, .int (nI n))]) (by decide) rfl (Nat.le_of_ble_eq_true rfl) rfl ?_
  intro p e s m args below meth c fx
  refine vv_iconst (v := nI 0) fx nd_MO_boundIn_0 (by decide) ?_
  refine vv_istore (L' := [(0, .ref (Y.2.1 8)), (1, .int (nI x)), (2, .int (nI lo)), (3, .int (nI n)), (4, .int (nI 0))]) fx nd_MO_boundIn_1 (by decide) [1, 2, 3, 4, 0] rfl ?_
  refine vv_iload_n fx nd_MO_boundIn_3 rfl 2 rfl ?_
  refine vv_istore (L' := [(0, .ref (Y.2.1 8)), (1, .int (nI x)), (2, .int (nI lo)), (3, .int (nI n)), (4, .int (nI 0)), (5, .int (nI lo))]) fx nd_MO_boundIn_4 (by decide) [1, 2, 3, 4, 5, 0] rfl ?_
  have loop : ∀ d i, i + d = n → vv p l e { frames := 0, cells := 0, slots := 0, locals := 0 } s m args below meth c 0 0 (MQ below (ct_Qi Y (nI (mo_bi U x lo n)) M U o) args s 0 0 Y.2.2.2) 6 Y M U o 6 [(0, .ref (Y.2.1 8)), (1, .int (nI x)), (2, .int (nI lo)), (3, .int (nI n)), (4, .int (nI (mo_bi U x lo i))), (5, .int (nI (lo + i)))] [] := by
    intro d
    induction d with
    | zero =>
      intro i hi
      have e9 : i = n := by omega
      subst e9
      refine vv_iload fx nd_MO_boundIn_6 5 rfl ?_
      refine vv_iload_n fx nd_MO_boundIn_8 rfl 2 rfl ?_
      refine vv_iload_n fx nd_MO_boundIn_9 rfl 3 rfl ?_
      refine vv_iadd fx nd_MO_boundIn_10 ?_
      refine vv_top (y := nI (lo + i)) (nI_add _ _) ?_
      refine vv_icmp_ge (tgt := 46) fx nd_MO_boundIn_11 (by decide) (fun _ => ?_) (fun hb => absurd (nI_le (by omega) (by omega)) hb)
      refine vv_iload fx nd_MO_boundIn_46 4 rfl ?_
      exact vv_iret fx rfl nd_MO_boundIn_48 (rfl)
    | succ d ih_loop =>
      intro i hi
      have ev : mo_bi U x lo (i + 1) = mo_bi U x lo i + if decide (U 1 (64 * x + (lo + i)) ≠ 0) = true then 1 else 0 := rfl
      refine vv_iload fx nd_MO_boundIn_6 5 rfl ?_
      refine vv_iload_n fx nd_MO_boundIn_8 rfl 2 rfl ?_
      refine vv_iload_n fx nd_MO_boundIn_9 rfl 3 rfl ?_
      refine vv_iadd fx nd_MO_boundIn_10 ?_
      refine vv_top (y := nI (lo + n)) (nI_add _ _) ?_
      refine vv_icmp_ge (tgt := 46) fx nd_MO_boundIn_11 (by decide) (fun hb => absurd hb (nI_ge (by omega) (by omega))) (fun _ => ?_)
      refine vv_aload_n fx nd_MO_boundIn_14 rfl 0 rfl ?_
      refine vv_get (ci := 2) (C := nr_MO) (T := nt_MO) (N := 10) fx nt_MO_in 8 rfl rfl 2 (by decide) nf_MO_13 rfl nd_MO_boundIn_15 ?_
      refine vv_bipush (v := nI 64) fx nd_MO_boundIn_18 (by decide) ?_
      refine vv_iload_n fx nd_MO_boundIn_20 rfl 1 rfl ?_
      refine vv_imul fx nd_MO_boundIn_21 ?_
      refine vv_top (y := nI (64 * x)) (pk_mul _ _) ?_
      refine vv_iload fx nd_MO_boundIn_22 5 rfl ?_
      refine vv_iadd fx nd_MO_boundIn_24 ?_
      refine vv_top (y := nI ((64 * x) + (lo + i))) (nI_add _ _) ?_
      refine vv_zald fx 10 1 rfl rfl (by omega) (by decide) nd_MO_boundIn_25 ?_
      refine vv_if_eq (tgt := 36) fx nd_MO_boundIn_26 (by decide) (fun hb26 => ?_) (fun hb26 => ?_)
      · rw [decide_eq_false (p := U 1 (64 * x + (lo + i)) ≠ 0) (fun z => z hb26), if_neg (by decide), Nat.add_zero] at ev
        refine vv_iload fx nd_MO_boundIn_36 4 rfl ?_
        refine vv_istore (L' := [(0, .ref (Y.2.1 8)), (1, .int (nI x)), (2, .int (nI lo)), (3, .int (nI n)), (4, .int (nI (mo_bi U x lo i))), (5, .int (nI (lo + i)))]) fx nd_MO_boundIn_38 (by decide) [1, 2, 3, 4, 0, 5] rfl ?_
        refine vv_iinc (v := nI (lo + (i + 1))) (L' := [(0, .ref (Y.2.1 8)), (1, .int (nI x)), (2, .int (nI lo)), (3, .int (nI n)), (4, .int (nI (mo_bi U x lo i))), (5, .int (nI (lo + (i + 1))))]) fx nd_MO_boundIn_40 5 rfl (nI_1 _) (by decide) [1, 2, 3, 4, 5, 0] rfl ?_
        refine vv_goto (tgt := 6) fx nd_MO_boundIn_43 (by decide) ?_
        have h9 := ih_loop (i + 1) (by omega)
        rw [ev] at h9
        exact h9
      · rw [decide_eq_true (p := U 1 (64 * x + (lo + i)) ≠ 0) hb26, if_pos rfl] at ev
        refine vv_iload fx nd_MO_boundIn_29 4 rfl ?_
        refine vv_iconst (v := nI 1) fx nd_MO_boundIn_31 (by decide) ?_
        refine vv_iadd fx nd_MO_boundIn_32 ?_
        refine vv_top (y := nI ((mo_bi U x lo i) + 1)) (nI_add _ _) ?_
        refine vv_goto (tgt := 38) fx nd_MO_boundIn_33 (by decide) ?_
        refine vv_istore (L' := [(0, .ref (Y.2.1 8)), (1, .int (nI x)), (2, .int (nI lo)), (3, .int (nI n)), (4, .int (nI ((mo_bi U x lo i) + 1))), (5, .int (nI (lo + i)))]) fx nd_MO_boundIn_38 (by decide) [1, 2, 3, 4, 0, 5] rfl ?_
        refine vv_iinc (v := nI (lo + (i + 1))) (L' := [(0, .ref (Y.2.1 8)), (1, .int (nI x)), (2, .int (nI lo)), (3, .int (nI n)), (4, .int (nI ((mo_bi U x lo i) + 1))), (5, .int (nI (lo + (i + 1))))]) fx nd_MO_boundIn_40 5 rfl (nI_1 _) (by decide) [1, 2, 3, 4, 5, 0] rfl ?_
        refine vv_goto (tgt := 6) fx nd_MO_boundIn_43 (by decide) ?_
        have h9 := ih_loop (i + 1) (by omega)
        rw [ev] at h9
        exact h9
  exact loop n 0 (by omega)
set_option maxRecDepth 4000 in
theorem cc_MO_isIn (l : Launch) (Y : sy_Y) (M U : me_M) (o : Int64) (x : Int32) (q lo n : Nat) (hq : q < 21) (hl : lo + n ≤ 14) : ct_I l ny_MO_isIn nb_MO_isIn 7 (some .boolean) { frames := 0, cells := 0, slots := 0, locals := 0 } Y [.ref (Y.2.1 8), .int x, .int (nI q), .int (nI lo), .int (nI (lo + n))] M U o (if mo_in U x q lo n = true then 1 else 0) M U o := by
  refine ct_body (own := nr_MO) (L0 := [(0, .ref (Y.2.1 8)), (1, .int x), (2, .int (nI q)), (3, .int (nI lo)), (4, .int (nI (lo + n)))]) (by decide) rfl (Nat.le_of_ble_eq_true rfl) rfl ?_
  intro p e s m args below meth c fx
  refine vv_iconst (v := nI 0) fx nd_MO_isIn_0 (by decide) ?_
  refine vv_istore (L' := [(0, .ref (Y.2.1 8)), (1, .int x), (2, .int (nI q)), (3, .int (nI lo)), (4, .int (nI (lo + n))), (5, .int (nI 0))]) fx nd_MO_isIn_1 (by decide) [1, 2, 3, 4, 5, 0] rfl ?_
  refine vv_iload_n fx nd_MO_isIn_3 rfl 3 rfl ?_
  refine vv_istore (L' := [(0, .ref (Y.2.1 8)), (1, .int x), (2, .int (nI q)), (3, .int (nI lo)), (4, .int (nI (lo + n))), (5, .int (nI 0)), (6, .int (nI lo))]) fx nd_MO_isIn_4 (by decide) [1, 2, 3, 4, 5, 6, 0] rfl ?_
  have loop : ∀ d i, i + d = n → vv p l e { frames := 0, cells := 0, slots := 0, locals := 0 } s m args below meth c 0 0 (MQ below (ct_Qi Y (if mo_in U x q lo n = true then 1 else 0) M U o) args s 0 0 Y.2.2.2) 7 Y M U o 6 [(0, .ref (Y.2.1 8)), (1, .int x), (2, .int (nI q)), (3, .int (nI lo)), (4, .int (nI (lo + n))), (5, .int (if mo_in U x q lo i = true then 1 else 0)), (6, .int (nI (lo + i)))] [] := by
    intro d
    induction d with
    | zero =>
      intro i hi
      have e9 : i = n := by omega
      subst e9
      refine vv_iload fx nd_MO_isIn_6 6 rfl ?_
      refine vv_iload fx nd_MO_isIn_8 4 rfl ?_
      refine vv_icmp_ge (tgt := 47) fx nd_MO_isIn_10 (by decide) (fun _ => ?_) (fun hb => absurd (nI_le (by omega) (by omega)) hb)
      refine vv_iload fx nd_MO_isIn_47 5 rfl ?_
      exact vv_zret fx rfl nd_MO_isIn_49 (rfl) (fb_01 _)
    | succ d ih_loop =>
      intro i hi
      have ev : mo_in U x q lo (i + 1) = (mo_in U x q lo i || decide (U 3 (21 * (lo + i) + q) = x)) := rfl
      refine vv_iload fx nd_MO_isIn_6 6 rfl ?_
      refine vv_iload fx nd_MO_isIn_8 4 rfl ?_
      refine vv_icmp_ge (tgt := 47) fx nd_MO_isIn_10 (by decide) (fun hb => absurd hb (nI_ge (by omega) (by omega))) (fun _ => ?_)
      refine vv_iload fx nd_MO_isIn_13 5 rfl ?_
      refine vv_if_ne (tgt := 34) fx nd_MO_isIn_15 (by decide) (fun hb15 => ?_) (fun hb15 => ?_)
      · refine vv_iconst (v := nI 1) fx nd_MO_isIn_34 (by decide) ?_
        refine vv_goto (tgt := 39) fx nd_MO_isIn_35 (by decide) ?_
        refine vv_top (y := if mo_in U x q lo (i + 1) = true then 1 else 0) (b01_t (by rw [ev, b01_1 hb15]; rfl)) ?_
        refine vv_istore (L' := [(0, .ref (Y.2.1 8)), (1, .int x), (2, .int (nI q)), (3, .int (nI lo)), (4, .int (nI (lo + n))), (5, .int (if mo_in U x q lo (i + 1) = true then 1 else 0)), (6, .int (nI (lo + i)))]) fx nd_MO_isIn_39 (by decide) [1, 2, 3, 4, 5, 0, 6] rfl ?_
        refine vv_iinc (v := nI (lo + (i + 1))) (L' := [(0, .ref (Y.2.1 8)), (1, .int x), (2, .int (nI q)), (3, .int (nI lo)), (4, .int (nI (lo + n))), (5, .int (if mo_in U x q lo (i + 1) = true then 1 else 0)), (6, .int (nI (lo + (i + 1))))]) fx nd_MO_isIn_41 6 rfl (nI_1 _) (by decide) [1, 2, 3, 4, 5, 6, 0] rfl ?_
        refine vv_goto (tgt := 6) fx nd_MO_isIn_44 (by decide) ?_
        exact ih_loop (i + 1) (by omega)
      · refine vv_aload_n fx nd_MO_isIn_18 rfl 0 rfl ?_
        refine vv_get (ci := 2) (C := nr_MO) (T := nt_MO) (N := 10) fx nt_MO_in 8 rfl rfl 4 (by decide) nf_MO_20 rfl nd_MO_isIn_19 ?_
        refine vv_bipush (v := nI 21) fx nd_MO_isIn_22 (by decide) ?_
        refine vv_iload fx nd_MO_isIn_24 6 rfl ?_
        refine vv_imul fx nd_MO_isIn_26 ?_
        refine vv_top (y := nI (21 * (lo + i))) (pk_mul _ _) ?_
        refine vv_iload_n fx nd_MO_isIn_27 rfl 2 rfl ?_
        refine vv_iadd fx nd_MO_isIn_28 ?_
        refine vv_top (y := nI ((21 * (lo + i)) + q)) (nI_add _ _) ?_
        refine vv_iald fx 12 0 rfl rfl (by omega) (by decide) nd_MO_isIn_29 ?_
        refine vv_iload_n fx nd_MO_isIn_30 rfl 1 rfl ?_
        refine vv_icmp_ne (tgt := 38) fx nd_MO_isIn_31 (by decide) (fun hb31 => ?_) (fun hb31 => ?_)
        · refine vv_iconst (v := nI 0) fx nd_MO_isIn_38 (by decide) ?_
          refine vv_top (y := if mo_in U x q lo (i + 1) = true then 1 else 0) (b01_f (by rw [ev, b01_0 hb15, decide_eq_false hb31]; rfl)) ?_
          refine vv_istore (L' := [(0, .ref (Y.2.1 8)), (1, .int x), (2, .int (nI q)), (3, .int (nI lo)), (4, .int (nI (lo + n))), (5, .int (if mo_in U x q lo (i + 1) = true then 1 else 0)), (6, .int (nI (lo + i)))]) fx nd_MO_isIn_39 (by decide) [1, 2, 3, 4, 5, 0, 6] rfl ?_
          refine vv_iinc (v := nI (lo + (i + 1))) (L' := [(0, .ref (Y.2.1 8)), (1, .int x), (2, .int (nI q)), (3, .int (nI lo)), (4, .int (nI (lo + n))), (5, .int (if mo_in U x q lo (i + 1) = true then 1 else 0)), (6, .int (nI (lo + (i + 1))))]) fx nd_MO_isIn_41 6 rfl (nI_1 _) (by decide) [1, 2, 3, 4, 5, 6, 0] rfl ?_
          refine vv_goto (tgt := 6) fx nd_MO_isIn_44 (by decide) ?_
          exact ih_loop (i + 1) (by omega)
        · refine vv_iconst (v := nI 1) fx nd_MO_isIn_34 (by decide) ?_
          refine vv_goto (tgt := 39) fx nd_MO_isIn_35 (by decide) ?_
          refine vv_top (y := if mo_in U x q lo (i + 1) = true then 1 else 0) (b01_t (by rw [ev, decide_eq_true hb31, Bool.or_true])) ?_
          refine vv_istore (L' := [(0, .ref (Y.2.1 8)), (1, .int x), (2, .int (nI q)), (3, .int (nI lo)), (4, .int (nI (lo + n))), (5, .int (if mo_in U x q lo (i + 1) = true then 1 else 0)), (6, .int (nI (lo + i)))]) fx nd_MO_isIn_39 (by decide) [1, 2, 3, 4, 5, 0, 6] rfl ?_
          refine vv_iinc (v := nI (lo + (i + 1))) (L' := [(0, .ref (Y.2.1 8)), (1, .int x), (2, .int (nI q)), (3, .int (nI lo)), (4, .int (nI (lo + n))), (5, .int (if mo_in U x q lo (i + 1) = true then 1 else 0)), (6, .int (nI (lo + (i + 1))))]) fx nd_MO_isIn_41 6 rfl (nI_1 _) (by decide) [1, 2, 3, 4, 5, 6, 0] rfl ?_
          refine vv_goto (tgt := 6) fx nd_MO_isIn_44 (by decide) ?_
          exact ih_loop (i + 1) (by omega)
  exact loop n 0 (by omega)
set_option maxRecDepth 4000 in
theorem cc_MO_different (l : Launch) (Y : sy_Y) (M U : me_M) (o : Int64) (lo n : Nat) (hl : lo + n ≤ 14) : ct_I l ny_MO_different nb_MO_different 7 (some .int) { frames := 1, cells := 0, slots := 0, locals := 26 } Y [.ref (Y.2.1 8), .int (nI lo), .int (nI (lo + n))] M U o (nI (mo_df U lo n 21)) M U o := by
  refine ct_body (own := nr_MO) (L0 := [(0, .ref (Y.2.1 8)), (1, .int (nI lo)), (2, .int (nI (lo + n)))]) (by decide) rfl (Nat.le_of_ble_eq_true rfl) rfl ?_
  intro p e s m args below meth c fx
  refine vv_iconst (v := nI 0) fx nd_MO_different_0 (by decide) ?_
  refine vv_istore_n (L' := [(0, .ref (Y.2.1 8)), (1, .int (nI lo)), (2, .int (nI (lo + n))), (3, .int (nI 0))]) fx nd_MO_different_1 rfl (by decide) [1, 2, 3, 0] rfl ?_
  refine vv_iconst (v := nI 0) fx nd_MO_different_2 (by decide) ?_
  refine vv_istore (L' := [(0, .ref (Y.2.1 8)), (1, .int (nI lo)), (2, .int (nI (lo + n))), (3, .int (nI 0)), (4, .int (nI 0))]) fx nd_MO_different_3 (by decide) [1, 2, 3, 4, 0] rfl ?_
  have outer : ∀ d q, q + d = 21 → vv p l e { frames := 1, cells := 0, slots := 0, locals := 26 } s m args below meth c 0 0 (MQ below (ct_Qi Y (nI (mo_df U lo n 21)) M U o) args s 0 0 Y.2.2.2) 7 Y M U o 5 [(0, .ref (Y.2.1 8)), (1, .int (nI lo)), (2, .int (nI (lo + n))), (3, .int (nI (mo_df U lo n q))), (4, .int (nI q))] [] := by
    intro d
    induction d with
    | zero =>
      intro q hq
      have e9 : q = 21 := by omega
      subst e9
      refine vv_iload fx nd_MO_different_5 4 rfl ?_
      refine vv_bipush (v := nI 21) fx nd_MO_different_7 (by decide) ?_
      refine vv_icmp_ge (tgt := 75) fx nd_MO_different_9 (by decide) (fun _ => ?_) (fun hb => absurd (nI_le (by omega) (by omega)) hb)
      refine vv_iload_n fx nd_MO_different_75 rfl 3 rfl ?_
      exact vv_iret fx rfl nd_MO_different_76 (rfl)
    | succ d ih_outer =>
      intro q hq
      refine vv_iload fx nd_MO_different_5 4 rfl ?_
      refine vv_bipush (v := nI 21) fx nd_MO_different_7 (by decide) ?_
      refine vv_icmp_ge (tgt := 75) fx nd_MO_different_9 (by decide) (fun hb => absurd hb (nI_ge (by omega) (by omega))) (fun _ => ?_)
      refine vv_iload_n fx nd_MO_different_12 rfl 1 rfl ?_
      refine vv_istore (L' := [(0, .ref (Y.2.1 8)), (1, .int (nI lo)), (2, .int (nI (lo + n))), (3, .int (nI (mo_df U lo n q))), (4, .int (nI q)), (5, .int (nI lo))]) fx nd_MO_different_13 (by decide) [1, 2, 3, 4, 5, 0] rfl ?_
      have inner : ∀ d i, i + d = n → vv p l e { frames := 1, cells := 0, slots := 0, locals := 26 } s m args below meth c 0 0 (MQ below (ct_Qi Y (nI (mo_df U lo n 21)) M U o) args s 0 0 Y.2.2.2) 7 Y M U o 15 [(0, .ref (Y.2.1 8)), (1, .int (nI lo)), (2, .int (nI (lo + n))), (3, .int (nI (mo_df U lo n q + me_cn (fun i => decide (0 < U 3 (21 * (lo + i) + q)) && !mo_in U (U 3 (21 * (lo + i) + q)) q lo i) i))), (4, .int (nI q)), (5, .int (nI (lo + i)))] [] := by
        intro d
        induction d with
        | zero =>
          intro i hi
          have e9 : i = n := by omega
          subst e9
          refine vv_iload fx nd_MO_different_15 5 rfl ?_
          refine vv_iload_n fx nd_MO_different_17 rfl 2 rfl ?_
          refine vv_icmp_ge (tgt := 69) fx nd_MO_different_18 (by decide) (fun _ => ?_) (fun hb => absurd (nI_le (by omega) (by omega)) hb)
          refine vv_iinc (v := nI (q + 1)) (L' := [(0, .ref (Y.2.1 8)), (1, .int (nI lo)), (2, .int (nI (lo + i))), (3, .int (nI (mo_df U lo i q + me_cn (fun i => decide (0 < U 3 (21 * (lo + i) + q)) && !mo_in U (U 3 (21 * (lo + i) + q)) q lo i) i))), (4, .int (nI (q + 1))), (5, .int (nI (lo + i)))]) fx nd_MO_different_69 4 rfl (nI_1 q) (by decide) [1, 2, 3, 4, 0, 5] rfl ?_
          refine vv_goto (tgt := 5) fx nd_MO_different_72 (by decide) ?_
          refine vv_loc (L' := [(0, .ref (Y.2.1 8)), (1, .int (nI lo)), (2, .int (nI (lo + i))), (3, .int (nI (mo_df U lo i q + me_cn (fun i => decide (0 < U 3 (21 * (lo + i) + q)) && !mo_in U (U 3 (21 * (lo + i) + q)) q lo i) i))), (4, .int (nI (q + 1)))]) [0, 1, 2, 3, 4] rfl ?_
          exact ih_outer (q + 1) (by omega)
        | succ d ih_inner =>
          intro i hi
          have ev : me_cn (fun i => decide (0 < U 3 (21 * (lo + i) + q)) && !mo_in U (U 3 (21 * (lo + i) + q)) q lo i) (i + 1) = me_cn (fun i => decide (0 < U 3 (21 * (lo + i) + q)) && !mo_in U (U 3 (21 * (lo + i) + q)) q lo i) i + if (decide (0 < (U 3 (21 * (lo + i) + q))) && !mo_in U (U 3 (21 * (lo + i) + q)) q lo i) = true then 1 else 0 := rfl
          refine vv_iload fx nd_MO_different_15 5 rfl ?_
          refine vv_iload_n fx nd_MO_different_17 rfl 2 rfl ?_
          refine vv_icmp_ge (tgt := 69) fx nd_MO_different_18 (by decide) (fun hb => absurd hb (nI_ge (by omega) (by omega))) (fun _ => ?_)
          refine vv_aload_n fx nd_MO_different_21 rfl 0 rfl ?_
          refine vv_get (ci := 2) (C := nr_MO) (T := nt_MO) (N := 10) fx nt_MO_in 8 rfl rfl 4 (by decide) nf_MO_20 rfl nd_MO_different_22 ?_
          refine vv_bipush (v := nI 21) fx nd_MO_different_25 (by decide) ?_
          refine vv_iload fx nd_MO_different_27 5 rfl ?_
          refine vv_imul fx nd_MO_different_29 ?_
          refine vv_top (y := nI (21 * (lo + i))) (pk_mul _ _) ?_
          refine vv_iload fx nd_MO_different_30 4 rfl ?_
          refine vv_iadd fx nd_MO_different_32 ?_
          refine vv_top (y := nI ((21 * (lo + i)) + q)) (nI_add _ _) ?_
          refine vv_iald fx 12 0 rfl rfl (by omega) (by decide) nd_MO_different_33 ?_
          refine vv_istore (L' := [(0, .ref (Y.2.1 8)), (1, .int (nI lo)), (2, .int (nI (lo + n))), (3, .int (nI (mo_df U lo n q + me_cn (fun i => decide (0 < U 3 (21 * (lo + i) + q)) && !mo_in U (U 3 (21 * (lo + i) + q)) q lo i) i))), (4, .int (nI q)), (5, .int (nI (lo + i))), (6, .int (U 3 ((21 * (lo + i)) + q)))]) fx nd_MO_different_34 (by decide) [1, 2, 3, 4, 5, 6, 0] rfl ?_
          refine vv_iload fx nd_MO_different_36 6 rfl ?_
          refine vv_if_le (tgt := 61) fx nd_MO_different_38 (by decide) (fun hb38 => ?_) (fun hb38 => ?_)
          · rw [decide_eq_false (p := 0 < (U 3 (21 * (lo + i) + q))) (Int32.not_lt.mpr hb38), Bool.false_and, if_neg (by decide), Nat.add_zero] at ev
            refine vv_iload_n fx nd_MO_different_61 rfl 3 rfl ?_
            refine vv_istore_n (L' := [(0, .ref (Y.2.1 8)), (1, .int (nI lo)), (2, .int (nI (lo + n))), (3, .int (nI (mo_df U lo n q + me_cn (fun i => decide (0 < U 3 (21 * (lo + i) + q)) && !mo_in U (U 3 (21 * (lo + i) + q)) q lo i) i))), (4, .int (nI q)), (5, .int (nI (lo + i))), (6, .int (U 3 ((21 * (lo + i)) + q)))]) fx nd_MO_different_62 rfl (by decide) [1, 2, 3, 0, 4, 5, 6] rfl ?_
            refine vv_iinc (v := nI (lo + (i + 1))) (L' := [(0, .ref (Y.2.1 8)), (1, .int (nI lo)), (2, .int (nI (lo + n))), (3, .int (nI (mo_df U lo n q + me_cn (fun i => decide (0 < U 3 (21 * (lo + i) + q)) && !mo_in U (U 3 (21 * (lo + i) + q)) q lo i) i))), (4, .int (nI q)), (5, .int (nI (lo + (i + 1)))), (6, .int (U 3 ((21 * (lo + i)) + q)))]) fx nd_MO_different_63 5 rfl (nI_1 _) (by decide) [1, 2, 3, 4, 5, 0, 6] rfl ?_
            refine vv_goto (tgt := 15) fx nd_MO_different_66 (by decide) ?_
            refine vv_loc (L' := [(0, .ref (Y.2.1 8)), (1, .int (nI lo)), (2, .int (nI (lo + n))), (3, .int (nI (mo_df U lo n q + me_cn (fun i => decide (0 < U 3 (21 * (lo + i) + q)) && !mo_in U (U 3 (21 * (lo + i) + q)) q lo i) i))), (4, .int (nI q)), (5, .int (nI (lo + (i + 1))))]) [0, 1, 2, 3, 4, 5] rfl ?_
            have h9 := ih_inner (i + 1) (by omega)
            rw [ev] at h9
            exact h9
          · rw [decide_eq_true (p := 0 < (U 3 (21 * (lo + i) + q))) (Int32.not_le.mp hb38), Bool.true_and] at ev
            refine vv_aload_n fx nd_MO_different_41 rfl 0 rfl ?_
            refine vv_iload fx nd_MO_different_42 6 rfl ?_
            refine vv_iload fx nd_MO_different_44 4 rfl ?_
            refine vv_iload_n fx nd_MO_different_46 rfl 1 rfl ?_
            refine vv_iload fx nd_MO_different_47 5 rfl ?_
            refine vv_callVi (C := nr_MO) (T := nt_MO) (N := 10) (ci := 2) fx (cc_MO_isIn l Y M U o (U 3 (21 * (lo + i) + q)) q lo i (by omega) (by omega)) nm_MO_34 ns_MO_isIn nv_MO_isIn nz_MO nc_MO_isIn ni_MO_isIn 8 rfl rfl ⟨rfl, rfl, by decide, by decide⟩ ⟨Nat.le_of_ble_eq_true rfl, Nat.le_of_ble_eq_true rfl⟩ (Nat.le_of_ble_eq_true rfl) nd_MO_different_49 rfl ?_
            refine vv_if_ne (tgt := 61) fx nd_MO_different_52 (by decide) (fun hb52 => ?_) (fun hb52 => ?_)
            · rw [b01_1 hb52, if_neg (by decide), Nat.add_zero] at ev
              refine vv_iload_n fx nd_MO_different_61 rfl 3 rfl ?_
              refine vv_istore_n (L' := [(0, .ref (Y.2.1 8)), (1, .int (nI lo)), (2, .int (nI (lo + n))), (3, .int (nI (mo_df U lo n q + me_cn (fun i => decide (0 < U 3 (21 * (lo + i) + q)) && !mo_in U (U 3 (21 * (lo + i) + q)) q lo i) i))), (4, .int (nI q)), (5, .int (nI (lo + i))), (6, .int (U 3 ((21 * (lo + i)) + q)))]) fx nd_MO_different_62 rfl (by decide) [1, 2, 3, 0, 4, 5, 6] rfl ?_
              refine vv_iinc (v := nI (lo + (i + 1))) (L' := [(0, .ref (Y.2.1 8)), (1, .int (nI lo)), (2, .int (nI (lo + n))), (3, .int (nI (mo_df U lo n q + me_cn (fun i => decide (0 < U 3 (21 * (lo + i) + q)) && !mo_in U (U 3 (21 * (lo + i) + q)) q lo i) i))), (4, .int (nI q)), (5, .int (nI (lo + (i + 1)))), (6, .int (U 3 ((21 * (lo + i)) + q)))]) fx nd_MO_different_63 5 rfl (nI_1 _) (by decide) [1, 2, 3, 4, 5, 0, 6] rfl ?_
              refine vv_goto (tgt := 15) fx nd_MO_different_66 (by decide) ?_
              refine vv_loc (L' := [(0, .ref (Y.2.1 8)), (1, .int (nI lo)), (2, .int (nI (lo + n))), (3, .int (nI (mo_df U lo n q + me_cn (fun i => decide (0 < U 3 (21 * (lo + i) + q)) && !mo_in U (U 3 (21 * (lo + i) + q)) q lo i) i))), (4, .int (nI q)), (5, .int (nI (lo + (i + 1))))]) [0, 1, 2, 3, 4, 5] rfl ?_
              have h9 := ih_inner (i + 1) (by omega)
              rw [ev] at h9
              exact h9
            · rw [b01_0 hb52, if_pos (by decide)] at ev
              refine vv_iload_n fx nd_MO_different_55 rfl 3 rfl ?_
              refine vv_iconst (v := nI 1) fx nd_MO_different_56 (by decide) ?_
              refine vv_iadd fx nd_MO_different_57 ?_
              refine vv_top (y := nI ((mo_df U lo n q + me_cn (fun i => decide (0 < U 3 (21 * (lo + i) + q)) && !mo_in U (U 3 (21 * (lo + i) + q)) q lo i) i) + 1)) (nI_add _ _) ?_
              refine vv_goto (tgt := 62) fx nd_MO_different_58 (by decide) ?_
              refine vv_istore_n (L' := [(0, .ref (Y.2.1 8)), (1, .int (nI lo)), (2, .int (nI (lo + n))), (3, .int (nI ((mo_df U lo n q + me_cn (fun i => decide (0 < U 3 (21 * (lo + i) + q)) && !mo_in U (U 3 (21 * (lo + i) + q)) q lo i) i) + 1))), (4, .int (nI q)), (5, .int (nI (lo + i))), (6, .int (U 3 ((21 * (lo + i)) + q)))]) fx nd_MO_different_62 rfl (by decide) [1, 2, 3, 0, 4, 5, 6] rfl ?_
              refine vv_iinc (v := nI (lo + (i + 1))) (L' := [(0, .ref (Y.2.1 8)), (1, .int (nI lo)), (2, .int (nI (lo + n))), (3, .int (nI ((mo_df U lo n q + me_cn (fun i => decide (0 < U 3 (21 * (lo + i) + q)) && !mo_in U (U 3 (21 * (lo + i) + q)) q lo i) i) + 1))), (4, .int (nI q)), (5, .int (nI (lo + (i + 1)))), (6, .int (U 3 ((21 * (lo + i)) + q)))]) fx nd_MO_different_63 5 rfl (nI_1 _) (by decide) [1, 2, 3, 4, 5, 0, 6] rfl ?_
              refine vv_goto (tgt := 15) fx nd_MO_different_66 (by decide) ?_
              refine vv_loc (L' := [(0, .ref (Y.2.1 8)), (1, .int (nI lo)), (2, .int (nI (lo + n))), (3, .int (nI ((mo_df U lo n q + me_cn (fun i => decide (0 < U 3 (21 * (lo + i) + q)) && !mo_in U (U 3 (21 * (lo + i) + q)) q lo i) i) + 1))), (4, .int (nI q)), (5, .int (nI (lo + (i + 1))))]) [0, 1, 2, 3, 4, 5] rfl ?_
              have h9 := ih_inner (i + 1) (by omega)
              rw [ev] at h9
              exact h9
      exact inner n 0 (by omega)
  exact outer 21 0 (by omega)
theorem cc_MO_diff (l : Launch) (Y : sy_Y) (M U : me_M) (o : Int64) (lo hi n : Nat) (h : hi = lo + n) (hl : lo + n ≤ 14) : ct_I l ny_MO_different nb_MO_different 7 (some .int) { frames := 1, cells := 0, slots := 0, locals := 26 } Y [.ref (Y.2.1 8), .int (nI lo), .int (nI hi)] M U o (nI (mo_df U lo n 21)) M U o := by
  rw [h]; exact cc_MO_different l Y M U o lo n hl
set_option maxRecDepth 4000 in
theorem cc_MO_freeNow (l : Launch) (Y : sy_Y) (M U : me_M) (o : Int64)  : ct_I l ny_MO_freeNow nb_MO_freeNow 1 (some .int) { frames := 2, cells := 0, slots := 0, locals := 52 } Y [.ref (Y.2.1 8)] M U o (mo_free U) M U o := by
  refine ct_body (own := nr_MO) (L0 := [(0, .ref (Y.2.1 8))]) (by decide) rfl (Nat.le_of_ble_eq_true rfl) rfl ?_
  intro p e s m args below meth c fx
  refine vv_bipush (v := nI 60) fx nd_MO_freeNow_0 (by decide) ?_
  refine vv_aload_n fx nd_MO_freeNow_2 rfl 0 rfl ?_
  refine vv_iconst (v := nI 0) fx nd_MO_freeNow_3 (by decide) ?_
  refine vv_bipush (v := nI 14) fx nd_MO_freeNow_4 (by decide) ?_
  refine vv_callVi (C := nr_MO) (T := nt_MO) (N := 10) (ci := 2) fx (cc_MO_diff l Y M U o 0 14 14 rfl (by decide)) nm_MO_38 ns_MO_different nv_MO_different nz_MO nc_MO_different ni_MO_different 8 rfl rfl ⟨rfl, rfl, by decide, by decide⟩ ⟨Nat.le_of_ble_eq_true rfl, Nat.le_of_ble_eq_true rfl⟩ (Nat.le_of_ble_eq_true rfl) nd_MO_freeNow_6 rfl ?_
  refine vv_isub fx nd_MO_freeNow_9 ?_
  exact vv_iret fx rfl nd_MO_freeNow_10 (rfl)
set_option maxRecDepth 4000 in
theorem cc_MO_dueNow (l : Launch) (Y : sy_Y) (M U : me_M) (o : Int64)  : ct_I l ny_MO_dueNow nb_MO_dueNow 1 (some .int) { frames := 2, cells := 0, slots := 0, locals := 52 } Y [.ref (Y.2.1 8)] M U o (mo_due0 U) M U o := by
  refine ct_body (own := nr_MO) (L0 := [(0, .ref (Y.2.1 8))]) (by decide) rfl (Nat.le_of_ble_eq_true rfl) rfl ?_
  intro p e s m args below meth c fx
  refine vv_aload_n fx nd_MO_dueNow_0 rfl 0 rfl ?_
  refine vv_iconst (v := nI 0) fx nd_MO_dueNow_1 (by decide) ?_
  refine vv_bipush (v := nI 14) fx nd_MO_dueNow_2 (by decide) ?_
  refine vv_callVi (C := nr_MO) (T := nt_MO) (N := 10) (ci := 2) fx (cc_MO_diff l Y M U o 0 14 14 rfl (by decide)) nm_MO_38 ns_MO_different nv_MO_different nz_MO nc_MO_different ni_MO_different 8 rfl rfl ⟨rfl, rfl, by decide, by decide⟩ ⟨Nat.le_of_ble_eq_true rfl, Nat.le_of_ble_eq_true rfl⟩ (Nat.le_of_ble_eq_true rfl) nd_MO_dueNow_4 rfl ?_
  refine vv_aload_n fx nd_MO_dueNow_7 rfl 0 rfl ?_
  refine vv_bipush (v := nI 7) fx nd_MO_dueNow_8 (by decide) ?_
  refine vv_bipush (v := nI 14) fx nd_MO_dueNow_10 (by decide) ?_
  refine vv_callVi (C := nr_MO) (T := nt_MO) (N := 10) (ci := 2) fx (cc_MO_diff l Y M U o 7 14 7 rfl (by decide)) nm_MO_38 ns_MO_different nv_MO_different nz_MO nc_MO_different ni_MO_different 8 rfl rfl ⟨rfl, rfl, by decide, by decide⟩ ⟨Nat.le_of_ble_eq_true rfl, Nat.le_of_ble_eq_true rfl⟩ (Nat.le_of_ble_eq_true rfl) nd_MO_dueNow_12 rfl ?_
  refine vv_isub fx nd_MO_dueNow_15 ?_
  refine vv_iconst (v := nI 1) fx nd_MO_dueNow_16 (by decide) ?_
  refine vv_iadd fx nd_MO_dueNow_17 ?_
  exact vv_iret fx rfl nd_MO_dueNow_18 (rfl)
set_option maxRecDepth 4000 in
theorem cc_MO_placeOf (l : Launch) (Y : sy_Y) (M U : me_M) (o : Int64) (lv k : Nat) (hlv : lv < 3) (hk : k < 64) : ct_I l ny_MO_placeOf nb_MO_placeOf 2 (some .int) { frames := 0, cells := 0, slots := 0, locals := 0 } Y [.int (nI lv), .int (nI k)] M U o (nI (mo_pl lv k)) M U o := by
  refine ct_body (own := nr_MO) (L0 := [(0, .int (nI lv)), (1, .int (nI k))]) (by decide) rfl (Nat.le_of_ble_eq_true rfl) rfl ?_
  intro p e s m args below meth c fx
  by_cases h0 : lv = 0
  · subst h0
    refine vv_iload_n fx nd_MO_placeOf_0 rfl 0 rfl ?_
    refine vv_if_ne (tgt := 8) fx nd_MO_placeOf_1 (by decide) (fun hb => absurd (rfl) hb) (fun _ => ?_)
    refine vv_iconst (v := nI 0) fx nd_MO_placeOf_4 (by decide) ?_
    refine vv_goto (tgt := 27) fx nd_MO_placeOf_5 (by decide) ?_
    exact vv_iret fx rfl nd_MO_placeOf_27 (rfl)
  · by_cases h1 : lv = 1
    · subst h1
      refine vv_iload_n fx nd_MO_placeOf_0 rfl 0 rfl ?_
      refine vv_if_ne (tgt := 8) fx nd_MO_placeOf_1 (by decide) (fun _ => ?_) (fun hb => absurd hb (by decide))
      refine vv_iload_n fx nd_MO_placeOf_8 rfl 0 rfl ?_
      refine vv_iconst (v := nI 1) fx nd_MO_placeOf_9 (by decide) ?_
      refine vv_icmp_ne (tgt := 22) fx nd_MO_placeOf_10 (by decide) (fun hb => absurd (rfl) hb) (fun _ => ?_)
      refine vv_iconst (v := nI 1) fx nd_MO_placeOf_13 (by decide) ?_
      refine vv_iload_n fx nd_MO_placeOf_14 rfl 1 rfl ?_
      refine vv_bipush (v := nI 16) fx nd_MO_placeOf_15 (by decide) ?_
      refine vv_idiv fx nd_MO_placeOf_17 (by decide) ?_
      refine vv_top (y := nI (k / 16)) (pk_div (by omega) (by decide) (by decide)) ?_
      refine vv_iadd fx nd_MO_placeOf_18 ?_
      refine vv_top (y := nI (1 + (k / 16))) (nI_add _ _) ?_
      refine vv_goto (tgt := 27) fx nd_MO_placeOf_19 (by decide) ?_
      exact vv_iret fx rfl nd_MO_placeOf_27 (rfl)
    · obtain rfl : lv = 2 := by omega
      refine vv_iload_n fx nd_MO_placeOf_0 rfl 0 rfl ?_
      refine vv_if_ne (tgt := 8) fx nd_MO_placeOf_1 (by decide) (fun _ => ?_) (fun hb => absurd hb (by decide))
      refine vv_iload_n fx nd_MO_placeOf_8 rfl 0 rfl ?_
      refine vv_iconst (v := nI 1) fx nd_MO_placeOf_9 (by decide) ?_
      refine vv_icmp_ne (tgt := 22) fx nd_MO_placeOf_10 (by decide) (fun _ => ?_) (fun hb => absurd hb (by decide))
      refine vv_iconst (v := nI 5) fx nd_MO_placeOf_22 (by decide) ?_
      refine vv_iload_n fx nd_MO_placeOf_23 rfl 1 rfl ?_
      refine vv_iconst (v := nI 4) fx nd_MO_placeOf_24 (by decide) ?_
      refine vv_idiv fx nd_MO_placeOf_25 (by decide) ?_
      refine vv_top (y := nI (k / 4)) (pk_div (by omega) (by decide) (by decide)) ?_
      refine vv_iadd fx nd_MO_placeOf_26 ?_
      refine vv_top (y := nI (5 + (k / 4))) (nI_add _ _) ?_
      exact vv_iret fx rfl nd_MO_placeOf_27 (rfl)
set_option maxRecDepth 4000 in
theorem cc_MO_below (l : Launch) (Y : sy_Y) (M U : me_M) (o : Int64) (lv k : Nat) (hlv : lv < 3) (hk : k < 64) : ct_I l ny_MO_below nb_MO_below 4 (some .int) { frames := 1, cells := 0, slots := 0, locals := 25 } Y [.ref (Y.2.1 8), .int (nI lv), .int (nI k)] M U o (nI (mo_below U lv k)) M U o := by
  refine ct_body (own := nr_MO) (L0 := [(0, .ref (Y.2.1 8)), (1, .int (nI lv)), (2, .int (nI k))]) (by decide) rfl (Nat.le_of_ble_eq_true rfl) rfl ?_
  intro p e s m args below meth c fx
  by_cases h0 : lv = 0
  · subst h0
    refine vv_iload_n fx nd_MO_below_0 rfl 1 rfl ?_
    refine vv_if_ne (tgt := 9) fx nd_MO_below_1 (by decide) (fun hb => absurd (rfl) hb) (fun _ => ?_)
    refine vv_bipush (v := nI 64) fx nd_MO_below_4 (by decide) ?_
    refine vv_goto (tgt := 20) fx nd_MO_below_6 (by decide) ?_
    refine vv_istore_n (L' := [(0, .ref (Y.2.1 8)), (1, .int (nI 0)), (2, .int (nI k)), (3, .int (nI 64))]) fx nd_MO_below_20 rfl (by decide) [1, 2, 3, 0] rfl ?_
    refine vv_aload_n fx nd_MO_below_21 rfl 0 rfl ?_
    refine vv_iconst (v := nI 0) fx nd_MO_below_22 (by decide) ?_
    refine vv_iload_n fx nd_MO_below_23 rfl 2 rfl ?_
    refine vv_iload_n fx nd_MO_below_24 rfl 2 rfl ?_
    refine vv_iload_n fx nd_MO_below_25 rfl 3 rfl ?_
    refine vv_irem fx nd_MO_below_26 (by decide) ?_
    refine vv_top (y := nI (k % 64)) (pk_rem (by omega) (by decide) (by decide)) ?_
    refine vv_isub fx nd_MO_below_27 ?_
    refine vv_top (y := nI (k - k % 64)) (pk_sub (by omega)) ?_
    refine vv_iload_n fx nd_MO_below_28 rfl 3 rfl ?_
    refine vv_callVi (C := nr_MO) (T := nt_MO) (N := 10) (ci := 2) fx (cc_MO_boundIn l Y M U o 0 (k - k % 64) 64 (by decide) (by omega)) nm_MO_42 ns_MO_boundIn nv_MO_boundIn nz_MO nc_MO_boundIn ni_MO_boundIn 8 rfl rfl ⟨rfl, rfl, by decide, by decide⟩ ⟨Nat.le_of_ble_eq_true rfl, Nat.le_of_ble_eq_true rfl⟩ (Nat.le_of_ble_eq_true rfl) nd_MO_below_29 rfl ?_
    exact vv_iret fx rfl nd_MO_below_32 (rfl)
  · by_cases h1 : lv = 1
    · subst h1
      refine vv_iload_n fx nd_MO_below_0 rfl 1 rfl ?_
      refine vv_if_ne (tgt := 9) fx nd_MO_below_1 (by decide) (fun _ => ?_) (fun hb => absurd hb (by decide))
      refine vv_iload_n fx nd_MO_below_9 rfl 1 rfl ?_
      refine vv_iconst (v := nI 1) fx nd_MO_below_10 (by decide) ?_
      refine vv_icmp_ne (tgt := 19) fx nd_MO_below_11 (by decide) (fun hb => absurd (rfl) hb) (fun _ => ?_)
      refine vv_bipush (v := nI 16) fx nd_MO_below_14 (by decide) ?_
      refine vv_goto (tgt := 20) fx nd_MO_below_16 (by decide) ?_
      refine vv_istore_n (L' := [(0, .ref (Y.2.1 8)), (1, .int (nI 1)), (2, .int (nI k)), (3, .int (nI 16))]) fx nd_MO_below_20 rfl (by decide) [1, 2, 3, 0] rfl ?_
      refine vv_aload_n fx nd_MO_below_21 rfl 0 rfl ?_
      refine vv_iconst (v := nI 0) fx nd_MO_below_22 (by decide) ?_
      refine vv_iload_n fx nd_MO_below_23 rfl 2 rfl ?_
      refine vv_iload_n fx nd_MO_below_24 rfl 2 rfl ?_
      refine vv_iload_n fx nd_MO_below_25 rfl 3 rfl ?_
      refine vv_irem fx nd_MO_below_26 (by decide) ?_
      refine vv_top (y := nI (k % 16)) (pk_rem (by omega) (by decide) (by decide)) ?_
      refine vv_isub fx nd_MO_below_27 ?_
      refine vv_top (y := nI (k - k % 16)) (pk_sub (by omega)) ?_
      refine vv_iload_n fx nd_MO_below_28 rfl 3 rfl ?_
      refine vv_callVi (C := nr_MO) (T := nt_MO) (N := 10) (ci := 2) fx (cc_MO_boundIn l Y M U o 0 (k - k % 16) 16 (by decide) (by omega)) nm_MO_42 ns_MO_boundIn nv_MO_boundIn nz_MO nc_MO_boundIn ni_MO_boundIn 8 rfl rfl ⟨rfl, rfl, by decide, by decide⟩ ⟨Nat.le_of_ble_eq_true rfl, Nat.le_of_ble_eq_true rfl⟩ (Nat.le_of_ble_eq_true rfl) nd_MO_below_29 rfl ?_
      exact vv_iret fx rfl nd_MO_below_32 (rfl)
    · obtain rfl : lv = 2 := by omega
      refine vv_iload_n fx nd_MO_below_0 rfl 1 rfl ?_
      refine vv_if_ne (tgt := 9) fx nd_MO_below_1 (by decide) (fun _ => ?_) (fun hb => absurd hb (by decide))
      refine vv_iload_n fx nd_MO_below_9 rfl 1 rfl ?_
      refine vv_iconst (v := nI 1) fx nd_MO_below_10 (by decide) ?_
      refine vv_icmp_ne (tgt := 19) fx nd_MO_below_11 (by decide) (fun _ => ?_) (fun hb => absurd hb (by decide))
      refine vv_iconst (v := nI 4) fx nd_MO_below_19 (by decide) ?_
      refine vv_istore_n (L' := [(0, .ref (Y.2.1 8)), (1, .int (nI 2)), (2, .int (nI k)), (3, .int (nI 4))]) fx nd_MO_below_20 rfl (by decide) [1, 2, 3, 0] rfl ?_
      refine vv_aload_n fx nd_MO_below_21 rfl 0 rfl ?_
      refine vv_iconst (v := nI 0) fx nd_MO_below_22 (by decide) ?_
      refine vv_iload_n fx nd_MO_below_23 rfl 2 rfl ?_
      refine vv_iload_n fx nd_MO_below_24 rfl 2 rfl ?_
      refine vv_iload_n fx nd_MO_below_25 rfl 3 rfl ?_
      refine vv_irem fx nd_MO_below_26 (by decide) ?_
      refine vv_top (y := nI (k % 4)) (pk_rem (by omega) (by decide) (by decide)) ?_
      refine vv_isub fx nd_MO_below_27 ?_
      refine vv_top (y := nI (k - k % 4)) (pk_sub (by omega)) ?_
      refine vv_iload_n fx nd_MO_below_28 rfl 3 rfl ?_
      refine vv_callVi (C := nr_MO) (T := nt_MO) (N := 10) (ci := 2) fx (cc_MO_boundIn l Y M U o 0 (k - k % 4) 4 (by decide) (by omega)) nm_MO_42 ns_MO_boundIn nv_MO_boundIn nz_MO nc_MO_boundIn ni_MO_boundIn 8 rfl rfl ⟨rfl, rfl, by decide, by decide⟩ ⟨Nat.le_of_ble_eq_true rfl, Nat.le_of_ble_eq_true rfl⟩ (Nat.le_of_ble_eq_true rfl) nd_MO_below_29 rfl ?_
      exact vv_iret fx rfl nd_MO_below_32 (rfl)
set_option maxRecDepth 4000 in
theorem cc_MO_makes (l : Launch) (Y : sy_Y) (M U : me_M) (o : Int64) (lv k : Nat) (more : Int32) (hlv : lv < 3) (hk : k < 64) : ct_I l ny_MO_makes nb_MO_makes 4 (some .boolean) { frames := 2, cells := 0, slots := 0, locals := 48 } Y [.ref (Y.2.1 8), .int (nI lv), .int (nI k), .int more] M U o (if mo_makes U lv k more = true then 1 else 0) M U o := by
  refine ct_body (own := nr_MO) (L0 := [(0, .ref (Y.2.1 8)), (1, .int (nI lv)), (2, .int (nI k)), (3, .int more)]) (by decide) rfl (Nat.le_of_ble_eq_true rfl) rfl ?_
  intro p e s m args below meth c fx
  have hpl : mo_pl lv k < 21 := rf_pl_lt hk
  refine vv_aload_n fx nd_MO_makes_0 rfl 0 rfl ?_
  refine vv_iload_n fx nd_MO_makes_1 rfl 1 rfl ?_
  refine vv_iload_n fx nd_MO_makes_2 rfl 2 rfl ?_
  refine vv_callVi (C := nr_MO) (T := nt_MO) (N := 10) (ci := 2) fx (cc_MO_below l Y M U o lv k hlv hk) nm_MO_46 ns_MO_below nv_MO_below nz_MO nc_MO_below ni_MO_below 8 rfl rfl ⟨rfl, rfl, by decide, by decide⟩ ⟨Nat.le_of_ble_eq_true rfl, Nat.le_of_ble_eq_true rfl⟩ (Nat.le_of_ble_eq_true rfl) nd_MO_makes_3 rfl ?_
  refine vv_iload_n fx nd_MO_makes_6 rfl 3 rfl ?_
  refine vv_iadd fx nd_MO_makes_7 ?_
  refine vv_if_le (tgt := 32) fx nd_MO_makes_8 (by decide) (fun hb8 => ?_) (fun hb8 => ?_)
  · refine vv_iconst (v := nI 0) fx nd_MO_makes_32 (by decide) ?_
    exact vv_zret fx rfl nd_MO_makes_33 (b01_f (by unfold mo_makes; rw [decide_eq_false (p := 0 < nI (mo_below U lv k) + more) (Int32.not_lt.mpr hb8)]; rfl)) (fb_01 _)
  · refine vv_aload_n fx nd_MO_makes_11 rfl 0 rfl ?_
    refine vv_get (ci := 2) (C := nr_MO) (T := nt_MO) (N := 10) fx nt_MO_in 8 rfl rfl 4 (by decide) nf_MO_20 rfl nd_MO_makes_12 ?_
    refine vv_iload_n fx nd_MO_makes_15 rfl 1 rfl ?_
    refine vv_iload_n fx nd_MO_makes_16 rfl 2 rfl ?_
    refine vv_callSi fx (cc_MO_placeOf l Y M U o lv k hlv hk) nm_MO_49 ns_MO_placeOf nz_MO nc_MO_placeOf ni_MO_placeOf ⟨rfl, rfl, by decide, by decide⟩ ⟨Nat.le_of_ble_eq_true rfl, Nat.le_of_ble_eq_true rfl⟩ (Nat.le_of_ble_eq_true rfl) nd_MO_makes_17 rfl ?_
    refine vv_iald fx 12 0 rfl rfl (by omega) (by decide) nd_MO_makes_20 ?_
    refine vv_aload_n fx nd_MO_makes_21 rfl 0 rfl ?_
    refine vv_get (ci := 2) (C := nr_MO) (T := nt_MO) (N := 10) fx nt_MO_in 8 rfl rfl 6 (by decide) nf_MO_52 rfl nd_MO_makes_22 ?_
    refine vv_icmp_gt (tgt := 32) fx nd_MO_makes_25 (by decide) (fun hb25 => ?_) (fun hb25 => ?_)
    · refine vv_iconst (v := nI 0) fx nd_MO_makes_32 (by decide) ?_
      exact vv_zret fx rfl nd_MO_makes_33 (b01_f (by unfold mo_makes; rw [decide_eq_false (p := U 3 (mo_pl lv k) ≤ U 4 2) (Int32.not_le.mpr hb25), Bool.and_false])) (fb_01 _)
    · refine vv_iconst (v := nI 1) fx nd_MO_makes_28 (by decide) ?_
      refine vv_goto (tgt := 33) fx nd_MO_makes_29 (by decide) ?_
      exact vv_zret fx rfl nd_MO_makes_33 (b01_t (by unfold mo_makes; rw [decide_eq_true (p := U 3 (mo_pl lv k) ≤ U 4 2) (Int32.not_lt.mp hb25), decide_eq_true (p := 0 < nI (mo_below U lv k) + more) (Int32.not_le.mp hb8)]; rfl)) (fb_01 _)
set_option maxRecDepth 4000 in
theorem cc_MO_fits (l : Launch) (Y : sy_Y) (M U : me_M) (o : Int64) (k : Nat) (more : Int32) (hk : k < 64) : ct_I l ny_MO_fits nb_MO_fits 5 (some .boolean) { frames := 3, cells := 0, slots := 0, locals := 72 } Y [.ref (Y.2.1 8), .int (nI k), .int more] M U o (if (decide (nI (mo_fn U k more) ≤ mo_free U)) = true then 1 else 0) M U o := by
  refine ct_body (own := nr_MO) (L0 := [(0, .ref (Y.2.1 8)), (1, .int (nI k)), (2, .int more)]) (by decide) rfl (Nat.le_of_ble_eq_true rfl) rfl ?_
  intro p e s m args below meth c fx
  refine vv_iconst (v := nI 0) fx nd_MO_fits_0 (by decide) ?_
  refine vv_istore_n (L' := [(0, .ref (Y.2.1 8)), (1, .int (nI k)), (2, .int more), (3, .int (nI 0))]) fx nd_MO_fits_1 rfl (by decide) [1, 2, 3, 0] rfl ?_
  refine vv_iconst (v := nI 0) fx nd_MO_fits_2 (by decide) ?_
  refine vv_istore (L' := [(0, .ref (Y.2.1 8)), (1, .int (nI k)), (2, .int more), (3, .int (nI 0)), (4, .int (nI 0))]) fx nd_MO_fits_3 (by decide) [1, 2, 3, 4, 0] rfl ?_
  have loop : ∀ d i, i + d = 3 → vv p l e { frames := 3, cells := 0, slots := 0, locals := 72 } s m args below meth c 0 0 (MQ below (ct_Qi Y (if (decide (nI (mo_fn U k more) ≤ mo_free U)) = true then 1 else 0) M U o) args s 0 0 Y.2.2.2) 5 Y M U o 5 [(0, .ref (Y.2.1 8)), (1, .int (nI k)), (2, .int more), (3, .int (nI (me_cn (fun l => mo_makes U l k more) i))), (4, .int (nI i))] [] := by
    intro d
    induction d with
    | zero =>
      intro i hi
      have e9 : i = 3 := by omega
      subst e9
      refine vv_iload fx nd_MO_fits_5 4 rfl ?_
      refine vv_iconst (v := nI 3) fx nd_MO_fits_7 (by decide) ?_
      refine vv_icmp_ge (tgt := 36) fx nd_MO_fits_8 (by decide) (fun _ => ?_) (fun hb => absurd (nI_le (by omega) (by omega)) hb)
      refine vv_iload_n fx nd_MO_fits_36 rfl 3 rfl ?_
      refine vv_aload_n fx nd_MO_fits_37 rfl 0 rfl ?_
      refine vv_callVi (C := nr_MO) (T := nt_MO) (N := 10) (ci := 2) fx (cc_MO_freeNow l Y M U o) nm_MO_59 ns_MO_freeNow nv_MO_freeNow nz_MO nc_MO_freeNow ni_MO_freeNow 8 rfl rfl ⟨rfl, rfl, by decide, by decide⟩ ⟨Nat.le_of_ble_eq_true rfl, Nat.le_of_ble_eq_true rfl⟩ (Nat.le_of_ble_eq_true rfl) nd_MO_fits_38 rfl ?_
      refine vv_icmp_gt (tgt := 48) fx nd_MO_fits_41 (by decide) (fun hb41 => ?_) (fun hb41 => ?_)
      · refine vv_iconst (v := nI 0) fx nd_MO_fits_48 (by decide) ?_
        exact vv_zret fx rfl nd_MO_fits_49 (b01_f (decide_eq_false (Int32.not_le.mpr hb41))) (fb_01 _)
      · refine vv_iconst (v := nI 1) fx nd_MO_fits_44 (by decide) ?_
        refine vv_goto (tgt := 49) fx nd_MO_fits_45 (by decide) ?_
        exact vv_zret fx rfl nd_MO_fits_49 (b01_t (decide_eq_true (Int32.not_lt.mp hb41))) (fb_01 _)
    | succ d ih_loop =>
      intro i hi
      have ev : me_cn (fun l => mo_makes U l k more) (i + 1) = me_cn (fun l => mo_makes U l k more) i + if mo_makes U i k more = true then 1 else 0 := rfl
      refine vv_iload fx nd_MO_fits_5 4 rfl ?_
      refine vv_iconst (v := nI 3) fx nd_MO_fits_7 (by decide) ?_
      refine vv_icmp_ge (tgt := 36) fx nd_MO_fits_8 (by decide) (fun hb => absurd hb (nI_ge (by omega) (by omega))) (fun _ => ?_)
      refine vv_aload_n fx nd_MO_fits_11 rfl 0 rfl ?_
      refine vv_iload fx nd_MO_fits_12 4 rfl ?_
      refine vv_iload_n fx nd_MO_fits_14 rfl 1 rfl ?_
      refine vv_iload_n fx nd_MO_fits_15 rfl 2 rfl ?_
      refine vv_callVi (C := nr_MO) (T := nt_MO) (N := 10) (ci := 2) fx (cc_MO_makes l Y M U o i k more (by omega) hk) nm_MO_55 ns_MO_makes nv_MO_makes nz_MO nc_MO_makes ni_MO_makes 8 rfl rfl ⟨rfl, rfl, by decide, by decide⟩ ⟨Nat.le_of_ble_eq_true rfl, Nat.le_of_ble_eq_true rfl⟩ (Nat.le_of_ble_eq_true rfl) nd_MO_fits_16 rfl ?_
      refine vv_if_eq (tgt := 28) fx nd_MO_fits_19 (by decide) (fun hb19 => ?_) (fun hb19 => ?_)
      · rw [b01_0 hb19, if_neg (by decide), Nat.add_zero] at ev
        refine vv_iload_n fx nd_MO_fits_28 rfl 3 rfl ?_
        refine vv_istore_n (L' := [(0, .ref (Y.2.1 8)), (1, .int (nI k)), (2, .int more), (3, .int (nI (me_cn (fun l => mo_makes U l k more) i))), (4, .int (nI i))]) fx nd_MO_fits_29 rfl (by decide) [1, 2, 3, 0, 4] rfl ?_
        refine vv_iinc (v := nI (i + 1)) (L' := [(0, .ref (Y.2.1 8)), (1, .int (nI k)), (2, .int more), (3, .int (nI (me_cn (fun l => mo_makes U l k more) i))), (4, .int (nI (i + 1)))]) fx nd_MO_fits_30 4 rfl (nI_1 i) (by decide) [1, 2, 3, 4, 0] rfl ?_
        refine vv_goto (tgt := 5) fx nd_MO_fits_33 (by decide) ?_
        have h9 := ih_loop (i + 1) (by omega)
        rw [ev] at h9
        exact h9
      · rw [b01_1 hb19, if_pos rfl] at ev
        refine vv_iload_n fx nd_MO_fits_22 rfl 3 rfl ?_
        refine vv_iconst (v := nI 1) fx nd_MO_fits_23 (by decide) ?_
        refine vv_iadd fx nd_MO_fits_24 ?_
        refine vv_top (y := nI ((me_cn (fun l => mo_makes U l k more) i) + 1)) (nI_add _ _) ?_
        refine vv_goto (tgt := 29) fx nd_MO_fits_25 (by decide) ?_
        refine vv_istore_n (L' := [(0, .ref (Y.2.1 8)), (1, .int (nI k)), (2, .int more), (3, .int (nI ((me_cn (fun l => mo_makes U l k more) i) + 1))), (4, .int (nI i))]) fx nd_MO_fits_29 rfl (by decide) [1, 2, 3, 0, 4] rfl ?_
        refine vv_iinc (v := nI (i + 1)) (L' := [(0, .ref (Y.2.1 8)), (1, .int (nI k)), (2, .int more), (3, .int (nI ((me_cn (fun l => mo_makes U l k more) i) + 1))), (4, .int (nI (i + 1)))]) fx nd_MO_fits_30 4 rfl (nI_1 i) (by decide) [1, 2, 3, 4, 0] rfl ?_
        refine vv_goto (tgt := 5) fx nd_MO_fits_33 (by decide) ?_
        have h9 := ih_loop (i + 1) (by omega)
        rw [ev] at h9
        exact h9
  exact loop 3 0 (by omega)
set_option maxRecDepth 4000 in
theorem cc_MO_change (l : Launch) (Y : sy_Y) (M U : me_M) (o : Int64) (k : Nat) (more : Int32) (hk : k < 64) : ct_V l ny_MO_change nb_MO_change 5 { frames := 3, cells := 0, slots := 0, locals := 71 } Y [.ref (Y.2.1 8), .int (nI k), .int more] M U o M (mo_change U k more) o := by
  refine ct_body (own := nr_MO) (L0 := [(0, .ref (Y.2.1 8)), (1, .int (nI k)), (2, .int more)]) (by decide) rfl (Nat.le_of_ble_eq_true rfl) rfl ?_
  intro p e s m args below meth c fx
  refine vv_iconst (v := nI 0) fx nd_MO_change_0 (by decide) ?_
  refine vv_istore_n (L' := [(0, .ref (Y.2.1 8)), (1, .int (nI k)), (2, .int more), (3, .int (nI 0))]) fx nd_MO_change_1 rfl (by decide) [1, 2, 3, 0] rfl ?_
  have loop : ∀ d i, i + d = 3 → vv p l e { frames := 3, cells := 0, slots := 0, locals := 71 } s m args below meth c 0 0 (MQ below (ct_Qv Y M (mo_change U k more) o) args s 0 0 Y.2.2.2) 5 Y M (mo_cl U k more i) o 2 [(0, .ref (Y.2.1 8)), (1, .int (nI k)), (2, .int more), (3, .int (nI i))] [] := by
    intro d
    induction d with
    | zero =>
      intro i hi
      have e9 : i = 3 := by omega
      subst e9
      refine vv_iload_n fx nd_MO_change_2 rfl 3 rfl ?_
      refine vv_iconst (v := nI 3) fx nd_MO_change_3 (by decide) ?_
      refine vv_icmp_ge (tgt := 80) fx nd_MO_change_4 (by decide) (fun _ => ?_) (fun hb => absurd (nI_le (by omega) (by omega)) hb)
      refine vv_aload_n fx nd_MO_change_80 rfl 0 rfl ?_
      refine vv_get (ci := 2) (C := nr_MO) (T := nt_MO) (N := 10) fx nt_MO_in 8 rfl rfl 2 (by decide) nf_MO_13 rfl nd_MO_change_81 ?_
      refine vv_iload_n fx nd_MO_change_84 rfl 1 rfl ?_
      refine vv_iload_n fx nd_MO_change_85 rfl 2 rfl ?_
      refine vv_if_gt (tgt := 93) fx nd_MO_change_86 (by decide) (fun hb86 => ?_) (fun hb86 => ?_)
      · rw [show mo_change U k more = me_up (mo_cl U k more 3) 1 k 1 by unfold mo_change; rw [if_pos (Int32.le_of_lt hb86)]]
        refine vv_iconst (v := nI 1) fx nd_MO_change_93 (by decide) ?_
        refine vv_goto (tgt := 98) fx nd_MO_change_94 (by decide) ?_
        refine vv_zast (U' := me_up (mo_cl U k more 3) 1 k (nI 1)) (M' := M) fx 10 1 rfl rfl (by omega) (by decide) (Or.inr rfl) nd_MO_change_98 (sy_setU1 _) ?_
        exact vv_vret fx rfl nd_MO_change_99
      · refine vv_iload_n fx nd_MO_change_89 rfl 2 rfl ?_
        refine vv_if_ne (tgt := 97) fx nd_MO_change_90 (by decide) (fun hb90 => ?_) (fun hb90 => ?_)
        · rw [show mo_change U k more = me_up (mo_cl U k more 3) 1 k 0 by unfold mo_change; rw [if_neg (fun z => (Int32.lt_or_eq_of_le z).elim hb86 (fun q => hb90 q.symm))]]
          refine vv_iconst (v := nI 0) fx nd_MO_change_97 (by decide) ?_
          refine vv_zast (U' := me_up (mo_cl U k more 3) 1 k (nI 0)) (M' := M) fx 10 1 rfl rfl (by omega) (by decide) (Or.inl rfl) nd_MO_change_98 (sy_setU1 _) ?_
          exact vv_vret fx rfl nd_MO_change_99
        · rw [show mo_change U k more = me_up (mo_cl U k more 3) 1 k 1 by unfold mo_change; rw [if_pos (by rw [hb90]; exact Int32.le_refl _)]]
          refine vv_iconst (v := nI 1) fx nd_MO_change_93 (by decide) ?_
          refine vv_goto (tgt := 98) fx nd_MO_change_94 (by decide) ?_
          refine vv_zast (U' := me_up (mo_cl U k more 3) 1 k (nI 1)) (M' := M) fx 10 1 rfl rfl (by omega) (by decide) (Or.inr rfl) nd_MO_change_98 (sy_setU1 _) ?_
          exact vv_vret fx rfl nd_MO_change_99
    | succ d ih_loop =>
      intro i hi
      have ev : (mo_cl U k more (i + 1)) = mo_c2 (mo_cl U k more i) k more i := rfl
      generalize (mo_cl U k more i) = V at ev ⊢
      have hpl : (mo_pl i k) < 21 := rf_pl_lt hk
      refine vv_iload_n fx nd_MO_change_2 rfl 3 rfl ?_
      refine vv_iconst (v := nI 3) fx nd_MO_change_3 (by decide) ?_
      refine vv_icmp_ge (tgt := 80) fx nd_MO_change_4 (by decide) (fun hb => absurd hb (nI_ge (by omega) (by omega))) (fun _ => ?_)
      refine vv_iload_n fx nd_MO_change_7 rfl 3 rfl ?_
      refine vv_iload_n fx nd_MO_change_8 rfl 1 rfl ?_
      refine vv_callSi fx (cc_MO_placeOf l Y M V o i k (by omega) hk) nm_MO_49 ns_MO_placeOf nz_MO nc_MO_placeOf ni_MO_placeOf ⟨rfl, rfl, by decide, by decide⟩ ⟨Nat.le_of_ble_eq_true rfl, Nat.le_of_ble_eq_true rfl⟩ (Nat.le_of_ble_eq_true rfl) nd_MO_change_9 rfl ?_
      refine vv_istore (L' := [(0, .ref (Y.2.1 8)), (1, .int (nI k)), (2, .int more), (3, .int (nI i)), (4, .int (nI (mo_pl i k)))]) fx nd_MO_change_12 (by decide) [1, 2, 3, 4, 0] rfl ?_
      refine vv_aload_n fx nd_MO_change_14 rfl 0 rfl ?_
      refine vv_iload_n fx nd_MO_change_15 rfl 3 rfl ?_
      refine vv_iload_n fx nd_MO_change_16 rfl 1 rfl ?_
      refine vv_iload_n fx nd_MO_change_17 rfl 2 rfl ?_
      refine vv_callVi (C := nr_MO) (T := nt_MO) (N := 10) (ci := 2) fx (cc_MO_makes l Y M V o i k more (by omega) hk) nm_MO_55 ns_MO_makes nv_MO_makes nz_MO nc_MO_makes ni_MO_makes 8 rfl rfl ⟨rfl, rfl, by decide, by decide⟩ ⟨Nat.le_of_ble_eq_true rfl, Nat.le_of_ble_eq_true rfl⟩ (Nat.le_of_ble_eq_true rfl) nd_MO_change_18 rfl ?_
      refine vv_if_eq (tgt := 45) fx nd_MO_change_21 (by decide) (fun hb21 => ?_) (fun hb21 => ?_)
      · have e1 : (mo_c1 V k more i) = V := if_neg (by rw [b01_0 hb21]; decide)
        have eb : (mo_c1 V k more i) 1 = V 1 := by rw [e1]
        refine vv_mem (M9 := M) (U9 := (mo_c1 V k more i)) (rfl) (e1.symm) ?_
        refine vv_aload_n fx nd_MO_change_45 rfl 0 rfl ?_
        refine vv_get (ci := 2) (C := nr_MO) (T := nt_MO) (N := 10) fx nt_MO_in 8 rfl rfl 4 (by decide) nf_MO_20 rfl nd_MO_change_46 ?_
        refine vv_iload fx nd_MO_change_49 4 rfl ?_
        refine vv_aload_n fx nd_MO_change_51 rfl 0 rfl ?_
        refine vv_iload_n fx nd_MO_change_52 rfl 3 rfl ?_
        refine vv_iload_n fx nd_MO_change_53 rfl 1 rfl ?_
        refine vv_callVi (C := nr_MO) (T := nt_MO) (N := 10) (ci := 2) fx (cc_MO_below l Y M (mo_c1 V k more i) o i k (by omega) hk) nm_MO_46 ns_MO_below nv_MO_below nz_MO nc_MO_below ni_MO_below 8 rfl rfl ⟨rfl, rfl, by decide, by decide⟩ ⟨Nat.le_of_ble_eq_true rfl, Nat.le_of_ble_eq_true rfl⟩ (Nat.le_of_ble_eq_true rfl) nd_MO_change_54 rfl ?_
        refine vv_top (y := nI (mo_below V i k)) (congrArg nI (mo_below_of eb i k)) ?_
        refine vv_iload_n fx nd_MO_change_57 rfl 2 rfl ?_
        refine vv_iadd fx nd_MO_change_58 ?_
        refine vv_if_le (tgt := 72) fx nd_MO_change_59 (by decide) (fun hb59 => ?_) (fun hb59 => ?_)
        · refine vv_iconst (v := 0) fx nd_MO_change_72 (by decide) ?_
          refine vv_iast (U' := me_up (mo_c1 V k more i) 3 (mo_pl i k) 0) (M' := M) fx 12 0 rfl rfl (by omega) (by decide) nd_MO_change_73 (sy_setU3 _) ?_
          refine vv_mem (M9 := M) (U9 := mo_c2 V k more i) (rfl) (by unfold mo_c2; rw [if_neg (Int32.not_lt.mpr hb59)]) ?_
          refine vv_iinc (v := nI (i + 1)) (L' := [(0, .ref (Y.2.1 8)), (1, .int (nI k)), (2, .int more), (3, .int (nI (i + 1))), (4, .int (nI (mo_pl i k)))]) fx nd_MO_change_74 3 rfl (nI_1 i) (by decide) [1, 2, 3, 0, 4] rfl ?_
          refine vv_goto (tgt := 2) fx nd_MO_change_77 (by decide) ?_
          refine vv_loc (L' := [(0, .ref (Y.2.1 8)), (1, .int (nI k)), (2, .int more), (3, .int (nI (i + 1)))]) [0, 1, 2, 3] rfl ?_
          have h9 := ih_loop (i + 1) (by omega)
          rw [ev] at h9
          exact h9
        · refine vv_aload_n fx nd_MO_change_62 rfl 0 rfl ?_
          refine vv_get (ci := 2) (C := nr_MO) (T := nt_MO) (N := 10) fx nt_MO_in 8 rfl rfl 4 (by decide) nf_MO_20 rfl nd_MO_change_63 ?_
          refine vv_iload fx nd_MO_change_66 4 rfl ?_
          refine vv_iald fx 12 0 rfl rfl (by omega) (by decide) nd_MO_change_68 ?_
          refine vv_goto (tgt := 73) fx nd_MO_change_69 (by decide) ?_
          refine vv_iast (U' := me_up (mo_c1 V k more i) 3 (mo_pl i k) ((mo_c1 V k more i) 3 (mo_pl i k))) (M' := M) fx 12 0 rfl rfl (by omega) (by decide) nd_MO_change_73 (sy_setU3 _) ?_
          refine vv_mem (M9 := M) (U9 := mo_c2 V k more i) (rfl) (by unfold mo_c2; rw [if_pos (Int32.not_le.mp hb59)]) ?_
          refine vv_iinc (v := nI (i + 1)) (L' := [(0, .ref (Y.2.1 8)), (1, .int (nI k)), (2, .int more), (3, .int (nI (i + 1))), (4, .int (nI (mo_pl i k)))]) fx nd_MO_change_74 3 rfl (nI_1 i) (by decide) [1, 2, 3, 0, 4] rfl ?_
          refine vv_goto (tgt := 2) fx nd_MO_change_77 (by decide) ?_
          refine vv_loc (L' := [(0, .ref (Y.2.1 8)), (1, .int (nI k)), (2, .int more), (3, .int (nI (i + 1)))]) [0, 1, 2, 3] rfl ?_
          have h9 := ih_loop (i + 1) (by omega)
          rw [ev] at h9
          exact h9
      · have e1 : (mo_c1 V k more i) = me_up (me_up V 4 1 (V 4 1 + 1)) 3 (mo_pl i k) (V 4 1 + 1) := if_pos (b01_1 hb21)
        have eb : (mo_c1 V k more i) 1 = V 1 := by rw [e1, me_up_n _ _ _ (by decide), me_up_n _ _ _ (by decide)]
        refine vv_aload_n fx nd_MO_change_24 rfl 0 rfl ?_
        refine vv_aload_n fx nd_MO_change_25 rfl 0 rfl ?_
        refine vv_get (ci := 2) (C := nr_MO) (T := nt_MO) (N := 10) fx nt_MO_in 8 rfl rfl 5 (by decide) nf_MO_63 rfl nd_MO_change_26 ?_
        refine vv_iconst (v := 1) fx nd_MO_change_29 (by decide) ?_
        refine vv_iadd fx nd_MO_change_30 ?_
        refine vv_put (U' := me_up V 4 1 ((V 4 1) + 1)) (M' := M) (ci := 2) (C := nr_MO) (T := nt_MO) (N := 10) (ty := .int) fx nt_MO_in nt_MO_ty nt_MO_ok nt_MO_nm 8 rfl rfl 5 (by decide) nf_MO_63 rfl (by decide +kernel) rfl rfl (Nat.le_of_ble_eq_true rfl) nd_MO_change_31 (sy_putU 1 _ rfl) ?_
        refine vv_aload_n fx nd_MO_change_34 rfl 0 rfl ?_
        refine vv_get (ci := 2) (C := nr_MO) (T := nt_MO) (N := 10) fx nt_MO_in 8 rfl rfl 4 (by decide) nf_MO_20 rfl nd_MO_change_35 ?_
        refine vv_iload fx nd_MO_change_38 4 rfl ?_
        refine vv_aload_n fx nd_MO_change_40 rfl 0 rfl ?_
        refine vv_get (ci := 2) (C := nr_MO) (T := nt_MO) (N := 10) fx nt_MO_in 8 rfl rfl 5 (by decide) nf_MO_63 rfl nd_MO_change_41 ?_
        refine vv_top (y := V 4 1 + 1) (me_up_s _ _ _ _) ?_
        refine vv_iast (U' := me_up (me_up V 4 1 ((V 4 1) + 1)) 3 (mo_pl i k) (V 4 1 + 1)) (M' := M) fx 12 0 rfl rfl (by omega) (by decide) nd_MO_change_44 (sy_setU3 _) ?_
        refine vv_mem (M9 := M) (U9 := (mo_c1 V k more i)) (rfl) (e1.symm) ?_
        refine vv_aload_n fx nd_MO_change_45 rfl 0 rfl ?_
        refine vv_get (ci := 2) (C := nr_MO) (T := nt_MO) (N := 10) fx nt_MO_in 8 rfl rfl 4 (by decide) nf_MO_20 rfl nd_MO_change_46 ?_
        refine vv_iload fx nd_MO_change_49 4 rfl ?_
        refine vv_aload_n fx nd_MO_change_51 rfl 0 rfl ?_
        refine vv_iload_n fx nd_MO_change_52 rfl 3 rfl ?_
        refine vv_iload_n fx nd_MO_change_53 rfl 1 rfl ?_
        refine vv_callVi (C := nr_MO) (T := nt_MO) (N := 10) (ci := 2) fx (cc_MO_below l Y M (mo_c1 V k more i) o i k (by omega) hk) nm_MO_46 ns_MO_below nv_MO_below nz_MO nc_MO_below ni_MO_below 8 rfl rfl ⟨rfl, rfl, by decide, by decide⟩ ⟨Nat.le_of_ble_eq_true rfl, Nat.le_of_ble_eq_true rfl⟩ (Nat.le_of_ble_eq_true rfl) nd_MO_change_54 rfl ?_
        refine vv_top (y := nI (mo_below V i k)) (congrArg nI (mo_below_of eb i k)) ?_
        refine vv_iload_n fx nd_MO_change_57 rfl 2 rfl ?_
        refine vv_iadd fx nd_MO_change_58 ?_
        refine vv_if_le (tgt := 72) fx nd_MO_change_59 (by decide) (fun hb59 => ?_) (fun hb59 => ?_)
        · refine vv_iconst (v := 0) fx nd_MO_change_72 (by decide) ?_
          refine vv_iast (U' := me_up (mo_c1 V k more i) 3 (mo_pl i k) 0) (M' := M) fx 12 0 rfl rfl (by omega) (by decide) nd_MO_change_73 (sy_setU3 _) ?_
          refine vv_mem (M9 := M) (U9 := mo_c2 V k more i) (rfl) (by unfold mo_c2; rw [if_neg (Int32.not_lt.mpr hb59)]) ?_
          refine vv_iinc (v := nI (i + 1)) (L' := [(0, .ref (Y.2.1 8)), (1, .int (nI k)), (2, .int more), (3, .int (nI (i + 1))), (4, .int (nI (mo_pl i k)))]) fx nd_MO_change_74 3 rfl (nI_1 i) (by decide) [1, 2, 3, 0, 4] rfl ?_
          refine vv_goto (tgt := 2) fx nd_MO_change_77 (by decide) ?_
          refine vv_loc (L' := [(0, .ref (Y.2.1 8)), (1, .int (nI k)), (2, .int more), (3, .int (nI (i + 1)))]) [0, 1, 2, 3] rfl ?_
          have h9 := ih_loop (i + 1) (by omega)
          rw [ev] at h9
          exact h9
        · refine vv_aload_n fx nd_MO_change_62 rfl 0 rfl ?_
          refine vv_get (ci := 2) (C := nr_MO) (T := nt_MO) (N := 10) fx nt_MO_in 8 rfl rfl 4 (by decide) nf_MO_20 rfl nd_MO_change_63 ?_
          refine vv_iload fx nd_MO_change_66 4 rfl ?_
          refine vv_iald fx 12 0 rfl rfl (by omega) (by decide) nd_MO_change_68 ?_
          refine vv_goto (tgt := 73) fx nd_MO_change_69 (by decide) ?_
          refine vv_iast (U' := me_up (mo_c1 V k more i) 3 (mo_pl i k) ((mo_c1 V k more i) 3 (mo_pl i k))) (M' := M) fx 12 0 rfl rfl (by omega) (by decide) nd_MO_change_73 (sy_setU3 _) ?_
          refine vv_mem (M9 := M) (U9 := mo_c2 V k more i) (rfl) (by unfold mo_c2; rw [if_pos (Int32.not_le.mp hb59)]) ?_
          refine vv_iinc (v := nI (i + 1)) (L' := [(0, .ref (Y.2.1 8)), (1, .int (nI k)), (2, .int more), (3, .int (nI (i + 1))), (4, .int (nI (mo_pl i k)))]) fx nd_MO_change_74 3 rfl (nI_1 i) (by decide) [1, 2, 3, 0, 4] rfl ?_
          refine vv_goto (tgt := 2) fx nd_MO_change_77 (by decide) ?_
          refine vv_loc (L' := [(0, .ref (Y.2.1 8)), (1, .int (nI k)), (2, .int more), (3, .int (nI (i + 1)))]) [0, 1, 2, 3] rfl ?_
          have h9 := ih_loop (i + 1) (by omega)
          rw [ev] at h9
          exact h9
  exact loop 3 0 (by omega)
