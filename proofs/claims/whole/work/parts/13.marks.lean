/-! marking: which nodes, and how many of them are new -/
/-- the node at place p of the map with root r -/
def rf_nr (M : me_M) (r p : Nat) : Nat := if p = 0 then r else if p < 5 then fb_ch M r (p - 1) else fb_ch M (fb_ch M r ((p - 5) / 4)) ((p - 5) % 4)
theorem rf_na (M : me_M) (r : Nat) {k l : Nat} (hk : k < 64) (hl : l < 3) : fb_na M r k l = rf_nr M r (mo_pl l k) := by
  have h16 : k / 16 % 4 = k / 16 := Nat.mod_eq_of_lt (by omega)
  match l, hl with
  | 0, _ => rfl
  | 1, _ =>
    show fb_ch M r (k / 4 ^ 2 % 4) = rf_nr M r (1 + k / 16)
    unfold rf_nr
    rw [if_neg (by omega), if_pos (by omega), show 1 + k / 16 - 1 = k / 16 by omega, show (4 : Nat) ^ 2 = 16 from rfl, h16]
  | 2, _ =>
    show fb_ch M (fb_ch M r (k / 4 ^ 2 % 4)) (k / 4 ^ 1 % 4) = rf_nr M r (5 + k / 4)
    unfold rf_nr
    rw [if_neg (by omega), if_neg (by omega), show 5 + k / 4 - 5 = k / 4 by omega, show (4 : Nat) ^ 2 = 16 from rfl, h16, show (4 : Nat) ^ 1 = 4 from rfl, show k / 4 / 4 = k / 16 by omega]
theorem rf_pl_lt {l k : Nat} (hk : k < 64) : mo_pl l k < 21 := by
  unfold mo_pl
  split
  · omega
  · split <;> omega
/-- every place is met on the way of a key 4 j -/
theorem rf_pl_all {p : Nat} (hp : p < 21) : ∃ j l, j < 16 ∧ l < 3 ∧ mo_pl l (4 * j) = p := by
  by_cases h0 : p = 0
  · exact ⟨0, 0, by omega, by omega, by rw [h0]; rfl⟩
  · by_cases h5 : p < 5
    · refine ⟨4 * (p - 1), 1, by omega, by omega, ?_⟩
      unfold mo_pl
      rw [if_neg (by decide), if_pos rfl]
      omega
    · refine ⟨p - 5, 2, by omega, by omega, ?_⟩
      unfold mo_pl
      rw [if_neg (by decide), if_neg (by decide)]
      omega
def rf_mk (K : Nat → Int32) : Nat → Bool := fun i => decide (K i ≠ 0)
theorem rf_vi (st : Nat × (Nat → Int32)) {n : Nat} (hn : n < 61) : (fb_vi st n).1 + rf_nb (rf_mk st.2) = st.1 + rf_nb (rf_mk (fb_vi st n).2) ∧ ∀ i, (fb_vi st n).2 i ≠ 0 ↔ st.2 i ≠ 0 ∨ (i ≠ 0 ∧ n = i) := by
  unfold fb_vi
  by_cases h : n ≠ 0 ∧ st.2 n = 0
  · rw [if_pos h]
    have hs : ∀ i, upd st.2 n 1 i ≠ 0 ↔ st.2 i ≠ 0 ∨ (i ≠ 0 ∧ n = i) := by
      intro i
      unfold upd
      by_cases e : i = n
      · rw [if_pos e]
        exact ⟨fun _ => Or.inr ⟨by rw [e]; exact h.1, e.symm⟩, fun _ => by decide⟩
      · rw [if_neg e]
        exact ⟨Or.inl, fun q => q.elim id (fun z => absurd z.2.symm e)⟩
    refine ⟨?_, hs⟩
    have h1 : rf_nb (rf_mk (upd st.2 n 1)) = rf_nb (rf_mk st.2) + 1 := by
      unfold rf_nb
      refine rf_cn_up hn (by simp [rf_mk, h.2]) (by simp [rf_mk, upd]) (fun i _ hi => by simp [rf_mk, upd, hi])
    show st.1 + 1 + _ = st.1 + rf_nb (rf_mk (upd st.2 n 1))
    rw [h1]
    omega
  · rw [if_neg h]
    refine ⟨rfl, fun i => ⟨Or.inl, fun q => q.elim id (fun z => ?_)⟩⟩
    intro hi
    exact h ⟨by rw [z.2]; exact z.1, by rw [z.2]; exact hi⟩
theorem rf_mk1 (M : me_M) (r k : Nat) (st : Nat × (Nat → Int32)) (L : Nat) (hn : ∀ l, l < L → fb_na M r k l < 61) : (fb_mk1 M r k st L).1 + rf_nb (rf_mk st.2) = st.1 + rf_nb (rf_mk (fb_mk1 M r k st L).2) ∧ ∀ i, (fb_mk1 M r k st L).2 i ≠ 0 ↔ st.2 i ≠ 0 ∨ (i ≠ 0 ∧ ∃ l, l < L ∧ fb_na M r k l = i) := by
  induction L with
  | zero => exact ⟨rfl, fun i => ⟨Or.inl, fun q => q.elim id (fun z => by obtain ⟨-, l, h, -⟩ := z; omega)⟩⟩
  | succ L ih =>
    obtain ⟨h1, h2⟩ := ih (fun l hl => hn l (by omega))
    obtain ⟨h3, h4⟩ := rf_vi (fb_mk1 M r k st L) (hn L (by omega))
    refine ⟨?_, fun i => ?_⟩
    · show (fb_vi (fb_mk1 M r k st L) (fb_na M r k L)).1 + _ = st.1 + rf_nb (rf_mk (fb_vi (fb_mk1 M r k st L) (fb_na M r k L)).2)
      omega
    · show (fb_vi (fb_mk1 M r k st L) (fb_na M r k L)).2 i ≠ 0 ↔ _
      rw [h4 i, h2 i]
      constructor
      · rintro ((h | ⟨h, l, hl, e⟩) | ⟨h, e⟩)
        · exact Or.inl h
        · exact Or.inr ⟨h, l, by omega, e⟩
        · exact Or.inr ⟨h, L, by omega, e⟩
      · rintro (h | ⟨h, l, hl, e⟩)
        · exact Or.inl (Or.inl h)
        · by_cases hL : l = L
          · exact Or.inr ⟨h, by rw [← hL]; exact e⟩
          · exact Or.inl (Or.inr ⟨h, l, by omega, e⟩)
theorem rf_mk2 (M : me_M) (r : Nat) (st : Nat × (Nat → Int32)) (J : Nat) (hn : ∀ j, j < J → ∀ l, l < 3 → fb_na M r (4 * j) l < 61) : (fb_mk2 M r st J).1 + rf_nb (rf_mk st.2) = st.1 + rf_nb (rf_mk (fb_mk2 M r st J).2) ∧ ∀ i, (fb_mk2 M r st J).2 i ≠ 0 ↔ st.2 i ≠ 0 ∨ (i ≠ 0 ∧ ∃ j l, j < J ∧ l < 3 ∧ fb_na M r (4 * j) l = i) := by
  induction J with
  | zero => exact ⟨rfl, fun i => ⟨Or.inl, fun q => q.elim id (fun z => by obtain ⟨-, j, l, h, -⟩ := z; omega)⟩⟩
  | succ J ih =>
    obtain ⟨h1, h2⟩ := ih (fun j hj => hn j (by omega))
    obtain ⟨h3, h4⟩ := rf_mk1 M r (4 * J) (fb_mk2 M r st J) 3 (hn J (by omega))
    refine ⟨?_, fun i => ?_⟩
    · show (fb_mk1 M r (4 * J) (fb_mk2 M r st J) 3).1 + _ = st.1 + rf_nb (rf_mk (fb_mk1 M r (4 * J) (fb_mk2 M r st J) 3).2)
      omega
    · show (fb_mk1 M r (4 * J) (fb_mk2 M r st J) 3).2 i ≠ 0 ↔ _
      rw [h4 i, h2 i]
      constructor
      · rintro ((h | ⟨h, j, l, hj, hl, e⟩) | ⟨h, l, hl, e⟩)
        · exact Or.inl h
        · exact Or.inr ⟨h, j, l, by omega, hl, e⟩
        · exact Or.inr ⟨h, J, l, by omega, hl, e⟩
      · rintro (h | ⟨h, j, l, hj, hl, e⟩)
        · exact Or.inl (Or.inl h)
        · by_cases hL : j = J
          · exact Or.inr ⟨h, l, hl, by rw [← hL]; exact e⟩
          · exact Or.inl (Or.inr ⟨h, j, l, by omega, hl, e⟩)
theorem rf_set2_ch (M : me_M) (K : Nat → Int32) (n t : Nat) : fb_ch (me_set M 2 K) n t = fb_ch M n t := by
  unfold fb_ch; rw [me_set_n _ _ (by omega)]
theorem rf_set2_na (M : me_M) (K : Nat → Int32) (r k l : Nat) : fb_na (me_set M 2 K) r k l = fb_na M r k l := by
  induction l with
  | zero => rfl
  | succ l ih =>
    show fb_ch (me_set M 2 K) (fb_na (me_set M 2 K) r k l) (fb_tn k l) = fb_ch M (fb_na M r k l) (fb_tn k l)
    rw [ih, rf_set2_ch]
theorem rf_set2_nr (M : me_M) (K : Nat → Int32) (r p : Nat) : rf_nr (me_set M 2 K) r p = rf_nr M r p := by
  unfold rf_nr; simp only [rf_set2_ch]
theorem rf_set2_mk1 (M : me_M) (K : Nat → Int32) (r k : Nat) (st : Nat × (Nat → Int32)) (L : Nat) : fb_mk1 (me_set M 2 K) r k st L = fb_mk1 M r k st L := by
  induction L with
  | zero => rfl
  | succ L ih =>
    show fb_vi (fb_mk1 (me_set M 2 K) r k st L) (fb_na (me_set M 2 K) r k L) = fb_vi (fb_mk1 M r k st L) (fb_na M r k L)
    rw [ih, rf_set2_na]
theorem rf_set2_mk2 (M : me_M) (K : Nat → Int32) (r : Nat) (st : Nat × (Nat → Int32)) (J : Nat) : fb_mk2 (me_set M 2 K) r st J = fb_mk2 M r st J := by
  induction J with
  | zero => rfl
  | succ J ih =>
    show fb_mk1 (me_set M 2 K) r (4 * J) (fb_mk2 (me_set M 2 K) r st J) 3 = fb_mk1 M r (4 * J) (fb_mk2 M r st J) 3
    rw [ih, rf_set2_mk1]
/-- mark, over the marks alone -/
def rf_mkK (M : me_M) (r : Nat) (K : Nat → Int32) : Nat × (Nat → Int32) := if r = 0 ∨ K r ≠ 0 then (0, K) else fb_mk2 M r (0, K) 16
theorem rf_mark (M : me_M) (K : Nat → Int32) (r : Nat) : fb_mark (me_set M 2 K) r = ((rf_mkK M r K).1, me_set M 2 (rf_mkK M r K).2) := by
  unfold fb_mark rf_mkK
  rw [me_set_s]
  by_cases h : r = 0 ∨ K r ≠ 0
  · rw [if_pos h, if_pos h]
  · rw [if_neg h, if_neg h, rf_set2_mk2, me_set_2]
/-- all nodes of a root are numbers of nodes -/
def rf_nrok (M : me_M) (r : Nat) : Prop := ∀ p, p < 21 → rf_nr M r p < 61
theorem rf_mkK_ok (M : me_M) (r : Nat) (K : Nat → Int32) (hok : rf_nrok M r) (h0 : r = 0 → ∀ p, p < 21 → rf_nr M r p = 0) (hcl : K r ≠ 0 → ∀ p, p < 21 → rf_nr M r p ≠ 0 → K (rf_nr M r p) ≠ 0) :
    (rf_mkK M r K).1 + rf_nb (rf_mk K) = rf_nb (rf_mk (rf_mkK M r K).2) ∧ ∀ i, (rf_mkK M r K).2 i ≠ 0 ↔ K i ≠ 0 ∨ (i ≠ 0 ∧ ∃ p, p < 21 ∧ rf_nr M r p = i) := by
  unfold rf_mkK
  by_cases h : r = 0 ∨ K r ≠ 0
  · rw [if_pos h]
    refine ⟨Nat.zero_add _, fun i => ⟨Or.inl, fun q => q.elim id (fun z => ?_)⟩⟩
    obtain ⟨hi, p, hp, e⟩ := z
    rcases h with h | h
    · exact absurd ((h0 h p hp).symm.trans e).symm hi
    · have := hcl h p hp (by rw [e]; exact hi)
      rw [e] at this
      exact this
  · rw [if_neg h]
    obtain ⟨h1, h2⟩ := rf_mk2 M r (0, K) 16 (fun j hj l hl => by rw [rf_na M r (by omega) hl]; exact hok _ (rf_pl_lt (by omega)))
    refine ⟨by simpa using h1, fun i => ?_⟩
    rw [h2 i]
    constructor
    · rintro (h | ⟨h, j, l, hj, hl, e⟩)
      · exact Or.inl h
      · exact Or.inr ⟨h, mo_pl l (4 * j), rf_pl_lt (by omega), by rw [← rf_na M r (by omega) hl]; exact e⟩
    · rintro (h | ⟨h, p, hp, e⟩)
      · exact Or.inl h
      · obtain ⟨j, l, hj, hl, e2⟩ := rf_pl_all hp
        exact Or.inr ⟨h, j, l, hj, hl, by rw [rf_na M r (by omega) hl, e2]; exact e⟩
/-- the maps of one array, over the marks alone -/
def rf_mmK (M : me_M) (a : Nat) (K : Nat → Int32) : Nat → Nat × (Nat → Int32)
  | 0 => (0, K)
  | h + 1 => if M a h = -1 then rf_mmK M a K h else ((rf_mmK M a K h).1 + (rf_mkK M (M a h).toNatClampNeg (rf_mmK M a K h).2).1, (rf_mkK M (M a h).toNatClampNeg (rf_mmK M a K h).2).2)
theorem rf_mm (M : me_M) (a : Nat) (ha : a ≠ 2) (K : Nat → Int32) (h : Nat) : fb_mm (me_set M 2 K) a h = ((rf_mmK M a K h).1, me_set M 2 (rf_mmK M a K h).2) := by
  induction h with
  | zero => rfl
  | succ h ih =>
    unfold fb_mm rf_mmK
    rw [me_set_n _ _ ha, ih]
    by_cases e : M a h = -1
    · rw [if_pos e, if_pos e]
    · rw [if_neg e, if_neg e, rf_mark]
/-- the root of map m: 0 .. 6 current and snapshots, 7 .. 13 the disk's -/
def rf_rv (M : me_M) (m : Nat) : Int32 := if m < 7 then M 3 m else M 4 (m - 7)
def rf_rn (M : me_M) (m : Nat) : Nat := (rf_rv M m).toNatClampNeg
def rf_nd (M : me_M) (m p : Nat) : Nat := rf_nr M (rf_rn M m) p
theorem rf_m1 : ((-1 : Int32)).toNatClampNeg = 0 := by decide +kernel
/-- what marking needs: nodes are numbers below 61, an empty map has none, and one node has one place -/
def rf_J (M : me_M) : Prop := (∀ m, m < 14 → rf_nrok M (rf_rn M m)) ∧ (∀ p, p < 21 → rf_nr M 0 p = 0) ∧ (∀ m m' p p', m < 14 → m' < 14 → p < 21 → p' < 21 → rf_nd M m p ≠ 0 → rf_nd M m p = rf_nd M m' p' → p = p')
/-- the marked are just the nodes of the maps in S -/
def rf_S (M : me_M) (S : Nat → Prop) (K : Nat → Int32) : Prop := ∀ i, i < 61 → (K i ≠ 0 ↔ i ≠ 0 ∧ ∃ m p, m < 14 ∧ S m ∧ p < 21 ∧ rf_nd M m p = i)
theorem rf_mkK_S {M : me_M} (hJ : rf_J M) {S : Nat → Prop} {K : Nat → Int32} (hS : rf_S M S K) {m : Nat} (hm : m < 14) :
    (rf_mkK M (rf_rn M m) K).1 + rf_nb (rf_mk K) = rf_nb (rf_mk (rf_mkK M (rf_rn M m) K).2) ∧ rf_S M (fun j => S j ∨ j = m) (rf_mkK M (rf_rn M m) K).2 := by
  obtain ⟨j1, j2, j3⟩ := hJ
  have hcl : K (rf_rn M m) ≠ 0 → ∀ p, p < 21 → rf_nr M (rf_rn M m) p ≠ 0 → K (rf_nr M (rf_rn M m) p) ≠ 0 := by
    intro hK p hp hn
    obtain ⟨h0, m', p', hm', hs', hp', e⟩ := (hS _ (j1 m hm 0 (by omega))).mp hK
    have e0 : rf_nd M m 0 = rf_rn M m := rfl
    have hz : 0 = p' := j3 m m' 0 p' hm hm' (by omega) hp' (by rw [e0]; exact h0) (by rw [e0]; exact e.symm)
    subst hz
    have e1 : rf_rn M m' = rf_rn M m := e
    exact (hS _ (j1 m hm p hp)).mpr ⟨hn, m', p, hm', hs', hp, by unfold rf_nd; rw [e1]⟩
  obtain ⟨h1, h2⟩ := rf_mkK_ok M (rf_rn M m) K (j1 m hm) (fun e p hp => by rw [e]; exact j2 p hp) hcl
  refine ⟨h1, fun i hi => ?_⟩
  rw [h2 i, hS i hi]
  constructor
  · rintro (⟨h, m', p', a, b, c, e⟩ | ⟨h, p, hp, e⟩)
    · exact ⟨h, m', p', a, Or.inl b, c, e⟩
    · exact ⟨h, m, p, hm, Or.inr rfl, hp, e⟩
  · rintro ⟨h, m', p', a, b, c, e⟩
    rcases b with b | b
    · exact Or.inl ⟨h, m', p', a, b, c, e⟩
    · subst b; exact Or.inr ⟨h, p', c, e⟩
/-- the maps from 'lo' on (0: roots, 7: disk) -/
theorem rf_mmK_S {M : me_M} (hJ : rf_J M) {a lo : Nat} (hlo : lo = 0 ∨ lo = 7) (ha : ∀ h, h < 7 → M a h = rf_rv M (lo + h)) {S : Nat → Prop} {K : Nat → Int32} (hS : rf_S M S K) (h : Nat) (hh : h ≤ 7) :
    (rf_mmK M a K h).1 + rf_nb (rf_mk K) = rf_nb (rf_mk (rf_mmK M a K h).2) ∧ rf_S M (fun j => S j ∨ (lo ≤ j ∧ j < lo + h)) (rf_mmK M a K h).2 := by
  induction h with
  | zero =>
    refine ⟨Nat.zero_add _, fun i hi => ?_⟩
    show K i ≠ 0 ↔ _
    rw [hS i hi]
    constructor
    · rintro ⟨z, m, p, x, y, w, e⟩; exact ⟨z, m, p, x, Or.inl y, w, e⟩
    · rintro ⟨z, m, p, x, y, w, e⟩; exact ⟨z, m, p, x, y.elim id (fun q => by omega), w, e⟩
  | succ h ih =>
    obtain ⟨h1, h2⟩ := ih (by omega)
    have hm : lo + h < 14 := by omega
    have hr : (M a h).toNatClampNeg = rf_rn M (lo + h) := by unfold rf_rn; rw [ha h (by omega)]
    unfold rf_mmK
    by_cases e : M a h = -1
    · rw [if_pos e]
      refine ⟨h1, fun i hi => ?_⟩
      rw [h2 i hi]
      have hz : rf_rn M (lo + h) = 0 := by rw [← hr, e]; exact rf_m1
      constructor
      · rintro ⟨z, m, p, x, y, w, q⟩; exact ⟨z, m, p, x, y.elim Or.inl (fun q => Or.inr (by omega)), w, q⟩
      · rintro ⟨z, m, p, x, y, w, q⟩
        refine ⟨z, m, p, x, ?_, w, q⟩
        rcases y with y | y
        · exact Or.inl y
        · by_cases em : m = lo + h
          · exfalso
            unfold rf_nd at q
            rw [em, hz, hJ.2.1 p w] at q
            exact z q.symm
          · exact Or.inr (by omega)
    · rw [if_neg e, hr]
      obtain ⟨h3, h4⟩ := rf_mkK_S hJ h2 hm
      refine ⟨?_, fun i hi => ?_⟩
      · show (rf_mmK M a K h).1 + (rf_mkK M (rf_rn M (lo + h)) (rf_mmK M a K h).2).1 + _ = rf_nb (rf_mk (rf_mkK M (rf_rn M (lo + h)) (rf_mmK M a K h).2).2)
        omega
      · show (rf_mkK M (rf_rn M (lo + h)) (rf_mmK M a K h).2).2 i ≠ 0 ↔ _
        rw [h4 i hi]
        constructor
        · rintro ⟨z, m, p, x, y, w, q⟩
          exact ⟨z, m, p, x, y.elim (fun y => y.elim Or.inl (fun y => Or.inr (by omega))) (fun y => Or.inr (by omega)), w, q⟩
        · rintro ⟨z, m, p, x, y, w, q⟩
          refine ⟨z, m, p, x, ?_, w, q⟩
          rcases y with y | y
          · exact Or.inl (Or.inl y)
          · by_cases em : m = lo + h
            · exact Or.inr em
            · exact Or.inl (Or.inr (by omega))
/-- the marks that freeNodes and writesNeeded leave -/
def rf_K0 (M : me_M) : Nat → Int32 := fun j => if 0 ≤ j ∧ j < 61 then 0 else M 2 j
theorem rf_K0_nb (M : me_M) : rf_nb (rf_mk (rf_K0 M)) = 0 := by
  unfold rf_nb
  rw [me_cn_congr (Q := fun _ => false) (fun i hi => by simp [rf_mk, rf_K0, hi])]
  have : ∀ n, me_cn (fun _ => false) n = 0 := by
    intro n
    induction n with
    | zero => rfl
    | succ n ih => unfold me_cn; rw [ih]; rfl
  exact this 61
theorem rf_K0_S (M : me_M) : rf_S M (fun _ => False) (rf_K0 M) := fun i hi => ⟨fun h => absurd (by simp [rf_K0, hi]) h, fun h => by obtain ⟨-, m, p, -, z, -⟩ := h; exact z.elim⟩
theorem rf_unmark (M : me_M) : fb_unmark M = me_set M 2 (rf_K0 M) := rfl
def rf_KD (M : me_M) : Nat × (Nat → Int32) := rf_mmK M 4 (rf_K0 M) 7
def rf_KR (M : me_M) : Nat × (Nat → Int32) := rf_mmK M 3 (rf_KD M).2 7
theorem rf_md (M : me_M) : fb_md M = ((rf_KD M).1, me_set M 2 (rf_KD M).2) := by
  unfold fb_md rf_KD; rw [rf_unmark, rf_mm M 4 (by decide)]
theorem rf_mr (M : me_M) : fb_mr M = ((rf_KR M).1, me_set M 2 (rf_KR M).2) := by
  unfold fb_mr rf_KR; rw [rf_md, rf_mm M 3 (by decide)]
theorem rf_KD_ok {M : me_M} (hJ : rf_J M) : (rf_KD M).1 = rf_nb (rf_mk (rf_KD M).2) ∧ rf_S M (fun j => 7 ≤ j) (rf_KD M).2 := by
  obtain ⟨h1, h2⟩ := rf_mmK_S hJ (a := 4) (lo := 7) (Or.inr rfl) (fun h hh => by unfold rf_rv; rw [if_neg (by omega), show 7 + h - 7 = h by omega]) (rf_K0_S M) 7 (Nat.le_refl _)
  rw [rf_K0_nb] at h1
  refine ⟨h1, fun i hi => ?_⟩
  refine (h2 i hi).trans ⟨?_, ?_⟩
  · rintro ⟨z, m, p, x, y, w, q⟩; exact ⟨z, m, p, x, y.elim (fun f => f.elim) (fun y => y.1), w, q⟩
  · rintro ⟨z, m, p, x, y, w, q⟩; exact ⟨z, m, p, x, Or.inr ⟨y, by omega⟩, w, q⟩
theorem rf_KR_ok {M : me_M} (hJ : rf_J M) : (rf_KD M).1 + (rf_KR M).1 = rf_nb (rf_mk (rf_KR M).2) ∧ rf_S M (fun _ => True) (rf_KR M).2 := by
  obtain ⟨e1, e2⟩ := rf_KD_ok hJ
  obtain ⟨h1, h2⟩ := rf_mmK_S hJ (a := 3) (lo := 0) (Or.inl rfl) (fun h hh => by unfold rf_rv; rw [if_pos (by omega), show 0 + h = h by omega]) e2 7 (Nat.le_refl _)
  refine ⟨by show (rf_KD M).1 + (rf_mmK M 3 (rf_KD M).2 7).1 = rf_nb (rf_mk (rf_mmK M 3 (rf_KD M).2 7).2); omega, fun i hi => ?_⟩
  refine (h2 i hi).trans ⟨?_, ?_⟩
  · rintro ⟨z, m, p, x, y, w, q⟩; exact ⟨z, m, p, x, trivial, w, q⟩
  · rintro ⟨z, m, p, x, y, w, q⟩; exact ⟨z, m, p, x, by by_cases h : 7 ≤ m; exact Or.inl h; exact Or.inr ⟨by omega, by omega⟩, w, q⟩
/-! the reference's count of different numbers, by nodes -/
/-- numbers and nodes: 0 is no node; one place and one number is one node -/
def rf_N (M U : me_M) : Prop := (∀ m p, m < 14 → p < 21 → (rf_nd M m p = 0 ↔ U 3 (21 * m + p) = 0)) ∧ (∀ m p, m < 14 → p < 21 → 0 ≤ U 3 (21 * m + p)) ∧ (∀ m m' p, m < 14 → m' < 14 → p < 21 → rf_nd M m p ≠ 0 → (rf_nd M m p = rf_nd M m' p ↔ U 3 (21 * m + p) = U 3 (21 * m' + p)))
