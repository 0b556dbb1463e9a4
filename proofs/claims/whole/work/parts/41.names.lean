/-! names (printed by wip/whole/gen/names.py out of the listing): classes nr_, fields nt_, methods ny_, their bytes nb_; the list of good words wl; decode rows nd_ -/
def nr_FB : String := "FrozenBranches"
def nr_RM : String := "FrozenBranches$Room"
def nr_MO : String := "FrozenBranchesModel"
def nr_LW : String := "FrozenBranchesLaw"
def wl : List Cond := lw_tbl.filter goodWord
theorem wl_t1 {w : Cond} (i : Nat) (h : tables_1_1[i]? = some w) (g : goodWord w = true) : w ∈ wl := List.mem_filter.mpr ⟨List.mem_append_right _ (List.mem_append_left _ (List.mem_of_getElem? h)), g⟩
theorem wl_t2 {w : Cond} (i : Nat) (h : tables_1_2[i]? = some w) (g : goodWord w = true) : w ∈ wl := List.mem_filter.mpr ⟨List.mem_append_right _ (List.mem_append_right _ (List.mem_append_left _ (List.mem_of_getElem? h))), g⟩
theorem wl_t3 {w : Cond} (i : Nat) (h : tables_1_3[i]? = some w) (g : goodWord w = true) : w ∈ wl := List.mem_filter.mpr ⟨List.mem_append_right _ (List.mem_append_right _ (List.mem_append_right _ (List.mem_of_getElem? h))), g⟩
theorem wl_sel {w : Cond} (i : Nat) (h : (k2_sels lw_privs)[i]? = some w) (g : goodWord w = true) : w ∈ wl := List.mem_filter.mpr ⟨List.mem_append_left _ (List.mem_of_getElem? h), g⟩
theorem wl_good {w : Cond} (h : w ∈ wl) : goodWord w = true := (List.mem_filter.mp h).2
theorem wl_in {w : Cond} (h : w ∈ wl) : w ∈ lw_tbl := (List.mem_filter.mp h).1
def nt_FB : u_T := fun k => match k with
  | 0 => ("FrozenBranches", "room", "LFrozenBranches$Room;", true)
  | 1 => ("FrozenBranches", "roots", "[I", true)
  | 2 => ("FrozenBranches", "diskRoots", "[I", true)
  | 3 => ("FrozenBranches", "powerless", "Z", false)
  | 4 => ("FrozenBranches", "writesMade", "I", false)
  | _ => ("FrozenBranches", "writesBeforeFailure", "I", false)
def nt_FB_ty : Nat → FieldType := fun k => match k with
  | 0 => .object "FrozenBranches$Room"
  | 1 => .array .int
  | 2 => .array .int
  | 3 => .boolean
  | 4 => .int
  | _ => .int
theorem nt_FB_nm : ∀ a, a < 6 → ∀ b, b < 6 → a ≠ b → (nt_FB a).2.1 ≠ (nt_FB b).2.1 := by decide +kernel
theorem nt_FB_ok : ∀ k, k < 6 → parseFieldDescriptor (nt_FB k).2.2.1 = some (nt_FB_ty k) := by decide +kernel
theorem nt_FB_in : ∀ w ∈ u_ws nr_FB nt_FB 6, w ∈ wl := by
  intro w hw
  obtain ⟨k, hk, rfl⟩ := List.mem_map.mp hw
  have hk := List.mem_range.mp hk
  match k, hk with
  | 0, _ => exact wl_t1 57 rfl rfl
  | 1, _ => exact wl_t1 59 rfl rfl
  | 2, _ => exact wl_t1 61 rfl rfl
  | 3, _ => exact wl_t1 63 rfl rfl
  | 4, _ => exact wl_t1 65 rfl rfl
  | 5, _ => exact wl_t1 67 rfl rfl
def nt_RM : u_T := fun k => match k with
  | 0 => ("FrozenBranches$Room", "ways", "[[I", true)
  | 1 => ("FrozenBranches$Room", "openTurns", "[I", true)
  | 2 => ("FrozenBranches$Room", "fresh", "[Z", true)
  | _ => ("FrozenBranches$Room", "marked", "[Z", true)
def nt_RM_ty : Nat → FieldType := fun k => match k with
  | 0 => .array (.array .int)
  | 1 => .array .int
  | 2 => .array .boolean
  | _ => .array .boolean
theorem nt_RM_nm : ∀ a, a < 4 → ∀ b, b < 4 → a ≠ b → (nt_RM a).2.1 ≠ (nt_RM b).2.1 := by decide +kernel
theorem nt_RM_ok : ∀ k, k < 4 → parseFieldDescriptor (nt_RM k).2.2.1 = some (nt_RM_ty k) := by decide +kernel
theorem nt_RM_in : ∀ w ∈ u_ws nr_RM nt_RM 4, w ∈ wl := by
  intro w hw
  obtain ⟨k, hk, rfl⟩ := List.mem_map.mp hw
  have hk := List.mem_range.mp hk
  match k, hk with
  | 0, _ => exact wl_t1 34 rfl rfl
  | 1, _ => exact wl_t1 36 rfl rfl
  | 2, _ => exact wl_t1 38 rfl rfl
  | 3, _ => exact wl_t1 40 rfl rfl
def nt_MO : u_T := fun k => match k with
  | 0 => ("FrozenBranchesModel", "code", "I", false)
  | 1 => ("FrozenBranchesModel", "there", "[Z", true)
  | 2 => ("FrozenBranchesModel", "bound", "[Z", true)
  | 3 => ("FrozenBranchesModel", "values", "[I", true)
  | 4 => ("FrozenBranchesModel", "numbers", "[I", true)
  | 5 => ("FrozenBranchesModel", "made", "I", false)
  | 6 => ("FrozenBranchesModel", "mark", "I", false)
  | 7 => ("FrozenBranchesModel", "writes", "I", false)
  | 8 => ("FrozenBranchesModel", "failAfter", "I", false)
  | _ => ("FrozenBranchesModel", "down", "Z", false)
def nt_MO_ty : Nat → FieldType := fun k => match k with
  | 0 => .int
  | 1 => .array .boolean
  | 2 => .array .boolean
  | 3 => .array .int
  | 4 => .array .int
  | 5 => .int
  | 6 => .int
  | 7 => .int
  | 8 => .int
  | _ => .boolean
theorem nt_MO_nm : ∀ a, a < 10 → ∀ b, b < 10 → a ≠ b → (nt_MO a).2.1 ≠ (nt_MO b).2.1 := by decide +kernel
theorem nt_MO_ok : ∀ k, k < 10 → parseFieldDescriptor (nt_MO k).2.2.1 = some (nt_MO_ty k) := by decide +kernel
theorem nt_MO_in : ∀ w ∈ u_ws nr_MO nt_MO 10, w ∈ wl := by
  intro w hw
  obtain ⟨k, hk, rfl⟩ := List.mem_map.mp hw
  have hk := List.mem_range.mp hk
  match k, hk with
  | 0, _ => exact wl_t2 219 rfl rfl
  | 1, _ => exact wl_t2 221 rfl rfl
  | 2, _ => exact wl_t2 223 rfl rfl
  | 3, _ => exact wl_t2 225 rfl rfl
  | 4, _ => exact wl_t2 227 rfl rfl
  | 5, _ => exact wl_t2 229 rfl rfl
  | 6, _ => exact wl_t2 231 rfl rfl
  | 7, _ => exact wl_t2 233 rfl rfl
  | 8, _ => exact wl_t2 235 rfl rfl
  | 9, _ => exact wl_t2 237 rfl rfl
abbrev sy_cl : List vw_C := [(nr_FB, nt_FB, 6), (nr_RM, nt_RM, 4), (nr_MO, nt_MO, 10)]
