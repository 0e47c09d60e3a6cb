/-! names: classes, cells, words, methods (by gen/names.py out of the Statement) -/
def ow_T0 : u_T := fun k => match k with
  | 0 => ("OwnerRings", "plan", "LOwnerRings$Plan;", true)
  | 1 => ("OwnerRings", "base", "LOwnerRings$Base;", true)
  | 2 => ("OwnerRings", "keptBase", "LOwnerRings$Base;", true)
  | 3 => ("OwnerRings", "stand", "LOwnerRings$Stand;", true)
  | _ => ("OwnerRings", "everStored", "Z", false)
def ow_ty0 : Nat → FieldType := fun k => match k with
  | 0 => .object "OwnerRings$Plan"
  | 1 => .object "OwnerRings$Base"
  | 2 => .object "OwnerRings$Base"
  | 3 => .object "OwnerRings$Stand"
  | _ => .boolean
def ow_T1 : u_T := fun k => match k with
  | 0 => ("OwnerRings$Plan", "typeCount", "I", false)
  | 1 => ("OwnerRings$Plan", "setCount", "I", false)
  | 2 => ("OwnerRings$Plan", "fieldCount", "[I", true)
  | 3 => ("OwnerRings$Plan", "ownerType", "[I", true)
  | 4 => ("OwnerRings$Plan", "memberType", "[I", true)
  | 5 => ("OwnerRings$Plan", "order", "[I", true)
  | _ => ("OwnerRings$Plan", "kind", "[I", true)
def ow_ty1 : Nat → FieldType := fun k => match k with
  | 0 => .int
  | 1 => .int
  | 2 => .array .int
  | 3 => .array .int
  | 4 => .array .int
  | 5 => .array .int
  | _ => .array .int
def ow_T2 : u_T := fun k => match k with
  | 0 => ("OwnerRings$Base", "recordCount", "I", false)
  | 1 => ("OwnerRings$Base", "nextKey", "I", false)
  | 2 => ("OwnerRings$Base", "keys", "[I", true)
  | 3 => ("OwnerRings$Base", "types", "[I", true)
  | 4 => ("OwnerRings$Base", "fields", "[[I", true)
  | 5 => ("OwnerRings$Base", "owners", "[[I", true)
  | _ => ("OwnerRings$Base", "positions", "[[I", true)
def ow_ty2 : Nat → FieldType := fun k => match k with
  | 0 => .int
  | 1 => .int
  | 2 => .array .int
  | 3 => .array .int
  | 4 => .array (.array .int)
  | 5 => .array (.array .int)
  | _ => .array (.array .int)
def ow_T3 : u_T := fun k => match k with
  | 0 => ("OwnerRings$Stand", "ofRun", "I", false)
  | 1 => ("OwnerRings$Stand", "ofType", "[I", true)
  | _ => ("OwnerRings$Stand", "ofSet", "[I", true)
def ow_ty3 : Nat → FieldType := fun k => match k with
  | 0 => .int
  | 1 => .array .int
  | _ => .array .int
def ow_T4 : u_T := fun k => match k with
  | 0 => ("OwnerRingsModel", "code", "I", false)
  | 1 => ("OwnerRingsModel", "types", "I", false)
  | 2 => ("OwnerRingsModel", "fields", "[I", true)
  | 3 => ("OwnerRingsModel", "sets", "I", false)
  | 4 => ("OwnerRingsModel", "ownerType", "[I", true)
  | 5 => ("OwnerRingsModel", "memberType", "[I", true)
  | 6 => ("OwnerRingsModel", "orders", "[I", true)
  | 7 => ("OwnerRingsModel", "kinds", "[I", true)
  | 8 => ("OwnerRingsModel", "ever", "Z", false)
  | 9 => ("OwnerRingsModel", "nextKey", "I", false)
  | 10 => ("OwnerRingsModel", "key", "[I", true)
  | 11 => ("OwnerRingsModel", "type", "[I", true)
  | 12 => ("OwnerRingsModel", "cell", "[I", true)
  | 13 => ("OwnerRingsModel", "owns", "[I", true)
  | 14 => ("OwnerRingsModel", "list", "[I", true)
  | 15 => ("OwnerRingsModel", "listed", "[I", true)
  | 16 => ("OwnerRingsModel", "run", "I", false)
  | 17 => ("OwnerRingsModel", "ofType", "[I", true)
  | 18 => ("OwnerRingsModel", "ofSet", "[I", true)
  | 19 => ("OwnerRingsModel", "goes", "[Z", true)
  | 20 => ("OwnerRingsModel", "keptNext", "I", false)
  | 21 => ("OwnerRingsModel", "keptKey", "[I", true)
  | 22 => ("OwnerRingsModel", "keptType", "[I", true)
  | 23 => ("OwnerRingsModel", "keptCell", "[I", true)
  | 24 => ("OwnerRingsModel", "keptOwns", "[I", true)
  | 25 => ("OwnerRingsModel", "keptList", "[I", true)
  | _ => ("OwnerRingsModel", "keptListed", "[I", true)
def ow_ty4 : Nat → FieldType := fun k => match k with
  | 0 => .int
  | 1 => .int
  | 2 => .array .int
  | 3 => .int
  | 4 => .array .int
  | 5 => .array .int
  | 6 => .array .int
  | 7 => .array .int
  | 8 => .boolean
  | 9 => .int
  | 10 => .array .int
  | 11 => .array .int
  | 12 => .array .int
  | 13 => .array .int
  | 14 => .array .int
  | 15 => .array .int
  | 16 => .int
  | 17 => .array .int
  | 18 => .array .int
  | 19 => .array .boolean
  | 20 => .int
  | 21 => .array .int
  | 22 => .array .int
  | 23 => .array .int
  | 24 => .array .int
  | 25 => .array .int
  | _ => .array .int
abbrev ow_cl : List vw_C := [("OwnerRings", ow_T0, 5), ("OwnerRings$Plan", ow_T1, 7), ("OwnerRings$Base", ow_T2, 7), ("OwnerRings$Stand", ow_T3, 3), ("OwnerRingsModel", ow_T4, 27)]
def ow_nf : Nat → Nat := fun ci => match ci with
  | 0 => 5
  | 1 => 7
  | 2 => 7
  | 3 => 3
  | _ => 27
/-- which slots of an object hold references -/
def ow_isr : Nat → Nat → Bool := fun ci k => match ci with
  | 0 => ([0, 1, 2, 3] : List Nat).contains k
  | 1 => ([2, 3, 4, 5, 6] : List Nat).contains k
  | 2 => ([2, 3, 4, 5, 6] : List Nat).contains k
  | 3 => ([1, 2] : List Nat).contains k
  | _ => ([2, 4, 5, 6, 7, 10, 11, 12, 13, 14, 15, 17, 18, 19, 21, 22, 23, 24, 25, 26] : List Nat).contains k
/-- the cells, in the order in which they are made: (0, class), (1, ints), (2, booleans), (3, longs), (4, rows) -/
def ow_kds : List (Nat × Nat) := [(0, 0), (0, 1), (1, 4), (1, 5), (1, 5), (1, 5), (1, 5), (0, 2), (1, 24), (1, 24), (4, 3), (1, 24), (1, 24), (1, 24), (4, 5), (1, 24), (1, 24), (1, 24), (1, 24), (1, 24), (4, 5), (1, 24), (1, 24), (1, 24), (1, 24), (1, 24), (0, 2), (1, 24), (1, 24), (4, 3), (1, 24), (1, 24), (1, 24), (4, 5), (1, 24), (1, 24), (1, 24), (1, 24), (1, 24), (4, 5), (1, 24), (1, 24), (1, 24), (1, 24), (1, 24), (0, 3), (1, 4), (1, 5), (0, 4), (1, 4), (1, 5), (1, 5), (1, 5), (1, 5), (1, 24), (1, 24), (1, 72), (1, 120), (1, 120), (1, 5), (1, 4), (1, 5), (2, 24), (1, 24), (1, 24), (1, 72), (1, 120), (1, 120), (1, 5), (3, 1)]
def ow_kd (c : Nat) : Nat × Nat := ow_kds.getD c (9, 0)
/-- the words that a method may use, whatever the tables have learned since -/
def ow_ws : List Cond := lw_tbl.filter goodWord
theorem ow_good : GoodIn ow_ws ow_ws := fun w hw => ⟨hw, good_of_word (List.mem_filter.mp hw).2⟩
theorem tb1 {w : Cond} (i : Nat) (h : tables_1_1[i]? = some w) (g : goodWord w = true) : w ∈ ow_ws := List.mem_filter.mpr ⟨List.mem_append_right _ (List.mem_append_left _ (List.mem_of_getElem? h)), g⟩
theorem tb2 {w : Cond} (i : Nat) (h : tables_1_2[i]? = some w) (g : goodWord w = true) : w ∈ ow_ws := List.mem_filter.mpr ⟨List.mem_append_right _ (List.mem_append_right _ (List.mem_append_left _ (List.mem_of_getElem? h))), g⟩
theorem tb3 {w : Cond} (i : Nat) (h : tables_1_3[i]? = some w) (g : goodWord w = true) : w ∈ ow_ws := List.mem_filter.mpr ⟨List.mem_append_right _ (List.mem_append_right _ (List.mem_append_right _ (List.mem_append_left _ (List.mem_of_getElem? h)))), g⟩
theorem tb4 {w : Cond} (i : Nat) (h : tables_1_4[i]? = some w) (g : goodWord w = true) : w ∈ ow_ws := List.mem_filter.mpr ⟨List.mem_append_right _ (List.mem_append_right _ (List.mem_append_right _ (List.mem_append_right _ (List.mem_of_getElem? h)))), g⟩
theorem tbs {w : Cond} (i : Nat) (h : (k2_sels lw_privs)[i]? = some w) (g : goodWord w = true) : w ∈ ow_ws := List.mem_filter.mpr ⟨List.mem_append_left _ (List.mem_of_getElem? h), g⟩
theorem ow_in0 : ∀ w ∈ u_ws "OwnerRings" ow_T0 5, w ∈ ow_ws := by decide +kernel
theorem ow_nm0 : ∀ a, a < 5 → ∀ b, b < 5 → a ≠ b → (ow_T0 a).2.1 ≠ (ow_T0 b).2.1 := by decide +kernel
theorem ow_tyo0 : ∀ k, k < 5 → parseFieldDescriptor (ow_T0 k).2.2.1 = some (ow_ty0 k) := by decide +kernel
theorem ow_in1 : ∀ w ∈ u_ws "OwnerRings$Plan" ow_T1 7, w ∈ ow_ws := by decide +kernel
theorem ow_nm1 : ∀ a, a < 7 → ∀ b, b < 7 → a ≠ b → (ow_T1 a).2.1 ≠ (ow_T1 b).2.1 := by decide +kernel
theorem ow_tyo1 : ∀ k, k < 7 → parseFieldDescriptor (ow_T1 k).2.2.1 = some (ow_ty1 k) := by decide +kernel
theorem ow_in2 : ∀ w ∈ u_ws "OwnerRings$Base" ow_T2 7, w ∈ ow_ws := by decide +kernel
theorem ow_nm2 : ∀ a, a < 7 → ∀ b, b < 7 → a ≠ b → (ow_T2 a).2.1 ≠ (ow_T2 b).2.1 := by decide +kernel
theorem ow_tyo2 : ∀ k, k < 7 → parseFieldDescriptor (ow_T2 k).2.2.1 = some (ow_ty2 k) := by decide +kernel
theorem ow_in3 : ∀ w ∈ u_ws "OwnerRings$Stand" ow_T3 3, w ∈ ow_ws := by decide +kernel
theorem ow_nm3 : ∀ a, a < 3 → ∀ b, b < 3 → a ≠ b → (ow_T3 a).2.1 ≠ (ow_T3 b).2.1 := by decide +kernel
theorem ow_tyo3 : ∀ k, k < 3 → parseFieldDescriptor (ow_T3 k).2.2.1 = some (ow_ty3 k) := by decide +kernel
theorem ow_in4 : ∀ w ∈ u_ws "OwnerRingsModel" ow_T4 27, w ∈ ow_ws := by decide +kernel
theorem ow_nm4 : ∀ a, a < 27 → ∀ b, b < 27 → a ≠ b → (ow_T4 a).2.1 ≠ (ow_T4 b).2.1 := by decide +kernel
theorem ow_tyo4 : ∀ k, k < 27 → parseFieldDescriptor (ow_T4 k).2.2.1 = some (ow_ty4 k) := by decide +kernel
