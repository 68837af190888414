/-! names, laid by program (wip/whole/gen.py) -/
def wd_tbl : List Cond := lw_tbl.filter goodWord
theorem wd_in : ∀ w ∈ wd_tbl, w ∈ lw_tbl := fun w h => (List.mem_filter.mp h).1
theorem wd_good : ∀ w ∈ wd_tbl, goodWord w = true := fun w h => (List.mem_filter.mp h).2
def F_L : u_T := fun k => match k with
  | 0 => ("LogicalPairs", "kinds", "LLogicalPairs$Kinds;", true)
  | 1 => ("LogicalPairs", "segments", "LLogicalPairs$Segments;", true)
  | 2 => ("LogicalPairs", "indexes", "LLogicalPairs$Indexes;", true)
  | _ => ("LogicalPairs", "deletion", "LLogicalPairs$Deletion;", true)
def t_L : Nat → FieldType := fun k => match k with
  | 0 => .object "LogicalPairs$Kinds"
  | 1 => .object "LogicalPairs$Segments"
  | 2 => .object "LogicalPairs$Indexes"
  | _ => .object "LogicalPairs$Deletion"
theorem nm_L : ∀ a, a < 4 → ∀ b, b < 4 → a ≠ b → (F_L a).2.1 ≠ (F_L b).2.1 := by decide +kernel
theorem tk_L : ∀ k, k < 4 → parseFieldDescriptor (F_L k).2.2.1 = some (t_L k) := by decide +kernel
theorem in_L : ∀ w ∈ u_ws "LogicalPairs" F_L 4, w ∈ wd_tbl := by decide +kernel
def F_K : u_T := fun k => match k with
  | 0 => ("LogicalPairs$Kinds", "size", "I", false)
  | 1 => ("LogicalPairs$Kinds", "above", "[I", true)
  | 2 => ("LogicalPairs$Kinds", "logicalParent", "[I", true)
  | _ => ("LogicalPairs$Kinds", "rule", "[I", true)
def t_K : Nat → FieldType := fun k => match k with
  | 0 => .int
  | 1 => .array .int
  | 2 => .array .int
  | _ => .array .int
theorem nm_K : ∀ a, a < 4 → ∀ b, b < 4 → a ≠ b → (F_K a).2.1 ≠ (F_K b).2.1 := by decide +kernel
theorem tk_K : ∀ k, k < 4 → parseFieldDescriptor (F_K k).2.2.1 = some (t_K k) := by decide +kernel
theorem in_K : ∀ w ∈ u_ws "LogicalPairs$Kinds" F_K 4, w ∈ wd_tbl := by decide +kernel
def F_S : u_T := fun k => match k with
  | 0 => ("LogicalPairs$Segments", "size", "I", false)
  | 1 => ("LogicalPairs$Segments", "kindOf", "[I", true)
  | 2 => ("LogicalPairs$Segments", "aboveOf", "[I", true)
  | 3 => ("LogicalPairs$Segments", "keyOf", "[J", true)
  | 4 => ("LogicalPairs$Segments", "state", "[I", true)
  | 5 => ("LogicalPairs$Segments", "relatedTo", "[I", true)
  | 6 => ("LogicalPairs$Segments", "counted", "[I", true)
  | 7 => ("LogicalPairs$Segments", "said", "[I", true)
  | _ => ("LogicalPairs$Segments", "byKey", "[I", true)
def t_S : Nat → FieldType := fun k => match k with
  | 0 => .int
  | 1 => .array .int
  | 2 => .array .int
  | 3 => .array .long
  | 4 => .array .int
  | 5 => .array .int
  | 6 => .array .int
  | 7 => .array .int
  | _ => .array .int
theorem nm_S : ∀ a, a < 9 → ∀ b, b < 9 → a ≠ b → (F_S a).2.1 ≠ (F_S b).2.1 := by decide +kernel
theorem tk_S : ∀ k, k < 9 → parseFieldDescriptor (F_S k).2.2.1 = some (t_S k) := by decide +kernel
theorem in_S : ∀ w ∈ u_ws "LogicalPairs$Segments" F_S 9, w ∈ wd_tbl := by decide +kernel
def F_X : u_T := fun k => match k with
  | 0 => ("LogicalPairs$Indexes", "size", "I", false)
  | 1 => ("LogicalPairs$Indexes", "kindOf", "[I", true)
  | _ => ("LogicalPairs$Indexes", "sparse", "[Z", true)
def t_X : Nat → FieldType := fun k => match k with
  | 0 => .int
  | 1 => .array .int
  | _ => .array .boolean
theorem nm_X : ∀ a, a < 3 → ∀ b, b < 3 → a ≠ b → (F_X a).2.1 ≠ (F_X b).2.1 := by decide +kernel
theorem tk_X : ∀ k, k < 3 → parseFieldDescriptor (F_X k).2.2.1 = some (t_X k) := by decide +kernel
theorem in_X : ∀ w ∈ u_ws "LogicalPairs$Indexes" F_X 3, w ∈ wd_tbl := by decide +kernel
def F_D : u_T := fun k => match k with
  | 0 => ("LogicalPairs$Deletion", "kinds", "LLogicalPairs$Kinds;", true)
  | 1 => ("LogicalPairs$Deletion", "segments", "LLogicalPairs$Segments;", true)
  | 2 => ("LogicalPairs$Deletion", "goes", "[Z", true)
  | 3 => ("LogicalPairs$Deletion", "going", "[I", true)
  | _ => ("LogicalPairs$Deletion", "size", "I", false)
def t_D : Nat → FieldType := fun k => match k with
  | 0 => .object "LogicalPairs$Kinds"
  | 1 => .object "LogicalPairs$Segments"
  | 2 => .array .boolean
  | 3 => .array .int
  | _ => .int
theorem nm_D : ∀ a, a < 5 → ∀ b, b < 5 → a ≠ b → (F_D a).2.1 ≠ (F_D b).2.1 := by decide +kernel
theorem tk_D : ∀ k, k < 5 → parseFieldDescriptor (F_D k).2.2.1 = some (t_D k) := by decide +kernel
theorem in_D : ∀ w ∈ u_ws "LogicalPairs$Deletion" F_D 5, w ∈ wd_tbl := by decide +kernel
def F_M : u_T := fun k => match k with
  | 0 => ("LogicalPairsModel", "code", "I", false)
  | 1 => ("LogicalPairsModel", "kinds", "I", false)
  | 2 => ("LogicalPairsModel", "segments", "I", false)
  | 3 => ("LogicalPairsModel", "indexes", "I", false)
  | 4 => ("LogicalPairsModel", "aboves", "[I", true)
  | 5 => ("LogicalPairsModel", "parents", "[I", true)
  | 6 => ("LogicalPairsModel", "rules", "[I", true)
  | 7 => ("LogicalPairsModel", "of", "[I", true)
  | 8 => ("LogicalPairsModel", "unders", "[I", true)
  | 9 => ("LogicalPairsModel", "states", "[I", true)
  | 10 => ("LogicalPairsModel", "related", "[I", true)
  | 11 => ("LogicalPairsModel", "pointers", "[I", true)
  | 12 => ("LogicalPairsModel", "keys", "[J", true)
  | 13 => ("LogicalPairsModel", "goes", "[Z", true)
  | 14 => ("LogicalPairsModel", "changed", "[Z", true)
  | 15 => ("LogicalPairsModel", "indexKinds", "[I", true)
  | _ => ("LogicalPairsModel", "sparse", "[Z", true)
def t_M : Nat → FieldType := fun k => match k with
  | 0 => .int
  | 1 => .int
  | 2 => .int
  | 3 => .int
  | 4 => .array .int
  | 5 => .array .int
  | 6 => .array .int
  | 7 => .array .int
  | 8 => .array .int
  | 9 => .array .int
  | 10 => .array .int
  | 11 => .array .int
  | 12 => .array .long
  | 13 => .array .boolean
  | 14 => .array .boolean
  | 15 => .array .int
  | _ => .array .boolean
theorem nm_M : ∀ a, a < 17 → ∀ b, b < 17 → a ≠ b → (F_M a).2.1 ≠ (F_M b).2.1 := by decide +kernel
theorem tk_M : ∀ k, k < 17 → parseFieldDescriptor (F_M k).2.2.1 = some (t_M k) := by decide +kernel
theorem in_M : ∀ w ∈ u_ws "LogicalPairsModel" F_M 17, w ∈ wd_tbl := by decide +kernel
def cl_all : List vw_C := [("LogicalPairs", F_L, 4), ("LogicalPairs$Kinds", F_K, 4), ("LogicalPairs$Segments", F_S, 9), ("LogicalPairs$Indexes", F_X, 3), ("LogicalPairs$Deletion", F_D, 5), ("LogicalPairsModel", F_M, 17)]
def y_L_init : MethodName := ⟨"LogicalPairs", "<init>", "()V"⟩
def y_L_kind : MethodName := ⟨"LogicalPairs", "kind", "(I)I"⟩
def y_L_parent : MethodName := ⟨"LogicalPairs", "parent", "(III)I"⟩
def y_L_segment : MethodName := ⟨"LogicalPairs", "segment", "(IIJ)I"⟩
def y_L_mayBeUnder : MethodName := ⟨"LogicalPairs", "mayBeUnder", "(II)Z"⟩
def y_L_relate : MethodName := ⟨"LogicalPairs", "relate", "(II)I"⟩
def y_L_delete : MethodName := ⟨"LogicalPairs", "delete", "(I)I"⟩
def y_L_there : MethodName := ⟨"LogicalPairs", "there", "(II)Z"⟩
def y_L_child : MethodName := ⟨"LogicalPairs", "child", "(III)I"⟩
def y_L_physicalChild : MethodName := ⟨"LogicalPairs", "physicalChild", "(II)I"⟩
def y_L_count : MethodName := ⟨"LogicalPairs", "count", "(I)I"⟩
def y_L_index : MethodName := ⟨"LogicalPairs", "index", "(IZ)I"⟩
def y_L_entry : MethodName := ⟨"LogicalPairs", "entry", "(II)I"⟩
def y_L_isIn : MethodName := ⟨"LogicalPairs", "isIn", "(II)Z"⟩
def y_L_poke : MethodName := ⟨"LogicalPairs", "poke", "(III)I"⟩
def y_L_check : MethodName := ⟨"LogicalPairs", "check", "()I"⟩
def y_L_broken : MethodName := ⟨"LogicalPairs", "broken", "(I)I"⟩
def y_L_told : MethodName := ⟨"LogicalPairs", "told", "(I)I"⟩
def y_M_init : MethodName := ⟨"LogicalPairsModel", "<init>", "()V"⟩
def y_M_isKind : MethodName := ⟨"LogicalPairsModel", "isKind", "(I)Z"⟩
def y_M_isSegment : MethodName := ⟨"LogicalPairsModel", "isSegment", "(I)Z"⟩
def y_M_isThere : MethodName := ⟨"LogicalPairsModel", "isThere", "(I)Z"⟩
def y_M_kind : MethodName := ⟨"LogicalPairsModel", "kind", "(I)I"⟩
def y_M_parent : MethodName := ⟨"LogicalPairsModel", "parent", "(III)I"⟩
def y_M_countOf : MethodName := ⟨"LogicalPairsModel", "countOf", "(I)I"⟩
def y_M_truth : MethodName := ⟨"LogicalPairsModel", "truth", "(II)I"⟩
def y_M_right : MethodName := ⟨"LogicalPairsModel", "right", "(I)V"⟩
def y_M_segment : MethodName := ⟨"LogicalPairsModel", "segment", "(IIJ)I"⟩
def y_M_relate : MethodName := ⟨"LogicalPairsModel", "relate", "(II)I"⟩
def y_M_spread : MethodName := ⟨"LogicalPairsModel", "spread", "()Z"⟩
def y_M_delete : MethodName := ⟨"LogicalPairsModel", "delete", "(I)I"⟩
def y_M_there : MethodName := ⟨"LogicalPairsModel", "there", "(II)Z"⟩
def y_M_isAhead : MethodName := ⟨"LogicalPairsModel", "isAhead", "(III)Z"⟩
def y_M_isChild : MethodName := ⟨"LogicalPairsModel", "isChild", "(III)Z"⟩
def y_M_child : MethodName := ⟨"LogicalPairsModel", "child", "(III)I"⟩
def y_M_count : MethodName := ⟨"LogicalPairsModel", "count", "(I)I"⟩
def y_M_index : MethodName := ⟨"LogicalPairsModel", "index", "(IZ)I"⟩
def y_M_isIn : MethodName := ⟨"LogicalPairsModel", "isIn", "(II)Z"⟩
def y_M_entry : MethodName := ⟨"LogicalPairsModel", "entry", "(II)I"⟩
def y_M_poke : MethodName := ⟨"LogicalPairsModel", "poke", "(III)I"⟩
def y_M_isBroken : MethodName := ⟨"LogicalPairsModel", "isBroken", "(II)Z"⟩
def y_M_check : MethodName := ⟨"LogicalPairsModel", "check", "()I"⟩
def y_M_broken : MethodName := ⟨"LogicalPairsModel", "broken", "(I)I"⟩
def y_M_told : MethodName := ⟨"LogicalPairsModel", "told", "(I)I"⟩
def y_D_init : MethodName := ⟨"LogicalPairs$Deletion", "<init>", "(LLogicalPairs$Kinds;LLogicalPairs$Segments;)V"⟩
def y_D_gather : MethodName := ⟨"LogicalPairs$Deletion", "gather", "(I)V"⟩
def y_D_addThoseTakenBy : MethodName := ⟨"LogicalPairs$Deletion", "addThoseTakenBy", "(I)V"⟩
def y_D_add : MethodName := ⟨"LogicalPairs$Deletion", "add", "(I)V"⟩
def y_D_isRelatedByRule : MethodName := ⟨"LogicalPairs$Deletion", "isRelatedByRule", "(III)Z"⟩
def y_D_isBarred : MethodName := ⟨"LogicalPairs$Deletion", "isBarred", "()Z"⟩
def y_D_carryOut : MethodName := ⟨"LogicalPairs$Deletion", "carryOut", "()V"⟩
def y_X_init : MethodName := ⟨"LogicalPairs$Indexes", "<init>", "()V"⟩
def y_X_has : MethodName := ⟨"LogicalPairs$Indexes", "has", "(I)Z"⟩
def y_X_add : MethodName := ⟨"LogicalPairs$Indexes", "add", "(IZ)I"⟩
def y_K_init : MethodName := ⟨"LogicalPairs$Kinds", "<init>", "()V"⟩
def y_K_has : MethodName := ⟨"LogicalPairs$Kinds", "has", "(I)Z"⟩
def y_K_add : MethodName := ⟨"LogicalPairs$Kinds", "add", "(I)I"⟩
def y_S_init : MethodName := ⟨"LogicalPairs$Segments", "<init>", "()V"⟩
def y_S_has : MethodName := ⟨"LogicalPairs$Segments", "has", "(I)Z"⟩
def y_S_is : MethodName := ⟨"LogicalPairs$Segments", "is", "(II)Z"⟩
def y_S_isOneUnder : MethodName := ⟨"LogicalPairs$Segments", "isOneUnder", "(III)Z"⟩
def y_S_wereOf : MethodName := ⟨"LogicalPairs$Segments", "wereOf", "(I)Z"⟩
def y_S_hasKey : MethodName := ⟨"LogicalPairs$Segments", "hasKey", "(IIJ)Z"⟩
def y_S_add : MethodName := ⟨"LogicalPairs$Segments", "add", "(IIJ)I"⟩
def y_S_putByKey : MethodName := ⟨"LogicalPairs$Segments", "putByKey", "(I)V"⟩
def y_S_logicalChild : MethodName := ⟨"LogicalPairs$Segments", "logicalChild", "(II)I"⟩
def y_S_join : MethodName := ⟨"LogicalPairs$Segments", "join", "(II)V"⟩
def y_S_part : MethodName := ⟨"LogicalPairs$Segments", "part", "(I)V"⟩
def y_S_truth : MethodName := ⟨"LogicalPairs$Segments", "truth", "(II)I"⟩
def y_S_setRight : MethodName := ⟨"LogicalPairs$Segments", "setRight", "(I)V"⟩
def y_S_say : MethodName := ⟨"LogicalPairs$Segments", "say", "(III)I"⟩
def y_S_wrongPointers : MethodName := ⟨"LogicalPairs$Segments", "wrongPointers", "(I)I"⟩
def y_S_takeAway : MethodName := ⟨"LogicalPairs$Segments", "takeAway", "(I)V"⟩
def y_S_dropThoseWithoutCount : MethodName := ⟨"LogicalPairs$Segments", "dropThoseWithoutCount", "()V"⟩
def y_S_howMany : MethodName := ⟨"LogicalPairs$Segments", "howMany", "(I)I"⟩
def y_S_relations : MethodName := ⟨"LogicalPairs$Segments", "relations", "()I"⟩
