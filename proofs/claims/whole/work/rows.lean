section
-- ===== PART A: goes FIRST, ahead of the names: the tables' words, and 'selects' of the private methods out of them =====
/-- a private method of a class that the tables say can be made, by its rows of tables_1 -/
def lw_okq (q : MethodName × Nat) : Prop := (q.1.cls ≠ "java/lang/invoke/MethodHandle" ∧ q.1.cls ≠ "java/lang/invoke/VarHandle") ∧ Cond.instantiable q.1.cls q.2 ∈ tables_1 ∧ Cond.privateMethod q.1 ∈ tables_1 ∧ Cond.instanceMethod q.1 ∈ tables_1
theorem lw_p0 : lw_okq (⟨"LogicalPairs", "mayBeUnder", "(II)Z"⟩, 4) := ⟨⟨by decide +kernel, by decide +kernel⟩, List.mem_of_getElem? (i := 8) (by decide +kernel), List.mem_of_getElem? (i := 166) (by decide +kernel), List.mem_of_getElem? (i := 167) (by decide +kernel)⟩
theorem lw_p1 : lw_okq (⟨"LogicalPairs$Segments", "truth", "(II)I"⟩, 9) := ⟨⟨by decide +kernel, by decide +kernel⟩, List.mem_of_getElem? (i := 41) (by decide +kernel), List.mem_of_getElem? (i := 194) (by decide +kernel), List.mem_of_getElem? (i := 195) (by decide +kernel)⟩
theorem lw_p2 : lw_okq (⟨"LogicalPairs$Segments", "putByKey", "(I)V"⟩, 9) := ⟨⟨by decide +kernel, by decide +kernel⟩, List.mem_of_getElem? (i := 41) (by decide +kernel), List.mem_of_getElem? (i := 198) (by decide +kernel), List.mem_of_getElem? (i := 199) (by decide +kernel)⟩
theorem lw_p3 : lw_okq (⟨"LogicalPairs$Deletion", "add", "(I)V"⟩, 5) := ⟨⟨by decide +kernel, by decide +kernel⟩, List.mem_of_getElem? (i := 106) (by decide +kernel), List.mem_of_getElem? (i := 219) (by decide +kernel), List.mem_of_getElem? (i := 220) (by decide +kernel)⟩
theorem lw_p4 : lw_okq (⟨"LogicalPairs$Deletion", "addThoseTakenBy", "(I)V"⟩, 5) := ⟨⟨by decide +kernel, by decide +kernel⟩, List.mem_of_getElem? (i := 106) (by decide +kernel), List.mem_of_getElem? (i := 223) (by decide +kernel), List.mem_of_getElem? (i := 224) (by decide +kernel)⟩
theorem lw_p5 : lw_okq (⟨"LogicalPairs$Deletion", "isRelatedByRule", "(III)Z"⟩, 5) := ⟨⟨by decide +kernel, by decide +kernel⟩, List.mem_of_getElem? (i := 106) (by decide +kernel), List.mem_of_getElem? (i := 227) (by decide +kernel), List.mem_of_getElem? (i := 228) (by decide +kernel)⟩
theorem lw_p6 : lw_okq (⟨"LogicalPairs", "physicalChild", "(II)I"⟩, 4) := ⟨⟨by decide +kernel, by decide +kernel⟩, List.mem_of_getElem? (i := 8) (by decide +kernel), List.mem_of_getElem? (i := 260) (by decide +kernel), List.mem_of_getElem? (i := 261) (by decide +kernel)⟩
theorem lw_p7 : lw_okq (⟨"LogicalPairs", "isIn", "(II)Z"⟩, 4) := ⟨⟨by decide +kernel, by decide +kernel⟩, List.mem_of_getElem? (i := 8) (by decide +kernel), List.mem_of_getElem? (i := 289) (by decide +kernel), List.mem_of_getElem? (i := 290) (by decide +kernel)⟩
theorem lw_p8 : lw_okq (⟨"LogicalPairsModel", "isKind", "(I)Z"⟩, 17) := ⟨⟨by decide +kernel, by decide +kernel⟩, List.mem_of_getElem? (i := 325) (by decide +kernel), List.mem_of_getElem? (i := 387) (by decide +kernel), List.mem_of_getElem? (i := 388) (by decide +kernel)⟩
theorem lw_p9 : lw_okq (⟨"LogicalPairsModel", "isThere", "(I)Z"⟩, 17) := ⟨⟨by decide +kernel, by decide +kernel⟩, List.mem_of_getElem? (i := 325) (by decide +kernel), List.mem_of_getElem? (i := 399) (by decide +kernel), List.mem_of_getElem? (i := 400) (by decide +kernel)⟩
theorem lw_p10 : lw_okq (⟨"LogicalPairsModel", "isSegment", "(I)Z"⟩, 17) := ⟨⟨by decide +kernel, by decide +kernel⟩, List.mem_of_getElem? (i := 325) (by decide +kernel), List.mem_of_getElem? (i := 403) (by decide +kernel), List.mem_of_getElem? (i := 404) (by decide +kernel)⟩
theorem lw_p11 : lw_okq (⟨"LogicalPairsModel", "right", "(I)V"⟩, 17) := ⟨⟨by decide +kernel, by decide +kernel⟩, List.mem_of_getElem? (i := 325) (by decide +kernel), List.mem_of_getElem? (i := 407) (by decide +kernel), List.mem_of_getElem? (i := 408) (by decide +kernel)⟩
theorem lw_p12 : lw_okq (⟨"LogicalPairsModel", "truth", "(II)I"⟩, 17) := ⟨⟨by decide +kernel, by decide +kernel⟩, List.mem_of_getElem? (i := 325) (by decide +kernel), List.mem_of_getElem? (i := 411) (by decide +kernel), List.mem_of_getElem? (i := 412) (by decide +kernel)⟩
theorem lw_p13 : lw_okq (⟨"LogicalPairsModel", "countOf", "(I)I"⟩, 17) := ⟨⟨by decide +kernel, by decide +kernel⟩, List.mem_of_getElem? (i := 325) (by decide +kernel), List.mem_of_getElem? (i := 415) (by decide +kernel), List.mem_of_getElem? (i := 416) (by decide +kernel)⟩
theorem lw_p14 : lw_okq (⟨"LogicalPairsModel", "spread", "()Z"⟩, 17) := ⟨⟨by decide +kernel, by decide +kernel⟩, List.mem_of_getElem? (i := 325) (by decide +kernel), List.mem_of_getElem? (i := 427) (by decide +kernel), List.mem_of_getElem? (i := 428) (by decide +kernel)⟩
theorem lw_p15 : lw_okq (⟨"LogicalPairsModel", "isChild", "(III)Z"⟩, 17) := ⟨⟨by decide +kernel, by decide +kernel⟩, List.mem_of_getElem? (i := 325) (by decide +kernel), List.mem_of_getElem? (i := 439) (by decide +kernel), List.mem_of_getElem? (i := 440) (by decide +kernel)⟩
def lw_privs_1 : List (MethodName × Nat) := [(⟨"LogicalPairs", "mayBeUnder", "(II)Z"⟩, 4), (⟨"LogicalPairs$Segments", "truth", "(II)I"⟩, 9), (⟨"LogicalPairs$Segments", "putByKey", "(I)V"⟩, 9), (⟨"LogicalPairs$Deletion", "add", "(I)V"⟩, 5), (⟨"LogicalPairs$Deletion", "addThoseTakenBy", "(I)V"⟩, 5), (⟨"LogicalPairs$Deletion", "isRelatedByRule", "(III)Z"⟩, 5), (⟨"LogicalPairs", "physicalChild", "(II)I"⟩, 4), (⟨"LogicalPairs", "isIn", "(II)Z"⟩, 4), (⟨"LogicalPairsModel", "isKind", "(I)Z"⟩, 17), (⟨"LogicalPairsModel", "isThere", "(I)Z"⟩, 17), (⟨"LogicalPairsModel", "isSegment", "(I)Z"⟩, 17), (⟨"LogicalPairsModel", "right", "(I)V"⟩, 17), (⟨"LogicalPairsModel", "truth", "(II)I"⟩, 17), (⟨"LogicalPairsModel", "countOf", "(I)I"⟩, 17), (⟨"LogicalPairsModel", "spread", "()Z"⟩, 17), (⟨"LogicalPairsModel", "isChild", "(III)Z"⟩, 17)]
theorem lw_r1 : ∀ q ∈ lw_privs_1, lw_okq q := List.forall_mem_cons.mpr ⟨lw_p0, List.forall_mem_cons.mpr ⟨lw_p1, List.forall_mem_cons.mpr ⟨lw_p2, List.forall_mem_cons.mpr ⟨lw_p3, List.forall_mem_cons.mpr ⟨lw_p4, List.forall_mem_cons.mpr ⟨lw_p5, List.forall_mem_cons.mpr ⟨lw_p6, List.forall_mem_cons.mpr ⟨lw_p7, List.forall_mem_cons.mpr ⟨lw_p8, List.forall_mem_cons.mpr ⟨lw_p9, List.forall_mem_cons.mpr ⟨lw_p10, List.forall_mem_cons.mpr ⟨lw_p11, List.forall_mem_cons.mpr ⟨lw_p12, List.forall_mem_cons.mpr ⟨lw_p13, List.forall_mem_cons.mpr ⟨lw_p14, List.forall_mem_cons.mpr ⟨lw_p15, fun _ h => absurd h List.not_mem_nil⟩⟩⟩⟩⟩⟩⟩⟩⟩⟩⟩⟩⟩⟩⟩⟩
theorem lw_p16 : lw_okq (⟨"LogicalPairsModel", "isAhead", "(III)Z"⟩, 17) := ⟨⟨by decide +kernel, by decide +kernel⟩, List.mem_of_getElem? (i := 325) (by decide +kernel), List.mem_of_getElem? (i := 443) (by decide +kernel), List.mem_of_getElem? (i := 444) (by decide +kernel)⟩
theorem lw_p17 : lw_okq (⟨"LogicalPairsModel", "isIn", "(II)Z"⟩, 17) := ⟨⟨by decide +kernel, by decide +kernel⟩, List.mem_of_getElem? (i := 325) (by decide +kernel), List.mem_of_getElem? (i := 459) (by decide +kernel), List.mem_of_getElem? (i := 460) (by decide +kernel)⟩
theorem lw_p18 : lw_okq (⟨"LogicalPairsModel", "isBroken", "(II)Z"⟩, 17) := ⟨⟨by decide +kernel, by decide +kernel⟩, List.mem_of_getElem? (i := 325) (by decide +kernel), List.mem_of_getElem? (i := 471) (by decide +kernel), List.mem_of_getElem? (i := 472) (by decide +kernel)⟩
def lw_privs_2 : List (MethodName × Nat) := [(⟨"LogicalPairsModel", "isAhead", "(III)Z"⟩, 17), (⟨"LogicalPairsModel", "isIn", "(II)Z"⟩, 17), (⟨"LogicalPairsModel", "isBroken", "(II)Z"⟩, 17)]
theorem lw_r2 : ∀ q ∈ lw_privs_2, lw_okq q := List.forall_mem_cons.mpr ⟨lw_p16, List.forall_mem_cons.mpr ⟨lw_p17, List.forall_mem_cons.mpr ⟨lw_p18, fun _ h => absurd h List.not_mem_nil⟩⟩⟩
def lw_privs : List (MethodName × Nat) := lw_privs_1 ++ (lw_privs_2)
def lw_tbl : List Cond := k2_sels lw_privs ++ tables_1
theorem lw_privs_ok : ∀ q ∈ lw_privs, lw_okq q := by
  show ∀ q ∈ lw_privs_1 ++ (lw_privs_2), lw_okq q
  exact List.forall_mem_append.mpr ⟨lw_r1, lw_r2⟩
end
section
/-! names, laid by program (wip/whole/gen.py) -/
def wd_tbl : List Cond := lw_tbl.filter goodWord
theorem wd_in : ∀ w ∈ wd_tbl, w ∈ lw_tbl := fun w h => (List.mem_filter.mp h).1
theorem wd_good : ∀ w ∈ wd_tbl, goodWord w = true := fun w h => (List.mem_filter.mp h).2
def F_L : u_T := fun k => match k with
  | 0 => ("LogicalPairs", "kinds", "LLogicalPairs$Kinds;", true)
  | 1 => ("LogicalPairs", "segments", "LLogicalPairs$Segments;", true)
  | 2 => ("LogicalPairs", "indexes", "LLogicalPairs$Indexes;", true)
  | _ => ("LogicalPairs", "deletion", "LLogicalPairs$Deletion;", true)
def t_L : Nat → FieldType := fun k => match k with
  | 0 => .object "LogicalPairs$Kinds"
  | 1 => .object "LogicalPairs$Segments"
  | 2 => .object "LogicalPairs$Indexes"
  | _ => .object "LogicalPairs$Deletion"
theorem nm_L : ∀ a, a < 4 → ∀ b, b < 4 → a ≠ b → (F_L a).2.1 ≠ (F_L b).2.1 := by decide +kernel
theorem tk_L : ∀ k, k < 4 → parseFieldDescriptor (F_L k).2.2.1 = some (t_L k) := by decide +kernel
theorem in_L : ∀ w ∈ u_ws "LogicalPairs" F_L 4, w ∈ wd_tbl := by decide +kernel
def F_K : u_T := fun k => match k with
  | 0 => ("LogicalPairs$Kinds", "size", "I", false)
  | 1 => ("LogicalPairs$Kinds", "above", "[I", true)
  | 2 => ("LogicalPairs$Kinds", "logicalParent", "[I", true)
  | _ => ("LogicalPairs$Kinds", "rule", "[I", true)
def t_K : Nat → FieldType := fun k => match k with
  | 0 => .int
  | 1 => .array .int
  | 2 => .array .int
  | _ => .array .int
theorem nm_K : ∀ a, a < 4 → ∀ b, b < 4 → a ≠ b → (F_K a).2.1 ≠ (F_K b).2.1 := by decide +kernel
theorem tk_K : ∀ k, k < 4 → parseFieldDescriptor (F_K k).2.2.1 = some (t_K k) := by decide +kernel
theorem in_K : ∀ w ∈ u_ws "LogicalPairs$Kinds" F_K 4, w ∈ wd_tbl := by decide +kernel
def F_S : u_T := fun k => match k with
  | 0 => ("LogicalPairs$Segments", "size", "I", false)
  | 1 => ("LogicalPairs$Segments", "kindOf", "[I", true)
  | 2 => ("LogicalPairs$Segments", "aboveOf", "[I", true)
  | 3 => ("LogicalPairs$Segments", "keyOf", "[J", true)
  | 4 => ("LogicalPairs$Segments", "state", "[I", true)
  | 5 => ("LogicalPairs$Segments", "relatedTo", "[I", true)
  | 6 => ("LogicalPairs$Segments", "counted", "[I", true)
  | 7 => ("LogicalPairs$Segments", "said", "[I", true)
  | _ => ("LogicalPairs$Segments", "byKey", "[I", true)
def t_S : Nat → FieldType := fun k => match k with
  | 0 => .int
  | 1 => .array .int
  | 2 => .array .int
  | 3 => .array .long
  | 4 => .array .int
  | 5 => .array .int
  | 6 => .array .int
  | 7 => .array .int
  | _ => .array .int
theorem nm_S : ∀ a, a < 9 → ∀ b, b < 9 → a ≠ b → (F_S a).2.1 ≠ (F_S b).2.1 := by decide +kernel
theorem tk_S : ∀ k, k < 9 → parseFieldDescriptor (F_S k).2.2.1 = some (t_S k) := by decide +kernel
theorem in_S : ∀ w ∈ u_ws "LogicalPairs$Segments" F_S 9, w ∈ wd_tbl := by decide +kernel
def F_X : u_T := fun k => match k with
  | 0 => ("LogicalPairs$Indexes", "size", "I", false)
  | 1 => ("LogicalPairs$Indexes", "kindOf", "[I", true)
  | _ => ("LogicalPairs$Indexes", "sparse", "[Z", true)
def t_X : Nat → FieldType := fun k => match k with
  | 0 => .int
  | 1 => .array .int
  | _ => .array .boolean
theorem nm_X : ∀ a, a < 3 → ∀ b, b < 3 → a ≠ b → (F_X a).2.1 ≠ (F_X b).2.1 := by decide +kernel
theorem tk_X : ∀ k, k < 3 → parseFieldDescriptor (F_X k).2.2.1 = some (t_X k) := by decide +kernel
theorem in_X : ∀ w ∈ u_ws "LogicalPairs$Indexes" F_X 3, w ∈ wd_tbl := by decide +kernel
def F_D : u_T := fun k => match k with
  | 0 => ("LogicalPairs$Deletion", "kinds", "LLogicalPairs$Kinds;", true)
  | 1 => ("LogicalPairs$Deletion", "segments", "LLogicalPairs$Segments;", true)
  | 2 => ("LogicalPairs$Deletion", "goes", "[Z", true)
  | 3 => ("LogicalPairs$Deletion", "going", "[I", true)
  | _ => ("LogicalPairs$Deletion", "size", "I", false)
def t_D : Nat → FieldType := fun k => match k with
  | 0 => .object "LogicalPairs$Kinds"
  | 1 => .object "LogicalPairs$Segments"
  | 2 => .array .boolean
  | 3 => .array .int
  | _ => .int
theorem nm_D : ∀ a, a < 5 → ∀ b, b < 5 → a ≠ b → (F_D a).2.1 ≠ (F_D b).2.1 := by decide +kernel
theorem tk_D : ∀ k, k < 5 → parseFieldDescriptor (F_D k).2.2.1 = some (t_D k) := by decide +kernel
theorem in_D : ∀ w ∈ u_ws "LogicalPairs$Deletion" F_D 5, w ∈ wd_tbl := by decide +kernel
def F_M : u_T := fun k => match k with
  | 0 => ("LogicalPairsModel", "code", "I", false)
  | 1 => ("LogicalPairsModel", "kinds", "I", false)
  | 2 => ("LogicalPairsModel", "segments", "I", false)
  | 3 => ("LogicalPairsModel", "indexes", "I", false)
  | 4 => ("LogicalPairsModel", "aboves", "[I", true)
  | 5 => ("LogicalPairsModel", "parents", "[I", true)
  | 6 => ("LogicalPairsModel", "rules", "[I", true)
  | 7 => ("LogicalPairsModel", "of", "[I", true)
  | 8 => ("LogicalPairsModel", "unders", "[I", true)
  | 9 => ("LogicalPairsModel", "states", "[I", true)
  | 10 => ("LogicalPairsModel", "related", "[I", true)
  | 11 => ("LogicalPairsModel", "pointers", "[I", true)
  | 12 => ("LogicalPairsModel", "keys", "[J", true)
  | 13 => ("LogicalPairsModel", "goes", "[Z", true)
  | 14 => ("LogicalPairsModel", "changed", "[Z", true)
  | 15 => ("LogicalPairsModel", "indexKinds", "[I", true)
  | _ => ("LogicalPairsModel", "sparse", "[Z", true)
def t_M : Nat → FieldType := fun k => match k with
  | 0 => .int
  | 1 => .int
  | 2 => .int
  | 3 => .int
  | 4 => .array .int
  | 5 => .array .int
  | 6 => .array .int
  | 7 => .array .int
  | 8 => .array .int
  | 9 => .array .int
  | 10 => .array .int
  | 11 => .array .int
  | 12 => .array .long
  | 13 => .array .boolean
  | 14 => .array .boolean
  | 15 => .array .int
  | _ => .array .boolean
theorem nm_M : ∀ a, a < 17 → ∀ b, b < 17 → a ≠ b → (F_M a).2.1 ≠ (F_M b).2.1 := by decide +kernel
theorem tk_M : ∀ k, k < 17 → parseFieldDescriptor (F_M k).2.2.1 = some (t_M k) := by decide +kernel
theorem in_M : ∀ w ∈ u_ws "LogicalPairsModel" F_M 17, w ∈ wd_tbl := by decide +kernel
def cl_all : List vw_C := [("LogicalPairs", F_L, 4), ("LogicalPairs$Kinds", F_K, 4), ("LogicalPairs$Segments", F_S, 9), ("LogicalPairs$Indexes", F_X, 3), ("LogicalPairs$Deletion", F_D, 5), ("LogicalPairsModel", F_M, 17)]
def y_L_init : MethodName := ⟨"LogicalPairs", "<init>", "()V"⟩
def y_L_kind : MethodName := ⟨"LogicalPairs", "kind", "(I)I"⟩
def y_L_parent : MethodName := ⟨"LogicalPairs", "parent", "(III)I"⟩
def y_L_segment : MethodName := ⟨"LogicalPairs", "segment", "(IIJ)I"⟩
def y_L_mayBeUnder : MethodName := ⟨"LogicalPairs", "mayBeUnder", "(II)Z"⟩
def y_L_relate : MethodName := ⟨"LogicalPairs", "relate", "(II)I"⟩
def y_L_delete : MethodName := ⟨"LogicalPairs", "delete", "(I)I"⟩
def y_L_there : MethodName := ⟨"LogicalPairs", "there", "(II)Z"⟩
def y_L_child : MethodName := ⟨"LogicalPairs", "child", "(III)I"⟩
def y_L_physicalChild : MethodName := ⟨"LogicalPairs", "physicalChild", "(II)I"⟩
def y_L_count : MethodName := ⟨"LogicalPairs", "count", "(I)I"⟩
def y_L_index : MethodName := ⟨"LogicalPairs", "index", "(IZ)I"⟩
def y_L_entry : MethodName := ⟨"LogicalPairs", "entry", "(II)I"⟩
def y_L_isIn : MethodName := ⟨"LogicalPairs", "isIn", "(II)Z"⟩
def y_L_poke : MethodName := ⟨"LogicalPairs", "poke", "(III)I"⟩
def y_L_check : MethodName := ⟨"LogicalPairs", "check", "()I"⟩
def y_L_broken : MethodName := ⟨"LogicalPairs", "broken", "(I)I"⟩
def y_L_told : MethodName := ⟨"LogicalPairs", "told", "(I)I"⟩
def y_M_init : MethodName := ⟨"LogicalPairsModel", "<init>", "()V"⟩
def y_M_isKind : MethodName := ⟨"LogicalPairsModel", "isKind", "(I)Z"⟩
def y_M_isSegment : MethodName := ⟨"LogicalPairsModel", "isSegment", "(I)Z"⟩
def y_M_isThere : MethodName := ⟨"LogicalPairsModel", "isThere", "(I)Z"⟩
def y_M_kind : MethodName := ⟨"LogicalPairsModel", "kind", "(I)I"⟩
def y_M_parent : MethodName := ⟨"LogicalPairsModel", "parent", "(III)I"⟩
def y_M_countOf : MethodName := ⟨"LogicalPairsModel", "countOf", "(I)I"⟩
def y_M_truth : MethodName := ⟨"LogicalPairsModel", "truth", "(II)I"⟩
def y_M_right : MethodName := ⟨"LogicalPairsModel", "right", "(I)V"⟩
def y_M_segment : MethodName := ⟨"LogicalPairsModel", "segment", "(IIJ)I"⟩
def y_M_relate : MethodName := ⟨"LogicalPairsModel", "relate", "(II)I"⟩
def y_M_spread : MethodName := ⟨"LogicalPairsModel", "spread", "()Z"⟩
def y_M_delete : MethodName := ⟨"LogicalPairsModel", "delete", "(I)I"⟩
def y_M_there : MethodName := ⟨"LogicalPairsModel", "there", "(II)Z"⟩
def y_M_isAhead : MethodName := ⟨"LogicalPairsModel", "isAhead", "(III)Z"⟩
def y_M_isChild : MethodName := ⟨"LogicalPairsModel", "isChild", "(III)Z"⟩
def y_M_child : MethodName := ⟨"LogicalPairsModel", "child", "(III)I"⟩
def y_M_count : MethodName := ⟨"LogicalPairsModel", "count", "(I)I"⟩
def y_M_index : MethodName := ⟨"LogicalPairsModel", "index", "(IZ)I"⟩
def y_M_isIn : MethodName := ⟨"LogicalPairsModel", "isIn", "(II)Z"⟩
def y_M_entry : MethodName := ⟨"LogicalPairsModel", "entry", "(II)I"⟩
def y_M_poke : MethodName := ⟨"LogicalPairsModel", "poke", "(III)I"⟩
def y_M_isBroken : MethodName := ⟨"LogicalPairsModel", "isBroken", "(II)Z"⟩
def y_M_check : MethodName := ⟨"LogicalPairsModel", "check", "()I"⟩
def y_M_broken : MethodName := ⟨"LogicalPairsModel", "broken", "(I)I"⟩
def y_M_told : MethodName := ⟨"LogicalPairsModel", "told", "(I)I"⟩
def y_D_init : MethodName := ⟨"LogicalPairs$Deletion", "<init>", "(LLogicalPairs$Kinds;LLogicalPairs$Segments;)V"⟩
def y_D_gather : MethodName := ⟨"LogicalPairs$Deletion", "gather", "(I)V"⟩
def y_D_addThoseTakenBy : MethodName := ⟨"LogicalPairs$Deletion", "addThoseTakenBy", "(I)V"⟩
def y_D_add : MethodName := ⟨"LogicalPairs$Deletion", "add", "(I)V"⟩
def y_D_isRelatedByRule : MethodName := ⟨"LogicalPairs$Deletion", "isRelatedByRule", "(III)Z"⟩
def y_D_isBarred : MethodName := ⟨"LogicalPairs$Deletion", "isBarred", "()Z"⟩
def y_D_carryOut : MethodName := ⟨"LogicalPairs$Deletion", "carryOut", "()V"⟩
def y_X_init : MethodName := ⟨"LogicalPairs$Indexes", "<init>", "()V"⟩
def y_X_has : MethodName := ⟨"LogicalPairs$Indexes", "has", "(I)Z"⟩
def y_X_add : MethodName := ⟨"LogicalPairs$Indexes", "add", "(IZ)I"⟩
def y_K_init : MethodName := ⟨"LogicalPairs$Kinds", "<init>", "()V"⟩
def y_K_has : MethodName := ⟨"LogicalPairs$Kinds", "has", "(I)Z"⟩
def y_K_add : MethodName := ⟨"LogicalPairs$Kinds", "add", "(I)I"⟩
def y_S_init : MethodName := ⟨"LogicalPairs$Segments", "<init>", "()V"⟩
def y_S_has : MethodName := ⟨"LogicalPairs$Segments", "has", "(I)Z"⟩
def y_S_is : MethodName := ⟨"LogicalPairs$Segments", "is", "(II)Z"⟩
def y_S_isOneUnder : MethodName := ⟨"LogicalPairs$Segments", "isOneUnder", "(III)Z"⟩
def y_S_wereOf : MethodName := ⟨"LogicalPairs$Segments", "wereOf", "(I)Z"⟩
def y_S_hasKey : MethodName := ⟨"LogicalPairs$Segments", "hasKey", "(IIJ)Z"⟩
def y_S_add : MethodName := ⟨"LogicalPairs$Segments", "add", "(IIJ)I"⟩
def y_S_putByKey : MethodName := ⟨"LogicalPairs$Segments", "putByKey", "(I)V"⟩
def y_S_logicalChild : MethodName := ⟨"LogicalPairs$Segments", "logicalChild", "(II)I"⟩
def y_S_join : MethodName := ⟨"LogicalPairs$Segments", "join", "(II)V"⟩
def y_S_part : MethodName := ⟨"LogicalPairs$Segments", "part", "(I)V"⟩
def y_S_truth : MethodName := ⟨"LogicalPairs$Segments", "truth", "(II)I"⟩
def y_S_setRight : MethodName := ⟨"LogicalPairs$Segments", "setRight", "(I)V"⟩
def y_S_say : MethodName := ⟨"LogicalPairs$Segments", "say", "(III)I"⟩
def y_S_wrongPointers : MethodName := ⟨"LogicalPairs$Segments", "wrongPointers", "(I)I"⟩
def y_S_takeAway : MethodName := ⟨"LogicalPairs$Segments", "takeAway", "(I)V"⟩
def y_S_dropThoseWithoutCount : MethodName := ⟨"LogicalPairs$Segments", "dropThoseWithoutCount", "()V"⟩
def y_S_howMany : MethodName := ⟨"LogicalPairs$Segments", "howMany", "(I)I"⟩
def y_S_relations : MethodName := ⟨"LogicalPairs$Segments", "relations", "()I"⟩
end
section
/-! THE ABSTRACT MACHINE: a method's blocks as lists of instructions, run over a world whose cells have places; what a run needs is a formula ('ak_ev'); a formula that holds gives the machine's run ('ak_sound'). -/
abbrev ak_S : Type := (Nat → Nat → Int32) × (Nat → Nat → Int64)
abbrev ak_C : Type := (Nat × List (Option Nat)) ⊕ (FieldType × Nat)
abbrev ak_I : Type := Nat × Jvm.ClassFile.Instr × Nat × Nat × Int32 × List (Int32 × Nat)
abbrev ak_Ls : Type := List (Option Value)
abbrev ak_P : Type := List Value → ak_S → (Option Value → ak_S → Prop) → Prop
abbrev ak_KK : Type := Nat → ak_Ls → List Value → ak_S → Prop
def ak_nth {α : Type} : List α → Nat → Option α
  | [], _ => none
  | a :: _, 0 => some a
  | _ :: l, n + 1 => ak_nth l n
def ak_set {α : Type} : List α → Nat → α → List α
  | [], _, _ => []
  | _ :: l, 0, v => v :: l
  | a :: l, n + 1, v => a :: ak_set l n v
theorem ak_nth_lt {α : Type} : ∀ {l : List α} {k : Nat} {x : α}, ak_nth l k = some x → k < l.length
  | [], _, _, h => by cases h
  | _ :: _, 0, _, _ => Nat.succ_pos _
  | _ :: l, k + 1, _, h => Nat.succ_lt_succ (ak_nth_lt (l := l) (k := k) h)
theorem ak_nth_get {α : Type} : ∀ (l : List α) (k : Nat), ak_nth l k = l[k]?
  | [], _ => rfl
  | _ :: _, 0 => rfl
  | _ :: l, k + 1 => by rw [List.getElem?_cons_succ]; exact ak_nth_get l k
theorem ak_nth_set {α : Type} : ∀ (l : List α) (i j : Nat) (v : α), ak_nth (ak_set l i v) j = if j = i then (if i < l.length then some v else none) else ak_nth l j
  | [], i, j, v => by simp [ak_set, ak_nth]
  | a :: l, 0, 0, v => by simp [ak_set, ak_nth]
  | a :: l, 0, j + 1, v => by simp [ak_set, ak_nth]
  | a :: l, i + 1, 0, v => by simp [ak_set, ak_nth]
  | a :: l, i + 1, j + 1, v => by simp [ak_set, ak_nth, ak_nth_set l i j v]
/-- an abstract value: a reference is a place -/
def ak_v (ad : Nat → Nat) (v : Value) : Value := match v with
  | .ref k => .ref (ad k)
  | w => w
theorem ak_v_cat (ad : Nat → Nat) (v : Value) : (ak_v ad v).category = v.category := by cases v <;> rfl
def ak_p1 (s : ak_S) (k j : Nat) (x : Int32) : ak_S := (fun k' => if k' = k then upd (s.1 k) j x else s.1 k', s.2)
def ak_p2 (s : ak_S) (k j : Nat) (x : Int64) : ak_S := (s.1, fun k' => if k' = k then vp_updL (s.2 k) j x else s.2 k')
/-! the world -/
def ak_fs (ad : Nat → Nat) (g : Nat → Int32) : Nat → List (Option Nat) → List Value
  | _, [] => []
  | f, some q :: r => Value.ref (ad q) :: ak_fs ad g (f + 1) r
  | f, none :: r => Value.int (g f) :: ak_fs ad g (f + 1) r
def ak_e (ad : Nat → Nat) (tyc : Nat → ClassId) (s : ak_S) (k : Nat) (x : ak_C) : va_E := match x with
  | .inl (ci, fs) => .inr (ci, ak_fs ad (s.1 k) 0 fs)
  | .inr (.long, n) => .inl (tyc k, n, .inr (.inl (s.2 k)))
  | .inr (_, n) => .inl (tyc k, n, .inl (s.1 k))
def ak_W (ad : Nat → Nat) (tyc : Nat → ClassId) (s : ak_S) : Nat → List ak_C → va_W
  | _, [] => []
  | k, x :: r => (ad k, ak_e ad tyc s k x) :: ak_W ad tyc s (k + 1) r
theorem ak_W_at {ad : Nat → Nat} {tyc : Nat → ClassId} {s : ak_S} : ∀ (lay : List ak_C) (k0 k : Nat), (ak_W ad tyc s k0 lay)[k]? = (ak_nth lay k).map (fun x => (ad (k0 + k), ak_e ad tyc s (k0 + k) x))
  | [], _, _ => by simp [ak_W, ak_nth]
  | x :: r, k0, 0 => by simp [ak_W, ak_nth]
  | x :: r, k0, k + 1 => by
    rw [ak_W, List.getElem?_cons_succ, ak_W_at r (k0 + 1) k, show k0 + 1 + k = k0 + (k + 1) by omega]
    rfl
theorem ak_W_at0 {ad : Nat → Nat} {tyc : Nat → ClassId} {s : ak_S} {lay : List ak_C} {k : Nat} {x : ak_C} (h : ak_nth lay k = some x) : (ak_W ad tyc s 0 lay)[k]? = some (ad k, ak_e ad tyc s k x) := by
  rw [ak_W_at, h, Nat.zero_add]; rfl
theorem ak_W_len {ad : Nat → Nat} {tyc : Nat → ClassId} {s : ak_S} : ∀ (lay : List ak_C) (k0 : Nat), (ak_W ad tyc s k0 lay).length = lay.length
  | [], _ => rfl
  | _ :: r, k0 => by rw [ak_W, List.length_cons, ak_W_len r (k0 + 1), List.length_cons]
theorem ak_W_inv {ad : Nat → Nat} {tyc : Nat → ClassId} {s : ak_S} {lay : List ak_C} {k : Nat} {q : Nat × va_E} (h : (ak_W ad tyc s 0 lay)[k]? = some q) : k < lay.length ∧ q.1 = ad k := by
  rw [ak_W_at, Nat.zero_add] at h
  cases hx : ak_nth lay k with
  | none => rw [hx] at h; cases h
  | some x => rw [hx] at h; cases h; exact ⟨ak_nth_lt hx, rfl⟩
def ak_Inj (lay : List ak_C) (ad : Nat → Nat) : Prop := ∀ i j, i < lay.length → j < lay.length → ad i = ad j → i = j
theorem ak_D {lay : List ak_C} {ad : Nat → Nat} {tyc : Nat → ClassId} {s : ak_S} {A : Nat → Prop} (hi : ak_Inj lay ad) (hA : ∀ k, k < lay.length → A (ad k)) : va_D A (ak_W ad tyc s 0 lay) := by
  refine ⟨fun i j p q h1 h2 h3 => ?_, fun k q h => ?_⟩
  · obtain ⟨a1, a2⟩ := ak_W_inv h1
    obtain ⟨b1, b2⟩ := ak_W_inv h2
    exact hi i j a1 b1 (by rw [← a2, ← b2]; exact h3)
  · obtain ⟨a1, a2⟩ := ak_W_inv h
    rw [a2]; exact hA k a1
theorem ak_W_set {lay : List ak_C} {ad : Nat → Nat} {tyc : Nat → ClassId} {s s' : ak_S} {k : Nat} {x : ak_C} {e' : va_E} (hk : ak_nth lay k = some x) (h1 : ak_e ad tyc s' k x = e') (h2 : ∀ j y, j ≠ k → ak_e ad tyc s' j y = ak_e ad tyc s j y) : (ak_W ad tyc s 0 lay).set k (ad k, e') = ak_W ad tyc s' 0 lay := by
  apply List.ext_getElem?
  intro j
  rw [List.getElem?_set, ak_W_at, ak_W_at, ak_W_len, Nat.zero_add]
  by_cases hj : k = j
  · subst hj
    rw [if_pos rfl, if_pos (ak_nth_lt hk), hk, ← h1]
    rfl
  · rw [if_neg hj]
    cases ak_nth lay j with
    | none => rfl
    | some y =>
      show some (ad j, ak_e ad tyc s j y) = some (ad j, ak_e ad tyc s' j y)
      rw [h2 j y (Ne.symm hj)]
theorem ak_fs_at {ad : Nat → Nat} {g : Nat → Int32} : ∀ (fs : List (Option Nat)) (f0 f : Nat), (ak_fs ad g f0 fs)[f]? = (ak_nth fs f).map (fun o => match o with | some q => Value.ref (ad q) | none => Value.int (g (f0 + f)))
  | [], _, _ => by simp [ak_fs, ak_nth]
  | some q :: r, f0, 0 => by simp [ak_fs, ak_nth]
  | none :: r, f0, 0 => by simp [ak_fs, ak_nth]
  | some q :: r, f0, f + 1 => by
    rw [ak_fs, List.getElem?_cons_succ, ak_fs_at r (f0 + 1) f, show f0 + 1 + f = f0 + (f + 1) by omega]
    rfl
  | none :: r, f0, f + 1 => by
    rw [ak_fs, List.getElem?_cons_succ, ak_fs_at r (f0 + 1) f, show f0 + 1 + f = f0 + (f + 1) by omega]
    rfl
theorem ak_fs_len {ad : Nat → Nat} {g : Nat → Int32} : ∀ (fs : List (Option Nat)) (f0 : Nat), (ak_fs ad g f0 fs).length = fs.length
  | [], _ => rfl
  | some _ :: r, f0 => by rw [ak_fs, List.length_cons, ak_fs_len r (f0 + 1), List.length_cons]
  | none :: r, f0 => by rw [ak_fs, List.length_cons, ak_fs_len r (f0 + 1), List.length_cons]
theorem ak_fs_set {ad : Nat → Nat} {g : Nat → Int32} {x : Int32} {fs : List (Option Nat)} {f : Nat} (h : ak_nth fs f = some none) : (ak_fs ad g 0 fs).set f (.int x) = ak_fs ad (upd g f x) 0 fs := by
  apply List.ext_getElem?
  intro j
  rw [List.getElem?_set, ak_fs_at, ak_fs_at, ak_fs_len, Nat.zero_add]
  by_cases hj : f = j
  · subst hj
    rw [if_pos rfl, if_pos (ak_nth_lt h), h]
    simp [upd]
  · rw [if_neg hj]
    cases ak_nth fs j with
    | none => rfl
    | some o => cases o with
      | some q => rfl
      | none => simp [upd, Ne.symm hj]
/-! the tables -/
def ak_K (D : va_G) (cl : List vw_C) (lay : List ak_C) (tyc : Nat → ClassId) (U : State) : Prop := va_K D cl [] U ∧ ∀ k ty n, ak_nth lay k = some (.inr (ty, n)) → ArrOfT U (tyc k) ty ∧ va_RA U (tyc k) ty
theorem ak_K.moved {D : va_G} {cl : List vw_C} {lay : List ak_C} {tyc : Nat → ClassId} {u U : State} (hvm : u.vm.Alike U.vm) (h : ak_K D cl lay tyc u) : ak_K D cl lay tyc U :=
  ⟨va_K.moved hvm h.1, fun k ty n hk => ⟨arrOfT_moved hvm (h.2 k ty n hk).1, (h.2 k ty n hk).2.moved hvm⟩⟩
theorem ak_K.one {D : va_G} {cl : List vw_C} {lay : List ak_C} {tyc : Nat → ClassId} {U : State} {k n : Nat} {ty : FieldType} (h : ak_K D cl lay tyc U) (hk : ak_nth lay k = some (.inr (ty, n))) : va_K D cl [(tyc k, ty)] U :=
  ⟨h.1.1, fun j q hj => by
    cases j with
    | zero => cases hj; exact h.2 k ty n hk
    | succ j => simp at hj⟩
/-! the locals -/
def ak_LH (ad : Nat → Nat) (lsA : Array Slot) (nL : Nat) (ls : ak_Ls) : Prop := lsA.size = nL ∧ lv_wf lsA ∧ ∀ i v, ak_nth ls i = some (some v) → lsA[i]? = some (.val (ak_v ad v))
def ak_ps (ad : Nat → Nat) : Nat → ak_Ls → List (Nat × Value)
  | _, [] => []
  | i, none :: r => ak_ps ad (i + 1) r
  | i, some v :: r => (i, ak_v ad v) :: ak_ps ad (i + 1) r
theorem ak_ps_of {ad : Nat → Nat} : ∀ (ls : ak_Ls) (i j : Nat) (v : Value), ak_nth ls j = some (some v) → (i + j, ak_v ad v) ∈ ak_ps ad i ls
  | [], _, _, _, h => by cases h
  | none :: r, i, 0, v, h => by simp [ak_nth] at h
  | some u :: r, i, 0, v, h => by
    simp only [ak_nth, Option.some.injEq] at h
    subst h
    exact List.mem_cons_self
  | none :: r, i, j + 1, v, h => by
    have := ak_ps_of (ad := ad) r (i + 1) j v h
    rw [show i + 1 + j = i + (j + 1) by omega] at this
    exact this
  | some u :: r, i, j + 1, v, h => by
    have := ak_ps_of (ad := ad) r (i + 1) j v h
    rw [show i + 1 + j = i + (j + 1) by omega] at this
    exact List.mem_cons_of_mem _ this
theorem ak_ps_in {ad : Nat → Nat} : ∀ (ls : ak_Ls) (i : Nat) (q : Nat × Value), q ∈ ak_ps ad i ls → ∃ j v, ak_nth ls j = some (some v) ∧ q = (i + j, ak_v ad v)
  | [], _, _, h => by cases h
  | none :: r, i, q, h => by
    obtain ⟨j, v, h1, h2⟩ := ak_ps_in r (i + 1) q h
    exact ⟨j + 1, v, h1, by rw [h2, show i + 1 + j = i + (j + 1) by omega]⟩
  | some u :: r, i, q, h => by
    rcases List.mem_cons.mp h with h | h
    · exact ⟨0, u, rfl, h⟩
    · obtain ⟨j, v, h1, h2⟩ := ak_ps_in r (i + 1) q h
      exact ⟨j + 1, v, h1, by rw [h2, show i + 1 + j = i + (j + 1) by omega]⟩
theorem ak_LH.has {ad : Nat → Nat} {lsA : Array Slot} {nL : Nat} {ls : ak_Ls} (h : ak_LH ad lsA nL ls) : lv_has lsA nL (ak_ps ad 0 ls) := by
  refine ⟨h.1, h.2.1, fun q hq => ?_⟩
  obtain ⟨j, v, h1, h2⟩ := ak_ps_in ls 0 q hq
  rw [h2, Nat.zero_add]
  exact h.2.2 j v h1
/-- no long begins in the place before -/
def ak_ok1 (ls : ak_Ls) (i : Nat) : Prop := match i with
  | 0 => True
  | n + 1 => match ak_nth ls n with
    | some (some (.long _)) => False
    | some (some (.double _)) => False
    | _ => True
theorem ak_ok1_spec {ls : ak_Ls} {i j : Nat} {v : Value} (h : ak_ok1 ls i) (hj : ak_nth ls j = some (some v)) (hi : j + 1 = i) : ¬ v.category = 2 := by
  subst hi
  simp only [ak_ok1, hj] at h
  cases v <;> simp [Value.category] at h ⊢
theorem ak_LH.of1 {ad : Nat → Nat} {ls' : Array Slot} {nL i : Nat} {ls : ak_Ls} {u : Value} (hok : ak_ok1 ls i) (h : lv_has ls' nL ((i, ak_v ad u) :: (ak_ps ad 0 ls).filter (fun q => !(q.1 == i) && !(q.1 + 1 == i && q.2.category == 2)))) : ak_LH ad ls' nL (ak_set ls i (some u)) := by
  refine ⟨h.1, h.2.1, fun j v hj => ?_⟩
  rw [ak_nth_set] at hj
  by_cases e : j = i
  · rw [if_pos e] at hj
    split at hj
    · simp only [Option.some.injEq] at hj
      subst hj; subst e
      exact h.2.2 _ List.mem_cons_self
    · cases hj
  · rw [if_neg e] at hj
    have h1 := ak_ps_of (ad := ad) ls 0 j v hj
    rw [Nat.zero_add] at h1
    refine h.2.2 (j, ak_v ad v) (List.mem_cons_of_mem _ (List.mem_filter.mpr ⟨h1, ?_⟩))
    have h2 : ¬ (j + 1 = i ∧ (ak_v ad v).category = 2) := fun q => ak_ok1_spec hok hj q.1 (by rw [← ak_v_cat ad]; exact q.2)
    simp only [Bool.and_eq_true, Bool.not_eq_true', beq_eq_false_iff_ne, ne_eq, Bool.and_eq_false_iff]
    refine ⟨e, ?_⟩
    by_cases q : j + 1 = i
    · exact Or.inr (fun z => h2 ⟨q, z⟩)
    · exact Or.inl q
theorem ak_LH.of2 {ad : Nat → Nat} {ls' : Array Slot} {nL i : Nat} {ls : ak_Ls} {u : Value} (hok : ak_ok1 ls i) (h : lv_has ls' nL ((i, ak_v ad u) :: (ak_ps ad 0 ls).filter (fun q => !(q.1 == i) && (!(q.1 == i + 1) && !(q.1 + 1 == i && q.2.category == 2))))) : ak_LH ad ls' nL (ak_set (ak_set ls i (some u)) (i + 1) none) := by
  refine ⟨h.1, h.2.1, fun j v hj => ?_⟩
  rw [ak_nth_set] at hj
  by_cases e1 : j = i + 1
  · rw [if_pos e1] at hj
    split at hj <;> simp at hj
  · rw [if_neg e1, ak_nth_set] at hj
    by_cases e : j = i
    · rw [if_pos e] at hj
      split at hj
      · simp only [Option.some.injEq] at hj
        subst hj; subst e
        exact h.2.2 _ List.mem_cons_self
      · cases hj
    · rw [if_neg e] at hj
      have h1 := ak_ps_of (ad := ad) ls 0 j v hj
      rw [Nat.zero_add] at h1
      refine h.2.2 (j, ak_v ad v) (List.mem_cons_of_mem _ (List.mem_filter.mpr ⟨h1, ?_⟩))
      have h2 : ¬ (j + 1 = i ∧ (ak_v ad v).category = 2) := fun q => ak_ok1_spec hok hj q.1 (by rw [← ak_v_cat ad]; exact q.2)
      simp only [Bool.and_eq_true, Bool.not_eq_true', beq_eq_false_iff_ne, ne_eq, Bool.and_eq_false_iff]
      refine ⟨e, e1, ?_⟩
      by_cases q : j + 1 = i
      · exact Or.inr (fun z => h2 ⟨q, z⟩)
      · exact Or.inl q
end
section
/-! what a run of a block needs -/
def ak_b1 (c : Jvm.ClassFile.Cond) (x : Int32) (T F : Prop) : Prop := match c with
  | .eq => (x = 0 → T) ∧ (¬ x = 0 → F)
  | .ne => (¬ x = 0 → T) ∧ (x = 0 → F)
  | .lt => (x < 0 → T) ∧ (¬ x < 0 → F)
  | .ge => (0 ≤ x → T) ∧ (¬ 0 ≤ x → F)
  | .gt => (0 < x → T) ∧ (¬ 0 < x → F)
  | .le => (x ≤ 0 → T) ∧ (¬ x ≤ 0 → F)
def ak_b2 (c : Jvm.ClassFile.Cond) (x y : Int32) (T F : Prop) : Prop := match c with
  | .eq => (x = y → T) ∧ (¬ x = y → F)
  | .ne => (¬ x = y → T) ∧ (x = y → F)
  | .lt => (x < y → T) ∧ (¬ x < y → F)
  | .ge => (y ≤ x → T) ∧ (¬ y ≤ x → F)
  | .gt => (y < x → T) ∧ (¬ y < x → F)
  | .le => (x ≤ y → T) ∧ (¬ x ≤ y → F)
def ak_jp (Kc J : ak_KK) (b : Nat) : ak_KK := match b with
  | 0 => Kc
  | _ => J
/-- a receiver's class, by its place -/
def ak_rc (lay : List ak_C) (vs : List Value) (ci : Nat) : Prop := match vs with
  | .ref k :: _ => (match ak_nth lay k with
    | some (.inl (d, _)) => d = ci
    | _ => False)
  | _ => False
def ak_sw (x : Int32) (K : Nat → Prop) (d : Nat) : List (Int32 × Nat) → Prop
  | [] => K d
  | (k, t) :: r => (x = k → K t) ∧ (¬ x = k → ak_sw x K d r)
section AKE
variable (lay : List ak_C) (cs : Nat → ak_P) (rt : Option Value → ak_S → Prop) (Kc J : ak_KK)
def ak_st (go : ak_Ls → List Value → ak_S → Prop) (x : ak_I) (ls : ak_Ls) (st : List Value) (s : ak_S) : Prop := match x with
  | (pc, i, a, b, v, ts) => match i with
    | .nop => J pc ls st s
    | .iconst _ => go ls (.int v :: st) s
    | .bipush _ => go ls (.int v :: st) s
    | .sipush _ => go ls (.int v :: st) s
    | .lconst _ => go ls (.long v.toInt64 :: st) s
    | .iload _ => (match ak_nth ls a with | some (some (.int x)) => go ls (.int x :: st) s | _ => False)
    | .iload_n _ => (match ak_nth ls a with | some (some (.int x)) => go ls (.int x :: st) s | _ => False)
    | .lload _ => (match ak_nth ls a with | some (some (.long x)) => go ls (.long x :: st) s | _ => False)
    | .lload_n _ => (match ak_nth ls a with | some (some (.long x)) => go ls (.long x :: st) s | _ => False)
    | .aload _ => (match ak_nth ls a with | some (some (.ref x)) => go ls (.ref x :: st) s | _ => False)
    | .aload_n _ => (match ak_nth ls a with | some (some (.ref x)) => go ls (.ref x :: st) s | _ => False)
    | .istore _ => (match st with | .int x :: r => ak_ok1 ls a ∧ go (ak_set ls a (some (.int x))) r s | _ => False)
    | .istore_n _ => (match st with | .int x :: r => ak_ok1 ls a ∧ go (ak_set ls a (some (.int x))) r s | _ => False)
    | .lstore _ => (match st with | .long x :: r => ak_ok1 ls a ∧ go (ak_set (ak_set ls a (some (.long x))) (a + 1) none) r s | _ => False)
    | .lstore_n _ => (match st with | .long x :: r => ak_ok1 ls a ∧ go (ak_set (ak_set ls a (some (.long x))) (a + 1) none) r s | _ => False)
    | .astore _ => (match st with | .ref x :: r => ak_ok1 ls a ∧ go (ak_set ls a (some (.ref x))) r s | _ => False)
    | .astore_n _ => (match st with | .ref x :: r => ak_ok1 ls a ∧ go (ak_set ls a (some (.ref x))) r s | _ => False)
    | .iinc _ _ => (match ak_nth ls a with | some (some (.int x)) => ak_ok1 ls a ∧ go (ak_set ls a (some (.int (x + v)))) st s | _ => False)
    | .iadd => (match st with | .int y :: .int x :: r => go ls (.int (x + y) :: r) s | _ => False)
    | .isub => (match st with | .int y :: .int x :: r => go ls (.int (x - y) :: r) s | _ => False)
    | .imul => (match st with | .int y :: .int x :: r => go ls (.int (x * y) :: r) s | _ => False)
    | .iand => (match st with | .int y :: .int x :: r => go ls (.int (x &&& y) :: r) s | _ => False)
    | .lcmp => (match st with | .long y :: .long x :: r => go ls (.int (lg_cmp x y) :: r) s | _ => False)
    | .dup => (match st with | .int x :: r => go ls (.int x :: .int x :: r) s | .ref x :: r => go ls (.ref x :: .ref x :: r) s | _ => False)
    | .pop => (match st with | .int _ :: r => go ls r s | .ref _ :: r => go ls r s | _ => False)
    | .dup_x1 => (match st with | .int x :: .int y :: r => go ls (.int x :: .int y :: .int x :: r) s | .int x :: .ref y :: r => go ls (.int x :: .ref y :: .int x :: r) s | _ => False)
    | .dup_x2 => (match st with | .int x :: .int y :: .ref z :: r => go ls (.int x :: .int y :: .ref z :: .int x :: r) s | _ => False)
    | .dup2 => (match st with | .int x :: .ref y :: r => go ls (.int x :: .ref y :: .int x :: .ref y :: r) s | .int x :: .int y :: r => go ls (.int x :: .int y :: .int x :: .int y :: r) s | _ => False)
    | .getfield _ => (match st with
      | .ref k :: r => (match ak_nth lay k with
        | some (.inl (ci, fs)) => ci = a ∧ (match ak_nth fs b with
          | some (some q) => go ls (.ref q :: r) s
          | some none => go ls (.int (s.1 k b) :: r) s
          | none => False)
        | _ => False)
      | _ => False)
    | .putfield _ => (match st with
      | .int x :: .ref k :: r => (match ak_nth lay k with
        | some (.inl (ci, fs)) => ci = a ∧ (match ak_nth fs b with
          | some none => go ls r (ak_p1 s k b x)
          | _ => False)
        | _ => False)
      | _ => False)
    | .iaload => (match st with
      | .int i :: .ref k :: r => (match ak_nth lay k with
        | some (.inr (.int, n)) => vp_in i n ∧ go ls (.int (s.1 k i.toNatClampNeg) :: r) s
        | _ => False)
      | _ => False)
    | .baload => (match st with
      | .int i :: .ref k :: r => (match ak_nth lay k with
        | some (.inr (.boolean, n)) => vp_in i n ∧ go ls (.int (s.1 k i.toNatClampNeg) :: r) s
        | _ => False)
      | _ => False)
    | .laload => (match st with
      | .int i :: .ref k :: r => (match ak_nth lay k with
        | some (.inr (.long, n)) => vp_in i n ∧ go ls (.long (s.2 k i.toNatClampNeg) :: r) s
        | _ => False)
      | _ => False)
    | .iastore => (match st with
      | .int x :: .int i :: .ref k :: r => (match ak_nth lay k with
        | some (.inr (.int, n)) => vp_in i n ∧ go ls r (ak_p1 s k i.toNatClampNeg x)
        | _ => False)
      | _ => False)
    | .bastore => (match st with
      | .int x :: .int i :: .ref k :: r => (match ak_nth lay k with
        | some (.inr (.boolean, n)) => vp_in i n ∧ go ls r (ak_p1 s k i.toNatClampNeg (x &&& 1))
        | _ => False)
      | _ => False)
    | .lastore => (match st with
      | .long x :: .int i :: .ref k :: r => (match ak_nth lay k with
        | some (.inr (.long, n)) => vp_in i n ∧ go ls r (ak_p2 s k i.toNatClampNeg x)
        | _ => False)
      | _ => False)
    | .arraylength => (match st with
      | .ref k :: r => (match ak_nth lay k with
        | some (.inr (_, n)) => go ls (.int (nI n) :: r) s
        | _ => False)
      | _ => False)
    | .ifCond c _ => (match st with | .int x :: r => ak_b1 c x (ak_jp Kc J b a ls r s) (go ls r s) | _ => False)
    | .if_icmp c _ => (match st with | .int y :: .int x :: r => ak_b2 c x y (ak_jp Kc J b a ls r s) (go ls r s) | _ => False)
    | .goto _ => ak_jp Kc J b a ls st s
    | .tableswitch _ _ _ _ => (match st with | .int x :: r => ak_sw x (fun t => Kc t ls r s) a ts | _ => False)
    | .ireturn => (match st with
      | [.int x] => (match b with | 0 => rt (some (.int x)) s | _ => (x = 0 ∨ x = 1) ∧ rt (some (.int x)) s)
      | _ => False)
    | .return_ => (match st with | [] => rt none s | _ => False)
    | .invokevirtual _ => b + 1 ≤ st.length ∧ (((st.drop (b + 1)).map fun v => v.category).sum ≤ 8) ∧ (match ts with
      | [(_, ci)] => ak_rc lay (st.take (b + 1)).reverse ci ∧ cs a (st.take (b + 1)).reverse s (fun r s' => go ls (r.toList ++ st.drop (b + 1)) s')
      | _ => False)
    | .invokestatic _ => b ≤ st.length ∧ (((st.drop b).map fun v => v.category).sum ≤ 8) ∧ cs a (st.take b).reverse s (fun r s' => go ls (r.toList ++ st.drop b) s')
    | _ => False
def ak_ev : List ak_I → ak_Ls → List Value → ak_S → Prop
  | [], _, _, _ => False
  | x :: is, ls, st, s => ak_st lay cs rt Kc J (ak_ev is) x ls st s
end AKE
def ak_find (bl : List (Nat × List ak_I)) (pc : Nat) : List ak_I := match bl with
  | [] => []
  | (k, is) :: r => if k = pc then is else ak_find r pc
/-- n jumps, then (and at the cuts) J -/
def ak_run (lay : List ak_C) (cs : Nat → ak_P) (rt : Option Value → ak_S → Prop) (J : ak_KK) (bl : List (Nat × List ak_I)) : Nat → ak_KK
  | 0 => J
  | n + 1 => fun pc ls st s => ak_ev lay cs rt (ak_run lay cs rt J bl n) J (ak_find bl pc) ls st s
/-! the table of a method's instructions is as the bytes say -/
def ak_len : Jvm.ClassFile.Instr → Nat
  | .bipush _ => 2
  | .sipush _ => 3
  | .iload _ => 2
  | .lload _ => 2
  | .aload _ => 2
  | .istore _ => 2
  | .lstore _ => 2
  | .astore _ => 2
  | .iinc _ _ => 3
  | .getfield _ => 3
  | .putfield _ => 3
  | .ifCond _ _ => 3
  | .if_icmp _ _ => 3
  | .goto _ => 3
  | .invokevirtual _ => 3
  | .invokestatic _ => 3
  | _ => 1
def ak_dec (cc : ByteArray) (pc : Nat) (i : Jvm.ClassFile.Instr) : Bool := decide (decode cc pc = .ok (i, ak_len i))
/-- a switch's table -/
def ak_swok (pc : Nat) : Int → List Int → List (Int32 × Nat) → Bool
  | _, [], [] => true
  | lo, o :: os, (k, t) :: r => decide (k.toInt = lo) && decide ((pc : Int) + o = (t : Int)) && ak_swok pc (lo + 1) os r
  | _, _, _ => false
def ak_ok (cc : ByteArray) (Ts : List Cond) (own : String) (cl : List vw_C) (nL : Nat) (rty : Option FieldType) (reg : List (Nat × Nat × Nat)) (x : ak_I) : Bool := match x with
  | (pc, i, a, b, v, ts) => match i with
    | .nop => true
    | .iconst n => ak_dec cc pc i && decide (Int32.ofInt n = v)
    | .bipush n => ak_dec cc pc i && decide ((Int8.ofInt n).toInt32 = v)
    | .sipush n => ak_dec cc pc i && decide ((Int16.ofInt n).toInt32 = v)
    | .lconst n => ak_dec cc pc i && decide (Int64.ofNat (n : Nat) = v.toInt64)
    | .iload n => ak_dec cc pc i && decide (n = a)
    | .iload_n n => ak_dec cc pc i && decide ((n : Nat) = a)
    | .lload n => ak_dec cc pc i && decide (n = a)
    | .lload_n n => ak_dec cc pc i && decide ((n : Nat) = a)
    | .aload n => ak_dec cc pc i && decide (n = a)
    | .aload_n n => ak_dec cc pc i && decide ((n : Nat) = a)
    | .istore n => ak_dec cc pc i && decide (n = a) && decide (a < nL)
    | .istore_n n => ak_dec cc pc i && decide ((n : Nat) = a) && decide (a < nL)
    | .lstore n => ak_dec cc pc i && decide (n = a) && decide (a + 1 < nL)
    | .lstore_n n => ak_dec cc pc i && decide ((n : Nat) = a) && decide (a + 1 < nL)
    | .astore n => ak_dec cc pc i && decide (n = a) && decide (a < nL)
    | .astore_n n => ak_dec cc pc i && decide ((n : Nat) = a) && decide (a < nL)
    | .iinc n k => ak_dec cc pc i && decide (n = a) && decide (Int32.ofInt k = v) && decide (a < nL)
    | .getfield n => ak_dec cc pc i && (match cl[a]?, ts with
      | some (_, T, N), [(_, w)] => decide (b < N) && decide (ak_nth Ts w = some (Cond.fieldLink own n (T b).1 (T b).2.1 (T b).2.2.1))
      | _, _ => false)
    | .putfield n => ak_dec cc pc i && (match cl[a]?, ts with
      | some (_, T, N), [(_, w)] => decide (b < N) && decide ((T b).2.2.2 = false) && decide (parseFieldDescriptor (T b).2.2.1 = some .int) && decide (ak_nth Ts w = some (Cond.fieldLink own n (T b).1 (T b).2.1 (T b).2.2.1))
      | _, _ => false)
    | .ifCond _ o => ak_dec cc pc i && decide ((pc : Int) + o = (a : Int))
    | .if_icmp _ o => ak_dec cc pc i && decide ((pc : Int) + o = (a : Int))
    | .goto o => ak_dec cc pc i && decide ((pc : Int) + o = (a : Int))
    | .tableswitch d lo hi offs => (match decode cc pc with | .ok (j, _) => decide (j = i) | _ => false) && decide ((pc : Int) + d = (a : Int)) && decide (lo + offs.size = hi + 1) && ak_swok pc lo offs.toList ts
    | .ireturn => ak_dec cc pc i && (match b with | 0 => decide (rty = some .int) | _ => decide (rty = some .boolean))
    | .return_ => ak_dec cc pc i && decide (rty = none)
    | .invokevirtual n => ak_dec cc pc i && (match ts with | [(_, ci)] => decide (ak_nth reg a = some (n, b, ci)) | _ => false)
    | .invokestatic n => ak_dec cc pc i && decide (ak_nth reg a = some (n, b, 1000))
    | _ => ak_dec cc pc i
def ak_okB (cc : ByteArray) (Ts : List Cond) (own : String) (cl : List vw_C) (nL : Nat) (rty : Option FieldType) (reg : List (Nat × Nat × Nat)) : Nat → List ak_I → Bool
  | _, [] => true
  | pc, x :: r => decide (x.1 = pc) && ak_ok cc Ts own cl nL rty reg x && ak_okB cc Ts own cl nL rty reg (pc + ak_len x.2.1) r
def ak_okM (cc : ByteArray) (Ts : List Cond) (own : String) (cl : List vw_C) (nL : Nat) (rty : Option FieldType) (reg : List (Nat × Nat × Nat)) (bl : List (Nat × List ak_I)) : Bool := bl.all (fun q => ak_okB cc Ts own cl nL rty reg q.1 q.2)
end
section
/-! a formula that holds gives the machine's run -/
theorem ak_e_p1 {ad : Nat → Nat} {tyc : Nat → ClassId} {s : ak_S} {k i j : Nat} {x : Int32} (y : ak_C) (h : j ≠ k) : ak_e ad tyc (ak_p1 s k i x) j y = ak_e ad tyc s j y := by
  obtain ⟨ci, fs⟩ | ⟨ty, n⟩ := y
  · simp [ak_e, ak_p1, h]
  · cases ty <;> simp [ak_e, ak_p1, h]
theorem ak_e_p2 {ad : Nat → Nat} {tyc : Nat → ClassId} {s : ak_S} {k i j : Nat} {x : Int64} (y : ak_C) (h : j ≠ k) : ak_e ad tyc (ak_p2 s k i x) j y = ak_e ad tyc s j y := by
  obtain ⟨ci, fs⟩ | ⟨ty, n⟩ := y
  · simp [ak_e, ak_p2]
  · cases ty <;> simp [ak_e, ak_p2, h]
theorem ak_mem {α : Type} {l : List α} {k : Nat} {x : α} (h : ak_nth l k = some x) : x ∈ l := List.mem_of_getElem? (by rw [← ak_nth_get]; exact h)
theorem ak_sw_spec {x : Int32} {K : Nat → Prop} {d pc : Nat} : ∀ (ts : List (Int32 × Nat)) (lo : Int) (offs : List Int), ak_swok pc lo offs ts = true → ak_sw x K d ts →
    (∃ (j : Nat) (off : Int) (t : Nat), offs[j]? = some off ∧ (pc : Int) + off = (t : Int) ∧ x.toInt = lo + j ∧ K t) ∨ ((∀ j : Nat, j < offs.length → x.toInt ≠ lo + j) ∧ K d)
  | [], lo, [], _, h => Or.inr ⟨fun j hj => by simp at hj, h⟩
  | [], lo, o :: os, hk, _ => by simp [ak_swok] at hk
  | (k, t) :: r, lo, [], hk, _ => by simp [ak_swok] at hk
  | (k, t) :: r, lo, o :: os, hk, h => by
    simp only [ak_swok, Bool.and_eq_true, decide_eq_true_eq] at hk
    obtain ⟨⟨h1, h2⟩, h3⟩ := hk
    by_cases hx : x = k
    · exact Or.inl ⟨0, o, t, rfl, h2, by rw [hx, h1]; simp, h.1 hx⟩
    · rcases ak_sw_spec r (lo + 1) os h3 (h.2 hx) with ⟨j, off, t', q1, q2, q3, q4⟩ | ⟨q1, q2⟩
      · exact Or.inl ⟨j + 1, off, t', by simpa using q1, q2, by rw [q3]; push_cast; omega, q4⟩
      · refine Or.inr ⟨fun j hj => ?_, q2⟩
        cases j with
        | zero => exact fun e => hx (Int32.toInt_inj.mp (by rw [h1, e]; simp))
        | succ j =>
          have := q1 j (by simpa using hj)
          intro e
          exact this (by rw [e]; push_cast; omega)
def ak_J (p : Program) (l : Launch) (e : Env) (R : Room) (s0 : State) (m : MethodId) (args : Array Value) (below : List Frame) (meth : Method) (c : Code) (cells slots : Nat) (Q : State → Prop) (D : va_G) (cl : List vw_C) (lay : List ak_C) (ad : Nat → Nat) (tyc : Nat → ClassId) (A : Nat → Prop) (H0 : Heap) (nL : Nat) : ak_KK := fun pc ls st s =>
  ∀ (H : Heap) (locs : List Loc) (lsA : Array Slot), va_P D cl (ak_W ad tyc s 0 lay) H → va_S A H0 H locs → ak_LH ad lsA nL ls → W p l e R s0 m args below meth c H locs cells slots Q (F0 m pc lsA (st.map (ak_v ad)))
/-- what holds of the classes' tables -/
def ak_CL (cl : List vw_C) (Ts : List Cond) : Prop := ∀ q ∈ cl, (∃ ty : Nat → FieldType, ∀ k, k < q.2.2 → parseFieldDescriptor (q.2.1 k).2.2.1 = some (ty k)) ∧ (∀ a, a < q.2.2 → ∀ b, b < q.2.2 → a ≠ b → (q.2.1 a).2.1 ≠ (q.2.1 b).2.1) ∧ ∀ w ∈ u_ws q.1 q.2.1 q.2.2, w ∈ Ts
def ak_G (p : Program) (s0 : State) (m : MethodId) (args : Array Value) (c : Code) (cc : ByteArray) (Ts : List Cond) (own : String) (D : va_G) (cl : List vw_C) (lay : List ak_C) (ad : Nat → Nat) (tyc : Nat → ClassId) (A : Nat → Prop) : Prop :=
  p.tables.exec = Jvm.exec ∧ c.code = cc ∧ (∀ w ∈ Ts, w.before args s0 = true) ∧ s0.vm.findClass own = some m.cls ∧ ak_K D cl lay tyc s0 ∧ ak_Inj lay ad ∧ (∀ k, k < lay.length → A (ad k)) ∧ ak_CL cl Ts
set_option maxHeartbeats 4000000 in
set_option maxRecDepth 100000 in
theorem ak_st_sound {p : Program} {l : Launch} {e : Env} {R : Room} {s0 : State} {m : MethodId} {args : Array Value} {below : List Frame} {meth : Method} {c : Code} {cells slots : Nat} {Q : State → Prop} {D : va_G} {cl : List vw_C} {lay : List ak_C} {ad : Nat → Nat} {tyc : Nat → ClassId} {A : Nat → Prop} {H0 : Heap} {nL : Nat} {cc : ByteArray} {Ts : List Cond} {own : String} {rty : Option FieldType} {reg : List (Nat × Nat × Nat)} {cs : Nat → ak_P} {rt : Option Value → ak_S → Prop} {Kc J : ak_KK}
    (AJ : ak_KK) (hAJ : AJ = ak_J p l e R s0 m args below meth c cells slots Q D cl lay ad tyc A H0 nL) (g : ak_G p s0 m args c cc Ts own D cl lay ad tyc A)
    (hKc : ∀ pc ls st s, Kc pc ls st s → AJ pc ls st s) (hJ : ∀ pc ls st s, J pc ls st s → AJ pc ls st s)
    (hri : ∀ pc ls x s, decode cc pc = .ok (.ireturn, 1) → (rty = some .int ∨ (rty = some .boolean ∧ (x = 0 ∨ x = 1))) → rt (some (.int x)) s → AJ pc ls [.int x] s)
    (hrv : ∀ pc ls s, decode cc pc = .ok (.return_, 1) → rty = none → rt none s → AJ pc ls [] s)
    (hcv : ∀ a n b ci, ak_nth reg a = some (n, b, ci) → ∀ pc ls (vs rest : List Value) s Qp, decode cc pc = .ok (.invokevirtual n, 3) → vs.length = b + 1 → ak_rc lay vs ci → (rest.map fun v => v.category).sum ≤ 8 → cs a vs s Qp → (∀ r s', Qp r s' → AJ (pc + 3) ls (r.toList ++ rest) s') → AJ pc ls (vs.reverse ++ rest) s)
    (hct : ∀ a n b, ak_nth reg a = some (n, b, 1000) → ∀ pc ls (vs rest : List Value) s Qp, decode cc pc = .ok (.invokestatic n, 3) → vs.length = b → (rest.map fun v => v.category).sum ≤ 8 → cs a vs s Qp → (∀ r s', Qp r s' → AJ (pc + 3) ls (r.toList ++ rest) s') → AJ pc ls (vs.reverse ++ rest) s)
    {go : ak_Ls → List Value → ak_S → Prop} {x : ak_I} (hok : ak_ok cc Ts own cl nL rty reg x = true) (hgo : ∀ ls st s, go ls st s → AJ (x.1 + ak_len x.2.1) ls st s) {ls : ak_Ls} {st : List Value} {s : ak_S} (h : ak_st lay cs rt Kc J go x ls st s) : AJ x.1 ls st s := by
  subst hAJ
  obtain ⟨hx, hb, hts, hown, hK, hinj, hAd, hCL⟩ := g
  obtain ⟨pc, i, a, b, v, ts⟩ := x
  have hD : ∀ s : ak_S, va_D A (ak_W ad tyc s 0 lay) := fun s => ak_D hinj hAd
  have hjp : ∀ {b a : Nat} {ls : ak_Ls} {st : List Value} {s : ak_S}, ak_jp Kc J b a ls st s → ak_J p l e R s0 m args below meth c cells slots Q D cl lay ad tyc A H0 nL a ls st s := by
    intro b a ls st s h
    cases b with
    | zero => exact hKc _ _ _ _ h
    | succ b => exact hJ _ _ _ _ h
  dsimp only at hgo ⊢
  cases i
  case nop => exact hJ _ _ _ _ h
  case iconst n =>
    simp only [ak_ok, ak_dec, Bool.and_eq_true, decide_eq_true_eq] at hok
    simp only [ak_st] at h
    intro H locs lsA hP hS hl
    exact lv_iconst hx hb hok.1 hok.2 (hgo _ _ _ h H locs lsA hP hS hl)
  case bipush n =>
    simp only [ak_ok, ak_dec, Bool.and_eq_true, decide_eq_true_eq] at hok
    simp only [ak_st] at h
    intro H locs lsA hP hS hl
    exact lv_bipush hx hb hok.1 hok.2 (hgo _ _ _ h H locs lsA hP hS hl)
  case sipush n =>
    simp only [ak_ok, ak_dec, Bool.and_eq_true, decide_eq_true_eq] at hok
    simp only [ak_st] at h
    intro H locs lsA hP hS hl
    exact lv_sipush hx hb hok.1 hok.2 (hgo _ _ _ h H locs lsA hP hS hl)
  case lconst n =>
    simp only [ak_ok, ak_dec, Bool.and_eq_true, decide_eq_true_eq] at hok
    simp only [ak_st] at h
    intro H locs lsA hP hS hl
    exact lv_lconst hx hb hok.1 hok.2 (hgo _ _ _ h H locs lsA hP hS hl)
  case iload n =>
    simp only [ak_ok, ak_dec, Bool.and_eq_true, decide_eq_true_eq] at hok
    simp only [ak_st] at h
    split at h
    · rename_i x heq
      intro H locs lsA hP hS hl
      obtain ⟨hd, rfl⟩ := hok
      exact lv_iload hx hb hd (hl.2.2 _ _ heq) (hgo _ _ _ h H locs lsA hP hS hl)
    · exact h.elim
  case iload_n n =>
    simp only [ak_ok, ak_dec, Bool.and_eq_true, decide_eq_true_eq] at hok
    simp only [ak_st] at h
    split at h
    · rename_i x heq
      intro H locs lsA hP hS hl
      exact lv_iload_n hx hb hok.1 hok.2 (hl.2.2 _ _ heq) (hgo _ _ _ h H locs lsA hP hS hl)
    · exact h.elim
  case lload n =>
    simp only [ak_ok, ak_dec, Bool.and_eq_true, decide_eq_true_eq] at hok
    simp only [ak_st] at h
    split at h
    · rename_i x heq
      intro H locs lsA hP hS hl
      obtain ⟨hd, rfl⟩ := hok
      exact lv_lload hx hb hd (hl.2.2 _ _ heq) (hgo _ _ _ h H locs lsA hP hS hl)
    · exact h.elim
  case lload_n n =>
    simp only [ak_ok, ak_dec, Bool.and_eq_true, decide_eq_true_eq] at hok
    simp only [ak_st] at h
    split at h
    · rename_i x heq
      intro H locs lsA hP hS hl
      exact lv_lload_n hx hb hok.1 hok.2 (hl.2.2 _ _ heq) (hgo _ _ _ h H locs lsA hP hS hl)
    · exact h.elim
  case aload n =>
    simp only [ak_ok, ak_dec, Bool.and_eq_true, decide_eq_true_eq] at hok
    simp only [ak_st] at h
    split at h
    · rename_i x heq
      intro H locs lsA hP hS hl
      obtain ⟨hd, rfl⟩ := hok
      exact lv_aload hx hb hd (hl.2.2 _ _ heq) (hgo _ _ _ h H locs lsA hP hS hl)
    · exact h.elim
  case aload_n n =>
    simp only [ak_ok, ak_dec, Bool.and_eq_true, decide_eq_true_eq] at hok
    simp only [ak_st] at h
    split at h
    · rename_i x heq
      intro H locs lsA hP hS hl
      exact lv_aload_n hx hb hok.1 hok.2 (hl.2.2 _ _ heq) (hgo _ _ _ h H locs lsA hP hS hl)
    · exact h.elim
  case istore n =>
    simp only [ak_ok, ak_dec, Bool.and_eq_true, decide_eq_true_eq] at hok
    simp only [ak_st] at h
    split at h
    · rename_i x r
      intro H locs lsA hP hS hl
      obtain ⟨⟨hd, rfl⟩, hn⟩ := hok
      exact lv_istore hx hb hd hl.has hn rfl (fun ls' h' => hgo _ _ _ h.2 H locs ls' hP hS (ak_LH.of1 (u := .int x) h.1 h'))
    · exact h.elim
  case istore_n n =>
    simp only [ak_ok, ak_dec, Bool.and_eq_true, decide_eq_true_eq] at hok
    simp only [ak_st] at h
    split at h
    · rename_i x r
      intro H locs lsA hP hS hl
      obtain ⟨⟨hd, hi⟩, hn⟩ := hok
      exact lv_istore_n hx hb hd hi hl.has hn rfl (fun ls' h' => hgo _ _ _ h.2 H locs ls' hP hS (ak_LH.of1 (u := .int x) h.1 h'))
    · exact h.elim
  case astore n =>
    simp only [ak_ok, ak_dec, Bool.and_eq_true, decide_eq_true_eq] at hok
    simp only [ak_st] at h
    split at h
    · rename_i x r
      intro H locs lsA hP hS hl
      obtain ⟨⟨hd, rfl⟩, hn⟩ := hok
      exact lv_astore hx hb hd hl.has hn rfl (fun ls' h' => hgo _ _ _ h.2 H locs ls' hP hS (ak_LH.of1 (u := .ref x) h.1 h'))
    · exact h.elim
  case astore_n n =>
    simp only [ak_ok, ak_dec, Bool.and_eq_true, decide_eq_true_eq] at hok
    simp only [ak_st] at h
    split at h
    · rename_i x r
      intro H locs lsA hP hS hl
      obtain ⟨⟨hd, hi⟩, hn⟩ := hok
      exact lv_astore_n hx hb hd hi hl.has hn rfl (fun ls' h' => hgo _ _ _ h.2 H locs ls' hP hS (ak_LH.of1 (u := .ref x) h.1 h'))
    · exact h.elim
  case lstore n =>
    simp only [ak_ok, ak_dec, Bool.and_eq_true, decide_eq_true_eq] at hok
    simp only [ak_st] at h
    split at h
    · rename_i x r
      intro H locs lsA hP hS hl
      obtain ⟨⟨hd, rfl⟩, hn⟩ := hok
      exact lv_lstore hx hb hd hl.has hn rfl (fun ls' h' => hgo _ _ _ h.2 H locs ls' hP hS (ak_LH.of2 (u := .long x) h.1 h'))
    · exact h.elim
  case lstore_n n =>
    simp only [ak_ok, ak_dec, Bool.and_eq_true, decide_eq_true_eq] at hok
    simp only [ak_st] at h
    split at h
    · rename_i x r
      intro H locs lsA hP hS hl
      obtain ⟨⟨hd, hi⟩, hn⟩ := hok
      exact lv_lstore_n hx hb hd hi hl.has hn rfl (fun ls' h' => hgo _ _ _ h.2 H locs ls' hP hS (ak_LH.of2 (u := .long x) h.1 h'))
    · exact h.elim
  case iinc n k0 =>
    simp only [ak_ok, ak_dec, Bool.and_eq_true, decide_eq_true_eq] at hok
    simp only [ak_st] at h
    split at h
    · rename_i x heq
      intro H locs lsA hP hS hl
      obtain ⟨⟨⟨hd, rfl⟩, hv⟩, hn⟩ := hok
      have hm := ak_ps_of (ad := ad) ls 0 _ _ heq
      rw [Nat.zero_add] at hm
      obtain ⟨k, hk⟩ := List.mem_iff_getElem?.mp hm
      exact lv_iinc hx hb hd hl.has hk (by rw [hv]) hn rfl (fun ls' h' => hgo _ _ _ h.2 H locs ls' hP hS (ak_LH.of1 (u := .int (x + v)) h.1 h'))
    · exact h.elim
  case iadd =>
    simp only [ak_ok, ak_dec, Bool.and_eq_true, decide_eq_true_eq] at hok
    simp only [ak_st] at h
    split at h
    · intro H locs lsA hP hS hl
      exact lv_iadd hx hb hok (hgo _ _ _ h H locs lsA hP hS hl)
    · exact h.elim
  case isub =>
    simp only [ak_ok, ak_dec, Bool.and_eq_true, decide_eq_true_eq] at hok
    simp only [ak_st] at h
    split at h
    · intro H locs lsA hP hS hl
      exact lv_isub hx hb hok (hgo _ _ _ h H locs lsA hP hS hl)
    · exact h.elim
  case imul =>
    simp only [ak_ok, ak_dec, Bool.and_eq_true, decide_eq_true_eq] at hok
    simp only [ak_st] at h
    split at h
    · intro H locs lsA hP hS hl
      exact lv_imul hx hb hok (hgo _ _ _ h H locs lsA hP hS hl)
    · exact h.elim
  case iand =>
    simp only [ak_ok, ak_dec, Bool.and_eq_true, decide_eq_true_eq] at hok
    simp only [ak_st] at h
    split at h
    · intro H locs lsA hP hS hl
      exact lv_iand hx hb hok (hgo _ _ _ h H locs lsA hP hS hl)
    · exact h.elim
  case lcmp =>
    simp only [ak_ok, ak_dec, Bool.and_eq_true, decide_eq_true_eq] at hok
    simp only [ak_st] at h
    split at h
    · intro H locs lsA hP hS hl
      exact W.lcmp hx hb hok (hgo _ _ _ h H locs lsA hP hS hl)
    · exact h.elim
  case dup =>
    simp only [ak_ok, ak_dec, Bool.and_eq_true, decide_eq_true_eq] at hok
    simp only [ak_st] at h
    split at h
    · intro H locs lsA hP hS hl
      exact lv_dup hx hb hok rfl (hgo _ _ _ h H locs lsA hP hS hl)
    · intro H locs lsA hP hS hl
      exact lv_dup hx hb hok rfl (hgo _ _ _ h H locs lsA hP hS hl)
    · exact h.elim
  case pop =>
    simp only [ak_ok, ak_dec, Bool.and_eq_true, decide_eq_true_eq] at hok
    simp only [ak_st] at h
    split at h
    · rename_i x r
      intro H locs lsA hP hS hl
      exact lv_pop (va := .int x) hx hb hok rfl (hgo _ _ _ h H locs lsA hP hS hl)
    · rename_i x r
      intro H locs lsA hP hS hl
      exact lv_pop (va := .ref (ad x)) hx hb hok rfl (hgo _ _ _ h H locs lsA hP hS hl)
    · exact h.elim
  case dup_x1 =>
    simp only [ak_ok, ak_dec, Bool.and_eq_true, decide_eq_true_eq] at hok
    simp only [ak_st] at h
    split at h
    · intro H locs lsA hP hS hl
      exact lv_dup_x1 hx hb hok rfl rfl (hgo _ _ _ h H locs lsA hP hS hl)
    · intro H locs lsA hP hS hl
      exact lv_dup_x1 hx hb hok rfl rfl (hgo _ _ _ h H locs lsA hP hS hl)
    · exact h.elim
  case dup_x2 =>
    simp only [ak_ok, ak_dec, Bool.and_eq_true, decide_eq_true_eq] at hok
    simp only [ak_st] at h
    split at h
    · intro H locs lsA hP hS hl
      exact lv_dup_x2 hx hb hok rfl rfl rfl (hgo _ _ _ h H locs lsA hP hS hl)
    · exact h.elim
  case dup2 =>
    simp only [ak_ok, ak_dec, Bool.and_eq_true, decide_eq_true_eq] at hok
    simp only [ak_st] at h
    split at h
    · intro H locs lsA hP hS hl
      exact lv_dup2_11 hx hb hok rfl rfl (hgo _ _ _ h H locs lsA hP hS hl)
    · intro H locs lsA hP hS hl
      exact lv_dup2_11 hx hb hok rfl rfl (hgo _ _ _ h H locs lsA hP hS hl)
    · exact h.elim
  case getfield n =>
    simp only [ak_ok, ak_dec, Bool.and_eq_true, decide_eq_true_eq] at hok
    obtain ⟨hd, hok⟩ := hok
    simp only [ak_st] at h
    split at hok
    · rename_i C T N z w hc
      simp only [Bool.and_eq_true, decide_eq_true_eq] at hok
      obtain ⟨hbN, hlk⟩ := hok
      split at h
      · rename_i k r
        split at h
        · rename_i ci fs hlay
          obtain ⟨rfl, h⟩ := h
          have hin := (hCL _ (List.mem_of_getElem? hc)).2.2
          have he := ak_W_at0 (ad := ad) (tyc := tyc) (s := s) hlay
          split at h
          · rename_i q hf
            intro H locs lsA hP hS hl
            exact va_get hx hb hts hin hown hK.1 hP k he hc b hbN (hts _ (ak_mem hlk)) (fun _ h9 => h9) (by rw [ak_fs_at, hf]; rfl) hd (hgo _ _ _ h H locs lsA hP hS hl)
          · rename_i hf
            intro H locs lsA hP hS hl
            exact va_get (v := .int (s.1 k b)) hx hb hts hin hown hK.1 hP k he hc b hbN (hts _ (ak_mem hlk)) (fun _ h9 => h9) (by rw [ak_fs_at, hf, Nat.zero_add]; rfl) hd (hgo _ _ _ h H locs lsA hP hS hl)
          · exact h.elim
        · exact h.elim
      · exact h.elim
    · cases hok
  case putfield n =>
    simp only [ak_ok, ak_dec, Bool.and_eq_true, decide_eq_true_eq] at hok
    obtain ⟨hd, hok⟩ := hok
    simp only [ak_st] at h
    split at hok
    · rename_i C T N z w hc
      simp only [Bool.and_eq_true, decide_eq_true_eq] at hok
      obtain ⟨⟨⟨hbN, hfin⟩, hty⟩, hlk⟩ := hok
      split at h
      · rename_i x k r
        split at h
        · rename_i ci fs hlay
          obtain ⟨rfl, h⟩ := h
          obtain ⟨⟨ty0, hty0⟩, hnm, hin⟩ := hCL _ (List.mem_of_getElem? hc)
          have he := ak_W_at0 (ad := ad) (tyc := tyc) (s := s) hlay
          split at h
          · rename_i hf
            intro H locs lsA hP hS hl
            refine va_put (ty := .int) (v := .int x) hx hb hts hin ty0 hty0 hnm hown hK.1 hP (hD s) hS k he hc b hbN (hts _ (ak_mem hlk)) (fun _ h9 => h9) hfin hty rfl rfl (by rw [ak_fs_len]; exact ak_nth_lt hf) hd (fun H1 locs1 hP1 _ hS1 => ?_)
            rw [ak_W_set (s' := ak_p1 s k b x) hlay (by rw [ak_fs_set hf]; simp [ak_e, ak_p1]) (fun j y hj => ak_e_p1 y hj)] at hP1
            exact hgo _ _ _ h H1 locs1 lsA hP1 hS1 hl
          · exact h.elim
        · exact h.elim
      · exact h.elim
    · cases hok
  case iaload =>
    simp only [ak_ok, ak_dec, decide_eq_true_eq] at hok
    simp only [ak_st] at h
    split at h
    · rename_i i k r
      split at h
      · rename_i n hlay
        intro H locs lsA hP hS hl
        exact va_iald hx hb (hK.one hlay) hP k 0 (ak_W_at0 hlay) rfl h.1 hok (hgo _ _ _ h.2 H locs lsA hP hS hl)
      · exact h.elim
    · exact h.elim
  case baload =>
    simp only [ak_ok, ak_dec, decide_eq_true_eq] at hok
    simp only [ak_st] at h
    split at h
    · rename_i i k r
      split at h
      · rename_i n hlay
        intro H locs lsA hP hS hl
        exact va_zald hx hb (hK.one hlay) hP k 0 (ak_W_at0 hlay) rfl h.1 hok (hgo _ _ _ h.2 H locs lsA hP hS hl)
      · exact h.elim
    · exact h.elim
  case laload =>
    simp only [ak_ok, ak_dec, decide_eq_true_eq] at hok
    simp only [ak_st] at h
    split at h
    · rename_i i k r
      split at h
      · rename_i n hlay
        intro H locs lsA hP hS hl
        exact va_lald hx hb (hK.one hlay) hP k 0 (ak_W_at0 hlay) rfl h.1 hok (hgo _ _ _ h.2 H locs lsA hP hS hl)
      · exact h.elim
    · exact h.elim
  case iastore =>
    simp only [ak_ok, ak_dec, decide_eq_true_eq] at hok
    simp only [ak_st] at h
    split at h
    · rename_i x i k r
      split at h
      · rename_i n hlay
        intro H locs lsA hP hS hl
        refine va_iast hx hb (hK.one hlay) hP (hD s) hS k 0 (ak_W_at0 hlay) rfl h.1 hok (fun H1 locs1 hP1 _ hS1 => ?_)
        rw [ak_W_set (s' := ak_p1 s k i.toNatClampNeg x) hlay (by simp [ak_e, ak_p1]) (fun j y hj => ak_e_p1 y hj)] at hP1
        exact hgo _ _ _ h.2 H1 locs1 lsA hP1 hS1 hl
      · exact h.elim
    · exact h.elim
  case bastore =>
    simp only [ak_ok, ak_dec, decide_eq_true_eq] at hok
    simp only [ak_st] at h
    split at h
    · rename_i x i k r
      split at h
      · rename_i n hlay
        intro H locs lsA hP hS hl
        refine va_zast hx hb (hK.one hlay) hP (hD s) hS k 0 (ak_W_at0 hlay) rfl h.1 hok (fun H1 locs1 hP1 _ hS1 => ?_)
        rw [ak_W_set (s' := ak_p1 s k i.toNatClampNeg (x &&& 1)) hlay (by simp [ak_e, ak_p1]; try rfl) (fun j y hj => ak_e_p1 y hj)] at hP1
        exact hgo _ _ _ h.2 H1 locs1 lsA hP1 hS1 hl
      · exact h.elim
    · exact h.elim
  case lastore =>
    simp only [ak_ok, ak_dec, decide_eq_true_eq] at hok
    simp only [ak_st] at h
    split at h
    · rename_i x i k r
      split at h
      · rename_i n hlay
        intro H locs lsA hP hS hl
        refine va_last hx hb (hK.one hlay) hP (hD s) hS k 0 (ak_W_at0 hlay) rfl h.1 hok (fun H1 locs1 hP1 _ hS1 => ?_)
        rw [ak_W_set (s' := ak_p2 s k i.toNatClampNeg x) hlay (by simp [ak_e, ak_p2]) (fun j y hj => ak_e_p2 y hj)] at hP1
        exact hgo _ _ _ h.2 H1 locs1 lsA hP1 hS1 hl
      · exact h.elim
    · exact h.elim
  case arraylength =>
    simp only [ak_ok, ak_dec, decide_eq_true_eq] at hok
    simp only [ak_st] at h
    split at h
    · rename_i k r
      split at h
      · rename_i ty n hlay
        intro H locs lsA hP hS hl
        have hz : ∃ z : vp_A, ak_e ad tyc s k (.inr (ty, n)) = .inl (tyc k, z) ∧ z.1 = n := by cases ty <;> exact ⟨_, rfl, rfl⟩
        obtain ⟨z, hz1, hz2⟩ := hz
        have he := ak_W_at0 (ad := ad) (tyc := tyc) (s := s) hlay
        rw [hz1] at he
        exact va_alen hx hb (hK.one hlay) hP k 0 he rfl (by rw [hz2]; rfl) hok (hgo _ _ _ h H locs lsA hP hS hl)
      · exact h.elim
    · exact h.elim
  case ifCond c0 o =>
    simp only [ak_ok, ak_dec, Bool.and_eq_true, decide_eq_true_eq] at hok
    simp only [ak_st] at h
    obtain ⟨hd, ht⟩ := hok
    split at h
    · cases c0
      · intro H locs lsA hP hS hl
        exact lv_if_eq hx hb hd ht (fun q => hjp (h.1 q) H locs lsA hP hS hl) (fun q => hgo _ _ _ (h.2 q) H locs lsA hP hS hl)
      · intro H locs lsA hP hS hl
        exact lv_if_ne hx hb hd ht (fun q => hjp (h.1 q) H locs lsA hP hS hl) (fun q => hgo _ _ _ (h.2 q) H locs lsA hP hS hl)
      · intro H locs lsA hP hS hl
        exact lv_if_lt hx hb hd ht (fun q => hjp (h.1 q) H locs lsA hP hS hl) (fun q => hgo _ _ _ (h.2 q) H locs lsA hP hS hl)
      · intro H locs lsA hP hS hl
        exact lv_if_ge hx hb hd ht (fun q => hjp (h.1 q) H locs lsA hP hS hl) (fun q => hgo _ _ _ (h.2 q) H locs lsA hP hS hl)
      · intro H locs lsA hP hS hl
        exact lv_if_gt hx hb hd ht (fun q => hjp (h.1 q) H locs lsA hP hS hl) (fun q => hgo _ _ _ (h.2 q) H locs lsA hP hS hl)
      · intro H locs lsA hP hS hl
        exact lv_if_le hx hb hd ht (fun q => hjp (h.1 q) H locs lsA hP hS hl) (fun q => hgo _ _ _ (h.2 q) H locs lsA hP hS hl)
    · exact h.elim
  case if_icmp c0 o =>
    simp only [ak_ok, ak_dec, Bool.and_eq_true, decide_eq_true_eq] at hok
    simp only [ak_st] at h
    obtain ⟨hd, ht⟩ := hok
    split at h
    · cases c0
      · intro H locs lsA hP hS hl
        exact lv_icmp_eq hx hb hd ht (fun q => hjp (h.1 q) H locs lsA hP hS hl) (fun q => hgo _ _ _ (h.2 q) H locs lsA hP hS hl)
      · intro H locs lsA hP hS hl
        exact lv_icmp_ne hx hb hd ht (fun q => hjp (h.1 q) H locs lsA hP hS hl) (fun q => hgo _ _ _ (h.2 q) H locs lsA hP hS hl)
      · intro H locs lsA hP hS hl
        exact lv_icmp_lt hx hb hd ht (fun q => hjp (h.1 q) H locs lsA hP hS hl) (fun q => hgo _ _ _ (h.2 q) H locs lsA hP hS hl)
      · intro H locs lsA hP hS hl
        exact lv_icmp_ge hx hb hd ht (fun q => hjp (h.1 q) H locs lsA hP hS hl) (fun q => hgo _ _ _ (h.2 q) H locs lsA hP hS hl)
      · intro H locs lsA hP hS hl
        exact lv_icmp_gt hx hb hd ht (fun q => hjp (h.1 q) H locs lsA hP hS hl) (fun q => hgo _ _ _ (h.2 q) H locs lsA hP hS hl)
      · intro H locs lsA hP hS hl
        exact lv_icmp_le hx hb hd ht (fun q => hjp (h.1 q) H locs lsA hP hS hl) (fun q => hgo _ _ _ (h.2 q) H locs lsA hP hS hl)
    · exact h.elim
  case goto o =>
    simp only [ak_ok, ak_dec, Bool.and_eq_true, decide_eq_true_eq] at hok
    simp only [ak_st] at h
    intro H locs lsA hP hS hl
    exact lv_goto hx hb hok.1 hok.2 (hjp h H locs lsA hP hS hl)
  case tableswitch d lo hi offs =>
    simp only [ak_ok, Bool.and_eq_true, decide_eq_true_eq] at hok
    obtain ⟨⟨⟨hd, hdf⟩, hsz⟩, hsw⟩ := hok
    simp only [ak_st] at h
    split at hd
    · rename_i j len hdec
      simp only [decide_eq_true_eq] at hd
      subst hd
      split at h
      · rename_i x r
        intro H locs lsA hP hS hl
        rcases ak_sw_spec ts lo offs.toList hsw h with ⟨j, off, t, q1, q2, q3, q4⟩ | ⟨q1, q2⟩
        · have hj : j < offs.size := by
            have := (List.getElem?_eq_some_iff.mp q1).1
            simpa using this
          refine lv_tableIn hx hb hdec (by omega) (by omega) (off := off) ?_ q2 (hKc _ _ _ _ q4 H locs lsA hP hS hl)
          rw [show (x.toInt - lo).toNat = j by omega, ← Array.getElem?_toList]
          exact q1
        · refine lv_tableOut hx hb hdec ?_ hdf (hKc _ _ _ _ q2 H locs lsA hP hS hl)
          by_cases z1 : x.toInt < lo
          · exact Or.inl z1
          · by_cases z2 : hi < x.toInt
            · exact Or.inr z2
            · exact absurd (by omega) (q1 (x.toInt - lo).toNat (by simp; omega))
      · exact h.elim
    · cases hd
  case ireturn =>
    simp only [ak_ok, ak_dec, Bool.and_eq_true, decide_eq_true_eq] at hok
    simp only [ak_st] at h
    split at h
    · cases b with
      | zero =>
        simp only [decide_eq_true_eq] at hok
        exact hri _ _ _ _ hok.1 (Or.inl hok.2) h
      | succ b =>
        simp only [decide_eq_true_eq] at hok
        exact hri _ _ _ _ hok.1 (Or.inr ⟨hok.2, h.1⟩) h.2
    · exact h.elim
  case return_ =>
    simp only [ak_ok, ak_dec, Bool.and_eq_true, decide_eq_true_eq] at hok
    simp only [ak_st] at h
    split at h
    · exact hrv _ _ _ hok.1 hok.2 h
    · exact h.elim
  case invokevirtual n =>
    simp only [ak_ok, ak_dec, Bool.and_eq_true, decide_eq_true_eq] at hok
    obtain ⟨hd, hok⟩ := hok
    simp only [ak_st] at h
    obtain ⟨h1, h2, h3⟩ := h
    split at hok
    · rename_i z ci
      simp only [decide_eq_true_eq] at hok
      have hq := hcv _ _ _ _ hok pc ls (st.take (b + 1)).reverse (st.drop (b + 1)) s _ hd (by simp; omega) h3.1 h2 h3.2 (fun r s' hr => hgo _ _ _ hr)
      rw [List.reverse_reverse, List.take_append_drop] at hq
      exact hq
    · cases hok
  case invokestatic n =>
    simp only [ak_ok, ak_dec, Bool.and_eq_true, decide_eq_true_eq] at hok
    obtain ⟨hd, hok⟩ := hok
    simp only [ak_st] at h
    obtain ⟨h1, h2, h3⟩ := h
    have hq := hct _ _ _ hok pc ls (st.take b).reverse (st.drop b) s _ hd (by simp; omega) h2 h3 (fun r s' hr => hgo _ _ _ hr)
    rw [List.reverse_reverse, List.take_append_drop] at hq
    exact hq
  all_goals exact h.elim
end
section
/-! contracts: what a method does to the world, as a transformer of formulas -/
def ak_A (lay : List ak_C) (ad : Nat → Nat) (sz : Nat) : Nat → Prop := fun q => (∃ k, k < lay.length ∧ q = ad k) ∨ sz ≤ q
def ak_Q (D : va_G) (cl : List vw_C) (lay : List ak_C) (ad : Nat → Nat) (tyc : Nat → ClassId) (sz : Nat) (Qp : Option Value → ak_S → Prop) : Array Value → State → Outcome → State → Prop := fun _ st oc t =>
  (∃ (r : Option Value) (s' : ak_S), oc = .returned (r.map (ak_v ad)) ∧ Qp r s' ∧ va_P D cl (ak_W ad tyc s' 0 lay) t.heap ∧ ak_K D cl lay tyc t) ∧ va_F (ak_A lay ad sz) st t
def ak_B (D : va_G) (cl : List vw_C) (lay : List ak_C) (ad : Nat → Nat) (tyc : Nat → ClassId) (sz : Nat) (s : ak_S) : State → Prop := fun U => U.heap.size = sz ∧ va_P D cl (ak_W ad tyc s 0 lay) U.heap ∧ ak_K D cl lay tyc U
def ak_Ctr (l : Launch) (cl : List vw_C) (lay : List ak_C) (y : MethodName) (ws : List Cond) (rm : Room) (pt : ak_P) : Prop :=
  ∀ (D : va_G) (ad : Nat → Nat) (tyc : Nat → ClassId) (sz : Nat) (vs : List Value) (s : ak_S) (Qp : Option Value → ak_S → Prop), ak_Inj lay ad → pt vs s Qp →
    Met l y ws rm (va_Pc (vs.map (ak_v ad)) (ak_B D cl lay ad tyc sz s)) (ak_Q D cl lay ad tyc sz Qp) 0 0 (ak_A lay ad sz)
theorem ak_blind {D : va_G} {cl : List vw_C} {lay : List ak_C} {ad : Nat → Nat} {tyc : Nat → ClassId} {sz : Nat} {s : ak_S} {av : List Value} : FrameBlind (va_Pc av (ak_B D cl lay ad tyc sz s)) :=
  fun a U g mk q => by
    obtain ⟨q0, q1, qP, qK⟩ := q
    exact ⟨q0, q1, qP, ak_K.moved (u := U) (U := U.calling g mk a) (Vm.Alike.refl U.vm) qK⟩
section AKC
variable {p : Program} {l : Launch} {e : Env} {R : Room} {s0 : State} {m : MethodId} {args : Array Value} {below : List Frame} {meth : Method} {c : Code} {cells slots : Nat} {Q : State → Prop} {D : va_G} {cl : List vw_C} {lay : List ak_C} {ad : Nat → Nat} {tyc : Nat → ClassId} {A : Nat → Prop} {H0 : Heap} {nL : Nat} {cc : ByteArray} {Ts : List Cond} {own : String}
theorem ak_go {H : Heap} {locs : List Loc} {pc : Nat} {lsA : Array Slot} {rest st0 : List Value} {a : Array Value} {Qp : Option Value → ak_S → Prop}
    (hr : va_Run p l e R s0 m args below meth c H locs cells slots 0 0 (F0 m pc lsA st0) rest (ak_Q D cl lay ad tyc H.size Qp a) (ak_A lay ad H.size)) (hS : va_S A H0 H locs) (hF : ∀ q, ak_A lay ad H.size q → A q)
    (kk : ∀ (r : Option Value) (s' : ak_S) (H1 : Heap) (locs1 : List Loc), Qp r s' → va_P D cl (ak_W ad tyc s' 0 lay) H1 → va_S A H0 H1 locs1 → W p l e R s0 m args below meth c H1 locs1 cells slots Q (F0 m (pc + 3) lsA ((r.map (ak_v ad)).toList ++ rest))) :
    W p l e R s0 m args below meth c H locs cells slots Q (F0 m pc lsA st0) := by
  intro T hT X
  obtain ⟨v, st₀, t, T', L, h0, X', hL, e1, e2, ⟨⟨r, s', hv, hq, hP, hK⟩, hz, hk⟩, st⟩ := hr T hT X
  cases hv
  rw [h0] at hz hk
  obtain ⟨t2, a1, b1⟩ := kk r s' T'.heap (locs ++ L) hq (by rw [e1]; exact hP)
    ⟨Nat.le_trans hS.1 (by rw [e1]; exact hz), fun q h1 h2 => by rw [e1, hk q (Nat.lt_of_lt_of_le h1 hS.1) (fun z => h2 (hF q z))]; exact hS.2.1 q h1 h2, fun q hq => by
      rcases List.mem_append.mp hq with h | h
      · exact hS.2.2 q h
      · exact hF _ (hL q h)⟩ T' rfl X'
  exact ⟨t2, st t2 a1, b1⟩
theorem ak_hF (hA : ∀ q, H0.size ≤ q → A q) (hAd : ∀ k, k < lay.length → A (ad k)) {H : Heap} {locs : List Loc} (hS : va_S A H0 H locs) : ∀ q, ak_A lay ad H.size q → A q := by
  intro q h
  rcases h with ⟨k, h1, rfl⟩ | h
  · exact hAd k h1
  · exact hA q (Nat.le_trans hS.1 h)
theorem ak_back (r : Option Value) (rest : List Value) : (r.toList ++ rest).map (ak_v ad) = (r.map (ak_v ad)).toList ++ rest.map (ak_v ad) := by cases r <;> simp
theorem ak_cats (rest : List Value) : ((rest.map (ak_v ad)).map fun v => v.category) = rest.map fun v => v.category := by
  rw [List.map_map]
  congr 1
  funext v
  exact ak_v_cat ad v
set_option maxHeartbeats 1000000 in
theorem ak_hcv (g : ak_G p s0 m args c cc Ts own D cl lay ad tyc A) (hml : c.maxLocals = nL) (hA : ∀ q, H0.size ≤ q → A q) (hcr : cells ≤ R.cells ∧ slots ≤ R.slots) {y : MethodName} {wsC : List Cond} {rmC : Room} {pt : ak_P} {n b ci mL : Nat} {bytes : ByteArray} {ret : Option FieldType} {q : vw_C} (hci : cl[ci]? = some q)
    (C0 : ak_Ctr l cl lay y wsC rmC pt) (cw : CallW R s0 args own q.1 n y bytes mL ret wsC rmC 0 0 b) (pc : Nat) (ls : ak_Ls) (vs rest : List Value) (s : ak_S) (Qp : Option Value → ak_S → Prop) (hd : decode cc pc = .ok (.invokevirtual n, 3)) (hlen : vs.length = b + 1) (hrc : ak_rc lay vs ci) (hsum : (rest.map fun v => v.category).sum ≤ 8) (hpt : pt vs s Qp)
    (hk : ∀ r s', Qp r s' → ak_J p l e R s0 m args below meth c cells slots Q D cl lay ad tyc A H0 nL (pc + 3) ls (r.toList ++ rest) s') : ak_J p l e R s0 m args below meth c cells slots Q D cl lay ad tyc A H0 nL pc ls (vs.reverse ++ rest) s := by
  obtain ⟨hx, hb, hts, hown, hK, hinj, hAd, hCL⟩ := g
  intro H locs lsA hP hS hl
  unfold ak_rc at hrc
  split at hrc
  · rename_i k As
    split at hrc
    · rename_i d fs hlay
      subst hrc
      have hrun := va_runV (p := p) (l := l) (e := e) (R := R) (s := s0) (m := m) (args := args) (below := below) (meth := meth) (c := c) (H := H) (locs := locs) (cells := cells) (slots := slots) (As := As.map (ak_v ad)) (rest := rest.map (ak_v ad)) (b := ad k) (g := F0 m pc lsA (((Value.ref k :: As).reverse ++ rest).map (ak_v ad))) (n := b) ⟨hx, hb, hml, hown, hts⟩ (C0 D ad tyc H.size (.ref k :: As) s Qp hinj hpt) cw
        ⟨ak_blind, va_recv hK.1 hP hci (ak_W_at0 hlay), fun U hU hW => ⟨rfl, by rw [hU], by rw [hU]; exact hP, hK.moved hW.alike⟩⟩ rfl (by simpa using hlen) hl.1 (by simp [ak_v]) (lv_room (by rw [ak_cats]; exact hsum)) hd ⟨by omega, by omega⟩
      refine ak_go hrun hS (ak_hF hA hAd hS) (fun r s' H1 locs1 hq hP1 hS1 => ?_)
      have hz := hk r s' hq H1 locs1 lsA hP1 hS1 hl
      rw [ak_back] at hz
      exact hz
    · exact hrc.elim
  · exact hrc.elim
set_option maxHeartbeats 1000000 in
theorem ak_hct (g : ak_G p s0 m args c cc Ts own D cl lay ad tyc A) (hml : c.maxLocals = nL) (hA : ∀ q, H0.size ≤ q → A q) (hcr : cells ≤ R.cells ∧ slots ≤ R.slots) {y : MethodName} {wsC : List Cond} {rmC : Room} {pt : ak_P} {n b mL : Nat} {bytes : ByteArray} {ret : Option FieldType}
    (C0 : ak_Ctr l cl lay y wsC rmC pt) (cw : CallB R s0 args own n y bytes mL ret wsC rmC 0 0 b ∧ (Cond.static y).before args s0 = true) (pc : Nat) (ls : ak_Ls) (vs rest : List Value) (s : ak_S) (Qp : Option Value → ak_S → Prop) (hd : decode cc pc = .ok (.invokestatic n, 3)) (hlen : vs.length = b) (hsum : (rest.map fun v => v.category).sum ≤ 8) (hpt : pt vs s Qp)
    (hk : ∀ r s', Qp r s' → ak_J p l e R s0 m args below meth c cells slots Q D cl lay ad tyc A H0 nL (pc + 3) ls (r.toList ++ rest) s') : ak_J p l e R s0 m args below meth c cells slots Q D cl lay ad tyc A H0 nL pc ls (vs.reverse ++ rest) s := by
  obtain ⟨hx, hb, hts, hown, hK, hinj, hAd, hCL⟩ := g
  intro H locs lsA hP hS hl
  have hrun := va_runS (p := p) (l := l) (e := e) (R := R) (s := s0) (m := m) (args := args) (below := below) (meth := meth) (c := c) (H := H) (locs := locs) (cells := cells) (slots := slots) (As := vs.map (ak_v ad)) (rest := rest.map (ak_v ad)) (g := F0 m pc lsA ((vs.reverse ++ rest).map (ak_v ad))) (n := b) ⟨hx, hb, hml, hown, hts⟩ (C0 D ad tyc H.size vs s Qp hinj hpt) cw
    ⟨ak_blind, fun U hU hW => ⟨rfl, by rw [hU], by rw [hU]; exact hP, hK.moved hW.alike⟩⟩ rfl (by simpa using hlen) hl.1 (by simp) (lv_room (by rw [ak_cats]; exact hsum)) hd ⟨by omega, by omega⟩
  refine ak_go hrun hS (ak_hF hA hAd hS) (fun r s' H1 locs1 hq hP1 hS1 => ?_)
  have hz := hk r s' hq H1 locs1 lsA hP1 hS1 hl
  rw [ak_back] at hz
  exact hz
end AKC
/-! the entry -/
def ak_la : List Value → ak_Ls
  | [] => []
  | v :: r => match v with
    | .long x => some (.long x) :: none :: ak_la r
    | .double x => some (.double x) :: none :: ak_la r
    | w => some w :: ak_la r
def ak_pad : Nat → ak_Ls → ak_Ls
  | 0, l => l
  | n + 1, [] => none :: ak_pad n []
  | n + 1, a :: r => a :: ak_pad n r
theorem ak_pad_nth {v : Value} : ∀ (n : Nat) (l : ak_Ls) (j : Nat), ak_nth (ak_pad n l) j = some (some v) → ak_nth l j = some (some v)
  | 0, _, _, h => h
  | n + 1, [], 0, h => by simp [ak_pad, ak_nth] at h
  | n + 1, [], j + 1, h => by
    have := ak_pad_nth n [] j h
    simp [ak_nth] at this
  | n + 1, a :: r, 0, h => h
  | n + 1, a :: r, j + 1, h => ak_pad_nth n r j h
theorem ak_la_mem {ad : Nat → Nat} {v : Value} : ∀ (vs : List Value) (i j : Nat), ak_nth (ak_la vs) j = some (some v) → (i + j, ak_v ad v) ∈ lv_args i (vs.map (ak_v ad))
  | [], _, _, h => by simp [ak_la, ak_nth] at h
  | u :: r, i, j, h => by
    have one : ak_v ad u = ak_v ad u → (ak_v ad u).category = 1 → ak_nth (some u :: ak_la r) j = some (some v) → (i + j, ak_v ad v) ∈ lv_args i ((u :: r).map (ak_v ad)) := by
      intro _ hc h
      rw [List.map_cons, lv_args, if_neg (by rw [hc]; decide)]
      match j, h with
      | 0, h =>
        simp only [ak_nth, Option.some.injEq] at h
        subst h
        exact List.mem_cons_self
      | j' + 1, h =>
        have := ak_la_mem (ad := ad) r (i + 1) j' h
        rw [show i + 1 + j' = i + (j' + 1) by omega] at this
        exact List.mem_cons_of_mem _ this
    cases u with
    | long x =>
      match j, h with
      | 0, h =>
        simp only [ak_la, ak_nth, Option.some.injEq] at h
        subst h
        exact List.mem_cons_self
      | 1, h => simp [ak_la, ak_nth] at h
      | j' + 2, h =>
        have := ak_la_mem (ad := ad) r (i + 2) j' h
        rw [show i + 2 + j' = i + (j' + 2) by omega] at this
        rw [List.map_cons, lv_args, if_pos (show (ak_v ad (Value.long x)).category = 2 from rfl)]
        exact List.mem_cons_of_mem _ this
    | double x =>
      match j, h with
      | 0, h =>
        simp only [ak_la, ak_nth, Option.some.injEq] at h
        subst h
        exact List.mem_cons_self
      | 1, h => simp [ak_la, ak_nth] at h
      | j' + 2, h =>
        have := ak_la_mem (ad := ad) r (i + 2) j' h
        rw [show i + 2 + j' = i + (j' + 2) by omega] at this
        rw [List.map_cons, lv_args, if_pos (show (ak_v ad (Value.double x)).category = 2 from rfl)]
        exact List.mem_cons_of_mem _ this
    | int x => exact one rfl rfl h
    | float x => exact one rfl rfl h
    | null => exact one rfl rfl h
    | ref x => exact one rfl rfl h
    | retAddr x => exact one rfl rfl h
theorem ak_sl_len {ad : Nat → Nat} : ∀ (vs : List Value), (lg_sl (vs.map (ak_v ad))).length = (ak_la vs).length
  | [] => rfl
  | u :: r => by
    have ih := ak_sl_len (ad := ad) r
    cases u <;> simp [lg_sl, ak_la, ak_v, Value.category] at ih ⊢ <;> omega
/-- a method's formula -/
def ak_VC (lay : List ak_C) (cs : Nat → ak_P) (bl : List (Nat × List ak_I)) (nL : Nat) (pt : ak_P) : Prop :=
  ∀ (vs : List Value) (s : ak_S) (Qp : Option Value → ak_S → Prop), pt vs s Qp → (ak_la vs).length ≤ nL ∧ ∀ J : ak_KK, (∀ n pc ls st s, ak_run lay cs Qp J bl n pc ls st s → J pc ls st s) → J 0 (ak_pad nL (ak_la vs)) [] s
/-- a callee -/
def ak_CC (l : Launch) (cl : List vw_C) (lay : List ak_C) (ws : List Cond) (own : String) (R : Room) (pt : ak_P) (n b ci : Nat) : Prop :=
  ∃ (y : MethodName) (wsC : List Cond) (rmC : Room) (bytes : ByteArray) (mL : Nat) (ret : Option FieldType), ak_Ctr l cl lay y wsC rmC pt ∧
    ((∃ q : vw_C, cl[ci]? = some q ∧ ∀ (s0 : State) (args : Array Value), (∀ w ∈ ws, w.before args s0 = true) → CallW R s0 args own q.1 n y bytes mL ret wsC rmC 0 0 b) ∨
     (ci = 1000 ∧ ∀ (s0 : State) (args : Array Value), (∀ w ∈ ws, w.before args s0 = true) → CallB R s0 args own n y bytes mL ret wsC rmC 0 0 b ∧ (Cond.static y).before args s0 = true))
theorem ak_find_ok {cc : ByteArray} {Ts : List Cond} {own : String} {cl : List vw_C} {nL : Nat} {rty : Option FieldType} {reg : List (Nat × Nat × Nat)} {bl : List (Nat × List ak_I)} (h : ak_okM cc Ts own cl nL rty reg bl = true) (pc : Nat) : ak_okB cc Ts own cl nL rty reg pc (ak_find bl pc) = true := by
  induction bl with
  | nil => rfl
  | cons q r ih =>
    obtain ⟨k, is⟩ := q
    simp only [ak_okM, List.all_cons, Bool.and_eq_true] at h
    simp only [ak_find]
    split
    · rename_i e
      subst e
      exact h.1
    · exact ih (by simp only [ak_okM]; exact h.2)
set_option maxHeartbeats 1000000 in
theorem ak_met {l : Launch} {cl : List vw_C} {lay : List ak_C} {y : MethodName} {ws ws' : List Cond} {rm : Room} {cc : ByteArray} {maxL : Nat} {rty : Option FieldType} {pt : ak_P} {bl : List (Nat × List ak_I)} {cs : Nat → ak_P} {reg : List (Nat × Nat × Nat)}
    (hy : plainName y.cls = true) (hw : ws = Cond.code y cc maxL rty :: ws') (hCL : ak_CL cl ws) (hno : cl[1000]? = none) (hok : ak_okM cc ws y.cls cl maxL rty reg bl = true)
    (hcc : ∀ a n b ci, ak_nth reg a = some (n, b, ci) → ak_CC l cl lay ws y.cls rm (cs a) n b ci)
    (hvc : ak_VC lay cs bl maxL pt) : ak_Ctr l cl lay y ws rm pt := by
  intro D ad tyc sz vs σ Qp hinj hpt
  obtain ⟨hlen, hvc⟩ := hvc vs σ Qp hpt
  refine Met.ofW (cc := cc) (maxL := maxL) (ret := rty) hy hw ?_
  intro p e s m args below meth c s₁ B hml hv
  obtain ⟨rfl, hsz, hP, hK⟩ := hv
  have hx := B.exec
  have hb := B.bytes
  have hr := B.returns
  have hts := atoms_spec (ws := ws) B.pre
  have hown : s.vm.findClass y.cls = some m.cls := findClass_of_methodNamed B.named
  have hlocks := B.notSynchronized
  subst hsz
  have hAd : ∀ k, k < lay.length → ak_A lay ad s.heap.size (ad k) := fun k hk => Or.inl ⟨k, hk, rfl⟩
  have hA : ∀ q, s.heap.size ≤ q → ak_A lay ad s.heap.size q := fun q h => Or.inr h
  have g : ak_G p s m (vs.map (ak_v ad)).toArray c cc ws y.cls D cl lay ad tyc (ak_A lay ad s.heap.size) := ⟨hx, hb, hts, hown, hK, hinj, hAd, hCL⟩
  obtain ⟨AJ, hAJ⟩ : ∃ AJ : ak_KK, AJ = ak_J p l e (headSpec ws rm).room s m (vs.map (ak_v ad)).toArray below meth c 0 0 (MQ below (ak_Q D cl lay ad tyc s.heap.size Qp) (vs.map (ak_v ad)).toArray s 0 0 (ak_A lay ad s.heap.size)) D cl lay ad tyc (ak_A lay ad s.heap.size) s.heap maxL := ⟨_, rfl⟩
  have hri : ∀ pc ls x s', decode cc pc = .ok (.ireturn, 1) → (rty = some .int ∨ (rty = some .boolean ∧ (x = 0 ∨ x = 1))) → Qp (some (.int x)) s' → AJ pc ls [.int x] s' := by
    intro pc ls x s' hd ht hq
    subst hAJ
    intro H locs lsA hP hS hl
    rcases ht with ht | ⟨ht, hx01⟩
    · exact W.zret (ty := .int) hx hb (hr.trans ht) rfl (fun t ht hW => ⟨⟨some (.int x), s', rfl, hq, by rw [ht]; exact hP, hK.moved hW.alike⟩, hS.F ht⟩) hS.2.2 hd
    · exact W.zret (ty := .boolean) hx hb (hr.trans ht) (by rcases hx01 with rfl | rfl <;> rfl) (fun t ht hW => ⟨⟨some (.int x), s', rfl, hq, by rw [ht]; exact hP, hK.moved hW.alike⟩, hS.F ht⟩) hS.2.2 hd
  have hrv : ∀ pc ls s', decode cc pc = .ok (.return_, 1) → rty = none → Qp none s' → AJ pc ls [] s' := by
    intro pc ls s' hd ht hq
    subst hAJ
    intro H locs lsA hP hS hl
    exact W.vret hx hb (hr.trans ht) (fun t ht hW => ⟨⟨none, s', rfl, hq, by rw [ht]; exact hP, hK.moved hW.alike⟩, hS.F ht⟩) hS.2.2 hd
  have hcv : ∀ a n b ci, ak_nth reg a = some (n, b, ci) → ∀ pc ls (vs rest : List Value) s Qp, decode cc pc = .ok (.invokevirtual n, 3) → vs.length = b + 1 → ak_rc lay vs ci → (rest.map fun v => v.category).sum ≤ 8 → cs a vs s Qp → (∀ r s', Qp r s' → AJ (pc + 3) ls (r.toList ++ rest) s') → AJ pc ls (vs.reverse ++ rest) s := by
    intro a n b ci hreg pc ls vs' rest s' Qp' h1 h2 h3 h4 h5 h6
    obtain ⟨yC, wsC, rmC, bytes, mL, ret, hC, hcw⟩ := hcc a n b ci hreg
    rcases hcw with ⟨q, hq, hcw⟩ | ⟨hci, hcw⟩
    · subst hAJ
      exact ak_hcv g hml hA ⟨Nat.zero_le _, Nat.zero_le _⟩ hq hC (hcw s _ hts) pc ls vs' rest s' Qp' h1 h2 h3 h4 h5 h6
    · exfalso
      subst hci
      unfold ak_rc at h3
      split at h3
      · split at h3
        · rename_i d fs hlay
          subst h3
          have hP0 := hP _ _ (ak_W_at0 hlay)
          obtain ⟨r9, h9, _⟩ := hP0
          rw [hno] at h9
          cases h9
        · exact h3
      · exact h3
  have hct : ∀ a n b, ak_nth reg a = some (n, b, 1000) → ∀ pc ls (vs rest : List Value) s Qp, decode cc pc = .ok (.invokestatic n, 3) → vs.length = b → (rest.map fun v => v.category).sum ≤ 8 → cs a vs s Qp → (∀ r s', Qp r s' → AJ (pc + 3) ls (r.toList ++ rest) s') → AJ pc ls (vs.reverse ++ rest) s := by
    intro a n b hreg pc ls vs' rest s' Qp' h1 h2 h4 h5 h6
    obtain ⟨yC, wsC, rmC, bytes, mL, ret, hC, hcw⟩ := hcc a n b 1000 hreg
    rcases hcw with ⟨q, hq, hcw⟩ | ⟨hci, hcw⟩
    · rw [hno] at hq
      cases hq
    · subst hAJ
      exact ak_hct g hml hA ⟨Nat.zero_le _, Nat.zero_le _⟩ hC (hcw s _ hts) pc ls vs' rest s' Qp' h1 h2 h4 h5 h6
  have hblk : ∀ (Kc : ak_KK), (∀ pc ls st s, Kc pc ls st s → AJ pc ls st s) → ∀ (is : List ak_I) (pc : Nat), ak_okB cc ws y.cls cl maxL rty reg pc is = true → ∀ ls st s, ak_ev lay cs Qp Kc AJ is ls st s → AJ pc ls st s := by
    intro Kc hKc is
    induction is with
    | nil => intro pc _ ls st s h; exact h.elim
    | cons x r ih =>
      intro pc hok ls st s h
      simp only [ak_okB, Bool.and_eq_true, decide_eq_true_eq] at hok
      obtain ⟨⟨rfl, h1⟩, h2⟩ := hok
      exact ak_st_sound AJ hAJ g hKc (fun _ _ _ _ h => h) hri hrv hcv hct h1 (fun ls st s h => ih _ h2 ls st s h) h
  have hrun : ∀ n pc ls st s, ak_run lay cs Qp AJ bl n pc ls st s → AJ pc ls st s := by
    intro n
    induction n with
    | zero => intro pc ls st s h; exact h
    | succ n ih => intro pc ls st s h; exact hblk _ ih _ pc (ak_find_ok hok pc) ls st s h
  have h0 := hvc AJ hrun
  rw [lg_entry_eq]
  have hl := lv_entry (vs.map (ak_v ad)) (n := maxL) (by rw [ak_sl_len]; exact hlen)
  subst hAJ
  refine h0 s.heap [] _ hP va_S.rf ⟨hl.1, hl.2.1, fun i v hi => ?_⟩
  have hi := ak_la_mem (ad := ad) vs 0 i (ak_pad_nth _ _ _ hi)
  rw [Nat.zero_add] at hi
  exact hl.2.2 _ hi
end
section
/-! blocks, laid by program (wip/whole/gen.py) -/
def ws_K_has : List Cond := .code y_K_has prog_4_method_2_code 2 (some .boolean) :: wd_tbl
def rm_K_has : Room := { frames := 0, cells := 0, slots := 0, locals := 0 }
def bk_K_has_0 : List ak_I := [(0, .iload_n 1, 1, 0, 0, []), (1, .iconst 1, 0, 0, 1, []), (2, .if_icmp .lt 15, 17, 0, 0, []), (5, .iload_n 1, 1, 0, 0, []), (6, .aload_n 0, 0, 0, 0, []), (7, .getfield 21, 1, 0, 0, [(0, 40)]), (10, .if_icmp .gt 7, 17, 0, 0, []), (13, .iconst 1, 0, 0, 1, []), (14, .goto 4, 18, 0, 0, [])]
def bk_K_has_17 : List ak_I := [(17, .iconst 0, 0, 0, 0, []), (18, .ireturn, 0, 1, 0, [])]
def bk_K_has_18 : List ak_I := [(18, .ireturn, 0, 1, 0, [])]
def bl_K_has : List (Nat × List ak_I) := [(0, bk_K_has_0), (17, bk_K_has_17), (18, bk_K_has_18)]
def rg_K_has : List (Nat × Nat × Nat) := []
theorem ok_K_has : ak_okM prog_4_method_2_code ws_K_has y_K_has.cls cl_all 2 (some .boolean) rg_K_has bl_K_has = true := by decide +kernel
def ws_K_add : List Cond := .code y_K_add prog_4_method_3_code 2 (some .int) :: wd_tbl
def rm_K_add : Room := { frames := 0, cells := 0, slots := 0, locals := 0 }
def bk_K_add_0 : List ak_I := [(0, .aload_n 0, 0, 0, 0, []), (1, .getfield 21, 1, 0, 0, [(0, 40)]), (4, .bipush 15, 0, 0, 15, []), (6, .if_icmp .lt 5, 11, 0, 0, []), (9, .iconst (-1), 0, 0, (-1), []), (10, .ireturn, 0, 0, 0, [])]
def bk_K_add_11 : List ak_I := [(11, .aload_n 0, 0, 0, 0, []), (12, .dup, 0, 0, 0, []), (13, .getfield 21, 1, 0, 0, [(0, 40)]), (16, .iconst 1, 0, 0, 1, []), (17, .iadd, 0, 0, 0, []), (18, .putfield 21, 1, 0, 0, [(0, 40)]), (21, .aload_n 0, 0, 0, 0, []), (22, .getfield 9, 1, 1, 0, [(0, 42)]), (25, .aload_n 0, 0, 0, 0, []), (26, .getfield 21, 1, 0, 0, [(0, 40)]), (29, .iload_n 1, 1, 0, 0, []), (30, .iastore, 0, 0, 0, []), (31, .aload_n 0, 0, 0, 0, []), (32, .getfield 21, 1, 0, 0, [(0, 40)]), (35, .ireturn, 0, 0, 0, [])]
def bl_K_add : List (Nat × List ak_I) := [(0, bk_K_add_0), (11, bk_K_add_11)]
def rg_K_add : List (Nat × Nat × Nat) := []
theorem ok_K_add : ak_okM prog_4_method_3_code ws_K_add y_K_add.cls cl_all 2 (some .int) rg_K_add bl_K_add = true := by decide +kernel
def ws_S_has : List Cond := .code y_S_has prog_5_method_2_code 2 (some .boolean) :: wd_tbl
def rm_S_has : Room := { frames := 0, cells := 0, slots := 0, locals := 0 }
def bk_S_has_0 : List ak_I := [(0, .iload_n 1, 1, 0, 0, []), (1, .iconst 1, 0, 0, 1, []), (2, .if_icmp .lt 15, 17, 0, 0, []), (5, .iload_n 1, 1, 0, 0, []), (6, .aload_n 0, 0, 0, 0, []), (7, .getfield 37, 2, 0, 0, [(0, 64)]), (10, .if_icmp .gt 7, 17, 0, 0, []), (13, .iconst 1, 0, 0, 1, []), (14, .goto 4, 18, 0, 0, [])]
def bk_S_has_17 : List ak_I := [(17, .iconst 0, 0, 0, 0, []), (18, .ireturn, 0, 1, 0, [])]
def bk_S_has_18 : List ak_I := [(18, .ireturn, 0, 1, 0, [])]
def bl_S_has : List (Nat × List ak_I) := [(0, bk_S_has_0), (17, bk_S_has_17), (18, bk_S_has_18)]
def rg_S_has : List (Nat × Nat × Nat) := []
theorem ok_S_has : ak_okM prog_5_method_2_code ws_S_has y_S_has.cls cl_all 2 (some .boolean) rg_S_has bl_S_has = true := by decide +kernel
def ws_S_is : List Cond := .code y_S_is prog_5_method_3_code 3 (some .boolean) :: wd_tbl
def rm_S_is : Room := { frames := 1, cells := 0, slots := 0, locals := 21 }
def bk_S_is_0 : List ak_I := [(0, .aload_n 0, 0, 0, 0, []), (1, .iload_n 1, 1, 0, 0, []), (2, .invokevirtual 41, 0, 1, 0, [(0, 2)]), (5, .ifCond .eq 17, 22, 0, 0, []), (8, .aload_n 0, 0, 0, 0, []), (9, .getfield 22, 2, 4, 0, [(0, 74)]), (12, .iload_n 1, 1, 0, 0, []), (13, .iaload, 0, 0, 0, []), (14, .iload_n 2, 2, 0, 0, []), (15, .if_icmp .ne 7, 22, 0, 0, []), (18, .iconst 1, 0, 0, 1, []), (19, .goto 4, 23, 0, 0, [])]
def bk_S_is_22 : List ak_I := [(22, .iconst 0, 0, 0, 0, []), (23, .ireturn, 0, 1, 0, [])]
def bk_S_is_23 : List ak_I := [(23, .ireturn, 0, 1, 0, [])]
def bl_S_is : List (Nat × List ak_I) := [(0, bk_S_is_0), (22, bk_S_is_22), (23, bk_S_is_23)]
def rg_S_is : List (Nat × Nat × Nat) := [(41, 1, 2)]
theorem ok_S_is : ak_okM prog_5_method_3_code ws_S_is y_S_is.cls cl_all 3 (some .boolean) rg_S_is bl_S_is = true := by decide +kernel
def ws_S_isOneUnder : List Cond := .code y_S_isOneUnder prog_5_method_4_code 4 (some .boolean) :: wd_tbl
def rm_S_isOneUnder : Room := { frames := 0, cells := 0, slots := 0, locals := 0 }
def bk_S_isOneUnder_0 : List ak_I := [(0, .aload_n 0, 0, 0, 0, []), (1, .getfield 22, 2, 4, 0, [(0, 74)]), (4, .iload_n 1, 1, 0, 0, []), (5, .iaload, 0, 0, 0, []), (6, .iconst 1, 0, 0, 1, []), (7, .if_icmp .ne 27, 34, 0, 0, []), (10, .aload_n 0, 0, 0, 0, []), (11, .getfield 9, 2, 1, 0, [(0, 67)]), (14, .iload_n 1, 1, 0, 0, []), (15, .iaload, 0, 0, 0, []), (16, .iload_n 2, 2, 0, 0, []), (17, .if_icmp .ne 17, 34, 0, 0, []), (20, .aload_n 0, 0, 0, 0, []), (21, .getfield 15, 2, 2, 0, [(0, 70)]), (24, .iload_n 1, 1, 0, 0, []), (25, .iaload, 0, 0, 0, []), (26, .iload_n 3, 3, 0, 0, []), (27, .if_icmp .ne 7, 34, 0, 0, []), (30, .iconst 1, 0, 0, 1, []), (31, .goto 4, 35, 0, 0, [])]
def bk_S_isOneUnder_34 : List ak_I := [(34, .iconst 0, 0, 0, 0, []), (35, .ireturn, 0, 1, 0, [])]
def bk_S_isOneUnder_35 : List ak_I := [(35, .ireturn, 0, 1, 0, [])]
def bl_S_isOneUnder : List (Nat × List ak_I) := [(0, bk_S_isOneUnder_0), (34, bk_S_isOneUnder_34), (35, bk_S_isOneUnder_35)]
def rg_S_isOneUnder : List (Nat × Nat × Nat) := []
theorem ok_S_isOneUnder : ak_okM prog_5_method_4_code ws_S_isOneUnder y_S_isOneUnder.cls cl_all 4 (some .boolean) rg_S_isOneUnder bl_S_isOneUnder = true := by decide +kernel
def ws_S_wereOf : List Cond := .code y_S_wereOf prog_5_method_5_code 3 (some .boolean) :: wd_tbl
def rm_S_wereOf : Room := { frames := 0, cells := 0, slots := 0, locals := 0 }
def bk_S_wereOf_0 : List ak_I := [(0, .iconst 1, 0, 0, 1, []), (1, .istore_n 2, 2, 0, 0, []), (2, .nop, 0, 0, 0, [])]
def bk_S_wereOf_2 : List ak_I := [(2, .iload_n 2, 2, 0, 0, []), (3, .aload_n 0, 0, 0, 0, []), (4, .getfield 37, 2, 0, 0, [(0, 64)]), (7, .if_icmp .gt 21, 28, 0, 0, []), (10, .aload_n 0, 0, 0, 0, []), (11, .getfield 9, 2, 1, 0, [(0, 67)]), (14, .iload_n 2, 2, 0, 0, []), (15, .iaload, 0, 0, 0, []), (16, .iload_n 1, 1, 0, 0, []), (17, .if_icmp .ne 5, 22, 0, 0, []), (20, .iconst 1, 0, 0, 1, []), (21, .ireturn, 0, 1, 0, [])]
def bk_S_wereOf_22 : List ak_I := [(22, .iinc 2 1, 2, 0, 1, []), (25, .goto (-23), 2, 1, 0, [])]
def bk_S_wereOf_28 : List ak_I := [(28, .iconst 0, 0, 0, 0, []), (29, .ireturn, 0, 1, 0, [])]
def bl_S_wereOf : List (Nat × List ak_I) := [(0, bk_S_wereOf_0), (2, bk_S_wereOf_2), (22, bk_S_wereOf_22), (28, bk_S_wereOf_28)]
def rg_S_wereOf : List (Nat × Nat × Nat) := []
theorem ok_S_wereOf : ak_okM prog_5_method_5_code ws_S_wereOf y_S_wereOf.cls cl_all 3 (some .boolean) rg_S_wereOf bl_S_wereOf = true := by decide +kernel
def ws_S_hasKey : List Cond := .code y_S_hasKey prog_5_method_6_code 6 (some .boolean) :: wd_tbl
def rm_S_hasKey : Room := { frames := 1, cells := 0, slots := 0, locals := 23 }
def bk_S_hasKey_0 : List ak_I := [(0, .iconst 1, 0, 0, 1, []), (1, .istore 5, 5, 0, 0, []), (3, .nop, 0, 0, 0, [])]
def bk_S_hasKey_3 : List ak_I := [(3, .iload 5, 5, 0, 0, []), (5, .aload_n 0, 0, 0, 0, []), (6, .getfield 37, 2, 0, 0, [(0, 64)]), (9, .if_icmp .gt 34, 43, 0, 0, []), (12, .aload_n 0, 0, 0, 0, []), (13, .getfield 18, 2, 3, 0, [(0, 72)]), (16, .iload 5, 5, 0, 0, []), (18, .laload, 0, 0, 0, []), (19, .lload_n 3, 3, 0, 0, []), (20, .lcmp, 0, 0, 0, []), (21, .ifCond .ne 16, 37, 0, 0, []), (24, .aload_n 0, 0, 0, 0, []), (25, .iload 5, 5, 0, 0, []), (27, .iload_n 1, 1, 0, 0, []), (28, .iload_n 2, 2, 0, 0, []), (29, .invokevirtual 45, 0, 3, 0, [(0, 2)]), (32, .ifCond .eq 5, 37, 0, 0, []), (35, .iconst 1, 0, 0, 1, []), (36, .ireturn, 0, 1, 0, [])]
def bk_S_hasKey_37 : List ak_I := [(37, .iinc 5 1, 5, 0, 1, []), (40, .goto (-37), 3, 1, 0, [])]
def bk_S_hasKey_43 : List ak_I := [(43, .iconst 0, 0, 0, 0, []), (44, .ireturn, 0, 1, 0, [])]
def bl_S_hasKey : List (Nat × List ak_I) := [(0, bk_S_hasKey_0), (3, bk_S_hasKey_3), (37, bk_S_hasKey_37), (43, bk_S_hasKey_43)]
def rg_S_hasKey : List (Nat × Nat × Nat) := [(45, 3, 2)]
theorem ok_S_hasKey : ak_okM prog_5_method_6_code ws_S_hasKey y_S_hasKey.cls cl_all 6 (some .boolean) rg_S_hasKey bl_S_hasKey = true := by decide +kernel
def ws_S_truth : List Cond := .code y_S_truth prog_5_method_12_code 3 (some .int) :: wd_tbl
def rm_S_truth : Room := { frames := 0, cells := 0, slots := 0, locals := 0 }
def bk_S_truth_0 : List ak_I := [(0, .iload_n 2, 2, 0, 0, []), (1, .ifCond .ne 10, 11, 0, 0, []), (4, .aload_n 0, 0, 0, 0, []), (5, .getfield 15, 2, 2, 0, [(0, 70)]), (8, .iload_n 1, 1, 0, 0, []), (9, .iaload, 0, 0, 0, []), (10, .ireturn, 0, 0, 0, [])]
def bk_S_truth_11 : List ak_I := [(11, .iload_n 2, 2, 0, 0, []), (12, .iconst 1, 0, 0, 1, []), (13, .if_icmp .ne 12, 25, 0, 0, []), (16, .aload_n 0, 0, 0, 0, []), (17, .getfield 25, 2, 5, 0, [(0, 75)]), (20, .iload_n 1, 1, 0, 0, []), (21, .iaload, 0, 0, 0, []), (22, .goto 9, 31, 0, 0, [])]
def bk_S_truth_25 : List ak_I := [(25, .aload_n 0, 0, 0, 0, []), (26, .getfield 28, 2, 6, 0, [(0, 78)]), (29, .iload_n 1, 1, 0, 0, []), (30, .iaload, 0, 0, 0, []), (31, .ireturn, 0, 0, 0, [])]
def bk_S_truth_31 : List ak_I := [(31, .ireturn, 0, 0, 0, [])]
def bl_S_truth : List (Nat × List ak_I) := [(0, bk_S_truth_0), (11, bk_S_truth_11), (25, bk_S_truth_25), (31, bk_S_truth_31)]
def rg_S_truth : List (Nat × Nat × Nat) := []
theorem ok_S_truth : ak_okM prog_5_method_12_code ws_S_truth y_S_truth.cls cl_all 3 (some .int) rg_S_truth bl_S_truth = true := by decide +kernel
def ws_S_setRight : List Cond := .code y_S_setRight prog_5_method_13_code 3 none :: wd_tbl
def rm_S_setRight : Room := { frames := 1, cells := 0, slots := 0, locals := 22 }
def bk_S_setRight_0 : List ak_I := [(0, .iconst 0, 0, 0, 0, []), (1, .istore_n 2, 2, 0, 0, []), (2, .nop, 0, 0, 0, [])]
def bk_S_setRight_2 : List ak_I := [(2, .iload_n 2, 2, 0, 0, []), (3, .iconst 3, 0, 0, 3, []), (4, .if_icmp .ge 25, 29, 0, 0, []), (7, .aload_n 0, 0, 0, 0, []), (8, .getfield 31, 2, 7, 0, [(0, 80)]), (11, .iload_n 1, 1, 0, 0, []), (12, .iconst 3, 0, 0, 3, []), (13, .imul, 0, 0, 0, []), (14, .iload_n 2, 2, 0, 0, []), (15, .iadd, 0, 0, 0, []), (16, .aload_n 0, 0, 0, 0, []), (17, .iload_n 1, 1, 0, 0, []), (18, .iload_n 2, 2, 0, 0, []), (19, .invokevirtual 56, 0, 2, 0, [(0, 2)]), (22, .iastore, 0, 0, 0, []), (23, .iinc 2 1, 2, 0, 1, []), (26, .goto (-24), 2, 1, 0, [])]
def bk_S_setRight_29 : List ak_I := [(29, .return_, 0, 0, 0, [])]
def bl_S_setRight : List (Nat × List ak_I) := [(0, bk_S_setRight_0), (2, bk_S_setRight_2), (29, bk_S_setRight_29)]
def rg_S_setRight : List (Nat × Nat × Nat) := [(56, 2, 2)]
theorem ok_S_setRight : ak_okM prog_5_method_13_code ws_S_setRight y_S_setRight.cls cl_all 3 none rg_S_setRight bl_S_setRight = true := by decide +kernel
def ws_S_putByKey : List Cond := .code y_S_putByKey prog_5_method_8_code 3 none :: wd_tbl
def rm_S_putByKey : Room := { frames := 0, cells := 0, slots := 0, locals := 0 }
def bk_S_putByKey_0 : List ak_I := [(0, .iload_n 1, 1, 0, 0, []), (1, .iconst 1, 0, 0, 1, []), (2, .isub, 0, 0, 0, []), (3, .istore_n 2, 2, 0, 0, []), (4, .nop, 0, 0, 0, [])]
def bk_S_putByKey_4 : List ak_I := [(4, .iload_n 2, 2, 0, 0, []), (5, .ifCond .le 46, 51, 0, 0, []), (8, .aload_n 0, 0, 0, 0, []), (9, .getfield 18, 2, 3, 0, [(0, 72)]), (12, .aload_n 0, 0, 0, 0, []), (13, .getfield 34, 2, 8, 0, [(0, 81)]), (16, .iload_n 2, 2, 0, 0, []), (17, .iconst 1, 0, 0, 1, []), (18, .isub, 0, 0, 0, []), (19, .iaload, 0, 0, 0, []), (20, .laload, 0, 0, 0, []), (21, .aload_n 0, 0, 0, 0, []), (22, .getfield 18, 2, 3, 0, [(0, 72)]), (25, .iload_n 1, 1, 0, 0, []), (26, .laload, 0, 0, 0, []), (27, .lcmp, 0, 0, 0, []), (28, .ifCond .le 23, 51, 0, 0, []), (31, .aload_n 0, 0, 0, 0, []), (32, .getfield 34, 2, 8, 0, [(0, 81)]), (35, .iload_n 2, 2, 0, 0, []), (36, .aload_n 0, 0, 0, 0, []), (37, .getfield 34, 2, 8, 0, [(0, 81)]), (40, .iload_n 2, 2, 0, 0, []), (41, .iconst 1, 0, 0, 1, []), (42, .isub, 0, 0, 0, []), (43, .iaload, 0, 0, 0, []), (44, .iastore, 0, 0, 0, []), (45, .iinc 2 (-1), 2, 0, (-1), []), (48, .goto (-44), 4, 1, 0, [])]
def bk_S_putByKey_51 : List ak_I := [(51, .aload_n 0, 0, 0, 0, []), (52, .getfield 34, 2, 8, 0, [(0, 81)]), (55, .iload_n 2, 2, 0, 0, []), (56, .iload_n 1, 1, 0, 0, []), (57, .iastore, 0, 0, 0, []), (58, .return_, 0, 0, 0, [])]
def bl_S_putByKey : List (Nat × List ak_I) := [(0, bk_S_putByKey_0), (4, bk_S_putByKey_4), (51, bk_S_putByKey_51)]
def rg_S_putByKey : List (Nat × Nat × Nat) := []
theorem ok_S_putByKey : ak_okM prog_5_method_8_code ws_S_putByKey y_S_putByKey.cls cl_all 3 none rg_S_putByKey bl_S_putByKey = true := by decide +kernel
def ws_S_add : List Cond := .code y_S_add prog_5_method_7_code 5 (some .int) :: wd_tbl
def rm_S_add : Room := { frames := 2, cells := 0, slots := 0, locals := 44 }
def bk_S_add_0 : List ak_I := [(0, .aload_n 0, 0, 0, 0, []), (1, .getfield 37, 2, 0, 0, [(0, 64)]), (4, .sipush 250, 0, 0, 250, []), (7, .if_icmp .lt 5, 12, 0, 0, []), (10, .iconst (-1), 0, 0, (-1), []), (11, .ireturn, 0, 0, 0, [])]
def bk_S_add_12 : List ak_I := [(12, .aload_n 0, 0, 0, 0, []), (13, .dup, 0, 0, 0, []), (14, .getfield 37, 2, 0, 0, [(0, 64)]), (17, .iconst 1, 0, 0, 1, []), (18, .iadd, 0, 0, 0, []), (19, .putfield 37, 2, 0, 0, [(0, 64)]), (22, .aload_n 0, 0, 0, 0, []), (23, .getfield 9, 2, 1, 0, [(0, 67)]), (26, .aload_n 0, 0, 0, 0, []), (27, .getfield 37, 2, 0, 0, [(0, 64)]), (30, .iload_n 1, 1, 0, 0, []), (31, .iastore, 0, 0, 0, []), (32, .aload_n 0, 0, 0, 0, []), (33, .getfield 15, 2, 2, 0, [(0, 70)]), (36, .aload_n 0, 0, 0, 0, []), (37, .getfield 37, 2, 0, 0, [(0, 64)]), (40, .iload_n 2, 2, 0, 0, []), (41, .iastore, 0, 0, 0, []), (42, .aload_n 0, 0, 0, 0, []), (43, .getfield 18, 2, 3, 0, [(0, 72)]), (46, .aload_n 0, 0, 0, 0, []), (47, .getfield 37, 2, 0, 0, [(0, 64)]), (50, .lload_n 3, 3, 0, 0, []), (51, .lastore, 0, 0, 0, []), (52, .aload_n 0, 0, 0, 0, []), (53, .getfield 22, 2, 4, 0, [(0, 74)]), (56, .aload_n 0, 0, 0, 0, []), (57, .getfield 37, 2, 0, 0, [(0, 64)]), (60, .iconst 1, 0, 0, 1, []), (61, .iastore, 0, 0, 0, []), (62, .aload_n 0, 0, 0, 0, []), (63, .aload_n 0, 0, 0, 0, []), (64, .getfield 37, 2, 0, 0, [(0, 64)]), (67, .invokevirtual 49, 0, 1, 0, [(0, 2)]), (70, .aload_n 0, 0, 0, 0, []), (71, .aload_n 0, 0, 0, 0, []), (72, .getfield 37, 2, 0, 0, [(0, 64)]), (75, .invokevirtual 53, 1, 1, 0, [(0, 2)]), (78, .aload_n 0, 0, 0, 0, []), (79, .getfield 37, 2, 0, 0, [(0, 64)]), (82, .ireturn, 0, 0, 0, [])]
def bl_S_add : List (Nat × List ak_I) := [(0, bk_S_add_0), (12, bk_S_add_12)]
def rg_S_add : List (Nat × Nat × Nat) := [(49, 1, 2), (53, 1, 2)]
theorem ok_S_add : ak_okM prog_5_method_7_code ws_S_add y_S_add.cls cl_all 5 (some .int) rg_S_add bl_S_add = true := by decide +kernel
def ws_S_logicalChild : List Cond := .code y_S_logicalChild prog_5_method_9_code 6 (some .int) :: wd_tbl
def rm_S_logicalChild : Room := { frames := 0, cells := 0, slots := 0, locals := 0 }
def bk_S_logicalChild_0 : List ak_I := [(0, .iload_n 2, 2, 0, 0, []), (1, .istore_n 3, 3, 0, 0, []), (2, .iconst 0, 0, 0, 0, []), (3, .istore 4, 4, 0, 0, []), (5, .nop, 0, 0, 0, [])]
def bk_S_logicalChild_5 : List ak_I := [(5, .iload 4, 4, 0, 0, []), (7, .aload_n 0, 0, 0, 0, []), (8, .getfield 37, 2, 0, 0, [(0, 64)]), (11, .if_icmp .ge 39, 50, 0, 0, []), (14, .aload_n 0, 0, 0, 0, []), (15, .getfield 34, 2, 8, 0, [(0, 81)]), (18, .iload 4, 4, 0, 0, []), (20, .iaload, 0, 0, 0, []), (21, .istore 5, 5, 0, 0, []), (23, .aload_n 0, 0, 0, 0, []), (24, .getfield 25, 2, 5, 0, [(0, 75)]), (27, .iload 5, 5, 0, 0, []), (29, .iaload, 0, 0, 0, []), (30, .iload_n 1, 1, 0, 0, []), (31, .if_icmp .ne 13, 44, 0, 0, []), (34, .iload_n 3, 3, 0, 0, []), (35, .iinc 3 (-1), 3, 0, (-1), []), (38, .ifCond .ne 6, 44, 0, 0, []), (41, .iload 5, 5, 0, 0, []), (43, .ireturn, 0, 0, 0, [])]
def bk_S_logicalChild_44 : List ak_I := [(44, .iinc 4 1, 4, 0, 1, []), (47, .goto (-42), 5, 1, 0, [])]
def bk_S_logicalChild_50 : List ak_I := [(50, .iconst 0, 0, 0, 0, []), (51, .ireturn, 0, 0, 0, [])]
def bl_S_logicalChild : List (Nat × List ak_I) := [(0, bk_S_logicalChild_0), (5, bk_S_logicalChild_5), (44, bk_S_logicalChild_44), (50, bk_S_logicalChild_50)]
def rg_S_logicalChild : List (Nat × Nat × Nat) := []
theorem ok_S_logicalChild : ak_okM prog_5_method_9_code ws_S_logicalChild y_S_logicalChild.cls cl_all 6 (some .int) rg_S_logicalChild bl_S_logicalChild = true := by decide +kernel
def ws_S_join : List Cond := .code y_S_join prog_5_method_10_code 3 none :: wd_tbl
def rm_S_join : Room := { frames := 2, cells := 0, slots := 0, locals := 44 }
def bk_S_join_0 : List ak_I := [(0, .aload_n 0, 0, 0, 0, []), (1, .getfield 25, 2, 5, 0, [(0, 75)]), (4, .iload_n 1, 1, 0, 0, []), (5, .iload_n 2, 2, 0, 0, []), (6, .iastore, 0, 0, 0, []), (7, .aload_n 0, 0, 0, 0, []), (8, .getfield 28, 2, 6, 0, [(0, 78)]), (11, .iload_n 2, 2, 0, 0, []), (12, .dup2, 0, 0, 0, []), (13, .iaload, 0, 0, 0, []), (14, .iconst 1, 0, 0, 1, []), (15, .iadd, 0, 0, 0, []), (16, .iastore, 0, 0, 0, []), (17, .aload_n 0, 0, 0, 0, []), (18, .iload_n 1, 1, 0, 0, []), (19, .invokevirtual 49, 0, 1, 0, [(0, 2)]), (22, .aload_n 0, 0, 0, 0, []), (23, .iload_n 2, 2, 0, 0, []), (24, .invokevirtual 49, 0, 1, 0, [(0, 2)]), (27, .return_, 0, 0, 0, [])]
def bl_S_join : List (Nat × List ak_I) := [(0, bk_S_join_0)]
def rg_S_join : List (Nat × Nat × Nat) := [(49, 1, 2)]
theorem ok_S_join : ak_okM prog_5_method_10_code ws_S_join y_S_join.cls cl_all 3 none rg_S_join bl_S_join = true := by decide +kernel
def ws_S_part : List Cond := .code y_S_part prog_5_method_11_code 3 none :: wd_tbl
def rm_S_part : Room := { frames := 2, cells := 0, slots := 0, locals := 44 }
def bk_S_part_0 : List ak_I := [(0, .aload_n 0, 0, 0, 0, []), (1, .getfield 25, 2, 5, 0, [(0, 75)]), (4, .iload_n 1, 1, 0, 0, []), (5, .iaload, 0, 0, 0, []), (6, .istore_n 2, 2, 0, 0, []), (7, .iload_n 2, 2, 0, 0, []), (8, .ifCond .ne 4, 12, 0, 0, []), (11, .return_, 0, 0, 0, [])]
def bk_S_part_12 : List ak_I := [(12, .aload_n 0, 0, 0, 0, []), (13, .getfield 25, 2, 5, 0, [(0, 75)]), (16, .iload_n 1, 1, 0, 0, []), (17, .iconst 0, 0, 0, 0, []), (18, .iastore, 0, 0, 0, []), (19, .aload_n 0, 0, 0, 0, []), (20, .getfield 28, 2, 6, 0, [(0, 78)]), (23, .iload_n 2, 2, 0, 0, []), (24, .dup2, 0, 0, 0, []), (25, .iaload, 0, 0, 0, []), (26, .iconst 1, 0, 0, 1, []), (27, .isub, 0, 0, 0, []), (28, .iastore, 0, 0, 0, []), (29, .aload_n 0, 0, 0, 0, []), (30, .iload_n 2, 2, 0, 0, []), (31, .invokevirtual 49, 0, 1, 0, [(0, 2)]), (34, .return_, 0, 0, 0, [])]
def bl_S_part : List (Nat × List ak_I) := [(0, bk_S_part_0), (12, bk_S_part_12)]
def rg_S_part : List (Nat × Nat × Nat) := [(49, 1, 2)]
theorem ok_S_part : ak_okM prog_5_method_11_code ws_S_part y_S_part.cls cl_all 3 none rg_S_part bl_S_part = true := by decide +kernel
def ws_S_say : List Cond := .code y_S_say prog_5_method_14_code 5 (some .int) :: wd_tbl
def rm_S_say : Room := { frames := 0, cells := 0, slots := 0, locals := 0 }
def bk_S_say_0 : List ak_I := [(0, .aload_n 0, 0, 0, 0, []), (1, .getfield 31, 2, 7, 0, [(0, 80)]), (4, .iload_n 1, 1, 0, 0, []), (5, .iconst 3, 0, 0, 3, []), (6, .imul, 0, 0, 0, []), (7, .iload_n 2, 2, 0, 0, []), (8, .iadd, 0, 0, 0, []), (9, .iaload, 0, 0, 0, []), (10, .istore 4, 4, 0, 0, []), (12, .aload_n 0, 0, 0, 0, []), (13, .getfield 31, 2, 7, 0, [(0, 80)]), (16, .iload_n 1, 1, 0, 0, []), (17, .iconst 3, 0, 0, 3, []), (18, .imul, 0, 0, 0, []), (19, .iload_n 2, 2, 0, 0, []), (20, .iadd, 0, 0, 0, []), (21, .iload_n 3, 3, 0, 0, []), (22, .iastore, 0, 0, 0, []), (23, .iload 4, 4, 0, 0, []), (25, .ireturn, 0, 0, 0, [])]
def bl_S_say : List (Nat × List ak_I) := [(0, bk_S_say_0)]
def rg_S_say : List (Nat × Nat × Nat) := []
theorem ok_S_say : ak_okM prog_5_method_14_code ws_S_say y_S_say.cls cl_all 5 (some .int) rg_S_say bl_S_say = true := by decide +kernel
def ws_S_wrongPointers : List Cond := .code y_S_wrongPointers prog_5_method_15_code 4 (some .int) :: wd_tbl
def rm_S_wrongPointers : Room := { frames := 1, cells := 0, slots := 0, locals := 22 }
def bk_S_wrongPointers_0 : List ak_I := [(0, .aload_n 0, 0, 0, 0, []), (1, .getfield 22, 2, 4, 0, [(0, 74)]), (4, .iload_n 1, 1, 0, 0, []), (5, .iaload, 0, 0, 0, []), (6, .ifCond .ne 5, 11, 0, 0, []), (9, .iconst 0, 0, 0, 0, []), (10, .ireturn, 0, 0, 0, [])]
def bk_S_wrongPointers_11 : List ak_I := [(11, .iconst 0, 0, 0, 0, []), (12, .istore_n 2, 2, 0, 0, []), (13, .iconst 0, 0, 0, 0, []), (14, .istore_n 3, 3, 0, 0, []), (15, .nop, 0, 0, 0, [])]
def bk_S_wrongPointers_15 : List ak_I := [(15, .iload_n 3, 3, 0, 0, []), (16, .iconst 3, 0, 0, 3, []), (17, .if_icmp .ge 31, 48, 0, 0, []), (20, .aload_n 0, 0, 0, 0, []), (21, .getfield 31, 2, 7, 0, [(0, 80)]), (24, .iload_n 1, 1, 0, 0, []), (25, .iconst 3, 0, 0, 3, []), (26, .imul, 0, 0, 0, []), (27, .iload_n 3, 3, 0, 0, []), (28, .iadd, 0, 0, 0, []), (29, .iaload, 0, 0, 0, []), (30, .aload_n 0, 0, 0, 0, []), (31, .iload_n 1, 1, 0, 0, []), (32, .iload_n 3, 3, 0, 0, []), (33, .invokevirtual 56, 0, 2, 0, [(0, 2)]), (36, .if_icmp .eq 6, 42, 0, 0, []), (39, .iinc 2 1, 2, 0, 1, []), (42, .iinc 3 1, 3, 0, 1, []), (45, .goto (-30), 15, 1, 0, [])]
def bk_S_wrongPointers_42 : List ak_I := [(42, .iinc 3 1, 3, 0, 1, []), (45, .goto (-30), 15, 1, 0, [])]
def bk_S_wrongPointers_48 : List ak_I := [(48, .iload_n 2, 2, 0, 0, []), (49, .ireturn, 0, 0, 0, [])]
def bl_S_wrongPointers : List (Nat × List ak_I) := [(0, bk_S_wrongPointers_0), (11, bk_S_wrongPointers_11), (15, bk_S_wrongPointers_15), (42, bk_S_wrongPointers_42), (48, bk_S_wrongPointers_48)]
def rg_S_wrongPointers : List (Nat × Nat × Nat) := [(56, 2, 2)]
theorem ok_S_wrongPointers : ak_okM prog_5_method_15_code ws_S_wrongPointers y_S_wrongPointers.cls cl_all 4 (some .int) rg_S_wrongPointers bl_S_wrongPointers = true := by decide +kernel
def ws_S_takeAway : List Cond := .code y_S_takeAway prog_5_method_16_code 2 none :: wd_tbl
def rm_S_takeAway : Room := { frames := 3, cells := 0, slots := 0, locals := 66 }
def bk_S_takeAway_0 : List ak_I := [(0, .aload_n 0, 0, 0, 0, []), (1, .getfield 22, 2, 4, 0, [(0, 74)]), (4, .iload_n 1, 1, 0, 0, []), (5, .iconst 2, 0, 0, 2, []), (6, .iastore, 0, 0, 0, []), (7, .aload_n 0, 0, 0, 0, []), (8, .getfield 15, 2, 2, 0, [(0, 70)]), (11, .iload_n 1, 1, 0, 0, []), (12, .iconst 0, 0, 0, 0, []), (13, .iastore, 0, 0, 0, []), (14, .aload_n 0, 0, 0, 0, []), (15, .iload_n 1, 1, 0, 0, []), (16, .invokevirtual 60, 0, 1, 0, [(0, 2)]), (19, .return_, 0, 0, 0, [])]
def bl_S_takeAway : List (Nat × List ak_I) := [(0, bk_S_takeAway_0)]
def rg_S_takeAway : List (Nat × Nat × Nat) := [(60, 1, 2)]
theorem ok_S_takeAway : ak_okM prog_5_method_16_code ws_S_takeAway y_S_takeAway.cls cl_all 2 none rg_S_takeAway bl_S_takeAway = true := by decide +kernel
def ws_S_dropThoseWithoutCount : List Cond := .code y_S_dropThoseWithoutCount prog_5_method_17_code 2 none :: wd_tbl
def rm_S_dropThoseWithoutCount : Room := { frames := 0, cells := 0, slots := 0, locals := 0 }
def bk_S_dropThoseWithoutCount_0 : List ak_I := [(0, .iconst 1, 0, 0, 1, []), (1, .istore_n 1, 1, 0, 0, []), (2, .nop, 0, 0, 0, [])]
def bk_S_dropThoseWithoutCount_2 : List ak_I := [(2, .iload_n 1, 1, 0, 0, []), (3, .aload_n 0, 0, 0, 0, []), (4, .getfield 37, 2, 0, 0, [(0, 64)]), (7, .if_icmp .gt 35, 42, 0, 0, []), (10, .aload_n 0, 0, 0, 0, []), (11, .getfield 22, 2, 4, 0, [(0, 74)]), (14, .iload_n 1, 1, 0, 0, []), (15, .iaload, 0, 0, 0, []), (16, .iconst 2, 0, 0, 2, []), (17, .if_icmp .ne 19, 36, 0, 0, []), (20, .aload_n 0, 0, 0, 0, []), (21, .getfield 28, 2, 6, 0, [(0, 78)]), (24, .iload_n 1, 1, 0, 0, []), (25, .iaload, 0, 0, 0, []), (26, .ifCond .ne 10, 36, 0, 0, []), (29, .aload_n 0, 0, 0, 0, []), (30, .getfield 22, 2, 4, 0, [(0, 74)]), (33, .iload_n 1, 1, 0, 0, []), (34, .iconst 0, 0, 0, 0, []), (35, .iastore, 0, 0, 0, []), (36, .iinc 1 1, 1, 0, 1, []), (39, .goto (-37), 2, 1, 0, [])]
def bk_S_dropThoseWithoutCount_36 : List ak_I := [(36, .iinc 1 1, 1, 0, 1, []), (39, .goto (-37), 2, 1, 0, [])]
def bk_S_dropThoseWithoutCount_42 : List ak_I := [(42, .return_, 0, 0, 0, [])]
def bl_S_dropThoseWithoutCount : List (Nat × List ak_I) := [(0, bk_S_dropThoseWithoutCount_0), (2, bk_S_dropThoseWithoutCount_2), (36, bk_S_dropThoseWithoutCount_36), (42, bk_S_dropThoseWithoutCount_42)]
def rg_S_dropThoseWithoutCount : List (Nat × Nat × Nat) := []
theorem ok_S_dropThoseWithoutCount : ak_okM prog_5_method_17_code ws_S_dropThoseWithoutCount y_S_dropThoseWithoutCount.cls cl_all 2 none rg_S_dropThoseWithoutCount bl_S_dropThoseWithoutCount = true := by decide +kernel
def ws_S_howMany : List Cond := .code y_S_howMany prog_5_method_18_code 4 (some .int) :: wd_tbl
def rm_S_howMany : Room := { frames := 0, cells := 0, slots := 0, locals := 0 }
def bk_S_howMany_0 : List ak_I := [(0, .iconst 0, 0, 0, 0, []), (1, .istore_n 2, 2, 0, 0, []), (2, .iconst 1, 0, 0, 1, []), (3, .istore_n 3, 3, 0, 0, []), (4, .nop, 0, 0, 0, [])]
def bk_S_howMany_4 : List ak_I := [(4, .iload_n 3, 3, 0, 0, []), (5, .aload_n 0, 0, 0, 0, []), (6, .getfield 37, 2, 0, 0, [(0, 64)]), (9, .if_icmp .gt 22, 31, 0, 0, []), (12, .aload_n 0, 0, 0, 0, []), (13, .getfield 22, 2, 4, 0, [(0, 74)]), (16, .iload_n 3, 3, 0, 0, []), (17, .iaload, 0, 0, 0, []), (18, .iload_n 1, 1, 0, 0, []), (19, .if_icmp .ne 6, 25, 0, 0, []), (22, .iinc 2 1, 2, 0, 1, []), (25, .iinc 3 1, 3, 0, 1, []), (28, .goto (-24), 4, 1, 0, [])]
def bk_S_howMany_25 : List ak_I := [(25, .iinc 3 1, 3, 0, 1, []), (28, .goto (-24), 4, 1, 0, [])]
def bk_S_howMany_31 : List ak_I := [(31, .iload_n 2, 2, 0, 0, []), (32, .ireturn, 0, 0, 0, [])]
def bl_S_howMany : List (Nat × List ak_I) := [(0, bk_S_howMany_0), (4, bk_S_howMany_4), (25, bk_S_howMany_25), (31, bk_S_howMany_31)]
def rg_S_howMany : List (Nat × Nat × Nat) := []
theorem ok_S_howMany : ak_okM prog_5_method_18_code ws_S_howMany y_S_howMany.cls cl_all 4 (some .int) rg_S_howMany bl_S_howMany = true := by decide +kernel
def ws_S_relations : List Cond := .code y_S_relations prog_5_method_19_code 3 (some .int) :: wd_tbl
def rm_S_relations : Room := { frames := 0, cells := 0, slots := 0, locals := 0 }
def bk_S_relations_0 : List ak_I := [(0, .iconst 0, 0, 0, 0, []), (1, .istore_n 1, 1, 0, 0, []), (2, .iconst 1, 0, 0, 1, []), (3, .istore_n 2, 2, 0, 0, []), (4, .nop, 0, 0, 0, [])]
def bk_S_relations_4 : List ak_I := [(4, .iload_n 2, 2, 0, 0, []), (5, .aload_n 0, 0, 0, 0, []), (6, .getfield 37, 2, 0, 0, [(0, 64)]), (9, .if_icmp .gt 21, 30, 0, 0, []), (12, .aload_n 0, 0, 0, 0, []), (13, .getfield 25, 2, 5, 0, [(0, 75)]), (16, .iload_n 2, 2, 0, 0, []), (17, .iaload, 0, 0, 0, []), (18, .ifCond .eq 6, 24, 0, 0, []), (21, .iinc 1 1, 1, 0, 1, []), (24, .iinc 2 1, 2, 0, 1, []), (27, .goto (-23), 4, 1, 0, [])]
def bk_S_relations_24 : List ak_I := [(24, .iinc 2 1, 2, 0, 1, []), (27, .goto (-23), 4, 1, 0, [])]
def bk_S_relations_30 : List ak_I := [(30, .iload_n 1, 1, 0, 0, []), (31, .ireturn, 0, 0, 0, [])]
def bl_S_relations : List (Nat × List ak_I) := [(0, bk_S_relations_0), (4, bk_S_relations_4), (24, bk_S_relations_24), (30, bk_S_relations_30)]
def rg_S_relations : List (Nat × Nat × Nat) := []
theorem ok_S_relations : ak_okM prog_5_method_19_code ws_S_relations y_S_relations.cls cl_all 3 (some .int) rg_S_relations bl_S_relations = true := by decide +kernel
def ws_X_has : List Cond := .code y_X_has prog_3_method_2_code 2 (some .boolean) :: wd_tbl
def rm_X_has : Room := { frames := 0, cells := 0, slots := 0, locals := 0 }
def bk_X_has_0 : List ak_I := [(0, .iload_n 1, 1, 0, 0, []), (1, .iconst 1, 0, 0, 1, []), (2, .if_icmp .lt 15, 17, 0, 0, []), (5, .iload_n 1, 1, 0, 0, []), (6, .aload_n 0, 0, 0, 0, []), (7, .getfield 19, 3, 0, 0, [(0, 108)]), (10, .if_icmp .gt 7, 17, 0, 0, []), (13, .iconst 1, 0, 0, 1, []), (14, .goto 4, 18, 0, 0, [])]
def bk_X_has_17 : List ak_I := [(17, .iconst 0, 0, 0, 0, []), (18, .ireturn, 0, 1, 0, [])]
def bk_X_has_18 : List ak_I := [(18, .ireturn, 0, 1, 0, [])]
def bl_X_has : List (Nat × List ak_I) := [(0, bk_X_has_0), (17, bk_X_has_17), (18, bk_X_has_18)]
def rg_X_has : List (Nat × Nat × Nat) := []
theorem ok_X_has : ak_okM prog_3_method_2_code ws_X_has y_X_has.cls cl_all 2 (some .boolean) rg_X_has bl_X_has = true := by decide +kernel
def ws_X_add : List Cond := .code y_X_add prog_3_method_3_code 3 (some .int) :: wd_tbl
def rm_X_add : Room := { frames := 0, cells := 0, slots := 0, locals := 0 }
def bk_X_add_0 : List ak_I := [(0, .aload_n 0, 0, 0, 0, []), (1, .getfield 19, 3, 0, 0, [(0, 108)]), (4, .bipush 10, 0, 0, 10, []), (6, .if_icmp .lt 5, 11, 0, 0, []), (9, .iconst (-1), 0, 0, (-1), []), (10, .ireturn, 0, 0, 0, [])]
def bk_X_add_11 : List ak_I := [(11, .aload_n 0, 0, 0, 0, []), (12, .dup, 0, 0, 0, []), (13, .getfield 19, 3, 0, 0, [(0, 108)]), (16, .iconst 1, 0, 0, 1, []), (17, .iadd, 0, 0, 0, []), (18, .putfield 19, 3, 0, 0, [(0, 108)]), (21, .aload_n 0, 0, 0, 0, []), (22, .getfield 9, 3, 1, 0, [(0, 110)]), (25, .aload_n 0, 0, 0, 0, []), (26, .getfield 19, 3, 0, 0, [(0, 108)]), (29, .iload_n 1, 1, 0, 0, []), (30, .iastore, 0, 0, 0, []), (31, .aload_n 0, 0, 0, 0, []), (32, .getfield 15, 3, 2, 0, [(0, 112)]), (35, .aload_n 0, 0, 0, 0, []), (36, .getfield 19, 3, 0, 0, [(0, 108)]), (39, .iload_n 2, 2, 0, 0, []), (40, .bastore, 0, 0, 0, []), (41, .aload_n 0, 0, 0, 0, []), (42, .getfield 19, 3, 0, 0, [(0, 108)]), (45, .ireturn, 0, 0, 0, [])]
def bl_X_add : List (Nat × List ak_I) := [(0, bk_X_add_0), (11, bk_X_add_11)]
def rg_X_add : List (Nat × Nat × Nat) := []
theorem ok_X_add : ak_okM prog_3_method_3_code ws_X_add y_X_add.cls cl_all 3 (some .int) rg_X_add bl_X_add = true := by decide +kernel
def ws_D_add : List Cond := .code y_D_add prog_2_method_4_code 2 none :: wd_tbl
def rm_D_add : Room := { frames := 0, cells := 0, slots := 0, locals := 0 }
def bk_D_add_0 : List ak_I := [(0, .aload_n 0, 0, 0, 0, []), (1, .getfield 9, 4, 2, 0, [(0, 130)]), (4, .iload_n 1, 1, 0, 0, []), (5, .baload, 0, 0, 0, []), (6, .ifCond .ne 13, 19, 0, 0, []), (9, .aload_n 0, 0, 0, 0, []), (10, .getfield 27, 4, 4, 0, [(0, 132)]), (13, .sipush 250, 0, 0, 250, []), (16, .if_icmp .lt 4, 20, 0, 0, []), (19, .return_, 0, 0, 0, [])]
def bk_D_add_19 : List ak_I := [(19, .return_, 0, 0, 0, [])]
def bk_D_add_20 : List ak_I := [(20, .aload_n 0, 0, 0, 0, []), (21, .getfield 9, 4, 2, 0, [(0, 130)]), (24, .iload_n 1, 1, 0, 0, []), (25, .iconst 1, 0, 0, 1, []), (26, .bastore, 0, 0, 0, []), (27, .aload_n 0, 0, 0, 0, []), (28, .getfield 15, 4, 3, 0, [(0, 131)]), (31, .aload_n 0, 0, 0, 0, []), (32, .getfield 27, 4, 4, 0, [(0, 132)]), (35, .iload_n 1, 1, 0, 0, []), (36, .iastore, 0, 0, 0, []), (37, .aload_n 0, 0, 0, 0, []), (38, .dup, 0, 0, 0, []), (39, .getfield 27, 4, 4, 0, [(0, 132)]), (42, .iconst 1, 0, 0, 1, []), (43, .iadd, 0, 0, 0, []), (44, .putfield 27, 4, 4, 0, [(0, 132)]), (47, .return_, 0, 0, 0, [])]
def bl_D_add : List (Nat × List ak_I) := [(0, bk_D_add_0), (19, bk_D_add_19), (20, bk_D_add_20)]
def rg_D_add : List (Nat × Nat × Nat) := []
theorem ok_D_add : ak_okM prog_2_method_4_code ws_D_add y_D_add.cls cl_all 2 none rg_D_add bl_D_add = true := by decide +kernel
def ws_D_isRelatedByRule : List Cond := .code y_D_isRelatedByRule prog_2_method_5_code 4 (some .boolean) :: wd_tbl
def rm_D_isRelatedByRule : Room := { frames := 0, cells := 0, slots := 0, locals := 0 }
def bk_D_isRelatedByRule_0 : List ak_I := [(0, .aload_n 0, 0, 0, 0, []), (1, .getfield 23, 4, 1, 0, [(0, 129)]), (4, .getfield 48, 2, 5, 0, [(0, 76)]), (7, .iload_n 1, 1, 0, 0, []), (8, .iaload, 0, 0, 0, []), (9, .iload_n 2, 2, 0, 0, []), (10, .if_icmp .ne 28, 38, 0, 0, []), (13, .aload_n 0, 0, 0, 0, []), (14, .getfield 19, 4, 0, 0, [(0, 128)]), (17, .getfield 51, 1, 3, 0, [(0, 48)]), (20, .aload_n 0, 0, 0, 0, []), (21, .getfield 23, 4, 1, 0, [(0, 129)]), (24, .getfield 56, 2, 1, 0, [(0, 68)]), (27, .iload_n 1, 1, 0, 0, []), (28, .iaload, 0, 0, 0, []), (29, .iaload, 0, 0, 0, []), (30, .iload_n 3, 3, 0, 0, []), (31, .if_icmp .ne 7, 38, 0, 0, []), (34, .iconst 1, 0, 0, 1, []), (35, .goto 4, 39, 0, 0, [])]
def bk_D_isRelatedByRule_38 : List ak_I := [(38, .iconst 0, 0, 0, 0, []), (39, .ireturn, 0, 1, 0, [])]
def bk_D_isRelatedByRule_39 : List ak_I := [(39, .ireturn, 0, 1, 0, [])]
def bl_D_isRelatedByRule : List (Nat × List ak_I) := [(0, bk_D_isRelatedByRule_0), (38, bk_D_isRelatedByRule_38), (39, bk_D_isRelatedByRule_39)]
def rg_D_isRelatedByRule : List (Nat × Nat × Nat) := []
theorem ok_D_isRelatedByRule : ak_okM prog_2_method_5_code ws_D_isRelatedByRule y_D_isRelatedByRule.cls cl_all 4 (some .boolean) rg_D_isRelatedByRule bl_D_isRelatedByRule = true := by decide +kernel
def ws_D_addThoseTakenBy : List Cond := .code y_D_addThoseTakenBy prog_2_method_3_code 3 none :: wd_tbl
def rm_D_addThoseTakenBy : Room := { frames := 1, cells := 0, slots := 0, locals := 23 }
def bk_D_addThoseTakenBy_0 : List ak_I := [(0, .iconst 1, 0, 0, 1, []), (1, .istore_n 2, 2, 0, 0, []), (2, .nop, 0, 0, 0, [])]
def bk_D_addThoseTakenBy_2 : List ak_I := [(2, .iload_n 2, 2, 0, 0, []), (3, .aload_n 0, 0, 0, 0, []), (4, .getfield 23, 4, 1, 0, [(0, 129)]), (7, .getfield 38, 2, 0, 0, [(0, 65)]), (10, .if_icmp .gt 37, 47, 0, 0, []), (13, .aload_n 0, 0, 0, 0, []), (14, .getfield 23, 4, 1, 0, [(0, 129)]), (17, .getfield 41, 2, 2, 0, [(0, 71)]), (20, .iload_n 2, 2, 0, 0, []), (21, .iaload, 0, 0, 0, []), (22, .iload_n 1, 1, 0, 0, []), (23, .if_icmp .eq 13, 36, 0, 0, []), (26, .aload_n 0, 0, 0, 0, []), (27, .iload_n 2, 2, 0, 0, []), (28, .iload_n 1, 1, 0, 0, []), (29, .iconst 2, 0, 0, 2, []), (30, .invokevirtual 44, 0, 3, 0, [(0, 4)]), (33, .ifCond .eq 8, 41, 0, 0, []), (36, .aload_n 0, 0, 0, 0, []), (37, .iload_n 2, 2, 0, 0, []), (38, .invokevirtual 31, 1, 1, 0, [(0, 4)]), (41, .iinc 2 1, 2, 0, 1, []), (44, .goto (-42), 2, 1, 0, [])]
def bk_D_addThoseTakenBy_36 : List ak_I := [(36, .aload_n 0, 0, 0, 0, []), (37, .iload_n 2, 2, 0, 0, []), (38, .invokevirtual 31, 1, 1, 0, [(0, 4)]), (41, .iinc 2 1, 2, 0, 1, []), (44, .goto (-42), 2, 1, 0, [])]
def bk_D_addThoseTakenBy_41 : List ak_I := [(41, .iinc 2 1, 2, 0, 1, []), (44, .goto (-42), 2, 1, 0, [])]
def bk_D_addThoseTakenBy_47 : List ak_I := [(47, .return_, 0, 0, 0, [])]
def bl_D_addThoseTakenBy : List (Nat × List ak_I) := [(0, bk_D_addThoseTakenBy_0), (2, bk_D_addThoseTakenBy_2), (36, bk_D_addThoseTakenBy_36), (41, bk_D_addThoseTakenBy_41), (47, bk_D_addThoseTakenBy_47)]
def rg_D_addThoseTakenBy : List (Nat × Nat × Nat) := [(44, 3, 4), (31, 1, 4)]
theorem ok_D_addThoseTakenBy : ak_okM prog_2_method_3_code ws_D_addThoseTakenBy y_D_addThoseTakenBy.cls cl_all 3 none rg_D_addThoseTakenBy bl_D_addThoseTakenBy = true := by decide +kernel
def ws_D_gather : List Cond := .code y_D_gather prog_2_method_2_code 3 none :: wd_tbl
def rm_D_gather : Room := { frames := 2, cells := 0, slots := 0, locals := 45 }
def bk_D_gather_0 : List ak_I := [(0, .iconst 0, 0, 0, 0, []), (1, .istore_n 2, 2, 0, 0, []), (2, .nop, 0, 0, 0, [])]
def bk_D_gather_2 : List ak_I := [(2, .iload_n 2, 2, 0, 0, []), (3, .sipush 250, 0, 0, 250, []), (6, .if_icmp .gt 16, 22, 0, 0, []), (9, .aload_n 0, 0, 0, 0, []), (10, .getfield 9, 4, 2, 0, [(0, 130)]), (13, .iload_n 2, 2, 0, 0, []), (14, .iconst 0, 0, 0, 0, []), (15, .bastore, 0, 0, 0, []), (16, .iinc 2 1, 2, 0, 1, []), (19, .goto (-17), 2, 1, 0, [])]
def bk_D_gather_22 : List ak_I := [(22, .aload_n 0, 0, 0, 0, []), (23, .iconst 0, 0, 0, 0, []), (24, .putfield 27, 4, 4, 0, [(0, 132)]), (27, .aload_n 0, 0, 0, 0, []), (28, .iload_n 1, 1, 0, 0, []), (29, .invokevirtual 31, 0, 1, 0, [(0, 4)]), (32, .iconst 0, 0, 0, 0, []), (33, .istore_n 2, 2, 0, 0, []), (34, .nop, 0, 0, 0, [])]
def bk_D_gather_34 : List ak_I := [(34, .iload_n 2, 2, 0, 0, []), (35, .aload_n 0, 0, 0, 0, []), (36, .getfield 27, 4, 4, 0, [(0, 132)]), (39, .if_icmp .ge 26, 65, 0, 0, []), (42, .iload_n 2, 2, 0, 0, []), (43, .sipush 250, 0, 0, 250, []), (46, .if_icmp .ge 19, 65, 0, 0, []), (49, .aload_n 0, 0, 0, 0, []), (50, .aload_n 0, 0, 0, 0, []), (51, .getfield 15, 4, 3, 0, [(0, 131)]), (54, .iload_n 2, 2, 0, 0, []), (55, .iaload, 0, 0, 0, []), (56, .invokevirtual 35, 1, 1, 0, [(0, 4)]), (59, .iinc 2 1, 2, 0, 1, []), (62, .goto (-28), 34, 1, 0, [])]
def bk_D_gather_65 : List ak_I := [(65, .return_, 0, 0, 0, [])]
def bl_D_gather : List (Nat × List ak_I) := [(0, bk_D_gather_0), (2, bk_D_gather_2), (22, bk_D_gather_22), (34, bk_D_gather_34), (65, bk_D_gather_65)]
def rg_D_gather : List (Nat × Nat × Nat) := [(31, 1, 4), (35, 1, 4)]
theorem ok_D_gather : ak_okM prog_2_method_2_code ws_D_gather y_D_gather.cls cl_all 3 none rg_D_gather bl_D_gather = true := by decide +kernel
def ws_D_isBarred : List Cond := .code y_D_isBarred prog_2_method_6_code 3 (some .boolean) :: wd_tbl
def rm_D_isBarred : Room := { frames := 1, cells := 0, slots := 0, locals := 23 }
def bk_D_isBarred_0 : List ak_I := [(0, .iconst 1, 0, 0, 1, []), (1, .istore_n 1, 1, 0, 0, []), (2, .nop, 0, 0, 0, [])]
def bk_D_isBarred_2 : List ak_I := [(2, .iload_n 1, 1, 0, 0, []), (3, .aload_n 0, 0, 0, 0, []), (4, .getfield 23, 4, 1, 0, [(0, 129)]), (7, .getfield 38, 2, 0, 0, [(0, 65)]), (10, .if_icmp .gt 49, 59, 0, 0, []), (13, .aload_n 0, 0, 0, 0, []), (14, .getfield 23, 4, 1, 0, [(0, 129)]), (17, .getfield 48, 2, 5, 0, [(0, 76)]), (20, .iload_n 1, 1, 0, 0, []), (21, .iaload, 0, 0, 0, []), (22, .istore_n 2, 2, 0, 0, []), (23, .aload_n 0, 0, 0, 0, []), (24, .getfield 9, 4, 2, 0, [(0, 130)]), (27, .iload_n 1, 1, 0, 0, []), (28, .baload, 0, 0, 0, []), (29, .ifCond .ne 24, 53, 0, 0, []), (32, .aload_n 0, 0, 0, 0, []), (33, .getfield 9, 4, 2, 0, [(0, 130)]), (36, .iload_n 2, 2, 0, 0, []), (37, .baload, 0, 0, 0, []), (38, .ifCond .eq 15, 53, 0, 0, []), (41, .aload_n 0, 0, 0, 0, []), (42, .iload_n 1, 1, 0, 0, []), (43, .iload_n 2, 2, 0, 0, []), (44, .iconst 0, 0, 0, 0, []), (45, .invokevirtual 44, 0, 3, 0, [(0, 4)]), (48, .ifCond .eq 5, 53, 0, 0, []), (51, .iconst 1, 0, 0, 1, []), (52, .ireturn, 0, 1, 0, [])]
def bk_D_isBarred_53 : List ak_I := [(53, .iinc 1 1, 1, 0, 1, []), (56, .goto (-54), 2, 1, 0, [])]
def bk_D_isBarred_59 : List ak_I := [(59, .iconst 0, 0, 0, 0, []), (60, .ireturn, 0, 1, 0, [])]
def bl_D_isBarred : List (Nat × List ak_I) := [(0, bk_D_isBarred_0), (2, bk_D_isBarred_2), (53, bk_D_isBarred_53), (59, bk_D_isBarred_59)]
def rg_D_isBarred : List (Nat × Nat × Nat) := [(44, 3, 4)]
theorem ok_D_isBarred : ak_okM prog_2_method_6_code ws_D_isBarred y_D_isBarred.cls cl_all 3 (some .boolean) rg_D_isBarred bl_D_isBarred = true := by decide +kernel
def ws_D_carryOut : List Cond := .code y_D_carryOut prog_2_method_7_code 2 none :: wd_tbl
def rm_D_carryOut : Room := { frames := 4, cells := 0, slots := 0, locals := 87 }
def bk_D_carryOut_0 : List ak_I := [(0, .iconst 0, 0, 0, 0, []), (1, .istore_n 1, 1, 0, 0, []), (2, .nop, 0, 0, 0, [])]
def bk_D_carryOut_2 : List ak_I := [(2, .iload_n 1, 1, 0, 0, []), (3, .aload_n 0, 0, 0, 0, []), (4, .getfield 27, 4, 4, 0, [(0, 132)]), (7, .if_icmp .ge 22, 29, 0, 0, []), (10, .aload_n 0, 0, 0, 0, []), (11, .getfield 23, 4, 1, 0, [(0, 129)]), (14, .aload_n 0, 0, 0, 0, []), (15, .getfield 15, 4, 3, 0, [(0, 131)]), (18, .iload_n 1, 1, 0, 0, []), (19, .iaload, 0, 0, 0, []), (20, .invokevirtual 59, 0, 1, 0, [(0, 2)]), (23, .iinc 1 1, 1, 0, 1, []), (26, .goto (-24), 2, 1, 0, [])]
def bk_D_carryOut_29 : List ak_I := [(29, .iconst 0, 0, 0, 0, []), (30, .istore_n 1, 1, 0, 0, []), (31, .nop, 0, 0, 0, [])]
def bk_D_carryOut_31 : List ak_I := [(31, .iload_n 1, 1, 0, 0, []), (32, .aload_n 0, 0, 0, 0, []), (33, .getfield 27, 4, 4, 0, [(0, 132)]), (36, .if_icmp .ge 22, 58, 0, 0, []), (39, .aload_n 0, 0, 0, 0, []), (40, .getfield 23, 4, 1, 0, [(0, 129)]), (43, .aload_n 0, 0, 0, 0, []), (44, .getfield 15, 4, 3, 0, [(0, 131)]), (47, .iload_n 1, 1, 0, 0, []), (48, .iaload, 0, 0, 0, []), (49, .invokevirtual 62, 1, 1, 0, [(0, 2)]), (52, .iinc 1 1, 1, 0, 1, []), (55, .goto (-24), 31, 1, 0, [])]
def bk_D_carryOut_58 : List ak_I := [(58, .aload_n 0, 0, 0, 0, []), (59, .getfield 23, 4, 1, 0, [(0, 129)]), (62, .invokevirtual 65, 2, 0, 0, [(0, 2)]), (65, .return_, 0, 0, 0, [])]
def bl_D_carryOut : List (Nat × List ak_I) := [(0, bk_D_carryOut_0), (2, bk_D_carryOut_2), (29, bk_D_carryOut_29), (31, bk_D_carryOut_31), (58, bk_D_carryOut_58)]
def rg_D_carryOut : List (Nat × Nat × Nat) := [(59, 1, 2), (62, 1, 2), (65, 0, 2)]
theorem ok_D_carryOut : ak_okM prog_2_method_7_code ws_D_carryOut y_D_carryOut.cls cl_all 2 none rg_D_carryOut bl_D_carryOut = true := by decide +kernel
def ws_L_mayBeUnder : List Cond := .code y_L_mayBeUnder prog_1_method_5_code 4 (some .boolean) :: wd_tbl
def rm_L_mayBeUnder : Room := { frames := 2, cells := 0, slots := 0, locals := 43 }
def bk_L_mayBeUnder_0 : List ak_I := [(0, .aload_n 0, 0, 0, 0, []), (1, .getfield 10, 0, 0, 0, [(0, 145)]), (4, .getfield 68, 1, 1, 0, [(0, 43)]), (7, .iload_n 1, 1, 0, 0, []), (8, .iaload, 0, 0, 0, []), (9, .istore_n 3, 3, 0, 0, []), (10, .iload_n 3, 3, 0, 0, []), (11, .ifCond .ne 13, 24, 0, 0, []), (14, .iload_n 2, 2, 0, 0, []), (15, .ifCond .ne 7, 22, 0, 0, []), (18, .iconst 1, 0, 0, 1, []), (19, .goto 4, 23, 0, 0, [])]
def bk_L_mayBeUnder_22 : List ak_I := [(22, .iconst 0, 0, 0, 0, []), (23, .ireturn, 0, 1, 0, [])]
def bk_L_mayBeUnder_23 : List ak_I := [(23, .ireturn, 0, 1, 0, [])]
def bk_L_mayBeUnder_24 : List ak_I := [(24, .aload_n 0, 0, 0, 0, []), (25, .getfield 19, 0, 1, 0, [(0, 146)]), (28, .iload_n 2, 2, 0, 0, []), (29, .iconst 1, 0, 0, 1, []), (30, .invokevirtual 71, 0, 2, 0, [(0, 2)]), (33, .ifCond .eq 20, 53, 0, 0, []), (36, .aload_n 0, 0, 0, 0, []), (37, .getfield 19, 0, 1, 0, [(0, 146)]), (40, .getfield 74, 2, 1, 0, [(0, 69)]), (43, .iload_n 2, 2, 0, 0, []), (44, .iaload, 0, 0, 0, []), (45, .iload_n 3, 3, 0, 0, []), (46, .if_icmp .ne 7, 53, 0, 0, []), (49, .iconst 1, 0, 0, 1, []), (50, .goto 4, 54, 0, 0, [])]
def bk_L_mayBeUnder_53 : List ak_I := [(53, .iconst 0, 0, 0, 0, []), (54, .ireturn, 0, 1, 0, [])]
def bk_L_mayBeUnder_54 : List ak_I := [(54, .ireturn, 0, 1, 0, [])]
def bl_L_mayBeUnder : List (Nat × List ak_I) := [(0, bk_L_mayBeUnder_0), (22, bk_L_mayBeUnder_22), (23, bk_L_mayBeUnder_23), (24, bk_L_mayBeUnder_24), (53, bk_L_mayBeUnder_53), (54, bk_L_mayBeUnder_54)]
def rg_L_mayBeUnder : List (Nat × Nat × Nat) := [(71, 2, 2)]
theorem ok_L_mayBeUnder : ak_okM prog_1_method_5_code ws_L_mayBeUnder y_L_mayBeUnder.cls cl_all 4 (some .boolean) rg_L_mayBeUnder bl_L_mayBeUnder = true := by decide +kernel
def ws_L_physicalChild : List Cond := .code y_L_physicalChild prog_1_method_10_code 7 (some .int) :: wd_tbl
def rm_L_physicalChild : Room := { frames := 1, cells := 0, slots := 0, locals := 23 }
def bk_L_physicalChild_0 : List ak_I := [(0, .iload_n 2, 2, 0, 0, []), (1, .istore_n 3, 3, 0, 0, []), (2, .iconst 1, 0, 0, 1, []), (3, .istore 4, 4, 0, 0, []), (5, .nop, 0, 0, 0, [])]
def bk_L_physicalChild_5 : List ak_I := [(5, .iload 4, 4, 0, 0, []), (7, .aload_n 0, 0, 0, 0, []), (8, .getfield 10, 0, 0, 0, [(0, 145)]), (11, .getfield 107, 1, 0, 0, [(0, 41)]), (14, .if_icmp .gt 92, 106, 0, 0, []), (17, .aload_n 0, 0, 0, 0, []), (18, .getfield 10, 0, 0, 0, [(0, 145)]), (21, .getfield 68, 1, 1, 0, [(0, 43)]), (24, .iload 4, 4, 0, 0, []), (26, .iaload, 0, 0, 0, []), (27, .aload_n 0, 0, 0, 0, []), (28, .getfield 19, 0, 1, 0, [(0, 146)]), (31, .getfield 74, 2, 1, 0, [(0, 69)]), (34, .iload_n 1, 1, 0, 0, []), (35, .iaload, 0, 0, 0, []), (36, .if_icmp .eq 6, 42, 0, 0, []), (39, .goto 61, 100, 0, 0, [])]
def bk_L_physicalChild_42 : List ak_I := [(42, .iconst 0, 0, 0, 0, []), (43, .istore 5, 5, 0, 0, []), (45, .nop, 0, 0, 0, [])]
def bk_L_physicalChild_45 : List ak_I := [(45, .iload 5, 5, 0, 0, []), (47, .aload_n 0, 0, 0, 0, []), (48, .getfield 19, 0, 1, 0, [(0, 146)]), (51, .getfield 108, 2, 0, 0, [(0, 66)]), (54, .if_icmp .ge 46, 100, 0, 0, []), (57, .aload_n 0, 0, 0, 0, []), (58, .getfield 19, 0, 1, 0, [(0, 146)]), (61, .getfield 109, 2, 8, 0, [(0, 82)]), (64, .iload 5, 5, 0, 0, []), (66, .iaload, 0, 0, 0, []), (67, .istore 6, 6, 0, 0, []), (69, .aload_n 0, 0, 0, 0, []), (70, .getfield 19, 0, 1, 0, [(0, 146)]), (73, .iload 6, 6, 0, 0, []), (75, .iload 4, 4, 0, 0, []), (77, .iload_n 1, 1, 0, 0, []), (78, .invokevirtual 112, 0, 3, 0, [(0, 2)]), (81, .ifCond .eq 13, 94, 0, 0, []), (84, .iload_n 3, 3, 0, 0, []), (85, .iinc 3 (-1), 3, 0, (-1), []), (88, .ifCond .ne 6, 94, 0, 0, []), (91, .iload 6, 6, 0, 0, []), (93, .ireturn, 0, 0, 0, [])]
def bk_L_physicalChild_94 : List ak_I := [(94, .iinc 5 1, 5, 0, 1, []), (97, .goto (-52), 45, 1, 0, [])]
def bk_L_physicalChild_100 : List ak_I := [(100, .iinc 4 1, 4, 0, 1, []), (103, .goto (-98), 5, 1, 0, [])]
def bk_L_physicalChild_106 : List ak_I := [(106, .iconst 0, 0, 0, 0, []), (107, .ireturn, 0, 0, 0, [])]
def bl_L_physicalChild : List (Nat × List ak_I) := [(0, bk_L_physicalChild_0), (5, bk_L_physicalChild_5), (42, bk_L_physicalChild_42), (45, bk_L_physicalChild_45), (94, bk_L_physicalChild_94), (100, bk_L_physicalChild_100), (106, bk_L_physicalChild_106)]
def rg_L_physicalChild : List (Nat × Nat × Nat) := [(112, 3, 2)]
theorem ok_L_physicalChild : ak_okM prog_1_method_10_code ws_L_physicalChild y_L_physicalChild.cls cl_all 7 (some .int) rg_L_physicalChild bl_L_physicalChild = true := by decide +kernel
def ws_L_isIn : List Cond := .code y_L_isIn prog_1_method_14_code 3 (some .boolean) :: wd_tbl
def rm_L_isIn : Room := { frames := 2, cells := 0, slots := 0, locals := 43 }
def bk_L_isIn_0 : List ak_I := [(0, .aload_n 0, 0, 0, 0, []), (1, .getfield 19, 0, 1, 0, [(0, 146)]), (4, .iload_n 2, 2, 0, 0, []), (5, .iconst 1, 0, 0, 1, []), (6, .invokevirtual 71, 0, 2, 0, [(0, 2)]), (9, .ifCond .eq 54, 63, 0, 0, []), (12, .aload_n 0, 0, 0, 0, []), (13, .getfield 19, 0, 1, 0, [(0, 146)]), (16, .getfield 74, 2, 1, 0, [(0, 69)]), (19, .iload_n 2, 2, 0, 0, []), (20, .iaload, 0, 0, 0, []), (21, .aload_n 0, 0, 0, 0, []), (22, .getfield 26, 0, 2, 0, [(0, 147)]), (25, .getfield 126, 3, 1, 0, [(0, 111)]), (28, .iload_n 1, 1, 0, 0, []), (29, .iaload, 0, 0, 0, []), (30, .if_icmp .ne 33, 63, 0, 0, []), (33, .aload_n 0, 0, 0, 0, []), (34, .getfield 26, 0, 2, 0, [(0, 147)]), (37, .getfield 127, 3, 2, 0, [(0, 113)]), (40, .iload_n 1, 1, 0, 0, []), (41, .baload, 0, 0, 0, []), (42, .ifCond .eq 17, 59, 0, 0, []), (45, .aload_n 0, 0, 0, 0, []), (46, .getfield 19, 0, 1, 0, [(0, 146)]), (49, .getfield 131, 2, 3, 0, [(0, 73)]), (52, .iload_n 2, 2, 0, 0, []), (53, .laload, 0, 0, 0, []), (54, .lconst 0, 0, 0, 0, []), (55, .lcmp, 0, 0, 0, []), (56, .ifCond .eq 7, 63, 0, 0, []), (59, .iconst 1, 0, 0, 1, []), (60, .goto 4, 64, 0, 0, [])]
def bk_L_isIn_59 : List ak_I := [(59, .iconst 1, 0, 0, 1, []), (60, .goto 4, 64, 0, 0, [])]
def bk_L_isIn_63 : List ak_I := [(63, .iconst 0, 0, 0, 0, []), (64, .ireturn, 0, 1, 0, [])]
def bk_L_isIn_64 : List ak_I := [(64, .ireturn, 0, 1, 0, [])]
def bl_L_isIn : List (Nat × List ak_I) := [(0, bk_L_isIn_0), (59, bk_L_isIn_59), (63, bk_L_isIn_63), (64, bk_L_isIn_64)]
def rg_L_isIn : List (Nat × Nat × Nat) := [(71, 2, 2)]
theorem ok_L_isIn : ak_okM prog_1_method_14_code ws_L_isIn y_L_isIn.cls cl_all 3 (some .boolean) rg_L_isIn bl_L_isIn = true := by decide +kernel
def ws_L_kind : List Cond := .code y_L_kind prog_1_method_2_code 2 (some .int) :: wd_tbl
def rm_L_kind : Room := { frames := 1, cells := 0, slots := 0, locals := 21 }
def bk_L_kind_0 : List ak_I := [(0, .iload_n 1, 1, 0, 0, []), (1, .ifCond .eq 17, 18, 0, 0, []), (4, .aload_n 0, 0, 0, 0, []), (5, .getfield 10, 0, 0, 0, [(0, 145)]), (8, .iload_n 1, 1, 0, 0, []), (9, .invokevirtual 39, 0, 1, 0, [(0, 1)]), (12, .ifCond .ne 6, 18, 0, 0, []), (15, .bipush (-2), 0, 0, (-2), []), (17, .ireturn, 0, 0, 0, [])]
def bk_L_kind_18 : List ak_I := [(18, .aload_n 0, 0, 0, 0, []), (19, .getfield 10, 0, 0, 0, [(0, 145)]), (22, .iload_n 1, 1, 0, 0, []), (23, .invokevirtual 43, 1, 1, 0, [(0, 1)]), (26, .ireturn, 0, 0, 0, [])]
def bl_L_kind : List (Nat × List ak_I) := [(0, bk_L_kind_0), (18, bk_L_kind_18)]
def rg_L_kind : List (Nat × Nat × Nat) := [(39, 1, 1), (43, 1, 1)]
theorem ok_L_kind : ak_okM prog_1_method_2_code ws_L_kind y_L_kind.cls cl_all 2 (some .int) rg_L_kind bl_L_kind = true := by decide +kernel
def ws_L_parent : List Cond := .code y_L_parent prog_1_method_3_code 4 (some .int) :: wd_tbl
def rm_L_parent : Room := { frames := 1, cells := 0, slots := 0, locals := 22 }
def bk_L_parent_0 : List ak_I := [(0, .aload_n 0, 0, 0, 0, []), (1, .getfield 10, 0, 0, 0, [(0, 145)]), (4, .iload_n 1, 1, 0, 0, []), (5, .invokevirtual 39, 0, 1, 0, [(0, 1)]), (8, .ifCond .eq 14, 22, 0, 0, []), (11, .aload_n 0, 0, 0, 0, []), (12, .getfield 10, 0, 0, 0, [(0, 145)]), (15, .iload_n 2, 2, 0, 0, []), (16, .invokevirtual 39, 0, 1, 0, [(0, 1)]), (19, .ifCond .ne 6, 25, 0, 0, []), (22, .bipush (-2), 0, 0, (-2), []), (24, .ireturn, 0, 0, 0, [])]
def bk_L_parent_22 : List ak_I := [(22, .bipush (-2), 0, 0, (-2), []), (24, .ireturn, 0, 0, 0, [])]
def bk_L_parent_25 : List ak_I := [(25, .iload_n 3, 3, 0, 0, []), (26, .ifCond .lt 8, 34, 0, 0, []), (29, .iload_n 3, 3, 0, 0, []), (30, .iconst 2, 0, 0, 2, []), (31, .if_icmp .le 6, 37, 0, 0, []), (34, .bipush (-4), 0, 0, (-4), []), (36, .ireturn, 0, 0, 0, [])]
def bk_L_parent_34 : List ak_I := [(34, .bipush (-4), 0, 0, (-4), []), (36, .ireturn, 0, 0, 0, [])]
def bk_L_parent_37 : List ak_I := [(37, .aload_n 0, 0, 0, 0, []), (38, .getfield 19, 0, 1, 0, [(0, 146)]), (41, .iload_n 1, 1, 0, 0, []), (42, .invokevirtual 47, 1, 1, 0, [(0, 2)]), (45, .ifCond .eq 6, 51, 0, 0, []), (48, .bipush (-5), 0, 0, (-5), []), (50, .ireturn, 0, 0, 0, [])]
def bk_L_parent_51 : List ak_I := [(51, .aload_n 0, 0, 0, 0, []), (52, .getfield 10, 0, 0, 0, [(0, 145)]), (55, .getfield 50, 1, 2, 0, [(0, 45)]), (58, .iload_n 1, 1, 0, 0, []), (59, .iaload, 0, 0, 0, []), (60, .ifCond .eq 5, 65, 0, 0, []), (63, .iconst 0, 0, 0, 0, []), (64, .ireturn, 0, 0, 0, [])]
def bk_L_parent_65 : List ak_I := [(65, .aload_n 0, 0, 0, 0, []), (66, .getfield 10, 0, 0, 0, [(0, 145)]), (69, .getfield 50, 1, 2, 0, [(0, 45)]), (72, .iload_n 1, 1, 0, 0, []), (73, .iload_n 2, 2, 0, 0, []), (74, .iastore, 0, 0, 0, []), (75, .aload_n 0, 0, 0, 0, []), (76, .getfield 10, 0, 0, 0, [(0, 145)]), (79, .getfield 54, 1, 3, 0, [(0, 47)]), (82, .iload_n 1, 1, 0, 0, []), (83, .iload_n 3, 3, 0, 0, []), (84, .iastore, 0, 0, 0, []), (85, .iconst 1, 0, 0, 1, []), (86, .ireturn, 0, 0, 0, [])]
def bl_L_parent : List (Nat × List ak_I) := [(0, bk_L_parent_0), (22, bk_L_parent_22), (25, bk_L_parent_25), (34, bk_L_parent_34), (37, bk_L_parent_37), (51, bk_L_parent_51), (65, bk_L_parent_65)]
def rg_L_parent : List (Nat × Nat × Nat) := [(39, 1, 1), (47, 1, 2)]
theorem ok_L_parent : ak_okM prog_1_method_3_code ws_L_parent y_L_parent.cls cl_all 4 (some .int) rg_L_parent bl_L_parent = true := by decide +kernel
def ws_L_segment : List Cond := .code y_L_segment prog_1_method_4_code 5 (some .int) :: wd_tbl
def rm_L_segment : Room := { frames := 3, cells := 0, slots := 0, locals := 68 }
def bk_L_segment_0 : List ak_I := [(0, .aload_n 0, 0, 0, 0, []), (1, .getfield 10, 0, 0, 0, [(0, 145)]), (4, .iload_n 1, 1, 0, 0, []), (5, .invokevirtual 39, 0, 1, 0, [(0, 1)]), (8, .ifCond .ne 6, 14, 0, 0, []), (11, .bipush (-2), 0, 0, (-2), []), (13, .ireturn, 0, 0, 0, [])]
def bk_L_segment_14 : List ak_I := [(14, .aload_n 0, 0, 0, 0, []), (15, .iload_n 1, 1, 0, 0, []), (16, .iload_n 2, 2, 0, 0, []), (17, .invokevirtual 57, 1, 2, 0, [(0, 0)]), (20, .ifCond .ne 6, 26, 0, 0, []), (23, .bipush (-4), 0, 0, (-4), []), (25, .ireturn, 0, 0, 0, [])]
def bk_L_segment_26 : List ak_I := [(26, .aload_n 0, 0, 0, 0, []), (27, .getfield 19, 0, 1, 0, [(0, 146)]), (30, .iload_n 1, 1, 0, 0, []), (31, .iload_n 2, 2, 0, 0, []), (32, .lload_n 3, 3, 0, 0, []), (33, .invokevirtual 61, 2, 3, 0, [(0, 2)]), (36, .ifCond .eq 6, 42, 0, 0, []), (39, .bipush (-3), 0, 0, (-3), []), (41, .ireturn, 0, 0, 0, [])]
def bk_L_segment_42 : List ak_I := [(42, .aload_n 0, 0, 0, 0, []), (43, .getfield 19, 0, 1, 0, [(0, 146)]), (46, .iload_n 1, 1, 0, 0, []), (47, .iload_n 2, 2, 0, 0, []), (48, .lload_n 3, 3, 0, 0, []), (49, .invokevirtual 65, 3, 3, 0, [(0, 2)]), (52, .ireturn, 0, 0, 0, [])]
def bl_L_segment : List (Nat × List ak_I) := [(0, bk_L_segment_0), (14, bk_L_segment_14), (26, bk_L_segment_26), (42, bk_L_segment_42)]
def rg_L_segment : List (Nat × Nat × Nat) := [(39, 1, 1), (57, 2, 0), (61, 3, 2), (65, 3, 2)]
theorem ok_L_segment : ak_okM prog_1_method_4_code ws_L_segment y_L_segment.cls cl_all 5 (some .int) rg_L_segment bl_L_segment = true := by decide +kernel
def ws_L_relate : List Cond := .code y_L_relate prog_1_method_6_code 3 (some .int) :: wd_tbl
def rm_L_relate : Room := { frames := 3, cells := 0, slots := 0, locals := 66 }
def bk_L_relate_0 : List ak_I := [(0, .aload_n 0, 0, 0, 0, []), (1, .getfield 19, 0, 1, 0, [(0, 146)]), (4, .iload_n 1, 1, 0, 0, []), (5, .invokevirtual 77, 0, 1, 0, [(0, 2)]), (8, .ifCond .eq 14, 22, 0, 0, []), (11, .aload_n 0, 0, 0, 0, []), (12, .getfield 19, 0, 1, 0, [(0, 146)]), (15, .iload_n 2, 2, 0, 0, []), (16, .invokevirtual 77, 0, 1, 0, [(0, 2)]), (19, .ifCond .ne 6, 25, 0, 0, []), (22, .bipush (-2), 0, 0, (-2), []), (24, .ireturn, 0, 0, 0, [])]
def bk_L_relate_22 : List ak_I := [(22, .bipush (-2), 0, 0, (-2), []), (24, .ireturn, 0, 0, 0, [])]
def bk_L_relate_25 : List ak_I := [(25, .iload_n 1, 1, 0, 0, []), (26, .iload_n 2, 2, 0, 0, []), (27, .if_icmp .eq 32, 59, 0, 0, []), (30, .aload_n 0, 0, 0, 0, []), (31, .getfield 10, 0, 0, 0, [(0, 145)]), (34, .getfield 50, 1, 2, 0, [(0, 45)]), (37, .aload_n 0, 0, 0, 0, []), (38, .getfield 19, 0, 1, 0, [(0, 146)]), (41, .getfield 74, 2, 1, 0, [(0, 69)]), (44, .iload_n 1, 1, 0, 0, []), (45, .iaload, 0, 0, 0, []), (46, .iaload, 0, 0, 0, []), (47, .aload_n 0, 0, 0, 0, []), (48, .getfield 19, 0, 1, 0, [(0, 146)]), (51, .getfield 74, 2, 1, 0, [(0, 69)]), (54, .iload_n 2, 2, 0, 0, []), (55, .iaload, 0, 0, 0, []), (56, .if_icmp .eq 6, 62, 0, 0, []), (59, .bipush (-4), 0, 0, (-4), []), (61, .ireturn, 0, 0, 0, [])]
def bk_L_relate_59 : List ak_I := [(59, .bipush (-4), 0, 0, (-4), []), (61, .ireturn, 0, 0, 0, [])]
def bk_L_relate_62 : List ak_I := [(62, .aload_n 0, 0, 0, 0, []), (63, .getfield 19, 0, 1, 0, [(0, 146)]), (66, .iload_n 1, 1, 0, 0, []), (67, .iconst 1, 0, 0, 1, []), (68, .invokevirtual 71, 1, 2, 0, [(0, 2)]), (71, .ifCond .eq 27, 98, 0, 0, []), (74, .aload_n 0, 0, 0, 0, []), (75, .getfield 19, 0, 1, 0, [(0, 146)]), (78, .iload_n 2, 2, 0, 0, []), (79, .iconst 0, 0, 0, 0, []), (80, .invokevirtual 71, 1, 2, 0, [(0, 2)]), (83, .ifCond .ne 15, 98, 0, 0, []), (86, .aload_n 0, 0, 0, 0, []), (87, .getfield 19, 0, 1, 0, [(0, 146)]), (90, .getfield 78, 2, 5, 0, [(0, 77)]), (93, .iload_n 1, 1, 0, 0, []), (94, .iaload, 0, 0, 0, []), (95, .ifCond .eq 6, 101, 0, 0, []), (98, .bipush (-5), 0, 0, (-5), []), (100, .ireturn, 0, 0, 0, [])]
def bk_L_relate_98 : List ak_I := [(98, .bipush (-5), 0, 0, (-5), []), (100, .ireturn, 0, 0, 0, [])]
def bk_L_relate_101 : List ak_I := [(101, .aload_n 0, 0, 0, 0, []), (102, .getfield 19, 0, 1, 0, [(0, 146)]), (105, .iload_n 1, 1, 0, 0, []), (106, .iload_n 2, 2, 0, 0, []), (107, .invokevirtual 81, 2, 2, 0, [(0, 2)]), (110, .iconst 1, 0, 0, 1, []), (111, .ireturn, 0, 0, 0, [])]
def bl_L_relate : List (Nat × List ak_I) := [(0, bk_L_relate_0), (22, bk_L_relate_22), (25, bk_L_relate_25), (59, bk_L_relate_59), (62, bk_L_relate_62), (98, bk_L_relate_98), (101, bk_L_relate_101)]
def rg_L_relate : List (Nat × Nat × Nat) := [(77, 1, 2), (71, 2, 2), (81, 2, 2)]
theorem ok_L_relate : ak_okM prog_1_method_6_code ws_L_relate y_L_relate.cls cl_all 3 (some .int) rg_L_relate bl_L_relate = true := by decide +kernel
def ws_L_delete : List Cond := .code y_L_delete prog_1_method_7_code 2 (some .int) :: wd_tbl
def rm_L_delete : Room := { frames := 5, cells := 0, slots := 0, locals := 108 }
def bk_L_delete_0 : List ak_I := [(0, .aload_n 0, 0, 0, 0, []), (1, .getfield 19, 0, 1, 0, [(0, 146)]), (4, .iload_n 1, 1, 0, 0, []), (5, .invokevirtual 77, 0, 1, 0, [(0, 2)]), (8, .ifCond .ne 6, 14, 0, 0, []), (11, .bipush (-2), 0, 0, (-2), []), (13, .ireturn, 0, 0, 0, [])]
def bk_L_delete_14 : List ak_I := [(14, .aload_n 0, 0, 0, 0, []), (15, .getfield 19, 0, 1, 0, [(0, 146)]), (18, .iload_n 1, 1, 0, 0, []), (19, .iconst 1, 0, 0, 1, []), (20, .invokevirtual 71, 1, 2, 0, [(0, 2)]), (23, .ifCond .ne 6, 29, 0, 0, []), (26, .bipush (-5), 0, 0, (-5), []), (28, .ireturn, 0, 0, 0, [])]
def bk_L_delete_29 : List ak_I := [(29, .aload_n 0, 0, 0, 0, []), (30, .getfield 35, 0, 3, 0, [(0, 148)]), (33, .iload_n 1, 1, 0, 0, []), (34, .invokevirtual 85, 2, 1, 0, [(0, 4)]), (37, .aload_n 0, 0, 0, 0, []), (38, .getfield 35, 0, 3, 0, [(0, 148)]), (41, .invokevirtual 89, 3, 0, 0, [(0, 4)]), (44, .ifCond .eq 6, 50, 0, 0, []), (47, .bipush (-5), 0, 0, (-5), []), (49, .ireturn, 0, 0, 0, [])]
def bk_L_delete_50 : List ak_I := [(50, .aload_n 0, 0, 0, 0, []), (51, .getfield 35, 0, 3, 0, [(0, 148)]), (54, .invokevirtual 93, 4, 0, 0, [(0, 4)]), (57, .aload_n 0, 0, 0, 0, []), (58, .getfield 35, 0, 3, 0, [(0, 148)]), (61, .getfield 96, 4, 4, 0, [(0, 133)]), (64, .ireturn, 0, 0, 0, [])]
def bl_L_delete : List (Nat × List ak_I) := [(0, bk_L_delete_0), (14, bk_L_delete_14), (29, bk_L_delete_29), (50, bk_L_delete_50)]
def rg_L_delete : List (Nat × Nat × Nat) := [(77, 1, 2), (71, 2, 2), (85, 1, 4), (89, 0, 4), (93, 0, 4)]
theorem ok_L_delete : ak_okM prog_1_method_7_code ws_L_delete y_L_delete.cls cl_all 2 (some .int) rg_L_delete bl_L_delete = true := by decide +kernel
def ws_L_there : List Cond := .code y_L_there prog_1_method_8_code 3 (some .boolean) :: wd_tbl
def rm_L_there : Room := { frames := 2, cells := 0, slots := 0, locals := 43 }
def bk_L_there_0 : List ak_I := [(0, .iload_n 2, 2, 0, 0, []), (1, .ifCond .ne 13, 14, 0, 0, []), (4, .aload_n 0, 0, 0, 0, []), (5, .getfield 19, 0, 1, 0, [(0, 146)]), (8, .iload_n 1, 1, 0, 0, []), (9, .iconst 1, 0, 0, 1, []), (10, .invokevirtual 71, 0, 2, 0, [(0, 2)]), (13, .ireturn, 0, 1, 0, [])]
def bk_L_there_14 : List ak_I := [(14, .iload_n 2, 2, 0, 0, []), (15, .iconst 1, 0, 0, 1, []), (16, .if_icmp .ne 19, 35, 0, 0, []), (19, .aload_n 0, 0, 0, 0, []), (20, .getfield 19, 0, 1, 0, [(0, 146)]), (23, .iload_n 1, 1, 0, 0, []), (24, .iconst 2, 0, 0, 2, []), (25, .invokevirtual 71, 0, 2, 0, [(0, 2)]), (28, .ifCond .eq 7, 35, 0, 0, []), (31, .iconst 1, 0, 0, 1, []), (32, .goto 4, 36, 0, 0, [])]
def bk_L_there_35 : List ak_I := [(35, .iconst 0, 0, 0, 0, []), (36, .ireturn, 0, 1, 0, [])]
def bk_L_there_36 : List ak_I := [(36, .ireturn, 0, 1, 0, [])]
def bl_L_there : List (Nat × List ak_I) := [(0, bk_L_there_0), (14, bk_L_there_14), (35, bk_L_there_35), (36, bk_L_there_36)]
def rg_L_there : List (Nat × Nat × Nat) := [(71, 2, 2)]
theorem ok_L_there : ak_okM prog_1_method_8_code ws_L_there y_L_there.cls cl_all 3 (some .boolean) rg_L_there bl_L_there = true := by decide +kernel
def ws_L_child : List Cond := .code y_L_child prog_1_method_9_code 4 (some .int) :: wd_tbl
def rm_L_child : Room := { frames := 2, cells := 0, slots := 0, locals := 49 }
def bk_L_child_0 : List ak_I := [(0, .aload_n 0, 0, 0, 0, []), (1, .getfield 19, 0, 1, 0, [(0, 146)]), (4, .iload_n 1, 1, 0, 0, []), (5, .invokevirtual 77, 0, 1, 0, [(0, 2)]), (8, .ifCond .eq 7, 15, 0, 0, []), (11, .iload_n 3, 3, 0, 0, []), (12, .ifCond .ge 5, 17, 0, 0, []), (15, .iconst 0, 0, 0, 0, []), (16, .ireturn, 0, 0, 0, [])]
def bk_L_child_15 : List ak_I := [(15, .iconst 0, 0, 0, 0, []), (16, .ireturn, 0, 0, 0, [])]
def bk_L_child_17 : List ak_I := [(17, .iload_n 2, 2, 0, 0, []), (18, .ifCond .ne 10, 28, 0, 0, []), (21, .aload_n 0, 0, 0, 0, []), (22, .iload_n 1, 1, 0, 0, []), (23, .iload_n 3, 3, 0, 0, []), (24, .invokevirtual 100, 1, 2, 0, [(0, 0)]), (27, .ireturn, 0, 0, 0, [])]
def bk_L_child_28 : List ak_I := [(28, .iload_n 2, 2, 0, 0, []), (29, .iconst 1, 0, 0, 1, []), (30, .if_icmp .ne 15, 45, 0, 0, []), (33, .aload_n 0, 0, 0, 0, []), (34, .getfield 19, 0, 1, 0, [(0, 146)]), (37, .iload_n 1, 1, 0, 0, []), (38, .iload_n 3, 3, 0, 0, []), (39, .invokevirtual 104, 2, 2, 0, [(0, 2)]), (42, .goto 4, 46, 0, 0, [])]
def bk_L_child_45 : List ak_I := [(45, .iconst 0, 0, 0, 0, []), (46, .ireturn, 0, 0, 0, [])]
def bk_L_child_46 : List ak_I := [(46, .ireturn, 0, 0, 0, [])]
def bl_L_child : List (Nat × List ak_I) := [(0, bk_L_child_0), (15, bk_L_child_15), (17, bk_L_child_17), (28, bk_L_child_28), (45, bk_L_child_45), (46, bk_L_child_46)]
def rg_L_child : List (Nat × Nat × Nat) := [(77, 1, 2), (100, 2, 0), (104, 2, 2)]
theorem ok_L_child : ak_okM prog_1_method_9_code ws_L_child y_L_child.cls cl_all 4 (some .int) rg_L_child bl_L_child = true := by decide +kernel
def ws_L_count : List Cond := .code y_L_count prog_1_method_11_code 2 (some .int) :: wd_tbl
def rm_L_count : Room := { frames := 1, cells := 0, slots := 0, locals := 21 }
def bk_L_count_0 : List ak_I := [(0, .aload_n 0, 0, 0, 0, []), (1, .getfield 19, 0, 1, 0, [(0, 146)]), (4, .iload_n 1, 1, 0, 0, []), (5, .invokevirtual 77, 0, 1, 0, [(0, 2)]), (8, .ifCond .eq 15, 23, 0, 0, []), (11, .aload_n 0, 0, 0, 0, []), (12, .getfield 19, 0, 1, 0, [(0, 146)]), (15, .getfield 116, 2, 6, 0, [(0, 79)]), (18, .iload_n 1, 1, 0, 0, []), (19, .iaload, 0, 0, 0, []), (20, .goto 5, 25, 0, 0, [])]
def bk_L_count_23 : List ak_I := [(23, .bipush (-2), 0, 0, (-2), []), (25, .ireturn, 0, 0, 0, [])]
def bk_L_count_25 : List ak_I := [(25, .ireturn, 0, 0, 0, [])]
def bl_L_count : List (Nat × List ak_I) := [(0, bk_L_count_0), (23, bk_L_count_23), (25, bk_L_count_25)]
def rg_L_count : List (Nat × Nat × Nat) := [(77, 1, 2)]
theorem ok_L_count : ak_okM prog_1_method_11_code ws_L_count y_L_count.cls cl_all 2 (some .int) rg_L_count bl_L_count = true := by decide +kernel
def ws_L_index : List Cond := .code y_L_index prog_1_method_12_code 3 (some .int) :: wd_tbl
def rm_L_index : Room := { frames := 1, cells := 0, slots := 0, locals := 22 }
def bk_L_index_0 : List ak_I := [(0, .aload_n 0, 0, 0, 0, []), (1, .getfield 10, 0, 0, 0, [(0, 145)]), (4, .iload_n 1, 1, 0, 0, []), (5, .invokevirtual 39, 0, 1, 0, [(0, 1)]), (8, .ifCond .ne 6, 14, 0, 0, []), (11, .bipush (-2), 0, 0, (-2), []), (13, .ireturn, 0, 0, 0, [])]
def bk_L_index_14 : List ak_I := [(14, .aload_n 0, 0, 0, 0, []), (15, .getfield 26, 0, 2, 0, [(0, 147)]), (18, .iload_n 1, 1, 0, 0, []), (19, .iload_n 2, 2, 0, 0, []), (20, .invokevirtual 119, 1, 2, 0, [(0, 3)]), (23, .ireturn, 0, 0, 0, [])]
def bl_L_index : List (Nat × List ak_I) := [(0, bk_L_index_0), (14, bk_L_index_14)]
def rg_L_index : List (Nat × Nat × Nat) := [(39, 1, 1), (119, 2, 3)]
theorem ok_L_index : ak_okM prog_1_method_12_code ws_L_index y_L_index.cls cl_all 3 (some .int) rg_L_index bl_L_index = true := by decide +kernel
def ws_L_entry : List Cond := .code y_L_entry prog_1_method_13_code 6 (some .int) :: wd_tbl
def rm_L_entry : Room := { frames := 3, cells := 0, slots := 0, locals := 65 }
def bk_L_entry_0 : List ak_I := [(0, .aload_n 0, 0, 0, 0, []), (1, .getfield 26, 0, 2, 0, [(0, 147)]), (4, .iload_n 1, 1, 0, 0, []), (5, .invokevirtual 122, 0, 1, 0, [(0, 3)]), (8, .ifCond .eq 7, 15, 0, 0, []), (11, .iload_n 2, 2, 0, 0, []), (12, .ifCond .ge 5, 17, 0, 0, []), (15, .iconst 0, 0, 0, 0, []), (16, .ireturn, 0, 0, 0, [])]
def bk_L_entry_15 : List ak_I := [(15, .iconst 0, 0, 0, 0, []), (16, .ireturn, 0, 0, 0, [])]
def bk_L_entry_17 : List ak_I := [(17, .iload_n 2, 2, 0, 0, []), (18, .istore_n 3, 3, 0, 0, []), (19, .iconst 0, 0, 0, 0, []), (20, .istore 4, 4, 0, 0, []), (22, .nop, 0, 0, 0, [])]
def bk_L_entry_22 : List ak_I := [(22, .iload 4, 4, 0, 0, []), (24, .aload_n 0, 0, 0, 0, []), (25, .getfield 19, 0, 1, 0, [(0, 146)]), (28, .getfield 108, 2, 0, 0, [(0, 66)]), (31, .if_icmp .ge 41, 72, 0, 0, []), (34, .aload_n 0, 0, 0, 0, []), (35, .getfield 19, 0, 1, 0, [(0, 146)]), (38, .getfield 109, 2, 8, 0, [(0, 82)]), (41, .iload 4, 4, 0, 0, []), (43, .iaload, 0, 0, 0, []), (44, .istore 5, 5, 0, 0, []), (46, .aload_n 0, 0, 0, 0, []), (47, .iload_n 1, 1, 0, 0, []), (48, .iload 5, 5, 0, 0, []), (50, .invokevirtual 123, 1, 2, 0, [(0, 0)]), (53, .ifCond .eq 13, 66, 0, 0, []), (56, .iload_n 3, 3, 0, 0, []), (57, .iinc 3 (-1), 3, 0, (-1), []), (60, .ifCond .ne 6, 66, 0, 0, []), (63, .iload 5, 5, 0, 0, []), (65, .ireturn, 0, 0, 0, [])]
def bk_L_entry_66 : List ak_I := [(66, .iinc 4 1, 4, 0, 1, []), (69, .goto (-47), 22, 1, 0, [])]
def bk_L_entry_72 : List ak_I := [(72, .iconst 0, 0, 0, 0, []), (73, .ireturn, 0, 0, 0, [])]
def bl_L_entry : List (Nat × List ak_I) := [(0, bk_L_entry_0), (15, bk_L_entry_15), (17, bk_L_entry_17), (22, bk_L_entry_22), (66, bk_L_entry_66), (72, bk_L_entry_72)]
def rg_L_entry : List (Nat × Nat × Nat) := [(122, 1, 3), (123, 2, 0)]
theorem ok_L_entry : ak_okM prog_1_method_13_code ws_L_entry y_L_entry.cls cl_all 6 (some .int) rg_L_entry bl_L_entry = true := by decide +kernel
def ws_L_poke : List Cond := .code y_L_poke prog_1_method_15_code 4 (some .int) :: wd_tbl
def rm_L_poke : Room := { frames := 2, cells := 0, slots := 0, locals := 43 }
def bk_L_poke_0 : List ak_I := [(0, .aload_n 0, 0, 0, 0, []), (1, .getfield 19, 0, 1, 0, [(0, 146)]), (4, .iload_n 1, 1, 0, 0, []), (5, .invokevirtual 77, 0, 1, 0, [(0, 2)]), (8, .ifCond .ne 6, 14, 0, 0, []), (11, .bipush (-2), 0, 0, (-2), []), (13, .ireturn, 0, 0, 0, [])]
def bk_L_poke_14 : List ak_I := [(14, .iload_n 2, 2, 0, 0, []), (15, .ifCond .lt 8, 23, 0, 0, []), (18, .iload_n 2, 2, 0, 0, []), (19, .iconst 3, 0, 0, 3, []), (20, .if_icmp .lt 6, 26, 0, 0, []), (23, .bipush (-4), 0, 0, (-4), []), (25, .ireturn, 0, 0, 0, [])]
def bk_L_poke_23 : List ak_I := [(23, .bipush (-4), 0, 0, (-4), []), (25, .ireturn, 0, 0, 0, [])]
def bk_L_poke_26 : List ak_I := [(26, .aload_n 0, 0, 0, 0, []), (27, .getfield 19, 0, 1, 0, [(0, 146)]), (30, .iload_n 1, 1, 0, 0, []), (31, .iconst 0, 0, 0, 0, []), (32, .invokevirtual 71, 1, 2, 0, [(0, 2)]), (35, .ifCond .eq 6, 41, 0, 0, []), (38, .bipush (-5), 0, 0, (-5), []), (40, .ireturn, 0, 0, 0, [])]
def bk_L_poke_41 : List ak_I := [(41, .aload_n 0, 0, 0, 0, []), (42, .getfield 19, 0, 1, 0, [(0, 146)]), (45, .iload_n 1, 1, 0, 0, []), (46, .iload_n 2, 2, 0, 0, []), (47, .iload_n 3, 3, 0, 0, []), (48, .invokevirtual 135, 2, 3, 0, [(0, 2)]), (51, .ireturn, 0, 0, 0, [])]
def bl_L_poke : List (Nat × List ak_I) := [(0, bk_L_poke_0), (14, bk_L_poke_14), (23, bk_L_poke_23), (26, bk_L_poke_26), (41, bk_L_poke_41)]
def rg_L_poke : List (Nat × Nat × Nat) := [(77, 1, 2), (71, 2, 2), (135, 3, 2)]
theorem ok_L_poke : ak_okM prog_1_method_15_code ws_L_poke y_L_poke.cls cl_all 4 (some .int) rg_L_poke bl_L_poke = true := by decide +kernel
def ws_L_check : List Cond := .code y_L_check prog_1_method_16_code 3 (some .int) :: wd_tbl
def rm_L_check : Room := { frames := 2, cells := 0, slots := 0, locals := 45 }
def bk_L_check_0 : List ak_I := [(0, .iconst 0, 0, 0, 0, []), (1, .istore_n 1, 1, 0, 0, []), (2, .iconst 1, 0, 0, 1, []), (3, .istore_n 2, 2, 0, 0, []), (4, .nop, 0, 0, 0, [])]
def bk_L_check_4 : List ak_I := [(4, .iload_n 2, 2, 0, 0, []), (5, .aload_n 0, 0, 0, 0, []), (6, .getfield 19, 0, 1, 0, [(0, 146)]), (9, .getfield 108, 2, 0, 0, [(0, 66)]), (12, .if_icmp .gt 20, 32, 0, 0, []), (15, .iload_n 1, 1, 0, 0, []), (16, .aload_n 0, 0, 0, 0, []), (17, .getfield 19, 0, 1, 0, [(0, 146)]), (20, .iload_n 2, 2, 0, 0, []), (21, .invokevirtual 139, 0, 1, 0, [(0, 2)]), (24, .iadd, 0, 0, 0, []), (25, .istore_n 1, 1, 0, 0, []), (26, .iinc 2 1, 2, 0, 1, []), (29, .goto (-25), 4, 1, 0, [])]
def bk_L_check_32 : List ak_I := [(32, .iload_n 1, 1, 0, 0, []), (33, .ireturn, 0, 0, 0, [])]
def bl_L_check : List (Nat × List ak_I) := [(0, bk_L_check_0), (4, bk_L_check_4), (32, bk_L_check_32)]
def rg_L_check : List (Nat × Nat × Nat) := [(139, 1, 2)]
theorem ok_L_check : ak_okM prog_1_method_16_code ws_L_check y_L_check.cls cl_all 3 (some .int) rg_L_check bl_L_check = true := by decide +kernel
def ws_L_broken : List Cond := .code y_L_broken prog_1_method_17_code 4 (some .int) :: wd_tbl
def rm_L_broken : Room := { frames := 2, cells := 0, slots := 0, locals := 45 }
def bk_L_broken_0 : List ak_I := [(0, .iload_n 1, 1, 0, 0, []), (1, .ifCond .ge 5, 6, 0, 0, []), (4, .iconst 0, 0, 0, 0, []), (5, .ireturn, 0, 0, 0, [])]
def bk_L_broken_6 : List ak_I := [(6, .iload_n 1, 1, 0, 0, []), (7, .istore_n 2, 2, 0, 0, []), (8, .iconst 1, 0, 0, 1, []), (9, .istore_n 3, 3, 0, 0, []), (10, .nop, 0, 0, 0, [])]
def bk_L_broken_10 : List ak_I := [(10, .iload_n 3, 3, 0, 0, []), (11, .aload_n 0, 0, 0, 0, []), (12, .getfield 19, 0, 1, 0, [(0, 146)]), (15, .getfield 108, 2, 0, 0, [(0, 66)]), (18, .if_icmp .gt 26, 44, 0, 0, []), (21, .iload_n 2, 2, 0, 0, []), (22, .aload_n 0, 0, 0, 0, []), (23, .getfield 19, 0, 1, 0, [(0, 146)]), (26, .iload_n 3, 3, 0, 0, []), (27, .invokevirtual 139, 0, 1, 0, [(0, 2)]), (30, .isub, 0, 0, 0, []), (31, .istore_n 2, 2, 0, 0, []), (32, .iload_n 2, 2, 0, 0, []), (33, .ifCond .ge 5, 38, 0, 0, []), (36, .iload_n 3, 3, 0, 0, []), (37, .ireturn, 0, 0, 0, [])]
def bk_L_broken_38 : List ak_I := [(38, .iinc 3 1, 3, 0, 1, []), (41, .goto (-31), 10, 1, 0, [])]
def bk_L_broken_44 : List ak_I := [(44, .iconst 0, 0, 0, 0, []), (45, .ireturn, 0, 0, 0, [])]
def bl_L_broken : List (Nat × List ak_I) := [(0, bk_L_broken_0), (6, bk_L_broken_6), (10, bk_L_broken_10), (38, bk_L_broken_38), (44, bk_L_broken_44)]
def rg_L_broken : List (Nat × Nat × Nat) := [(139, 1, 2)]
theorem ok_L_broken : ak_okM prog_1_method_17_code ws_L_broken y_L_broken.cls cl_all 4 (some .int) rg_L_broken bl_L_broken = true := by decide +kernel
def ws_L_told : List Cond := .code y_L_told prog_1_method_18_code 2 (some .int) :: wd_tbl
def rm_L_told : Room := { frames := 1, cells := 0, slots := 0, locals := 23 }
def bk_L_told_0 : List ak_I := [(0, .iload_n 1, 1, 0, 0, []), (1, .tableswitch 89 0 5 #[39, 47, 55, 64, 73, 81], 90, 0, 0, [(0, 40), (1, 48), (2, 56), (3, 65), (4, 74), (5, 82)])]
def bk_L_told_40 : List ak_I := [(40, .aload_n 0, 0, 0, 0, []), (41, .getfield 10, 0, 0, 0, [(0, 145)]), (44, .getfield 107, 1, 0, 0, [(0, 41)]), (47, .ireturn, 0, 0, 0, [])]
def bk_L_told_48 : List ak_I := [(48, .aload_n 0, 0, 0, 0, []), (49, .getfield 19, 0, 1, 0, [(0, 146)]), (52, .getfield 108, 2, 0, 0, [(0, 66)]), (55, .ireturn, 0, 0, 0, [])]
def bk_L_told_56 : List ak_I := [(56, .aload_n 0, 0, 0, 0, []), (57, .getfield 19, 0, 1, 0, [(0, 146)]), (60, .iconst 1, 0, 0, 1, []), (61, .invokevirtual 142, 0, 1, 0, [(0, 2)]), (64, .ireturn, 0, 0, 0, [])]
def bk_L_told_65 : List ak_I := [(65, .aload_n 0, 0, 0, 0, []), (66, .getfield 19, 0, 1, 0, [(0, 146)]), (69, .iconst 2, 0, 0, 2, []), (70, .invokevirtual 142, 0, 1, 0, [(0, 2)]), (73, .ireturn, 0, 0, 0, [])]
def bk_L_told_74 : List ak_I := [(74, .aload_n 0, 0, 0, 0, []), (75, .getfield 19, 0, 1, 0, [(0, 146)]), (78, .invokevirtual 145, 1, 0, 0, [(0, 2)]), (81, .ireturn, 0, 0, 0, [])]
def bk_L_told_82 : List ak_I := [(82, .aload_n 0, 0, 0, 0, []), (83, .getfield 26, 0, 2, 0, [(0, 147)]), (86, .getfield 149, 3, 0, 0, [(0, 109)]), (89, .ireturn, 0, 0, 0, [])]
def bk_L_told_90 : List ak_I := [(90, .iconst (-1), 0, 0, (-1), []), (91, .ireturn, 0, 0, 0, [])]
def bl_L_told : List (Nat × List ak_I) := [(0, bk_L_told_0), (40, bk_L_told_40), (48, bk_L_told_48), (56, bk_L_told_56), (65, bk_L_told_65), (74, bk_L_told_74), (82, bk_L_told_82), (90, bk_L_told_90)]
def rg_L_told : List (Nat × Nat × Nat) := [(142, 1, 2), (145, 0, 2)]
theorem ok_L_told : ak_okM prog_1_method_18_code ws_L_told y_L_told.cls cl_all 2 (some .int) rg_L_told bl_L_told = true := by decide +kernel
end
section
/-! blocks, laid by program (wip/whole/gen.py) -/
def ws_M_isKind : List Cond := .code y_M_isKind prog_7_method_3_code 2 (some .boolean) :: wd_tbl
def rm_M_isKind : Room := { frames := 0, cells := 0, slots := 0, locals := 0 }
def bk_M_isKind_0 : List ak_I := [(0, .iload_n 1, 1, 0, 0, []), (1, .ifCond .le 15, 16, 0, 0, []), (4, .iload_n 1, 1, 0, 0, []), (5, .aload_n 0, 0, 0, 0, []), (6, .getfield 55, 5, 1, 0, [(0, 340)]), (9, .if_icmp .gt 7, 16, 0, 0, []), (12, .iconst 1, 0, 0, 1, []), (13, .goto 4, 17, 0, 0, [])]
def bk_M_isKind_16 : List ak_I := [(16, .iconst 0, 0, 0, 0, []), (17, .ireturn, 0, 1, 0, [])]
def bk_M_isKind_17 : List ak_I := [(17, .ireturn, 0, 1, 0, [])]
def bl_M_isKind : List (Nat × List ak_I) := [(0, bk_M_isKind_0), (16, bk_M_isKind_16), (17, bk_M_isKind_17)]
def rg_M_isKind : List (Nat × Nat × Nat) := []
theorem ok_M_isKind : ak_okM prog_7_method_3_code ws_M_isKind y_M_isKind.cls cl_all 2 (some .boolean) rg_M_isKind bl_M_isKind = true := by decide +kernel
def ws_M_isSegment : List Cond := .code y_M_isSegment prog_7_method_4_code 2 (some .boolean) :: wd_tbl
def rm_M_isSegment : Room := { frames := 0, cells := 0, slots := 0, locals := 0 }
def bk_M_isSegment_0 : List ak_I := [(0, .iload_n 1, 1, 0, 0, []), (1, .ifCond .le 15, 16, 0, 0, []), (4, .iload_n 1, 1, 0, 0, []), (5, .aload_n 0, 0, 0, 0, []), (6, .getfield 58, 5, 2, 0, [(0, 341)]), (9, .if_icmp .gt 7, 16, 0, 0, []), (12, .iconst 1, 0, 0, 1, []), (13, .goto 4, 17, 0, 0, [])]
def bk_M_isSegment_16 : List ak_I := [(16, .iconst 0, 0, 0, 0, []), (17, .ireturn, 0, 1, 0, [])]
def bk_M_isSegment_17 : List ak_I := [(17, .ireturn, 0, 1, 0, [])]
def bl_M_isSegment : List (Nat × List ak_I) := [(0, bk_M_isSegment_0), (16, bk_M_isSegment_16), (17, bk_M_isSegment_17)]
def rg_M_isSegment : List (Nat × Nat × Nat) := []
theorem ok_M_isSegment : ak_okM prog_7_method_4_code ws_M_isSegment y_M_isSegment.cls cl_all 2 (some .boolean) rg_M_isSegment bl_M_isSegment = true := by decide +kernel
def ws_M_isThere : List Cond := .code y_M_isThere prog_7_method_5_code 2 (some .boolean) :: wd_tbl
def rm_M_isThere : Room := { frames := 1, cells := 0, slots := 0, locals := 21 }
def bk_M_isThere_0 : List ak_I := [(0, .aload_n 0, 0, 0, 0, []), (1, .iload_n 1, 1, 0, 0, []), (2, .invokevirtual 61, 0, 1, 0, [(0, 5)]), (5, .ifCond .eq 17, 22, 0, 0, []), (8, .aload_n 0, 0, 0, 0, []), (9, .getfield 25, 5, 9, 0, [(0, 348)]), (12, .iload_n 1, 1, 0, 0, []), (13, .iaload, 0, 0, 0, []), (14, .iconst 1, 0, 0, 1, []), (15, .if_icmp .ne 7, 22, 0, 0, []), (18, .iconst 1, 0, 0, 1, []), (19, .goto 4, 23, 0, 0, [])]
def bk_M_isThere_22 : List ak_I := [(22, .iconst 0, 0, 0, 0, []), (23, .ireturn, 0, 1, 0, [])]
def bk_M_isThere_23 : List ak_I := [(23, .ireturn, 0, 1, 0, [])]
def bl_M_isThere : List (Nat × List ak_I) := [(0, bk_M_isThere_0), (22, bk_M_isThere_22), (23, bk_M_isThere_23)]
def rg_M_isThere : List (Nat × Nat × Nat) := [(61, 1, 5)]
theorem ok_M_isThere : ak_okM prog_7_method_5_code ws_M_isThere y_M_isThere.cls cl_all 2 (some .boolean) rg_M_isThere bl_M_isThere = true := by decide +kernel
def ws_M_countOf : List Cond := .code y_M_countOf prog_7_method_8_code 4 (some .int) :: wd_tbl
def rm_M_countOf : Room := { frames := 0, cells := 0, slots := 0, locals := 0 }
def bk_M_countOf_0 : List ak_I := [(0, .iconst 0, 0, 0, 0, []), (1, .istore_n 2, 2, 0, 0, []), (2, .iconst 1, 0, 0, 1, []), (3, .istore_n 3, 3, 0, 0, []), (4, .nop, 0, 0, 0, [])]
def bk_M_countOf_4 : List ak_I := [(4, .iload_n 3, 3, 0, 0, []), (5, .aload_n 0, 0, 0, 0, []), (6, .getfield 58, 5, 2, 0, [(0, 341)]), (9, .if_icmp .gt 37, 46, 0, 0, []), (12, .iload_n 2, 2, 0, 0, []), (13, .aload_n 0, 0, 0, 0, []), (14, .getfield 25, 5, 9, 0, [(0, 348)]), (17, .iload_n 3, 3, 0, 0, []), (18, .iaload, 0, 0, 0, []), (19, .iconst 1, 0, 0, 1, []), (20, .if_icmp .ne 17, 37, 0, 0, []), (23, .aload_n 0, 0, 0, 0, []), (24, .getfield 28, 5, 10, 0, [(0, 349)]), (27, .iload_n 3, 3, 0, 0, []), (28, .iaload, 0, 0, 0, []), (29, .iload_n 1, 1, 0, 0, []), (30, .if_icmp .ne 7, 37, 0, 0, []), (33, .iconst 1, 0, 0, 1, []), (34, .goto 4, 38, 0, 0, [])]
def bk_M_countOf_37 : List ak_I := [(37, .iconst 0, 0, 0, 0, []), (38, .iadd, 0, 0, 0, []), (39, .istore_n 2, 2, 0, 0, []), (40, .iinc 3 1, 3, 0, 1, []), (43, .goto (-39), 4, 1, 0, [])]
def bk_M_countOf_38 : List ak_I := [(38, .iadd, 0, 0, 0, []), (39, .istore_n 2, 2, 0, 0, []), (40, .iinc 3 1, 3, 0, 1, []), (43, .goto (-39), 4, 1, 0, [])]
def bk_M_countOf_46 : List ak_I := [(46, .iload_n 2, 2, 0, 0, []), (47, .ireturn, 0, 0, 0, [])]
def bl_M_countOf : List (Nat × List ak_I) := [(0, bk_M_countOf_0), (4, bk_M_countOf_4), (37, bk_M_countOf_37), (38, bk_M_countOf_38), (46, bk_M_countOf_46)]
def rg_M_countOf : List (Nat × Nat × Nat) := []
theorem ok_M_countOf : ak_okM prog_7_method_8_code ws_M_countOf y_M_countOf.cls cl_all 4 (some .int) rg_M_countOf bl_M_countOf = true := by decide +kernel
def ws_M_truth : List Cond := .code y_M_truth prog_7_method_9_code 3 (some .int) :: wd_tbl
def rm_M_truth : Room := { frames := 1, cells := 0, slots := 0, locals := 23 }
def bk_M_truth_0 : List ak_I := [(0, .iload_n 2, 2, 0, 0, []), (1, .ifCond .ne 26, 27, 0, 0, []), (4, .aload_n 0, 0, 0, 0, []), (5, .getfield 25, 5, 9, 0, [(0, 348)]), (8, .iload_n 1, 1, 0, 0, []), (9, .iaload, 0, 0, 0, []), (10, .iconst 1, 0, 0, 1, []), (11, .if_icmp .ne 12, 23, 0, 0, []), (14, .aload_n 0, 0, 0, 0, []), (15, .getfield 22, 5, 8, 0, [(0, 347)]), (18, .iload_n 1, 1, 0, 0, []), (19, .iaload, 0, 0, 0, []), (20, .goto 26, 46, 0, 0, [])]
def bk_M_truth_23 : List ak_I := [(23, .iconst 0, 0, 0, 0, []), (24, .goto 22, 46, 0, 0, [])]
def bk_M_truth_27 : List ak_I := [(27, .iload_n 2, 2, 0, 0, []), (28, .iconst 1, 0, 0, 1, []), (29, .if_icmp .ne 12, 41, 0, 0, []), (32, .aload_n 0, 0, 0, 0, []), (33, .getfield 28, 5, 10, 0, [(0, 349)]), (36, .iload_n 1, 1, 0, 0, []), (37, .iaload, 0, 0, 0, []), (38, .goto 8, 46, 0, 0, [])]
def bk_M_truth_41 : List ak_I := [(41, .aload_n 0, 0, 0, 0, []), (42, .iload_n 1, 1, 0, 0, []), (43, .invokevirtual 68, 0, 1, 0, [(0, 5)]), (46, .ireturn, 0, 0, 0, [])]
def bk_M_truth_46 : List ak_I := [(46, .ireturn, 0, 0, 0, [])]
def bl_M_truth : List (Nat × List ak_I) := [(0, bk_M_truth_0), (23, bk_M_truth_23), (27, bk_M_truth_27), (41, bk_M_truth_41), (46, bk_M_truth_46)]
def rg_M_truth : List (Nat × Nat × Nat) := [(68, 1, 5)]
theorem ok_M_truth : ak_okM prog_7_method_9_code ws_M_truth y_M_truth.cls cl_all 3 (some .int) rg_M_truth bl_M_truth = true := by decide +kernel
def ws_M_right : List Cond := .code y_M_right prog_7_method_10_code 3 none :: wd_tbl
def rm_M_right : Room := { frames := 2, cells := 0, slots := 0, locals := 45 }
def bk_M_right_0 : List ak_I := [(0, .iconst 0, 0, 0, 0, []), (1, .istore_n 2, 2, 0, 0, []), (2, .nop, 0, 0, 0, [])]
def bk_M_right_2 : List ak_I := [(2, .iload_n 2, 2, 0, 0, []), (3, .iconst 3, 0, 0, 3, []), (4, .if_icmp .ge 25, 29, 0, 0, []), (7, .aload_n 0, 0, 0, 0, []), (8, .getfield 31, 5, 11, 0, [(0, 350)]), (11, .iconst 3, 0, 0, 3, []), (12, .iload_n 1, 1, 0, 0, []), (13, .imul, 0, 0, 0, []), (14, .iload_n 2, 2, 0, 0, []), (15, .iadd, 0, 0, 0, []), (16, .aload_n 0, 0, 0, 0, []), (17, .iload_n 1, 1, 0, 0, []), (18, .iload_n 2, 2, 0, 0, []), (19, .invokevirtual 72, 0, 2, 0, [(0, 5)]), (22, .iastore, 0, 0, 0, []), (23, .iinc 2 1, 2, 0, 1, []), (26, .goto (-24), 2, 1, 0, [])]
def bk_M_right_29 : List ak_I := [(29, .return_, 0, 0, 0, [])]
def bl_M_right : List (Nat × List ak_I) := [(0, bk_M_right_0), (2, bk_M_right_2), (29, bk_M_right_29)]
def rg_M_right : List (Nat × Nat × Nat) := [(72, 2, 5)]
theorem ok_M_right : ak_okM prog_7_method_10_code ws_M_right y_M_right.cls cl_all 3 none rg_M_right bl_M_right = true := by decide +kernel
def ws_M_spread : List Cond := .code y_M_spread prog_7_method_13_code 3 (some .boolean) :: wd_tbl
def rm_M_spread : Room := { frames := 0, cells := 0, slots := 0, locals := 0 }
def bk_M_spread_0 : List ak_I := [(0, .iconst 0, 0, 0, 0, []), (1, .istore_n 1, 1, 0, 0, []), (2, .iconst 1, 0, 0, 1, []), (3, .istore_n 2, 2, 0, 0, []), (4, .nop, 0, 0, 0, [])]
def bk_M_spread_4 : List ak_I := [(4, .iload_n 2, 2, 0, 0, []), (5, .aload_n 0, 0, 0, 0, []), (6, .getfield 58, 5, 2, 0, [(0, 341)]), (9, .if_icmp .gt 122, 131, 0, 0, []), (12, .aload_n 0, 0, 0, 0, []), (13, .getfield 25, 5, 9, 0, [(0, 348)]), (16, .iload_n 2, 2, 0, 0, []), (17, .iaload, 0, 0, 0, []), (18, .iconst 1, 0, 0, 1, []), (19, .if_icmp .ne 106, 125, 0, 0, []), (22, .aload_n 0, 0, 0, 0, []), (23, .getfield 38, 5, 13, 0, [(0, 352)]), (26, .iload_n 2, 2, 0, 0, []), (27, .baload, 0, 0, 0, []), (28, .ifCond .eq 6, 34, 0, 0, []), (31, .goto 94, 125, 0, 0, [])]
def bk_M_spread_34 : List ak_I := [(34, .aload_n 0, 0, 0, 0, []), (35, .getfield 38, 5, 13, 0, [(0, 352)]), (38, .iload_n 2, 2, 0, 0, []), (39, .aload_n 0, 0, 0, 0, []), (40, .getfield 22, 5, 8, 0, [(0, 347)]), (43, .iload_n 2, 2, 0, 0, []), (44, .iaload, 0, 0, 0, []), (45, .ifCond .eq 17, 62, 0, 0, []), (48, .aload_n 0, 0, 0, 0, []), (49, .getfield 38, 5, 13, 0, [(0, 352)]), (52, .aload_n 0, 0, 0, 0, []), (53, .getfield 22, 5, 8, 0, [(0, 347)]), (56, .iload_n 2, 2, 0, 0, []), (57, .iaload, 0, 0, 0, []), (58, .baload, 0, 0, 0, []), (59, .ifCond .ne 41, 100, 0, 0, []), (62, .aload_n 0, 0, 0, 0, []), (63, .getfield 28, 5, 10, 0, [(0, 349)]), (66, .iload_n 2, 2, 0, 0, []), (67, .iaload, 0, 0, 0, []), (68, .ifCond .eq 36, 104, 0, 0, []), (71, .aload_n 0, 0, 0, 0, []), (72, .getfield 38, 5, 13, 0, [(0, 352)]), (75, .aload_n 0, 0, 0, 0, []), (76, .getfield 28, 5, 10, 0, [(0, 349)]), (79, .iload_n 2, 2, 0, 0, []), (80, .iaload, 0, 0, 0, []), (81, .baload, 0, 0, 0, []), (82, .ifCond .eq 22, 104, 0, 0, []), (85, .aload_n 0, 0, 0, 0, []), (86, .getfield 16, 5, 6, 0, [(0, 345)]), (89, .aload_n 0, 0, 0, 0, []), (90, .getfield 19, 5, 7, 0, [(0, 346)]), (93, .iload_n 2, 2, 0, 0, []), (94, .iaload, 0, 0, 0, []), (95, .iaload, 0, 0, 0, []), (96, .iconst 2, 0, 0, 2, []), (97, .if_icmp .ne 7, 104, 0, 0, []), (100, .iconst 1, 0, 0, 1, []), (101, .goto 4, 105, 1, 0, [])]
def bk_M_spread_62 : List ak_I := [(62, .aload_n 0, 0, 0, 0, []), (63, .getfield 28, 5, 10, 0, [(0, 349)]), (66, .iload_n 2, 2, 0, 0, []), (67, .iaload, 0, 0, 0, []), (68, .ifCond .eq 36, 104, 0, 0, []), (71, .aload_n 0, 0, 0, 0, []), (72, .getfield 38, 5, 13, 0, [(0, 352)]), (75, .aload_n 0, 0, 0, 0, []), (76, .getfield 28, 5, 10, 0, [(0, 349)]), (79, .iload_n 2, 2, 0, 0, []), (80, .iaload, 0, 0, 0, []), (81, .baload, 0, 0, 0, []), (82, .ifCond .eq 22, 104, 0, 0, []), (85, .aload_n 0, 0, 0, 0, []), (86, .getfield 16, 5, 6, 0, [(0, 345)]), (89, .aload_n 0, 0, 0, 0, []), (90, .getfield 19, 5, 7, 0, [(0, 346)]), (93, .iload_n 2, 2, 0, 0, []), (94, .iaload, 0, 0, 0, []), (95, .iaload, 0, 0, 0, []), (96, .iconst 2, 0, 0, 2, []), (97, .if_icmp .ne 7, 104, 0, 0, []), (100, .iconst 1, 0, 0, 1, []), (101, .goto 4, 105, 1, 0, [])]
def bk_M_spread_100 : List ak_I := [(100, .iconst 1, 0, 0, 1, []), (101, .goto 4, 105, 1, 0, [])]
def bk_M_spread_104 : List ak_I := [(104, .iconst 0, 0, 0, 0, []), (105, .nop, 0, 0, 0, [])]
def bk_M_spread_105 : List ak_I := [(105, .bastore, 0, 0, 0, []), (106, .iload_n 1, 1, 0, 0, []), (107, .ifCond .ne 12, 119, 0, 0, []), (110, .aload_n 0, 0, 0, 0, []), (111, .getfield 38, 5, 13, 0, [(0, 352)]), (114, .iload_n 2, 2, 0, 0, []), (115, .baload, 0, 0, 0, []), (116, .ifCond .eq 7, 123, 0, 0, []), (119, .iconst 1, 0, 0, 1, []), (120, .goto 4, 124, 0, 0, [])]
def bk_M_spread_119 : List ak_I := [(119, .iconst 1, 0, 0, 1, []), (120, .goto 4, 124, 0, 0, [])]
def bk_M_spread_123 : List ak_I := [(123, .iconst 0, 0, 0, 0, []), (124, .istore_n 1, 1, 0, 0, []), (125, .iinc 2 1, 2, 0, 1, []), (128, .goto (-124), 4, 1, 0, [])]
def bk_M_spread_124 : List ak_I := [(124, .istore_n 1, 1, 0, 0, []), (125, .iinc 2 1, 2, 0, 1, []), (128, .goto (-124), 4, 1, 0, [])]
def bk_M_spread_125 : List ak_I := [(125, .iinc 2 1, 2, 0, 1, []), (128, .goto (-124), 4, 1, 0, [])]
def bk_M_spread_131 : List ak_I := [(131, .iload_n 1, 1, 0, 0, []), (132, .ireturn, 0, 1, 0, [])]
def bl_M_spread : List (Nat × List ak_I) := [(0, bk_M_spread_0), (4, bk_M_spread_4), (34, bk_M_spread_34), (62, bk_M_spread_62), (100, bk_M_spread_100), (104, bk_M_spread_104), (105, bk_M_spread_105), (119, bk_M_spread_119), (123, bk_M_spread_123), (124, bk_M_spread_124), (125, bk_M_spread_125), (131, bk_M_spread_131)]
def rg_M_spread : List (Nat × Nat × Nat) := []
theorem ok_M_spread : ak_okM prog_7_method_13_code ws_M_spread y_M_spread.cls cl_all 3 (some .boolean) rg_M_spread bl_M_spread = true := by decide +kernel
def ws_M_isAhead : List Cond := .code y_M_isAhead prog_7_method_16_code 4 (some .boolean) :: wd_tbl
def rm_M_isAhead : Room := { frames := 0, cells := 0, slots := 0, locals := 0 }
def bk_M_isAhead_0 : List ak_I := [(0, .iload_n 3, 3, 0, 0, []), (1, .ifCond .ne 39, 40, 0, 0, []), (4, .aload_n 0, 0, 0, 0, []), (5, .getfield 19, 5, 7, 0, [(0, 346)]), (8, .iload_n 1, 1, 0, 0, []), (9, .iaload, 0, 0, 0, []), (10, .aload_n 0, 0, 0, 0, []), (11, .getfield 19, 5, 7, 0, [(0, 346)]), (14, .iload_n 2, 2, 0, 0, []), (15, .iaload, 0, 0, 0, []), (16, .if_icmp .eq 24, 40, 0, 0, []), (19, .aload_n 0, 0, 0, 0, []), (20, .getfield 19, 5, 7, 0, [(0, 346)]), (23, .iload_n 1, 1, 0, 0, []), (24, .iaload, 0, 0, 0, []), (25, .aload_n 0, 0, 0, 0, []), (26, .getfield 19, 5, 7, 0, [(0, 346)]), (29, .iload_n 2, 2, 0, 0, []), (30, .iaload, 0, 0, 0, []), (31, .if_icmp .ge 7, 38, 0, 0, []), (34, .iconst 1, 0, 0, 1, []), (35, .goto 4, 39, 0, 0, [])]
def bk_M_isAhead_38 : List ak_I := [(38, .iconst 0, 0, 0, 0, []), (39, .ireturn, 0, 1, 0, [])]
def bk_M_isAhead_39 : List ak_I := [(39, .ireturn, 0, 1, 0, [])]
def bk_M_isAhead_40 : List ak_I := [(40, .aload_n 0, 0, 0, 0, []), (41, .getfield 34, 5, 12, 0, [(0, 351)]), (44, .iload_n 1, 1, 0, 0, []), (45, .laload, 0, 0, 0, []), (46, .aload_n 0, 0, 0, 0, []), (47, .getfield 34, 5, 12, 0, [(0, 351)]), (50, .iload_n 2, 2, 0, 0, []), (51, .laload, 0, 0, 0, []), (52, .lcmp, 0, 0, 0, []), (53, .ifCond .eq 27, 80, 0, 0, []), (56, .aload_n 0, 0, 0, 0, []), (57, .getfield 34, 5, 12, 0, [(0, 351)]), (60, .iload_n 1, 1, 0, 0, []), (61, .laload, 0, 0, 0, []), (62, .aload_n 0, 0, 0, 0, []), (63, .getfield 34, 5, 12, 0, [(0, 351)]), (66, .iload_n 2, 2, 0, 0, []), (67, .laload, 0, 0, 0, []), (68, .lcmp, 0, 0, 0, []), (69, .ifCond .ge 7, 76, 0, 0, []), (72, .iconst 1, 0, 0, 1, []), (73, .goto 17, 90, 0, 0, [])]
def bk_M_isAhead_76 : List ak_I := [(76, .iconst 0, 0, 0, 0, []), (77, .goto 13, 90, 0, 0, [])]
def bk_M_isAhead_80 : List ak_I := [(80, .iload_n 1, 1, 0, 0, []), (81, .iload_n 2, 2, 0, 0, []), (82, .if_icmp .ge 7, 89, 0, 0, []), (85, .iconst 1, 0, 0, 1, []), (86, .goto 4, 90, 0, 0, [])]
def bk_M_isAhead_89 : List ak_I := [(89, .iconst 0, 0, 0, 0, []), (90, .ireturn, 0, 1, 0, [])]
def bk_M_isAhead_90 : List ak_I := [(90, .ireturn, 0, 1, 0, [])]
def bl_M_isAhead : List (Nat × List ak_I) := [(0, bk_M_isAhead_0), (38, bk_M_isAhead_38), (39, bk_M_isAhead_39), (40, bk_M_isAhead_40), (76, bk_M_isAhead_76), (80, bk_M_isAhead_80), (89, bk_M_isAhead_89), (90, bk_M_isAhead_90)]
def rg_M_isAhead : List (Nat × Nat × Nat) := []
theorem ok_M_isAhead : ak_okM prog_7_method_16_code ws_M_isAhead y_M_isAhead.cls cl_all 4 (some .boolean) rg_M_isAhead bl_M_isAhead = true := by decide +kernel
def ws_M_isChild : List Cond := .code y_M_isChild prog_7_method_17_code 4 (some .boolean) :: wd_tbl
def rm_M_isChild : Room := { frames := 0, cells := 0, slots := 0, locals := 0 }
def bk_M_isChild_0 : List ak_I := [(0, .aload_n 0, 0, 0, 0, []), (1, .getfield 25, 5, 9, 0, [(0, 348)]), (4, .iload_n 2, 2, 0, 0, []), (5, .iaload, 0, 0, 0, []), (6, .iconst 1, 0, 0, 1, []), (7, .if_icmp .ne 30, 37, 0, 0, []), (10, .iload_n 3, 3, 0, 0, []), (11, .ifCond .ne 12, 23, 0, 0, []), (14, .aload_n 0, 0, 0, 0, []), (15, .getfield 22, 5, 8, 0, [(0, 347)]), (18, .iload_n 2, 2, 0, 0, []), (19, .iaload, 0, 0, 0, []), (20, .goto 9, 29, 0, 0, [])]
def bk_M_isChild_23 : List ak_I := [(23, .aload_n 0, 0, 0, 0, []), (24, .getfield 28, 5, 10, 0, [(0, 349)]), (27, .iload_n 2, 2, 0, 0, []), (28, .iaload, 0, 0, 0, []), (29, .iload_n 1, 1, 0, 0, []), (30, .if_icmp .ne 7, 37, 0, 0, []), (33, .iconst 1, 0, 0, 1, []), (34, .goto 4, 38, 0, 0, [])]
def bk_M_isChild_29 : List ak_I := [(29, .iload_n 1, 1, 0, 0, []), (30, .if_icmp .ne 7, 37, 0, 0, []), (33, .iconst 1, 0, 0, 1, []), (34, .goto 4, 38, 0, 0, [])]
def bk_M_isChild_37 : List ak_I := [(37, .iconst 0, 0, 0, 0, []), (38, .ireturn, 0, 1, 0, [])]
def bk_M_isChild_38 : List ak_I := [(38, .ireturn, 0, 1, 0, [])]
def bl_M_isChild : List (Nat × List ak_I) := [(0, bk_M_isChild_0), (23, bk_M_isChild_23), (29, bk_M_isChild_29), (37, bk_M_isChild_37), (38, bk_M_isChild_38)]
def rg_M_isChild : List (Nat × Nat × Nat) := []
theorem ok_M_isChild : ak_okM prog_7_method_17_code ws_M_isChild y_M_isChild.cls cl_all 4 (some .boolean) rg_M_isChild bl_M_isChild = true := by decide +kernel
def ws_M_isIn : List Cond := .code y_M_isIn prog_7_method_21_code 3 (some .boolean) :: wd_tbl
def rm_M_isIn : Room := { frames := 0, cells := 0, slots := 0, locals := 0 }
def bk_M_isIn_0 : List ak_I := [(0, .aload_n 0, 0, 0, 0, []), (1, .getfield 25, 5, 9, 0, [(0, 348)]), (4, .iload_n 1, 1, 0, 0, []), (5, .iaload, 0, 0, 0, []), (6, .iconst 1, 0, 0, 1, []), (7, .if_icmp .ne 42, 49, 0, 0, []), (10, .aload_n 0, 0, 0, 0, []), (11, .getfield 19, 5, 7, 0, [(0, 346)]), (14, .iload_n 1, 1, 0, 0, []), (15, .iaload, 0, 0, 0, []), (16, .aload_n 0, 0, 0, 0, []), (17, .getfield 45, 5, 15, 0, [(0, 354)]), (20, .iload_n 2, 2, 0, 0, []), (21, .iaload, 0, 0, 0, []), (22, .if_icmp .ne 27, 49, 0, 0, []), (25, .aload_n 0, 0, 0, 0, []), (26, .getfield 48, 5, 16, 0, [(0, 355)]), (29, .iload_n 2, 2, 0, 0, []), (30, .baload, 0, 0, 0, []), (31, .ifCond .eq 14, 45, 0, 0, []), (34, .aload_n 0, 0, 0, 0, []), (35, .getfield 34, 5, 12, 0, [(0, 351)]), (38, .iload_n 1, 1, 0, 0, []), (39, .laload, 0, 0, 0, []), (40, .lconst 0, 0, 0, 0, []), (41, .lcmp, 0, 0, 0, []), (42, .ifCond .eq 7, 49, 0, 0, []), (45, .iconst 1, 0, 0, 1, []), (46, .goto 4, 50, 0, 0, [])]
def bk_M_isIn_45 : List ak_I := [(45, .iconst 1, 0, 0, 1, []), (46, .goto 4, 50, 0, 0, [])]
def bk_M_isIn_49 : List ak_I := [(49, .iconst 0, 0, 0, 0, []), (50, .ireturn, 0, 1, 0, [])]
def bk_M_isIn_50 : List ak_I := [(50, .ireturn, 0, 1, 0, [])]
def bl_M_isIn : List (Nat × List ak_I) := [(0, bk_M_isIn_0), (45, bk_M_isIn_45), (49, bk_M_isIn_49), (50, bk_M_isIn_50)]
def rg_M_isIn : List (Nat × Nat × Nat) := []
theorem ok_M_isIn : ak_okM prog_7_method_21_code ws_M_isIn y_M_isIn.cls cl_all 3 (some .boolean) rg_M_isIn bl_M_isIn = true := by decide +kernel
def ws_M_isBroken : List Cond := .code y_M_isBroken prog_7_method_24_code 3 (some .boolean) :: wd_tbl
def rm_M_isBroken : Room := { frames := 2, cells := 0, slots := 0, locals := 45 }
def bk_M_isBroken_0 : List ak_I := [(0, .aload_n 0, 0, 0, 0, []), (1, .getfield 25, 5, 9, 0, [(0, 348)]), (4, .iload_n 1, 1, 0, 0, []), (5, .iaload, 0, 0, 0, []), (6, .iconst 3, 0, 0, 3, []), (7, .if_icmp .eq 26, 33, 0, 0, []), (10, .aload_n 0, 0, 0, 0, []), (11, .getfield 31, 5, 11, 0, [(0, 350)]), (14, .iconst 3, 0, 0, 3, []), (15, .iload_n 1, 1, 0, 0, []), (16, .imul, 0, 0, 0, []), (17, .iload_n 2, 2, 0, 0, []), (18, .iadd, 0, 0, 0, []), (19, .iaload, 0, 0, 0, []), (20, .aload_n 0, 0, 0, 0, []), (21, .iload_n 1, 1, 0, 0, []), (22, .iload_n 2, 2, 0, 0, []), (23, .invokevirtual 72, 0, 2, 0, [(0, 5)]), (26, .if_icmp .eq 7, 33, 0, 0, []), (29, .iconst 1, 0, 0, 1, []), (30, .goto 4, 34, 0, 0, [])]
def bk_M_isBroken_33 : List ak_I := [(33, .iconst 0, 0, 0, 0, []), (34, .ireturn, 0, 1, 0, [])]
def bk_M_isBroken_34 : List ak_I := [(34, .ireturn, 0, 1, 0, [])]
def bl_M_isBroken : List (Nat × List ak_I) := [(0, bk_M_isBroken_0), (33, bk_M_isBroken_33), (34, bk_M_isBroken_34)]
def rg_M_isBroken : List (Nat × Nat × Nat) := [(72, 2, 5)]
theorem ok_M_isBroken : ak_okM prog_7_method_24_code ws_M_isBroken y_M_isBroken.cls cl_all 3 (some .boolean) rg_M_isBroken bl_M_isBroken = true := by decide +kernel
def ws_M_kind : List Cond := .code y_M_kind prog_7_method_6_code 2 (some .int) :: wd_tbl
def rm_M_kind : Room := { frames := 1, cells := 0, slots := 0, locals := 21 }
def bk_M_kind_0 : List ak_I := [(0, .aload_n 0, 0, 0, 0, []), (1, .iconst 0, 0, 0, 0, []), (2, .putfield 51, 5, 0, 0, [(0, 339)]), (5, .iload_n 1, 1, 0, 0, []), (6, .ifCond .eq 14, 20, 0, 0, []), (9, .aload_n 0, 0, 0, 0, []), (10, .iload_n 1, 1, 0, 0, []), (11, .invokevirtual 65, 0, 1, 0, [(0, 5)]), (14, .ifCond .ne 6, 20, 0, 0, []), (17, .bipush (-2), 0, 0, (-2), []), (19, .ireturn, 0, 0, 0, [])]
def bk_M_kind_20 : List ak_I := [(20, .aload_n 0, 0, 0, 0, []), (21, .getfield 55, 5, 1, 0, [(0, 340)]), (24, .bipush 15, 0, 0, 15, []), (26, .if_icmp .ne 5, 31, 0, 0, []), (29, .iconst (-1), 0, 0, (-1), []), (30, .ireturn, 0, 0, 0, [])]
def bk_M_kind_31 : List ak_I := [(31, .aload_n 0, 0, 0, 0, []), (32, .dup, 0, 0, 0, []), (33, .getfield 55, 5, 1, 0, [(0, 340)]), (36, .iconst 1, 0, 0, 1, []), (37, .iadd, 0, 0, 0, []), (38, .putfield 55, 5, 1, 0, [(0, 340)]), (41, .aload_n 0, 0, 0, 0, []), (42, .getfield 7, 5, 4, 0, [(0, 343)]), (45, .aload_n 0, 0, 0, 0, []), (46, .getfield 55, 5, 1, 0, [(0, 340)]), (49, .iload_n 1, 1, 0, 0, []), (50, .iastore, 0, 0, 0, []), (51, .aload_n 0, 0, 0, 0, []), (52, .getfield 55, 5, 1, 0, [(0, 340)]), (55, .ireturn, 0, 0, 0, [])]
def bl_M_kind : List (Nat × List ak_I) := [(0, bk_M_kind_0), (20, bk_M_kind_20), (31, bk_M_kind_31)]
def rg_M_kind : List (Nat × Nat × Nat) := [(65, 1, 5)]
theorem ok_M_kind : ak_okM prog_7_method_6_code ws_M_kind y_M_kind.cls cl_all 2 (some .int) rg_M_kind bl_M_kind = true := by decide +kernel
def ws_M_parent : List Cond := .code y_M_parent prog_7_method_7_code 5 (some .int) :: wd_tbl
def rm_M_parent : Room := { frames := 1, cells := 0, slots := 0, locals := 21 }
def bk_M_parent_0 : List ak_I := [(0, .aload_n 0, 0, 0, 0, []), (1, .iconst 0, 0, 0, 0, []), (2, .putfield 51, 5, 0, 0, [(0, 339)]), (5, .aload_n 0, 0, 0, 0, []), (6, .iload_n 1, 1, 0, 0, []), (7, .invokevirtual 65, 0, 1, 0, [(0, 5)]), (10, .ifCond .eq 11, 21, 0, 0, []), (13, .aload_n 0, 0, 0, 0, []), (14, .iload_n 2, 2, 0, 0, []), (15, .invokevirtual 65, 0, 1, 0, [(0, 5)]), (18, .ifCond .ne 6, 24, 0, 0, []), (21, .bipush (-2), 0, 0, (-2), []), (23, .ireturn, 0, 0, 0, [])]
def bk_M_parent_21 : List ak_I := [(21, .bipush (-2), 0, 0, (-2), []), (23, .ireturn, 0, 0, 0, [])]
def bk_M_parent_24 : List ak_I := [(24, .iload_n 3, 3, 0, 0, []), (25, .ifCond .lt 8, 33, 0, 0, []), (28, .iload_n 3, 3, 0, 0, []), (29, .iconst 2, 0, 0, 2, []), (30, .if_icmp .le 6, 36, 0, 0, []), (33, .bipush (-4), 0, 0, (-4), []), (35, .ireturn, 0, 0, 0, [])]
def bk_M_parent_33 : List ak_I := [(33, .bipush (-4), 0, 0, (-4), []), (35, .ireturn, 0, 0, 0, [])]
def bk_M_parent_36 : List ak_I := [(36, .iconst 1, 0, 0, 1, []), (37, .istore 4, 4, 0, 0, []), (39, .nop, 0, 0, 0, [])]
def bk_M_parent_39 : List ak_I := [(39, .iload 4, 4, 0, 0, []), (41, .aload_n 0, 0, 0, 0, []), (42, .getfield 58, 5, 2, 0, [(0, 341)]), (45, .if_icmp .gt 23, 68, 0, 0, []), (48, .aload_n 0, 0, 0, 0, []), (49, .getfield 19, 5, 7, 0, [(0, 346)]), (52, .iload 4, 4, 0, 0, []), (54, .iaload, 0, 0, 0, []), (55, .iload_n 1, 1, 0, 0, []), (56, .if_icmp .ne 6, 62, 0, 0, []), (59, .bipush (-5), 0, 0, (-5), []), (61, .ireturn, 0, 0, 0, [])]
def bk_M_parent_62 : List ak_I := [(62, .iinc 4 1, 4, 0, 1, []), (65, .goto (-26), 39, 1, 0, [])]
def bk_M_parent_68 : List ak_I := [(68, .aload_n 0, 0, 0, 0, []), (69, .getfield 13, 5, 5, 0, [(0, 344)]), (72, .iload_n 1, 1, 0, 0, []), (73, .iaload, 0, 0, 0, []), (74, .ifCond .eq 5, 79, 0, 0, []), (77, .iconst 0, 0, 0, 0, []), (78, .ireturn, 0, 0, 0, [])]
def bk_M_parent_79 : List ak_I := [(79, .aload_n 0, 0, 0, 0, []), (80, .getfield 13, 5, 5, 0, [(0, 344)]), (83, .iload_n 1, 1, 0, 0, []), (84, .iload_n 2, 2, 0, 0, []), (85, .iastore, 0, 0, 0, []), (86, .aload_n 0, 0, 0, 0, []), (87, .getfield 16, 5, 6, 0, [(0, 345)]), (90, .iload_n 1, 1, 0, 0, []), (91, .iload_n 3, 3, 0, 0, []), (92, .iastore, 0, 0, 0, []), (93, .iconst 1, 0, 0, 1, []), (94, .ireturn, 0, 0, 0, [])]
def bl_M_parent : List (Nat × List ak_I) := [(0, bk_M_parent_0), (21, bk_M_parent_21), (24, bk_M_parent_24), (33, bk_M_parent_33), (36, bk_M_parent_36), (39, bk_M_parent_39), (62, bk_M_parent_62), (68, bk_M_parent_68), (79, bk_M_parent_79)]
def rg_M_parent : List (Nat × Nat × Nat) := [(65, 1, 5)]
theorem ok_M_parent : ak_okM prog_7_method_7_code ws_M_parent y_M_parent.cls cl_all 5 (some .int) rg_M_parent bl_M_parent = true := by decide +kernel
def ws_M_segment : List Cond := .code y_M_segment prog_7_method_11_code 7 (some .int) :: wd_tbl
def rm_M_segment : Room := { frames := 3, cells := 0, slots := 0, locals := 67 }
def bk_M_segment_0 : List ak_I := [(0, .aload_n 0, 0, 0, 0, []), (1, .iconst 0, 0, 0, 0, []), (2, .putfield 51, 5, 0, 0, [(0, 339)]), (5, .aload_n 0, 0, 0, 0, []), (6, .iload_n 1, 1, 0, 0, []), (7, .invokevirtual 65, 0, 1, 0, [(0, 5)]), (10, .ifCond .ne 6, 16, 0, 0, []), (13, .bipush (-2), 0, 0, (-2), []), (15, .ireturn, 0, 0, 0, [])]
def bk_M_segment_16 : List ak_I := [(16, .aload_n 0, 0, 0, 0, []), (17, .getfield 7, 5, 4, 0, [(0, 343)]), (20, .iload_n 1, 1, 0, 0, []), (21, .iaload, 0, 0, 0, []), (22, .ifCond .ne 15, 37, 0, 0, []), (25, .iload_n 2, 2, 0, 0, []), (26, .ifCond .ne 7, 33, 0, 0, []), (29, .iconst 1, 0, 0, 1, []), (30, .goto 35, 65, 0, 0, [])]
def bk_M_segment_33 : List ak_I := [(33, .iconst 0, 0, 0, 0, []), (34, .goto 31, 65, 0, 0, [])]
def bk_M_segment_37 : List ak_I := [(37, .aload_n 0, 0, 0, 0, []), (38, .iload_n 2, 2, 0, 0, []), (39, .invokevirtual 76, 1, 1, 0, [(0, 5)]), (42, .ifCond .eq 22, 64, 0, 0, []), (45, .aload_n 0, 0, 0, 0, []), (46, .getfield 19, 5, 7, 0, [(0, 346)]), (49, .iload_n 2, 2, 0, 0, []), (50, .iaload, 0, 0, 0, []), (51, .aload_n 0, 0, 0, 0, []), (52, .getfield 7, 5, 4, 0, [(0, 343)]), (55, .iload_n 1, 1, 0, 0, []), (56, .iaload, 0, 0, 0, []), (57, .if_icmp .ne 7, 64, 0, 0, []), (60, .iconst 1, 0, 0, 1, []), (61, .goto 4, 65, 0, 0, [])]
def bk_M_segment_64 : List ak_I := [(64, .iconst 0, 0, 0, 0, []), (65, .istore 5, 5, 0, 0, []), (67, .iload 5, 5, 0, 0, []), (69, .ifCond .ne 6, 75, 0, 0, []), (72, .bipush (-4), 0, 0, (-4), []), (74, .ireturn, 0, 0, 0, [])]
def bk_M_segment_65 : List ak_I := [(65, .istore 5, 5, 0, 0, []), (67, .iload 5, 5, 0, 0, []), (69, .ifCond .ne 6, 75, 0, 0, []), (72, .bipush (-4), 0, 0, (-4), []), (74, .ireturn, 0, 0, 0, [])]
def bk_M_segment_75 : List ak_I := [(75, .iconst 1, 0, 0, 1, []), (76, .istore 6, 6, 0, 0, []), (78, .nop, 0, 0, 0, [])]
def bk_M_segment_78 : List ak_I := [(78, .iload 6, 6, 0, 0, []), (80, .aload_n 0, 0, 0, 0, []), (81, .getfield 58, 5, 2, 0, [(0, 341)]), (84, .if_icmp .gt 57, 141, 0, 0, []), (87, .aload_n 0, 0, 0, 0, []), (88, .getfield 25, 5, 9, 0, [(0, 348)]), (91, .iload 6, 6, 0, 0, []), (93, .iaload, 0, 0, 0, []), (94, .iconst 1, 0, 0, 1, []), (95, .if_icmp .ne 40, 135, 0, 0, []), (98, .aload_n 0, 0, 0, 0, []), (99, .getfield 19, 5, 7, 0, [(0, 346)]), (102, .iload 6, 6, 0, 0, []), (104, .iaload, 0, 0, 0, []), (105, .iload_n 1, 1, 0, 0, []), (106, .if_icmp .ne 29, 135, 0, 0, []), (109, .aload_n 0, 0, 0, 0, []), (110, .getfield 22, 5, 8, 0, [(0, 347)]), (113, .iload 6, 6, 0, 0, []), (115, .iaload, 0, 0, 0, []), (116, .iload_n 2, 2, 0, 0, []), (117, .if_icmp .ne 18, 135, 0, 0, []), (120, .aload_n 0, 0, 0, 0, []), (121, .getfield 34, 5, 12, 0, [(0, 351)]), (124, .iload 6, 6, 0, 0, []), (126, .laload, 0, 0, 0, []), (127, .lload_n 3, 3, 0, 0, []), (128, .lcmp, 0, 0, 0, []), (129, .ifCond .ne 6, 135, 0, 0, []), (132, .bipush (-3), 0, 0, (-3), []), (134, .ireturn, 0, 0, 0, [])]
def bk_M_segment_135 : List ak_I := [(135, .iinc 6 1, 6, 0, 1, []), (138, .goto (-60), 78, 1, 0, [])]
def bk_M_segment_141 : List ak_I := [(141, .aload_n 0, 0, 0, 0, []), (142, .getfield 58, 5, 2, 0, [(0, 341)]), (145, .sipush 250, 0, 0, 250, []), (148, .if_icmp .ne 5, 153, 0, 0, []), (151, .iconst (-1), 0, 0, (-1), []), (152, .ireturn, 0, 0, 0, [])]
def bk_M_segment_153 : List ak_I := [(153, .aload_n 0, 0, 0, 0, []), (154, .dup, 0, 0, 0, []), (155, .getfield 58, 5, 2, 0, [(0, 341)]), (158, .iconst 1, 0, 0, 1, []), (159, .iadd, 0, 0, 0, []), (160, .putfield 58, 5, 2, 0, [(0, 341)]), (163, .aload_n 0, 0, 0, 0, []), (164, .getfield 19, 5, 7, 0, [(0, 346)]), (167, .aload_n 0, 0, 0, 0, []), (168, .getfield 58, 5, 2, 0, [(0, 341)]), (171, .iload_n 1, 1, 0, 0, []), (172, .iastore, 0, 0, 0, []), (173, .aload_n 0, 0, 0, 0, []), (174, .getfield 22, 5, 8, 0, [(0, 347)]), (177, .aload_n 0, 0, 0, 0, []), (178, .getfield 58, 5, 2, 0, [(0, 341)]), (181, .iload_n 2, 2, 0, 0, []), (182, .iastore, 0, 0, 0, []), (183, .aload_n 0, 0, 0, 0, []), (184, .getfield 34, 5, 12, 0, [(0, 351)]), (187, .aload_n 0, 0, 0, 0, []), (188, .getfield 58, 5, 2, 0, [(0, 341)]), (191, .lload_n 3, 3, 0, 0, []), (192, .lastore, 0, 0, 0, []), (193, .aload_n 0, 0, 0, 0, []), (194, .getfield 25, 5, 9, 0, [(0, 348)]), (197, .aload_n 0, 0, 0, 0, []), (198, .getfield 58, 5, 2, 0, [(0, 341)]), (201, .iconst 1, 0, 0, 1, []), (202, .iastore, 0, 0, 0, []), (203, .aload_n 0, 0, 0, 0, []), (204, .aload_n 0, 0, 0, 0, []), (205, .getfield 58, 5, 2, 0, [(0, 341)]), (208, .invokevirtual 79, 2, 1, 0, [(0, 5)]), (211, .aload_n 0, 0, 0, 0, []), (212, .getfield 58, 5, 2, 0, [(0, 341)]), (215, .ireturn, 0, 0, 0, [])]
def bl_M_segment : List (Nat × List ak_I) := [(0, bk_M_segment_0), (16, bk_M_segment_16), (33, bk_M_segment_33), (37, bk_M_segment_37), (64, bk_M_segment_64), (65, bk_M_segment_65), (75, bk_M_segment_75), (78, bk_M_segment_78), (135, bk_M_segment_135), (141, bk_M_segment_141), (153, bk_M_segment_153)]
def rg_M_segment : List (Nat × Nat × Nat) := [(65, 1, 5), (76, 1, 5), (79, 1, 5)]
theorem ok_M_segment : ak_okM prog_7_method_11_code ws_M_segment y_M_segment.cls cl_all 7 (some .int) rg_M_segment bl_M_segment = true := by decide +kernel
def ws_M_relate : List Cond := .code y_M_relate prog_7_method_12_code 3 (some .int) :: wd_tbl
def rm_M_relate : Room := { frames := 3, cells := 0, slots := 0, locals := 67 }
def bk_M_relate_0 : List ak_I := [(0, .aload_n 0, 0, 0, 0, []), (1, .iconst 0, 0, 0, 0, []), (2, .putfield 51, 5, 0, 0, [(0, 339)]), (5, .aload_n 0, 0, 0, 0, []), (6, .iload_n 1, 1, 0, 0, []), (7, .invokevirtual 61, 0, 1, 0, [(0, 5)]), (10, .ifCond .eq 11, 21, 0, 0, []), (13, .aload_n 0, 0, 0, 0, []), (14, .iload_n 2, 2, 0, 0, []), (15, .invokevirtual 61, 0, 1, 0, [(0, 5)]), (18, .ifCond .ne 6, 24, 0, 0, []), (21, .bipush (-2), 0, 0, (-2), []), (23, .ireturn, 0, 0, 0, [])]
def bk_M_relate_21 : List ak_I := [(21, .bipush (-2), 0, 0, (-2), []), (23, .ireturn, 0, 0, 0, [])]
def bk_M_relate_24 : List ak_I := [(24, .aload_n 0, 0, 0, 0, []), (25, .getfield 13, 5, 5, 0, [(0, 344)]), (28, .aload_n 0, 0, 0, 0, []), (29, .getfield 19, 5, 7, 0, [(0, 346)]), (32, .iload_n 1, 1, 0, 0, []), (33, .iaload, 0, 0, 0, []), (34, .iaload, 0, 0, 0, []), (35, .ifCond .eq 28, 63, 0, 0, []), (38, .aload_n 0, 0, 0, 0, []), (39, .getfield 19, 5, 7, 0, [(0, 346)]), (42, .iload_n 2, 2, 0, 0, []), (43, .iaload, 0, 0, 0, []), (44, .aload_n 0, 0, 0, 0, []), (45, .getfield 13, 5, 5, 0, [(0, 344)]), (48, .aload_n 0, 0, 0, 0, []), (49, .getfield 19, 5, 7, 0, [(0, 346)]), (52, .iload_n 1, 1, 0, 0, []), (53, .iaload, 0, 0, 0, []), (54, .iaload, 0, 0, 0, []), (55, .if_icmp .ne 8, 63, 0, 0, []), (58, .iload_n 1, 1, 0, 0, []), (59, .iload_n 2, 2, 0, 0, []), (60, .if_icmp .ne 6, 66, 0, 0, []), (63, .bipush (-4), 0, 0, (-4), []), (65, .ireturn, 0, 0, 0, [])]
def bk_M_relate_63 : List ak_I := [(63, .bipush (-4), 0, 0, (-4), []), (65, .ireturn, 0, 0, 0, [])]
def bk_M_relate_66 : List ak_I := [(66, .aload_n 0, 0, 0, 0, []), (67, .getfield 25, 5, 9, 0, [(0, 348)]), (70, .iload_n 1, 1, 0, 0, []), (71, .iaload, 0, 0, 0, []), (72, .iconst 1, 0, 0, 1, []), (73, .if_icmp .ne 22, 95, 0, 0, []), (76, .aload_n 0, 0, 0, 0, []), (77, .getfield 25, 5, 9, 0, [(0, 348)]), (80, .iload_n 2, 2, 0, 0, []), (81, .iaload, 0, 0, 0, []), (82, .iconst 3, 0, 0, 3, []), (83, .if_icmp .eq 12, 95, 0, 0, []), (86, .aload_n 0, 0, 0, 0, []), (87, .getfield 28, 5, 10, 0, [(0, 349)]), (90, .iload_n 1, 1, 0, 0, []), (91, .iaload, 0, 0, 0, []), (92, .ifCond .eq 6, 98, 0, 0, []), (95, .bipush (-5), 0, 0, (-5), []), (97, .ireturn, 0, 0, 0, [])]
def bk_M_relate_95 : List ak_I := [(95, .bipush (-5), 0, 0, (-5), []), (97, .ireturn, 0, 0, 0, [])]
def bk_M_relate_98 : List ak_I := [(98, .aload_n 0, 0, 0, 0, []), (99, .getfield 28, 5, 10, 0, [(0, 349)]), (102, .iload_n 1, 1, 0, 0, []), (103, .iload_n 2, 2, 0, 0, []), (104, .iastore, 0, 0, 0, []), (105, .aload_n 0, 0, 0, 0, []), (106, .iload_n 1, 1, 0, 0, []), (107, .invokevirtual 79, 1, 1, 0, [(0, 5)]), (110, .aload_n 0, 0, 0, 0, []), (111, .iload_n 2, 2, 0, 0, []), (112, .invokevirtual 79, 1, 1, 0, [(0, 5)]), (115, .iconst 1, 0, 0, 1, []), (116, .ireturn, 0, 0, 0, [])]
def bl_M_relate : List (Nat × List ak_I) := [(0, bk_M_relate_0), (21, bk_M_relate_21), (24, bk_M_relate_24), (63, bk_M_relate_63), (66, bk_M_relate_66), (95, bk_M_relate_95), (98, bk_M_relate_98)]
def rg_M_relate : List (Nat × Nat × Nat) := [(61, 1, 5), (79, 1, 5)]
theorem ok_M_relate : ak_okM prog_7_method_12_code ws_M_relate y_M_relate.cls cl_all 3 (some .int) rg_M_relate bl_M_relate = true := by decide +kernel
def ws_M_delete : List Cond := .code y_M_delete prog_7_method_14_code 5 (some .int) :: wd_tbl
def rm_M_delete : Room := { frames := 3, cells := 0, slots := 0, locals := 67 }
def bk_M_delete_0 : List ak_I := [(0, .aload_n 0, 0, 0, 0, []), (1, .iconst 0, 0, 0, 0, []), (2, .putfield 51, 5, 0, 0, [(0, 339)]), (5, .aload_n 0, 0, 0, 0, []), (6, .iload_n 1, 1, 0, 0, []), (7, .invokevirtual 61, 0, 1, 0, [(0, 5)]), (10, .ifCond .ne 6, 16, 0, 0, []), (13, .bipush (-2), 0, 0, (-2), []), (15, .ireturn, 0, 0, 0, [])]
def bk_M_delete_16 : List ak_I := [(16, .aload_n 0, 0, 0, 0, []), (17, .getfield 25, 5, 9, 0, [(0, 348)]), (20, .iload_n 1, 1, 0, 0, []), (21, .iaload, 0, 0, 0, []), (22, .iconst 1, 0, 0, 1, []), (23, .if_icmp .eq 6, 29, 0, 0, []), (26, .bipush (-5), 0, 0, (-5), []), (28, .ireturn, 0, 0, 0, [])]
def bk_M_delete_29 : List ak_I := [(29, .iconst 0, 0, 0, 0, []), (30, .istore_n 2, 2, 0, 0, []), (31, .nop, 0, 0, 0, [])]
def bk_M_delete_31 : List ak_I := [(31, .iload_n 2, 2, 0, 0, []), (32, .sipush 250, 0, 0, 250, []), (35, .if_icmp .gt 32, 67, 0, 0, []), (38, .aload_n 0, 0, 0, 0, []), (39, .getfield 38, 5, 13, 0, [(0, 352)]), (42, .iload_n 2, 2, 0, 0, []), (43, .iload_n 2, 2, 0, 0, []), (44, .iload_n 1, 1, 0, 0, []), (45, .if_icmp .ne 7, 52, 0, 0, []), (48, .iconst 1, 0, 0, 1, []), (49, .goto 4, 53, 0, 0, [])]
def bk_M_delete_52 : List ak_I := [(52, .iconst 0, 0, 0, 0, []), (53, .bastore, 0, 0, 0, []), (54, .aload_n 0, 0, 0, 0, []), (55, .getfield 42, 5, 14, 0, [(0, 353)]), (58, .iload_n 2, 2, 0, 0, []), (59, .iconst 0, 0, 0, 0, []), (60, .bastore, 0, 0, 0, []), (61, .iinc 2 1, 2, 0, 1, []), (64, .goto (-33), 31, 1, 0, [])]
def bk_M_delete_53 : List ak_I := [(53, .bastore, 0, 0, 0, []), (54, .aload_n 0, 0, 0, 0, []), (55, .getfield 42, 5, 14, 0, [(0, 353)]), (58, .iload_n 2, 2, 0, 0, []), (59, .iconst 0, 0, 0, 0, []), (60, .bastore, 0, 0, 0, []), (61, .iinc 2 1, 2, 0, 1, []), (64, .goto (-33), 31, 1, 0, [])]
def bk_M_delete_67 : List ak_I := [(67, .iconst 1, 0, 0, 1, []), (68, .istore_n 2, 2, 0, 0, []), (69, .nop, 0, 0, 0, [])]
def bk_M_delete_69 : List ak_I := [(69, .iload_n 2, 2, 0, 0, []), (70, .ifCond .eq 11, 81, 0, 0, []), (73, .aload_n 0, 0, 0, 0, []), (74, .invokevirtual 83, 1, 0, 0, [(0, 5)]), (77, .istore_n 2, 2, 0, 0, []), (78, .goto (-9), 69, 1, 0, [])]
def bk_M_delete_81 : List ak_I := [(81, .iconst 0, 0, 0, 0, []), (82, .istore_n 3, 3, 0, 0, []), (83, .iconst 1, 0, 0, 1, []), (84, .istore 4, 4, 0, 0, []), (86, .nop, 0, 0, 0, [])]
def bk_M_delete_86 : List ak_I := [(86, .iload 4, 4, 0, 0, []), (88, .aload_n 0, 0, 0, 0, []), (89, .getfield 58, 5, 2, 0, [(0, 341)]), (92, .if_icmp .gt 91, 183, 0, 0, []), (95, .aload_n 0, 0, 0, 0, []), (96, .getfield 25, 5, 9, 0, [(0, 348)]), (99, .iload 4, 4, 0, 0, []), (101, .iaload, 0, 0, 0, []), (102, .iconst 1, 0, 0, 1, []), (103, .if_icmp .ne 56, 159, 1, 0, []), (106, .aload_n 0, 0, 0, 0, []), (107, .getfield 38, 5, 13, 0, [(0, 352)]), (110, .iload 4, 4, 0, 0, []), (112, .baload, 0, 0, 0, []), (113, .ifCond .ne 46, 159, 1, 0, []), (116, .aload_n 0, 0, 0, 0, []), (117, .getfield 28, 5, 10, 0, [(0, 349)]), (120, .iload 4, 4, 0, 0, []), (122, .iaload, 0, 0, 0, []), (123, .ifCond .eq 36, 159, 1, 0, []), (126, .aload_n 0, 0, 0, 0, []), (127, .getfield 38, 5, 13, 0, [(0, 352)]), (130, .aload_n 0, 0, 0, 0, []), (131, .getfield 28, 5, 10, 0, [(0, 349)]), (134, .iload 4, 4, 0, 0, []), (136, .iaload, 0, 0, 0, []), (137, .baload, 0, 0, 0, []), (138, .ifCond .eq 21, 159, 1, 0, []), (141, .aload_n 0, 0, 0, 0, []), (142, .getfield 16, 5, 6, 0, [(0, 345)]), (145, .aload_n 0, 0, 0, 0, []), (146, .getfield 19, 5, 7, 0, [(0, 346)]), (149, .iload 4, 4, 0, 0, []), (151, .iaload, 0, 0, 0, []), (152, .iaload, 0, 0, 0, []), (153, .ifCond .ne 6, 159, 1, 0, []), (156, .bipush (-5), 0, 0, (-5), []), (158, .ireturn, 0, 0, 0, [])]
def bk_M_delete_159 : List ak_I := [(159, .iload_n 3, 3, 0, 0, []), (160, .aload_n 0, 0, 0, 0, []), (161, .getfield 38, 5, 13, 0, [(0, 352)]), (164, .iload 4, 4, 0, 0, []), (166, .baload, 0, 0, 0, []), (167, .ifCond .eq 7, 174, 0, 0, []), (170, .iconst 1, 0, 0, 1, []), (171, .goto 4, 175, 0, 0, [])]
def bk_M_delete_174 : List ak_I := [(174, .iconst 0, 0, 0, 0, []), (175, .iadd, 0, 0, 0, []), (176, .istore_n 3, 3, 0, 0, []), (177, .iinc 4 1, 4, 0, 1, []), (180, .goto (-94), 86, 1, 0, [])]
def bk_M_delete_175 : List ak_I := [(175, .iadd, 0, 0, 0, []), (176, .istore_n 3, 3, 0, 0, []), (177, .iinc 4 1, 4, 0, 1, []), (180, .goto (-94), 86, 1, 0, [])]
def bk_M_delete_183 : List ak_I := [(183, .iconst 1, 0, 0, 1, []), (184, .istore 4, 4, 0, 0, []), (186, .nop, 0, 0, 0, [])]
def bk_M_delete_186 : List ak_I := [(186, .iload 4, 4, 0, 0, []), (188, .aload_n 0, 0, 0, 0, []), (189, .getfield 58, 5, 2, 0, [(0, 341)]), (192, .if_icmp .gt 59, 251, 0, 0, []), (195, .aload_n 0, 0, 0, 0, []), (196, .getfield 38, 5, 13, 0, [(0, 352)]), (199, .iload 4, 4, 0, 0, []), (201, .baload, 0, 0, 0, []), (202, .ifCond .ne 6, 208, 0, 0, []), (205, .goto 40, 245, 0, 0, [])]
def bk_M_delete_208 : List ak_I := [(208, .aload_n 0, 0, 0, 0, []), (209, .getfield 25, 5, 9, 0, [(0, 348)]), (212, .iload 4, 4, 0, 0, []), (214, .iconst 2, 0, 0, 2, []), (215, .iastore, 0, 0, 0, []), (216, .aload_n 0, 0, 0, 0, []), (217, .getfield 42, 5, 14, 0, [(0, 353)]), (220, .iload 4, 4, 0, 0, []), (222, .iconst 1, 0, 0, 1, []), (223, .bastore, 0, 0, 0, []), (224, .aload_n 0, 0, 0, 0, []), (225, .getfield 42, 5, 14, 0, [(0, 353)]), (228, .aload_n 0, 0, 0, 0, []), (229, .getfield 28, 5, 10, 0, [(0, 349)]), (232, .iload 4, 4, 0, 0, []), (234, .iaload, 0, 0, 0, []), (235, .iconst 1, 0, 0, 1, []), (236, .bastore, 0, 0, 0, []), (237, .aload_n 0, 0, 0, 0, []), (238, .getfield 28, 5, 10, 0, [(0, 349)]), (241, .iload 4, 4, 0, 0, []), (243, .iconst 0, 0, 0, 0, []), (244, .iastore, 0, 0, 0, []), (245, .iinc 4 1, 4, 0, 1, []), (248, .goto (-62), 186, 1, 0, [])]
def bk_M_delete_245 : List ak_I := [(245, .iinc 4 1, 4, 0, 1, []), (248, .goto (-62), 186, 1, 0, [])]
def bk_M_delete_251 : List ak_I := [(251, .iconst 1, 0, 0, 1, []), (252, .istore 4, 4, 0, 0, []), (254, .nop, 0, 0, 0, [])]
def bk_M_delete_254 : List ak_I := [(254, .iload 4, 4, 0, 0, []), (256, .aload_n 0, 0, 0, 0, []), (257, .getfield 58, 5, 2, 0, [(0, 341)]), (260, .if_icmp .gt 37, 297, 0, 0, []), (263, .aload_n 0, 0, 0, 0, []), (264, .getfield 25, 5, 9, 0, [(0, 348)]), (267, .iload 4, 4, 0, 0, []), (269, .iaload, 0, 0, 0, []), (270, .iconst 2, 0, 0, 2, []), (271, .if_icmp .ne 20, 291, 0, 0, []), (274, .aload_n 0, 0, 0, 0, []), (275, .iload 4, 4, 0, 0, []), (277, .invokevirtual 68, 2, 1, 0, [(0, 5)]), (280, .ifCond .ne 11, 291, 0, 0, []), (283, .aload_n 0, 0, 0, 0, []), (284, .getfield 25, 5, 9, 0, [(0, 348)]), (287, .iload 4, 4, 0, 0, []), (289, .iconst 3, 0, 0, 3, []), (290, .iastore, 0, 0, 0, []), (291, .iinc 4 1, 4, 0, 1, []), (294, .goto (-40), 254, 1, 0, [])]
def bk_M_delete_291 : List ak_I := [(291, .iinc 4 1, 4, 0, 1, []), (294, .goto (-40), 254, 1, 0, [])]
def bk_M_delete_297 : List ak_I := [(297, .iconst 1, 0, 0, 1, []), (298, .istore 4, 4, 0, 0, []), (300, .nop, 0, 0, 0, [])]
def bk_M_delete_300 : List ak_I := [(300, .iload 4, 4, 0, 0, []), (302, .aload_n 0, 0, 0, 0, []), (303, .getfield 58, 5, 2, 0, [(0, 341)]), (306, .if_icmp .gt 25, 331, 0, 0, []), (309, .aload_n 0, 0, 0, 0, []), (310, .getfield 42, 5, 14, 0, [(0, 353)]), (313, .iload 4, 4, 0, 0, []), (315, .baload, 0, 0, 0, []), (316, .ifCond .eq 9, 325, 0, 0, []), (319, .aload_n 0, 0, 0, 0, []), (320, .iload 4, 4, 0, 0, []), (322, .invokevirtual 79, 3, 1, 0, [(0, 5)]), (325, .iinc 4 1, 4, 0, 1, []), (328, .goto (-28), 300, 1, 0, [])]
def bk_M_delete_325 : List ak_I := [(325, .iinc 4 1, 4, 0, 1, []), (328, .goto (-28), 300, 1, 0, [])]
def bk_M_delete_331 : List ak_I := [(331, .iload_n 3, 3, 0, 0, []), (332, .ireturn, 0, 0, 0, [])]
def bl_M_delete : List (Nat × List ak_I) := [(0, bk_M_delete_0), (16, bk_M_delete_16), (29, bk_M_delete_29), (31, bk_M_delete_31), (52, bk_M_delete_52), (53, bk_M_delete_53), (67, bk_M_delete_67), (69, bk_M_delete_69), (81, bk_M_delete_81), (86, bk_M_delete_86), (159, bk_M_delete_159), (174, bk_M_delete_174), (175, bk_M_delete_175), (183, bk_M_delete_183), (186, bk_M_delete_186), (208, bk_M_delete_208), (245, bk_M_delete_245), (251, bk_M_delete_251), (254, bk_M_delete_254), (291, bk_M_delete_291), (297, bk_M_delete_297), (300, bk_M_delete_300), (325, bk_M_delete_325), (331, bk_M_delete_331)]
def rg_M_delete : List (Nat × Nat × Nat) := [(61, 1, 5), (83, 0, 5), (68, 1, 5), (79, 1, 5)]
theorem ok_M_delete : ak_okM prog_7_method_14_code ws_M_delete y_M_delete.cls cl_all 5 (some .int) rg_M_delete bl_M_delete = true := by decide +kernel
def ws_M_there : List Cond := .code y_M_there prog_7_method_15_code 3 (some .boolean) :: wd_tbl
def rm_M_there : Room := { frames := 1, cells := 0, slots := 0, locals := 21 }
def bk_M_there_0 : List ak_I := [(0, .aload_n 0, 0, 0, 0, []), (1, .iconst 0, 0, 0, 0, []), (2, .putfield 51, 5, 0, 0, [(0, 339)]), (5, .aload_n 0, 0, 0, 0, []), (6, .iload_n 1, 1, 0, 0, []), (7, .invokevirtual 61, 0, 1, 0, [(0, 5)]), (10, .ifCond .eq 36, 46, 0, 0, []), (13, .iload_n 2, 2, 0, 0, []), (14, .ifCond .ne 13, 27, 0, 0, []), (17, .aload_n 0, 0, 0, 0, []), (18, .getfield 25, 5, 9, 0, [(0, 348)]), (21, .iload_n 1, 1, 0, 0, []), (22, .iaload, 0, 0, 0, []), (23, .iconst 1, 0, 0, 1, []), (24, .if_icmp .eq 18, 42, 0, 0, []), (27, .iload_n 2, 2, 0, 0, []), (28, .iconst 1, 0, 0, 1, []), (29, .if_icmp .ne 17, 46, 0, 0, []), (32, .aload_n 0, 0, 0, 0, []), (33, .getfield 25, 5, 9, 0, [(0, 348)]), (36, .iload_n 1, 1, 0, 0, []), (37, .iaload, 0, 0, 0, []), (38, .iconst 2, 0, 0, 2, []), (39, .if_icmp .ne 7, 46, 0, 0, []), (42, .iconst 1, 0, 0, 1, []), (43, .goto 4, 47, 0, 0, [])]
def bk_M_there_27 : List ak_I := [(27, .iload_n 2, 2, 0, 0, []), (28, .iconst 1, 0, 0, 1, []), (29, .if_icmp .ne 17, 46, 0, 0, []), (32, .aload_n 0, 0, 0, 0, []), (33, .getfield 25, 5, 9, 0, [(0, 348)]), (36, .iload_n 1, 1, 0, 0, []), (37, .iaload, 0, 0, 0, []), (38, .iconst 2, 0, 0, 2, []), (39, .if_icmp .ne 7, 46, 0, 0, []), (42, .iconst 1, 0, 0, 1, []), (43, .goto 4, 47, 0, 0, [])]
def bk_M_there_42 : List ak_I := [(42, .iconst 1, 0, 0, 1, []), (43, .goto 4, 47, 0, 0, [])]
def bk_M_there_46 : List ak_I := [(46, .iconst 0, 0, 0, 0, []), (47, .ireturn, 0, 1, 0, [])]
def bk_M_there_47 : List ak_I := [(47, .ireturn, 0, 1, 0, [])]
def bl_M_there : List (Nat × List ak_I) := [(0, bk_M_there_0), (27, bk_M_there_27), (42, bk_M_there_42), (46, bk_M_there_46), (47, bk_M_there_47)]
def rg_M_there : List (Nat × Nat × Nat) := [(61, 1, 5)]
theorem ok_M_there : ak_okM prog_7_method_15_code ws_M_there y_M_there.cls cl_all 3 (some .boolean) rg_M_there bl_M_there = true := by decide +kernel
def ws_M_child : List Cond := .code y_M_child prog_7_method_18_code 7 (some .int) :: wd_tbl
def rm_M_child : Room := { frames := 1, cells := 0, slots := 0, locals := 23 }
def bk_M_child_0 : List ak_I := [(0, .aload_n 0, 0, 0, 0, []), (1, .iconst 0, 0, 0, 0, []), (2, .putfield 51, 5, 0, 0, [(0, 339)]), (5, .aload_n 0, 0, 0, 0, []), (6, .iload_n 1, 1, 0, 0, []), (7, .invokevirtual 61, 0, 1, 0, [(0, 5)]), (10, .ifCond .eq 12, 22, 0, 0, []), (13, .iload_n 2, 2, 0, 0, []), (14, .ifCond .lt 8, 22, 0, 0, []), (17, .iload_n 2, 2, 0, 0, []), (18, .iconst 1, 0, 0, 1, []), (19, .if_icmp .le 5, 24, 0, 0, []), (22, .iconst 0, 0, 0, 0, []), (23, .ireturn, 0, 0, 0, [])]
def bk_M_child_22 : List ak_I := [(22, .iconst 0, 0, 0, 0, []), (23, .ireturn, 0, 0, 0, [])]
def bk_M_child_24 : List ak_I := [(24, .iconst 1, 0, 0, 1, []), (25, .istore 4, 4, 0, 0, []), (27, .nop, 0, 0, 0, [])]
def bk_M_child_27 : List ak_I := [(27, .iload 4, 4, 0, 0, []), (29, .aload_n 0, 0, 0, 0, []), (30, .getfield 58, 5, 2, 0, [(0, 341)]), (33, .if_icmp .gt 86, 119, 0, 0, []), (36, .aload_n 0, 0, 0, 0, []), (37, .iload_n 1, 1, 0, 0, []), (38, .iload 4, 4, 0, 0, []), (40, .iload_n 2, 2, 0, 0, []), (41, .invokevirtual 87, 1, 3, 0, [(0, 5)]), (44, .ifCond .ne 6, 50, 0, 0, []), (47, .goto 66, 113, 0, 0, [])]
def bk_M_child_50 : List ak_I := [(50, .iconst 0, 0, 0, 0, []), (51, .istore 5, 5, 0, 0, []), (53, .iconst 1, 0, 0, 1, []), (54, .istore 6, 6, 0, 0, []), (56, .nop, 0, 0, 0, [])]
def bk_M_child_56 : List ak_I := [(56, .iload 6, 6, 0, 0, []), (58, .aload_n 0, 0, 0, 0, []), (59, .getfield 58, 5, 2, 0, [(0, 341)]), (62, .if_icmp .gt 42, 104, 0, 0, []), (65, .iload 5, 5, 0, 0, []), (67, .aload_n 0, 0, 0, 0, []), (68, .iload_n 1, 1, 0, 0, []), (69, .iload 6, 6, 0, 0, []), (71, .iload_n 2, 2, 0, 0, []), (72, .invokevirtual 87, 1, 3, 0, [(0, 5)]), (75, .ifCond .eq 19, 94, 0, 0, []), (78, .aload_n 0, 0, 0, 0, []), (79, .iload 6, 6, 0, 0, []), (81, .iload 4, 4, 0, 0, []), (83, .iload_n 2, 2, 0, 0, []), (84, .invokevirtual 91, 2, 3, 0, [(0, 5)]), (87, .ifCond .eq 7, 94, 0, 0, []), (90, .iconst 1, 0, 0, 1, []), (91, .goto 4, 95, 0, 0, [])]
def bk_M_child_94 : List ak_I := [(94, .iconst 0, 0, 0, 0, []), (95, .iadd, 0, 0, 0, []), (96, .istore 5, 5, 0, 0, []), (98, .iinc 6 1, 6, 0, 1, []), (101, .goto (-45), 56, 1, 0, [])]
def bk_M_child_95 : List ak_I := [(95, .iadd, 0, 0, 0, []), (96, .istore 5, 5, 0, 0, []), (98, .iinc 6 1, 6, 0, 1, []), (101, .goto (-45), 56, 1, 0, [])]
def bk_M_child_104 : List ak_I := [(104, .iload 5, 5, 0, 0, []), (106, .iload_n 3, 3, 0, 0, []), (107, .if_icmp .ne 6, 113, 0, 0, []), (110, .iload 4, 4, 0, 0, []), (112, .ireturn, 0, 0, 0, [])]
def bk_M_child_113 : List ak_I := [(113, .iinc 4 1, 4, 0, 1, []), (116, .goto (-89), 27, 1, 0, [])]
def bk_M_child_119 : List ak_I := [(119, .iconst 0, 0, 0, 0, []), (120, .ireturn, 0, 0, 0, [])]
def bl_M_child : List (Nat × List ak_I) := [(0, bk_M_child_0), (22, bk_M_child_22), (24, bk_M_child_24), (27, bk_M_child_27), (50, bk_M_child_50), (56, bk_M_child_56), (94, bk_M_child_94), (95, bk_M_child_95), (104, bk_M_child_104), (113, bk_M_child_113), (119, bk_M_child_119)]
def rg_M_child : List (Nat × Nat × Nat) := [(61, 1, 5), (87, 3, 5), (91, 3, 5)]
theorem ok_M_child : ak_okM prog_7_method_18_code ws_M_child y_M_child.cls cl_all 7 (some .int) rg_M_child bl_M_child = true := by decide +kernel
def ws_M_count : List Cond := .code y_M_count prog_7_method_19_code 2 (some .int) :: wd_tbl
def rm_M_count : Room := { frames := 1, cells := 0, slots := 0, locals := 23 }
def bk_M_count_0 : List ak_I := [(0, .aload_n 0, 0, 0, 0, []), (1, .iconst 0, 0, 0, 0, []), (2, .putfield 51, 5, 0, 0, [(0, 339)]), (5, .aload_n 0, 0, 0, 0, []), (6, .iload_n 1, 1, 0, 0, []), (7, .invokevirtual 61, 0, 1, 0, [(0, 5)]), (10, .ifCond .eq 11, 21, 0, 0, []), (13, .aload_n 0, 0, 0, 0, []), (14, .iload_n 1, 1, 0, 0, []), (15, .invokevirtual 68, 1, 1, 0, [(0, 5)]), (18, .goto 5, 23, 0, 0, [])]
def bk_M_count_21 : List ak_I := [(21, .bipush (-2), 0, 0, (-2), []), (23, .ireturn, 0, 0, 0, [])]
def bk_M_count_23 : List ak_I := [(23, .ireturn, 0, 0, 0, [])]
def bl_M_count : List (Nat × List ak_I) := [(0, bk_M_count_0), (21, bk_M_count_21), (23, bk_M_count_23)]
def rg_M_count : List (Nat × Nat × Nat) := [(61, 1, 5), (68, 1, 5)]
theorem ok_M_count : ak_okM prog_7_method_19_code ws_M_count y_M_count.cls cl_all 2 (some .int) rg_M_count bl_M_count = true := by decide +kernel
def ws_M_index : List Cond := .code y_M_index prog_7_method_20_code 3 (some .int) :: wd_tbl
def rm_M_index : Room := { frames := 1, cells := 0, slots := 0, locals := 21 }
def bk_M_index_0 : List ak_I := [(0, .aload_n 0, 0, 0, 0, []), (1, .iconst 0, 0, 0, 0, []), (2, .putfield 51, 5, 0, 0, [(0, 339)]), (5, .aload_n 0, 0, 0, 0, []), (6, .iload_n 1, 1, 0, 0, []), (7, .invokevirtual 65, 0, 1, 0, [(0, 5)]), (10, .ifCond .ne 6, 16, 0, 0, []), (13, .bipush (-2), 0, 0, (-2), []), (15, .ireturn, 0, 0, 0, [])]
def bk_M_index_16 : List ak_I := [(16, .aload_n 0, 0, 0, 0, []), (17, .getfield 94, 5, 3, 0, [(0, 342)]), (20, .bipush 10, 0, 0, 10, []), (22, .if_icmp .ne 5, 27, 0, 0, []), (25, .iconst (-1), 0, 0, (-1), []), (26, .ireturn, 0, 0, 0, [])]
def bk_M_index_27 : List ak_I := [(27, .aload_n 0, 0, 0, 0, []), (28, .dup, 0, 0, 0, []), (29, .getfield 94, 5, 3, 0, [(0, 342)]), (32, .iconst 1, 0, 0, 1, []), (33, .iadd, 0, 0, 0, []), (34, .putfield 94, 5, 3, 0, [(0, 342)]), (37, .aload_n 0, 0, 0, 0, []), (38, .getfield 45, 5, 15, 0, [(0, 354)]), (41, .aload_n 0, 0, 0, 0, []), (42, .getfield 94, 5, 3, 0, [(0, 342)]), (45, .iload_n 1, 1, 0, 0, []), (46, .iastore, 0, 0, 0, []), (47, .aload_n 0, 0, 0, 0, []), (48, .getfield 48, 5, 16, 0, [(0, 355)]), (51, .aload_n 0, 0, 0, 0, []), (52, .getfield 94, 5, 3, 0, [(0, 342)]), (55, .iload_n 2, 2, 0, 0, []), (56, .bastore, 0, 0, 0, []), (57, .aload_n 0, 0, 0, 0, []), (58, .getfield 94, 5, 3, 0, [(0, 342)]), (61, .ireturn, 0, 0, 0, [])]
def bl_M_index : List (Nat × List ak_I) := [(0, bk_M_index_0), (16, bk_M_index_16), (27, bk_M_index_27)]
def rg_M_index : List (Nat × Nat × Nat) := [(65, 1, 5)]
theorem ok_M_index : ak_okM prog_7_method_20_code ws_M_index y_M_index.cls cl_all 3 (some .int) rg_M_index bl_M_index = true := by decide +kernel
def ws_M_entry : List Cond := .code y_M_entry prog_7_method_22_code 6 (some .int) :: wd_tbl
def rm_M_entry : Room := { frames := 1, cells := 0, slots := 0, locals := 23 }
def bk_M_entry_0 : List ak_I := [(0, .aload_n 0, 0, 0, 0, []), (1, .iconst 0, 0, 0, 0, []), (2, .putfield 51, 5, 0, 0, [(0, 339)]), (5, .iload_n 1, 1, 0, 0, []), (6, .iconst 1, 0, 0, 1, []), (7, .if_icmp .lt 11, 18, 0, 0, []), (10, .iload_n 1, 1, 0, 0, []), (11, .aload_n 0, 0, 0, 0, []), (12, .getfield 94, 5, 3, 0, [(0, 342)]), (15, .if_icmp .le 5, 20, 0, 0, []), (18, .iconst 0, 0, 0, 0, []), (19, .ireturn, 0, 0, 0, [])]
def bk_M_entry_18 : List ak_I := [(18, .iconst 0, 0, 0, 0, []), (19, .ireturn, 0, 0, 0, [])]
def bk_M_entry_20 : List ak_I := [(20, .iconst 1, 0, 0, 1, []), (21, .istore_n 3, 3, 0, 0, []), (22, .nop, 0, 0, 0, [])]
def bk_M_entry_22 : List ak_I := [(22, .iload_n 3, 3, 0, 0, []), (23, .aload_n 0, 0, 0, 0, []), (24, .getfield 58, 5, 2, 0, [(0, 341)]), (27, .if_icmp .gt 81, 108, 0, 0, []), (30, .aload_n 0, 0, 0, 0, []), (31, .iload_n 3, 3, 0, 0, []), (32, .iload_n 1, 1, 0, 0, []), (33, .invokevirtual 97, 0, 2, 0, [(0, 5)]), (36, .ifCond .ne 6, 42, 0, 0, []), (39, .goto 63, 102, 0, 0, [])]
def bk_M_entry_42 : List ak_I := [(42, .iconst 0, 0, 0, 0, []), (43, .istore 4, 4, 0, 0, []), (45, .iconst 1, 0, 0, 1, []), (46, .istore 5, 5, 0, 0, []), (48, .nop, 0, 0, 0, [])]
def bk_M_entry_48 : List ak_I := [(48, .iload 5, 5, 0, 0, []), (50, .aload_n 0, 0, 0, 0, []), (51, .getfield 58, 5, 2, 0, [(0, 341)]), (54, .if_icmp .gt 40, 94, 0, 0, []), (57, .iload 4, 4, 0, 0, []), (59, .aload_n 0, 0, 0, 0, []), (60, .iload 5, 5, 0, 0, []), (62, .iload_n 1, 1, 0, 0, []), (63, .invokevirtual 97, 0, 2, 0, [(0, 5)]), (66, .ifCond .eq 18, 84, 0, 0, []), (69, .aload_n 0, 0, 0, 0, []), (70, .iload 5, 5, 0, 0, []), (72, .iload_n 3, 3, 0, 0, []), (73, .iconst 1, 0, 0, 1, []), (74, .invokevirtual 91, 1, 3, 0, [(0, 5)]), (77, .ifCond .eq 7, 84, 0, 0, []), (80, .iconst 1, 0, 0, 1, []), (81, .goto 4, 85, 0, 0, [])]
def bk_M_entry_84 : List ak_I := [(84, .iconst 0, 0, 0, 0, []), (85, .iadd, 0, 0, 0, []), (86, .istore 4, 4, 0, 0, []), (88, .iinc 5 1, 5, 0, 1, []), (91, .goto (-43), 48, 1, 0, [])]
def bk_M_entry_85 : List ak_I := [(85, .iadd, 0, 0, 0, []), (86, .istore 4, 4, 0, 0, []), (88, .iinc 5 1, 5, 0, 1, []), (91, .goto (-43), 48, 1, 0, [])]
def bk_M_entry_94 : List ak_I := [(94, .iload 4, 4, 0, 0, []), (96, .iload_n 2, 2, 0, 0, []), (97, .if_icmp .ne 5, 102, 0, 0, []), (100, .iload_n 3, 3, 0, 0, []), (101, .ireturn, 0, 0, 0, [])]
def bk_M_entry_102 : List ak_I := [(102, .iinc 3 1, 3, 0, 1, []), (105, .goto (-83), 22, 1, 0, [])]
def bk_M_entry_108 : List ak_I := [(108, .iconst 0, 0, 0, 0, []), (109, .ireturn, 0, 0, 0, [])]
def bl_M_entry : List (Nat × List ak_I) := [(0, bk_M_entry_0), (18, bk_M_entry_18), (20, bk_M_entry_20), (22, bk_M_entry_22), (42, bk_M_entry_42), (48, bk_M_entry_48), (84, bk_M_entry_84), (85, bk_M_entry_85), (94, bk_M_entry_94), (102, bk_M_entry_102), (108, bk_M_entry_108)]
def rg_M_entry : List (Nat × Nat × Nat) := [(97, 2, 5), (91, 3, 5)]
theorem ok_M_entry : ak_okM prog_7_method_22_code ws_M_entry y_M_entry.cls cl_all 6 (some .int) rg_M_entry bl_M_entry = true := by decide +kernel
def ws_M_poke : List Cond := .code y_M_poke prog_7_method_23_code 5 (some .int) :: wd_tbl
def rm_M_poke : Room := { frames := 1, cells := 0, slots := 0, locals := 21 }
def bk_M_poke_0 : List ak_I := [(0, .aload_n 0, 0, 0, 0, []), (1, .iconst 0, 0, 0, 0, []), (2, .putfield 51, 5, 0, 0, [(0, 339)]), (5, .aload_n 0, 0, 0, 0, []), (6, .iload_n 1, 1, 0, 0, []), (7, .invokevirtual 61, 0, 1, 0, [(0, 5)]), (10, .ifCond .ne 6, 16, 0, 0, []), (13, .bipush (-2), 0, 0, (-2), []), (15, .ireturn, 0, 0, 0, [])]
def bk_M_poke_16 : List ak_I := [(16, .iload_n 2, 2, 0, 0, []), (17, .ifCond .lt 8, 25, 0, 0, []), (20, .iload_n 2, 2, 0, 0, []), (21, .iconst 2, 0, 0, 2, []), (22, .if_icmp .le 6, 28, 0, 0, []), (25, .bipush (-4), 0, 0, (-4), []), (27, .ireturn, 0, 0, 0, [])]
def bk_M_poke_25 : List ak_I := [(25, .bipush (-4), 0, 0, (-4), []), (27, .ireturn, 0, 0, 0, [])]
def bk_M_poke_28 : List ak_I := [(28, .aload_n 0, 0, 0, 0, []), (29, .getfield 25, 5, 9, 0, [(0, 348)]), (32, .iload_n 1, 1, 0, 0, []), (33, .iaload, 0, 0, 0, []), (34, .iconst 3, 0, 0, 3, []), (35, .if_icmp .ne 6, 41, 0, 0, []), (38, .bipush (-5), 0, 0, (-5), []), (40, .ireturn, 0, 0, 0, [])]
def bk_M_poke_41 : List ak_I := [(41, .aload_n 0, 0, 0, 0, []), (42, .getfield 31, 5, 11, 0, [(0, 350)]), (45, .iconst 3, 0, 0, 3, []), (46, .iload_n 1, 1, 0, 0, []), (47, .imul, 0, 0, 0, []), (48, .iload_n 2, 2, 0, 0, []), (49, .iadd, 0, 0, 0, []), (50, .iaload, 0, 0, 0, []), (51, .istore 4, 4, 0, 0, []), (53, .aload_n 0, 0, 0, 0, []), (54, .getfield 31, 5, 11, 0, [(0, 350)]), (57, .iconst 3, 0, 0, 3, []), (58, .iload_n 1, 1, 0, 0, []), (59, .imul, 0, 0, 0, []), (60, .iload_n 2, 2, 0, 0, []), (61, .iadd, 0, 0, 0, []), (62, .iload_n 3, 3, 0, 0, []), (63, .iastore, 0, 0, 0, []), (64, .iload 4, 4, 0, 0, []), (66, .ireturn, 0, 0, 0, [])]
def bl_M_poke : List (Nat × List ak_I) := [(0, bk_M_poke_0), (16, bk_M_poke_16), (25, bk_M_poke_25), (28, bk_M_poke_28), (41, bk_M_poke_41)]
def rg_M_poke : List (Nat × Nat × Nat) := [(61, 1, 5)]
theorem ok_M_poke : ak_okM prog_7_method_23_code ws_M_poke y_M_poke.cls cl_all 5 (some .int) rg_M_poke bl_M_poke = true := by decide +kernel
def ws_M_check : List Cond := .code y_M_check prog_7_method_25_code 4 (some .int) :: wd_tbl
def rm_M_check : Room := { frames := 3, cells := 0, slots := 0, locals := 67 }
def bk_M_check_0 : List ak_I := [(0, .aload_n 0, 0, 0, 0, []), (1, .iconst 0, 0, 0, 0, []), (2, .putfield 51, 5, 0, 0, [(0, 339)]), (5, .iconst 0, 0, 0, 0, []), (6, .istore_n 1, 1, 0, 0, []), (7, .iconst 1, 0, 0, 1, []), (8, .istore_n 2, 2, 0, 0, []), (9, .nop, 0, 0, 0, [])]
def bk_M_check_9 : List ak_I := [(9, .iload_n 2, 2, 0, 0, []), (10, .aload_n 0, 0, 0, 0, []), (11, .getfield 58, 5, 2, 0, [(0, 341)]), (14, .if_icmp .gt 39, 53, 0, 0, []), (17, .iconst 0, 0, 0, 0, []), (18, .istore_n 3, 3, 0, 0, []), (19, .nop, 0, 0, 0, [])]
def bk_M_check_19 : List ak_I := [(19, .iload_n 3, 3, 0, 0, []), (20, .iconst 3, 0, 0, 3, []), (21, .if_icmp .ge 26, 47, 0, 0, []), (24, .iload_n 1, 1, 0, 0, []), (25, .aload_n 0, 0, 0, 0, []), (26, .iload_n 2, 2, 0, 0, []), (27, .iload_n 3, 3, 0, 0, []), (28, .invokevirtual 101, 0, 2, 0, [(0, 5)]), (31, .ifCond .eq 7, 38, 0, 0, []), (34, .iconst 1, 0, 0, 1, []), (35, .goto 4, 39, 0, 0, [])]
def bk_M_check_38 : List ak_I := [(38, .iconst 0, 0, 0, 0, []), (39, .iadd, 0, 0, 0, []), (40, .istore_n 1, 1, 0, 0, []), (41, .iinc 3 1, 3, 0, 1, []), (44, .goto (-25), 19, 1, 0, [])]
def bk_M_check_39 : List ak_I := [(39, .iadd, 0, 0, 0, []), (40, .istore_n 1, 1, 0, 0, []), (41, .iinc 3 1, 3, 0, 1, []), (44, .goto (-25), 19, 1, 0, [])]
def bk_M_check_47 : List ak_I := [(47, .iinc 2 1, 2, 0, 1, []), (50, .goto (-41), 9, 1, 0, [])]
def bk_M_check_53 : List ak_I := [(53, .iload_n 1, 1, 0, 0, []), (54, .ireturn, 0, 0, 0, [])]
def bl_M_check : List (Nat × List ak_I) := [(0, bk_M_check_0), (9, bk_M_check_9), (19, bk_M_check_19), (38, bk_M_check_38), (39, bk_M_check_39), (47, bk_M_check_47), (53, bk_M_check_53)]
def rg_M_check : List (Nat × Nat × Nat) := [(101, 2, 5)]
theorem ok_M_check : ak_okM prog_7_method_25_code ws_M_check y_M_check.cls cl_all 4 (some .int) rg_M_check bl_M_check = true := by decide +kernel
def ws_M_broken : List Cond := .code y_M_broken prog_7_method_26_code 5 (some .int) :: wd_tbl
def rm_M_broken : Room := { frames := 3, cells := 0, slots := 0, locals := 67 }
def bk_M_broken_0 : List ak_I := [(0, .aload_n 0, 0, 0, 0, []), (1, .iconst 0, 0, 0, 0, []), (2, .putfield 51, 5, 0, 0, [(0, 339)]), (5, .iconst 0, 0, 0, 0, []), (6, .istore_n 2, 2, 0, 0, []), (7, .iconst 1, 0, 0, 1, []), (8, .istore_n 3, 3, 0, 0, []), (9, .nop, 0, 0, 0, [])]
def bk_M_broken_9 : List ak_I := [(9, .iload_n 3, 3, 0, 0, []), (10, .aload_n 0, 0, 0, 0, []), (11, .getfield 58, 5, 2, 0, [(0, 341)]), (14, .if_icmp .gt 47, 61, 0, 0, []), (17, .iconst 0, 0, 0, 0, []), (18, .istore 4, 4, 0, 0, []), (20, .nop, 0, 0, 0, [])]
def bk_M_broken_20 : List ak_I := [(20, .iload 4, 4, 0, 0, []), (22, .iconst 3, 0, 0, 3, []), (23, .if_icmp .ge 32, 55, 0, 0, []), (26, .aload_n 0, 0, 0, 0, []), (27, .iload_n 3, 3, 0, 0, []), (28, .iload 4, 4, 0, 0, []), (30, .invokevirtual 101, 0, 2, 0, [(0, 5)]), (33, .ifCond .ne 6, 39, 0, 0, []), (36, .goto 13, 49, 0, 0, [])]
def bk_M_broken_39 : List ak_I := [(39, .iload_n 2, 2, 0, 0, []), (40, .iload_n 1, 1, 0, 0, []), (41, .if_icmp .ne 5, 46, 0, 0, []), (44, .iload_n 3, 3, 0, 0, []), (45, .ireturn, 0, 0, 0, [])]
def bk_M_broken_46 : List ak_I := [(46, .iinc 2 1, 2, 0, 1, []), (49, .iinc 4 1, 4, 0, 1, []), (52, .goto (-32), 20, 1, 0, [])]
def bk_M_broken_49 : List ak_I := [(49, .iinc 4 1, 4, 0, 1, []), (52, .goto (-32), 20, 1, 0, [])]
def bk_M_broken_55 : List ak_I := [(55, .iinc 3 1, 3, 0, 1, []), (58, .goto (-49), 9, 1, 0, [])]
def bk_M_broken_61 : List ak_I := [(61, .iconst 0, 0, 0, 0, []), (62, .ireturn, 0, 0, 0, [])]
def bl_M_broken : List (Nat × List ak_I) := [(0, bk_M_broken_0), (9, bk_M_broken_9), (20, bk_M_broken_20), (39, bk_M_broken_39), (46, bk_M_broken_46), (49, bk_M_broken_49), (55, bk_M_broken_55), (61, bk_M_broken_61)]
def rg_M_broken : List (Nat × Nat × Nat) := [(101, 2, 5)]
theorem ok_M_broken : ak_okM prog_7_method_26_code ws_M_broken y_M_broken.cls cl_all 5 (some .int) rg_M_broken bl_M_broken = true := by decide +kernel
def ws_M_told : List Cond := .code y_M_told prog_7_method_27_code 6 (some .int) :: wd_tbl
def rm_M_told : Room := { frames := 0, cells := 0, slots := 0, locals := 0 }
def bk_M_told_0 : List ak_I := [(0, .aload_n 0, 0, 0, 0, []), (1, .iconst 0, 0, 0, 0, []), (2, .putfield 51, 5, 0, 0, [(0, 339)]), (5, .iconst 0, 0, 0, 0, []), (6, .istore_n 2, 2, 0, 0, []), (7, .iconst 0, 0, 0, 0, []), (8, .istore_n 3, 3, 0, 0, []), (9, .iconst 0, 0, 0, 0, []), (10, .istore 4, 4, 0, 0, []), (12, .iconst 1, 0, 0, 1, []), (13, .istore 5, 5, 0, 0, []), (15, .nop, 0, 0, 0, [])]
def bk_M_told_15 : List ak_I := [(15, .iload 5, 5, 0, 0, []), (17, .aload_n 0, 0, 0, 0, []), (18, .getfield 58, 5, 2, 0, [(0, 341)]), (21, .if_icmp .gt 67, 88, 0, 0, []), (24, .iload_n 2, 2, 0, 0, []), (25, .aload_n 0, 0, 0, 0, []), (26, .getfield 25, 5, 9, 0, [(0, 348)]), (29, .iload 5, 5, 0, 0, []), (31, .iaload, 0, 0, 0, []), (32, .iconst 1, 0, 0, 1, []), (33, .if_icmp .ne 7, 40, 0, 0, []), (36, .iconst 1, 0, 0, 1, []), (37, .goto 4, 41, 0, 0, [])]
def bk_M_told_40 : List ak_I := [(40, .iconst 0, 0, 0, 0, []), (41, .iadd, 0, 0, 0, []), (42, .istore_n 2, 2, 0, 0, []), (43, .iload_n 3, 3, 0, 0, []), (44, .aload_n 0, 0, 0, 0, []), (45, .getfield 25, 5, 9, 0, [(0, 348)]), (48, .iload 5, 5, 0, 0, []), (50, .iaload, 0, 0, 0, []), (51, .iconst 2, 0, 0, 2, []), (52, .if_icmp .ne 7, 59, 0, 0, []), (55, .iconst 1, 0, 0, 1, []), (56, .goto 4, 60, 0, 0, [])]
def bk_M_told_41 : List ak_I := [(41, .iadd, 0, 0, 0, []), (42, .istore_n 2, 2, 0, 0, []), (43, .iload_n 3, 3, 0, 0, []), (44, .aload_n 0, 0, 0, 0, []), (45, .getfield 25, 5, 9, 0, [(0, 348)]), (48, .iload 5, 5, 0, 0, []), (50, .iaload, 0, 0, 0, []), (51, .iconst 2, 0, 0, 2, []), (52, .if_icmp .ne 7, 59, 0, 0, []), (55, .iconst 1, 0, 0, 1, []), (56, .goto 4, 60, 0, 0, [])]
def bk_M_told_59 : List ak_I := [(59, .iconst 0, 0, 0, 0, []), (60, .iadd, 0, 0, 0, []), (61, .istore_n 3, 3, 0, 0, []), (62, .iload 4, 4, 0, 0, []), (64, .aload_n 0, 0, 0, 0, []), (65, .getfield 28, 5, 10, 0, [(0, 349)]), (68, .iload 5, 5, 0, 0, []), (70, .iaload, 0, 0, 0, []), (71, .ifCond .eq 7, 78, 0, 0, []), (74, .iconst 1, 0, 0, 1, []), (75, .goto 4, 79, 0, 0, [])]
def bk_M_told_60 : List ak_I := [(60, .iadd, 0, 0, 0, []), (61, .istore_n 3, 3, 0, 0, []), (62, .iload 4, 4, 0, 0, []), (64, .aload_n 0, 0, 0, 0, []), (65, .getfield 28, 5, 10, 0, [(0, 349)]), (68, .iload 5, 5, 0, 0, []), (70, .iaload, 0, 0, 0, []), (71, .ifCond .eq 7, 78, 0, 0, []), (74, .iconst 1, 0, 0, 1, []), (75, .goto 4, 79, 0, 0, [])]
def bk_M_told_78 : List ak_I := [(78, .iconst 0, 0, 0, 0, []), (79, .iadd, 0, 0, 0, []), (80, .istore 4, 4, 0, 0, []), (82, .iinc 5 1, 5, 0, 1, []), (85, .goto (-70), 15, 1, 0, [])]
def bk_M_told_79 : List ak_I := [(79, .iadd, 0, 0, 0, []), (80, .istore 4, 4, 0, 0, []), (82, .iinc 5 1, 5, 0, 1, []), (85, .goto (-70), 15, 1, 0, [])]
def bk_M_told_88 : List ak_I := [(88, .iload_n 1, 1, 0, 0, []), (89, .tableswitch 61 0 5 #[39, 44, 49, 51, 53, 56], 150, 0, 0, [(0, 128), (1, 133), (2, 138), (3, 140), (4, 142), (5, 145)])]
def bk_M_told_128 : List ak_I := [(128, .aload_n 0, 0, 0, 0, []), (129, .getfield 55, 5, 1, 0, [(0, 340)]), (132, .ireturn, 0, 0, 0, [])]
def bk_M_told_133 : List ak_I := [(133, .aload_n 0, 0, 0, 0, []), (134, .getfield 58, 5, 2, 0, [(0, 341)]), (137, .ireturn, 0, 0, 0, [])]
def bk_M_told_138 : List ak_I := [(138, .iload_n 2, 2, 0, 0, []), (139, .ireturn, 0, 0, 0, [])]
def bk_M_told_140 : List ak_I := [(140, .iload_n 3, 3, 0, 0, []), (141, .ireturn, 0, 0, 0, [])]
def bk_M_told_142 : List ak_I := [(142, .iload 4, 4, 0, 0, []), (144, .ireturn, 0, 0, 0, [])]
def bk_M_told_145 : List ak_I := [(145, .aload_n 0, 0, 0, 0, []), (146, .getfield 94, 5, 3, 0, [(0, 342)]), (149, .ireturn, 0, 0, 0, [])]
def bk_M_told_150 : List ak_I := [(150, .iconst (-1), 0, 0, (-1), []), (151, .ireturn, 0, 0, 0, [])]
def bl_M_told : List (Nat × List ak_I) := [(0, bk_M_told_0), (15, bk_M_told_15), (40, bk_M_told_40), (41, bk_M_told_41), (59, bk_M_told_59), (60, bk_M_told_60), (78, bk_M_told_78), (79, bk_M_told_79), (88, bk_M_told_88), (128, bk_M_told_128), (133, bk_M_told_133), (138, bk_M_told_138), (140, bk_M_told_140), (142, bk_M_told_142), (145, bk_M_told_145), (150, bk_M_told_150)]
def rg_M_told : List (Nat × Nat × Nat) := []
theorem ok_M_told : ak_okM prog_7_method_27_code ws_M_told y_M_told.cls cl_all 6 (some .int) rg_M_told bl_M_told = true := by decide +kernel
end
section
/-! the two worlds; a callee's certificate -/
def lay_C : List ak_C := [.inl (0, [some 1, some 2, some 3, some 4]), .inl (1, [none, some 5, some 6, some 7]), .inl (2, [none, some 8, some 9, some 10, some 11, some 12, some 13, some 14, some 15]), .inl (3, [none, some 16, some 17]), .inl (4, [some 1, some 2, some 18, some 19, none]),
  .inr (.int, 16), .inr (.int, 16), .inr (.int, 16), .inr (.int, 251), .inr (.int, 251), .inr (.long, 251), .inr (.int, 251), .inr (.int, 251), .inr (.int, 251), .inr (.int, 753), .inr (.int, 250), .inr (.int, 11), .inr (.boolean, 11), .inr (.boolean, 251), .inr (.int, 250)]
def lay_M : List ak_C := [.inl (5, [none, none, none, none, some 1, some 2, some 3, some 4, some 5, some 6, some 7, some 8, some 9, some 10, some 11, some 12, some 13]),
  .inr (.int, 16), .inr (.int, 16), .inr (.int, 16), .inr (.int, 251), .inr (.int, 251), .inr (.int, 251), .inr (.int, 251), .inr (.int, 753), .inr (.long, 251), .inr (.boolean, 251), .inr (.boolean, 251), .inr (.int, 11), .inr (.boolean, 11)]
theorem cl_ok (c : Cond) : ak_CL cl_all (c :: wd_tbl) := by
  intro q hq
  simp only [cl_all, List.mem_cons, List.not_mem_nil, or_false] at hq
  rcases hq with rfl | rfl | rfl | rfl | rfl | rfl
  · exact ⟨⟨t_L, tk_L⟩, nm_L, fun w h => List.mem_cons_of_mem _ (in_L w h)⟩
  · exact ⟨⟨t_K, tk_K⟩, nm_K, fun w h => List.mem_cons_of_mem _ (in_K w h)⟩
  · exact ⟨⟨t_S, tk_S⟩, nm_S, fun w h => List.mem_cons_of_mem _ (in_S w h)⟩
  · exact ⟨⟨t_X, tk_X⟩, nm_X, fun w h => List.mem_cons_of_mem _ (in_X w h)⟩
  · exact ⟨⟨t_D, tk_D⟩, nm_D, fun w h => List.mem_cons_of_mem _ (in_D w h)⟩
  · exact ⟨⟨t_M, tk_M⟩, nm_M, fun w h => List.mem_cons_of_mem _ (in_M w h)⟩
theorem ak_ccV {l : Launch} {lay : List ak_C} {y : MethodName} {bytes : ByteArray} {mL : Nat} {ret : Option FieldType} {rmC R : Room} {pt : ak_P} {own : String} {c0 : Cond} {n b ci : Nat} {q : vw_C} (C0 : ak_Ctr l cl_all lay y (.code y bytes mL ret :: wd_tbl) rmC pt) (hq : cl_all[ci]? = some q) (p1 p2 p3 p4 p5 : Nat)
    (hp : ak_nth wd_tbl p1 = some (.methodLink own n y) ∧ ak_nth wd_tbl p2 = some (.instanceMethod y) ∧ ak_nth wd_tbl p3 = some (.selects q.1 y y) ∧ ak_nth wd_tbl p4 = some (.initialized q.1) ∧ ak_nth wd_tbl p5 = some (.code y bytes mL ret)) (hz : rmC.cells = 0 ∧ rmC.slots = 0)
    (hd : y.cls = q.1 ∧ y.cls ≠ "java/lang/invoke/MethodHandle" ∧ y.cls ≠ "java/lang/invoke/VarHandle" ∧ (parseMethodDescriptor y.desc).map (fun d => d.parameters.length) = some b) (hR : rmC.frames + 1 ≤ R.frames ∧ 8 + (mL + 11) + rmC.locals ≤ R.locals) : ak_CC l cl_all lay (c0 :: wd_tbl) own R pt n b ci := by
  refine ⟨y, _, rmC, bytes, mL, ret, C0, Or.inl ⟨q, hq, fun s0 args ht => cwV b ht ?_ rfl hz.1 hz.2 hd hR⟩⟩
  intro w hw
  have hin : w ∈ wd_tbl := by
    unfold wsV at hw
    simp only [List.mem_append, List.mem_cons, List.not_mem_nil, or_false] at hw
    rcases hw with (rfl | rfl | rfl | rfl) | rfl | h
    · exact ak_mem hp.1
    · exact ak_mem hp.2.1
    · exact ak_mem hp.2.2.1
    · exact ak_mem hp.2.2.2.1
    · exact ak_mem hp.2.2.2.2
    · exact h
  exact ⟨List.mem_cons_of_mem _ hin, good_of_word (wd_good w hin)⟩
end
section
/-! how a formula unfolds, an instruction at a time -/
def ak_lI (o : Option (Option Value)) (k : Int32 → Prop) : Prop := match o with
  | some (some (.int x)) => k x
  | _ => False
def ak_lL (o : Option (Option Value)) (k : Int64 → Prop) : Prop := match o with
  | some (some (.long x)) => k x
  | _ => False
def ak_lR (o : Option (Option Value)) (k : Nat → Prop) : Prop := match o with
  | some (some (.ref x)) => k x
  | _ => False
theorem lI_e (x : Int32) (k : Int32 → Prop) : ak_lI (some (some (.int x))) k = k x := rfl
theorem lL_e (x : Int64) (k : Int64 → Prop) : ak_lL (some (some (.long x))) k = k x := rfl
theorem lR_e (x : Nat) (k : Nat → Prop) : ak_lR (some (some (.ref x))) k = k x := rfl
/-- a field: its class, its number -/
def ak_gf (o : Option ak_C) (a b : Nat) (k : Nat → Prop) (k2 : Prop) : Prop := match o with
  | some (.inl (ci, fs)) => ci = a ∧ (match ak_nth fs b with
    | some (some q) => k q
    | some none => k2
    | none => False)
  | _ => False
def ak_pf (o : Option ak_C) (a b : Nat) (k2 : Prop) : Prop := match o with
  | some (.inl (ci, fs)) => ci = a ∧ (match ak_nth fs b with
    | some none => k2
    | _ => False)
  | _ => False
def ak_ai (o : Option ak_C) (i : Int32) (k : Prop) : Prop := match o with
  | some (.inr (.int, n)) => vp_in i n ∧ k
  | _ => False
def ak_az (o : Option ak_C) (i : Int32) (k : Prop) : Prop := match o with
  | some (.inr (.boolean, n)) => vp_in i n ∧ k
  | _ => False
def ak_al (o : Option ak_C) (i : Int32) (k : Prop) : Prop := match o with
  | some (.inr (.long, n)) => vp_in i n ∧ k
  | _ => False
theorem ai_e (n : Nat) (i : Int32) (k : Prop) : ak_ai (some (.inr (.int, n))) i k = (vp_in i n ∧ k) := rfl
theorem az_e (n : Nat) (i : Int32) (k : Prop) : ak_az (some (.inr (.boolean, n))) i k = (vp_in i n ∧ k) := rfl
theorem al_e (n : Nat) (i : Int32) (k : Prop) : ak_al (some (.inr (.long, n))) i k = (vp_in i n ∧ k) := rfl
section AKX
variable {lay : List ak_C} {cs : Nat → ak_P} {rt : Option Value → ak_S → Prop} {Kc J : ak_KK} {pc a b : Nat} {v : Int32} {ts : List (Int32 × Nat)} {is : List ak_I} {ls : ak_Ls} {st : List Value} {s : ak_S}
theorem run_s {bl : List (Nat × List ak_I)} {n : Nat} : ak_run lay cs rt J bl (n + 1) pc ls st s = ak_ev lay cs rt (ak_run lay cs rt J bl n) J (ak_find bl pc) ls st s := rfl
theorem run_0 {bl : List (Nat × List ak_I)} : ak_run lay cs rt J bl 0 pc ls st s = J pc ls st s := rfl
theorem e_nop : ak_ev lay cs rt Kc J ((pc, .nop, a, b, v, ts) :: is) ls st s = J pc ls st s := rfl
theorem e_iconst {n : Int} : ak_ev lay cs rt Kc J ((pc, .iconst n, a, b, v, ts) :: is) ls st s = ak_ev lay cs rt Kc J is ls (.int v :: st) s := rfl
theorem e_bipush {n : Int} : ak_ev lay cs rt Kc J ((pc, .bipush n, a, b, v, ts) :: is) ls st s = ak_ev lay cs rt Kc J is ls (.int v :: st) s := rfl
theorem e_sipush {n : Int} : ak_ev lay cs rt Kc J ((pc, .sipush n, a, b, v, ts) :: is) ls st s = ak_ev lay cs rt Kc J is ls (.int v :: st) s := rfl
theorem e_lconst {n : Fin 2} : ak_ev lay cs rt Kc J ((pc, .lconst n, a, b, v, ts) :: is) ls st s = ak_ev lay cs rt Kc J is ls (.long v.toInt64 :: st) s := rfl
theorem e_iload {n : Nat} : ak_ev lay cs rt Kc J ((pc, .iload n, a, b, v, ts) :: is) ls st s = ak_lI (ak_nth ls a) (fun x => ak_ev lay cs rt Kc J is ls (.int x :: st) s) := rfl
theorem e_iload_n {n : Fin 4} : ak_ev lay cs rt Kc J ((pc, .iload_n n, a, b, v, ts) :: is) ls st s = ak_lI (ak_nth ls a) (fun x => ak_ev lay cs rt Kc J is ls (.int x :: st) s) := rfl
theorem e_lload {n : Nat} : ak_ev lay cs rt Kc J ((pc, .lload n, a, b, v, ts) :: is) ls st s = ak_lL (ak_nth ls a) (fun x => ak_ev lay cs rt Kc J is ls (.long x :: st) s) := rfl
theorem e_lload_n {n : Fin 4} : ak_ev lay cs rt Kc J ((pc, .lload_n n, a, b, v, ts) :: is) ls st s = ak_lL (ak_nth ls a) (fun x => ak_ev lay cs rt Kc J is ls (.long x :: st) s) := rfl
theorem e_aload {n : Nat} : ak_ev lay cs rt Kc J ((pc, .aload n, a, b, v, ts) :: is) ls st s = ak_lR (ak_nth ls a) (fun x => ak_ev lay cs rt Kc J is ls (.ref x :: st) s) := rfl
theorem e_aload_n {n : Fin 4} : ak_ev lay cs rt Kc J ((pc, .aload_n n, a, b, v, ts) :: is) ls st s = ak_lR (ak_nth ls a) (fun x => ak_ev lay cs rt Kc J is ls (.ref x :: st) s) := rfl
theorem e_istore {n : Nat} {x : Int32} : ak_ev lay cs rt Kc J ((pc, .istore n, a, b, v, ts) :: is) ls (.int x :: st) s = (ak_ok1 ls a ∧ ak_ev lay cs rt Kc J is (ak_set ls a (some (.int x))) st s) := rfl
theorem e_istore_n {n : Fin 4} {x : Int32} : ak_ev lay cs rt Kc J ((pc, .istore_n n, a, b, v, ts) :: is) ls (.int x :: st) s = (ak_ok1 ls a ∧ ak_ev lay cs rt Kc J is (ak_set ls a (some (.int x))) st s) := rfl
theorem e_iinc {n : Nat} {m : Int} : ak_ev lay cs rt Kc J ((pc, .iinc n m, a, b, v, ts) :: is) ls st s = ak_lI (ak_nth ls a) (fun x => ak_ok1 ls a ∧ ak_ev lay cs rt Kc J is (ak_set ls a (some (.int (x + v)))) st s) := rfl
theorem e_iadd {x y : Int32} : ak_ev lay cs rt Kc J ((pc, .iadd, a, b, v, ts) :: is) ls (.int y :: .int x :: st) s = ak_ev lay cs rt Kc J is ls (.int (x + y) :: st) s := rfl
theorem e_isub {x y : Int32} : ak_ev lay cs rt Kc J ((pc, .isub, a, b, v, ts) :: is) ls (.int y :: .int x :: st) s = ak_ev lay cs rt Kc J is ls (.int (x - y) :: st) s := rfl
theorem e_imul {x y : Int32} : ak_ev lay cs rt Kc J ((pc, .imul, a, b, v, ts) :: is) ls (.int y :: .int x :: st) s = ak_ev lay cs rt Kc J is ls (.int (x * y) :: st) s := rfl
theorem e_lcmp {x y : Int64} : ak_ev lay cs rt Kc J ((pc, .lcmp, a, b, v, ts) :: is) ls (.long y :: .long x :: st) s = ak_ev lay cs rt Kc J is ls (.int (lg_cmp x y) :: st) s := rfl
theorem e_dupI {x : Int32} : ak_ev lay cs rt Kc J ((pc, .dup, a, b, v, ts) :: is) ls (.int x :: st) s = ak_ev lay cs rt Kc J is ls (.int x :: .int x :: st) s := rfl
theorem e_dupR {x : Nat} : ak_ev lay cs rt Kc J ((pc, .dup, a, b, v, ts) :: is) ls (.ref x :: st) s = ak_ev lay cs rt Kc J is ls (.ref x :: .ref x :: st) s := rfl
theorem e_dup2 {x : Int32} {y : Nat} : ak_ev lay cs rt Kc J ((pc, .dup2, a, b, v, ts) :: is) ls (.int x :: .ref y :: st) s = ak_ev lay cs rt Kc J is ls (.int x :: .ref y :: .int x :: .ref y :: st) s := rfl
theorem e_getfield {n k : Nat} : ak_ev lay cs rt Kc J ((pc, .getfield n, a, b, v, ts) :: is) ls (.ref k :: st) s = ak_gf (ak_nth lay k) a b (fun q => ak_ev lay cs rt Kc J is ls (.ref q :: st) s) (ak_ev lay cs rt Kc J is ls (.int (s.1 k b) :: st) s) := rfl
theorem e_putfield {n k : Nat} {x : Int32} : ak_ev lay cs rt Kc J ((pc, .putfield n, a, b, v, ts) :: is) ls (.int x :: .ref k :: st) s = ak_pf (ak_nth lay k) a b (ak_ev lay cs rt Kc J is ls st (ak_p1 s k b x)) := rfl
theorem e_iaload {k : Nat} {i : Int32} : ak_ev lay cs rt Kc J ((pc, .iaload, a, b, v, ts) :: is) ls (.int i :: .ref k :: st) s = ak_ai (ak_nth lay k) i (ak_ev lay cs rt Kc J is ls (.int (s.1 k i.toNatClampNeg) :: st) s) := rfl
theorem e_baload {k : Nat} {i : Int32} : ak_ev lay cs rt Kc J ((pc, .baload, a, b, v, ts) :: is) ls (.int i :: .ref k :: st) s = ak_az (ak_nth lay k) i (ak_ev lay cs rt Kc J is ls (.int (s.1 k i.toNatClampNeg) :: st) s) := rfl
theorem e_laload {k : Nat} {i : Int32} : ak_ev lay cs rt Kc J ((pc, .laload, a, b, v, ts) :: is) ls (.int i :: .ref k :: st) s = ak_al (ak_nth lay k) i (ak_ev lay cs rt Kc J is ls (.long (s.2 k i.toNatClampNeg) :: st) s) := rfl
theorem e_iastore {k : Nat} {i x : Int32} : ak_ev lay cs rt Kc J ((pc, .iastore, a, b, v, ts) :: is) ls (.int x :: .int i :: .ref k :: st) s = ak_ai (ak_nth lay k) i (ak_ev lay cs rt Kc J is ls st (ak_p1 s k i.toNatClampNeg x)) := rfl
theorem e_bastore {k : Nat} {i x : Int32} : ak_ev lay cs rt Kc J ((pc, .bastore, a, b, v, ts) :: is) ls (.int x :: .int i :: .ref k :: st) s = ak_az (ak_nth lay k) i (ak_ev lay cs rt Kc J is ls st (ak_p1 s k i.toNatClampNeg (x &&& 1))) := rfl
theorem e_lastore {k : Nat} {i : Int32} {x : Int64} : ak_ev lay cs rt Kc J ((pc, .lastore, a, b, v, ts) :: is) ls (.long x :: .int i :: .ref k :: st) s = ak_al (ak_nth lay k) i (ak_ev lay cs rt Kc J is ls st (ak_p2 s k i.toNatClampNeg x)) := rfl
theorem e_if {c : Jvm.ClassFile.Cond} {o : Int} {x : Int32} : ak_ev lay cs rt Kc J ((pc, .ifCond c o, a, b, v, ts) :: is) ls (.int x :: st) s = ak_b1 c x (ak_jp Kc J b a ls st s) (ak_ev lay cs rt Kc J is ls st s) := rfl
theorem e_icmp {c : Jvm.ClassFile.Cond} {o : Int} {x y : Int32} : ak_ev lay cs rt Kc J ((pc, .if_icmp c o, a, b, v, ts) :: is) ls (.int y :: .int x :: st) s = ak_b2 c x y (ak_jp Kc J b a ls st s) (ak_ev lay cs rt Kc J is ls st s) := rfl
theorem e_goto {o : Int} : ak_ev lay cs rt Kc J ((pc, .goto o, a, b, v, ts) :: is) ls st s = ak_jp Kc J b a ls st s := rfl
theorem e_tsw {d lo hi : Int} {offs : Array Int} {x : Int32} : ak_ev lay cs rt Kc J ((pc, .tableswitch d lo hi offs, a, b, v, ts) :: is) ls (.int x :: st) s = ak_sw x (fun t => Kc t ls st s) a ts := rfl
theorem e_ireturn0 {x : Int32} : ak_ev lay cs rt Kc J ((pc, .ireturn, a, 0, v, ts) :: is) ls [.int x] s = rt (some (.int x)) s := rfl
theorem e_ireturn1 {x : Int32} : ak_ev lay cs rt Kc J ((pc, .ireturn, a, 1, v, ts) :: is) ls [.int x] s = ((x = 0 ∨ x = 1) ∧ rt (some (.int x)) s) := rfl
theorem e_return : ak_ev lay cs rt Kc J ((pc, .return_, a, b, v, ts) :: is) ls [] s = rt none s := rfl
theorem e_call0 {n ci : Nat} {z : Int32} {x0 : Value} : ak_ev lay cs rt Kc J ((pc, .invokevirtual n, a, 0, v, [(z, ci)]) :: is) ls (x0 :: st) s = ((st.map fun v => v.category).sum ≤ 8 ∧ ak_rc lay [x0] ci ∧ cs a [x0] s (fun r s' => ak_ev lay cs rt Kc J is ls (r.toList ++ st) s')) := propext ⟨fun h => h.2, fun h => ⟨by simp, h⟩⟩
theorem e_call1 {n ci : Nat} {z : Int32} {x0 x1 : Value} : ak_ev lay cs rt Kc J ((pc, .invokevirtual n, a, 1, v, [(z, ci)]) :: is) ls (x1 :: x0 :: st) s = ((st.map fun v => v.category).sum ≤ 8 ∧ ak_rc lay [x0, x1] ci ∧ cs a [x0, x1] s (fun r s' => ak_ev lay cs rt Kc J is ls (r.toList ++ st) s')) := propext ⟨fun h => h.2, fun h => ⟨by simp, h⟩⟩
theorem e_call2 {n ci : Nat} {z : Int32} {x0 x1 x2 : Value} : ak_ev lay cs rt Kc J ((pc, .invokevirtual n, a, 2, v, [(z, ci)]) :: is) ls (x2 :: x1 :: x0 :: st) s = ((st.map fun v => v.category).sum ≤ 8 ∧ ak_rc lay [x0, x1, x2] ci ∧ cs a [x0, x1, x2] s (fun r s' => ak_ev lay cs rt Kc J is ls (r.toList ++ st) s')) := propext ⟨fun h => h.2, fun h => ⟨by simp, h⟩⟩
theorem e_call3 {n ci : Nat} {z : Int32} {x0 x1 x2 x3 : Value} : ak_ev lay cs rt Kc J ((pc, .invokevirtual n, a, 3, v, [(z, ci)]) :: is) ls (x3 :: x2 :: x1 :: x0 :: st) s = ((st.map fun v => v.category).sum ≤ 8 ∧ ak_rc lay [x0, x1, x2, x3] ci ∧ cs a [x0, x1, x2, x3] s (fun r s' => ak_ev lay cs rt Kc J is ls (r.toList ++ st) s')) := propext ⟨fun h => h.2, fun h => ⟨by simp, h⟩⟩
end AKX
end
section
/-! what lies at a place, laid by program -/
theorem gC_0_0 (f : Nat → Prop) (g : Prop) : ak_gf (ak_nth lay_C 0) 0 0 f g = f 1 := propext ⟨fun h => h.2, fun h => ⟨rfl, h⟩⟩
theorem gC_0_1 (f : Nat → Prop) (g : Prop) : ak_gf (ak_nth lay_C 0) 0 1 f g = f 2 := propext ⟨fun h => h.2, fun h => ⟨rfl, h⟩⟩
theorem gC_0_2 (f : Nat → Prop) (g : Prop) : ak_gf (ak_nth lay_C 0) 0 2 f g = f 3 := propext ⟨fun h => h.2, fun h => ⟨rfl, h⟩⟩
theorem gC_0_3 (f : Nat → Prop) (g : Prop) : ak_gf (ak_nth lay_C 0) 0 3 f g = f 4 := propext ⟨fun h => h.2, fun h => ⟨rfl, h⟩⟩
theorem rC_0 (vs : List Value) : ak_rc lay_C (.ref 0 :: vs) 0 = True := propext ⟨fun _ => trivial, fun _ => rfl⟩
theorem gC_1_0 (f : Nat → Prop) (g : Prop) : ak_gf (ak_nth lay_C 1) 1 0 f g = g := propext ⟨fun h => h.2, fun h => ⟨rfl, h⟩⟩
theorem pC_1_0 (g : Prop) : ak_pf (ak_nth lay_C 1) 1 0 g = g := propext ⟨fun h => h.2, fun h => ⟨rfl, h⟩⟩
theorem gC_1_1 (f : Nat → Prop) (g : Prop) : ak_gf (ak_nth lay_C 1) 1 1 f g = f 5 := propext ⟨fun h => h.2, fun h => ⟨rfl, h⟩⟩
theorem gC_1_2 (f : Nat → Prop) (g : Prop) : ak_gf (ak_nth lay_C 1) 1 2 f g = f 6 := propext ⟨fun h => h.2, fun h => ⟨rfl, h⟩⟩
theorem gC_1_3 (f : Nat → Prop) (g : Prop) : ak_gf (ak_nth lay_C 1) 1 3 f g = f 7 := propext ⟨fun h => h.2, fun h => ⟨rfl, h⟩⟩
theorem rC_1 (vs : List Value) : ak_rc lay_C (.ref 1 :: vs) 1 = True := propext ⟨fun _ => trivial, fun _ => rfl⟩
theorem gC_2_0 (f : Nat → Prop) (g : Prop) : ak_gf (ak_nth lay_C 2) 2 0 f g = g := propext ⟨fun h => h.2, fun h => ⟨rfl, h⟩⟩
theorem pC_2_0 (g : Prop) : ak_pf (ak_nth lay_C 2) 2 0 g = g := propext ⟨fun h => h.2, fun h => ⟨rfl, h⟩⟩
theorem gC_2_1 (f : Nat → Prop) (g : Prop) : ak_gf (ak_nth lay_C 2) 2 1 f g = f 8 := propext ⟨fun h => h.2, fun h => ⟨rfl, h⟩⟩
theorem gC_2_2 (f : Nat → Prop) (g : Prop) : ak_gf (ak_nth lay_C 2) 2 2 f g = f 9 := propext ⟨fun h => h.2, fun h => ⟨rfl, h⟩⟩
theorem gC_2_3 (f : Nat → Prop) (g : Prop) : ak_gf (ak_nth lay_C 2) 2 3 f g = f 10 := propext ⟨fun h => h.2, fun h => ⟨rfl, h⟩⟩
theorem gC_2_4 (f : Nat → Prop) (g : Prop) : ak_gf (ak_nth lay_C 2) 2 4 f g = f 11 := propext ⟨fun h => h.2, fun h => ⟨rfl, h⟩⟩
theorem gC_2_5 (f : Nat → Prop) (g : Prop) : ak_gf (ak_nth lay_C 2) 2 5 f g = f 12 := propext ⟨fun h => h.2, fun h => ⟨rfl, h⟩⟩
theorem gC_2_6 (f : Nat → Prop) (g : Prop) : ak_gf (ak_nth lay_C 2) 2 6 f g = f 13 := propext ⟨fun h => h.2, fun h => ⟨rfl, h⟩⟩
theorem gC_2_7 (f : Nat → Prop) (g : Prop) : ak_gf (ak_nth lay_C 2) 2 7 f g = f 14 := propext ⟨fun h => h.2, fun h => ⟨rfl, h⟩⟩
theorem gC_2_8 (f : Nat → Prop) (g : Prop) : ak_gf (ak_nth lay_C 2) 2 8 f g = f 15 := propext ⟨fun h => h.2, fun h => ⟨rfl, h⟩⟩
theorem rC_2 (vs : List Value) : ak_rc lay_C (.ref 2 :: vs) 2 = True := propext ⟨fun _ => trivial, fun _ => rfl⟩
theorem gC_3_0 (f : Nat → Prop) (g : Prop) : ak_gf (ak_nth lay_C 3) 3 0 f g = g := propext ⟨fun h => h.2, fun h => ⟨rfl, h⟩⟩
theorem pC_3_0 (g : Prop) : ak_pf (ak_nth lay_C 3) 3 0 g = g := propext ⟨fun h => h.2, fun h => ⟨rfl, h⟩⟩
theorem gC_3_1 (f : Nat → Prop) (g : Prop) : ak_gf (ak_nth lay_C 3) 3 1 f g = f 16 := propext ⟨fun h => h.2, fun h => ⟨rfl, h⟩⟩
theorem gC_3_2 (f : Nat → Prop) (g : Prop) : ak_gf (ak_nth lay_C 3) 3 2 f g = f 17 := propext ⟨fun h => h.2, fun h => ⟨rfl, h⟩⟩
theorem rC_3 (vs : List Value) : ak_rc lay_C (.ref 3 :: vs) 3 = True := propext ⟨fun _ => trivial, fun _ => rfl⟩
theorem gC_4_0 (f : Nat → Prop) (g : Prop) : ak_gf (ak_nth lay_C 4) 4 0 f g = f 1 := propext ⟨fun h => h.2, fun h => ⟨rfl, h⟩⟩
theorem gC_4_1 (f : Nat → Prop) (g : Prop) : ak_gf (ak_nth lay_C 4) 4 1 f g = f 2 := propext ⟨fun h => h.2, fun h => ⟨rfl, h⟩⟩
theorem gC_4_2 (f : Nat → Prop) (g : Prop) : ak_gf (ak_nth lay_C 4) 4 2 f g = f 18 := propext ⟨fun h => h.2, fun h => ⟨rfl, h⟩⟩
theorem gC_4_3 (f : Nat → Prop) (g : Prop) : ak_gf (ak_nth lay_C 4) 4 3 f g = f 19 := propext ⟨fun h => h.2, fun h => ⟨rfl, h⟩⟩
theorem gC_4_4 (f : Nat → Prop) (g : Prop) : ak_gf (ak_nth lay_C 4) 4 4 f g = g := propext ⟨fun h => h.2, fun h => ⟨rfl, h⟩⟩
theorem pC_4_4 (g : Prop) : ak_pf (ak_nth lay_C 4) 4 4 g = g := propext ⟨fun h => h.2, fun h => ⟨rfl, h⟩⟩
theorem rC_4 (vs : List Value) : ak_rc lay_C (.ref 4 :: vs) 4 = True := propext ⟨fun _ => trivial, fun _ => rfl⟩
theorem kC_5 (i : Int32) (g : Prop) : ak_ai (ak_nth lay_C 5) i g = (vp_in i 16 ∧ g) := rfl
theorem kC_6 (i : Int32) (g : Prop) : ak_ai (ak_nth lay_C 6) i g = (vp_in i 16 ∧ g) := rfl
theorem kC_7 (i : Int32) (g : Prop) : ak_ai (ak_nth lay_C 7) i g = (vp_in i 16 ∧ g) := rfl
theorem kC_8 (i : Int32) (g : Prop) : ak_ai (ak_nth lay_C 8) i g = (vp_in i 251 ∧ g) := rfl
theorem kC_9 (i : Int32) (g : Prop) : ak_ai (ak_nth lay_C 9) i g = (vp_in i 251 ∧ g) := rfl
theorem kC_10 (i : Int32) (g : Prop) : ak_al (ak_nth lay_C 10) i g = (vp_in i 251 ∧ g) := rfl
theorem kC_11 (i : Int32) (g : Prop) : ak_ai (ak_nth lay_C 11) i g = (vp_in i 251 ∧ g) := rfl
theorem kC_12 (i : Int32) (g : Prop) : ak_ai (ak_nth lay_C 12) i g = (vp_in i 251 ∧ g) := rfl
theorem kC_13 (i : Int32) (g : Prop) : ak_ai (ak_nth lay_C 13) i g = (vp_in i 251 ∧ g) := rfl
theorem kC_14 (i : Int32) (g : Prop) : ak_ai (ak_nth lay_C 14) i g = (vp_in i 753 ∧ g) := rfl
theorem kC_15 (i : Int32) (g : Prop) : ak_ai (ak_nth lay_C 15) i g = (vp_in i 250 ∧ g) := rfl
theorem kC_16 (i : Int32) (g : Prop) : ak_ai (ak_nth lay_C 16) i g = (vp_in i 11 ∧ g) := rfl
theorem kC_17 (i : Int32) (g : Prop) : ak_az (ak_nth lay_C 17) i g = (vp_in i 11 ∧ g) := rfl
theorem kC_18 (i : Int32) (g : Prop) : ak_az (ak_nth lay_C 18) i g = (vp_in i 251 ∧ g) := rfl
theorem kC_19 (i : Int32) (g : Prop) : ak_ai (ak_nth lay_C 19) i g = (vp_in i 250 ∧ g) := rfl
theorem gM_0_0 (f : Nat → Prop) (g : Prop) : ak_gf (ak_nth lay_M 0) 5 0 f g = g := propext ⟨fun h => h.2, fun h => ⟨rfl, h⟩⟩
theorem pM_0_0 (g : Prop) : ak_pf (ak_nth lay_M 0) 5 0 g = g := propext ⟨fun h => h.2, fun h => ⟨rfl, h⟩⟩
theorem gM_0_1 (f : Nat → Prop) (g : Prop) : ak_gf (ak_nth lay_M 0) 5 1 f g = g := propext ⟨fun h => h.2, fun h => ⟨rfl, h⟩⟩
theorem pM_0_1 (g : Prop) : ak_pf (ak_nth lay_M 0) 5 1 g = g := propext ⟨fun h => h.2, fun h => ⟨rfl, h⟩⟩
theorem gM_0_2 (f : Nat → Prop) (g : Prop) : ak_gf (ak_nth lay_M 0) 5 2 f g = g := propext ⟨fun h => h.2, fun h => ⟨rfl, h⟩⟩
theorem pM_0_2 (g : Prop) : ak_pf (ak_nth lay_M 0) 5 2 g = g := propext ⟨fun h => h.2, fun h => ⟨rfl, h⟩⟩
theorem gM_0_3 (f : Nat → Prop) (g : Prop) : ak_gf (ak_nth lay_M 0) 5 3 f g = g := propext ⟨fun h => h.2, fun h => ⟨rfl, h⟩⟩
theorem pM_0_3 (g : Prop) : ak_pf (ak_nth lay_M 0) 5 3 g = g := propext ⟨fun h => h.2, fun h => ⟨rfl, h⟩⟩
theorem gM_0_4 (f : Nat → Prop) (g : Prop) : ak_gf (ak_nth lay_M 0) 5 4 f g = f 1 := propext ⟨fun h => h.2, fun h => ⟨rfl, h⟩⟩
theorem gM_0_5 (f : Nat → Prop) (g : Prop) : ak_gf (ak_nth lay_M 0) 5 5 f g = f 2 := propext ⟨fun h => h.2, fun h => ⟨rfl, h⟩⟩
theorem gM_0_6 (f : Nat → Prop) (g : Prop) : ak_gf (ak_nth lay_M 0) 5 6 f g = f 3 := propext ⟨fun h => h.2, fun h => ⟨rfl, h⟩⟩
theorem gM_0_7 (f : Nat → Prop) (g : Prop) : ak_gf (ak_nth lay_M 0) 5 7 f g = f 4 := propext ⟨fun h => h.2, fun h => ⟨rfl, h⟩⟩
theorem gM_0_8 (f : Nat → Prop) (g : Prop) : ak_gf (ak_nth lay_M 0) 5 8 f g = f 5 := propext ⟨fun h => h.2, fun h => ⟨rfl, h⟩⟩
theorem gM_0_9 (f : Nat → Prop) (g : Prop) : ak_gf (ak_nth lay_M 0) 5 9 f g = f 6 := propext ⟨fun h => h.2, fun h => ⟨rfl, h⟩⟩
theorem gM_0_10 (f : Nat → Prop) (g : Prop) : ak_gf (ak_nth lay_M 0) 5 10 f g = f 7 := propext ⟨fun h => h.2, fun h => ⟨rfl, h⟩⟩
theorem gM_0_11 (f : Nat → Prop) (g : Prop) : ak_gf (ak_nth lay_M 0) 5 11 f g = f 8 := propext ⟨fun h => h.2, fun h => ⟨rfl, h⟩⟩
theorem gM_0_12 (f : Nat → Prop) (g : Prop) : ak_gf (ak_nth lay_M 0) 5 12 f g = f 9 := propext ⟨fun h => h.2, fun h => ⟨rfl, h⟩⟩
theorem gM_0_13 (f : Nat → Prop) (g : Prop) : ak_gf (ak_nth lay_M 0) 5 13 f g = f 10 := propext ⟨fun h => h.2, fun h => ⟨rfl, h⟩⟩
theorem gM_0_14 (f : Nat → Prop) (g : Prop) : ak_gf (ak_nth lay_M 0) 5 14 f g = f 11 := propext ⟨fun h => h.2, fun h => ⟨rfl, h⟩⟩
theorem gM_0_15 (f : Nat → Prop) (g : Prop) : ak_gf (ak_nth lay_M 0) 5 15 f g = f 12 := propext ⟨fun h => h.2, fun h => ⟨rfl, h⟩⟩
theorem gM_0_16 (f : Nat → Prop) (g : Prop) : ak_gf (ak_nth lay_M 0) 5 16 f g = f 13 := propext ⟨fun h => h.2, fun h => ⟨rfl, h⟩⟩
theorem rM_0 (vs : List Value) : ak_rc lay_M (.ref 0 :: vs) 5 = True := propext ⟨fun _ => trivial, fun _ => rfl⟩
theorem kM_1 (i : Int32) (g : Prop) : ak_ai (ak_nth lay_M 1) i g = (vp_in i 16 ∧ g) := rfl
theorem kM_2 (i : Int32) (g : Prop) : ak_ai (ak_nth lay_M 2) i g = (vp_in i 16 ∧ g) := rfl
theorem kM_3 (i : Int32) (g : Prop) : ak_ai (ak_nth lay_M 3) i g = (vp_in i 16 ∧ g) := rfl
theorem kM_4 (i : Int32) (g : Prop) : ak_ai (ak_nth lay_M 4) i g = (vp_in i 251 ∧ g) := rfl
theorem kM_5 (i : Int32) (g : Prop) : ak_ai (ak_nth lay_M 5) i g = (vp_in i 251 ∧ g) := rfl
theorem kM_6 (i : Int32) (g : Prop) : ak_ai (ak_nth lay_M 6) i g = (vp_in i 251 ∧ g) := rfl
theorem kM_7 (i : Int32) (g : Prop) : ak_ai (ak_nth lay_M 7) i g = (vp_in i 251 ∧ g) := rfl
theorem kM_8 (i : Int32) (g : Prop) : ak_ai (ak_nth lay_M 8) i g = (vp_in i 753 ∧ g) := rfl
theorem kM_9 (i : Int32) (g : Prop) : ak_al (ak_nth lay_M 9) i g = (vp_in i 251 ∧ g) := rfl
theorem kM_10 (i : Int32) (g : Prop) : ak_az (ak_nth lay_M 10) i g = (vp_in i 251 ∧ g) := rfl
theorem kM_11 (i : Int32) (g : Prop) : ak_az (ak_nth lay_M 11) i g = (vp_in i 251 ∧ g) := rfl
theorem kM_12 (i : Int32) (g : Prop) : ak_ai (ak_nth lay_M 12) i g = (vp_in i 11 ∧ g) := rfl
theorem kM_13 (i : Int32) (g : Prop) : ak_az (ak_nth lay_M 13) i g = (vp_in i 11 ∧ g) := rfl
theorem fd_K_has_0 : ak_find bl_K_has 0 = bk_K_has_0 := rfl
theorem fd_K_has_17 : ak_find bl_K_has 17 = bk_K_has_17 := rfl
theorem fd_K_has_18 : ak_find bl_K_has 18 = bk_K_has_18 := rfl
theorem fd_K_add_0 : ak_find bl_K_add 0 = bk_K_add_0 := rfl
theorem fd_K_add_11 : ak_find bl_K_add 11 = bk_K_add_11 := rfl
theorem fd_S_has_0 : ak_find bl_S_has 0 = bk_S_has_0 := rfl
theorem fd_S_has_17 : ak_find bl_S_has 17 = bk_S_has_17 := rfl
theorem fd_S_has_18 : ak_find bl_S_has 18 = bk_S_has_18 := rfl
theorem fd_S_is_0 : ak_find bl_S_is 0 = bk_S_is_0 := rfl
theorem fd_S_is_22 : ak_find bl_S_is 22 = bk_S_is_22 := rfl
theorem fd_S_is_23 : ak_find bl_S_is 23 = bk_S_is_23 := rfl
theorem fd_S_isOneUnder_0 : ak_find bl_S_isOneUnder 0 = bk_S_isOneUnder_0 := rfl
theorem fd_S_isOneUnder_34 : ak_find bl_S_isOneUnder 34 = bk_S_isOneUnder_34 := rfl
theorem fd_S_isOneUnder_35 : ak_find bl_S_isOneUnder 35 = bk_S_isOneUnder_35 := rfl
theorem fd_S_wereOf_0 : ak_find bl_S_wereOf 0 = bk_S_wereOf_0 := rfl
theorem fd_S_wereOf_2 : ak_find bl_S_wereOf 2 = bk_S_wereOf_2 := rfl
theorem fd_S_wereOf_22 : ak_find bl_S_wereOf 22 = bk_S_wereOf_22 := rfl
theorem fd_S_wereOf_28 : ak_find bl_S_wereOf 28 = bk_S_wereOf_28 := rfl
theorem fd_S_hasKey_0 : ak_find bl_S_hasKey 0 = bk_S_hasKey_0 := rfl
theorem fd_S_hasKey_3 : ak_find bl_S_hasKey 3 = bk_S_hasKey_3 := rfl
theorem fd_S_hasKey_37 : ak_find bl_S_hasKey 37 = bk_S_hasKey_37 := rfl
theorem fd_S_hasKey_43 : ak_find bl_S_hasKey 43 = bk_S_hasKey_43 := rfl
theorem fd_S_truth_0 : ak_find bl_S_truth 0 = bk_S_truth_0 := rfl
theorem fd_S_truth_11 : ak_find bl_S_truth 11 = bk_S_truth_11 := rfl
theorem fd_S_truth_25 : ak_find bl_S_truth 25 = bk_S_truth_25 := rfl
theorem fd_S_truth_31 : ak_find bl_S_truth 31 = bk_S_truth_31 := rfl
theorem fd_S_setRight_0 : ak_find bl_S_setRight 0 = bk_S_setRight_0 := rfl
theorem fd_S_setRight_2 : ak_find bl_S_setRight 2 = bk_S_setRight_2 := rfl
theorem fd_S_setRight_29 : ak_find bl_S_setRight 29 = bk_S_setRight_29 := rfl
theorem fd_S_putByKey_0 : ak_find bl_S_putByKey 0 = bk_S_putByKey_0 := rfl
theorem fd_S_putByKey_4 : ak_find bl_S_putByKey 4 = bk_S_putByKey_4 := rfl
theorem fd_S_putByKey_51 : ak_find bl_S_putByKey 51 = bk_S_putByKey_51 := rfl
theorem fd_S_add_0 : ak_find bl_S_add 0 = bk_S_add_0 := rfl
theorem fd_S_add_12 : ak_find bl_S_add 12 = bk_S_add_12 := rfl
theorem fd_S_logicalChild_0 : ak_find bl_S_logicalChild 0 = bk_S_logicalChild_0 := rfl
theorem fd_S_logicalChild_5 : ak_find bl_S_logicalChild 5 = bk_S_logicalChild_5 := rfl
theorem fd_S_logicalChild_44 : ak_find bl_S_logicalChild 44 = bk_S_logicalChild_44 := rfl
theorem fd_S_logicalChild_50 : ak_find bl_S_logicalChild 50 = bk_S_logicalChild_50 := rfl
theorem fd_S_join_0 : ak_find bl_S_join 0 = bk_S_join_0 := rfl
theorem fd_S_part_0 : ak_find bl_S_part 0 = bk_S_part_0 := rfl
theorem fd_S_part_12 : ak_find bl_S_part 12 = bk_S_part_12 := rfl
theorem fd_S_say_0 : ak_find bl_S_say 0 = bk_S_say_0 := rfl
theorem fd_S_wrongPointers_0 : ak_find bl_S_wrongPointers 0 = bk_S_wrongPointers_0 := rfl
theorem fd_S_wrongPointers_11 : ak_find bl_S_wrongPointers 11 = bk_S_wrongPointers_11 := rfl
theorem fd_S_wrongPointers_15 : ak_find bl_S_wrongPointers 15 = bk_S_wrongPointers_15 := rfl
theorem fd_S_wrongPointers_42 : ak_find bl_S_wrongPointers 42 = bk_S_wrongPointers_42 := rfl
theorem fd_S_wrongPointers_48 : ak_find bl_S_wrongPointers 48 = bk_S_wrongPointers_48 := rfl
theorem fd_S_takeAway_0 : ak_find bl_S_takeAway 0 = bk_S_takeAway_0 := rfl
theorem fd_S_dropThoseWithoutCount_0 : ak_find bl_S_dropThoseWithoutCount 0 = bk_S_dropThoseWithoutCount_0 := rfl
theorem fd_S_dropThoseWithoutCount_2 : ak_find bl_S_dropThoseWithoutCount 2 = bk_S_dropThoseWithoutCount_2 := rfl
theorem fd_S_dropThoseWithoutCount_36 : ak_find bl_S_dropThoseWithoutCount 36 = bk_S_dropThoseWithoutCount_36 := rfl
theorem fd_S_dropThoseWithoutCount_42 : ak_find bl_S_dropThoseWithoutCount 42 = bk_S_dropThoseWithoutCount_42 := rfl
theorem fd_S_howMany_0 : ak_find bl_S_howMany 0 = bk_S_howMany_0 := rfl
theorem fd_S_howMany_4 : ak_find bl_S_howMany 4 = bk_S_howMany_4 := rfl
theorem fd_S_howMany_25 : ak_find bl_S_howMany 25 = bk_S_howMany_25 := rfl
theorem fd_S_howMany_31 : ak_find bl_S_howMany 31 = bk_S_howMany_31 := rfl
theorem fd_S_relations_0 : ak_find bl_S_relations 0 = bk_S_relations_0 := rfl
theorem fd_S_relations_4 : ak_find bl_S_relations 4 = bk_S_relations_4 := rfl
theorem fd_S_relations_24 : ak_find bl_S_relations 24 = bk_S_relations_24 := rfl
theorem fd_S_relations_30 : ak_find bl_S_relations 30 = bk_S_relations_30 := rfl
theorem fd_X_has_0 : ak_find bl_X_has 0 = bk_X_has_0 := rfl
theorem fd_X_has_17 : ak_find bl_X_has 17 = bk_X_has_17 := rfl
theorem fd_X_has_18 : ak_find bl_X_has 18 = bk_X_has_18 := rfl
theorem fd_X_add_0 : ak_find bl_X_add 0 = bk_X_add_0 := rfl
theorem fd_X_add_11 : ak_find bl_X_add 11 = bk_X_add_11 := rfl
theorem fd_D_add_0 : ak_find bl_D_add 0 = bk_D_add_0 := rfl
theorem fd_D_add_19 : ak_find bl_D_add 19 = bk_D_add_19 := rfl
theorem fd_D_add_20 : ak_find bl_D_add 20 = bk_D_add_20 := rfl
theorem fd_D_isRelatedByRule_0 : ak_find bl_D_isRelatedByRule 0 = bk_D_isRelatedByRule_0 := rfl
theorem fd_D_isRelatedByRule_38 : ak_find bl_D_isRelatedByRule 38 = bk_D_isRelatedByRule_38 := rfl
theorem fd_D_isRelatedByRule_39 : ak_find bl_D_isRelatedByRule 39 = bk_D_isRelatedByRule_39 := rfl
theorem fd_D_addThoseTakenBy_0 : ak_find bl_D_addThoseTakenBy 0 = bk_D_addThoseTakenBy_0 := rfl
theorem fd_D_addThoseTakenBy_2 : ak_find bl_D_addThoseTakenBy 2 = bk_D_addThoseTakenBy_2 := rfl
theorem fd_D_addThoseTakenBy_36 : ak_find bl_D_addThoseTakenBy 36 = bk_D_addThoseTakenBy_36 := rfl
theorem fd_D_addThoseTakenBy_41 : ak_find bl_D_addThoseTakenBy 41 = bk_D_addThoseTakenBy_41 := rfl
theorem fd_D_addThoseTakenBy_47 : ak_find bl_D_addThoseTakenBy 47 = bk_D_addThoseTakenBy_47 := rfl
theorem fd_D_gather_0 : ak_find bl_D_gather 0 = bk_D_gather_0 := rfl
theorem fd_D_gather_2 : ak_find bl_D_gather 2 = bk_D_gather_2 := rfl
theorem fd_D_gather_22 : ak_find bl_D_gather 22 = bk_D_gather_22 := rfl
theorem fd_D_gather_34 : ak_find bl_D_gather 34 = bk_D_gather_34 := rfl
theorem fd_D_gather_65 : ak_find bl_D_gather 65 = bk_D_gather_65 := rfl
theorem fd_D_isBarred_0 : ak_find bl_D_isBarred 0 = bk_D_isBarred_0 := rfl
theorem fd_D_isBarred_2 : ak_find bl_D_isBarred 2 = bk_D_isBarred_2 := rfl
theorem fd_D_isBarred_53 : ak_find bl_D_isBarred 53 = bk_D_isBarred_53 := rfl
theorem fd_D_isBarred_59 : ak_find bl_D_isBarred 59 = bk_D_isBarred_59 := rfl
theorem fd_D_carryOut_0 : ak_find bl_D_carryOut 0 = bk_D_carryOut_0 := rfl
theorem fd_D_carryOut_2 : ak_find bl_D_carryOut 2 = bk_D_carryOut_2 := rfl
theorem fd_D_carryOut_29 : ak_find bl_D_carryOut 29 = bk_D_carryOut_29 := rfl
theorem fd_D_carryOut_31 : ak_find bl_D_carryOut 31 = bk_D_carryOut_31 := rfl
theorem fd_D_carryOut_58 : ak_find bl_D_carryOut 58 = bk_D_carryOut_58 := rfl
theorem fd_L_mayBeUnder_0 : ak_find bl_L_mayBeUnder 0 = bk_L_mayBeUnder_0 := rfl
theorem fd_L_mayBeUnder_22 : ak_find bl_L_mayBeUnder 22 = bk_L_mayBeUnder_22 := rfl
theorem fd_L_mayBeUnder_23 : ak_find bl_L_mayBeUnder 23 = bk_L_mayBeUnder_23 := rfl
theorem fd_L_mayBeUnder_24 : ak_find bl_L_mayBeUnder 24 = bk_L_mayBeUnder_24 := rfl
theorem fd_L_mayBeUnder_53 : ak_find bl_L_mayBeUnder 53 = bk_L_mayBeUnder_53 := rfl
theorem fd_L_mayBeUnder_54 : ak_find bl_L_mayBeUnder 54 = bk_L_mayBeUnder_54 := rfl
theorem fd_L_physicalChild_0 : ak_find bl_L_physicalChild 0 = bk_L_physicalChild_0 := rfl
theorem fd_L_physicalChild_5 : ak_find bl_L_physicalChild 5 = bk_L_physicalChild_5 := rfl
theorem fd_L_physicalChild_42 : ak_find bl_L_physicalChild 42 = bk_L_physicalChild_42 := rfl
theorem fd_L_physicalChild_45 : ak_find bl_L_physicalChild 45 = bk_L_physicalChild_45 := rfl
theorem fd_L_physicalChild_94 : ak_find bl_L_physicalChild 94 = bk_L_physicalChild_94 := rfl
theorem fd_L_physicalChild_100 : ak_find bl_L_physicalChild 100 = bk_L_physicalChild_100 := rfl
theorem fd_L_physicalChild_106 : ak_find bl_L_physicalChild 106 = bk_L_physicalChild_106 := rfl
theorem fd_L_isIn_0 : ak_find bl_L_isIn 0 = bk_L_isIn_0 := rfl
theorem fd_L_isIn_59 : ak_find bl_L_isIn 59 = bk_L_isIn_59 := rfl
theorem fd_L_isIn_63 : ak_find bl_L_isIn 63 = bk_L_isIn_63 := rfl
theorem fd_L_isIn_64 : ak_find bl_L_isIn 64 = bk_L_isIn_64 := rfl
theorem fd_L_kind_0 : ak_find bl_L_kind 0 = bk_L_kind_0 := rfl
theorem fd_L_kind_18 : ak_find bl_L_kind 18 = bk_L_kind_18 := rfl
theorem fd_L_parent_0 : ak_find bl_L_parent 0 = bk_L_parent_0 := rfl
theorem fd_L_parent_22 : ak_find bl_L_parent 22 = bk_L_parent_22 := rfl
theorem fd_L_parent_25 : ak_find bl_L_parent 25 = bk_L_parent_25 := rfl
theorem fd_L_parent_34 : ak_find bl_L_parent 34 = bk_L_parent_34 := rfl
theorem fd_L_parent_37 : ak_find bl_L_parent 37 = bk_L_parent_37 := rfl
theorem fd_L_parent_51 : ak_find bl_L_parent 51 = bk_L_parent_51 := rfl
theorem fd_L_parent_65 : ak_find bl_L_parent 65 = bk_L_parent_65 := rfl
theorem fd_L_segment_0 : ak_find bl_L_segment 0 = bk_L_segment_0 := rfl
theorem fd_L_segment_14 : ak_find bl_L_segment 14 = bk_L_segment_14 := rfl
theorem fd_L_segment_26 : ak_find bl_L_segment 26 = bk_L_segment_26 := rfl
theorem fd_L_segment_42 : ak_find bl_L_segment 42 = bk_L_segment_42 := rfl
theorem fd_L_relate_0 : ak_find bl_L_relate 0 = bk_L_relate_0 := rfl
theorem fd_L_relate_22 : ak_find bl_L_relate 22 = bk_L_relate_22 := rfl
theorem fd_L_relate_25 : ak_find bl_L_relate 25 = bk_L_relate_25 := rfl
theorem fd_L_relate_59 : ak_find bl_L_relate 59 = bk_L_relate_59 := rfl
theorem fd_L_relate_62 : ak_find bl_L_relate 62 = bk_L_relate_62 := rfl
theorem fd_L_relate_98 : ak_find bl_L_relate 98 = bk_L_relate_98 := rfl
theorem fd_L_relate_101 : ak_find bl_L_relate 101 = bk_L_relate_101 := rfl
theorem fd_L_delete_0 : ak_find bl_L_delete 0 = bk_L_delete_0 := rfl
theorem fd_L_delete_14 : ak_find bl_L_delete 14 = bk_L_delete_14 := rfl
theorem fd_L_delete_29 : ak_find bl_L_delete 29 = bk_L_delete_29 := rfl
theorem fd_L_delete_50 : ak_find bl_L_delete 50 = bk_L_delete_50 := rfl
theorem fd_L_there_0 : ak_find bl_L_there 0 = bk_L_there_0 := rfl
theorem fd_L_there_14 : ak_find bl_L_there 14 = bk_L_there_14 := rfl
theorem fd_L_there_35 : ak_find bl_L_there 35 = bk_L_there_35 := rfl
theorem fd_L_there_36 : ak_find bl_L_there 36 = bk_L_there_36 := rfl
theorem fd_L_child_0 : ak_find bl_L_child 0 = bk_L_child_0 := rfl
theorem fd_L_child_15 : ak_find bl_L_child 15 = bk_L_child_15 := rfl
theorem fd_L_child_17 : ak_find bl_L_child 17 = bk_L_child_17 := rfl
theorem fd_L_child_28 : ak_find bl_L_child 28 = bk_L_child_28 := rfl
theorem fd_L_child_45 : ak_find bl_L_child 45 = bk_L_child_45 := rfl
theorem fd_L_child_46 : ak_find bl_L_child 46 = bk_L_child_46 := rfl
theorem fd_L_count_0 : ak_find bl_L_count 0 = bk_L_count_0 := rfl
theorem fd_L_count_23 : ak_find bl_L_count 23 = bk_L_count_23 := rfl
theorem fd_L_count_25 : ak_find bl_L_count 25 = bk_L_count_25 := rfl
theorem fd_L_index_0 : ak_find bl_L_index 0 = bk_L_index_0 := rfl
theorem fd_L_index_14 : ak_find bl_L_index 14 = bk_L_index_14 := rfl
theorem fd_L_entry_0 : ak_find bl_L_entry 0 = bk_L_entry_0 := rfl
theorem fd_L_entry_15 : ak_find bl_L_entry 15 = bk_L_entry_15 := rfl
theorem fd_L_entry_17 : ak_find bl_L_entry 17 = bk_L_entry_17 := rfl
theorem fd_L_entry_22 : ak_find bl_L_entry 22 = bk_L_entry_22 := rfl
theorem fd_L_entry_66 : ak_find bl_L_entry 66 = bk_L_entry_66 := rfl
theorem fd_L_entry_72 : ak_find bl_L_entry 72 = bk_L_entry_72 := rfl
theorem fd_L_poke_0 : ak_find bl_L_poke 0 = bk_L_poke_0 := rfl
theorem fd_L_poke_14 : ak_find bl_L_poke 14 = bk_L_poke_14 := rfl
theorem fd_L_poke_23 : ak_find bl_L_poke 23 = bk_L_poke_23 := rfl
theorem fd_L_poke_26 : ak_find bl_L_poke 26 = bk_L_poke_26 := rfl
theorem fd_L_poke_41 : ak_find bl_L_poke 41 = bk_L_poke_41 := rfl
theorem fd_L_check_0 : ak_find bl_L_check 0 = bk_L_check_0 := rfl
theorem fd_L_check_4 : ak_find bl_L_check 4 = bk_L_check_4 := rfl
theorem fd_L_check_32 : ak_find bl_L_check 32 = bk_L_check_32 := rfl
theorem fd_L_broken_0 : ak_find bl_L_broken 0 = bk_L_broken_0 := rfl
theorem fd_L_broken_6 : ak_find bl_L_broken 6 = bk_L_broken_6 := rfl
theorem fd_L_broken_10 : ak_find bl_L_broken 10 = bk_L_broken_10 := rfl
theorem fd_L_broken_38 : ak_find bl_L_broken 38 = bk_L_broken_38 := rfl
theorem fd_L_broken_44 : ak_find bl_L_broken 44 = bk_L_broken_44 := rfl
theorem fd_L_told_0 : ak_find bl_L_told 0 = bk_L_told_0 := rfl
theorem fd_L_told_40 : ak_find bl_L_told 40 = bk_L_told_40 := rfl
theorem fd_L_told_48 : ak_find bl_L_told 48 = bk_L_told_48 := rfl
theorem fd_L_told_56 : ak_find bl_L_told 56 = bk_L_told_56 := rfl
theorem fd_L_told_65 : ak_find bl_L_told 65 = bk_L_told_65 := rfl
theorem fd_L_told_74 : ak_find bl_L_told 74 = bk_L_told_74 := rfl
theorem fd_L_told_82 : ak_find bl_L_told 82 = bk_L_told_82 := rfl
theorem fd_L_told_90 : ak_find bl_L_told 90 = bk_L_told_90 := rfl
theorem fd_M_isKind_0 : ak_find bl_M_isKind 0 = bk_M_isKind_0 := rfl
theorem fd_M_isKind_16 : ak_find bl_M_isKind 16 = bk_M_isKind_16 := rfl
theorem fd_M_isKind_17 : ak_find bl_M_isKind 17 = bk_M_isKind_17 := rfl
theorem fd_M_isSegment_0 : ak_find bl_M_isSegment 0 = bk_M_isSegment_0 := rfl
theorem fd_M_isSegment_16 : ak_find bl_M_isSegment 16 = bk_M_isSegment_16 := rfl
theorem fd_M_isSegment_17 : ak_find bl_M_isSegment 17 = bk_M_isSegment_17 := rfl
theorem fd_M_isThere_0 : ak_find bl_M_isThere 0 = bk_M_isThere_0 := rfl
theorem fd_M_isThere_22 : ak_find bl_M_isThere 22 = bk_M_isThere_22 := rfl
theorem fd_M_isThere_23 : ak_find bl_M_isThere 23 = bk_M_isThere_23 := rfl
theorem fd_M_countOf_0 : ak_find bl_M_countOf 0 = bk_M_countOf_0 := rfl
theorem fd_M_countOf_4 : ak_find bl_M_countOf 4 = bk_M_countOf_4 := rfl
theorem fd_M_countOf_37 : ak_find bl_M_countOf 37 = bk_M_countOf_37 := rfl
theorem fd_M_countOf_38 : ak_find bl_M_countOf 38 = bk_M_countOf_38 := rfl
theorem fd_M_countOf_46 : ak_find bl_M_countOf 46 = bk_M_countOf_46 := rfl
theorem fd_M_truth_0 : ak_find bl_M_truth 0 = bk_M_truth_0 := rfl
theorem fd_M_truth_23 : ak_find bl_M_truth 23 = bk_M_truth_23 := rfl
theorem fd_M_truth_27 : ak_find bl_M_truth 27 = bk_M_truth_27 := rfl
theorem fd_M_truth_41 : ak_find bl_M_truth 41 = bk_M_truth_41 := rfl
theorem fd_M_truth_46 : ak_find bl_M_truth 46 = bk_M_truth_46 := rfl
theorem fd_M_right_0 : ak_find bl_M_right 0 = bk_M_right_0 := rfl
theorem fd_M_right_2 : ak_find bl_M_right 2 = bk_M_right_2 := rfl
theorem fd_M_right_29 : ak_find bl_M_right 29 = bk_M_right_29 := rfl
theorem fd_M_spread_0 : ak_find bl_M_spread 0 = bk_M_spread_0 := rfl
theorem fd_M_spread_4 : ak_find bl_M_spread 4 = bk_M_spread_4 := rfl
theorem fd_M_spread_34 : ak_find bl_M_spread 34 = bk_M_spread_34 := rfl
theorem fd_M_spread_62 : ak_find bl_M_spread 62 = bk_M_spread_62 := rfl
theorem fd_M_spread_100 : ak_find bl_M_spread 100 = bk_M_spread_100 := rfl
theorem fd_M_spread_104 : ak_find bl_M_spread 104 = bk_M_spread_104 := rfl
theorem fd_M_spread_105 : ak_find bl_M_spread 105 = bk_M_spread_105 := rfl
theorem fd_M_spread_119 : ak_find bl_M_spread 119 = bk_M_spread_119 := rfl
theorem fd_M_spread_123 : ak_find bl_M_spread 123 = bk_M_spread_123 := rfl
theorem fd_M_spread_124 : ak_find bl_M_spread 124 = bk_M_spread_124 := rfl
theorem fd_M_spread_125 : ak_find bl_M_spread 125 = bk_M_spread_125 := rfl
theorem fd_M_spread_131 : ak_find bl_M_spread 131 = bk_M_spread_131 := rfl
theorem fd_M_isAhead_0 : ak_find bl_M_isAhead 0 = bk_M_isAhead_0 := rfl
theorem fd_M_isAhead_38 : ak_find bl_M_isAhead 38 = bk_M_isAhead_38 := rfl
theorem fd_M_isAhead_39 : ak_find bl_M_isAhead 39 = bk_M_isAhead_39 := rfl
theorem fd_M_isAhead_40 : ak_find bl_M_isAhead 40 = bk_M_isAhead_40 := rfl
theorem fd_M_isAhead_76 : ak_find bl_M_isAhead 76 = bk_M_isAhead_76 := rfl
theorem fd_M_isAhead_80 : ak_find bl_M_isAhead 80 = bk_M_isAhead_80 := rfl
theorem fd_M_isAhead_89 : ak_find bl_M_isAhead 89 = bk_M_isAhead_89 := rfl
theorem fd_M_isAhead_90 : ak_find bl_M_isAhead 90 = bk_M_isAhead_90 := rfl
theorem fd_M_isChild_0 : ak_find bl_M_isChild 0 = bk_M_isChild_0 := rfl
theorem fd_M_isChild_23 : ak_find bl_M_isChild 23 = bk_M_isChild_23 := rfl
theorem fd_M_isChild_29 : ak_find bl_M_isChild 29 = bk_M_isChild_29 := rfl
theorem fd_M_isChild_37 : ak_find bl_M_isChild 37 = bk_M_isChild_37 := rfl
theorem fd_M_isChild_38 : ak_find bl_M_isChild 38 = bk_M_isChild_38 := rfl
theorem fd_M_isIn_0 : ak_find bl_M_isIn 0 = bk_M_isIn_0 := rfl
theorem fd_M_isIn_45 : ak_find bl_M_isIn 45 = bk_M_isIn_45 := rfl
theorem fd_M_isIn_49 : ak_find bl_M_isIn 49 = bk_M_isIn_49 := rfl
theorem fd_M_isIn_50 : ak_find bl_M_isIn 50 = bk_M_isIn_50 := rfl
theorem fd_M_isBroken_0 : ak_find bl_M_isBroken 0 = bk_M_isBroken_0 := rfl
theorem fd_M_isBroken_33 : ak_find bl_M_isBroken 33 = bk_M_isBroken_33 := rfl
theorem fd_M_isBroken_34 : ak_find bl_M_isBroken 34 = bk_M_isBroken_34 := rfl
theorem fd_M_kind_0 : ak_find bl_M_kind 0 = bk_M_kind_0 := rfl
theorem fd_M_kind_20 : ak_find bl_M_kind 20 = bk_M_kind_20 := rfl
theorem fd_M_kind_31 : ak_find bl_M_kind 31 = bk_M_kind_31 := rfl
theorem fd_M_parent_0 : ak_find bl_M_parent 0 = bk_M_parent_0 := rfl
theorem fd_M_parent_21 : ak_find bl_M_parent 21 = bk_M_parent_21 := rfl
theorem fd_M_parent_24 : ak_find bl_M_parent 24 = bk_M_parent_24 := rfl
theorem fd_M_parent_33 : ak_find bl_M_parent 33 = bk_M_parent_33 := rfl
theorem fd_M_parent_36 : ak_find bl_M_parent 36 = bk_M_parent_36 := rfl
theorem fd_M_parent_39 : ak_find bl_M_parent 39 = bk_M_parent_39 := rfl
theorem fd_M_parent_62 : ak_find bl_M_parent 62 = bk_M_parent_62 := rfl
theorem fd_M_parent_68 : ak_find bl_M_parent 68 = bk_M_parent_68 := rfl
theorem fd_M_parent_79 : ak_find bl_M_parent 79 = bk_M_parent_79 := rfl
theorem fd_M_segment_0 : ak_find bl_M_segment 0 = bk_M_segment_0 := rfl
theorem fd_M_segment_16 : ak_find bl_M_segment 16 = bk_M_segment_16 := rfl
theorem fd_M_segment_33 : ak_find bl_M_segment 33 = bk_M_segment_33 := rfl
theorem fd_M_segment_37 : ak_find bl_M_segment 37 = bk_M_segment_37 := rfl
theorem fd_M_segment_64 : ak_find bl_M_segment 64 = bk_M_segment_64 := rfl
theorem fd_M_segment_65 : ak_find bl_M_segment 65 = bk_M_segment_65 := rfl
theorem fd_M_segment_75 : ak_find bl_M_segment 75 = bk_M_segment_75 := rfl
theorem fd_M_segment_78 : ak_find bl_M_segment 78 = bk_M_segment_78 := rfl
theorem fd_M_segment_135 : ak_find bl_M_segment 135 = bk_M_segment_135 := rfl
theorem fd_M_segment_141 : ak_find bl_M_segment 141 = bk_M_segment_141 := rfl
theorem fd_M_segment_153 : ak_find bl_M_segment 153 = bk_M_segment_153 := rfl
theorem fd_M_relate_0 : ak_find bl_M_relate 0 = bk_M_relate_0 := rfl
theorem fd_M_relate_21 : ak_find bl_M_relate 21 = bk_M_relate_21 := rfl
theorem fd_M_relate_24 : ak_find bl_M_relate 24 = bk_M_relate_24 := rfl
theorem fd_M_relate_63 : ak_find bl_M_relate 63 = bk_M_relate_63 := rfl
theorem fd_M_relate_66 : ak_find bl_M_relate 66 = bk_M_relate_66 := rfl
theorem fd_M_relate_95 : ak_find bl_M_relate 95 = bk_M_relate_95 := rfl
theorem fd_M_relate_98 : ak_find bl_M_relate 98 = bk_M_relate_98 := rfl
theorem fd_M_delete_0 : ak_find bl_M_delete 0 = bk_M_delete_0 := rfl
theorem fd_M_delete_16 : ak_find bl_M_delete 16 = bk_M_delete_16 := rfl
theorem fd_M_delete_29 : ak_find bl_M_delete 29 = bk_M_delete_29 := rfl
theorem fd_M_delete_31 : ak_find bl_M_delete 31 = bk_M_delete_31 := rfl
theorem fd_M_delete_52 : ak_find bl_M_delete 52 = bk_M_delete_52 := rfl
theorem fd_M_delete_53 : ak_find bl_M_delete 53 = bk_M_delete_53 := rfl
theorem fd_M_delete_67 : ak_find bl_M_delete 67 = bk_M_delete_67 := rfl
theorem fd_M_delete_69 : ak_find bl_M_delete 69 = bk_M_delete_69 := rfl
theorem fd_M_delete_81 : ak_find bl_M_delete 81 = bk_M_delete_81 := rfl
theorem fd_M_delete_86 : ak_find bl_M_delete 86 = bk_M_delete_86 := rfl
theorem fd_M_delete_159 : ak_find bl_M_delete 159 = bk_M_delete_159 := rfl
theorem fd_M_delete_174 : ak_find bl_M_delete 174 = bk_M_delete_174 := rfl
theorem fd_M_delete_175 : ak_find bl_M_delete 175 = bk_M_delete_175 := rfl
theorem fd_M_delete_183 : ak_find bl_M_delete 183 = bk_M_delete_183 := rfl
theorem fd_M_delete_186 : ak_find bl_M_delete 186 = bk_M_delete_186 := rfl
theorem fd_M_delete_208 : ak_find bl_M_delete 208 = bk_M_delete_208 := rfl
theorem fd_M_delete_245 : ak_find bl_M_delete 245 = bk_M_delete_245 := rfl
theorem fd_M_delete_251 : ak_find bl_M_delete 251 = bk_M_delete_251 := rfl
theorem fd_M_delete_254 : ak_find bl_M_delete 254 = bk_M_delete_254 := rfl
theorem fd_M_delete_291 : ak_find bl_M_delete 291 = bk_M_delete_291 := rfl
theorem fd_M_delete_297 : ak_find bl_M_delete 297 = bk_M_delete_297 := rfl
theorem fd_M_delete_300 : ak_find bl_M_delete 300 = bk_M_delete_300 := rfl
theorem fd_M_delete_325 : ak_find bl_M_delete 325 = bk_M_delete_325 := rfl
theorem fd_M_delete_331 : ak_find bl_M_delete 331 = bk_M_delete_331 := rfl
theorem fd_M_there_0 : ak_find bl_M_there 0 = bk_M_there_0 := rfl
theorem fd_M_there_27 : ak_find bl_M_there 27 = bk_M_there_27 := rfl
theorem fd_M_there_42 : ak_find bl_M_there 42 = bk_M_there_42 := rfl
theorem fd_M_there_46 : ak_find bl_M_there 46 = bk_M_there_46 := rfl
theorem fd_M_there_47 : ak_find bl_M_there 47 = bk_M_there_47 := rfl
theorem fd_M_child_0 : ak_find bl_M_child 0 = bk_M_child_0 := rfl
theorem fd_M_child_22 : ak_find bl_M_child 22 = bk_M_child_22 := rfl
theorem fd_M_child_24 : ak_find bl_M_child 24 = bk_M_child_24 := rfl
theorem fd_M_child_27 : ak_find bl_M_child 27 = bk_M_child_27 := rfl
theorem fd_M_child_50 : ak_find bl_M_child 50 = bk_M_child_50 := rfl
theorem fd_M_child_56 : ak_find bl_M_child 56 = bk_M_child_56 := rfl
theorem fd_M_child_94 : ak_find bl_M_child 94 = bk_M_child_94 := rfl
theorem fd_M_child_95 : ak_find bl_M_child 95 = bk_M_child_95 := rfl
theorem fd_M_child_104 : ak_find bl_M_child 104 = bk_M_child_104 := rfl
theorem fd_M_child_113 : ak_find bl_M_child 113 = bk_M_child_113 := rfl
theorem fd_M_child_119 : ak_find bl_M_child 119 = bk_M_child_119 := rfl
theorem fd_M_count_0 : ak_find bl_M_count 0 = bk_M_count_0 := rfl
theorem fd_M_count_21 : ak_find bl_M_count 21 = bk_M_count_21 := rfl
theorem fd_M_count_23 : ak_find bl_M_count 23 = bk_M_count_23 := rfl
theorem fd_M_index_0 : ak_find bl_M_index 0 = bk_M_index_0 := rfl
theorem fd_M_index_16 : ak_find bl_M_index 16 = bk_M_index_16 := rfl
theorem fd_M_index_27 : ak_find bl_M_index 27 = bk_M_index_27 := rfl
theorem fd_M_entry_0 : ak_find bl_M_entry 0 = bk_M_entry_0 := rfl
theorem fd_M_entry_18 : ak_find bl_M_entry 18 = bk_M_entry_18 := rfl
theorem fd_M_entry_20 : ak_find bl_M_entry 20 = bk_M_entry_20 := rfl
theorem fd_M_entry_22 : ak_find bl_M_entry 22 = bk_M_entry_22 := rfl
theorem fd_M_entry_42 : ak_find bl_M_entry 42 = bk_M_entry_42 := rfl
theorem fd_M_entry_48 : ak_find bl_M_entry 48 = bk_M_entry_48 := rfl
theorem fd_M_entry_84 : ak_find bl_M_entry 84 = bk_M_entry_84 := rfl
theorem fd_M_entry_85 : ak_find bl_M_entry 85 = bk_M_entry_85 := rfl
theorem fd_M_entry_94 : ak_find bl_M_entry 94 = bk_M_entry_94 := rfl
theorem fd_M_entry_102 : ak_find bl_M_entry 102 = bk_M_entry_102 := rfl
theorem fd_M_entry_108 : ak_find bl_M_entry 108 = bk_M_entry_108 := rfl
theorem fd_M_poke_0 : ak_find bl_M_poke 0 = bk_M_poke_0 := rfl
theorem fd_M_poke_16 : ak_find bl_M_poke 16 = bk_M_poke_16 := rfl
theorem fd_M_poke_25 : ak_find bl_M_poke 25 = bk_M_poke_25 := rfl
theorem fd_M_poke_28 : ak_find bl_M_poke 28 = bk_M_poke_28 := rfl
theorem fd_M_poke_41 : ak_find bl_M_poke 41 = bk_M_poke_41 := rfl
theorem fd_M_check_0 : ak_find bl_M_check 0 = bk_M_check_0 := rfl
theorem fd_M_check_9 : ak_find bl_M_check 9 = bk_M_check_9 := rfl
theorem fd_M_check_19 : ak_find bl_M_check 19 = bk_M_check_19 := rfl
theorem fd_M_check_38 : ak_find bl_M_check 38 = bk_M_check_38 := rfl
theorem fd_M_check_39 : ak_find bl_M_check 39 = bk_M_check_39 := rfl
theorem fd_M_check_47 : ak_find bl_M_check 47 = bk_M_check_47 := rfl
theorem fd_M_check_53 : ak_find bl_M_check 53 = bk_M_check_53 := rfl
theorem fd_M_broken_0 : ak_find bl_M_broken 0 = bk_M_broken_0 := rfl
theorem fd_M_broken_9 : ak_find bl_M_broken 9 = bk_M_broken_9 := rfl
theorem fd_M_broken_20 : ak_find bl_M_broken 20 = bk_M_broken_20 := rfl
theorem fd_M_broken_39 : ak_find bl_M_broken 39 = bk_M_broken_39 := rfl
theorem fd_M_broken_46 : ak_find bl_M_broken 46 = bk_M_broken_46 := rfl
theorem fd_M_broken_49 : ak_find bl_M_broken 49 = bk_M_broken_49 := rfl
theorem fd_M_broken_55 : ak_find bl_M_broken 55 = bk_M_broken_55 := rfl
theorem fd_M_broken_61 : ak_find bl_M_broken 61 = bk_M_broken_61 := rfl
theorem fd_M_told_0 : ak_find bl_M_told 0 = bk_M_told_0 := rfl
theorem fd_M_told_15 : ak_find bl_M_told 15 = bk_M_told_15 := rfl
theorem fd_M_told_40 : ak_find bl_M_told 40 = bk_M_told_40 := rfl
theorem fd_M_told_41 : ak_find bl_M_told 41 = bk_M_told_41 := rfl
theorem fd_M_told_59 : ak_find bl_M_told 59 = bk_M_told_59 := rfl
theorem fd_M_told_60 : ak_find bl_M_told 60 = bk_M_told_60 := rfl
theorem fd_M_told_78 : ak_find bl_M_told 78 = bk_M_told_78 := rfl
theorem fd_M_told_79 : ak_find bl_M_told 79 = bk_M_told_79 := rfl
theorem fd_M_told_88 : ak_find bl_M_told 88 = bk_M_told_88 := rfl
theorem fd_M_told_128 : ak_find bl_M_told 128 = bk_M_told_128 := rfl
theorem fd_M_told_133 : ak_find bl_M_told 133 = bk_M_told_133 := rfl
theorem fd_M_told_138 : ak_find bl_M_told 138 = bk_M_told_138 := rfl
theorem fd_M_told_140 : ak_find bl_M_told 140 = bk_M_told_140 := rfl
theorem fd_M_told_142 : ak_find bl_M_told 142 = bk_M_told_142 := rfl
theorem fd_M_told_145 : ak_find bl_M_told 145 = bk_M_told_145 := rfl
theorem fd_M_told_150 : ak_find bl_M_told 150 = bk_M_told_150 := rfl
end
section
/-! helpers: reading behind a store; numbers -/
theorem p1_s {s : ak_S} {k j j' : Nat} {x : Int32} : (ak_p1 s k j x).1 k j' = if j' = j then x else s.1 k j' := by simp [ak_p1, upd]
theorem p1_o {s : ak_S} {k k' j j' : Nat} {x : Int32} (h : k' ≠ k) : (ak_p1 s k j x).1 k' j' = s.1 k' j' := by simp [ak_p1, h]
theorem p1_2 {s : ak_S} {k j : Nat} {x : Int32} : (ak_p1 s k j x).2 = s.2 := rfl
theorem p2_s {s : ak_S} {k j j' : Nat} {x : Int64} : (ak_p2 s k j x).2 k j' = if j' = j then x else s.2 k j' := by simp [ak_p2, vp_updL]
theorem p2_o {s : ak_S} {k k' j j' : Nat} {x : Int64} (h : k' ≠ k) : (ak_p2 s k j x).2 k' j' = s.2 k' j' := by simp [ak_p2, h]
theorem p2_1 {s : ak_S} {k j : Nat} {x : Int64} : (ak_p2 s k j x).1 = s.1 := rfl
theorem q_lt {a b : Nat} (ha : a < 2147483648) (hb : b < 2147483648) : (nI a < nI b) = (a < b) := propext (nI_ltI ha hb)
theorem q_le {a b : Nat} (ha : a < 2147483648) (hb : b < 2147483648) : (nI a ≤ nI b) = (a ≤ b) := propext (nI_leI ha hb)
theorem q_eq {a b : Nat} (ha : a < 2147483648) (hb : b < 2147483648) : (nI a = nI b) = (a = b) := propext (nI_eq ha hb)
theorem q_in {a b : Nat} (ha : a < b) (hb : b < 2147483648) : vp_in (nI a) b := vp_in_nI ha hb
theorem q_cl {a : Nat} (ha : a < 2147483648) : (nI a).toNatClampNeg = a := nI_clamp ha
theorem n_0 : (0 : Int32) = nI 0 := rfl
theorem n_1 : (1 : Int32) = nI 1 := rfl
theorem n_2 : (2 : Int32) = nI 2 := rfl
theorem n_3 : (3 : Int32) = nI 3 := rfl
theorem n_10 : (10 : Int32) = nI 10 := rfl
theorem n_15 : (15 : Int32) = nI 15 := rfl
theorem n_250 : (250 : Int32) = nI 250 := rfl
/-- any number is in 1..n, by its Nat, or out -/
theorem n_case (x : Int32) {n : Nat} (hn : n < 2147483648) : (∃ j : Nat, 1 ≤ j ∧ j ≤ n ∧ x = nI j) ∨ ¬ (1 ≤ x ∧ x ≤ nI n) := by
  by_cases h : 1 ≤ x ∧ x ≤ nI n
  · left
    obtain ⟨h1, h2⟩ := h
    have h0 : ¬ x < 0 := by
      intro q
      have h3 : (0 : Int32) < 1 := by decide
      grind
    obtain ⟨j, hj, rfl⟩ := nI_of h0
    rw [n_1, nI_leI (by omega) hj] at h1
    rw [nI_leI hj hn] at h2
    exact ⟨j, h1, h2, rfl⟩
  · exact Or.inr h
theorem n_in {n j : Nat} (h1 : 1 ≤ j) (h2 : j ≤ n) (hn : n < 2147483648) : (1 : Int32) ≤ nI j ∧ nI j ≤ nI n := ⟨by rw [n_1]; exact nI_le h1 (by omega), nI_le h2 hn⟩
end
section
/-! contracts of Kinds, Indexes and the leaves of Segments -/
def pt_K_has : ak_P := fun vs s Q => match vs with
  | [.ref 1, .int k] => Q (some (.int (if 1 ≤ k ∧ k ≤ s.1 1 0 then 1 else 0))) s
  | _ => False
def cs_K_has : Nat → ak_P := fun _ _ _ _ => False
theorem vc_K_has : ak_VC lay_C cs_K_has bl_K_has 2 pt_K_has := by
  intro vs s Q h
  unfold pt_K_has at h
  split at h
  · rename_i k
    refine ⟨Nat.le_refl 2, fun J hJ => hJ 3 _ _ _ _ ?_⟩
    simp only [Nat.reduceAdd, Nat.reduceLeDiff, Nat.zero_le, true_or, or_true, run_s, e_nop, e_iconst, e_bipush, e_sipush, e_lconst, e_iload, e_iload_n, e_lload, e_lload_n, e_aload, e_aload_n, e_istore, e_istore_n, e_iinc, e_iadd, e_isub, e_imul, e_lcmp, e_dupI, e_dupR, e_dup2, e_getfield, e_putfield, e_iaload, e_baload, e_laload, e_iastore, e_bastore, e_lastore, e_if, e_icmp, e_goto, e_tsw, e_ireturn0, e_ireturn1, e_return, e_call0, e_call1, e_call2, e_call3, lI_e, lL_e, lR_e, ak_nth, ak_set, ak_ok1, ak_jp, ak_b1, ak_b2, ak_sw, ak_la, ak_pad, true_and, and_true, List.map_cons, List.map_nil, List.sum_cons, List.sum_nil, Value.category, Option.toList_some, Option.toList_none, List.cons_append, List.nil_append, gC_0_0, gC_0_1, gC_0_2, gC_0_3, rC_0, gC_1_0, pC_1_0, gC_1_1, gC_1_2, gC_1_3, rC_1, gC_2_0, pC_2_0, gC_2_1, gC_2_2, gC_2_3, gC_2_4, gC_2_5, gC_2_6, gC_2_7, gC_2_8, rC_2, gC_3_0, pC_3_0, gC_3_1, gC_3_2, rC_3, gC_4_0, gC_4_1, gC_4_2, gC_4_3, gC_4_4, pC_4_4, rC_4, kC_5, kC_6, kC_7, kC_8, kC_9, kC_10, kC_11, kC_12, kC_13, kC_14, kC_15, kC_16, kC_17, kC_18, kC_19, fd_K_has_0, fd_K_has_17, fd_K_has_18, bk_K_has_0, bk_K_has_17, bk_K_has_18]
    refine ⟨fun h1 => ?_, fun h1 => ⟨fun h2 => ?_, fun h2 => ?_⟩⟩ <;> grind
  · exact h.elim
set_option maxRecDepth 20000 in
theorem ct_K_has (l : Launch) : ak_Ctr l cl_all lay_C y_K_has ws_K_has rm_K_has pt_K_has := by
  refine ak_met (cs := cs_K_has) (reg := rg_K_has) (bl := bl_K_has) (by decide +kernel) rfl (cl_ok _) rfl ok_K_has ?_ vc_K_has
  intro a n b ci h
  match a, h with
  | k + 0, h => cases h
def pt_S_has : ak_P := fun vs s Q => match vs with
  | [.ref 2, .int k] => Q (some (.int (if 1 ≤ k ∧ k ≤ s.1 2 0 then 1 else 0))) s
  | _ => False
def cs_S_has : Nat → ak_P := fun _ _ _ _ => False
theorem vc_S_has : ak_VC lay_C cs_S_has bl_S_has 2 pt_S_has := by
  intro vs s Q h
  unfold pt_S_has at h
  split at h
  · rename_i k
    refine ⟨Nat.le_refl 2, fun J hJ => hJ 3 _ _ _ _ ?_⟩
    simp only [Nat.reduceAdd, Nat.reduceLeDiff, Nat.zero_le, true_or, or_true, run_s, e_nop, e_iconst, e_bipush, e_sipush, e_lconst, e_iload, e_iload_n, e_lload, e_lload_n, e_aload, e_aload_n, e_istore, e_istore_n, e_iinc, e_iadd, e_isub, e_imul, e_lcmp, e_dupI, e_dupR, e_dup2, e_getfield, e_putfield, e_iaload, e_baload, e_laload, e_iastore, e_bastore, e_lastore, e_if, e_icmp, e_goto, e_tsw, e_ireturn0, e_ireturn1, e_return, e_call0, e_call1, e_call2, e_call3, lI_e, lL_e, lR_e, ak_nth, ak_set, ak_ok1, ak_jp, ak_b1, ak_b2, ak_sw, ak_la, ak_pad, true_and, and_true, List.map_cons, List.map_nil, List.sum_cons, List.sum_nil, Value.category, Option.toList_some, Option.toList_none, List.cons_append, List.nil_append, gC_0_0, gC_0_1, gC_0_2, gC_0_3, rC_0, gC_1_0, pC_1_0, gC_1_1, gC_1_2, gC_1_3, rC_1, gC_2_0, pC_2_0, gC_2_1, gC_2_2, gC_2_3, gC_2_4, gC_2_5, gC_2_6, gC_2_7, gC_2_8, rC_2, gC_3_0, pC_3_0, gC_3_1, gC_3_2, rC_3, gC_4_0, gC_4_1, gC_4_2, gC_4_3, gC_4_4, pC_4_4, rC_4, kC_5, kC_6, kC_7, kC_8, kC_9, kC_10, kC_11, kC_12, kC_13, kC_14, kC_15, kC_16, kC_17, kC_18, kC_19, fd_S_has_0, fd_S_has_17, fd_S_has_18, bk_S_has_0, bk_S_has_17, bk_S_has_18]
    refine ⟨fun h1 => ?_, fun h1 => ⟨fun h2 => ?_, fun h2 => ?_⟩⟩ <;> grind
  · exact h.elim
set_option maxRecDepth 20000 in
theorem ct_S_has (l : Launch) : ak_Ctr l cl_all lay_C y_S_has ws_S_has rm_S_has pt_S_has := by
  refine ak_met (cs := cs_S_has) (reg := rg_S_has) (bl := bl_S_has) (by decide +kernel) rfl (cl_ok _) rfl ok_S_has ?_ vc_S_has
  intro a n b ci h
  match a, h with
  | k + 0, h => cases h
def pt_X_has : ak_P := fun vs s Q => match vs with
  | [.ref 3, .int k] => Q (some (.int (if 1 ≤ k ∧ k ≤ s.1 3 0 then 1 else 0))) s
  | _ => False
def cs_X_has : Nat → ak_P := fun _ _ _ _ => False
theorem vc_X_has : ak_VC lay_C cs_X_has bl_X_has 2 pt_X_has := by
  intro vs s Q h
  unfold pt_X_has at h
  split at h
  · rename_i k
    refine ⟨Nat.le_refl 2, fun J hJ => hJ 3 _ _ _ _ ?_⟩
    simp only [Nat.reduceAdd, Nat.reduceLeDiff, Nat.zero_le, true_or, or_true, run_s, e_nop, e_iconst, e_bipush, e_sipush, e_lconst, e_iload, e_iload_n, e_lload, e_lload_n, e_aload, e_aload_n, e_istore, e_istore_n, e_iinc, e_iadd, e_isub, e_imul, e_lcmp, e_dupI, e_dupR, e_dup2, e_getfield, e_putfield, e_iaload, e_baload, e_laload, e_iastore, e_bastore, e_lastore, e_if, e_icmp, e_goto, e_tsw, e_ireturn0, e_ireturn1, e_return, e_call0, e_call1, e_call2, e_call3, lI_e, lL_e, lR_e, ak_nth, ak_set, ak_ok1, ak_jp, ak_b1, ak_b2, ak_sw, ak_la, ak_pad, true_and, and_true, List.map_cons, List.map_nil, List.sum_cons, List.sum_nil, Value.category, Option.toList_some, Option.toList_none, List.cons_append, List.nil_append, gC_0_0, gC_0_1, gC_0_2, gC_0_3, rC_0, gC_1_0, pC_1_0, gC_1_1, gC_1_2, gC_1_3, rC_1, gC_2_0, pC_2_0, gC_2_1, gC_2_2, gC_2_3, gC_2_4, gC_2_5, gC_2_6, gC_2_7, gC_2_8, rC_2, gC_3_0, pC_3_0, gC_3_1, gC_3_2, rC_3, gC_4_0, gC_4_1, gC_4_2, gC_4_3, gC_4_4, pC_4_4, rC_4, kC_5, kC_6, kC_7, kC_8, kC_9, kC_10, kC_11, kC_12, kC_13, kC_14, kC_15, kC_16, kC_17, kC_18, kC_19, fd_X_has_0, fd_X_has_17, fd_X_has_18, bk_X_has_0, bk_X_has_17, bk_X_has_18]
    refine ⟨fun h1 => ?_, fun h1 => ⟨fun h2 => ?_, fun h2 => ?_⟩⟩ <;> grind
  · exact h.elim
set_option maxRecDepth 20000 in
theorem ct_X_has (l : Launch) : ak_Ctr l cl_all lay_C y_X_has ws_X_has rm_X_has pt_X_has := by
  refine ak_met (cs := cs_X_has) (reg := rg_X_has) (bl := bl_X_has) (by decide +kernel) rfl (cl_ok _) rfl ok_X_has ?_ vc_X_has
  intro a n b ci h
  match a, h with
  | k + 0, h => cases h
/-- there is room for one more, or not -/
def pt_K_add : ak_P := fun vs s Q => match vs with
  | [.ref 1, .int u] => ∃ n : Nat, n ≤ 15 ∧ s.1 1 0 = nI n ∧ (n = 15 → Q (some (.int (-1))) s) ∧ (n < 15 → Q (some (.int (nI (n + 1)))) (ak_p1 (ak_p1 s 1 0 (nI (n + 1))) 5 (n + 1) u))
  | _ => False
def cs_K_add : Nat → ak_P := fun _ _ _ _ => False
theorem vc_K_add : ak_VC lay_C cs_K_add bl_K_add 2 pt_K_add := by
  intro vs s Q h
  unfold pt_K_add at h
  split at h
  · rename_i u
    obtain ⟨n, hn, hs, h1, h2⟩ := h
    refine ⟨Nat.le_refl 2, fun J hJ => hJ 3 _ _ _ _ ?_⟩
    simp only [Nat.reduceAdd, Nat.reduceLeDiff, Nat.zero_le, true_or, or_true, run_s, e_nop, e_iconst, e_bipush, e_sipush, e_lconst, e_iload, e_iload_n, e_lload, e_lload_n, e_aload, e_aload_n, e_istore, e_istore_n, e_iinc, e_iadd, e_isub, e_imul, e_lcmp, e_dupI, e_dupR, e_dup2, e_getfield, e_putfield, e_iaload, e_baload, e_laload, e_iastore, e_bastore, e_lastore, e_if, e_icmp, e_goto, e_tsw, e_ireturn0, e_ireturn1, e_return, e_call0, e_call1, e_call2, e_call3, lI_e, lL_e, lR_e, ak_nth, ak_set, ak_ok1, ak_jp, ak_b1, ak_b2, ak_sw, ak_la, ak_pad, true_and, and_true, List.map_cons, List.map_nil, List.sum_cons, List.sum_nil, Value.category, Option.toList_some, Option.toList_none, List.cons_append, List.nil_append, gC_0_0, gC_0_1, gC_0_2, gC_0_3, rC_0, gC_1_0, pC_1_0, gC_1_1, gC_1_2, gC_1_3, rC_1, gC_2_0, pC_2_0, gC_2_1, gC_2_2, gC_2_3, gC_2_4, gC_2_5, gC_2_6, gC_2_7, gC_2_8, rC_2, gC_3_0, pC_3_0, gC_3_1, gC_3_2, rC_3, gC_4_0, gC_4_1, gC_4_2, gC_4_3, gC_4_4, pC_4_4, rC_4, kC_5, kC_6, kC_7, kC_8, kC_9, kC_10, kC_11, kC_12, kC_13, kC_14, kC_15, kC_16, kC_17, kC_18, kC_19, fd_K_add_0, fd_K_add_11, bk_K_add_0, bk_K_add_11, p1_s, p1_o, if_true, hs, nI_1, ne_eq, Nat.reduceEqDiff, not_false_eq_true]
    rw [n_15, q_lt (by omega) (by omega)]
    refine ⟨fun h3 => ?_, fun h3 => h1 (by omega)⟩
    rw [q_cl (by omega)]
    exact ⟨q_in (by omega) (by omega), h2 h3⟩
  · exact h.elim
set_option maxRecDepth 20000 in
theorem ct_K_add (l : Launch) : ak_Ctr l cl_all lay_C y_K_add ws_K_add rm_K_add pt_K_add := by
  refine ak_met (cs := cs_K_add) (reg := rg_K_add) (bl := bl_K_add) (by decide +kernel) rfl (cl_ok _) rfl ok_K_add ?_ vc_K_add
  intro a n b ci h
  match a, h with
  | k + 0, h => cases h
def pt_X_add : ak_P := fun vs s Q => match vs with
  | [.ref 3, .int u, .int b] => ∃ n : Nat, n ≤ 10 ∧ s.1 3 0 = nI n ∧ (n = 10 → Q (some (.int (-1))) s) ∧ (n < 10 → Q (some (.int (nI (n + 1)))) (ak_p1 (ak_p1 (ak_p1 s 3 0 (nI (n + 1))) 16 (n + 1) u) 17 (n + 1) (b &&& 1)))
  | _ => False
def cs_X_add : Nat → ak_P := fun _ _ _ _ => False
theorem vc_X_add : ak_VC lay_C cs_X_add bl_X_add 3 pt_X_add := by
  intro vs s Q h
  unfold pt_X_add at h
  split at h
  · rename_i u b
    obtain ⟨n, hn, hs, h1, h2⟩ := h
    refine ⟨Nat.le_refl 3, fun J hJ => hJ 3 _ _ _ _ ?_⟩
    simp only [Nat.reduceAdd, Nat.reduceLeDiff, Nat.zero_le, true_or, or_true, run_s, e_nop, e_iconst, e_bipush, e_sipush, e_lconst, e_iload, e_iload_n, e_lload, e_lload_n, e_aload, e_aload_n, e_istore, e_istore_n, e_iinc, e_iadd, e_isub, e_imul, e_lcmp, e_dupI, e_dupR, e_dup2, e_getfield, e_putfield, e_iaload, e_baload, e_laload, e_iastore, e_bastore, e_lastore, e_if, e_icmp, e_goto, e_tsw, e_ireturn0, e_ireturn1, e_return, e_call0, e_call1, e_call2, e_call3, lI_e, lL_e, lR_e, ak_nth, ak_set, ak_ok1, ak_jp, ak_b1, ak_b2, ak_sw, ak_la, ak_pad, true_and, and_true, List.map_cons, List.map_nil, List.sum_cons, List.sum_nil, Value.category, Option.toList_some, Option.toList_none, List.cons_append, List.nil_append, gC_0_0, gC_0_1, gC_0_2, gC_0_3, rC_0, gC_1_0, pC_1_0, gC_1_1, gC_1_2, gC_1_3, rC_1, gC_2_0, pC_2_0, gC_2_1, gC_2_2, gC_2_3, gC_2_4, gC_2_5, gC_2_6, gC_2_7, gC_2_8, rC_2, gC_3_0, pC_3_0, gC_3_1, gC_3_2, rC_3, gC_4_0, gC_4_1, gC_4_2, gC_4_3, gC_4_4, pC_4_4, rC_4, kC_5, kC_6, kC_7, kC_8, kC_9, kC_10, kC_11, kC_12, kC_13, kC_14, kC_15, kC_16, kC_17, kC_18, kC_19, fd_X_add_0, fd_X_add_11, bk_X_add_0, bk_X_add_11, p1_s, p1_o, if_true, hs, nI_1, ne_eq, Nat.reduceEqDiff, not_false_eq_true]
    rw [n_10, q_lt (by omega) (by omega)]
    refine ⟨fun h3 => ?_, fun h3 => h1 (by omega)⟩
    rw [q_cl (by omega)]
    exact ⟨q_in (by omega) (by omega), q_in (by omega) (by omega), h2 h3⟩
  · exact h.elim
set_option maxRecDepth 20000 in
theorem ct_X_add (l : Launch) : ak_Ctr l cl_all lay_C y_X_add ws_X_add rm_X_add pt_X_add := by
  refine ak_met (cs := cs_X_add) (reg := rg_X_add) (bl := bl_X_add) (by decide +kernel) rfl (cl_ok _) rfl ok_X_add ?_ vc_X_add
  intro a n b ci h
  match a, h with
  | k + 0, h => cases h
def pt_S_is : ak_P := fun vs s Q => match vs with
  | [.ref 2, .int i, .int w] => ∃ n : Nat, n ≤ 250 ∧ s.1 2 0 = nI n ∧ Q (some (.int (if (1 ≤ i ∧ i ≤ nI n) ∧ s.1 11 i.toNatClampNeg = w then 1 else 0))) s
  | _ => False
def cs_S_is : Nat → ak_P := fun a => match a with
  | _ => pt_S_has
theorem vc_S_is : ak_VC lay_C cs_S_is bl_S_is 3 pt_S_is := by
  intro vs s Q h
  unfold pt_S_is at h
  split at h
  · rename_i i w
    obtain ⟨n, hn, hs, h⟩ := h
    refine ⟨Nat.le_refl 3, fun J hJ => hJ 4 _ _ _ _ ?_⟩
    simp only [Nat.reduceAdd, Nat.reduceLeDiff, Nat.zero_le, true_or, or_true, run_s, e_nop, e_iconst, e_bipush, e_sipush, e_lconst, e_iload, e_iload_n, e_lload, e_lload_n, e_aload, e_aload_n, e_istore, e_istore_n, e_iinc, e_iadd, e_isub, e_imul, e_lcmp, e_dupI, e_dupR, e_dup2, e_getfield, e_putfield, e_iaload, e_baload, e_laload, e_iastore, e_bastore, e_lastore, e_if, e_icmp, e_goto, e_tsw, e_ireturn0, e_ireturn1, e_return, e_call0, e_call1, e_call2, e_call3, lI_e, lL_e, lR_e, ak_nth, ak_set, ak_ok1, ak_jp, ak_b1, ak_b2, ak_sw, ak_la, ak_pad, true_and, and_true, List.map_cons, List.map_nil, List.sum_cons, List.sum_nil, Value.category, Option.toList_some, Option.toList_none, List.cons_append, List.nil_append, gC_0_0, gC_0_1, gC_0_2, gC_0_3, rC_0, gC_1_0, pC_1_0, gC_1_1, gC_1_2, gC_1_3, rC_1, gC_2_0, pC_2_0, gC_2_1, gC_2_2, gC_2_3, gC_2_4, gC_2_5, gC_2_6, gC_2_7, gC_2_8, rC_2, gC_3_0, pC_3_0, gC_3_1, gC_3_2, rC_3, gC_4_0, gC_4_1, gC_4_2, gC_4_3, gC_4_4, pC_4_4, rC_4, kC_5, kC_6, kC_7, kC_8, kC_9, kC_10, kC_11, kC_12, kC_13, kC_14, kC_15, kC_16, kC_17, kC_18, kC_19, fd_S_is_0, fd_S_is_22, fd_S_is_23, bk_S_is_0, bk_S_is_22, bk_S_is_23, cs_S_is, pt_S_has, hs]
    rcases n_case i (n := n) (by omega) with ⟨j, h1, h2, rfl⟩ | hx
    · have hb := n_in h1 h2 (by omega)
      rw [if_pos hb]
      rw [q_cl (by omega)] at h ⊢
      simp only [hb, true_and] at h
      refine ⟨fun e => absurd e (by decide), fun _ => ⟨q_in (by omega) (by omega), fun e => ?_, fun e => ?_⟩⟩ <;> grind
    · rw [if_neg hx]
      refine ⟨fun _ => ?_, fun e => absurd rfl e⟩
      grind
  · exact h.elim
set_option maxRecDepth 20000 in
theorem ct_S_is (l : Launch) : ak_Ctr l cl_all lay_C y_S_is ws_S_is rm_S_is pt_S_is := by
  refine ak_met (cs := cs_S_is) (reg := rg_S_is) (bl := bl_S_is) (by decide +kernel) rfl (cl_ok _) rfl ok_S_is ?_ vc_S_is
  intro a n b ci h
  match a, h with
  | 0, h =>
    cases h
    exact ak_ccV (ct_S_has l) rfl 188 189 190 22 191 (by decide +kernel) ⟨rfl, rfl⟩ (by decide +kernel) (by decide +kernel)
  | k + 1, h => cases h
def pt_S_isOneUnder : ak_P := fun vs s Q => match vs with
  | [.ref 2, .int i, .int k, .int u] => vp_in i 251 ∧ Q (some (.int (if s.1 11 i.toNatClampNeg = 1 ∧ s.1 8 i.toNatClampNeg = k ∧ s.1 9 i.toNatClampNeg = u then 1 else 0))) s
  | _ => False
def cs_S_isOneUnder : Nat → ak_P := fun _ _ _ _ => False
theorem vc_S_isOneUnder : ak_VC lay_C cs_S_isOneUnder bl_S_isOneUnder 4 pt_S_isOneUnder := by
  intro vs s Q h
  unfold pt_S_isOneUnder at h
  split at h
  · rename_i i k u
    obtain ⟨hi, h⟩ := h
    refine ⟨Nat.le_refl 4, fun J hJ => hJ 4 _ _ _ _ ?_⟩
    simp only [Nat.reduceAdd, Nat.reduceLeDiff, Nat.zero_le, true_or, or_true, run_s, e_nop, e_iconst, e_bipush, e_sipush, e_lconst, e_iload, e_iload_n, e_lload, e_lload_n, e_aload, e_aload_n, e_istore, e_istore_n, e_iinc, e_iadd, e_isub, e_imul, e_lcmp, e_dupI, e_dupR, e_dup2, e_getfield, e_putfield, e_iaload, e_baload, e_laload, e_iastore, e_bastore, e_lastore, e_if, e_icmp, e_goto, e_tsw, e_ireturn0, e_ireturn1, e_return, e_call0, e_call1, e_call2, e_call3, lI_e, lL_e, lR_e, ak_nth, ak_set, ak_ok1, ak_jp, ak_b1, ak_b2, ak_sw, ak_la, ak_pad, true_and, and_true, List.map_cons, List.map_nil, List.sum_cons, List.sum_nil, Value.category, Option.toList_some, Option.toList_none, List.cons_append, List.nil_append, gC_0_0, gC_0_1, gC_0_2, gC_0_3, rC_0, gC_1_0, pC_1_0, gC_1_1, gC_1_2, gC_1_3, rC_1, gC_2_0, pC_2_0, gC_2_1, gC_2_2, gC_2_3, gC_2_4, gC_2_5, gC_2_6, gC_2_7, gC_2_8, rC_2, gC_3_0, pC_3_0, gC_3_1, gC_3_2, rC_3, gC_4_0, gC_4_1, gC_4_2, gC_4_3, gC_4_4, pC_4_4, rC_4, kC_5, kC_6, kC_7, kC_8, kC_9, kC_10, kC_11, kC_12, kC_13, kC_14, kC_15, kC_16, kC_17, kC_18, kC_19, fd_S_isOneUnder_0, fd_S_isOneUnder_34, fd_S_isOneUnder_35, bk_S_isOneUnder_0, bk_S_isOneUnder_34, bk_S_isOneUnder_35, hi]
    grind
  · exact h.elim
set_option maxRecDepth 20000 in
theorem ct_S_isOneUnder (l : Launch) : ak_Ctr l cl_all lay_C y_S_isOneUnder ws_S_isOneUnder rm_S_isOneUnder pt_S_isOneUnder := by
  refine ak_met (cs := cs_S_isOneUnder) (reg := rg_S_isOneUnder) (bl := bl_S_isOneUnder) (by decide +kernel) rfl (cl_ok _) rfl ok_S_isOneUnder ?_ vc_S_isOneUnder
  intro a n b ci h
  match a, h with
  | k + 0, h => cases h
def pt_S_truth : ak_P := fun vs s Q => match vs with
  | [.ref 2, .int i, .int p] => vp_in i 251 ∧ Q (some (.int (if p = 0 then s.1 9 i.toNatClampNeg else if p = 1 then s.1 12 i.toNatClampNeg else s.1 13 i.toNatClampNeg))) s
  | _ => False
def cs_S_truth : Nat → ak_P := fun _ _ _ _ => False
theorem vc_S_truth : ak_VC lay_C cs_S_truth bl_S_truth 3 pt_S_truth := by
  intro vs s Q h
  unfold pt_S_truth at h
  split at h
  · rename_i i p
    obtain ⟨hi, h⟩ := h
    refine ⟨Nat.le_refl 3, fun J hJ => hJ 4 _ _ _ _ ?_⟩
    simp only [Nat.reduceAdd, Nat.reduceLeDiff, Nat.zero_le, true_or, or_true, run_s, e_nop, e_iconst, e_bipush, e_sipush, e_lconst, e_iload, e_iload_n, e_lload, e_lload_n, e_aload, e_aload_n, e_istore, e_istore_n, e_iinc, e_iadd, e_isub, e_imul, e_lcmp, e_dupI, e_dupR, e_dup2, e_getfield, e_putfield, e_iaload, e_baload, e_laload, e_iastore, e_bastore, e_lastore, e_if, e_icmp, e_goto, e_tsw, e_ireturn0, e_ireturn1, e_return, e_call0, e_call1, e_call2, e_call3, lI_e, lL_e, lR_e, ak_nth, ak_set, ak_ok1, ak_jp, ak_b1, ak_b2, ak_sw, ak_la, ak_pad, true_and, and_true, List.map_cons, List.map_nil, List.sum_cons, List.sum_nil, Value.category, Option.toList_some, Option.toList_none, List.cons_append, List.nil_append, gC_0_0, gC_0_1, gC_0_2, gC_0_3, rC_0, gC_1_0, pC_1_0, gC_1_1, gC_1_2, gC_1_3, rC_1, gC_2_0, pC_2_0, gC_2_1, gC_2_2, gC_2_3, gC_2_4, gC_2_5, gC_2_6, gC_2_7, gC_2_8, rC_2, gC_3_0, pC_3_0, gC_3_1, gC_3_2, rC_3, gC_4_0, gC_4_1, gC_4_2, gC_4_3, gC_4_4, pC_4_4, rC_4, kC_5, kC_6, kC_7, kC_8, kC_9, kC_10, kC_11, kC_12, kC_13, kC_14, kC_15, kC_16, kC_17, kC_18, kC_19, fd_S_truth_0, fd_S_truth_11, fd_S_truth_25, fd_S_truth_31, bk_S_truth_0, bk_S_truth_11, bk_S_truth_25, bk_S_truth_31, hi]
    grind
  · exact h.elim
set_option maxRecDepth 20000 in
theorem ct_S_truth (l : Launch) : ak_Ctr l cl_all lay_C y_S_truth ws_S_truth rm_S_truth pt_S_truth := by
  refine ak_met (cs := cs_S_truth) (reg := rg_S_truth) (bl := bl_S_truth) (by decide +kernel) rfl (cl_ok _) rfl ok_S_truth ?_ vc_S_truth
  intro a n b ci h
  match a, h with
  | k + 0, h => cases h
def pt_S_say : ak_P := fun vs s Q => match vs with
  | [.ref 2, .int i, .int p, .int t] => ∃ a b : Nat, a ≤ 250 ∧ b < 3 ∧ i = nI a ∧ p = nI b ∧ Q (some (.int (s.1 14 (3 * a + b)))) (ak_p1 s 14 (3 * a + b) t)
  | _ => False
def cs_S_say : Nat → ak_P := fun _ _ _ _ => False
theorem vc_S_say : ak_VC lay_C cs_S_say bl_S_say 5 pt_S_say := by
  intro vs s Q h
  unfold pt_S_say at h
  split at h
  · rename_i i p t
    obtain ⟨a, b, ha, hb, rfl, rfl, h⟩ := h
    refine ⟨Nat.le_of_ble_eq_true rfl, fun J hJ => hJ 4 _ _ _ _ ?_⟩
    simp only [Nat.reduceAdd, Nat.reduceLeDiff, Nat.zero_le, true_or, or_true, run_s, e_nop, e_iconst, e_bipush, e_sipush, e_lconst, e_iload, e_iload_n, e_lload, e_lload_n, e_aload, e_aload_n, e_istore, e_istore_n, e_iinc, e_iadd, e_isub, e_imul, e_lcmp, e_dupI, e_dupR, e_dup2, e_getfield, e_putfield, e_iaload, e_baload, e_laload, e_iastore, e_bastore, e_lastore, e_if, e_icmp, e_goto, e_tsw, e_ireturn0, e_ireturn1, e_return, e_call0, e_call1, e_call2, e_call3, lI_e, lL_e, lR_e, ak_nth, ak_set, ak_ok1, ak_jp, ak_b1, ak_b2, ak_sw, ak_la, ak_pad, true_and, and_true, List.map_cons, List.map_nil, List.sum_cons, List.sum_nil, Value.category, Option.toList_some, Option.toList_none, List.cons_append, List.nil_append, gC_0_0, gC_0_1, gC_0_2, gC_0_3, rC_0, gC_1_0, pC_1_0, gC_1_1, gC_1_2, gC_1_3, rC_1, gC_2_0, pC_2_0, gC_2_1, gC_2_2, gC_2_3, gC_2_4, gC_2_5, gC_2_6, gC_2_7, gC_2_8, rC_2, gC_3_0, pC_3_0, gC_3_1, gC_3_2, rC_3, gC_4_0, gC_4_1, gC_4_2, gC_4_3, gC_4_4, pC_4_4, rC_4, kC_5, kC_6, kC_7, kC_8, kC_9, kC_10, kC_11, kC_12, kC_13, kC_14, kC_15, kC_16, kC_17, kC_18, kC_19, fd_S_say_0, bk_S_say_0]
    rw [n_3, pk_mul, nI_add, q_cl (by omega), show a * 3 + b = 3 * a + b by omega]
    exact ⟨q_in (by omega) (by omega), q_in (by omega) (by omega), h⟩
  · exact h.elim
set_option maxRecDepth 20000 in
theorem ct_S_say (l : Launch) : ak_Ctr l cl_all lay_C y_S_say ws_S_say rm_S_say pt_S_say := by
  refine ak_met (cs := cs_S_say) (reg := rg_S_say) (bl := bl_S_say) (by decide +kernel) rfl (cl_ok _) rfl ok_S_say ?_ vc_S_say
  intro a n b ci h
  match a, h with
  | k + 0, h => cases h
end
section
/-! loops over the segments -/
def cn (p : Nat → Bool) : Nat → Nat
  | 0 => 0
  | n + 1 => cn p n + (if p (n + 1) = true then 1 else 0)
theorem cn_le (p : Nat → Bool) : ∀ n, cn p n ≤ n
  | 0 => Nat.le_refl 0
  | n + 1 => by
    have := cn_le p n
    rw [cn]
    split <;> omega
def pt_S_howMany : ak_P := fun vs s Q => match vs with
  | [.ref 2, .int w] => ∃ n : Nat, n ≤ 250 ∧ s.1 2 0 = nI n ∧ Q (some (.int (nI (cn (fun j => decide (s.1 11 j = w)) n)))) s
  | _ => False
def cs_S_howMany : Nat → ak_P := fun _ _ _ _ => False
theorem vc_S_howMany : ak_VC lay_C cs_S_howMany bl_S_howMany 4 pt_S_howMany := by
  intro vs s Q h
  unfold pt_S_howMany at h
  split at h
  · rename_i w
    obtain ⟨n, hn, hs, h⟩ := h
    refine ⟨Nat.le_of_ble_eq_true rfl, fun J hJ => ?_⟩
    have loop : ∀ d i, i + d = n → J 4 [some (.ref 2), some (.int w), some (.int (nI (cn (fun j => decide (s.1 11 j = w)) i))), some (.int (nI (i + 1)))] [] s := by
      intro d
      induction d with
      | zero =>
        intro i hi
        refine hJ 3 _ _ _ _ ?_
        simp only [Nat.reduceAdd, Nat.reduceLeDiff, Nat.zero_le, true_or, or_true, run_s, e_nop, e_iconst, e_bipush, e_sipush, e_lconst, e_iload, e_iload_n, e_lload, e_lload_n, e_aload, e_aload_n, e_istore, e_istore_n, e_iinc, e_iadd, e_isub, e_imul, e_lcmp, e_dupI, e_dupR, e_dup2, e_getfield, e_putfield, e_iaload, e_baload, e_laload, e_iastore, e_bastore, e_lastore, e_if, e_icmp, e_goto, e_tsw, e_ireturn0, e_ireturn1, e_return, e_call0, e_call1, e_call2, e_call3, lI_e, lL_e, lR_e, ak_nth, ak_set, ak_ok1, ak_jp, ak_b1, ak_b2, ak_sw, ak_la, ak_pad, true_and, and_true, List.map_cons, List.map_nil, List.sum_cons, List.sum_nil, Value.category, Option.toList_some, Option.toList_none, List.cons_append, List.nil_append, gC_0_0, gC_0_1, gC_0_2, gC_0_3, rC_0, gC_1_0, pC_1_0, gC_1_1, gC_1_2, gC_1_3, rC_1, gC_2_0, pC_2_0, gC_2_1, gC_2_2, gC_2_3, gC_2_4, gC_2_5, gC_2_6, gC_2_7, gC_2_8, rC_2, gC_3_0, pC_3_0, gC_3_1, gC_3_2, rC_3, gC_4_0, gC_4_1, gC_4_2, gC_4_3, gC_4_4, pC_4_4, rC_4, kC_5, kC_6, kC_7, kC_8, kC_9, kC_10, kC_11, kC_12, kC_13, kC_14, kC_15, kC_16, kC_17, kC_18, kC_19, fd_S_howMany_0, fd_S_howMany_4, fd_S_howMany_25, fd_S_howMany_31, bk_S_howMany_0, bk_S_howMany_4, bk_S_howMany_25, bk_S_howMany_31, hs]
        rw [q_lt (by omega) (by omega)]
        refine ⟨fun _ => ?_, fun q => absurd (by omega) q⟩
        have e : i = n := by omega
        rw [e]
        exact h
      | succ d ih =>
        intro i hi
        refine hJ 3 _ _ _ _ ?_
        simp only [Nat.reduceAdd, Nat.reduceLeDiff, Nat.zero_le, true_or, or_true, run_s, e_nop, e_iconst, e_bipush, e_sipush, e_lconst, e_iload, e_iload_n, e_lload, e_lload_n, e_aload, e_aload_n, e_istore, e_istore_n, e_iinc, e_iadd, e_isub, e_imul, e_lcmp, e_dupI, e_dupR, e_dup2, e_getfield, e_putfield, e_iaload, e_baload, e_laload, e_iastore, e_bastore, e_lastore, e_if, e_icmp, e_goto, e_tsw, e_ireturn0, e_ireturn1, e_return, e_call0, e_call1, e_call2, e_call3, lI_e, lL_e, lR_e, ak_nth, ak_set, ak_ok1, ak_jp, ak_b1, ak_b2, ak_sw, ak_la, ak_pad, true_and, and_true, List.map_cons, List.map_nil, List.sum_cons, List.sum_nil, Value.category, Option.toList_some, Option.toList_none, List.cons_append, List.nil_append, gC_0_0, gC_0_1, gC_0_2, gC_0_3, rC_0, gC_1_0, pC_1_0, gC_1_1, gC_1_2, gC_1_3, rC_1, gC_2_0, pC_2_0, gC_2_1, gC_2_2, gC_2_3, gC_2_4, gC_2_5, gC_2_6, gC_2_7, gC_2_8, rC_2, gC_3_0, pC_3_0, gC_3_1, gC_3_2, rC_3, gC_4_0, gC_4_1, gC_4_2, gC_4_3, gC_4_4, pC_4_4, rC_4, kC_5, kC_6, kC_7, kC_8, kC_9, kC_10, kC_11, kC_12, kC_13, kC_14, kC_15, kC_16, kC_17, kC_18, kC_19, fd_S_howMany_0, fd_S_howMany_4, fd_S_howMany_25, fd_S_howMany_31, bk_S_howMany_0, bk_S_howMany_4, bk_S_howMany_25, bk_S_howMany_31, hs, nI_1]
        rw [q_lt (by omega) (by omega), q_cl (by omega)]
        refine ⟨fun q => absurd q (by omega), fun _ => ⟨q_in (by omega) (by omega), fun q => ?_, fun q => ?_⟩⟩
        · have := ih (i + 1) (by omega)
          simpa [cn, q] using this
        · have := ih (i + 1) (by omega)
          simpa [cn, q] using this
    refine hJ 3 _ _ _ _ ?_
    simp only [Nat.reduceAdd, Nat.reduceLeDiff, Nat.zero_le, true_or, or_true, run_s, e_nop, e_iconst, e_bipush, e_sipush, e_lconst, e_iload, e_iload_n, e_lload, e_lload_n, e_aload, e_aload_n, e_istore, e_istore_n, e_iinc, e_iadd, e_isub, e_imul, e_lcmp, e_dupI, e_dupR, e_dup2, e_getfield, e_putfield, e_iaload, e_baload, e_laload, e_iastore, e_bastore, e_lastore, e_if, e_icmp, e_goto, e_tsw, e_ireturn0, e_ireturn1, e_return, e_call0, e_call1, e_call2, e_call3, lI_e, lL_e, lR_e, ak_nth, ak_set, ak_ok1, ak_jp, ak_b1, ak_b2, ak_sw, ak_la, ak_pad, true_and, and_true, List.map_cons, List.map_nil, List.sum_cons, List.sum_nil, Value.category, Option.toList_some, Option.toList_none, List.cons_append, List.nil_append, gC_0_0, gC_0_1, gC_0_2, gC_0_3, rC_0, gC_1_0, pC_1_0, gC_1_1, gC_1_2, gC_1_3, rC_1, gC_2_0, pC_2_0, gC_2_1, gC_2_2, gC_2_3, gC_2_4, gC_2_5, gC_2_6, gC_2_7, gC_2_8, rC_2, gC_3_0, pC_3_0, gC_3_1, gC_3_2, rC_3, gC_4_0, gC_4_1, gC_4_2, gC_4_3, gC_4_4, pC_4_4, rC_4, kC_5, kC_6, kC_7, kC_8, kC_9, kC_10, kC_11, kC_12, kC_13, kC_14, kC_15, kC_16, kC_17, kC_18, kC_19, fd_S_howMany_0, fd_S_howMany_4, fd_S_howMany_25, fd_S_howMany_31, bk_S_howMany_0, bk_S_howMany_4, bk_S_howMany_25, bk_S_howMany_31]
    exact loop n 0 (by omega)
  · exact h.elim
set_option maxRecDepth 20000 in
theorem ct_S_howMany (l : Launch) : ak_Ctr l cl_all lay_C y_S_howMany ws_S_howMany rm_S_howMany pt_S_howMany := by
  refine ak_met (cs := cs_S_howMany) (reg := rg_S_howMany) (bl := bl_S_howMany) (by decide +kernel) rfl (cl_ok _) rfl ok_S_howMany ?_ vc_S_howMany
  intro a n b ci h
  match a, h with
  | k + 0, h => cases h
def pt_S_relations : ak_P := fun vs s Q => match vs with
  | [.ref 2] => ∃ n : Nat, n ≤ 250 ∧ s.1 2 0 = nI n ∧ Q (some (.int (nI (cn (fun j => decide (¬ s.1 12 j = 0)) n)))) s
  | _ => False
def cs_S_relations : Nat → ak_P := fun _ _ _ _ => False
theorem vc_S_relations : ak_VC lay_C cs_S_relations bl_S_relations 3 pt_S_relations := by
  intro vs s Q h
  unfold pt_S_relations at h
  split at h
  · obtain ⟨n, hn, hs, h⟩ := h
    refine ⟨Nat.le_of_ble_eq_true rfl, fun J hJ => ?_⟩
    have loop : ∀ d i, i + d = n → J 4 [some (.ref 2), some (.int (nI (cn (fun j => decide (¬ s.1 12 j = 0)) i))), some (.int (nI (i + 1)))] [] s := by
      intro d
      induction d with
      | zero =>
        intro i hi
        refine hJ 3 _ _ _ _ ?_
        simp only [Nat.reduceAdd, Nat.reduceLeDiff, Nat.zero_le, true_or, or_true, run_s, e_nop, e_iconst, e_bipush, e_sipush, e_lconst, e_iload, e_iload_n, e_lload, e_lload_n, e_aload, e_aload_n, e_istore, e_istore_n, e_iinc, e_iadd, e_isub, e_imul, e_lcmp, e_dupI, e_dupR, e_dup2, e_getfield, e_putfield, e_iaload, e_baload, e_laload, e_iastore, e_bastore, e_lastore, e_if, e_icmp, e_goto, e_tsw, e_ireturn0, e_ireturn1, e_return, e_call0, e_call1, e_call2, e_call3, lI_e, lL_e, lR_e, ak_nth, ak_set, ak_ok1, ak_jp, ak_b1, ak_b2, ak_sw, ak_la, ak_pad, true_and, and_true, List.map_cons, List.map_nil, List.sum_cons, List.sum_nil, Value.category, Option.toList_some, Option.toList_none, List.cons_append, List.nil_append, gC_0_0, gC_0_1, gC_0_2, gC_0_3, rC_0, gC_1_0, pC_1_0, gC_1_1, gC_1_2, gC_1_3, rC_1, gC_2_0, pC_2_0, gC_2_1, gC_2_2, gC_2_3, gC_2_4, gC_2_5, gC_2_6, gC_2_7, gC_2_8, rC_2, gC_3_0, pC_3_0, gC_3_1, gC_3_2, rC_3, gC_4_0, gC_4_1, gC_4_2, gC_4_3, gC_4_4, pC_4_4, rC_4, kC_5, kC_6, kC_7, kC_8, kC_9, kC_10, kC_11, kC_12, kC_13, kC_14, kC_15, kC_16, kC_17, kC_18, kC_19, fd_S_relations_0, fd_S_relations_4, fd_S_relations_24, fd_S_relations_30, bk_S_relations_0, bk_S_relations_4, bk_S_relations_24, bk_S_relations_30, hs]
        rw [q_lt (by omega) (by omega)]
        refine ⟨fun _ => ?_, fun q => absurd (by omega) q⟩
        have e : i = n := by omega
        rw [e]
        exact h
      | succ d ih =>
        intro i hi
        refine hJ 3 _ _ _ _ ?_
        simp only [Nat.reduceAdd, Nat.reduceLeDiff, Nat.zero_le, true_or, or_true, run_s, e_nop, e_iconst, e_bipush, e_sipush, e_lconst, e_iload, e_iload_n, e_lload, e_lload_n, e_aload, e_aload_n, e_istore, e_istore_n, e_iinc, e_iadd, e_isub, e_imul, e_lcmp, e_dupI, e_dupR, e_dup2, e_getfield, e_putfield, e_iaload, e_baload, e_laload, e_iastore, e_bastore, e_lastore, e_if, e_icmp, e_goto, e_tsw, e_ireturn0, e_ireturn1, e_return, e_call0, e_call1, e_call2, e_call3, lI_e, lL_e, lR_e, ak_nth, ak_set, ak_ok1, ak_jp, ak_b1, ak_b2, ak_sw, ak_la, ak_pad, true_and, and_true, List.map_cons, List.map_nil, List.sum_cons, List.sum_nil, Value.category, Option.toList_some, Option.toList_none, List.cons_append, List.nil_append, gC_0_0, gC_0_1, gC_0_2, gC_0_3, rC_0, gC_1_0, pC_1_0, gC_1_1, gC_1_2, gC_1_3, rC_1, gC_2_0, pC_2_0, gC_2_1, gC_2_2, gC_2_3, gC_2_4, gC_2_5, gC_2_6, gC_2_7, gC_2_8, rC_2, gC_3_0, pC_3_0, gC_3_1, gC_3_2, rC_3, gC_4_0, gC_4_1, gC_4_2, gC_4_3, gC_4_4, pC_4_4, rC_4, kC_5, kC_6, kC_7, kC_8, kC_9, kC_10, kC_11, kC_12, kC_13, kC_14, kC_15, kC_16, kC_17, kC_18, kC_19, fd_S_relations_0, fd_S_relations_4, fd_S_relations_24, fd_S_relations_30, bk_S_relations_0, bk_S_relations_4, bk_S_relations_24, bk_S_relations_30, hs, nI_1]
        rw [q_lt (by omega) (by omega), q_cl (by omega)]
        refine ⟨fun q => absurd q (by omega), fun _ => ⟨q_in (by omega) (by omega), fun q => ?_, fun q => ?_⟩⟩
        · have := ih (i + 1) (by omega)
          simpa [cn, q] using this
        · have := ih (i + 1) (by omega)
          simpa [cn, q] using this
    refine hJ 3 _ _ _ _ ?_
    simp only [Nat.reduceAdd, Nat.reduceLeDiff, Nat.zero_le, true_or, or_true, run_s, e_nop, e_iconst, e_bipush, e_sipush, e_lconst, e_iload, e_iload_n, e_lload, e_lload_n, e_aload, e_aload_n, e_istore, e_istore_n, e_iinc, e_iadd, e_isub, e_imul, e_lcmp, e_dupI, e_dupR, e_dup2, e_getfield, e_putfield, e_iaload, e_baload, e_laload, e_iastore, e_bastore, e_lastore, e_if, e_icmp, e_goto, e_tsw, e_ireturn0, e_ireturn1, e_return, e_call0, e_call1, e_call2, e_call3, lI_e, lL_e, lR_e, ak_nth, ak_set, ak_ok1, ak_jp, ak_b1, ak_b2, ak_sw, ak_la, ak_pad, true_and, and_true, List.map_cons, List.map_nil, List.sum_cons, List.sum_nil, Value.category, Option.toList_some, Option.toList_none, List.cons_append, List.nil_append, gC_0_0, gC_0_1, gC_0_2, gC_0_3, rC_0, gC_1_0, pC_1_0, gC_1_1, gC_1_2, gC_1_3, rC_1, gC_2_0, pC_2_0, gC_2_1, gC_2_2, gC_2_3, gC_2_4, gC_2_5, gC_2_6, gC_2_7, gC_2_8, rC_2, gC_3_0, pC_3_0, gC_3_1, gC_3_2, rC_3, gC_4_0, gC_4_1, gC_4_2, gC_4_3, gC_4_4, pC_4_4, rC_4, kC_5, kC_6, kC_7, kC_8, kC_9, kC_10, kC_11, kC_12, kC_13, kC_14, kC_15, kC_16, kC_17, kC_18, kC_19, fd_S_relations_0, fd_S_relations_4, fd_S_relations_24, fd_S_relations_30, bk_S_relations_0, bk_S_relations_4, bk_S_relations_24, bk_S_relations_30]
    exact loop n 0 (by omega)
  · exact h.elim
set_option maxRecDepth 20000 in
theorem ct_S_relations (l : Launch) : ak_Ctr l cl_all lay_C y_S_relations ws_S_relations rm_S_relations pt_S_relations := by
  refine ak_met (cs := cs_S_relations) (reg := rg_S_relations) (bl := bl_S_relations) (by decide +kernel) rfl (cl_ok _) rfl ok_S_relations ?_ vc_S_relations
  intro a n b ci h
  match a, h with
  | k + 0, h => cases h
def pt_S_wereOf : ak_P := fun vs s Q => match vs with
  | [.ref 2, .int k] => ∃ n : Nat, n ≤ 250 ∧ s.1 2 0 = nI n ∧ ((∃ i, 1 ≤ i ∧ i ≤ n ∧ s.1 8 i = k) → Q (some (.int 1)) s) ∧ ((∀ i, 1 ≤ i → i ≤ n → ¬ s.1 8 i = k) → Q (some (.int 0)) s)
  | _ => False
def cs_S_wereOf : Nat → ak_P := fun _ _ _ _ => False
theorem vc_S_wereOf : ak_VC lay_C cs_S_wereOf bl_S_wereOf 3 pt_S_wereOf := by
  intro vs s Q h
  unfold pt_S_wereOf at h
  split at h
  · rename_i k
    obtain ⟨n, hn, hs, hy, hno⟩ := h
    refine ⟨Nat.le_of_ble_eq_true rfl, fun J hJ => ?_⟩
    have loop : ∀ d i, i + d = n → (∀ j, 1 ≤ j → j ≤ i → ¬ s.1 8 j = k) → J 2 [some (.ref 2), some (.int k), some (.int (nI (i + 1)))] [] s := by
      intro d
      induction d with
      | zero =>
        intro i hi hq
        refine hJ 3 _ _ _ _ ?_
        simp only [Nat.reduceAdd, Nat.reduceLeDiff, Nat.zero_le, true_or, or_true, run_s, e_nop, e_iconst, e_bipush, e_sipush, e_lconst, e_iload, e_iload_n, e_lload, e_lload_n, e_aload, e_aload_n, e_istore, e_istore_n, e_iinc, e_iadd, e_isub, e_imul, e_lcmp, e_dupI, e_dupR, e_dup2, e_getfield, e_putfield, e_iaload, e_baload, e_laload, e_iastore, e_bastore, e_lastore, e_if, e_icmp, e_goto, e_tsw, e_ireturn0, e_ireturn1, e_return, e_call0, e_call1, e_call2, e_call3, lI_e, lL_e, lR_e, ak_nth, ak_set, ak_ok1, ak_jp, ak_b1, ak_b2, ak_sw, ak_la, ak_pad, true_and, and_true, List.map_cons, List.map_nil, List.sum_cons, List.sum_nil, Value.category, Option.toList_some, Option.toList_none, List.cons_append, List.nil_append, gC_0_0, gC_0_1, gC_0_2, gC_0_3, rC_0, gC_1_0, pC_1_0, gC_1_1, gC_1_2, gC_1_3, rC_1, gC_2_0, pC_2_0, gC_2_1, gC_2_2, gC_2_3, gC_2_4, gC_2_5, gC_2_6, gC_2_7, gC_2_8, rC_2, gC_3_0, pC_3_0, gC_3_1, gC_3_2, rC_3, gC_4_0, gC_4_1, gC_4_2, gC_4_3, gC_4_4, pC_4_4, rC_4, kC_5, kC_6, kC_7, kC_8, kC_9, kC_10, kC_11, kC_12, kC_13, kC_14, kC_15, kC_16, kC_17, kC_18, kC_19, fd_S_wereOf_0, fd_S_wereOf_2, fd_S_wereOf_22, fd_S_wereOf_28, bk_S_wereOf_0, bk_S_wereOf_2, bk_S_wereOf_22, bk_S_wereOf_28, hs]
        rw [q_lt (by omega) (by omega)]
        refine ⟨fun _ => hno ?_, fun q => absurd (by omega) q⟩
        intro j h1 h2
        exact hq j h1 (by omega)
      | succ d ih =>
        intro i hi hq
        refine hJ 3 _ _ _ _ ?_
        simp only [Nat.reduceAdd, Nat.reduceLeDiff, Nat.zero_le, true_or, or_true, run_s, e_nop, e_iconst, e_bipush, e_sipush, e_lconst, e_iload, e_iload_n, e_lload, e_lload_n, e_aload, e_aload_n, e_istore, e_istore_n, e_iinc, e_iadd, e_isub, e_imul, e_lcmp, e_dupI, e_dupR, e_dup2, e_getfield, e_putfield, e_iaload, e_baload, e_laload, e_iastore, e_bastore, e_lastore, e_if, e_icmp, e_goto, e_tsw, e_ireturn0, e_ireturn1, e_return, e_call0, e_call1, e_call2, e_call3, lI_e, lL_e, lR_e, ak_nth, ak_set, ak_ok1, ak_jp, ak_b1, ak_b2, ak_sw, ak_la, ak_pad, true_and, and_true, List.map_cons, List.map_nil, List.sum_cons, List.sum_nil, Value.category, Option.toList_some, Option.toList_none, List.cons_append, List.nil_append, gC_0_0, gC_0_1, gC_0_2, gC_0_3, rC_0, gC_1_0, pC_1_0, gC_1_1, gC_1_2, gC_1_3, rC_1, gC_2_0, pC_2_0, gC_2_1, gC_2_2, gC_2_3, gC_2_4, gC_2_5, gC_2_6, gC_2_7, gC_2_8, rC_2, gC_3_0, pC_3_0, gC_3_1, gC_3_2, rC_3, gC_4_0, gC_4_1, gC_4_2, gC_4_3, gC_4_4, pC_4_4, rC_4, kC_5, kC_6, kC_7, kC_8, kC_9, kC_10, kC_11, kC_12, kC_13, kC_14, kC_15, kC_16, kC_17, kC_18, kC_19, fd_S_wereOf_0, fd_S_wereOf_2, fd_S_wereOf_22, fd_S_wereOf_28, bk_S_wereOf_0, bk_S_wereOf_2, bk_S_wereOf_22, bk_S_wereOf_28, hs, nI_1]
        rw [q_lt (by omega) (by omega), q_cl (by omega)]
        refine ⟨fun q => absurd q (by omega), fun _ => ⟨q_in (by omega) (by omega), fun q => ?_, fun q => hy ⟨i + 1, by omega, by omega, q⟩⟩⟩
        refine ih (i + 1) (by omega) (fun j h1 h2 => ?_)
        by_cases e : j = i + 1
        · rw [e]; exact q
        · exact hq j h1 (by omega)
    refine hJ 3 _ _ _ _ ?_
    simp only [Nat.reduceAdd, Nat.reduceLeDiff, Nat.zero_le, true_or, or_true, run_s, e_nop, e_iconst, e_bipush, e_sipush, e_lconst, e_iload, e_iload_n, e_lload, e_lload_n, e_aload, e_aload_n, e_istore, e_istore_n, e_iinc, e_iadd, e_isub, e_imul, e_lcmp, e_dupI, e_dupR, e_dup2, e_getfield, e_putfield, e_iaload, e_baload, e_laload, e_iastore, e_bastore, e_lastore, e_if, e_icmp, e_goto, e_tsw, e_ireturn0, e_ireturn1, e_return, e_call0, e_call1, e_call2, e_call3, lI_e, lL_e, lR_e, ak_nth, ak_set, ak_ok1, ak_jp, ak_b1, ak_b2, ak_sw, ak_la, ak_pad, true_and, and_true, List.map_cons, List.map_nil, List.sum_cons, List.sum_nil, Value.category, Option.toList_some, Option.toList_none, List.cons_append, List.nil_append, gC_0_0, gC_0_1, gC_0_2, gC_0_3, rC_0, gC_1_0, pC_1_0, gC_1_1, gC_1_2, gC_1_3, rC_1, gC_2_0, pC_2_0, gC_2_1, gC_2_2, gC_2_3, gC_2_4, gC_2_5, gC_2_6, gC_2_7, gC_2_8, rC_2, gC_3_0, pC_3_0, gC_3_1, gC_3_2, rC_3, gC_4_0, gC_4_1, gC_4_2, gC_4_3, gC_4_4, pC_4_4, rC_4, kC_5, kC_6, kC_7, kC_8, kC_9, kC_10, kC_11, kC_12, kC_13, kC_14, kC_15, kC_16, kC_17, kC_18, kC_19, fd_S_wereOf_0, fd_S_wereOf_2, fd_S_wereOf_22, fd_S_wereOf_28, bk_S_wereOf_0, bk_S_wereOf_2, bk_S_wereOf_22, bk_S_wereOf_28]
    exact loop n 0 (by omega) (fun j h1 h2 => absurd h2 (by omega))
  · exact h.elim
set_option maxRecDepth 20000 in
theorem ct_S_wereOf (l : Launch) : ak_Ctr l cl_all lay_C y_S_wereOf ws_S_wereOf rm_S_wereOf pt_S_wereOf := by
  refine ak_met (cs := cs_S_wereOf) (reg := rg_S_wereOf) (bl := bl_S_wereOf) (by decide +kernel) rfl (cl_ok _) rfl ok_S_wereOf ?_ vc_S_wereOf
  intro a n b ci h
  match a, h with
  | k + 0, h => cases h
def pt_S_hasKey : ak_P := fun vs s Q => match vs with
  | [.ref 2, .int k, .int u, .long y] => ∃ n : Nat, n ≤ 250 ∧ s.1 2 0 = nI n ∧ ((∃ i, 1 ≤ i ∧ i ≤ n ∧ s.2 10 i = y ∧ s.1 11 i = 1 ∧ s.1 8 i = k ∧ s.1 9 i = u) → Q (some (.int 1)) s) ∧ ((∀ i, 1 ≤ i → i ≤ n → ¬ (s.2 10 i = y ∧ s.1 11 i = 1 ∧ s.1 8 i = k ∧ s.1 9 i = u)) → Q (some (.int 0)) s)
  | _ => False
def cs_S_hasKey : Nat → ak_P := fun a => match a with
  | _ => pt_S_isOneUnder
theorem vc_S_hasKey : ak_VC lay_C cs_S_hasKey bl_S_hasKey 6 pt_S_hasKey := by
  intro vs s Q h
  unfold pt_S_hasKey at h
  split at h
  · rename_i k u y
    obtain ⟨n, hn, hs, hy, hno⟩ := h
    refine ⟨Nat.le_of_ble_eq_true rfl, fun J hJ => ?_⟩
    have loop : ∀ d i, i + d = n → (∀ j, 1 ≤ j → j ≤ i → ¬ (s.2 10 j = y ∧ s.1 11 j = 1 ∧ s.1 8 j = k ∧ s.1 9 j = u)) → J 3 [some (.ref 2), some (.int k), some (.int u), some (.long y), none, some (.int (nI (i + 1)))] [] s := by
      intro d
      induction d with
      | zero =>
        intro i hi hq
        refine hJ 3 _ _ _ _ ?_
        simp only [Nat.reduceAdd, Nat.reduceLeDiff, Nat.zero_le, true_or, or_true, run_s, e_nop, e_iconst, e_bipush, e_sipush, e_lconst, e_iload, e_iload_n, e_lload, e_lload_n, e_aload, e_aload_n, e_istore, e_istore_n, e_iinc, e_iadd, e_isub, e_imul, e_lcmp, e_dupI, e_dupR, e_dup2, e_getfield, e_putfield, e_iaload, e_baload, e_laload, e_iastore, e_bastore, e_lastore, e_if, e_icmp, e_goto, e_tsw, e_ireturn0, e_ireturn1, e_return, e_call0, e_call1, e_call2, e_call3, lI_e, lL_e, lR_e, ak_nth, ak_set, ak_ok1, ak_jp, ak_b1, ak_b2, ak_sw, ak_la, ak_pad, true_and, and_true, List.map_cons, List.map_nil, List.sum_cons, List.sum_nil, Value.category, Option.toList_some, Option.toList_none, List.cons_append, List.nil_append, gC_0_0, gC_0_1, gC_0_2, gC_0_3, rC_0, gC_1_0, pC_1_0, gC_1_1, gC_1_2, gC_1_3, rC_1, gC_2_0, pC_2_0, gC_2_1, gC_2_2, gC_2_3, gC_2_4, gC_2_5, gC_2_6, gC_2_7, gC_2_8, rC_2, gC_3_0, pC_3_0, gC_3_1, gC_3_2, rC_3, gC_4_0, gC_4_1, gC_4_2, gC_4_3, gC_4_4, pC_4_4, rC_4, kC_5, kC_6, kC_7, kC_8, kC_9, kC_10, kC_11, kC_12, kC_13, kC_14, kC_15, kC_16, kC_17, kC_18, kC_19, fd_S_hasKey_0, fd_S_hasKey_3, fd_S_hasKey_37, fd_S_hasKey_43, bk_S_hasKey_0, bk_S_hasKey_3, bk_S_hasKey_37, bk_S_hasKey_43, cs_S_hasKey, hs, pt_S_isOneUnder]
        rw [q_lt (by omega) (by omega)]
        refine ⟨fun _ => hno ?_, fun q => absurd (by omega) q⟩
        intro j h1 h2
        exact hq j h1 (by omega)
      | succ d ih =>
        intro i hi hq
        refine hJ 3 _ _ _ _ ?_
        simp only [Nat.reduceAdd, Nat.reduceLeDiff, Nat.zero_le, true_or, or_true, run_s, e_nop, e_iconst, e_bipush, e_sipush, e_lconst, e_iload, e_iload_n, e_lload, e_lload_n, e_aload, e_aload_n, e_istore, e_istore_n, e_iinc, e_iadd, e_isub, e_imul, e_lcmp, e_dupI, e_dupR, e_dup2, e_getfield, e_putfield, e_iaload, e_baload, e_laload, e_iastore, e_bastore, e_lastore, e_if, e_icmp, e_goto, e_tsw, e_ireturn0, e_ireturn1, e_return, e_call0, e_call1, e_call2, e_call3, lI_e, lL_e, lR_e, ak_nth, ak_set, ak_ok1, ak_jp, ak_b1, ak_b2, ak_sw, ak_la, ak_pad, true_and, and_true, List.map_cons, List.map_nil, List.sum_cons, List.sum_nil, Value.category, Option.toList_some, Option.toList_none, List.cons_append, List.nil_append, gC_0_0, gC_0_1, gC_0_2, gC_0_3, rC_0, gC_1_0, pC_1_0, gC_1_1, gC_1_2, gC_1_3, rC_1, gC_2_0, pC_2_0, gC_2_1, gC_2_2, gC_2_3, gC_2_4, gC_2_5, gC_2_6, gC_2_7, gC_2_8, rC_2, gC_3_0, pC_3_0, gC_3_1, gC_3_2, rC_3, gC_4_0, gC_4_1, gC_4_2, gC_4_3, gC_4_4, pC_4_4, rC_4, kC_5, kC_6, kC_7, kC_8, kC_9, kC_10, kC_11, kC_12, kC_13, kC_14, kC_15, kC_16, kC_17, kC_18, kC_19, fd_S_hasKey_0, fd_S_hasKey_3, fd_S_hasKey_37, fd_S_hasKey_43, bk_S_hasKey_0, bk_S_hasKey_3, bk_S_hasKey_37, bk_S_hasKey_43, cs_S_hasKey, hs, nI_1, pt_S_isOneUnder]
        rw [q_lt (by omega) (by omega), q_cl (by omega)]
        refine ⟨fun q => absurd q (by omega), fun _ => ⟨q_in (by omega) (by omega), fun q => ?_, fun q => ⟨q_in (by omega) (by omega), fun q2 => ?_, fun q2 => ?_⟩⟩⟩
        · rw [lg_cmp_eq] at q
          refine ih (i + 1) (by omega) (fun j h1 h2 => ?_)
          by_cases e : j = i + 1
          · rw [e]; exact fun z => q z.1
          · exact hq j h1 (by omega)
        · refine ih (i + 1) (by omega) (fun j h1 h2 => ?_)
          by_cases e : j = i + 1
          · rw [e]
            intro z
            rw [if_pos z.2] at q2
            exact absurd q2 (by decide)
          · exact hq j h1 (by omega)
        · rw [lg_cmp_eq] at q
          refine hy ⟨i + 1, by omega, by omega, q, ?_⟩
          by_cases e : s.1 11 (i + 1) = 1 ∧ s.1 8 (i + 1) = k ∧ s.1 9 (i + 1) = u
          · exact e
          · rw [if_neg e] at q2
            exact absurd rfl q2
    refine hJ 3 _ _ _ _ ?_
    simp only [Nat.reduceAdd, Nat.reduceLeDiff, Nat.zero_le, true_or, or_true, run_s, e_nop, e_iconst, e_bipush, e_sipush, e_lconst, e_iload, e_iload_n, e_lload, e_lload_n, e_aload, e_aload_n, e_istore, e_istore_n, e_iinc, e_iadd, e_isub, e_imul, e_lcmp, e_dupI, e_dupR, e_dup2, e_getfield, e_putfield, e_iaload, e_baload, e_laload, e_iastore, e_bastore, e_lastore, e_if, e_icmp, e_goto, e_tsw, e_ireturn0, e_ireturn1, e_return, e_call0, e_call1, e_call2, e_call3, lI_e, lL_e, lR_e, ak_nth, ak_set, ak_ok1, ak_jp, ak_b1, ak_b2, ak_sw, ak_la, ak_pad, true_and, and_true, List.map_cons, List.map_nil, List.sum_cons, List.sum_nil, Value.category, Option.toList_some, Option.toList_none, List.cons_append, List.nil_append, gC_0_0, gC_0_1, gC_0_2, gC_0_3, rC_0, gC_1_0, pC_1_0, gC_1_1, gC_1_2, gC_1_3, rC_1, gC_2_0, pC_2_0, gC_2_1, gC_2_2, gC_2_3, gC_2_4, gC_2_5, gC_2_6, gC_2_7, gC_2_8, rC_2, gC_3_0, pC_3_0, gC_3_1, gC_3_2, rC_3, gC_4_0, gC_4_1, gC_4_2, gC_4_3, gC_4_4, pC_4_4, rC_4, kC_5, kC_6, kC_7, kC_8, kC_9, kC_10, kC_11, kC_12, kC_13, kC_14, kC_15, kC_16, kC_17, kC_18, kC_19, fd_S_hasKey_0, fd_S_hasKey_3, fd_S_hasKey_37, fd_S_hasKey_43, bk_S_hasKey_0, bk_S_hasKey_3, bk_S_hasKey_37, bk_S_hasKey_43, cs_S_hasKey]
    exact loop n 0 (by omega) (fun j h1 h2 => absurd h2 (by omega))
  · exact h.elim
set_option maxRecDepth 20000 in
theorem ct_S_hasKey (l : Launch) : ak_Ctr l cl_all lay_C y_S_hasKey ws_S_hasKey rm_S_hasKey pt_S_hasKey := by
  refine ak_met (cs := cs_S_hasKey) (reg := rg_S_hasKey) (bl := bl_S_hasKey) (by decide +kernel) rfl (cl_ok _) rfl ok_S_hasKey ?_ vc_S_hasKey
  intro a n b ci h
  match a, h with
  | 0, h =>
    cases h
    exact ak_ccV (ct_S_isOneUnder l) rfl 196 197 198 22 199 (by decide +kernel) ⟨rfl, rfl⟩ (by decide +kernel) (by decide +kernel)
  | k + 1, h => cases h
end
section
/-! setting a segment's pointers right; the rest of Segments but for the order -/
def c_tr (s : ak_S) (i p : Nat) : Int32 := if p = 0 then s.1 9 i else if p = 1 then s.1 12 i else s.1 13 i
def c_right (s : ak_S) (i : Nat) : ak_S := ak_p1 (ak_p1 (ak_p1 s 14 (3 * i) (s.1 9 i)) 14 (3 * i + 1) (s.1 12 i)) 14 (3 * i + 2) (s.1 13 i)
theorem c_tr_e (s : ak_S) (i : Nat) {p : Nat} (hp : p < 2147483648) : (if nI p = 0 then s.1 9 i else if nI p = 1 then s.1 12 i else s.1 13 i) = c_tr s i p := by
  have e0 : nI p = 0 ↔ p = 0 := by rw [n_0]; exact nI_eq hp (by omega)
  have e1 : nI p = 1 ↔ p = 1 := by rw [n_1]; exact nI_eq hp (by omega)
  simp only [e0, e1, c_tr]
def pt_S_setRight : ak_P := fun vs s Q => match vs with
  | [.ref 2, .int x] => ∃ i : Nat, i ≤ 250 ∧ x = nI i ∧ Q none (c_right s i)
  | _ => False
def cs_S_setRight : Nat → ak_P := fun a => match a with
  | _ => pt_S_truth
theorem vc_S_setRight : ak_VC lay_C cs_S_setRight bl_S_setRight 3 pt_S_setRight := by
  intro vs s Q h
  unfold pt_S_setRight at h
  split at h
  · rename_i x
    obtain ⟨i, hi, rfl, h⟩ := h
    refine ⟨Nat.le_of_ble_eq_true rfl, fun J hJ => ?_⟩
    have step : ∀ (p : Nat) (s : ak_S), p < 3 → J 2 [some (.ref 2), some (.int (nI i)), some (.int (nI (p + 1)))] [] (ak_p1 s 14 (3 * i + p) (c_tr s i p)) → J 2 [some (.ref 2), some (.int (nI i)), some (.int (nI p))] [] s := by
      intro p s hp hj
      refine hJ 2 _ _ _ _ ?_
      simp only [Nat.reduceAdd, Nat.reduceLeDiff, Nat.zero_le, true_or, or_true, run_s, e_nop, e_iconst, e_bipush, e_sipush, e_lconst, e_iload, e_iload_n, e_lload, e_lload_n, e_aload, e_aload_n, e_istore, e_istore_n, e_iinc, e_iadd, e_isub, e_imul, e_lcmp, e_dupI, e_dupR, e_dup2, e_getfield, e_putfield, e_iaload, e_baload, e_laload, e_iastore, e_bastore, e_lastore, e_if, e_icmp, e_goto, e_tsw, e_ireturn0, e_ireturn1, e_return, e_call0, e_call1, e_call2, e_call3, lI_e, lL_e, lR_e, ak_nth, ak_set, ak_ok1, ak_jp, ak_b1, ak_b2, ak_sw, ak_la, ak_pad, true_and, and_true, List.map_cons, List.map_nil, List.sum_cons, List.sum_nil, Value.category, Option.toList_some, Option.toList_none, List.cons_append, List.nil_append, gC_0_0, gC_0_1, gC_0_2, gC_0_3, rC_0, gC_1_0, pC_1_0, gC_1_1, gC_1_2, gC_1_3, rC_1, gC_2_0, pC_2_0, gC_2_1, gC_2_2, gC_2_3, gC_2_4, gC_2_5, gC_2_6, gC_2_7, gC_2_8, rC_2, gC_3_0, pC_3_0, gC_3_1, gC_3_2, rC_3, gC_4_0, gC_4_1, gC_4_2, gC_4_3, gC_4_4, pC_4_4, rC_4, kC_5, kC_6, kC_7, kC_8, kC_9, kC_10, kC_11, kC_12, kC_13, kC_14, kC_15, kC_16, kC_17, kC_18, kC_19, fd_S_setRight_0, fd_S_setRight_2, fd_S_setRight_29, bk_S_setRight_0, bk_S_setRight_2, bk_S_setRight_29, cs_S_setRight, pt_S_truth, nI_1]
      rw [n_3, q_le (by omega) (by omega), pk_mul, nI_add, q_cl (by omega), q_cl (by omega), c_tr_e s i (by omega), show i * 3 + p = 3 * i + p by omega]
      exact ⟨fun q => absurd q (by omega), fun _ => ⟨q_in (by omega) (by omega), q_in (by omega) (by omega), hj⟩⟩
    refine hJ 2 _ _ _ _ ?_
    simp only [Nat.reduceAdd, Nat.reduceLeDiff, Nat.zero_le, true_or, or_true, run_s, e_nop, e_iconst, e_bipush, e_sipush, e_lconst, e_iload, e_iload_n, e_lload, e_lload_n, e_aload, e_aload_n, e_istore, e_istore_n, e_iinc, e_iadd, e_isub, e_imul, e_lcmp, e_dupI, e_dupR, e_dup2, e_getfield, e_putfield, e_iaload, e_baload, e_laload, e_iastore, e_bastore, e_lastore, e_if, e_icmp, e_goto, e_tsw, e_ireturn0, e_ireturn1, e_return, e_call0, e_call1, e_call2, e_call3, lI_e, lL_e, lR_e, ak_nth, ak_set, ak_ok1, ak_jp, ak_b1, ak_b2, ak_sw, ak_la, ak_pad, true_and, and_true, List.map_cons, List.map_nil, List.sum_cons, List.sum_nil, Value.category, Option.toList_some, Option.toList_none, List.cons_append, List.nil_append, gC_0_0, gC_0_1, gC_0_2, gC_0_3, rC_0, gC_1_0, pC_1_0, gC_1_1, gC_1_2, gC_1_3, rC_1, gC_2_0, pC_2_0, gC_2_1, gC_2_2, gC_2_3, gC_2_4, gC_2_5, gC_2_6, gC_2_7, gC_2_8, rC_2, gC_3_0, pC_3_0, gC_3_1, gC_3_2, rC_3, gC_4_0, gC_4_1, gC_4_2, gC_4_3, gC_4_4, pC_4_4, rC_4, kC_5, kC_6, kC_7, kC_8, kC_9, kC_10, kC_11, kC_12, kC_13, kC_14, kC_15, kC_16, kC_17, kC_18, kC_19, fd_S_setRight_0, fd_S_setRight_2, fd_S_setRight_29, bk_S_setRight_0, bk_S_setRight_2, bk_S_setRight_29, cs_S_setRight, pt_S_truth]
    refine step 0 s (by omega) (step 1 _ (by omega) (step 2 _ (by omega) ?_))
    refine hJ 2 _ _ _ _ ?_
    simp only [Nat.reduceAdd, Nat.reduceLeDiff, Nat.zero_le, true_or, or_true, run_s, e_nop, e_iconst, e_bipush, e_sipush, e_lconst, e_iload, e_iload_n, e_lload, e_lload_n, e_aload, e_aload_n, e_istore, e_istore_n, e_iinc, e_iadd, e_isub, e_imul, e_lcmp, e_dupI, e_dupR, e_dup2, e_getfield, e_putfield, e_iaload, e_baload, e_laload, e_iastore, e_bastore, e_lastore, e_if, e_icmp, e_goto, e_tsw, e_ireturn0, e_ireturn1, e_return, e_call0, e_call1, e_call2, e_call3, lI_e, lL_e, lR_e, ak_nth, ak_set, ak_ok1, ak_jp, ak_b1, ak_b2, ak_sw, ak_la, ak_pad, true_and, and_true, List.map_cons, List.map_nil, List.sum_cons, List.sum_nil, Value.category, Option.toList_some, Option.toList_none, List.cons_append, List.nil_append, gC_0_0, gC_0_1, gC_0_2, gC_0_3, rC_0, gC_1_0, pC_1_0, gC_1_1, gC_1_2, gC_1_3, rC_1, gC_2_0, pC_2_0, gC_2_1, gC_2_2, gC_2_3, gC_2_4, gC_2_5, gC_2_6, gC_2_7, gC_2_8, rC_2, gC_3_0, pC_3_0, gC_3_1, gC_3_2, rC_3, gC_4_0, gC_4_1, gC_4_2, gC_4_3, gC_4_4, pC_4_4, rC_4, kC_5, kC_6, kC_7, kC_8, kC_9, kC_10, kC_11, kC_12, kC_13, kC_14, kC_15, kC_16, kC_17, kC_18, kC_19, fd_S_setRight_0, fd_S_setRight_2, fd_S_setRight_29, bk_S_setRight_0, bk_S_setRight_2, bk_S_setRight_29, cs_S_setRight, pt_S_truth]
    refine ⟨fun _ => ?_, fun q => absurd (by decide) q⟩
    have e : ak_p1 (ak_p1 (ak_p1 s 14 (3 * i + 0) (c_tr s i 0)) 14 (3 * i + 1) (c_tr (ak_p1 s 14 (3 * i + 0) (c_tr s i 0)) i 1)) 14 (3 * i + 2) (c_tr (ak_p1 (ak_p1 s 14 (3 * i + 0) (c_tr s i 0)) 14 (3 * i + 1) (c_tr (ak_p1 s 14 (3 * i + 0) (c_tr s i 0)) i 1)) i 2) = c_right s i := by
      simp [c_right, c_tr, p1_o]
    rw [e]
    exact h
  · exact h.elim
set_option maxRecDepth 20000 in
theorem ct_S_setRight (l : Launch) : ak_Ctr l cl_all lay_C y_S_setRight ws_S_setRight rm_S_setRight pt_S_setRight := by
  refine ak_met (cs := cs_S_setRight) (reg := rg_S_setRight) (bl := bl_S_setRight) (by decide +kernel) rfl (cl_ok _) rfl ok_S_setRight ?_ vc_S_setRight
  intro a n b ci h
  match a, h with
  | 0, h =>
    cases h
    exact ak_ccV (ct_S_truth l) rfl 208 209 1 22 210 (by decide +kernel) ⟨rfl, rfl⟩ (by decide +kernel) (by decide +kernel)
  | k + 1, h => cases h
def c_join (s : ak_S) (i o : Nat) : ak_S := c_right (c_right (ak_p1 (ak_p1 s 12 i (nI o)) 13 o (s.1 13 o + 1)) i) o
def pt_S_join : ak_P := fun vs s Q => match vs with
  | [.ref 2, .int x, .int y] => ∃ i o : Nat, i ≤ 250 ∧ o ≤ 250 ∧ x = nI i ∧ y = nI o ∧ Q none (c_join s i o)
  | _ => False
def cs_S_join : Nat → ak_P := fun a => match a with
  | _ => pt_S_setRight
theorem vc_S_join : ak_VC lay_C cs_S_join bl_S_join 3 pt_S_join := by
  intro vs s Q h
  unfold pt_S_join at h
  split at h
  · rename_i x y
    obtain ⟨i, o, hi, ho, rfl, rfl, h⟩ := h
    refine ⟨Nat.le_of_ble_eq_true rfl, fun J hJ => hJ 3 _ _ _ _ ?_⟩
    simp only [Nat.reduceAdd, Nat.reduceLeDiff, Nat.zero_le, true_or, or_true, run_s, e_nop, e_iconst, e_bipush, e_sipush, e_lconst, e_iload, e_iload_n, e_lload, e_lload_n, e_aload, e_aload_n, e_istore, e_istore_n, e_iinc, e_iadd, e_isub, e_imul, e_lcmp, e_dupI, e_dupR, e_dup2, e_getfield, e_putfield, e_iaload, e_baload, e_laload, e_iastore, e_bastore, e_lastore, e_if, e_icmp, e_goto, e_tsw, e_ireturn0, e_ireturn1, e_return, e_call0, e_call1, e_call2, e_call3, lI_e, lL_e, lR_e, ak_nth, ak_set, ak_ok1, ak_jp, ak_b1, ak_b2, ak_sw, ak_la, ak_pad, true_and, and_true, List.map_cons, List.map_nil, List.sum_cons, List.sum_nil, Value.category, Option.toList_some, Option.toList_none, List.cons_append, List.nil_append, gC_0_0, gC_0_1, gC_0_2, gC_0_3, rC_0, gC_1_0, pC_1_0, gC_1_1, gC_1_2, gC_1_3, rC_1, gC_2_0, pC_2_0, gC_2_1, gC_2_2, gC_2_3, gC_2_4, gC_2_5, gC_2_6, gC_2_7, gC_2_8, rC_2, gC_3_0, pC_3_0, gC_3_1, gC_3_2, rC_3, gC_4_0, gC_4_1, gC_4_2, gC_4_3, gC_4_4, pC_4_4, rC_4, kC_5, kC_6, kC_7, kC_8, kC_9, kC_10, kC_11, kC_12, kC_13, kC_14, kC_15, kC_16, kC_17, kC_18, kC_19, fd_S_join_0, bk_S_join_0, cs_S_join, pt_S_setRight]
    rw [q_cl (by omega), q_cl (by omega), p1_o (by decide)]
    exact ⟨q_in (by omega) (by omega), q_in (by omega) (by omega), q_in (by omega) (by omega), i, hi, rfl, o, ho, rfl, h⟩
  · exact h.elim
set_option maxRecDepth 20000 in
theorem ct_S_join (l : Launch) : ak_Ctr l cl_all lay_C y_S_join ws_S_join rm_S_join pt_S_join := by
  refine ak_met (cs := cs_S_join) (reg := rg_S_join) (bl := bl_S_join) (by decide +kernel) rfl (cl_ok _) rfl ok_S_join ?_ vc_S_join
  intro a n b ci h
  match a, h with
  | 0, h =>
    cases h
    exact ak_ccV (ct_S_setRight l) rfl 204 205 206 22 207 (by decide +kernel) ⟨rfl, rfl⟩ (by decide +kernel) (by decide +kernel)
  | k + 1, h => cases h
def c_part (s : ak_S) (i : Nat) : ak_S := if s.1 12 i = 0 then s else c_right (ak_p1 (ak_p1 s 12 i 0) 13 (s.1 12 i).toNatClampNeg (s.1 13 (s.1 12 i).toNatClampNeg - 1)) (s.1 12 i).toNatClampNeg
def pt_S_part : ak_P := fun vs s Q => match vs with
  | [.ref 2, .int x] => ∃ i o : Nat, i ≤ 250 ∧ o ≤ 250 ∧ x = nI i ∧ s.1 12 i = nI o ∧ Q none (c_part s i)
  | _ => False
def cs_S_part : Nat → ak_P := fun a => match a with
  | _ => pt_S_setRight
theorem vc_S_part : ak_VC lay_C cs_S_part bl_S_part 3 pt_S_part := by
  intro vs s Q h
  unfold pt_S_part at h
  split at h
  · rename_i x
    obtain ⟨i, o, hi, ho, rfl, hr, h⟩ := h
    refine ⟨Nat.le_of_ble_eq_true rfl, fun J hJ => hJ 3 _ _ _ _ ?_⟩
    simp only [Nat.reduceAdd, Nat.reduceLeDiff, Nat.zero_le, true_or, or_true, run_s, e_nop, e_iconst, e_bipush, e_sipush, e_lconst, e_iload, e_iload_n, e_lload, e_lload_n, e_aload, e_aload_n, e_istore, e_istore_n, e_iinc, e_iadd, e_isub, e_imul, e_lcmp, e_dupI, e_dupR, e_dup2, e_getfield, e_putfield, e_iaload, e_baload, e_laload, e_iastore, e_bastore, e_lastore, e_if, e_icmp, e_goto, e_tsw, e_ireturn0, e_ireturn1, e_return, e_call0, e_call1, e_call2, e_call3, lI_e, lL_e, lR_e, ak_nth, ak_set, ak_ok1, ak_jp, ak_b1, ak_b2, ak_sw, ak_la, ak_pad, true_and, and_true, List.map_cons, List.map_nil, List.sum_cons, List.sum_nil, Value.category, Option.toList_some, Option.toList_none, List.cons_append, List.nil_append, gC_0_0, gC_0_1, gC_0_2, gC_0_3, rC_0, gC_1_0, pC_1_0, gC_1_1, gC_1_2, gC_1_3, rC_1, gC_2_0, pC_2_0, gC_2_1, gC_2_2, gC_2_3, gC_2_4, gC_2_5, gC_2_6, gC_2_7, gC_2_8, rC_2, gC_3_0, pC_3_0, gC_3_1, gC_3_2, rC_3, gC_4_0, gC_4_1, gC_4_2, gC_4_3, gC_4_4, pC_4_4, rC_4, kC_5, kC_6, kC_7, kC_8, kC_9, kC_10, kC_11, kC_12, kC_13, kC_14, kC_15, kC_16, kC_17, kC_18, kC_19, fd_S_part_0, fd_S_part_12, bk_S_part_0, bk_S_part_12, cs_S_part, pt_S_setRight]
    rw [q_cl (by omega), hr, q_cl (by omega), p1_o (by decide)]
    unfold c_part at h
    rw [hr, q_cl (by omega)] at h
    refine ⟨q_in (by omega) (by omega), fun q => ?_, fun q => ?_⟩
    · rw [if_neg q] at h
      exact ⟨q_in (by omega) (by omega), q_in (by omega) (by omega), q_in (by omega) (by omega), o, ho, rfl, h⟩
    · rw [if_pos q] at h
      exact h
  · exact h.elim
set_option maxRecDepth 20000 in
theorem ct_S_part (l : Launch) : ak_Ctr l cl_all lay_C y_S_part ws_S_part rm_S_part pt_S_part := by
  refine ak_met (cs := cs_S_part) (reg := rg_S_part) (bl := bl_S_part) (by decide +kernel) rfl (cl_ok _) rfl ok_S_part ?_ vc_S_part
  intro a n b ci h
  match a, h with
  | 0, h =>
    cases h
    exact ak_ccV (ct_S_setRight l) rfl 204 205 206 22 207 (by decide +kernel) ⟨rfl, rfl⟩ (by decide +kernel) (by decide +kernel)
  | k + 1, h => cases h
def c_take (s : ak_S) (i : Nat) : ak_S := c_part (ak_p1 (ak_p1 s 11 i 2) 9 i 0) i
def pt_S_takeAway : ak_P := fun vs s Q => match vs with
  | [.ref 2, .int x] => ∃ i o : Nat, i ≤ 250 ∧ o ≤ 250 ∧ x = nI i ∧ s.1 12 i = nI o ∧ Q none (c_take s i)
  | _ => False
def cs_S_takeAway : Nat → ak_P := fun a => match a with
  | _ => pt_S_part
theorem vc_S_takeAway : ak_VC lay_C cs_S_takeAway bl_S_takeAway 2 pt_S_takeAway := by
  intro vs s Q h
  unfold pt_S_takeAway at h
  split at h
  · rename_i x
    obtain ⟨i, o, hi, ho, rfl, hr, h⟩ := h
    refine ⟨Nat.le_of_ble_eq_true rfl, fun J hJ => hJ 3 _ _ _ _ ?_⟩
    simp only [Nat.reduceAdd, Nat.reduceLeDiff, Nat.zero_le, true_or, or_true, run_s, e_nop, e_iconst, e_bipush, e_sipush, e_lconst, e_iload, e_iload_n, e_lload, e_lload_n, e_aload, e_aload_n, e_istore, e_istore_n, e_iinc, e_iadd, e_isub, e_imul, e_lcmp, e_dupI, e_dupR, e_dup2, e_getfield, e_putfield, e_iaload, e_baload, e_laload, e_iastore, e_bastore, e_lastore, e_if, e_icmp, e_goto, e_tsw, e_ireturn0, e_ireturn1, e_return, e_call0, e_call1, e_call2, e_call3, lI_e, lL_e, lR_e, ak_nth, ak_set, ak_ok1, ak_jp, ak_b1, ak_b2, ak_sw, ak_la, ak_pad, true_and, and_true, List.map_cons, List.map_nil, List.sum_cons, List.sum_nil, Value.category, Option.toList_some, Option.toList_none, List.cons_append, List.nil_append, gC_0_0, gC_0_1, gC_0_2, gC_0_3, rC_0, gC_1_0, pC_1_0, gC_1_1, gC_1_2, gC_1_3, rC_1, gC_2_0, pC_2_0, gC_2_1, gC_2_2, gC_2_3, gC_2_4, gC_2_5, gC_2_6, gC_2_7, gC_2_8, rC_2, gC_3_0, pC_3_0, gC_3_1, gC_3_2, rC_3, gC_4_0, gC_4_1, gC_4_2, gC_4_3, gC_4_4, pC_4_4, rC_4, kC_5, kC_6, kC_7, kC_8, kC_9, kC_10, kC_11, kC_12, kC_13, kC_14, kC_15, kC_16, kC_17, kC_18, kC_19, fd_S_takeAway_0, bk_S_takeAway_0, cs_S_takeAway, pt_S_part]
    rw [q_cl (by omega)]
    exact ⟨q_in (by omega) (by omega), q_in (by omega) (by omega), i, o, hi, ho, rfl, by rw [p1_o (by decide), p1_o (by decide)]; exact hr, h⟩
  · exact h.elim
set_option maxRecDepth 20000 in
theorem ct_S_takeAway (l : Launch) : ak_Ctr l cl_all lay_C y_S_takeAway ws_S_takeAway rm_S_takeAway pt_S_takeAway := by
  refine ak_met (cs := cs_S_takeAway) (reg := rg_S_takeAway) (bl := bl_S_takeAway) (by decide +kernel) rfl (cl_ok _) rfl ok_S_takeAway ?_ vc_S_takeAway
  intro a n b ci h
  match a, h with
  | 0, h =>
    cases h
    exact ak_ccV (ct_S_part l) rfl 252 253 254 22 255 (by decide +kernel) ⟨rfl, rfl⟩ (by decide +kernel) (by decide +kernel)
  | k + 1, h => cases h
def pt_S_wrongPointers : ak_P := fun vs s Q => match vs with
  | [.ref 2, .int x] => ∃ i : Nat, i ≤ 250 ∧ x = nI i ∧ Q (some (.int (nI (if s.1 11 i = 0 then 0 else cn (fun p => decide (¬ s.1 14 (3 * i + (p - 1)) = c_tr s i (p - 1))) 3)))) s
  | _ => False
def cs_S_wrongPointers : Nat → ak_P := fun a => match a with
  | _ => pt_S_truth
theorem vc_S_wrongPointers : ak_VC lay_C cs_S_wrongPointers bl_S_wrongPointers 4 pt_S_wrongPointers := by
  intro vs s Q h
  unfold pt_S_wrongPointers at h
  split at h
  · rename_i x
    obtain ⟨i, hi, rfl, h⟩ := h
    refine ⟨Nat.le_of_ble_eq_true rfl, fun J hJ => ?_⟩
    have loop : ∀ d p, p + d = 3 → s.1 11 i ≠ 0 → J 15 [some (.ref 2), some (.int (nI i)), some (.int (nI (cn (fun p => decide (¬ s.1 14 (3 * i + (p - 1)) = c_tr s i (p - 1))) p))), some (.int (nI p))] [] s := by
      intro d
      induction d with
      | zero =>
        intro p hp h0
        have e : p = 3 := by omega
        subst e
        refine hJ 2 _ _ _ _ ?_
        simp only [Nat.reduceAdd, Nat.reduceLeDiff, Nat.zero_le, true_or, or_true, run_s, e_nop, e_iconst, e_bipush, e_sipush, e_lconst, e_iload, e_iload_n, e_lload, e_lload_n, e_aload, e_aload_n, e_istore, e_istore_n, e_iinc, e_iadd, e_isub, e_imul, e_lcmp, e_dupI, e_dupR, e_dup2, e_getfield, e_putfield, e_iaload, e_baload, e_laload, e_iastore, e_bastore, e_lastore, e_if, e_icmp, e_goto, e_tsw, e_ireturn0, e_ireturn1, e_return, e_call0, e_call1, e_call2, e_call3, lI_e, lL_e, lR_e, ak_nth, ak_set, ak_ok1, ak_jp, ak_b1, ak_b2, ak_sw, ak_la, ak_pad, true_and, and_true, List.map_cons, List.map_nil, List.sum_cons, List.sum_nil, Value.category, Option.toList_some, Option.toList_none, List.cons_append, List.nil_append, gC_0_0, gC_0_1, gC_0_2, gC_0_3, rC_0, gC_1_0, pC_1_0, gC_1_1, gC_1_2, gC_1_3, rC_1, gC_2_0, pC_2_0, gC_2_1, gC_2_2, gC_2_3, gC_2_4, gC_2_5, gC_2_6, gC_2_7, gC_2_8, rC_2, gC_3_0, pC_3_0, gC_3_1, gC_3_2, rC_3, gC_4_0, gC_4_1, gC_4_2, gC_4_3, gC_4_4, pC_4_4, rC_4, kC_5, kC_6, kC_7, kC_8, kC_9, kC_10, kC_11, kC_12, kC_13, kC_14, kC_15, kC_16, kC_17, kC_18, kC_19, fd_S_wrongPointers_0, fd_S_wrongPointers_11, fd_S_wrongPointers_15, fd_S_wrongPointers_42, fd_S_wrongPointers_48, bk_S_wrongPointers_0, bk_S_wrongPointers_11, bk_S_wrongPointers_15, bk_S_wrongPointers_42, bk_S_wrongPointers_48, cs_S_wrongPointers, pt_S_truth]
        rw [if_neg h0] at h
        exact ⟨fun _ => h, fun q => absurd (by decide) q⟩
      | succ d ih =>
        intro p hp h0
        refine hJ 3 _ _ _ _ ?_
        simp only [Nat.reduceAdd, Nat.reduceLeDiff, Nat.zero_le, true_or, or_true, run_s, e_nop, e_iconst, e_bipush, e_sipush, e_lconst, e_iload, e_iload_n, e_lload, e_lload_n, e_aload, e_aload_n, e_istore, e_istore_n, e_iinc, e_iadd, e_isub, e_imul, e_lcmp, e_dupI, e_dupR, e_dup2, e_getfield, e_putfield, e_iaload, e_baload, e_laload, e_iastore, e_bastore, e_lastore, e_if, e_icmp, e_goto, e_tsw, e_ireturn0, e_ireturn1, e_return, e_call0, e_call1, e_call2, e_call3, lI_e, lL_e, lR_e, ak_nth, ak_set, ak_ok1, ak_jp, ak_b1, ak_b2, ak_sw, ak_la, ak_pad, true_and, and_true, List.map_cons, List.map_nil, List.sum_cons, List.sum_nil, Value.category, Option.toList_some, Option.toList_none, List.cons_append, List.nil_append, gC_0_0, gC_0_1, gC_0_2, gC_0_3, rC_0, gC_1_0, pC_1_0, gC_1_1, gC_1_2, gC_1_3, rC_1, gC_2_0, pC_2_0, gC_2_1, gC_2_2, gC_2_3, gC_2_4, gC_2_5, gC_2_6, gC_2_7, gC_2_8, rC_2, gC_3_0, pC_3_0, gC_3_1, gC_3_2, rC_3, gC_4_0, gC_4_1, gC_4_2, gC_4_3, gC_4_4, pC_4_4, rC_4, kC_5, kC_6, kC_7, kC_8, kC_9, kC_10, kC_11, kC_12, kC_13, kC_14, kC_15, kC_16, kC_17, kC_18, kC_19, fd_S_wrongPointers_0, fd_S_wrongPointers_11, fd_S_wrongPointers_15, fd_S_wrongPointers_42, fd_S_wrongPointers_48, bk_S_wrongPointers_0, bk_S_wrongPointers_11, bk_S_wrongPointers_15, bk_S_wrongPointers_42, bk_S_wrongPointers_48, cs_S_wrongPointers, pt_S_truth, nI_1]
        rw [n_3, q_le (by omega) (by omega), pk_mul, nI_add, q_cl (by omega), q_cl (by omega), c_tr_e s i (by omega), show i * 3 + p = 3 * i + p by omega]
        have hh := ih (p + 1) (by omega) h0
        refine ⟨fun q => absurd q (by omega), fun _ => ⟨q_in (by omega) (by omega), q_in (by omega) (by omega), fun q => ?_, fun q => ?_⟩⟩
        · simpa [cn, q] using hh
        · simpa [cn, q] using hh
    refine hJ 3 _ _ _ _ ?_
    simp only [Nat.reduceAdd, Nat.reduceLeDiff, Nat.zero_le, true_or, or_true, run_s, e_nop, e_iconst, e_bipush, e_sipush, e_lconst, e_iload, e_iload_n, e_lload, e_lload_n, e_aload, e_aload_n, e_istore, e_istore_n, e_iinc, e_iadd, e_isub, e_imul, e_lcmp, e_dupI, e_dupR, e_dup2, e_getfield, e_putfield, e_iaload, e_baload, e_laload, e_iastore, e_bastore, e_lastore, e_if, e_icmp, e_goto, e_tsw, e_ireturn0, e_ireturn1, e_return, e_call0, e_call1, e_call2, e_call3, lI_e, lL_e, lR_e, ak_nth, ak_set, ak_ok1, ak_jp, ak_b1, ak_b2, ak_sw, ak_la, ak_pad, true_and, and_true, List.map_cons, List.map_nil, List.sum_cons, List.sum_nil, Value.category, Option.toList_some, Option.toList_none, List.cons_append, List.nil_append, gC_0_0, gC_0_1, gC_0_2, gC_0_3, rC_0, gC_1_0, pC_1_0, gC_1_1, gC_1_2, gC_1_3, rC_1, gC_2_0, pC_2_0, gC_2_1, gC_2_2, gC_2_3, gC_2_4, gC_2_5, gC_2_6, gC_2_7, gC_2_8, rC_2, gC_3_0, pC_3_0, gC_3_1, gC_3_2, rC_3, gC_4_0, gC_4_1, gC_4_2, gC_4_3, gC_4_4, pC_4_4, rC_4, kC_5, kC_6, kC_7, kC_8, kC_9, kC_10, kC_11, kC_12, kC_13, kC_14, kC_15, kC_16, kC_17, kC_18, kC_19, fd_S_wrongPointers_0, fd_S_wrongPointers_11, fd_S_wrongPointers_15, fd_S_wrongPointers_42, fd_S_wrongPointers_48, bk_S_wrongPointers_0, bk_S_wrongPointers_11, bk_S_wrongPointers_15, bk_S_wrongPointers_42, bk_S_wrongPointers_48, cs_S_wrongPointers]
    rw [q_cl (by omega)]
    refine ⟨q_in (by omega) (by omega), fun q => ?_, fun q => ?_⟩
    · exact loop 3 0 (by omega) q
    · rw [if_pos q] at h
      exact h
  · exact h.elim
set_option maxRecDepth 20000 in
theorem ct_S_wrongPointers (l : Launch) : ak_Ctr l cl_all lay_C y_S_wrongPointers ws_S_wrongPointers rm_S_wrongPointers pt_S_wrongPointers := by
  refine ak_met (cs := cs_S_wrongPointers) (reg := rg_S_wrongPointers) (bl := bl_S_wrongPointers) (by decide +kernel) rfl (cl_ok _) rfl ok_S_wrongPointers ?_ vc_S_wrongPointers
  intro a n b ci h
  match a, h with
  | 0, h =>
    cases h
    exact ak_ccV (ct_S_truth l) rfl 208 209 1 22 210 (by decide +kernel) ⟨rfl, rfl⟩ (by decide +kernel) (by decide +kernel)
  | k + 1, h => cases h
end
section
/-! those without a count are dropped -/
def c_drop (s : ak_S) (n : Nat) : ak_S := (fun k => if k = 11 then (fun i => if 1 ≤ i ∧ i ≤ n ∧ s.1 11 i = 2 ∧ s.1 13 i = 0 then 0 else s.1 11 i) else s.1 k, s.2)
theorem c_drop_0 (s : ak_S) : c_drop s 0 = s := by
  have : (fun k => if k = 11 then (fun i => if 1 ≤ i ∧ i ≤ 0 ∧ s.1 11 i = 2 ∧ s.1 13 i = 0 then 0 else s.1 11 i) else s.1 k) = s.1 := by
    funext k i
    by_cases hk : k = 11
    · subst hk
      rw [if_pos rfl, if_neg (by omega)]
    · rw [if_neg hk]
  unfold c_drop
  rw [this]
theorem c_drop_s (s : ak_S) (n : Nat) : c_drop s (n + 1) = if s.1 11 (n + 1) = 2 ∧ s.1 13 (n + 1) = 0 then ak_p1 (c_drop s n) 11 (n + 1) 0 else c_drop s n := by
  split
  · rename_i h
    apply Prod.ext
    · funext k i
      by_cases hk : k = 11
      · subst hk
        simp only [c_drop, ak_p1, if_true, upd]
        by_cases hi : i = n + 1
        · subst hi
          rw [if_pos ⟨by omega, by omega, h.1, h.2⟩, if_pos rfl]
        · rw [if_neg hi]
          by_cases hc : 1 ≤ i ∧ i ≤ n ∧ s.1 11 i = 2 ∧ s.1 13 i = 0
          · rw [if_pos hc, if_pos ⟨hc.1, by omega, hc.2.2⟩]
          · rw [if_neg hc, if_neg (fun q => hc ⟨q.1, by omega, q.2.2⟩)]
      · simp [c_drop, ak_p1, hk]
    · rfl
  · rename_i h
    apply Prod.ext
    · funext k i
      by_cases hk : k = 11
      · subst hk
        simp only [c_drop, if_true]
        by_cases hi : i = n + 1
        · subst hi
          rw [if_neg (fun q => h q.2.2), if_neg (fun q => h q.2.2)]
        · by_cases hc : 1 ≤ i ∧ i ≤ n ∧ s.1 11 i = 2 ∧ s.1 13 i = 0
          · rw [if_pos hc, if_pos ⟨hc.1, by omega, hc.2.2⟩]
          · rw [if_neg hc, if_neg (fun q => hc ⟨q.1, by omega, q.2.2⟩)]
      · simp [c_drop, hk]
    · rfl
theorem c_drop_o {s : ak_S} {n k : Nat} (h : k ≠ 11) (i : Nat) : (c_drop s n).1 k i = s.1 k i := by simp [c_drop, h]
theorem c_drop_in {s : ak_S} {n i : Nat} (h : n < i) : (c_drop s n).1 11 i = s.1 11 i := by
  simp only [c_drop, if_true]
  rw [if_neg (by omega)]
def pt_S_dropThoseWithoutCount : ak_P := fun vs s Q => match vs with
  | [.ref 2] => ∃ n : Nat, n ≤ 250 ∧ s.1 2 0 = nI n ∧ Q none (c_drop s n)
  | _ => False
def cs_S_dropThoseWithoutCount : Nat → ak_P := fun _ _ _ _ => False
theorem vc_S_dropThoseWithoutCount : ak_VC lay_C cs_S_dropThoseWithoutCount bl_S_dropThoseWithoutCount 2 pt_S_dropThoseWithoutCount := by
  intro vs s Q h
  unfold pt_S_dropThoseWithoutCount at h
  split at h
  · obtain ⟨n, hn, hs, h⟩ := h
    refine ⟨Nat.le_of_ble_eq_true rfl, fun J hJ => ?_⟩
    have loop : ∀ d i, i + d = n → J 2 [some (.ref 2), some (.int (nI (i + 1)))] [] (c_drop s i) := by
      intro d
      induction d with
      | zero =>
        intro i hi
        refine hJ 3 _ _ _ _ ?_
        simp only [Nat.reduceAdd, Nat.reduceLeDiff, Nat.zero_le, true_or, or_true, run_s, e_nop, e_iconst, e_bipush, e_sipush, e_lconst, e_iload, e_iload_n, e_lload, e_lload_n, e_aload, e_aload_n, e_istore, e_istore_n, e_iinc, e_iadd, e_isub, e_imul, e_lcmp, e_dupI, e_dupR, e_dup2, e_getfield, e_putfield, e_iaload, e_baload, e_laload, e_iastore, e_bastore, e_lastore, e_if, e_icmp, e_goto, e_tsw, e_ireturn0, e_ireturn1, e_return, e_call0, e_call1, e_call2, e_call3, lI_e, lL_e, lR_e, ak_nth, ak_set, ak_ok1, ak_jp, ak_b1, ak_b2, ak_sw, ak_la, ak_pad, true_and, and_true, List.map_cons, List.map_nil, List.sum_cons, List.sum_nil, Value.category, Option.toList_some, Option.toList_none, List.cons_append, List.nil_append, gC_0_0, gC_0_1, gC_0_2, gC_0_3, rC_0, gC_1_0, pC_1_0, gC_1_1, gC_1_2, gC_1_3, rC_1, gC_2_0, pC_2_0, gC_2_1, gC_2_2, gC_2_3, gC_2_4, gC_2_5, gC_2_6, gC_2_7, gC_2_8, rC_2, gC_3_0, pC_3_0, gC_3_1, gC_3_2, rC_3, gC_4_0, gC_4_1, gC_4_2, gC_4_3, gC_4_4, pC_4_4, rC_4, kC_5, kC_6, kC_7, kC_8, kC_9, kC_10, kC_11, kC_12, kC_13, kC_14, kC_15, kC_16, kC_17, kC_18, kC_19, fd_S_dropThoseWithoutCount_0, fd_S_dropThoseWithoutCount_2, fd_S_dropThoseWithoutCount_36, fd_S_dropThoseWithoutCount_42, bk_S_dropThoseWithoutCount_0, bk_S_dropThoseWithoutCount_2, bk_S_dropThoseWithoutCount_36, bk_S_dropThoseWithoutCount_42]
        rw [c_drop_o (by decide), hs, q_lt (by omega) (by omega)]
        refine ⟨fun _ => ?_, fun q => absurd (by omega) q⟩
        have e : i = n := by omega
        rw [e]
        exact h
      | succ d ih =>
        intro i hi
        refine hJ 3 _ _ _ _ ?_
        simp only [Nat.reduceAdd, Nat.reduceLeDiff, Nat.zero_le, true_or, or_true, run_s, e_nop, e_iconst, e_bipush, e_sipush, e_lconst, e_iload, e_iload_n, e_lload, e_lload_n, e_aload, e_aload_n, e_istore, e_istore_n, e_iinc, e_iadd, e_isub, e_imul, e_lcmp, e_dupI, e_dupR, e_dup2, e_getfield, e_putfield, e_iaload, e_baload, e_laload, e_iastore, e_bastore, e_lastore, e_if, e_icmp, e_goto, e_tsw, e_ireturn0, e_ireturn1, e_return, e_call0, e_call1, e_call2, e_call3, lI_e, lL_e, lR_e, ak_nth, ak_set, ak_ok1, ak_jp, ak_b1, ak_b2, ak_sw, ak_la, ak_pad, true_and, and_true, List.map_cons, List.map_nil, List.sum_cons, List.sum_nil, Value.category, Option.toList_some, Option.toList_none, List.cons_append, List.nil_append, gC_0_0, gC_0_1, gC_0_2, gC_0_3, rC_0, gC_1_0, pC_1_0, gC_1_1, gC_1_2, gC_1_3, rC_1, gC_2_0, pC_2_0, gC_2_1, gC_2_2, gC_2_3, gC_2_4, gC_2_5, gC_2_6, gC_2_7, gC_2_8, rC_2, gC_3_0, pC_3_0, gC_3_1, gC_3_2, rC_3, gC_4_0, gC_4_1, gC_4_2, gC_4_3, gC_4_4, pC_4_4, rC_4, kC_5, kC_6, kC_7, kC_8, kC_9, kC_10, kC_11, kC_12, kC_13, kC_14, kC_15, kC_16, kC_17, kC_18, kC_19, fd_S_dropThoseWithoutCount_0, fd_S_dropThoseWithoutCount_2, fd_S_dropThoseWithoutCount_36, fd_S_dropThoseWithoutCount_42, bk_S_dropThoseWithoutCount_0, bk_S_dropThoseWithoutCount_2, bk_S_dropThoseWithoutCount_36, bk_S_dropThoseWithoutCount_42, nI_1]
        rw [c_drop_o (by decide), hs, q_lt (by omega) (by omega), q_cl (by omega), c_drop_in (s := s) (n := i) (i := i + 1) (by omega), c_drop_o (k := 13) (by decide)]
        have hh := ih (i + 1) (by omega)
        rw [c_drop_s] at hh
        refine ⟨fun q => absurd q (by omega), fun _ => ⟨q_in (by omega) (by omega), fun q => ?_, fun q => ⟨q_in (by omega) (by omega), fun q2 => ?_, fun q2 => ⟨q_in (by omega) (by omega), ?_⟩⟩⟩⟩
        · rw [if_neg (fun z => q z.1)] at hh
          exact hh
        · rw [if_neg (fun z => q2 z.2)] at hh
          exact hh
        · rw [if_pos ⟨q, q2⟩] at hh
          exact hh
    refine hJ 3 _ _ _ _ ?_
    simp only [Nat.reduceAdd, Nat.reduceLeDiff, Nat.zero_le, true_or, or_true, run_s, e_nop, e_iconst, e_bipush, e_sipush, e_lconst, e_iload, e_iload_n, e_lload, e_lload_n, e_aload, e_aload_n, e_istore, e_istore_n, e_iinc, e_iadd, e_isub, e_imul, e_lcmp, e_dupI, e_dupR, e_dup2, e_getfield, e_putfield, e_iaload, e_baload, e_laload, e_iastore, e_bastore, e_lastore, e_if, e_icmp, e_goto, e_tsw, e_ireturn0, e_ireturn1, e_return, e_call0, e_call1, e_call2, e_call3, lI_e, lL_e, lR_e, ak_nth, ak_set, ak_ok1, ak_jp, ak_b1, ak_b2, ak_sw, ak_la, ak_pad, true_and, and_true, List.map_cons, List.map_nil, List.sum_cons, List.sum_nil, Value.category, Option.toList_some, Option.toList_none, List.cons_append, List.nil_append, gC_0_0, gC_0_1, gC_0_2, gC_0_3, rC_0, gC_1_0, pC_1_0, gC_1_1, gC_1_2, gC_1_3, rC_1, gC_2_0, pC_2_0, gC_2_1, gC_2_2, gC_2_3, gC_2_4, gC_2_5, gC_2_6, gC_2_7, gC_2_8, rC_2, gC_3_0, pC_3_0, gC_3_1, gC_3_2, rC_3, gC_4_0, gC_4_1, gC_4_2, gC_4_3, gC_4_4, pC_4_4, rC_4, kC_5, kC_6, kC_7, kC_8, kC_9, kC_10, kC_11, kC_12, kC_13, kC_14, kC_15, kC_16, kC_17, kC_18, kC_19, fd_S_dropThoseWithoutCount_0, fd_S_dropThoseWithoutCount_2, fd_S_dropThoseWithoutCount_36, fd_S_dropThoseWithoutCount_42, bk_S_dropThoseWithoutCount_0, bk_S_dropThoseWithoutCount_2, bk_S_dropThoseWithoutCount_36, bk_S_dropThoseWithoutCount_42]
    have := loop n 0 (by omega)
    rw [c_drop_0] at this
    exact this
  · exact h.elim
set_option maxRecDepth 20000 in
theorem ct_S_dropThoseWithoutCount (l : Launch) : ak_Ctr l cl_all lay_C y_S_dropThoseWithoutCount ws_S_dropThoseWithoutCount rm_S_dropThoseWithoutCount pt_S_dropThoseWithoutCount := by
  refine ak_met (cs := cs_S_dropThoseWithoutCount) (reg := rg_S_dropThoseWithoutCount) (bl := bl_S_dropThoseWithoutCount) (by decide +kernel) rfl (cl_ok _) rfl ok_S_dropThoseWithoutCount ?_ vc_S_dropThoseWithoutCount
  intro a n b ci h
  match a, h with
  | k + 0, h => cases h
end
section
/-! the row by keys: the newest is put where it belongs -/
def c_sh (s : ak_S) (m q : Nat) : ak_S := (fun k => if k = 15 then (fun j => if q < j ∧ j ≤ m then s.1 15 (j - 1) else s.1 15 j) else s.1 k, s.2)
def c_ins (s : ak_S) (m p : Nat) (x : Int32) : ak_S := ak_p1 (c_sh s m p) 15 p x
theorem c_sh_m (s : ak_S) (m : Nat) : c_sh s m m = s := by
  have : (fun k => if k = 15 then (fun j => if m < j ∧ j ≤ m then s.1 15 (j - 1) else s.1 15 j) else s.1 k) = s.1 := by
    funext k j
    by_cases hk : k = 15
    · subst hk
      rw [if_pos rfl, if_neg (by omega)]
    · rw [if_neg hk]
  unfold c_sh
  rw [this]
theorem c_sh_o {s : ak_S} {m q k j : Nat} (h : k ≠ 15) : (c_sh s m q).1 k j = s.1 k j := by simp [c_sh, h]
theorem c_sh_in {s : ak_S} {m q j : Nat} (h : j ≤ q) : (c_sh s m q).1 15 j = s.1 15 j := by
  simp only [c_sh, if_true]
  rw [if_neg (by omega)]
theorem c_sh_s {s : ak_S} {m q : Nat} (h : q + 1 ≤ m) : ak_p1 (c_sh s m (q + 1)) 15 (q + 1) (s.1 15 q) = c_sh s m q := by
  apply Prod.ext
  · funext k j
    by_cases hk : k = 15
    · subst hk
      simp only [c_sh, ak_p1, if_true, upd]
      by_cases hj : j = q + 1
      · subst hj
        rw [if_pos rfl, if_pos ⟨by omega, h⟩]
        rfl
      · rw [if_neg hj]
        by_cases hc : q < j ∧ j ≤ m
        · rw [if_pos hc, if_pos ⟨by omega, hc.2⟩]
        · rw [if_neg hc, if_neg (fun z => hc ⟨by omega, z.2⟩)]
    · simp [c_sh, ak_p1, hk]
  · rfl
def pt_S_putByKey : ak_P := fun vs s Q => match vs with
  | [.ref 2, .int x] => ∃ m : Nat, m < 250 ∧ x = nI (m + 1) ∧ (∀ j, j < m → ∃ e, e ≤ 250 ∧ s.1 15 j = nI e) ∧
      ∀ p, p ≤ m → (∀ q, p = q + 1 → ¬ s.2 10 (m + 1) < s.2 10 (s.1 15 q).toNatClampNeg) → (∀ j, p ≤ j → j < m → s.2 10 (m + 1) < s.2 10 (s.1 15 j).toNatClampNeg) → Q none (c_ins s m p (nI (m + 1)))
  | _ => False
def cs_S_putByKey : Nat → ak_P := fun _ _ _ _ => False
theorem vc_S_putByKey : ak_VC lay_C cs_S_putByKey bl_S_putByKey 3 pt_S_putByKey := by
  intro vs s Q h
  unfold pt_S_putByKey at h
  split at h
  · rename_i x
    obtain ⟨m, hm, rfl, he, h⟩ := h
    refine ⟨Nat.le_of_ble_eq_true rfl, fun J hJ => ?_⟩
    have loop : ∀ q, q ≤ m → (∀ j, q ≤ j → j < m → s.2 10 (m + 1) < s.2 10 (s.1 15 j).toNatClampNeg) → J 4 [some (.ref 2), some (.int (nI (m + 1))), some (.int (nI q))] [] (c_sh s m q) := by
      intro q
      induction q with
      | zero =>
        intro hq hj
        refine hJ 3 _ _ _ _ ?_
        simp only [Nat.reduceAdd, Nat.reduceLeDiff, Nat.zero_le, true_or, or_true, run_s, e_nop, e_iconst, e_bipush, e_sipush, e_lconst, e_iload, e_iload_n, e_lload, e_lload_n, e_aload, e_aload_n, e_istore, e_istore_n, e_iinc, e_iadd, e_isub, e_imul, e_lcmp, e_dupI, e_dupR, e_dup2, e_getfield, e_putfield, e_iaload, e_baload, e_laload, e_iastore, e_bastore, e_lastore, e_if, e_icmp, e_goto, e_tsw, e_ireturn0, e_ireturn1, e_return, e_call0, e_call1, e_call2, e_call3, lI_e, lL_e, lR_e, ak_nth, ak_set, ak_ok1, ak_jp, ak_b1, ak_b2, ak_sw, ak_la, ak_pad, true_and, and_true, List.map_cons, List.map_nil, List.sum_cons, List.sum_nil, Value.category, Option.toList_some, Option.toList_none, List.cons_append, List.nil_append, gC_0_0, gC_0_1, gC_0_2, gC_0_3, rC_0, gC_1_0, pC_1_0, gC_1_1, gC_1_2, gC_1_3, rC_1, gC_2_0, pC_2_0, gC_2_1, gC_2_2, gC_2_3, gC_2_4, gC_2_5, gC_2_6, gC_2_7, gC_2_8, rC_2, gC_3_0, pC_3_0, gC_3_1, gC_3_2, rC_3, gC_4_0, gC_4_1, gC_4_2, gC_4_3, gC_4_4, pC_4_4, rC_4, kC_5, kC_6, kC_7, kC_8, kC_9, kC_10, kC_11, kC_12, kC_13, kC_14, kC_15, kC_16, kC_17, kC_18, kC_19, fd_S_putByKey_0, fd_S_putByKey_4, fd_S_putByKey_51, bk_S_putByKey_0, bk_S_putByKey_4, bk_S_putByKey_51]
        refine ⟨fun _ => ⟨q_in (by omega) (by omega), ?_⟩, fun z => absurd (by decide) z⟩
        exact h 0 (by omega) (fun q e => by omega) hj
      | succ q ih =>
        intro hq hj
        obtain ⟨e, he1, he2⟩ := he q (by omega)
        refine hJ 3 _ _ _ _ ?_
        simp only [Nat.reduceAdd, Nat.reduceLeDiff, Nat.zero_le, true_or, or_true, run_s, e_nop, e_iconst, e_bipush, e_sipush, e_lconst, e_iload, e_iload_n, e_lload, e_lload_n, e_aload, e_aload_n, e_istore, e_istore_n, e_iinc, e_iadd, e_isub, e_imul, e_lcmp, e_dupI, e_dupR, e_dup2, e_getfield, e_putfield, e_iaload, e_baload, e_laload, e_iastore, e_bastore, e_lastore, e_if, e_icmp, e_goto, e_tsw, e_ireturn0, e_ireturn1, e_return, e_call0, e_call1, e_call2, e_call3, lI_e, lL_e, lR_e, ak_nth, ak_set, ak_ok1, ak_jp, ak_b1, ak_b2, ak_sw, ak_la, ak_pad, true_and, and_true, List.map_cons, List.map_nil, List.sum_cons, List.sum_nil, Value.category, Option.toList_some, Option.toList_none, List.cons_append, List.nil_append, gC_0_0, gC_0_1, gC_0_2, gC_0_3, rC_0, gC_1_0, pC_1_0, gC_1_1, gC_1_2, gC_1_3, rC_1, gC_2_0, pC_2_0, gC_2_1, gC_2_2, gC_2_3, gC_2_4, gC_2_5, gC_2_6, gC_2_7, gC_2_8, rC_2, gC_3_0, pC_3_0, gC_3_1, gC_3_2, rC_3, gC_4_0, gC_4_1, gC_4_2, gC_4_3, gC_4_4, pC_4_4, rC_4, kC_5, kC_6, kC_7, kC_8, kC_9, kC_10, kC_11, kC_12, kC_13, kC_14, kC_15, kC_16, kC_17, kC_18, kC_19, fd_S_putByKey_0, fd_S_putByKey_4, fd_S_putByKey_51, bk_S_putByKey_0, bk_S_putByKey_4, bk_S_putByKey_51, nI_pred, pk_m1]
        rw [q_cl (by omega), q_cl (by omega), q_cl (by omega), c_sh_in (by omega), he2, q_cl (by omega), n_0, q_le (by omega) (by omega), ← n_0, lg_cmp_le]
        refine ⟨fun z => absurd z (by omega), fun _ => ⟨q_in (by omega) (by omega), q_in (by omega) (by omega), q_in (by omega) (by omega), fun z => ⟨q_in (by omega) (by omega), ?_⟩, fun z => ⟨q_in (by omega) (by omega), q_in (by omega) (by omega), ?_⟩⟩⟩
        · refine h (q + 1) hq (fun q' e' => ?_) hj
          have : q' = q := by omega
          subst this
          rw [he2, q_cl (by omega)]
          exact Int64.not_lt.mpr z
        · have hh := ih (by omega) (fun j h1 h2 => ?_)
          · rw [← c_sh_s (by omega), he2] at hh
            exact hh
          · by_cases ej : j = q
            · subst ej
              rw [he2, q_cl (by omega)]
              exact Int64.not_le.mp z
            · exact hj j (by omega) h2
    refine hJ 3 _ _ _ _ ?_
    simp only [Nat.reduceAdd, Nat.reduceLeDiff, Nat.zero_le, true_or, or_true, run_s, e_nop, e_iconst, e_bipush, e_sipush, e_lconst, e_iload, e_iload_n, e_lload, e_lload_n, e_aload, e_aload_n, e_istore, e_istore_n, e_iinc, e_iadd, e_isub, e_imul, e_lcmp, e_dupI, e_dupR, e_dup2, e_getfield, e_putfield, e_iaload, e_baload, e_laload, e_iastore, e_bastore, e_lastore, e_if, e_icmp, e_goto, e_tsw, e_ireturn0, e_ireturn1, e_return, e_call0, e_call1, e_call2, e_call3, lI_e, lL_e, lR_e, ak_nth, ak_set, ak_ok1, ak_jp, ak_b1, ak_b2, ak_sw, ak_la, ak_pad, true_and, and_true, List.map_cons, List.map_nil, List.sum_cons, List.sum_nil, Value.category, Option.toList_some, Option.toList_none, List.cons_append, List.nil_append, gC_0_0, gC_0_1, gC_0_2, gC_0_3, rC_0, gC_1_0, pC_1_0, gC_1_1, gC_1_2, gC_1_3, rC_1, gC_2_0, pC_2_0, gC_2_1, gC_2_2, gC_2_3, gC_2_4, gC_2_5, gC_2_6, gC_2_7, gC_2_8, rC_2, gC_3_0, pC_3_0, gC_3_1, gC_3_2, rC_3, gC_4_0, gC_4_1, gC_4_2, gC_4_3, gC_4_4, pC_4_4, rC_4, kC_5, kC_6, kC_7, kC_8, kC_9, kC_10, kC_11, kC_12, kC_13, kC_14, kC_15, kC_16, kC_17, kC_18, kC_19, fd_S_putByKey_0, fd_S_putByKey_4, fd_S_putByKey_51, bk_S_putByKey_0, bk_S_putByKey_4, bk_S_putByKey_51, nI_pred]
    have := loop m (Nat.le_refl m) (fun j h1 h2 => by omega)
    rw [c_sh_m] at this
    exact this
  · exact h.elim
set_option maxRecDepth 20000 in
theorem ct_S_putByKey (l : Launch) : ak_Ctr l cl_all lay_C y_S_putByKey ws_S_putByKey rm_S_putByKey pt_S_putByKey := by
  refine ak_met (cs := cs_S_putByKey) (reg := rg_S_putByKey) (bl := bl_S_putByKey) (by decide +kernel) rfl (cl_ok _) rfl ok_S_putByKey ?_ vc_S_putByKey
  intro a n b ci h
  match a, h with
  | k + 0, h => cases h
end
section
/-! a new segment; the i-th by keys -/
theorem c_right_o {s : ak_S} {i k j : Nat} (h : k ≠ 14) : (c_right s i).1 k j = s.1 k j := by simp [c_right, p1_o h]
theorem c_right_2 {s : ak_S} {i : Nat} : (c_right s i).2 = s.2 := rfl
theorem c_ins_o {s : ak_S} {m p k j : Nat} {x : Int32} (h : k ≠ 15) : (c_ins s m p x).1 k j = s.1 k j := by rw [c_ins, p1_o h, c_sh_o h]
theorem c_ins_2 {s : ak_S} {m p : Nat} {x : Int32} : (c_ins s m p x).2 = s.2 := rfl
def c_new0 (s : ak_S) (n : Nat) (k u : Int32) (y : Int64) : ak_S := ak_p1 (ak_p2 (ak_p1 (ak_p1 (ak_p1 s 2 0 (nI (n + 1))) 8 (n + 1) k) 9 (n + 1) u) 10 (n + 1) y) 11 (n + 1) 1
def c_new (s : ak_S) (n : Nat) (k u : Int32) (y : Int64) : ak_S := c_right (c_new0 s n k u y) (n + 1)
def pt_S_add : ak_P := fun vs s Q => match vs with
  | [.ref 2, .int k, .int u, .long y] => ∃ n : Nat, n ≤ 250 ∧ s.1 2 0 = nI n ∧ (∀ j, j < n → ∃ e, e ≤ 250 ∧ s.1 15 j = nI e) ∧ (n = 250 → Q (some (.int (-1))) s) ∧
      (n < 250 → ∀ p, p ≤ n → (∀ q, p = q + 1 → ¬ (c_new s n k u y).2 10 (n + 1) < (c_new s n k u y).2 10 (s.1 15 q).toNatClampNeg) → (∀ j, p ≤ j → j < n → (c_new s n k u y).2 10 (n + 1) < (c_new s n k u y).2 10 (s.1 15 j).toNatClampNeg) → Q (some (.int (nI (n + 1)))) (c_ins (c_new s n k u y) n p (nI (n + 1))))
  | _ => False
def cs_S_add : Nat → ak_P := fun a => match a with
  | 0 => pt_S_setRight
  | _ => pt_S_putByKey
theorem vc_S_add : ak_VC lay_C cs_S_add bl_S_add 5 pt_S_add := by
  intro vs s Q h
  unfold pt_S_add at h
  split at h
  · rename_i k u y
    obtain ⟨n, hn, hs, he, h1, h2⟩ := h
    refine ⟨Nat.le_of_ble_eq_true rfl, fun J hJ => hJ 3 _ _ _ _ ?_⟩
    simp only [Nat.reduceAdd, Nat.reduceLeDiff, Nat.zero_le, true_or, or_true, run_s, e_nop, e_iconst, e_bipush, e_sipush, e_lconst, e_iload, e_iload_n, e_lload, e_lload_n, e_aload, e_aload_n, e_istore, e_istore_n, e_iinc, e_iadd, e_isub, e_imul, e_lcmp, e_dupI, e_dupR, e_dup2, e_getfield, e_putfield, e_iaload, e_baload, e_laload, e_iastore, e_bastore, e_lastore, e_if, e_icmp, e_goto, e_tsw, e_ireturn0, e_ireturn1, e_return, e_call0, e_call1, e_call2, e_call3, lI_e, lL_e, lR_e, ak_nth, ak_set, ak_ok1, ak_jp, ak_b1, ak_b2, ak_sw, ak_la, ak_pad, true_and, and_true, List.map_cons, List.map_nil, List.sum_cons, List.sum_nil, Value.category, Option.toList_some, Option.toList_none, List.cons_append, List.nil_append, gC_0_0, gC_0_1, gC_0_2, gC_0_3, rC_0, gC_1_0, pC_1_0, gC_1_1, gC_1_2, gC_1_3, rC_1, gC_2_0, pC_2_0, gC_2_1, gC_2_2, gC_2_3, gC_2_4, gC_2_5, gC_2_6, gC_2_7, gC_2_8, rC_2, gC_3_0, pC_3_0, gC_3_1, gC_3_2, rC_3, gC_4_0, gC_4_1, gC_4_2, gC_4_3, gC_4_4, pC_4_4, rC_4, kC_5, kC_6, kC_7, kC_8, kC_9, kC_10, kC_11, kC_12, kC_13, kC_14, kC_15, kC_16, kC_17, kC_18, kC_19, fd_S_add_0, fd_S_add_12, bk_S_add_0, bk_S_add_12, cs_S_add, p1_s, p1_o, p2_1, if_true, hs, nI_1, ne_eq, Nat.reduceEqDiff, not_false_eq_true, pt_S_setRight, pt_S_putByKey]
    rw [n_250, q_lt (by omega) (by omega), q_cl (by omega)]
    refine ⟨fun hl => ?_, fun hl => h1 (by omega)⟩
    refine ⟨q_in (by omega) (by omega), q_in (by omega) (by omega), q_in (by omega) (by omega), q_in (by omega) (by omega), n + 1, by omega, rfl, n, by omega, ?_, ?_, ?_⟩
    · rw [c_right_o (by decide)]
      simp [p1_s, p1_o, p2_1]
    · intro j hj
      obtain ⟨e, he1, he2⟩ := he j hj
      refine ⟨e, he1, ?_⟩
      rw [c_right_o (by decide)]
      simp [p1_o, p2_1, he2]
    · intro p hp hq hr
      rw [c_ins_o (by decide), c_right_o (by decide)]
      have e15 : ∀ j, (c_right (c_new0 s n k u y) (n + 1)).1 15 j = s.1 15 j := fun j => by
        rw [c_right_o (by decide)]
        simp [c_new0, p1_o, p2_1]
      have := h2 hl p hp (fun q e => ?_) (fun j a b => ?_)
      · simpa [p1_s, p1_o, p2_1, c_new, c_new0] using this
      · have z := hq q e
        rw [show ∀ t, (c_right t (n + 1)).1 15 q = t.1 15 q from fun t => c_right_o (by decide)] at z
        simpa [p1_o, p2_1, c_new, c_new0] using z
      · have z := hr j a b
        rw [show ∀ t, (c_right t (n + 1)).1 15 j = t.1 15 j from fun t => c_right_o (by decide)] at z
        simpa [p1_o, p2_1, c_new, c_new0] using z
  · exact h.elim
set_option maxRecDepth 20000 in
theorem ct_S_add (l : Launch) : ak_Ctr l cl_all lay_C y_S_add ws_S_add rm_S_add pt_S_add := by
  refine ak_met (cs := cs_S_add) (reg := rg_S_add) (bl := bl_S_add) (by decide +kernel) rfl (cl_ok _) rfl ok_S_add ?_ vc_S_add
  intro a n b ci h
  match a, h with
  | 0, h =>
    cases h
    exact ak_ccV (ct_S_setRight l) rfl 204 205 206 22 207 (by decide +kernel) ⟨rfl, rfl⟩ (by decide +kernel) (by decide +kernel)
  | 1, h =>
    cases h
    exact ak_ccV (ct_S_putByKey l) rfl 211 212 2 22 213 (by decide +kernel) ⟨rfl, rfl⟩ (by decide +kernel) (by decide +kernel)
  | k + 2, h => cases h
def c0 (p : Nat → Bool) : Nat → Nat
  | 0 => 0
  | n + 1 => c0 p n + (if p n = true then 1 else 0)
def pt_S_logicalChild : ak_P := fun vs s Q => match vs with
  | [.ref 2, .int g, .int x] => ∃ n i : Nat, n ≤ 250 ∧ s.1 2 0 = nI n ∧ i < 2147483648 ∧ x = nI i ∧ (∀ j, j < n → ∃ e, e ≤ 250 ∧ s.1 15 j = nI e) ∧
      (∀ j, j < n → s.1 12 (s.1 15 j).toNatClampNeg = g → c0 (fun j => decide (s.1 12 (s.1 15 j).toNatClampNeg = g)) j = i → Q (some (.int (s.1 15 j))) s) ∧ (c0 (fun j => decide (s.1 12 (s.1 15 j).toNatClampNeg = g)) n ≤ i → Q (some (.int 0)) s)
  | _ => False
def cs_S_logicalChild : Nat → ak_P := fun _ _ _ _ => False
theorem vc_S_logicalChild : ak_VC lay_C cs_S_logicalChild bl_S_logicalChild 6 pt_S_logicalChild := by
  intro vs s Q h
  unfold pt_S_logicalChild at h
  split at h
  · rename_i g x
    obtain ⟨n, i, hn, hs, hi, rfl, he, hy, hno⟩ := h
    refine ⟨Nat.le_of_ble_eq_true rfl, fun J hJ => ?_⟩
    have loop : ∀ d j l (o : Option Value), j + d = n → c0 (fun j => decide (s.1 12 (s.1 15 j).toNatClampNeg = g)) j + l = i → J 5 [some (.ref 2), some (.int g), some (.int (nI i)), some (.int (nI l)), some (.int (nI j)), o] [] s := by
      intro d
      induction d with
      | zero =>
        intro j l o hj hl
        refine hJ 3 _ _ _ _ ?_
        simp only [Nat.reduceAdd, Nat.reduceLeDiff, Nat.zero_le, true_or, or_true, run_s, e_nop, e_iconst, e_bipush, e_sipush, e_lconst, e_iload, e_iload_n, e_lload, e_lload_n, e_aload, e_aload_n, e_istore, e_istore_n, e_iinc, e_iadd, e_isub, e_imul, e_lcmp, e_dupI, e_dupR, e_dup2, e_getfield, e_putfield, e_iaload, e_baload, e_laload, e_iastore, e_bastore, e_lastore, e_if, e_icmp, e_goto, e_tsw, e_ireturn0, e_ireturn1, e_return, e_call0, e_call1, e_call2, e_call3, lI_e, lL_e, lR_e, ak_nth, ak_set, ak_ok1, ak_jp, ak_b1, ak_b2, ak_sw, ak_la, ak_pad, true_and, and_true, List.map_cons, List.map_nil, List.sum_cons, List.sum_nil, Value.category, Option.toList_some, Option.toList_none, List.cons_append, List.nil_append, gC_0_0, gC_0_1, gC_0_2, gC_0_3, rC_0, gC_1_0, pC_1_0, gC_1_1, gC_1_2, gC_1_3, rC_1, gC_2_0, pC_2_0, gC_2_1, gC_2_2, gC_2_3, gC_2_4, gC_2_5, gC_2_6, gC_2_7, gC_2_8, rC_2, gC_3_0, pC_3_0, gC_3_1, gC_3_2, rC_3, gC_4_0, gC_4_1, gC_4_2, gC_4_3, gC_4_4, pC_4_4, rC_4, kC_5, kC_6, kC_7, kC_8, kC_9, kC_10, kC_11, kC_12, kC_13, kC_14, kC_15, kC_16, kC_17, kC_18, kC_19, fd_S_logicalChild_0, fd_S_logicalChild_5, fd_S_logicalChild_44, fd_S_logicalChild_50, bk_S_logicalChild_0, bk_S_logicalChild_5, bk_S_logicalChild_44, bk_S_logicalChild_50, hs]
        rw [q_le (by omega) (by omega)]
        have e : j = n := by omega
        subst e
        exact ⟨fun _ => hno (by omega), fun q => absurd (by omega) q⟩
      | succ d ih =>
        intro j l o hj hl
        obtain ⟨e, he1, he2⟩ := he j (by omega)
        refine hJ 4 _ _ _ _ ?_
        simp only [Nat.reduceAdd, Nat.reduceLeDiff, Nat.zero_le, true_or, or_true, run_s, e_nop, e_iconst, e_bipush, e_sipush, e_lconst, e_iload, e_iload_n, e_lload, e_lload_n, e_aload, e_aload_n, e_istore, e_istore_n, e_iinc, e_iadd, e_isub, e_imul, e_lcmp, e_dupI, e_dupR, e_dup2, e_getfield, e_putfield, e_iaload, e_baload, e_laload, e_iastore, e_bastore, e_lastore, e_if, e_icmp, e_goto, e_tsw, e_ireturn0, e_ireturn1, e_return, e_call0, e_call1, e_call2, e_call3, lI_e, lL_e, lR_e, ak_nth, ak_set, ak_ok1, ak_jp, ak_b1, ak_b2, ak_sw, ak_la, ak_pad, true_and, and_true, List.map_cons, List.map_nil, List.sum_cons, List.sum_nil, Value.category, Option.toList_some, Option.toList_none, List.cons_append, List.nil_append, gC_0_0, gC_0_1, gC_0_2, gC_0_3, rC_0, gC_1_0, pC_1_0, gC_1_1, gC_1_2, gC_1_3, rC_1, gC_2_0, pC_2_0, gC_2_1, gC_2_2, gC_2_3, gC_2_4, gC_2_5, gC_2_6, gC_2_7, gC_2_8, rC_2, gC_3_0, pC_3_0, gC_3_1, gC_3_2, rC_3, gC_4_0, gC_4_1, gC_4_2, gC_4_3, gC_4_4, pC_4_4, rC_4, kC_5, kC_6, kC_7, kC_8, kC_9, kC_10, kC_11, kC_12, kC_13, kC_14, kC_15, kC_16, kC_17, kC_18, kC_19, fd_S_logicalChild_0, fd_S_logicalChild_5, fd_S_logicalChild_44, fd_S_logicalChild_50, bk_S_logicalChild_0, bk_S_logicalChild_5, bk_S_logicalChild_44, bk_S_logicalChild_50, hs, nI_1]
        rw [q_le (by omega) (by omega), q_cl (by omega), he2, q_cl (by omega)]
        refine ⟨fun q => absurd q (by omega), fun _ => ⟨q_in (by omega) (by omega), q_in (by omega) (by omega), fun q => ?_, fun q => ⟨fun q2 => ?_, fun q2 => ?_⟩⟩⟩
        · refine ih (j + 1) l _ (by omega) ?_
          have hz : c0 (fun j => decide (s.1 12 (s.1 15 j).toNatClampNeg = g)) (j + 1) = c0 (fun j => decide (s.1 12 (s.1 15 j).toNatClampNeg = g)) j := by
            simp only [c0, he2, q_cl (show e < 2147483648 by omega)]
            simp [q]
          omega
        · have hl0 : 0 < l := by
            rcases Nat.eq_zero_or_pos l with z | z
            · subst z; exact absurd rfl q2
            · exact z
          obtain ⟨l', rfl⟩ : ∃ l', l = l' + 1 := ⟨l - 1, by omega⟩
          rw [pk_m1]
          refine ih (j + 1) l' _ (by omega) ?_
          have hz : c0 (fun j => decide (s.1 12 (s.1 15 j).toNatClampNeg = g)) (j + 1) = c0 (fun j => decide (s.1 12 (s.1 15 j).toNatClampNeg = g)) j + 1 := by
            simp only [c0, he2, q_cl (show e < 2147483648 by omega)]
            simp [q]
          omega
        · rw [n_0, q_eq (by omega) (by omega)] at q2
          have := hy j (by omega) (by rw [he2, q_cl (by omega)]; exact q) (by omega)
          rw [he2] at this
          exact this
    refine hJ 3 _ _ _ _ ?_
    simp only [Nat.reduceAdd, Nat.reduceLeDiff, Nat.zero_le, true_or, or_true, run_s, e_nop, e_iconst, e_bipush, e_sipush, e_lconst, e_iload, e_iload_n, e_lload, e_lload_n, e_aload, e_aload_n, e_istore, e_istore_n, e_iinc, e_iadd, e_isub, e_imul, e_lcmp, e_dupI, e_dupR, e_dup2, e_getfield, e_putfield, e_iaload, e_baload, e_laload, e_iastore, e_bastore, e_lastore, e_if, e_icmp, e_goto, e_tsw, e_ireturn0, e_ireturn1, e_return, e_call0, e_call1, e_call2, e_call3, lI_e, lL_e, lR_e, ak_nth, ak_set, ak_ok1, ak_jp, ak_b1, ak_b2, ak_sw, ak_la, ak_pad, true_and, and_true, List.map_cons, List.map_nil, List.sum_cons, List.sum_nil, Value.category, Option.toList_some, Option.toList_none, List.cons_append, List.nil_append, gC_0_0, gC_0_1, gC_0_2, gC_0_3, rC_0, gC_1_0, pC_1_0, gC_1_1, gC_1_2, gC_1_3, rC_1, gC_2_0, pC_2_0, gC_2_1, gC_2_2, gC_2_3, gC_2_4, gC_2_5, gC_2_6, gC_2_7, gC_2_8, rC_2, gC_3_0, pC_3_0, gC_3_1, gC_3_2, rC_3, gC_4_0, gC_4_1, gC_4_2, gC_4_3, gC_4_4, pC_4_4, rC_4, kC_5, kC_6, kC_7, kC_8, kC_9, kC_10, kC_11, kC_12, kC_13, kC_14, kC_15, kC_16, kC_17, kC_18, kC_19, fd_S_logicalChild_0, fd_S_logicalChild_5, fd_S_logicalChild_44, fd_S_logicalChild_50, bk_S_logicalChild_0, bk_S_logicalChild_5, bk_S_logicalChild_44, bk_S_logicalChild_50]
    exact loop n 0 i _ (by omega) (by simp [c0])
  · exact h.elim
set_option maxRecDepth 20000 in
theorem ct_S_logicalChild (l : Launch) : ak_Ctr l cl_all lay_C y_S_logicalChild ws_S_logicalChild rm_S_logicalChild pt_S_logicalChild := by
  refine ak_met (cs := cs_S_logicalChild) (reg := rg_S_logicalChild) (bl := bl_S_logicalChild) (by decide +kernel) rfl (cl_ok _) rfl ok_S_logicalChild ?_ vc_S_logicalChild
  intro a n b ci h
  match a, h with
  | k + 0, h => cases h
end
section
/-! Deletion: what is gathered -/
def c_D (s : ak_S) (gs gg : Nat → Int32) (mm : Int32) : ak_S := (fun k => if k = 18 then gs else if k = 19 then gg else if k = 4 then (fun j => if j = 4 then mm else s.1 4 j) else s.1 k, s.2)
theorem c_D_self (s : ak_S) : c_D s (s.1 18) (s.1 19) (s.1 4 4) = s := by
  apply Prod.ext
  · funext k j
    simp only [c_D]
    by_cases h1 : k = 18
    · subst h1; simp
    · by_cases h2 : k = 19
      · subst h2; simp
      · by_cases h3 : k = 4
        · subst h3
          by_cases h4 : j = 4
          · subst h4; simp
          · simp [h4]
        · simp [h1, h2, h3]
  · rfl
theorem c_D_o {s : ak_S} {gs gg : Nat → Int32} {mm : Int32} {k j : Nat} (h1 : k ≠ 18) (h2 : k ≠ 19) (h3 : k ≠ 4) : (c_D s gs gg mm).1 k j = s.1 k j := by simp [c_D, h1, h2, h3]
theorem c_D_18 {s : ak_S} {gs gg : Nat → Int32} {mm : Int32} {j : Nat} : (c_D s gs gg mm).1 18 j = gs j := by simp [c_D]
theorem c_D_19 {s : ak_S} {gs gg : Nat → Int32} {mm : Int32} {j : Nat} : (c_D s gs gg mm).1 19 j = gg j := by simp [c_D]
theorem c_D_4 {s : ak_S} {gs gg : Nat → Int32} {mm : Int32} : (c_D s gs gg mm).1 4 4 = mm := by simp [c_D]
theorem c_D_p18 {s : ak_S} {gs gg : Nat → Int32} {mm x : Int32} {e : Nat} : ak_p1 (c_D s gs gg mm) 18 e x = c_D s (upd gs e x) gg mm := by
  apply Prod.ext
  · funext k j
    by_cases h1 : k = 18
    · subst h1; simp [ak_p1, c_D]
    · simp [ak_p1, c_D, h1]
  · rfl
theorem c_D_p19 {s : ak_S} {gs gg : Nat → Int32} {mm x : Int32} {e : Nat} : ak_p1 (c_D s gs gg mm) 19 e x = c_D s gs (upd gg e x) mm := by
  apply Prod.ext
  · funext k j
    by_cases h1 : k = 19
    · subst h1; simp [ak_p1, c_D]
    · simp [ak_p1, c_D, h1]
  · rfl
theorem c_D_p4 {s : ak_S} {gs gg : Nat → Int32} {mm x : Int32} : ak_p1 (c_D s gs gg mm) 4 4 x = c_D s gs gg x := by
  apply Prod.ext
  · funext k j
    by_cases h1 : k = 4
    · subst h1
      by_cases h2 : j = 4
      · subst h2; simp [ak_p1, c_D, upd]
      · simp [ak_p1, c_D, upd, h2]
    · simp [ak_p1, c_D, h1]
  · rfl
def pt_D_add : ak_P := fun vs s Q => match vs with
  | [.ref 4, .int x] => ∃ e m : Nat, e ≤ 250 ∧ m ≤ 250 ∧ x = nI e ∧ s.1 4 4 = nI m ∧ (¬ s.1 18 e = 0 ∨ m = 250 → Q none s) ∧ (s.1 18 e = 0 → m < 250 → Q none (ak_p1 (ak_p1 (ak_p1 s 18 e 1) 19 m (nI e)) 4 4 (nI (m + 1))))
  | _ => False
def cs_D_add : Nat → ak_P := fun _ _ _ _ => False
theorem vc_D_add : ak_VC lay_C cs_D_add bl_D_add 2 pt_D_add := by
  intro vs s Q h
  unfold pt_D_add at h
  split at h
  · rename_i x
    obtain ⟨e, m, he, hm, rfl, hs, h1, h2⟩ := h
    refine ⟨Nat.le_of_ble_eq_true rfl, fun J hJ => hJ 3 _ _ _ _ ?_⟩
    simp only [Nat.reduceAdd, Nat.reduceLeDiff, Nat.zero_le, true_or, or_true, run_s, e_nop, e_iconst, e_bipush, e_sipush, e_lconst, e_iload, e_iload_n, e_lload, e_lload_n, e_aload, e_aload_n, e_istore, e_istore_n, e_iinc, e_iadd, e_isub, e_imul, e_lcmp, e_dupI, e_dupR, e_dup2, e_getfield, e_putfield, e_iaload, e_baload, e_laload, e_iastore, e_bastore, e_lastore, e_if, e_icmp, e_goto, e_tsw, e_ireturn0, e_ireturn1, e_return, e_call0, e_call1, e_call2, e_call3, lI_e, lL_e, lR_e, ak_nth, ak_set, ak_ok1, ak_jp, ak_b1, ak_b2, ak_sw, ak_la, ak_pad, true_and, and_true, List.map_cons, List.map_nil, List.sum_cons, List.sum_nil, Value.category, Option.toList_some, Option.toList_none, List.cons_append, List.nil_append, gC_0_0, gC_0_1, gC_0_2, gC_0_3, rC_0, gC_1_0, pC_1_0, gC_1_1, gC_1_2, gC_1_3, rC_1, gC_2_0, pC_2_0, gC_2_1, gC_2_2, gC_2_3, gC_2_4, gC_2_5, gC_2_6, gC_2_7, gC_2_8, rC_2, gC_3_0, pC_3_0, gC_3_1, gC_3_2, rC_3, gC_4_0, gC_4_1, gC_4_2, gC_4_3, gC_4_4, pC_4_4, rC_4, kC_5, kC_6, kC_7, kC_8, kC_9, kC_10, kC_11, kC_12, kC_13, kC_14, kC_15, kC_16, kC_17, kC_18, kC_19, fd_D_add_0, fd_D_add_19, fd_D_add_20, bk_D_add_0, bk_D_add_19, bk_D_add_20, p1_o, hs, nI_1, ne_eq, Nat.reduceEqDiff, not_false_eq_true]
    rw [n_250, q_lt (by omega) (by omega), q_cl (by omega), q_cl (by omega)]
    refine ⟨q_in (by omega) (by omega), fun q => h1 (Or.inl q), fun q => ⟨fun q2 => ⟨q_in (by omega) (by omega), q_in (by omega) (by omega), h2 q q2⟩, fun q2 => h1 (Or.inr (by omega))⟩⟩
  · exact h.elim
set_option maxRecDepth 20000 in
theorem ct_D_add (l : Launch) : ak_Ctr l cl_all lay_C y_D_add ws_D_add rm_D_add pt_D_add := by
  refine ak_met (cs := cs_D_add) (reg := rg_D_add) (bl := bl_D_add) (by decide +kernel) rfl (cl_ok _) rfl ok_D_add ?_ vc_D_add
  intro a n b ci h
  match a, h with
  | k + 0, h => cases h
def pt_D_isRelatedByRule : ak_P := fun vs s Q => match vs with
  | [.ref 4, .int x, .int o, .int r] => ∃ e c : Nat, e ≤ 250 ∧ c < 16 ∧ x = nI e ∧ s.1 8 e = nI c ∧ Q (some (.int (if s.1 12 e = o ∧ s.1 7 c = r then 1 else 0))) s
  | _ => False
def cs_D_isRelatedByRule : Nat → ak_P := fun _ _ _ _ => False
theorem vc_D_isRelatedByRule : ak_VC lay_C cs_D_isRelatedByRule bl_D_isRelatedByRule 4 pt_D_isRelatedByRule := by
  intro vs s Q h
  unfold pt_D_isRelatedByRule at h
  split at h
  · rename_i x o r
    obtain ⟨e, c, he, hc, rfl, hk, h⟩ := h
    refine ⟨Nat.le_of_ble_eq_true rfl, fun J hJ => hJ 3 _ _ _ _ ?_⟩
    simp only [Nat.reduceAdd, Nat.reduceLeDiff, Nat.zero_le, true_or, or_true, run_s, e_nop, e_iconst, e_bipush, e_sipush, e_lconst, e_iload, e_iload_n, e_lload, e_lload_n, e_aload, e_aload_n, e_istore, e_istore_n, e_iinc, e_iadd, e_isub, e_imul, e_lcmp, e_dupI, e_dupR, e_dup2, e_getfield, e_putfield, e_iaload, e_baload, e_laload, e_iastore, e_bastore, e_lastore, e_if, e_icmp, e_goto, e_tsw, e_ireturn0, e_ireturn1, e_return, e_call0, e_call1, e_call2, e_call3, lI_e, lL_e, lR_e, ak_nth, ak_set, ak_ok1, ak_jp, ak_b1, ak_b2, ak_sw, ak_la, ak_pad, true_and, and_true, List.map_cons, List.map_nil, List.sum_cons, List.sum_nil, Value.category, Option.toList_some, Option.toList_none, List.cons_append, List.nil_append, gC_0_0, gC_0_1, gC_0_2, gC_0_3, rC_0, gC_1_0, pC_1_0, gC_1_1, gC_1_2, gC_1_3, rC_1, gC_2_0, pC_2_0, gC_2_1, gC_2_2, gC_2_3, gC_2_4, gC_2_5, gC_2_6, gC_2_7, gC_2_8, rC_2, gC_3_0, pC_3_0, gC_3_1, gC_3_2, rC_3, gC_4_0, gC_4_1, gC_4_2, gC_4_3, gC_4_4, pC_4_4, rC_4, kC_5, kC_6, kC_7, kC_8, kC_9, kC_10, kC_11, kC_12, kC_13, kC_14, kC_15, kC_16, kC_17, kC_18, kC_19, fd_D_isRelatedByRule_0, fd_D_isRelatedByRule_38, fd_D_isRelatedByRule_39, bk_D_isRelatedByRule_0, bk_D_isRelatedByRule_38, bk_D_isRelatedByRule_39]
    rw [q_cl (by omega), hk, q_cl (by omega)]
    refine ⟨q_in (by omega) (by omega), fun q => ?_, fun q => ⟨q_in (by omega) (by omega), q_in (by omega) (by omega), fun q2 => ?_, fun q2 => ?_⟩⟩
    · rw [if_neg (fun z => q z.1)] at h; exact h
    · rw [if_neg (fun z => q2 z.2)] at h; exact h
    · rw [if_pos ⟨q, q2⟩] at h; exact h
  · exact h.elim
set_option maxRecDepth 20000 in
theorem ct_D_isRelatedByRule (l : Launch) : ak_Ctr l cl_all lay_C y_D_isRelatedByRule ws_D_isRelatedByRule rm_D_isRelatedByRule pt_D_isRelatedByRule := by
  refine ak_met (cs := cs_D_isRelatedByRule) (reg := rg_D_isRelatedByRule) (bl := bl_D_isRelatedByRule) (by decide +kernel) rfl (cl_ok _) rfl ok_D_isRelatedByRule ?_ vc_D_isRelatedByRule
  intro a n b ci h
  match a, h with
  | k + 0, h => cases h
/-- x takes j: j is under it, or is related to it by rule 2 -/
def tk (s : ak_S) (x j : Nat) : Prop := s.1 9 j = nI x ∨ (s.1 12 j = nI x ∧ s.1 7 (s.1 8 j).toNatClampNeg = 2)
def rch (s : ak_S) (n a e : Nat) : Prop := ∀ S : Nat → Prop, S a → (∀ x j, S x → 1 ≤ j → j ≤ n → tk s x j → S j) → S e
theorem rch_self {s : ak_S} {n a : Nat} : rch s n a a := fun _ h _ => h
theorem rch_step {s : ak_S} {n a x j : Nat} (h : rch s n a x) (h1 : 1 ≤ j) (h2 : j ≤ n) (ht : tk s x j) : rch s n a j := fun S h0 hc => hc x j (h S h0 hc) h1 h2 ht
/-- what the gathered row holds -/
def DI (s : ak_S) (n a : Nat) (gs gg : Nat → Int32) (m : Nat) : Prop := m = cn (fun j => decide (gs j = 1)) n ∧ (∀ j, j ≤ 250 → gs j = 0 ∨ gs j = 1) ∧ (∀ j, j ≤ 250 → gs j = 1 → 1 ≤ j ∧ j ≤ n ∧ rch s n a j) ∧ (∀ p, p < m → ∃ e, 1 ≤ e ∧ e ≤ n ∧ gg p = nI e ∧ gs e = 1) ∧ (∀ e, e ≤ 250 → gs e = 1 → ∃ p, p < m ∧ gg p = nI e)
theorem cn_congr {p q : Nat → Bool} : ∀ {n : Nat}, (∀ j, 1 ≤ j → j ≤ n → p j = q j) → cn p n = cn q n
  | 0, _ => rfl
  | n + 1, h => by
    rw [cn, cn, cn_congr (n := n) (fun j h1 h2 => h j h1 (by omega)), h (n + 1) (by omega) (by omega)]
theorem cn_add {p q : Nat → Bool} {e : Nat} : ∀ {n : Nat}, 1 ≤ e → e ≤ n → p e = false → q e = true → (∀ j, 1 ≤ j → j ≤ n → j ≠ e → q j = p j) → cn q n = cn p n + 1
  | 0, h1, h2, _, _, _ => by omega
  | n + 1, h1, h2, hp, hq, h => by
    by_cases he : e = n + 1
    · subst he
      rw [cn, cn, hp, hq, cn_congr (p := q) (q := p) (fun j a b => h j a (by omega) (by omega))]
      simp
    · rw [cn, cn, cn_add (n := n) h1 (by omega) hp hq (fun j a b c => h j a (by omega) c), h (n + 1) (by omega) (by omega) (Ne.symm he)]
      omega
/-- one more -/
theorem DI_add {s : ak_S} {n a m e : Nat} {gs gg : Nat → Int32} (hn : n ≤ 250) (h : DI s n a gs gg m) (h1 : 1 ≤ e) (h2 : e ≤ n) (hg : gs e = 0) (hr : rch s n a e) : m < 250 ∧ DI s n a (upd gs e 1) (upd gg m (nI e)) (m + 1) := by
  obtain ⟨hm, hb, hs, hp, hc⟩ := h
  have hcn : cn (fun j => decide ((upd gs e 1) j = 1)) n = m + 1 := by
    rw [hm]
    refine cn_add (e := e) h1 h2 ?_ ?_ ?_
    · simp [hg]
    · simp [upd]
    · intro j _ _ hj
      simp [upd, hj]
  have hle := cn_le (fun j => decide ((upd gs e 1) j = 1)) n
  refine ⟨by omega, hcn.symm, ?_, ?_, ?_, ?_⟩
  · intro j hj
    by_cases q : j = e
    · right; simp [upd, q]
    · simp only [upd, q, if_false]
      exact hb j hj
  · intro j hj hq
    by_cases q : j = e
    · subst q; exact ⟨h1, h2, hr⟩
    · simp only [upd, q, if_false] at hq
      exact hs j hj hq
  · intro p hpm
    by_cases q : p = m
    · subst q
      exact ⟨e, h1, h2, by simp [upd], by simp [upd]⟩
    · obtain ⟨e', a1, a2, a3, a4⟩ := hp p (by omega)
      refine ⟨e', a1, a2, by simp only [upd, q, if_false]; exact a3, ?_⟩
      by_cases q2 : e' = e
      · simp [upd, q2]
      · simp only [upd, q2, if_false]; exact a4
  · intro j hj hq
    by_cases q : j = e
    · subst q
      exact ⟨m, by omega, by simp [upd]⟩
    · simp only [upd, q, if_false] at hq
      obtain ⟨p, a1, a2⟩ := hc j hj hq
      exact ⟨p, by omega, by simp only [upd, show p ≠ m by omega, if_false]; exact a2⟩
end
section
/-! gathering: the worklist -/
def pt_D_addThoseTakenBy : ak_P := fun vs S Q => match vs with
  | [.ref 4, .int x] => ∃ (s : ak_S) (n a m t : Nat) (gs gg : Nat → Int32), S = c_D s gs gg (nI m) ∧ n ≤ 250 ∧ s.1 2 0 = nI n ∧ (∀ j, 1 ≤ j → j ≤ n → ∃ c, c < 16 ∧ s.1 8 j = nI c) ∧ x = nI t ∧ t ≤ 250 ∧ DI s n a gs gg m ∧ gs t = 1 ∧
      ∀ (gs' gg' : Nat → Int32) (m' : Nat), DI s n a gs' gg' m' → (∀ j, j ≤ 250 → gs j = 1 → gs' j = 1) → (∀ p, p < m → gg' p = gg p) → m ≤ m' → (∀ j, 1 ≤ j → j ≤ n → tk s t j → gs' j = 1) → Q none (c_D s gs' gg' (nI m'))
  | _ => False
def cs_D_addThoseTakenBy : Nat → ak_P := fun a => match a with
  | 0 => pt_D_isRelatedByRule
  | _ => pt_D_add
theorem vc_D_addThoseTakenBy : ak_VC lay_C cs_D_addThoseTakenBy bl_D_addThoseTakenBy 3 pt_D_addThoseTakenBy := by
  intro vs S Q h
  unfold pt_D_addThoseTakenBy at h
  split at h
  · rename_i x
    obtain ⟨s, n, a, m, t, gs, gg, rfl, hn, hs, hk, rfl, ht, hDI, hgt, h⟩ := h
    refine ⟨Nat.le_of_ble_eq_true rfl, fun J hJ => ?_⟩
    have htn := hDI.2.2.1 t ht hgt
    have loop : ∀ d i (gs1 gg1 : Nat → Int32) (m1 : Nat), i + d = n → DI s n a gs1 gg1 m1 → (∀ j, j ≤ 250 → gs j = 1 → gs1 j = 1) → (∀ p, p < m → gg1 p = gg p) → m ≤ m1 → (∀ j, 1 ≤ j → j ≤ i → tk s t j → gs1 j = 1) →
        J 2 [some (.ref 4), some (.int (nI t)), some (.int (nI (i + 1)))] [] (c_D s gs1 gg1 (nI m1)) := by
      intro d
      induction d with
      | zero =>
        intro i gs1 gg1 m1 hi hD hmo hpr hmm hcl
        refine hJ 3 _ _ _ _ ?_
        simp only [Nat.reduceAdd, Nat.reduceLeDiff, Nat.zero_le, true_or, or_true, run_s, e_nop, e_iconst, e_bipush, e_sipush, e_lconst, e_iload, e_iload_n, e_lload, e_lload_n, e_aload, e_aload_n, e_istore, e_istore_n, e_iinc, e_iadd, e_isub, e_imul, e_lcmp, e_dupI, e_dupR, e_dup2, e_getfield, e_putfield, e_iaload, e_baload, e_laload, e_iastore, e_bastore, e_lastore, e_if, e_icmp, e_goto, e_tsw, e_ireturn0, e_ireturn1, e_return, e_call0, e_call1, e_call2, e_call3, lI_e, lL_e, lR_e, ak_nth, ak_set, ak_ok1, ak_jp, ak_b1, ak_b2, ak_sw, ak_la, ak_pad, true_and, and_true, List.map_cons, List.map_nil, List.sum_cons, List.sum_nil, Value.category, Option.toList_some, Option.toList_none, List.cons_append, List.nil_append, gC_0_0, gC_0_1, gC_0_2, gC_0_3, rC_0, gC_1_0, pC_1_0, gC_1_1, gC_1_2, gC_1_3, rC_1, gC_2_0, pC_2_0, gC_2_1, gC_2_2, gC_2_3, gC_2_4, gC_2_5, gC_2_6, gC_2_7, gC_2_8, rC_2, gC_3_0, pC_3_0, gC_3_1, gC_3_2, rC_3, gC_4_0, gC_4_1, gC_4_2, gC_4_3, gC_4_4, pC_4_4, rC_4, kC_5, kC_6, kC_7, kC_8, kC_9, kC_10, kC_11, kC_12, kC_13, kC_14, kC_15, kC_16, kC_17, kC_18, kC_19, fd_D_addThoseTakenBy_0, fd_D_addThoseTakenBy_2, fd_D_addThoseTakenBy_36, fd_D_addThoseTakenBy_41, fd_D_addThoseTakenBy_47, bk_D_addThoseTakenBy_0, bk_D_addThoseTakenBy_2, bk_D_addThoseTakenBy_36, bk_D_addThoseTakenBy_41, bk_D_addThoseTakenBy_47, cs_D_addThoseTakenBy, c_D_o, hs, ne_eq, Nat.reduceEqDiff, not_false_eq_true]
        rw [q_lt (by omega) (by omega)]
        have e : i = n := by omega
        subst e
        exact ⟨fun _ => h gs1 gg1 m1 hD hmo hpr hmm hcl, fun q => absurd (by omega) q⟩
      | succ d ih =>
        intro i gs1 gg1 m1 hi hD hmo hpr hmm hcl
        have hadd : tk s t (i + 1) → pt_D_add [.ref 4, .int (nI (i + 1))] (c_D s gs1 gg1 (nI m1)) (fun r s' => J 2 [some (.ref 4), some (.int (nI t)), some (.int (nI (i + 1 + 1)))] (r.toList ++ []) s') := by
          intro htk
          refine ⟨i + 1, m1, by omega, ?_, rfl, c_D_4, ?_, ?_⟩
          · have := cn_le (fun j => decide (gs1 j = 1)) n
            have := hD.1
            omega
          · rw [c_D_18]
            intro q
            have hg1 : gs1 (i + 1) = 1 := by
              rcases hD.2.1 (i + 1) (by omega) with z | z
              · exfalso
                rcases q with q | q
                · exact q z
                · have := (DI_add hn hD (by omega) (by omega) z (rch_step (hDI.2.2.1 t ht hgt).2.2 (by omega) (by omega) htk)).1
                  omega
              · exact z
            refine ih (i + 1) gs1 gg1 m1 (by omega) hD hmo hpr hmm (fun j h1 h2 h3 => ?_)
            by_cases e : j = i + 1
            · rw [e]; exact hg1
            · exact hcl j h1 (by omega) h3
          · rw [c_D_18, c_D_p18, c_D_p19, c_D_p4]
            intro q _
            have hD2 := (DI_add hn hD (by omega) (by omega) q (rch_step (hDI.2.2.1 t ht hgt).2.2 (by omega) (by omega) htk)).2
            refine ih (i + 1) _ _ (m1 + 1) (by omega) hD2 (fun j h1 h2 => ?_) (fun p hp => ?_) (by omega) (fun j h1 h2 h3 => ?_)
            · by_cases e : j = i + 1
              · simp [upd, e]
              · simp only [upd, e, if_false]; exact hmo j h1 h2
            · simp only [upd, show p ≠ m1 by omega, if_false]
              exact hpr p hp
            · by_cases e : j = i + 1
              · simp [upd, e]
              · simp only [upd, e, if_false]; exact hcl j h1 (by omega) h3
        obtain ⟨c, hc, hkc⟩ := hk (i + 1) (by omega) (by omega)
        refine hJ 4 _ _ _ _ ?_
        simp only [Nat.reduceAdd, Nat.reduceLeDiff, Nat.zero_le, true_or, or_true, run_s, e_nop, e_iconst, e_bipush, e_sipush, e_lconst, e_iload, e_iload_n, e_lload, e_lload_n, e_aload, e_aload_n, e_istore, e_istore_n, e_iinc, e_iadd, e_isub, e_imul, e_lcmp, e_dupI, e_dupR, e_dup2, e_getfield, e_putfield, e_iaload, e_baload, e_laload, e_iastore, e_bastore, e_lastore, e_if, e_icmp, e_goto, e_tsw, e_ireturn0, e_ireturn1, e_return, e_call0, e_call1, e_call2, e_call3, lI_e, lL_e, lR_e, ak_nth, ak_set, ak_ok1, ak_jp, ak_b1, ak_b2, ak_sw, ak_la, ak_pad, true_and, and_true, List.map_cons, List.map_nil, List.sum_cons, List.sum_nil, Value.category, Option.toList_some, Option.toList_none, List.cons_append, List.nil_append, gC_0_0, gC_0_1, gC_0_2, gC_0_3, rC_0, gC_1_0, pC_1_0, gC_1_1, gC_1_2, gC_1_3, rC_1, gC_2_0, pC_2_0, gC_2_1, gC_2_2, gC_2_3, gC_2_4, gC_2_5, gC_2_6, gC_2_7, gC_2_8, rC_2, gC_3_0, pC_3_0, gC_3_1, gC_3_2, rC_3, gC_4_0, gC_4_1, gC_4_2, gC_4_3, gC_4_4, pC_4_4, rC_4, kC_5, kC_6, kC_7, kC_8, kC_9, kC_10, kC_11, kC_12, kC_13, kC_14, kC_15, kC_16, kC_17, kC_18, kC_19, fd_D_addThoseTakenBy_0, fd_D_addThoseTakenBy_2, fd_D_addThoseTakenBy_36, fd_D_addThoseTakenBy_41, fd_D_addThoseTakenBy_47, bk_D_addThoseTakenBy_0, bk_D_addThoseTakenBy_2, bk_D_addThoseTakenBy_36, bk_D_addThoseTakenBy_41, bk_D_addThoseTakenBy_47, cs_D_addThoseTakenBy, c_D_o, hs, ne_eq, Nat.reduceEqDiff, not_false_eq_true, nI_1, pt_D_isRelatedByRule]
        rw [q_lt (by omega) (by omega), q_cl (by omega)]
        refine ⟨fun q => absurd q (by omega), fun _ => ⟨q_in (by omega) (by omega), fun q => ?_, fun q => ?_⟩⟩
        · exact hadd (Or.inl q)
        · refine ⟨i + 1, c, by omega, hc, rfl, hkc, fun q2 => ?_, fun q2 => ?_⟩
          · refine ih (i + 1) gs1 gg1 m1 (by omega) hD hmo hpr hmm (fun j h1 h2 h3 => ?_)
            by_cases e : j = i + 1
            · exfalso
              subst e
              rcases h3 with z | z
              · exact q z
              · rw [hkc, q_cl (by omega)] at z
                rw [if_pos z] at q2
                exact absurd q2 (by decide)
            · exact hcl j h1 (by omega) h3
          · refine hadd (Or.inr ?_)
            rw [hkc, q_cl (by omega)]
            by_cases z : s.1 12 (i + 1) = nI t ∧ s.1 7 c = 2
            · exact z
            · rw [if_neg z] at q2
              exact absurd rfl q2
    refine hJ 3 _ _ _ _ ?_
    simp only [Nat.reduceAdd, Nat.reduceLeDiff, Nat.zero_le, true_or, or_true, run_s, e_nop, e_iconst, e_bipush, e_sipush, e_lconst, e_iload, e_iload_n, e_lload, e_lload_n, e_aload, e_aload_n, e_istore, e_istore_n, e_iinc, e_iadd, e_isub, e_imul, e_lcmp, e_dupI, e_dupR, e_dup2, e_getfield, e_putfield, e_iaload, e_baload, e_laload, e_iastore, e_bastore, e_lastore, e_if, e_icmp, e_goto, e_tsw, e_ireturn0, e_ireturn1, e_return, e_call0, e_call1, e_call2, e_call3, lI_e, lL_e, lR_e, ak_nth, ak_set, ak_ok1, ak_jp, ak_b1, ak_b2, ak_sw, ak_la, ak_pad, true_and, and_true, List.map_cons, List.map_nil, List.sum_cons, List.sum_nil, Value.category, Option.toList_some, Option.toList_none, List.cons_append, List.nil_append, gC_0_0, gC_0_1, gC_0_2, gC_0_3, rC_0, gC_1_0, pC_1_0, gC_1_1, gC_1_2, gC_1_3, rC_1, gC_2_0, pC_2_0, gC_2_1, gC_2_2, gC_2_3, gC_2_4, gC_2_5, gC_2_6, gC_2_7, gC_2_8, rC_2, gC_3_0, pC_3_0, gC_3_1, gC_3_2, rC_3, gC_4_0, gC_4_1, gC_4_2, gC_4_3, gC_4_4, pC_4_4, rC_4, kC_5, kC_6, kC_7, kC_8, kC_9, kC_10, kC_11, kC_12, kC_13, kC_14, kC_15, kC_16, kC_17, kC_18, kC_19, fd_D_addThoseTakenBy_0, fd_D_addThoseTakenBy_2, fd_D_addThoseTakenBy_36, fd_D_addThoseTakenBy_41, fd_D_addThoseTakenBy_47, bk_D_addThoseTakenBy_0, bk_D_addThoseTakenBy_2, bk_D_addThoseTakenBy_36, bk_D_addThoseTakenBy_41, bk_D_addThoseTakenBy_47, cs_D_addThoseTakenBy]
    exact loop n 0 gs gg m (by omega) hDI (fun _ _ h => h) (fun _ _ => rfl) (Nat.le_refl m) (fun j h1 h2 => absurd h2 (by omega))
  · exact h.elim
set_option maxRecDepth 20000 in
theorem ct_D_addThoseTakenBy (l : Launch) : ak_Ctr l cl_all lay_C y_D_addThoseTakenBy ws_D_addThoseTakenBy rm_D_addThoseTakenBy pt_D_addThoseTakenBy := by
  refine ak_met (cs := cs_D_addThoseTakenBy) (reg := rg_D_addThoseTakenBy) (bl := bl_D_addThoseTakenBy) (by decide +kernel) rfl (cl_ok _) rfl ok_D_addThoseTakenBy ?_ vc_D_addThoseTakenBy
  intro a n b ci h
  match a, h with
  | 0, h =>
    cases h
    exact ak_ccV (ct_D_isRelatedByRule l) rfl 237 238 5 24 239 (by decide +kernel) ⟨rfl, rfl⟩ (by decide +kernel) (by decide +kernel)
  | 1, h =>
    cases h
    exact ak_ccV (ct_D_add l) rfl 231 232 3 24 233 (by decide +kernel) ⟨rfl, rfl⟩ (by decide +kernel) (by decide +kernel)
  | k + 2, h => cases h
def pt_D_gather : ak_P := fun vs s Q => match vs with
  | [.ref 4, .int x] => ∃ (n a : Nat), n ≤ 250 ∧ s.1 2 0 = nI n ∧ (∀ j, 1 ≤ j → j ≤ n → ∃ c, c < 16 ∧ s.1 8 j = nI c) ∧ x = nI a ∧ 1 ≤ a ∧ a ≤ n ∧
      ∀ (gs' gg' : Nat → Int32) (m' : Nat), DI s n a gs' gg' m' → (∀ j, j ≤ 250 → (gs' j = 1 ↔ (1 ≤ j ∧ j ≤ n ∧ rch s n a j))) → Q none (c_D s gs' gg' (nI m'))
  | _ => False
def cs_D_gather : Nat → ak_P := fun a => match a with
  | 0 => pt_D_add
  | _ => pt_D_addThoseTakenBy
theorem vc_D_gather : ak_VC lay_C cs_D_gather bl_D_gather 3 pt_D_gather := by
  intro vs s Q h
  unfold pt_D_gather at h
  split at h
  · rename_i x
    obtain ⟨n, a, hn, hs, hk, rfl, ha1, ha2, h⟩ := h
    refine ⟨Nat.le_of_ble_eq_true rfl, fun J hJ => ?_⟩
    have main : ∀ d p (gs gg : Nat → Int32) (m : Nat) , p + d = 250 → DI s n a gs gg m → gs a = 1 → (∀ q e, q < p → q < m → gg q = nI e → e ≤ 250 → ∀ j, 1 ≤ j → j ≤ n → tk s e j → gs j = 1) → J 34 [some (.ref 4), some (.int (nI a)), some (.int (nI p))] [] (c_D s gs gg (nI m)) := by
      have fin : ∀ (p : Nat) (gs gg : Nat → Int32) (m : Nat), DI s n a gs gg m → gs a = 1 → m ≤ p → (∀ q e, q < p → q < m → gg q = nI e → e ≤ 250 → ∀ j, 1 ≤ j → j ≤ n → tk s e j → gs j = 1) → Q none (c_D s gs gg (nI m)) := by
        intro p gs gg m hD hga hmp hcl
        refine h gs gg m hD (fun j hj => ⟨fun q => hD.2.2.1 j hj q, fun q => ?_⟩)
        have := q.2.2 (fun e => e ≤ n ∧ gs e = 1) ⟨ha2, hga⟩ (fun x j hx h1 h2 h3 => ?_)
        · exact this.2
        · obtain ⟨p', b1, b2⟩ := hD.2.2.2.2 x (by omega) hx.2
          exact ⟨h2, hcl p' x (by omega) b1 b2 (by omega) j h1 h2 h3⟩
      intro d
      induction d with
      | zero =>
        intro p gs gg m hp hD hga hcl
        have hmn := cn_le (fun j => decide (gs j = 1)) n
        have := hD.1
        have e : p = 250 := by omega
        subst e
        refine hJ 3 _ _ _ _ ?_
        simp only [Nat.reduceAdd, Nat.reduceLeDiff, Nat.zero_le, true_or, or_true, run_s, e_nop, e_iconst, e_bipush, e_sipush, e_lconst, e_iload, e_iload_n, e_lload, e_lload_n, e_aload, e_aload_n, e_istore, e_istore_n, e_iinc, e_iadd, e_isub, e_imul, e_lcmp, e_dupI, e_dupR, e_dup2, e_getfield, e_putfield, e_iaload, e_baload, e_laload, e_iastore, e_bastore, e_lastore, e_if, e_icmp, e_goto, e_tsw, e_ireturn0, e_ireturn1, e_return, e_call0, e_call1, e_call2, e_call3, lI_e, lL_e, lR_e, ak_nth, ak_set, ak_ok1, ak_jp, ak_b1, ak_b2, ak_sw, ak_la, ak_pad, true_and, and_true, List.map_cons, List.map_nil, List.sum_cons, List.sum_nil, Value.category, Option.toList_some, Option.toList_none, List.cons_append, List.nil_append, gC_0_0, gC_0_1, gC_0_2, gC_0_3, rC_0, gC_1_0, pC_1_0, gC_1_1, gC_1_2, gC_1_3, rC_1, gC_2_0, pC_2_0, gC_2_1, gC_2_2, gC_2_3, gC_2_4, gC_2_5, gC_2_6, gC_2_7, gC_2_8, rC_2, gC_3_0, pC_3_0, gC_3_1, gC_3_2, rC_3, gC_4_0, gC_4_1, gC_4_2, gC_4_3, gC_4_4, pC_4_4, rC_4, kC_5, kC_6, kC_7, kC_8, kC_9, kC_10, kC_11, kC_12, kC_13, kC_14, kC_15, kC_16, kC_17, kC_18, kC_19, fd_D_gather_0, fd_D_gather_2, fd_D_gather_22, fd_D_gather_34, fd_D_gather_65, bk_D_gather_0, bk_D_gather_2, bk_D_gather_22, bk_D_gather_34, bk_D_gather_65, cs_D_gather, c_D_o, c_D_4, hs, ne_eq, Nat.reduceEqDiff, not_false_eq_true]
        rw [n_250, q_le (by omega) (by omega), q_le (by omega) (by omega)]
        exact ⟨fun _ => fin 250 gs gg m hD hga (by omega) hcl, fun _ => ⟨fun _ => fin 250 gs gg m hD hga (by omega) hcl, fun q => absurd (by omega) q⟩⟩
      | succ d ih =>
        intro p gs gg m hp hD hga hcl
        have hmn := cn_le (fun j => decide (gs j = 1)) n
        have hme := hD.1
        refine hJ 3 _ _ _ _ ?_
        simp only [Nat.reduceAdd, Nat.reduceLeDiff, Nat.zero_le, true_or, or_true, run_s, e_nop, e_iconst, e_bipush, e_sipush, e_lconst, e_iload, e_iload_n, e_lload, e_lload_n, e_aload, e_aload_n, e_istore, e_istore_n, e_iinc, e_iadd, e_isub, e_imul, e_lcmp, e_dupI, e_dupR, e_dup2, e_getfield, e_putfield, e_iaload, e_baload, e_laload, e_iastore, e_bastore, e_lastore, e_if, e_icmp, e_goto, e_tsw, e_ireturn0, e_ireturn1, e_return, e_call0, e_call1, e_call2, e_call3, lI_e, lL_e, lR_e, ak_nth, ak_set, ak_ok1, ak_jp, ak_b1, ak_b2, ak_sw, ak_la, ak_pad, true_and, and_true, List.map_cons, List.map_nil, List.sum_cons, List.sum_nil, Value.category, Option.toList_some, Option.toList_none, List.cons_append, List.nil_append, gC_0_0, gC_0_1, gC_0_2, gC_0_3, rC_0, gC_1_0, pC_1_0, gC_1_1, gC_1_2, gC_1_3, rC_1, gC_2_0, pC_2_0, gC_2_1, gC_2_2, gC_2_3, gC_2_4, gC_2_5, gC_2_6, gC_2_7, gC_2_8, rC_2, gC_3_0, pC_3_0, gC_3_1, gC_3_2, rC_3, gC_4_0, gC_4_1, gC_4_2, gC_4_3, gC_4_4, pC_4_4, rC_4, kC_5, kC_6, kC_7, kC_8, kC_9, kC_10, kC_11, kC_12, kC_13, kC_14, kC_15, kC_16, kC_17, kC_18, kC_19, fd_D_gather_0, fd_D_gather_2, fd_D_gather_22, fd_D_gather_34, fd_D_gather_65, bk_D_gather_0, bk_D_gather_2, bk_D_gather_22, bk_D_gather_34, bk_D_gather_65, cs_D_gather, c_D_o, c_D_4, c_D_19, hs, ne_eq, Nat.reduceEqDiff, not_false_eq_true, nI_1]
        rw [n_250, q_le (by omega) (by omega), q_le (by omega) (by omega), q_cl (by omega)]
        refine ⟨fun q => fin p gs gg m hD hga q hcl, fun q => ⟨fun q2 => absurd q2 (by omega), fun _ => ⟨q_in (by omega) (by omega), ?_⟩⟩⟩
        obtain ⟨e, b1, b2, b3, b4⟩ := hD.2.2.2.1 p (by omega)
        refine ⟨s, n, a, m, e, gs, gg, rfl, hn, hs, hk, b3, by omega, hD, b4, fun gs' gg' m' hD' hmo hpr hmm htk => ?_⟩
        refine ih (p + 1) gs' gg' m' (by omega) hD' (hmo a (by omega) hga) (fun q' e' h1 h2 h3 h4 j h5 h6 h7 => ?_)
        by_cases e1 : q' = p
        · subst e1
          rw [hpr q' (by omega), b3] at h3
          have : e = e' := (nI_eq (by omega) (by omega)).mp h3
          subst this
          exact htk j h5 h6 h7
        · exact hmo j (by omega) (hcl q' e' (by omega) (by omega) (by rw [← hpr q' (by omega)]; exact h3) h4 j h5 h6 h7)
    have clear : ∀ d i, i + d = 251 → J 2 [some (.ref 4), some (.int (nI a)), some (.int (nI i))] [] (c_D s (fun j => if j < i then 0 else s.1 18 j) (s.1 19) (s.1 4 4)) := by
      intro d
      induction d with
      | zero =>
        intro i hi
        have e : i = 251 := by omega
        subst e
        refine hJ 3 _ _ _ _ ?_
        simp only [Nat.reduceAdd, Nat.reduceLeDiff, Nat.zero_le, true_or, or_true, run_s, e_nop, e_iconst, e_bipush, e_sipush, e_lconst, e_iload, e_iload_n, e_lload, e_lload_n, e_aload, e_aload_n, e_istore, e_istore_n, e_iinc, e_iadd, e_isub, e_imul, e_lcmp, e_dupI, e_dupR, e_dup2, e_getfield, e_putfield, e_iaload, e_baload, e_laload, e_iastore, e_bastore, e_lastore, e_if, e_icmp, e_goto, e_tsw, e_ireturn0, e_ireturn1, e_return, e_call0, e_call1, e_call2, e_call3, lI_e, lL_e, lR_e, ak_nth, ak_set, ak_ok1, ak_jp, ak_b1, ak_b2, ak_sw, ak_la, ak_pad, true_and, and_true, List.map_cons, List.map_nil, List.sum_cons, List.sum_nil, Value.category, Option.toList_some, Option.toList_none, List.cons_append, List.nil_append, gC_0_0, gC_0_1, gC_0_2, gC_0_3, rC_0, gC_1_0, pC_1_0, gC_1_1, gC_1_2, gC_1_3, rC_1, gC_2_0, pC_2_0, gC_2_1, gC_2_2, gC_2_3, gC_2_4, gC_2_5, gC_2_6, gC_2_7, gC_2_8, rC_2, gC_3_0, pC_3_0, gC_3_1, gC_3_2, rC_3, gC_4_0, gC_4_1, gC_4_2, gC_4_3, gC_4_4, pC_4_4, rC_4, kC_5, kC_6, kC_7, kC_8, kC_9, kC_10, kC_11, kC_12, kC_13, kC_14, kC_15, kC_16, kC_17, kC_18, kC_19, fd_D_gather_0, fd_D_gather_2, fd_D_gather_22, fd_D_gather_34, fd_D_gather_65, bk_D_gather_0, bk_D_gather_2, bk_D_gather_22, bk_D_gather_34, bk_D_gather_65, cs_D_gather, c_D_p4]
        refine ⟨fun _ => ⟨a, 0, by omega, by omega, rfl, c_D_4, fun q => ?_, fun q _ => ?_⟩, fun q => absurd (by decide) q⟩
        · exfalso
          rw [c_D_18, if_pos (by omega)] at q
          rcases q with q | q
          · exact q rfl
          · omega
        · rw [c_D_p18, c_D_p19, c_D_p4]
          have h0 : DI s n a (fun j => if j < 251 then 0 else s.1 18 j) (s.1 19) 0 := by
            refine ⟨?_, fun j hj => Or.inl (if_pos (by omega)), fun j hj q => ?_, fun p hp => absurd hp (by omega), fun e he q => ?_⟩
            · have : ∀ k, k ≤ 250 → cn (fun j => decide ((if j < 251 then (0 : Int32) else s.1 18 j) = 1)) k = 0 := by
                intro k
                induction k with
                | zero => intro _; rfl
                | succ k ih =>
                  intro hk
                  rw [cn, ih (by omega)]
                  simp [show k + 1 < 251 by omega]
              exact (this n hn).symm
            · dsimp only at q
              rw [if_pos (by omega)] at q
              exact absurd q (by decide)
            · dsimp only at q
              rw [if_pos (by omega)] at q
              exact absurd q (by decide)
          have h1 := (DI_add hn h0 ha1 ha2 (if_pos (by omega)) rch_self).2
          exact main 250 0 _ _ 1 (by omega) h1 (by simp [upd]) (fun q e h1 => absurd h1 (by omega))
      | succ d ih =>
        intro i hi
        refine hJ 3 _ _ _ _ ?_
        simp only [Nat.reduceAdd, Nat.reduceLeDiff, Nat.zero_le, true_or, or_true, run_s, e_nop, e_iconst, e_bipush, e_sipush, e_lconst, e_iload, e_iload_n, e_lload, e_lload_n, e_aload, e_aload_n, e_istore, e_istore_n, e_iinc, e_iadd, e_isub, e_imul, e_lcmp, e_dupI, e_dupR, e_dup2, e_getfield, e_putfield, e_iaload, e_baload, e_laload, e_iastore, e_bastore, e_lastore, e_if, e_icmp, e_goto, e_tsw, e_ireturn0, e_ireturn1, e_return, e_call0, e_call1, e_call2, e_call3, lI_e, lL_e, lR_e, ak_nth, ak_set, ak_ok1, ak_jp, ak_b1, ak_b2, ak_sw, ak_la, ak_pad, true_and, and_true, List.map_cons, List.map_nil, List.sum_cons, List.sum_nil, Value.category, Option.toList_some, Option.toList_none, List.cons_append, List.nil_append, gC_0_0, gC_0_1, gC_0_2, gC_0_3, rC_0, gC_1_0, pC_1_0, gC_1_1, gC_1_2, gC_1_3, rC_1, gC_2_0, pC_2_0, gC_2_1, gC_2_2, gC_2_3, gC_2_4, gC_2_5, gC_2_6, gC_2_7, gC_2_8, rC_2, gC_3_0, pC_3_0, gC_3_1, gC_3_2, rC_3, gC_4_0, gC_4_1, gC_4_2, gC_4_3, gC_4_4, pC_4_4, rC_4, kC_5, kC_6, kC_7, kC_8, kC_9, kC_10, kC_11, kC_12, kC_13, kC_14, kC_15, kC_16, kC_17, kC_18, kC_19, fd_D_gather_0, fd_D_gather_2, fd_D_gather_22, fd_D_gather_34, fd_D_gather_65, bk_D_gather_0, bk_D_gather_2, bk_D_gather_22, bk_D_gather_34, bk_D_gather_65, cs_D_gather, c_D_p4, c_D_p18, nI_1]
        rw [n_250, q_lt (by omega) (by omega), q_cl (by omega)]
        refine ⟨fun q => absurd q (by omega), fun _ => ⟨q_in (by omega) (by omega), ?_⟩⟩
        have hh := ih (i + 1) (by omega)
        have e : upd (fun j => if j < i then 0 else s.1 18 j) i (0 &&& 1) = (fun j => if j < i + 1 then 0 else s.1 18 j) := by
          funext j
          by_cases e1 : j = i
          · subst e1
            simp [upd]
          · simp only [upd, e1, if_false]
            by_cases e2 : j < i
            · rw [if_pos e2, if_pos (by omega)]
            · rw [if_neg e2, if_neg (by omega)]
        rw [e]
        exact hh
    refine hJ 3 _ _ _ _ ?_
    simp only [Nat.reduceAdd, Nat.reduceLeDiff, Nat.zero_le, true_or, or_true, run_s, e_nop, e_iconst, e_bipush, e_sipush, e_lconst, e_iload, e_iload_n, e_lload, e_lload_n, e_aload, e_aload_n, e_istore, e_istore_n, e_iinc, e_iadd, e_isub, e_imul, e_lcmp, e_dupI, e_dupR, e_dup2, e_getfield, e_putfield, e_iaload, e_baload, e_laload, e_iastore, e_bastore, e_lastore, e_if, e_icmp, e_goto, e_tsw, e_ireturn0, e_ireturn1, e_return, e_call0, e_call1, e_call2, e_call3, lI_e, lL_e, lR_e, ak_nth, ak_set, ak_ok1, ak_jp, ak_b1, ak_b2, ak_sw, ak_la, ak_pad, true_and, and_true, List.map_cons, List.map_nil, List.sum_cons, List.sum_nil, Value.category, Option.toList_some, Option.toList_none, List.cons_append, List.nil_append, gC_0_0, gC_0_1, gC_0_2, gC_0_3, rC_0, gC_1_0, pC_1_0, gC_1_1, gC_1_2, gC_1_3, rC_1, gC_2_0, pC_2_0, gC_2_1, gC_2_2, gC_2_3, gC_2_4, gC_2_5, gC_2_6, gC_2_7, gC_2_8, rC_2, gC_3_0, pC_3_0, gC_3_1, gC_3_2, rC_3, gC_4_0, gC_4_1, gC_4_2, gC_4_3, gC_4_4, pC_4_4, rC_4, kC_5, kC_6, kC_7, kC_8, kC_9, kC_10, kC_11, kC_12, kC_13, kC_14, kC_15, kC_16, kC_17, kC_18, kC_19, fd_D_gather_0, fd_D_gather_2, fd_D_gather_22, fd_D_gather_34, fd_D_gather_65, bk_D_gather_0, bk_D_gather_2, bk_D_gather_22, bk_D_gather_34, bk_D_gather_65, cs_D_gather]
    have := clear 251 0 (by omega)
    have e : c_D s (fun j => if j < 0 then 0 else s.1 18 j) (s.1 19) (s.1 4 4) = s := by
      have : (fun j => if j < 0 then (0 : Int32) else s.1 18 j) = s.1 18 := by
        funext j
        rw [if_neg (by omega)]
      rw [this]
      exact c_D_self s
    rw [e] at this
    exact this
  · exact h.elim
set_option maxRecDepth 20000 in
theorem ct_D_gather (l : Launch) : ak_Ctr l cl_all lay_C y_D_gather ws_D_gather rm_D_gather pt_D_gather := by
  refine ak_met (cs := cs_D_gather) (reg := rg_D_gather) (bl := bl_D_gather) (by decide +kernel) rfl (cl_ok _) rfl ok_D_gather ?_ vc_D_gather
  intro a n b ci h
  match a, h with
  | 0, h =>
    cases h
    exact ak_ccV (ct_D_add l) rfl 231 232 3 24 233 (by decide +kernel) ⟨rfl, rfl⟩ (by decide +kernel) (by decide +kernel)
  | 1, h =>
    cases h
    exact ak_ccV (ct_D_addThoseTakenBy l) rfl 234 235 4 24 236 (by decide +kernel) ⟨rfl, rfl⟩ (by decide +kernel) (by decide +kernel)
  | k + 2, h => cases h
end
section
/-! what bars; carrying a deletion out -/
def pt_D_isBarred : ak_P := fun vs s Q => match vs with
  | [.ref 4] => ∃ n : Nat, n ≤ 250 ∧ s.1 2 0 = nI n ∧ (∀ j, 1 ≤ j → j ≤ n → ∃ c, c < 16 ∧ s.1 8 j = nI c) ∧ (∀ j, 1 ≤ j → j ≤ n → ∃ o, o ≤ 250 ∧ s.1 12 j = nI o) ∧
      ((∃ j, 1 ≤ j ∧ j ≤ n ∧ s.1 18 j = 0 ∧ ¬ s.1 18 (s.1 12 j).toNatClampNeg = 0 ∧ s.1 7 (s.1 8 j).toNatClampNeg = 0) → Q (some (.int 1)) s) ∧ ((∀ j, 1 ≤ j → j ≤ n → ¬ (s.1 18 j = 0 ∧ ¬ s.1 18 (s.1 12 j).toNatClampNeg = 0 ∧ s.1 7 (s.1 8 j).toNatClampNeg = 0)) → Q (some (.int 0)) s)
  | _ => False
def cs_D_isBarred : Nat → ak_P := fun a => match a with
  | _ => pt_D_isRelatedByRule
theorem vc_D_isBarred : ak_VC lay_C cs_D_isBarred bl_D_isBarred 3 pt_D_isBarred := by
  intro vs s Q h
  unfold pt_D_isBarred at h
  split at h
  · obtain ⟨n, hn, hs, hk, hr, hy, hno⟩ := h
    refine ⟨Nat.le_of_ble_eq_true rfl, fun J hJ => ?_⟩
    have loop : ∀ d i (o : Option Value), i + d = n → (∀ j, 1 ≤ j → j ≤ i → ¬ (s.1 18 j = 0 ∧ ¬ s.1 18 (s.1 12 j).toNatClampNeg = 0 ∧ s.1 7 (s.1 8 j).toNatClampNeg = 0)) → J 2 [some (.ref 4), some (.int (nI (i + 1))), o] [] s := by
      intro d
      induction d with
      | zero =>
        intro i o hi hq
        refine hJ 3 _ _ _ _ ?_
        simp only [Nat.reduceAdd, Nat.reduceLeDiff, Nat.zero_le, true_or, or_true, run_s, e_nop, e_iconst, e_bipush, e_sipush, e_lconst, e_iload, e_iload_n, e_lload, e_lload_n, e_aload, e_aload_n, e_istore, e_istore_n, e_iinc, e_iadd, e_isub, e_imul, e_lcmp, e_dupI, e_dupR, e_dup2, e_getfield, e_putfield, e_iaload, e_baload, e_laload, e_iastore, e_bastore, e_lastore, e_if, e_icmp, e_goto, e_tsw, e_ireturn0, e_ireturn1, e_return, e_call0, e_call1, e_call2, e_call3, lI_e, lL_e, lR_e, ak_nth, ak_set, ak_ok1, ak_jp, ak_b1, ak_b2, ak_sw, ak_la, ak_pad, true_and, and_true, List.map_cons, List.map_nil, List.sum_cons, List.sum_nil, Value.category, Option.toList_some, Option.toList_none, List.cons_append, List.nil_append, gC_0_0, gC_0_1, gC_0_2, gC_0_3, rC_0, gC_1_0, pC_1_0, gC_1_1, gC_1_2, gC_1_3, rC_1, gC_2_0, pC_2_0, gC_2_1, gC_2_2, gC_2_3, gC_2_4, gC_2_5, gC_2_6, gC_2_7, gC_2_8, rC_2, gC_3_0, pC_3_0, gC_3_1, gC_3_2, rC_3, gC_4_0, gC_4_1, gC_4_2, gC_4_3, gC_4_4, pC_4_4, rC_4, kC_5, kC_6, kC_7, kC_8, kC_9, kC_10, kC_11, kC_12, kC_13, kC_14, kC_15, kC_16, kC_17, kC_18, kC_19, fd_D_isBarred_0, fd_D_isBarred_2, fd_D_isBarred_53, fd_D_isBarred_59, bk_D_isBarred_0, bk_D_isBarred_2, bk_D_isBarred_53, bk_D_isBarred_59, cs_D_isBarred, hs]
        rw [q_lt (by omega) (by omega)]
        refine ⟨fun _ => hno ?_, fun q => absurd (by omega) q⟩
        intro j h1 h2
        exact hq j h1 (by omega)
      | succ d ih =>
        intro i o hi hq
        obtain ⟨c, hc, hkc⟩ := hk (i + 1) (by omega) (by omega)
        obtain ⟨r, hr1, hr2⟩ := hr (i + 1) (by omega) (by omega)
        have go : ¬ (s.1 18 (i + 1) = 0 ∧ ¬ s.1 18 (s.1 12 (i + 1)).toNatClampNeg = 0 ∧ s.1 7 (s.1 8 (i + 1)).toNatClampNeg = 0) → J 2 [some (.ref 4), some (.int (nI (i + 1 + 1))), some (.int (s.1 12 (i + 1)))] [] s := by
          intro z
          refine ih (i + 1) _ (by omega) (fun j h1 h2 => ?_)
          by_cases e : j = i + 1
          · rw [e]; exact z
          · exact hq j h1 (by omega)
        refine hJ 3 _ _ _ _ ?_
        simp only [Nat.reduceAdd, Nat.reduceLeDiff, Nat.zero_le, true_or, or_true, run_s, e_nop, e_iconst, e_bipush, e_sipush, e_lconst, e_iload, e_iload_n, e_lload, e_lload_n, e_aload, e_aload_n, e_istore, e_istore_n, e_iinc, e_iadd, e_isub, e_imul, e_lcmp, e_dupI, e_dupR, e_dup2, e_getfield, e_putfield, e_iaload, e_baload, e_laload, e_iastore, e_bastore, e_lastore, e_if, e_icmp, e_goto, e_tsw, e_ireturn0, e_ireturn1, e_return, e_call0, e_call1, e_call2, e_call3, lI_e, lL_e, lR_e, ak_nth, ak_set, ak_ok1, ak_jp, ak_b1, ak_b2, ak_sw, ak_la, ak_pad, true_and, and_true, List.map_cons, List.map_nil, List.sum_cons, List.sum_nil, Value.category, Option.toList_some, Option.toList_none, List.cons_append, List.nil_append, gC_0_0, gC_0_1, gC_0_2, gC_0_3, rC_0, gC_1_0, pC_1_0, gC_1_1, gC_1_2, gC_1_3, rC_1, gC_2_0, pC_2_0, gC_2_1, gC_2_2, gC_2_3, gC_2_4, gC_2_5, gC_2_6, gC_2_7, gC_2_8, rC_2, gC_3_0, pC_3_0, gC_3_1, gC_3_2, rC_3, gC_4_0, gC_4_1, gC_4_2, gC_4_3, gC_4_4, pC_4_4, rC_4, kC_5, kC_6, kC_7, kC_8, kC_9, kC_10, kC_11, kC_12, kC_13, kC_14, kC_15, kC_16, kC_17, kC_18, kC_19, fd_D_isBarred_0, fd_D_isBarred_2, fd_D_isBarred_53, fd_D_isBarred_59, bk_D_isBarred_0, bk_D_isBarred_2, bk_D_isBarred_53, bk_D_isBarred_59, cs_D_isBarred, hs, nI_1, pt_D_isRelatedByRule]
        rw [q_lt (by omega) (by omega), q_cl (by omega), hr2, q_cl (by omega)]
        rw [hr2, q_cl (by omega), hkc, q_cl (by omega)] at go
        refine ⟨fun q => absurd q (by omega), fun _ => ⟨q_in (by omega) (by omega), q_in (by omega) (by omega), fun q => go (fun z => q z.1), fun q => ⟨q_in (by omega) (by omega), fun q2 => go (fun z => z.2.1 q2), fun q2 => ⟨i + 1, c, by omega, hc, rfl, hkc, fun q3 => go (fun z => ?_), fun q3 => hy ⟨i + 1, by omega, by omega, q, ?_, ?_⟩⟩⟩⟩⟩
        · rw [if_pos ⟨hr2, z.2.2⟩] at q3
          exact absurd q3 (by decide)
        · rw [hr2, q_cl (by omega)]; exact q2
        · rw [hkc, q_cl (by omega)]
          by_cases z : s.1 7 c = 0
          · exact z
          · rw [if_neg (fun y => z y.2)] at q3
            exact absurd rfl q3
    refine hJ 3 _ _ _ _ ?_
    simp only [Nat.reduceAdd, Nat.reduceLeDiff, Nat.zero_le, true_or, or_true, run_s, e_nop, e_iconst, e_bipush, e_sipush, e_lconst, e_iload, e_iload_n, e_lload, e_lload_n, e_aload, e_aload_n, e_istore, e_istore_n, e_iinc, e_iadd, e_isub, e_imul, e_lcmp, e_dupI, e_dupR, e_dup2, e_getfield, e_putfield, e_iaload, e_baload, e_laload, e_iastore, e_bastore, e_lastore, e_if, e_icmp, e_goto, e_tsw, e_ireturn0, e_ireturn1, e_return, e_call0, e_call1, e_call2, e_call3, lI_e, lL_e, lR_e, ak_nth, ak_set, ak_ok1, ak_jp, ak_b1, ak_b2, ak_sw, ak_la, ak_pad, true_and, and_true, List.map_cons, List.map_nil, List.sum_cons, List.sum_nil, Value.category, Option.toList_some, Option.toList_none, List.cons_append, List.nil_append, gC_0_0, gC_0_1, gC_0_2, gC_0_3, rC_0, gC_1_0, pC_1_0, gC_1_1, gC_1_2, gC_1_3, rC_1, gC_2_0, pC_2_0, gC_2_1, gC_2_2, gC_2_3, gC_2_4, gC_2_5, gC_2_6, gC_2_7, gC_2_8, rC_2, gC_3_0, pC_3_0, gC_3_1, gC_3_2, rC_3, gC_4_0, gC_4_1, gC_4_2, gC_4_3, gC_4_4, pC_4_4, rC_4, kC_5, kC_6, kC_7, kC_8, kC_9, kC_10, kC_11, kC_12, kC_13, kC_14, kC_15, kC_16, kC_17, kC_18, kC_19, fd_D_isBarred_0, fd_D_isBarred_2, fd_D_isBarred_53, fd_D_isBarred_59, bk_D_isBarred_0, bk_D_isBarred_2, bk_D_isBarred_53, bk_D_isBarred_59, cs_D_isBarred]
    exact loop n 0 _ (by omega) (fun j h1 h2 => absurd h2 (by omega))
  · exact h.elim
set_option maxRecDepth 20000 in
theorem ct_D_isBarred (l : Launch) : ak_Ctr l cl_all lay_C y_D_isBarred ws_D_isBarred rm_D_isBarred pt_D_isBarred := by
  refine ak_met (cs := cs_D_isBarred) (reg := rg_D_isBarred) (bl := bl_D_isBarred) (by decide +kernel) rfl (cl_ok _) rfl ok_D_isBarred ?_ vc_D_isBarred
  intro a n b ci h
  match a, h with
  | 0, h =>
    cases h
    exact ak_ccV (ct_D_isRelatedByRule l) rfl 237 238 5 24 239 (by decide +kernel) ⟨rfl, rfl⟩ (by decide +kernel) (by decide +kernel)
  | k + 1, h => cases h
theorem c_part_o {s : ak_S} {i k j : Nat} (h1 : k ≠ 12) (h2 : k ≠ 13) (h3 : k ≠ 14) : (c_part s i).1 k j = s.1 k j := by
  unfold c_part
  split
  · rfl
  · rw [c_right_o h3, p1_o h2, p1_o h1]
theorem c_take_o {s : ak_S} {i k j : Nat} (h1 : k ≠ 12) (h2 : k ≠ 13) (h3 : k ≠ 14) (h4 : k ≠ 11) (h5 : k ≠ 9) : (c_take s i).1 k j = s.1 k j := by rw [c_take, c_part_o h1 h2 h3, p1_o h5, p1_o h4]
theorem c_take_12 {s : ak_S} {i j : Nat} : (c_take s i).1 12 j = if j = i then 0 else s.1 12 j := by
  unfold c_take c_part
  rw [show (ak_p1 (ak_p1 s 11 i 2) 9 i 0).1 12 i = s.1 12 i by rw [p1_o (by decide), p1_o (by decide)]]
  split
  · rename_i h
    rw [p1_o (by decide), p1_o (by decide)]
    by_cases e : j = i
    · rw [if_pos e, e, h]
    · rw [if_neg e]
  · rw [c_right_o (by decide), p1_o (by decide), p1_s]
    by_cases e : j = i
    · rw [if_pos e, if_pos e]
    · rw [if_neg e, if_neg e, p1_o (by decide), p1_o (by decide)]
def c_takes (s : ak_S) : Nat → ak_S
  | 0 => s
  | m + 1 => c_take (c_takes s m) (s.1 19 m).toNatClampNeg
def c_rights (s : ak_S) : Nat → ak_S
  | 0 => s
  | m + 1 => c_right (c_rights s m) (s.1 19 m).toNatClampNeg
theorem c_takes_o {s : ak_S} {m k j : Nat} (h1 : k ≠ 12) (h2 : k ≠ 13) (h3 : k ≠ 14) (h4 : k ≠ 11) (h5 : k ≠ 9) : (c_takes s m).1 k j = s.1 k j := by
  induction m with
  | zero => rfl
  | succ m ih => rw [c_takes, c_take_o h1 h2 h3 h4 h5, ih]
theorem c_rights_o {s : ak_S} {m k j : Nat} (h3 : k ≠ 14) : (c_rights s m).1 k j = s.1 k j := by
  induction m with
  | zero => rfl
  | succ m ih => rw [c_rights, c_right_o h3, ih]
theorem c_takes_12 {s : ak_S} {m j : Nat} : (c_takes s m).1 12 j = 0 ∨ (c_takes s m).1 12 j = s.1 12 j := by
  induction m with
  | zero => exact Or.inr rfl
  | succ m ih =>
    rw [c_takes, c_take_12]
    split
    · exact Or.inl rfl
    · exact ih
def pt_D_carryOut : ak_P := fun vs s Q => match vs with
  | [.ref 4] => ∃ n m : Nat, n ≤ 250 ∧ m ≤ 250 ∧ s.1 2 0 = nI n ∧ s.1 4 4 = nI m ∧ (∀ p, p < m → ∃ e, e ≤ 250 ∧ s.1 19 p = nI e) ∧ (∀ j, j ≤ 250 → ∃ o, o ≤ 250 ∧ s.1 12 j = nI o) ∧ Q none (c_drop (c_rights (c_takes s m) m) n)
  | _ => False
def cs_D_carryOut : Nat → ak_P := fun a => match a with
  | 0 => pt_S_takeAway
  | 1 => pt_S_setRight
  | _ => pt_S_dropThoseWithoutCount
theorem vc_D_carryOut : ak_VC lay_C cs_D_carryOut bl_D_carryOut 2 pt_D_carryOut := by
  intro vs s Q h
  unfold pt_D_carryOut at h
  split at h
  · obtain ⟨n, m, hn, hm, hs, hsm, hg, hr, h⟩ := h
    refine ⟨Nat.le_of_ble_eq_true rfl, fun J hJ => ?_⟩
    have loop2 : ∀ d p, p + d = m → J 31 [some (.ref 4), some (.int (nI p))] [] (c_rights (c_takes s m) p) := by
      intro d
      induction d with
      | zero =>
        intro p hp
        have e : p = m := by omega
        subst e
        refine hJ 3 _ _ _ _ ?_
        simp only [Nat.reduceAdd, Nat.reduceLeDiff, Nat.zero_le, true_or, or_true, run_s, e_nop, e_iconst, e_bipush, e_sipush, e_lconst, e_iload, e_iload_n, e_lload, e_lload_n, e_aload, e_aload_n, e_istore, e_istore_n, e_iinc, e_iadd, e_isub, e_imul, e_lcmp, e_dupI, e_dupR, e_dup2, e_getfield, e_putfield, e_iaload, e_baload, e_laload, e_iastore, e_bastore, e_lastore, e_if, e_icmp, e_goto, e_tsw, e_ireturn0, e_ireturn1, e_return, e_call0, e_call1, e_call2, e_call3, lI_e, lL_e, lR_e, ak_nth, ak_set, ak_ok1, ak_jp, ak_b1, ak_b2, ak_sw, ak_la, ak_pad, true_and, and_true, List.map_cons, List.map_nil, List.sum_cons, List.sum_nil, Value.category, Option.toList_some, Option.toList_none, List.cons_append, List.nil_append, gC_0_0, gC_0_1, gC_0_2, gC_0_3, rC_0, gC_1_0, pC_1_0, gC_1_1, gC_1_2, gC_1_3, rC_1, gC_2_0, pC_2_0, gC_2_1, gC_2_2, gC_2_3, gC_2_4, gC_2_5, gC_2_6, gC_2_7, gC_2_8, rC_2, gC_3_0, pC_3_0, gC_3_1, gC_3_2, rC_3, gC_4_0, gC_4_1, gC_4_2, gC_4_3, gC_4_4, pC_4_4, rC_4, kC_5, kC_6, kC_7, kC_8, kC_9, kC_10, kC_11, kC_12, kC_13, kC_14, kC_15, kC_16, kC_17, kC_18, kC_19, fd_D_carryOut_0, fd_D_carryOut_2, fd_D_carryOut_29, fd_D_carryOut_31, fd_D_carryOut_58, bk_D_carryOut_0, bk_D_carryOut_2, bk_D_carryOut_29, bk_D_carryOut_31, bk_D_carryOut_58, cs_D_carryOut, pt_S_dropThoseWithoutCount]
        rw [c_rights_o (by decide), c_takes_o (by decide) (by decide) (by decide) (by decide) (by decide), hsm, q_le (by omega) (by omega)]
        refine ⟨fun _ => ⟨n, hn, ?_, h⟩, fun q => absurd (by omega) q⟩
        rw [c_rights_o (by decide), c_takes_o (by decide) (by decide) (by decide) (by decide) (by decide), hs]
      | succ d ih =>
        intro p hp
        obtain ⟨e, he1, he2⟩ := hg p (by omega)
        refine hJ 3 _ _ _ _ ?_
        simp only [Nat.reduceAdd, Nat.reduceLeDiff, Nat.zero_le, true_or, or_true, run_s, e_nop, e_iconst, e_bipush, e_sipush, e_lconst, e_iload, e_iload_n, e_lload, e_lload_n, e_aload, e_aload_n, e_istore, e_istore_n, e_iinc, e_iadd, e_isub, e_imul, e_lcmp, e_dupI, e_dupR, e_dup2, e_getfield, e_putfield, e_iaload, e_baload, e_laload, e_iastore, e_bastore, e_lastore, e_if, e_icmp, e_goto, e_tsw, e_ireturn0, e_ireturn1, e_return, e_call0, e_call1, e_call2, e_call3, lI_e, lL_e, lR_e, ak_nth, ak_set, ak_ok1, ak_jp, ak_b1, ak_b2, ak_sw, ak_la, ak_pad, true_and, and_true, List.map_cons, List.map_nil, List.sum_cons, List.sum_nil, Value.category, Option.toList_some, Option.toList_none, List.cons_append, List.nil_append, gC_0_0, gC_0_1, gC_0_2, gC_0_3, rC_0, gC_1_0, pC_1_0, gC_1_1, gC_1_2, gC_1_3, rC_1, gC_2_0, pC_2_0, gC_2_1, gC_2_2, gC_2_3, gC_2_4, gC_2_5, gC_2_6, gC_2_7, gC_2_8, rC_2, gC_3_0, pC_3_0, gC_3_1, gC_3_2, rC_3, gC_4_0, gC_4_1, gC_4_2, gC_4_3, gC_4_4, pC_4_4, rC_4, kC_5, kC_6, kC_7, kC_8, kC_9, kC_10, kC_11, kC_12, kC_13, kC_14, kC_15, kC_16, kC_17, kC_18, kC_19, fd_D_carryOut_0, fd_D_carryOut_2, fd_D_carryOut_29, fd_D_carryOut_31, fd_D_carryOut_58, bk_D_carryOut_0, bk_D_carryOut_2, bk_D_carryOut_29, bk_D_carryOut_31, bk_D_carryOut_58, cs_D_carryOut, pt_S_setRight, nI_1]
        have e19 : (c_rights (c_takes s m) p).1 19 p = nI e := by rw [c_rights_o (by decide), c_takes_o (by decide) (by decide) (by decide) (by decide) (by decide), he2]
        rw [c_rights_o (k := 4) (by decide), c_takes_o (by decide) (by decide) (by decide) (by decide) (by decide), hsm, q_le (by omega) (by omega), q_cl (by omega), e19]
        refine ⟨fun q => absurd q (by omega), fun _ => ⟨q_in (by omega) (by omega), e, he1, rfl, ?_⟩⟩
        have hh := ih (p + 1) (by omega)
        rw [c_rights, c_takes_o (k := 19) (by decide) (by decide) (by decide) (by decide) (by decide), he2, q_cl (by omega)] at hh
        exact hh
    have loop1 : ∀ d p, p + d = m → J 2 [some (.ref 4), some (.int (nI p))] [] (c_takes s p) := by
      intro d
      induction d with
      | zero =>
        intro p hp
        have e : p = m := by omega
        subst e
        refine hJ 3 _ _ _ _ ?_
        simp only [Nat.reduceAdd, Nat.reduceLeDiff, Nat.zero_le, true_or, or_true, run_s, e_nop, e_iconst, e_bipush, e_sipush, e_lconst, e_iload, e_iload_n, e_lload, e_lload_n, e_aload, e_aload_n, e_istore, e_istore_n, e_iinc, e_iadd, e_isub, e_imul, e_lcmp, e_dupI, e_dupR, e_dup2, e_getfield, e_putfield, e_iaload, e_baload, e_laload, e_iastore, e_bastore, e_lastore, e_if, e_icmp, e_goto, e_tsw, e_ireturn0, e_ireturn1, e_return, e_call0, e_call1, e_call2, e_call3, lI_e, lL_e, lR_e, ak_nth, ak_set, ak_ok1, ak_jp, ak_b1, ak_b2, ak_sw, ak_la, ak_pad, true_and, and_true, List.map_cons, List.map_nil, List.sum_cons, List.sum_nil, Value.category, Option.toList_some, Option.toList_none, List.cons_append, List.nil_append, gC_0_0, gC_0_1, gC_0_2, gC_0_3, rC_0, gC_1_0, pC_1_0, gC_1_1, gC_1_2, gC_1_3, rC_1, gC_2_0, pC_2_0, gC_2_1, gC_2_2, gC_2_3, gC_2_4, gC_2_5, gC_2_6, gC_2_7, gC_2_8, rC_2, gC_3_0, pC_3_0, gC_3_1, gC_3_2, rC_3, gC_4_0, gC_4_1, gC_4_2, gC_4_3, gC_4_4, pC_4_4, rC_4, kC_5, kC_6, kC_7, kC_8, kC_9, kC_10, kC_11, kC_12, kC_13, kC_14, kC_15, kC_16, kC_17, kC_18, kC_19, fd_D_carryOut_0, fd_D_carryOut_2, fd_D_carryOut_29, fd_D_carryOut_31, fd_D_carryOut_58, bk_D_carryOut_0, bk_D_carryOut_2, bk_D_carryOut_29, bk_D_carryOut_31, bk_D_carryOut_58, cs_D_carryOut]
        rw [c_takes_o (by decide) (by decide) (by decide) (by decide) (by decide), hsm, q_le (by omega) (by omega)]
        refine ⟨fun _ => ?_, fun q => absurd (by omega) q⟩
        exact loop2 p 0 (by omega)
      | succ d ih =>
        intro p hp
        obtain ⟨e, he1, he2⟩ := hg p (by omega)
        refine hJ 3 _ _ _ _ ?_
        simp only [Nat.reduceAdd, Nat.reduceLeDiff, Nat.zero_le, true_or, or_true, run_s, e_nop, e_iconst, e_bipush, e_sipush, e_lconst, e_iload, e_iload_n, e_lload, e_lload_n, e_aload, e_aload_n, e_istore, e_istore_n, e_iinc, e_iadd, e_isub, e_imul, e_lcmp, e_dupI, e_dupR, e_dup2, e_getfield, e_putfield, e_iaload, e_baload, e_laload, e_iastore, e_bastore, e_lastore, e_if, e_icmp, e_goto, e_tsw, e_ireturn0, e_ireturn1, e_return, e_call0, e_call1, e_call2, e_call3, lI_e, lL_e, lR_e, ak_nth, ak_set, ak_ok1, ak_jp, ak_b1, ak_b2, ak_sw, ak_la, ak_pad, true_and, and_true, List.map_cons, List.map_nil, List.sum_cons, List.sum_nil, Value.category, Option.toList_some, Option.toList_none, List.cons_append, List.nil_append, gC_0_0, gC_0_1, gC_0_2, gC_0_3, rC_0, gC_1_0, pC_1_0, gC_1_1, gC_1_2, gC_1_3, rC_1, gC_2_0, pC_2_0, gC_2_1, gC_2_2, gC_2_3, gC_2_4, gC_2_5, gC_2_6, gC_2_7, gC_2_8, rC_2, gC_3_0, pC_3_0, gC_3_1, gC_3_2, rC_3, gC_4_0, gC_4_1, gC_4_2, gC_4_3, gC_4_4, pC_4_4, rC_4, kC_5, kC_6, kC_7, kC_8, kC_9, kC_10, kC_11, kC_12, kC_13, kC_14, kC_15, kC_16, kC_17, kC_18, kC_19, fd_D_carryOut_0, fd_D_carryOut_2, fd_D_carryOut_29, fd_D_carryOut_31, fd_D_carryOut_58, bk_D_carryOut_0, bk_D_carryOut_2, bk_D_carryOut_29, bk_D_carryOut_31, bk_D_carryOut_58, cs_D_carryOut, pt_S_takeAway, nI_1]
        have e19 : (c_takes s p).1 19 p = nI e := by rw [c_takes_o (by decide) (by decide) (by decide) (by decide) (by decide), he2]
        rw [c_takes_o (k := 4) (by decide) (by decide) (by decide) (by decide) (by decide), hsm, q_le (by omega) (by omega), q_cl (by omega), e19]
        refine ⟨fun q => absurd q (by omega), fun _ => ⟨q_in (by omega) (by omega), ?_⟩⟩
        have hh := ih (p + 1) (by omega)
        rw [c_takes, he2, q_cl (by omega)] at hh
        have ho : ∃ o, o ≤ 250 ∧ (c_takes s p).1 12 e = nI o := by
          rcases c_takes_12 (s := s) (m := p) (j := e) with z | z
          · exact ⟨0, by omega, z⟩
          · rw [z]; exact hr e he1
        obtain ⟨o, ho1, ho2⟩ := ho
        exact ⟨e, o, he1, ho1, rfl, ho2, hh⟩
    refine hJ 3 _ _ _ _ ?_
    simp only [Nat.reduceAdd, Nat.reduceLeDiff, Nat.zero_le, true_or, or_true, run_s, e_nop, e_iconst, e_bipush, e_sipush, e_lconst, e_iload, e_iload_n, e_lload, e_lload_n, e_aload, e_aload_n, e_istore, e_istore_n, e_iinc, e_iadd, e_isub, e_imul, e_lcmp, e_dupI, e_dupR, e_dup2, e_getfield, e_putfield, e_iaload, e_baload, e_laload, e_iastore, e_bastore, e_lastore, e_if, e_icmp, e_goto, e_tsw, e_ireturn0, e_ireturn1, e_return, e_call0, e_call1, e_call2, e_call3, lI_e, lL_e, lR_e, ak_nth, ak_set, ak_ok1, ak_jp, ak_b1, ak_b2, ak_sw, ak_la, ak_pad, true_and, and_true, List.map_cons, List.map_nil, List.sum_cons, List.sum_nil, Value.category, Option.toList_some, Option.toList_none, List.cons_append, List.nil_append, gC_0_0, gC_0_1, gC_0_2, gC_0_3, rC_0, gC_1_0, pC_1_0, gC_1_1, gC_1_2, gC_1_3, rC_1, gC_2_0, pC_2_0, gC_2_1, gC_2_2, gC_2_3, gC_2_4, gC_2_5, gC_2_6, gC_2_7, gC_2_8, rC_2, gC_3_0, pC_3_0, gC_3_1, gC_3_2, rC_3, gC_4_0, gC_4_1, gC_4_2, gC_4_3, gC_4_4, pC_4_4, rC_4, kC_5, kC_6, kC_7, kC_8, kC_9, kC_10, kC_11, kC_12, kC_13, kC_14, kC_15, kC_16, kC_17, kC_18, kC_19, fd_D_carryOut_0, fd_D_carryOut_2, fd_D_carryOut_29, fd_D_carryOut_31, fd_D_carryOut_58, bk_D_carryOut_0, bk_D_carryOut_2, bk_D_carryOut_29, bk_D_carryOut_31, bk_D_carryOut_58, cs_D_carryOut]
    exact loop1 m 0 (by omega)
  · exact h.elim
set_option maxRecDepth 20000 in
theorem ct_D_carryOut (l : Launch) : ak_Ctr l cl_all lay_C y_D_carryOut ws_D_carryOut rm_D_carryOut pt_D_carryOut := by
  refine ak_met (cs := cs_D_carryOut) (reg := rg_D_carryOut) (bl := bl_D_carryOut) (by decide +kernel) rfl (cl_ok _) rfl ok_D_carryOut ?_ vc_D_carryOut
  intro a n b ci h
  match a, h with
  | 0, h =>
    cases h
    exact ak_ccV (ct_S_takeAway l) rfl 248 249 250 22 251 (by decide +kernel) ⟨rfl, rfl⟩ (by decide +kernel) (by decide +kernel)
  | 1, h =>
    cases h
    exact ak_ccV (ct_S_setRight l) rfl 256 205 206 22 207 (by decide +kernel) ⟨rfl, rfl⟩ (by decide +kernel) (by decide +kernel)
  | 2, h =>
    cases h
    exact ak_ccV (ct_S_dropThoseWithoutCount l) rfl 257 258 259 22 260 (by decide +kernel) ⟨rfl, rfl⟩ (by decide +kernel) (by decide +kernel)
  | k + 3, h => cases h
end
section
/-! THE MATHEMATICAL STATE that both sides are tied to: counters (0 kinds, 1 segments, 2 indexes), rows (0 above, 1 logical parent, 2 rule, 3 kind, 4 under, 5 state (0 gone, 1 there, 2 stays), 6 related, 7 index's kind, 8 sparse), keys, what the pointers say (3 i + p) -/
abbrev ab_T : Type := (Nat → Nat) × (Nat → Nat → Nat) × (Nat → Int64) × (Nat → Int32)
def a_n (a : ab_T) (k x : Nat) : ab_T := (fun j => if j = k then x else a.1 j, a.2)
def a_f (a : ab_T) (f i x : Nat) : ab_T := (a.1, fun g => if g = f then (fun j => if j = i then x else a.2.1 f j) else a.2.1 g, a.2.2)
def a_k (a : ab_T) (i : Nat) (x : Int64) : ab_T := (a.1, a.2.1, fun j => if j = i then x else a.2.2.1 j, a.2.2.2)
def a_p (a : ab_T) (i : Nat) (x : Int32) : ab_T := (a.1, a.2.1, a.2.2.1, fun j => if j = i then x else a.2.2.2 j)
theorem an_1 {a : ab_T} {k x j : Nat} : (a_n a k x).1 j = if j = k then x else a.1 j := rfl
theorem an_2 {a : ab_T} {k x : Nat} : (a_n a k x).2 = a.2 := rfl
theorem af_1 {a : ab_T} {f i x : Nat} : (a_f a f i x).1 = a.1 := rfl
theorem af_s {a : ab_T} {f i x j : Nat} : (a_f a f i x).2.1 f j = if j = i then x else a.2.1 f j := by simp [a_f]
theorem af_o {a : ab_T} {f g i x j : Nat} (h : g ≠ f) : (a_f a f i x).2.1 g j = a.2.1 g j := by simp [a_f, h]
theorem af_2 {a : ab_T} {f i x : Nat} : (a_f a f i x).2.2 = a.2.2 := rfl
theorem ak_1 {a : ab_T} {i : Nat} {x : Int64} : (a_k a i x).1 = a.1 := rfl
theorem ak_21 {a : ab_T} {i : Nat} {x : Int64} : (a_k a i x).2.1 = a.2.1 := rfl
theorem ak_s {a : ab_T} {i j : Nat} {x : Int64} : (a_k a i x).2.2.1 j = if j = i then x else a.2.2.1 j := rfl
theorem ak_22 {a : ab_T} {i : Nat} {x : Int64} : (a_k a i x).2.2.2 = a.2.2.2 := rfl
theorem ap_1 {a : ab_T} {i : Nat} {x : Int32} : (a_p a i x).1 = a.1 := rfl
theorem ap_21 {a : ab_T} {i : Nat} {x : Int32} : (a_p a i x).2.1 = a.2.1 := rfl
theorem ap_22 {a : ab_T} {i : Nat} {x : Int32} : (a_p a i x).2.2.1 = a.2.2.1 := rfl
theorem ap_s {a : ab_T} {i j : Nat} {x : Int32} : (a_p a i x).2.2.2 j = if j = i then x else a.2.2.2 j := rfl
/-- a segment's count -/
def ac (a : ab_T) (i : Nat) : Nat := cn (fun j => decide (a.2.1 6 j = i)) (a.1 1)
/-- what is true of a pointer -/
def a_tr (a : ab_T) (i p : Nat) : Nat := if p = 0 then (if a.2.1 5 i = 1 then a.2.1 4 i else 0) else if p = 1 then a.2.1 6 i else ac a i
def a_right (a : ab_T) (i : Nat) : ab_T := a_p (a_p (a_p a (3 * i) (nI (a_tr a i 0))) (3 * i + 1) (nI (a_tr a i 1))) (3 * i + 2) (nI (a_tr a i 2))
/-- x stands ahead of y -/
def a_lt (a : ab_T) (x y : Nat) : Prop := a.2.2.1 x < a.2.2.1 y ∨ (a.2.2.1 x = a.2.2.1 y ∧ x < y)
/-- the invariants of the mathematical state -/
def AI (a : ab_T) : Prop := (a.1 0 ≤ 15 ∧ a.1 1 ≤ 250 ∧ a.1 2 ≤ 10) ∧ (∀ k, k ≤ 15 → a.2.1 0 k ≤ 15 ∧ a.2.1 1 k ≤ 15 ∧ a.2.1 2 k ≤ 2) ∧ (∀ i, i ≤ 250 → a.2.1 3 i ≤ 15 ∧ a.2.1 4 i ≤ 250 ∧ a.2.1 5 i ≤ 2 ∧ a.2.1 6 i ≤ a.1 1) ∧ (∀ i, 1 ≤ i → i ≤ a.1 1 → 1 ≤ a.2.1 3 i) ∧
  (∀ i, i ≤ 250 → a.2.1 6 i ≠ 0 → 1 ≤ i ∧ i ≤ a.1 1 ∧ a.2.1 5 i = 1) ∧ (∀ i, a.1 1 < i → i ≤ 250 → a.2.1 5 i = 0) ∧ a.2.1 5 0 = 0 ∧ (∀ k, a.1 0 < k → k ≤ 15 → a.2.1 1 k = 0 ∧ a.2.1 2 k = 0) ∧ (∀ j, j ≤ 10 → a.2.1 7 j ≤ 15 ∧ a.2.1 8 j ≤ 1) ∧ (∀ i, 1 ≤ i → i ≤ a.1 1 → a.2.1 3 i ≤ a.1 0 ∧ (a.2.1 4 i ≠ 0 → a.2.1 4 i ≤ a.1 1 ∧ a.2.1 0 (a.2.1 3 i) = a.2.1 3 (a.2.1 4 i)))
/-- the row by keys -/
def BK (s : ak_S) (a : ab_T) : Prop := ∃ bk : Nat → Nat, (∀ j, j < a.1 1 → s.1 15 j = nI (bk j) ∧ 1 ≤ bk j ∧ bk j ≤ a.1 1) ∧ (∀ i, 1 ≤ i → i ≤ a.1 1 → ∃ j, j < a.1 1 ∧ bk j = i) ∧ ∀ i j, i < j → j < a.1 1 → a_lt a (bk i) (bk j)
/-- the class's state holds the mathematical one -/
def RC (s : ak_S) (a : ab_T) : Prop := (s.1 1 0 = nI (a.1 0) ∧ s.1 2 0 = nI (a.1 1) ∧ s.1 3 0 = nI (a.1 2)) ∧
  (∀ k, k ≤ 15 → s.1 5 k = nI (a.2.1 0 k) ∧ s.1 6 k = nI (a.2.1 1 k) ∧ s.1 7 k = nI (a.2.1 2 k)) ∧
  (∀ i, i ≤ 250 → s.1 8 i = nI (a.2.1 3 i) ∧ s.1 9 i = nI (if a.2.1 5 i = 1 then a.2.1 4 i else 0) ∧ s.2 10 i = a.2.2.1 i ∧ s.1 11 i = nI (a.2.1 5 i) ∧ s.1 12 i = nI (a.2.1 6 i)) ∧
  (∀ i, 1 ≤ i → i ≤ 250 → s.1 13 i = nI (ac a i)) ∧
  (∀ i p, 1 ≤ i → i ≤ a.1 1 → a.2.1 5 i ≠ 0 → p < 3 → s.1 14 (3 * i + p) = a.2.2.2 (3 * i + p)) ∧
  (∀ j, j ≤ 10 → s.1 16 j = nI (a.2.1 7 j) ∧ s.1 17 j = nI (a.2.1 8 j)) ∧ BK s a
/-- the reference's state holds it -/
def RM (t : ak_S) (a : ab_T) : Prop := (t.1 0 1 = nI (a.1 0) ∧ t.1 0 2 = nI (a.1 1) ∧ t.1 0 3 = nI (a.1 2)) ∧
  (∀ k, k ≤ 15 → t.1 1 k = nI (a.2.1 0 k) ∧ t.1 2 k = nI (a.2.1 1 k) ∧ t.1 3 k = nI (a.2.1 2 k)) ∧
  (∀ i, i ≤ 250 → t.1 4 i = nI (a.2.1 3 i) ∧ t.1 5 i = nI (a.2.1 4 i) ∧ t.2 9 i = a.2.2.1 i ∧ t.1 7 i = nI (a.2.1 6 i)) ∧
  (∀ i, 1 ≤ i → i ≤ a.1 1 → t.1 6 i = nI (if a.2.1 5 i = 0 then 3 else a.2.1 5 i)) ∧
  (∀ i p, 1 ≤ i → i ≤ a.1 1 → a.2.1 5 i ≠ 0 → p < 3 → t.1 8 (3 * i + p) = a.2.2.2 (3 * i + p)) ∧
  (∀ j, j ≤ 10 → t.1 12 j = nI (a.2.1 7 j) ∧ t.1 13 j = nI (a.2.1 8 j))
/-- is a kind, a segment, an index -/
abbrev iK (a : ab_T) (x : Int32) : Prop := 1 ≤ x ∧ x ≤ nI (a.1 0)
abbrev iS (a : ab_T) (x : Int32) : Prop := 1 ≤ x ∧ x ≤ nI (a.1 1)
abbrev iX (a : ab_T) (x : Int32) : Prop := 1 ≤ x ∧ x ≤ nI (a.1 2)
theorem iK_of {a : ab_T} (hA : AI a) {x : Int32} (h : iK a x) : ∃ k, 1 ≤ k ∧ k ≤ a.1 0 ∧ x = nI k := by
  have := hA.1.1
  rcases n_case x (n := a.1 0) (by omega) with h1 | h1
  · exact h1
  · exact absurd h h1
theorem iS_of {a : ab_T} (hA : AI a) {x : Int32} (h : iS a x) : ∃ k, 1 ≤ k ∧ k ≤ a.1 1 ∧ x = nI k := by
  have := hA.1.2.1
  rcases n_case x (n := a.1 1) (by omega) with h1 | h1
  · exact h1
  · exact absurd h h1
theorem iX_of {a : ab_T} (hA : AI a) {x : Int32} (h : iX a x) : ∃ k, 1 ≤ k ∧ k ≤ a.1 2 ∧ x = nI k := by
  have := hA.1.2.2
  rcases n_case x (n := a.1 2) (by omega) with h1 | h1
  · exact h1
  · exact absurd h h1
theorem cn_ex {p : Nat → Bool} : ∀ {n : Nat}, cn p n ≠ 0 ↔ ∃ i, 1 ≤ i ∧ i ≤ n ∧ p i = true
  | 0 => ⟨fun h => absurd rfl h, fun ⟨i, h1, h2, _⟩ => by omega⟩
  | n + 1 => by
    have ih := cn_ex (p := p) (n := n)
    rw [cn]
    constructor
    · intro h
      by_cases hp : p (n + 1) = true
      · exact ⟨n + 1, by omega, by omega, hp⟩
      · rw [if_neg hp] at h
        obtain ⟨i, h1, h2, h3⟩ := ih.mp h
        exact ⟨i, h1, by omega, h3⟩
    · intro ⟨i, h1, h2, h3⟩
      by_cases e : i = n + 1
      · subst e
        rw [if_pos h3]
        omega
      · have := ih.mpr ⟨i, h1, by omega, h3⟩
        omega
/-! the answers, and the states behind them -/
def f_kind (a : ab_T) (x : Int32) : Int32 := if x = 0 ∨ iK a x then (if a.1 0 = 15 then -1 else nI (a.1 0 + 1)) else -2
def g_kind (a : ab_T) (x : Int32) : ab_T := if (x = 0 ∨ iK a x) ∧ a.1 0 < 15 then a_f (a_n a 0 (a.1 0 + 1)) 0 (a.1 0 + 1) x.toNatClampNeg else a
def f_parent (a : ab_T) (k o r : Int32) : Int32 := if ¬ (iK a k ∧ iK a o) then -2 else if r < 0 ∨ 2 < r then -4 else if cn (fun i => decide (nI (a.2.1 3 i) = k)) (a.1 1) ≠ 0 then -5 else if a.2.1 1 k.toNatClampNeg ≠ 0 then 0 else 1
def g_parent (a : ab_T) (k o r : Int32) : ab_T := if f_parent a k o r = 1 then a_f (a_f a 1 k.toNatClampNeg o.toNatClampNeg) 2 k.toNatClampNeg r.toNatClampNeg else a
/-- may a segment of kind k be under u -/
def a_fit (a : ab_T) (k u : Int32) : Prop := if a.2.1 0 k.toNatClampNeg = 0 then u = 0 else (iS a u ∧ a.2.1 5 u.toNatClampNeg = 1 ∧ a.2.1 3 u.toNatClampNeg = a.2.1 0 k.toNatClampNeg)
def a_dup (a : ab_T) (k u : Int32) (y : Int64) : Prop := cn (fun i => decide (a.2.1 5 i = 1 ∧ nI (a.2.1 3 i) = k ∧ nI (a.2.1 4 i) = u ∧ a.2.2.1 i = y)) (a.1 1) ≠ 0
noncomputable def ci {α : Type} (p : Prop) (x y : α) : α := @ite α p (Classical.propDecidable p) x y
theorem ci_t {α : Type} {p : Prop} {x y : α} (h : p) : ci p x y = x := if_pos h
theorem ci_f {α : Type} {p : Prop} {x y : α} (h : ¬ p) : ci p x y = y := if_neg h
noncomputable def f_segment (a : ab_T) (k u : Int32) (y : Int64) : Int32 := ci (¬ iK a k) (-2) (ci (¬ a_fit a k u) (-4) (ci (a_dup a k u y) (-3) (ci (a.1 1 = 250) (-1) (nI (a.1 1 + 1)))))
def g_new (a : ab_T) (k u : Nat) (y : Int64) : ab_T := a_right (a_f (a_k (a_f (a_f (a_n a 1 (a.1 1 + 1)) 3 (a.1 1 + 1) k) 4 (a.1 1 + 1) u) (a.1 1 + 1) y) 5 (a.1 1 + 1) 1) (a.1 1 + 1)
noncomputable def g_segment (a : ab_T) (k u : Int32) (y : Int64) : ab_T := ci (iK a k ∧ a_fit a k u ∧ ¬ a_dup a k u y ∧ a.1 1 < 250) (g_new a k.toNatClampNeg u.toNatClampNeg y) a
theorem bt0 (p : Prop) [Decidable p] : ((if p then (1 : Int32) else 0) = 0) = ¬ p := by
  by_cases h : p
  · rw [if_pos h]; exact propext ⟨fun q => absurd q (by decide), fun q => absurd h q⟩
  · rw [if_neg h]; exact propext ⟨fun _ => h, fun _ => rfl⟩
theorem i10 : ((1 : Int32) = 0) = False := propext ⟨fun q => absurd q (by decide), fun q => q.elim⟩
theorem bt1 (p : Prop) [Decidable p] : ((if p then (1 : Int32) else 0) = 1) = p := by
  by_cases h : p
  · rw [if_pos h]; exact propext ⟨fun _ => h, fun _ => rfl⟩
  · rw [if_neg h]; exact propext ⟨fun q => absurd q (by decide), fun q => absurd q h⟩
end
section
/-! the class's kind and parent -/
theorem RC_kind {s : ak_S} {a : ab_T} {k : Nat} (hR : RC s a) (hk : k ≤ a.1 0) : RC (ak_p1 (ak_p1 s 1 0 (nI (a.1 0 + 1))) 5 (a.1 0 + 1) (nI k)) (a_f (a_n a 0 (a.1 0 + 1)) 0 (a.1 0 + 1) k) := by
  obtain ⟨⟨h1, h2, h3⟩, hk, hs, hc, hp, hx, hb⟩ := hR
  refine ⟨⟨?_, ?_, ?_⟩, fun k' hk' => ?_, fun i hi => ?_, fun i h1 h2 => ?_, fun i p h1 h2 h3 h4 => ?_, fun j hj => ?_, ?_⟩
  · simp [p1_s, p1_o, af_1, an_1]
  · simp [p1_o, af_1, an_1, h2]
  · simp [p1_o, af_1, an_1, h3]
  · obtain ⟨q1, q2, q3⟩ := hk k' hk'
    refine ⟨?_, ?_, ?_⟩
    · rw [p1_s, af_s]
      split
      · rfl
      · rw [p1_o (by decide), q1]; rfl
    · rw [p1_o (by decide), p1_o (by decide), af_o (by decide), q2]; rfl
    · rw [p1_o (by decide), p1_o (by decide), af_o (by decide), q3]; rfl
  · simpa [p1_o, p1_2, af_o, af_2, an_2] using hs i hi
  · simpa [p1_o, ac, af_o, af_1, an_1, an_2] using hc i h1 h2
  · simpa [p1_o, af_2, an_2] using hp i p h1 h2 (by simpa [af_o, an_2] using h3) h4
  · simpa [p1_o, af_o, an_2] using hx j hj
  · simpa [BK, p1_o, af_1, an_1, a_lt, af_2, an_2] using hb
def pt_L_kind : ak_P := fun vs s Q => match vs with
  | [.ref 0, .int x] => ∃ a, AI a ∧ RC s a ∧ ∀ s', RC s' (g_kind a x) → Q (some (.int (f_kind a x))) s'
  | _ => False
def cs_L_kind : Nat → ak_P := fun a => match a with
  | 0 => pt_K_has
  | _ => pt_K_add
theorem vc_L_kind : ak_VC lay_C cs_L_kind bl_L_kind 2 pt_L_kind := by
  intro vs s Q h
  unfold pt_L_kind at h
  split at h
  · rename_i x
    obtain ⟨a, hA, hR, h⟩ := h
    refine ⟨Nat.le_of_ble_eq_true rfl, fun J hJ => hJ 3 _ _ _ _ ?_⟩
    simp only [Nat.reduceAdd, Nat.reduceLeDiff, Nat.zero_le, true_or, or_true, run_s, e_nop, e_iconst, e_bipush, e_sipush, e_lconst, e_iload, e_iload_n, e_lload, e_lload_n, e_aload, e_aload_n, e_istore, e_istore_n, e_iinc, e_iadd, e_isub, e_imul, e_lcmp, e_dupI, e_dupR, e_dup2, e_getfield, e_putfield, e_iaload, e_baload, e_laload, e_iastore, e_bastore, e_lastore, e_if, e_icmp, e_goto, e_tsw, e_ireturn0, e_ireturn1, e_return, e_call0, e_call1, e_call2, e_call3, lI_e, lL_e, lR_e, ak_nth, ak_set, ak_ok1, ak_jp, ak_b1, ak_b2, ak_sw, ak_la, ak_pad, true_and, and_true, List.map_cons, List.map_nil, List.sum_cons, List.sum_nil, Value.category, Option.toList_some, Option.toList_none, List.cons_append, List.nil_append, gC_0_0, gC_0_1, gC_0_2, gC_0_3, rC_0, gC_1_0, pC_1_0, gC_1_1, gC_1_2, gC_1_3, rC_1, gC_2_0, pC_2_0, gC_2_1, gC_2_2, gC_2_3, gC_2_4, gC_2_5, gC_2_6, gC_2_7, gC_2_8, rC_2, gC_3_0, pC_3_0, gC_3_1, gC_3_2, rC_3, gC_4_0, gC_4_1, gC_4_2, gC_4_3, gC_4_4, pC_4_4, rC_4, kC_5, kC_6, kC_7, kC_8, kC_9, kC_10, kC_11, kC_12, kC_13, kC_14, kC_15, kC_16, kC_17, kC_18, kC_19, fd_L_kind_0, fd_L_kind_18, bk_L_kind_0, bk_L_kind_18, cs_L_kind, pt_K_has, pt_K_add]
    have hn := hA.1.1
    have e0 := hR.1.1
    rw [e0]
    have add : x = 0 ∨ iK a x → ∃ n, n ≤ 15 ∧ nI (a.1 0) = nI n ∧ (n = 15 → Q (some (Value.int (-1))) s) ∧ (n < 15 → Q (some (Value.int (nI (n + 1)))) (ak_p1 (ak_p1 s 1 0 (nI (n + 1))) 5 (n + 1) x)) := by
      intro hx
      refine ⟨a.1 0, hn, rfl, fun e => ?_, fun e => ?_⟩
      · have := h s (by rw [g_kind, if_neg (fun q => by omega)]; exact hR)
        rw [f_kind, if_pos hx, if_pos e] at this
        exact this
      · have hk : ∃ k, k ≤ a.1 0 ∧ x = nI k := by
          rcases hx with hx | hx
          · exact ⟨0, by omega, hx⟩
          · obtain ⟨k, _, h2, h3⟩ := iK_of hA hx
            exact ⟨k, h2, h3⟩
        obtain ⟨k, hk1, hk2⟩ := hk
        have := h (ak_p1 (ak_p1 s 1 0 (nI (a.1 0 + 1))) 5 (a.1 0 + 1) x) (by
          rw [g_kind, if_pos ⟨hx, e⟩, hk2, q_cl (by omega)]
          exact RC_kind hR hk1)
        rw [f_kind, if_pos hx, if_neg (by omega)] at this
        exact this
    refine ⟨fun q => add (Or.inl q), fun q => ⟨fun q2 => add (Or.inr ?_), fun q2 => ?_⟩⟩
    · by_cases z : iK a x
      · exact z
      · rw [if_neg z] at q2
        exact absurd rfl q2
    · have z : ¬ iK a x := fun z => by
        rw [if_pos z] at q2
        exact absurd q2 (by decide)
      have := h s (by rw [g_kind, if_neg (fun y => y.1.elim q z)]; exact hR)
      rw [f_kind, if_neg (fun y => y.elim q z)] at this
      exact this
  · exact h.elim
set_option maxRecDepth 20000 in
theorem ct_L_kind (l : Launch) : ak_Ctr l cl_all lay_C y_L_kind ws_L_kind rm_L_kind pt_L_kind := by
  refine ak_met (cs := cs_L_kind) (reg := rg_L_kind) (bl := bl_L_kind) (by decide +kernel) rfl (cl_ok _) rfl ok_L_kind ?_ vc_L_kind
  intro a n b ci h
  match a, h with
  | 0, h =>
    cases h
    exact ak_ccV (ct_K_has l) rfl 161 162 163 21 164 (by decide +kernel) ⟨rfl, rfl⟩ (by decide +kernel) (by decide +kernel)
  | 1, h =>
    cases h
    exact ak_ccV (ct_K_add l) rfl 165 166 167 21 168 (by decide +kernel) ⟨rfl, rfl⟩ (by decide +kernel) (by decide +kernel)
  | k + 2, h => cases h
theorem RC_parent {s : ak_S} {a : ab_T} {k o r : Nat} (hR : RC s a) : RC (ak_p1 (ak_p1 s 6 k (nI o)) 7 k (nI r)) (a_f (a_f a 1 k o) 2 k r) := by
  obtain ⟨⟨h1, h2, h3⟩, hk, hs, hc, hp, hx, hb⟩ := hR
  refine ⟨⟨?_, ?_, ?_⟩, fun k' hk' => ?_, fun i hi => ?_, fun i h1 h2 => ?_, fun i p h1 h2 h3 h4 => ?_, fun j hj => ?_, ?_⟩
  · simp [p1_o, af_1, h1]
  · simp [p1_o, af_1, h2]
  · simp [p1_o, af_1, h3]
  · obtain ⟨q1, q2, q3⟩ := hk k' hk'
    refine ⟨?_, ?_, ?_⟩
    · simp [p1_o, af_o, q1]
    · rw [p1_o (by decide), p1_s, af_o (by decide), af_s]
      split
      · rfl
      · exact q2
    · rw [p1_s, af_s]
      split
      · rfl
      · rw [p1_o (by decide), af_o (by decide), q3]
  · simpa [p1_o, p1_2, af_o, af_2] using hs i hi
  · simpa [p1_o, ac, af_o, af_1] using hc i h1 h2
  · simpa [p1_o, af_2] using hp i p h1 h2 (by simpa [af_o] using h3) h4
  · simpa [p1_o, af_o] using hx j hj
  · simpa [BK, p1_o, af_1, a_lt, af_2] using hb
def pt_L_parent : ak_P := fun vs s Q => match vs with
  | [.ref 0, .int k, .int o, .int r] => ∃ a, AI a ∧ RC s a ∧ ∀ s', RC s' (g_parent a k o r) → Q (some (.int (f_parent a k o r))) s'
  | _ => False
def cs_L_parent : Nat → ak_P := fun a => match a with
  | 0 => pt_K_has
  | _ => pt_S_wereOf
theorem vc_L_parent : ak_VC lay_C cs_L_parent bl_L_parent 4 pt_L_parent := by
  intro vs s Q h
  unfold pt_L_parent at h
  split at h
  · rename_i k o r
    obtain ⟨a, hA, hR, h⟩ := h
    refine ⟨Nat.le_of_ble_eq_true rfl, fun J hJ => hJ 6 _ _ _ _ ?_⟩
    simp only [Nat.reduceAdd, Nat.reduceLeDiff, Nat.zero_le, true_or, or_true, run_s, e_nop, e_iconst, e_bipush, e_sipush, e_lconst, e_iload, e_iload_n, e_lload, e_lload_n, e_aload, e_aload_n, e_istore, e_istore_n, e_iinc, e_iadd, e_isub, e_imul, e_lcmp, e_dupI, e_dupR, e_dup2, e_getfield, e_putfield, e_iaload, e_baload, e_laload, e_iastore, e_bastore, e_lastore, e_if, e_icmp, e_goto, e_tsw, e_ireturn0, e_ireturn1, e_return, e_call0, e_call1, e_call2, e_call3, lI_e, lL_e, lR_e, ak_nth, ak_set, ak_ok1, ak_jp, ak_b1, ak_b2, ak_sw, ak_la, ak_pad, true_and, and_true, List.map_cons, List.map_nil, List.sum_cons, List.sum_nil, Value.category, Option.toList_some, Option.toList_none, List.cons_append, List.nil_append, gC_0_0, gC_0_1, gC_0_2, gC_0_3, rC_0, gC_1_0, pC_1_0, gC_1_1, gC_1_2, gC_1_3, rC_1, gC_2_0, pC_2_0, gC_2_1, gC_2_2, gC_2_3, gC_2_4, gC_2_5, gC_2_6, gC_2_7, gC_2_8, rC_2, gC_3_0, pC_3_0, gC_3_1, gC_3_2, rC_3, gC_4_0, gC_4_1, gC_4_2, gC_4_3, gC_4_4, pC_4_4, rC_4, kC_5, kC_6, kC_7, kC_8, kC_9, kC_10, kC_11, kC_12, kC_13, kC_14, kC_15, kC_16, kC_17, kC_18, kC_19, fd_L_parent_0, fd_L_parent_22, fd_L_parent_25, fd_L_parent_34, fd_L_parent_37, fd_L_parent_51, fd_L_parent_65, bk_L_parent_0, bk_L_parent_22, bk_L_parent_25, bk_L_parent_34, bk_L_parent_37, bk_L_parent_51, bk_L_parent_65, cs_L_parent, pt_K_has, pt_S_wereOf]
    have hn := hA.1.1
    have e0 := hR.1.1
    rw [e0]
    simp only [bt0, Classical.not_not, i10, false_implies, not_false_eq_true, true_implies, not_true_eq_false, true_and, and_true]
    refine ⟨fun q => ?_, fun q => ⟨fun q2 => ⟨fun q3 => ?_, fun q3 => ⟨fun q4 => ?_, fun q4 => ?_⟩⟩, fun q2 => ?_⟩⟩
    · have z : ¬ (iK a k ∧ iK a o) := fun y => q y.1
      have := h s (by rw [g_parent, f_parent, if_pos z, if_neg (by decide)]; exact hR)
      rw [f_parent, if_pos z] at this
      exact this
    · have z : f_parent a k o r = -4 := by rw [f_parent, if_neg (fun y => y ⟨q, q2⟩), if_pos (Or.inl q3)]
      have := h s (by rw [g_parent, z, if_neg (by decide)]; exact hR)
      rw [z] at this
      exact this
    · obtain ⟨k', hk1, hk2, rfl⟩ := iK_of hA q
      obtain ⟨o', ho1, ho2, rfl⟩ := iK_of hA q2
      have h4 : ¬ (r < 0 ∨ 2 < r) := by grind
      refine ⟨a.1 1, hA.1.2.1, hR.1.2.1, fun ⟨i, b1, b2, b3⟩ => ?_, fun b => ?_⟩
      · have z : f_parent a (nI k') (nI o') r = -5 := by
          rw [f_parent, if_neg (fun y => y ⟨q, q2⟩), if_neg h4, if_pos]
          exact cn_ex.mpr ⟨i, b1, b2, by rw [decide_eq_true_eq, ← b3]; exact ((hR.2.2.1 i (by have := hA.1.2.1; omega)).1).symm⟩
        have := h s (by rw [g_parent, z, if_neg (by decide)]; exact hR)
        rw [z] at this
        exact this
      · have hz : ¬ cn (fun i => decide (nI (a.2.1 3 i) = nI k')) (a.1 1) ≠ 0 := by
          intro y
          obtain ⟨i, b1, b2, b3⟩ := cn_ex.mp y
          rw [decide_eq_true_eq] at b3
          refine b i b1 b2 ?_
          rw [(hR.2.2.1 i (by have := hA.1.2.1; omega)).1, b3]
        rw [q_cl (by omega), (hR.2.1 k' (by omega)).2.1]
        have hb := (hA.2.1 k' (by omega)).2.1
        refine ⟨q_in (by omega) (by omega), fun y => ⟨q_in (by omega) (by omega), q_in (by omega) (by omega), ?_⟩, fun y => ?_⟩
        · rw [n_0, q_eq (by omega) (by omega)] at y
          obtain ⟨r', hr⟩ : ∃ r' : Nat, r' < 2147483648 ∧ r = nI r' := nI_of (fun w => h4 (Or.inl w))
          have z : f_parent a (nI k') (nI o') r = 1 := by
            rw [f_parent, if_neg (fun y => y ⟨q, q2⟩), if_neg h4, if_neg hz, q_cl (by omega), if_neg (fun w => w y)]
          have := h (ak_p1 (ak_p1 s 6 k' (nI o')) 7 k' r) (by
            rw [g_parent, z, if_pos rfl, q_cl (by omega), q_cl (by omega), hr.2, q_cl hr.1]
            exact RC_parent hR)
          rw [z] at this
          exact this
        · rw [n_0, q_eq (by omega) (by omega)] at y
          have z : f_parent a (nI k') (nI o') r = 0 := by
            rw [f_parent, if_neg (fun y => y ⟨q, q2⟩), if_neg h4, if_neg hz, q_cl (by omega), if_pos y]
          have := h s (by rw [g_parent, z, if_neg (by decide)]; exact hR)
          rw [z] at this
          exact this
    · have z : f_parent a k o r = -4 := by rw [f_parent, if_neg (fun y => y ⟨q, q2⟩), if_pos (Or.inr (by grind))]
      have := h s (by rw [g_parent, z, if_neg (by decide)]; exact hR)
      rw [z] at this
      exact this
    · have z : ¬ (iK a k ∧ iK a o) := fun y => q2 y.2
      have := h s (by rw [g_parent, f_parent, if_pos z, if_neg (by decide)]; exact hR)
      rw [f_parent, if_pos z] at this
      exact this
  · exact h.elim
set_option maxRecDepth 20000 in
theorem ct_L_parent (l : Launch) : ak_Ctr l cl_all lay_C y_L_parent ws_L_parent rm_L_parent pt_L_parent := by
  refine ak_met (cs := cs_L_parent) (reg := rg_L_parent) (bl := bl_L_parent) (by decide +kernel) rfl (cl_ok _) rfl ok_L_parent ?_ vc_L_parent
  intro a n b ci h
  match a, h with
  | 0, h =>
    cases h
    exact ak_ccV (ct_K_has l) rfl 161 162 163 21 164 (by decide +kernel) ⟨rfl, rfl⟩ (by decide +kernel) (by decide +kernel)
  | 1, h =>
    cases h
    exact ak_ccV (ct_S_wereOf l) rfl 173 174 175 22 176 (by decide +kernel) ⟨rfl, rfl⟩ (by decide +kernel) (by decide +kernel)
  | k + 2, h => cases h
end
section
/-! the class's segment -/
/-- as RC, but for the pointers of those in E -/
def RCx (s : ak_S) (a : ab_T) (E : Nat → Prop) : Prop := (s.1 1 0 = nI (a.1 0) ∧ s.1 2 0 = nI (a.1 1) ∧ s.1 3 0 = nI (a.1 2)) ∧
  (∀ k, k ≤ 15 → s.1 5 k = nI (a.2.1 0 k) ∧ s.1 6 k = nI (a.2.1 1 k) ∧ s.1 7 k = nI (a.2.1 2 k)) ∧
  (∀ i, i ≤ 250 → s.1 8 i = nI (a.2.1 3 i) ∧ s.1 9 i = nI (if a.2.1 5 i = 1 then a.2.1 4 i else 0) ∧ s.2 10 i = a.2.2.1 i ∧ s.1 11 i = nI (a.2.1 5 i) ∧ s.1 12 i = nI (a.2.1 6 i)) ∧
  (∀ i, 1 ≤ i → i ≤ 250 → s.1 13 i = nI (ac a i)) ∧
  (∀ i p, 1 ≤ i → i ≤ a.1 1 → a.2.1 5 i ≠ 0 → p < 3 → ¬ E i → s.1 14 (3 * i + p) = a.2.2.2 (3 * i + p)) ∧
  (∀ j, j ≤ 10 → s.1 16 j = nI (a.2.1 7 j) ∧ s.1 17 j = nI (a.2.1 8 j)) ∧ BK s a
theorem RC_of {s : ak_S} {a : ab_T} {E : Nat → Prop} (h : RCx s a E) (hE : ∀ i, 1 ≤ i → i ≤ a.1 1 → a.2.1 5 i ≠ 0 → ¬ E i) : RC s a := by
  obtain ⟨h1, hk, hs, hc, hp, hx, hb⟩ := h
  exact ⟨h1, hk, hs, hc, fun i p a1 a2 a3 a4 => hp i p a1 a2 a3 a4 (hE i a1 a2 a3), hx, hb⟩
theorem RC_to {s : ak_S} {a : ab_T} (h : RC s a) (E : Nat → Prop) : RCx s a E := by
  obtain ⟨h1, hk, hs, hc, hp, hx, hb⟩ := h
  exact ⟨h1, hk, hs, hc, fun i p a1 a2 a3 a4 _ => hp i p a1 a2 a3 a4, hx, hb⟩
theorem ar_1 {a : ab_T} {i : Nat} : (a_right a i).1 = a.1 := rfl
theorem ar_21 {a : ab_T} {i : Nat} : (a_right a i).2.1 = a.2.1 := rfl
theorem ar_22 {a : ab_T} {i : Nat} : (a_right a i).2.2.1 = a.2.2.1 := rfl
theorem ar_p {a : ab_T} {i j p : Nat} (hp : p < 3) : (a_right a i).2.2.2 (3 * j + p) = if j = i then nI (a_tr a i p) else a.2.2.2 (3 * j + p) := by
  unfold a_right
  rw [ap_s, ap_s, ap_s]
  by_cases e : j = i
  · subst e
    rw [if_pos rfl]
    rcases (by omega : p = 0 ∨ p = 1 ∨ p = 2) with rfl | rfl | rfl
    · rw [if_neg (by omega), if_neg (by omega), if_pos (by omega)]
    · rw [if_neg (by omega), if_pos (by omega)]
    · rw [if_pos (by omega)]
  · rw [if_neg e, if_neg (by omega), if_neg (by omega), if_neg (by omega)]
theorem cr_p {s : ak_S} {i j p : Nat} (hp : p < 3) : (c_right s i).1 14 (3 * j + p) = if j = i then c_tr s i p else s.1 14 (3 * j + p) := by
  unfold c_right
  rw [p1_s, p1_s, p1_s]
  by_cases e : j = i
  · subst e
    rw [if_pos rfl]
    rcases (by omega : p = 0 ∨ p = 1 ∨ p = 2) with rfl | rfl | rfl
    · rw [if_neg (by omega), if_neg (by omega), if_pos (by omega)]
      simp [c_tr]
    · rw [if_neg (by omega), if_pos (by omega)]
      simp [c_tr]
    · rw [if_pos (by omega)]
      simp [c_tr]
  · rw [if_neg e, if_neg (by omega), if_neg (by omega), if_neg (by omega)]
theorem RCx_tr {s : ak_S} {a : ab_T} {E : Nat → Prop} {i p : Nat} (h : RCx s a E) (h1 : 1 ≤ i) (h2 : i ≤ 250) : c_tr s i p = nI (a_tr a i p) := by
  obtain ⟨_, q2, _, _, q5⟩ := h.2.2.1 i h2
  have q6 := h.2.2.2.1 i h1 h2
  unfold c_tr a_tr
  split
  · exact q2
  · split
    · exact q5
    · exact q6
theorem RCx_right {s : ak_S} {a : ab_T} {E : Nat → Prop} {i : Nat} (h : RCx s a E) (h1 : 1 ≤ i) (h2 : i ≤ 250) : RCx (c_right s i) (a_right a i) (fun j => E j ∧ j ≠ i) := by
  have ht := fun p => RCx_tr (p := p) h h1 h2
  obtain ⟨⟨a1, a2, a3⟩, hk, hs, hc, hp, hx, hb⟩ := h
  refine ⟨⟨?_, ?_, ?_⟩, fun k hk' => ?_, fun i hi => ?_, fun i h1 h2 => ?_, fun j p b1 b2 b3 b4 b5 => ?_, fun j hj => ?_, ?_⟩
  · rw [c_right_o (by decide), a1]; rfl
  · rw [c_right_o (by decide), a2]; rfl
  · rw [c_right_o (by decide), a3]; rfl
  · rw [c_right_o (by decide), c_right_o (by decide), c_right_o (by decide)]
    exact hk k hk'
  · rw [c_right_o (by decide), c_right_o (by decide), c_right_o (by decide), c_right_o (by decide)]
    exact hs i hi
  · rw [c_right_o (by decide)]
    exact hc i h1 h2
  · rw [cr_p b4, ar_p b4]
    by_cases e : j = i
    · rw [if_pos e, if_pos e, ht]
    · rw [if_neg e, if_neg e]
      exact hp j p b1 b2 b3 b4 (fun z => b5 ⟨z, e⟩)
  · rw [c_right_o (by decide), c_right_o (by decide)]
    exact hx j hj
  · obtain ⟨bk, c1, c2, c3⟩ := hb
    refine ⟨bk, fun j hj => ?_, c2, c3⟩
    rw [c_right_o (by decide)]
    exact c1 j hj
def pt_L_mayBeUnder : ak_P := fun vs s Q => match vs with
  | [.ref 0, .int k, .int u] => ∃ a, AI a ∧ RC s a ∧ iK a k ∧ (a_fit a k u → Q (some (.int 1)) s) ∧ (¬ a_fit a k u → Q (some (.int 0)) s)
  | _ => False
def cs_L_mayBeUnder : Nat → ak_P := fun a => match a with
  | _ => pt_S_is
theorem vc_L_mayBeUnder : ak_VC lay_C cs_L_mayBeUnder bl_L_mayBeUnder 4 pt_L_mayBeUnder := by
  intro vs s Q h
  unfold pt_L_mayBeUnder at h
  split at h
  · rename_i k u
    obtain ⟨a, hA, hR, hk, hy, hno⟩ := h
    obtain ⟨k', hk1, hk2, rfl⟩ := iK_of hA hk
    have hn := hA.1
    refine ⟨Nat.le_of_ble_eq_true rfl, fun J hJ => hJ 6 _ _ _ _ ?_⟩
    simp only [Nat.reduceAdd, Nat.reduceLeDiff, Nat.zero_le, true_or, or_true, run_s, e_nop, e_iconst, e_bipush, e_sipush, e_lconst, e_iload, e_iload_n, e_lload, e_lload_n, e_aload, e_aload_n, e_istore, e_istore_n, e_iinc, e_iadd, e_isub, e_imul, e_lcmp, e_dupI, e_dupR, e_dup2, e_getfield, e_putfield, e_iaload, e_baload, e_laload, e_iastore, e_bastore, e_lastore, e_if, e_icmp, e_goto, e_tsw, e_ireturn0, e_ireturn1, e_return, e_call0, e_call1, e_call2, e_call3, lI_e, lL_e, lR_e, ak_nth, ak_set, ak_ok1, ak_jp, ak_b1, ak_b2, ak_sw, ak_la, ak_pad, true_and, and_true, List.map_cons, List.map_nil, List.sum_cons, List.sum_nil, Value.category, Option.toList_some, Option.toList_none, List.cons_append, List.nil_append, gC_0_0, gC_0_1, gC_0_2, gC_0_3, rC_0, gC_1_0, pC_1_0, gC_1_1, gC_1_2, gC_1_3, rC_1, gC_2_0, pC_2_0, gC_2_1, gC_2_2, gC_2_3, gC_2_4, gC_2_5, gC_2_6, gC_2_7, gC_2_8, rC_2, gC_3_0, pC_3_0, gC_3_1, gC_3_2, rC_3, gC_4_0, gC_4_1, gC_4_2, gC_4_3, gC_4_4, pC_4_4, rC_4, kC_5, kC_6, kC_7, kC_8, kC_9, kC_10, kC_11, kC_12, kC_13, kC_14, kC_15, kC_16, kC_17, kC_18, kC_19, fd_L_mayBeUnder_0, fd_L_mayBeUnder_22, fd_L_mayBeUnder_23, fd_L_mayBeUnder_24, fd_L_mayBeUnder_53, fd_L_mayBeUnder_54, bk_L_mayBeUnder_0, bk_L_mayBeUnder_22, bk_L_mayBeUnder_23, bk_L_mayBeUnder_24, bk_L_mayBeUnder_53, bk_L_mayBeUnder_54, cs_L_mayBeUnder, pt_S_is]
    have ek := (hR.2.1 k' (by omega)).1
    have eb := (hA.2.1 k' (by omega)).1
    have efit : a_fit a (nI k') u = (if a.2.1 0 k' = 0 then u = 0 else (iS a u ∧ a.2.1 5 u.toNatClampNeg = 1 ∧ a.2.1 3 u.toNatClampNeg = a.2.1 0 k')) := by
      rw [a_fit, q_cl (by omega)]
    rw [efit] at hy hno
    rw [q_cl (by omega), ek, n_0, q_eq (by omega) (by omega), ← n_0]
    refine ⟨q_in (by omega) (by omega), fun q => ?_, fun q => ?_⟩
    · rw [if_neg q] at hy hno
      refine ⟨a.1 1, hn.2.1, hR.1.2.1, ?_⟩
      rw [bt0]
      rcases n_case u (n := a.1 1) (by omega) with ⟨u', hu1, hu2, rfl⟩ | hx
      · obtain ⟨b1, _, _, b4, _⟩ := hR.2.2.1 u' (by omega)
        obtain ⟨c1, _, c3, _⟩ := hA.2.2.1 u' (by omega)
        have hu := n_in hu1 hu2 (by omega)
        rw [q_cl (by omega)] at hy hno ⊢
        rw [b4, b1, n_1, q_eq (by omega) (by omega), q_eq (by omega) (by omega), ← n_1]
        refine ⟨fun z => hno (fun y => z ⟨hu, y.2.1⟩), fun z => ⟨q_in (by omega) (by omega), fun z2 => hno (fun y => z2 y.2.2), fun z2 => hy ⟨hu, (Classical.not_not.mp z).2, z2⟩⟩⟩
      · exact ⟨fun _ => hno (fun y => hx y.1), fun z => absurd (fun y => hx y.1) z⟩
    · rw [if_pos q] at hy hno
      exact ⟨fun z => hno z, fun z => hy z⟩
  · exact h.elim
set_option maxRecDepth 20000 in
theorem ct_L_mayBeUnder (l : Launch) : ak_Ctr l cl_all lay_C y_L_mayBeUnder ws_L_mayBeUnder rm_L_mayBeUnder pt_L_mayBeUnder := by
  refine ak_met (cs := cs_L_mayBeUnder) (reg := rg_L_mayBeUnder) (bl := bl_L_mayBeUnder) (by decide +kernel) rfl (cl_ok _) rfl ok_L_mayBeUnder ?_ vc_L_mayBeUnder
  intro a n b ci h
  match a, h with
  | 0, h =>
    cases h
    exact ak_ccV (ct_S_is l) rfl 184 185 186 22 187 (by decide +kernel) ⟨rfl, rfl⟩ (by decide +kernel) (by decide +kernel)
  | k + 1, h => cases h
end
section
/-! a new segment, in the row by keys -/
theorem cn_0 {p : Nat → Bool} {n : Nat} (h : ∀ j, 1 ≤ j → j ≤ n → p j = false) : cn p n = 0 := by
  induction n with
  | zero => rfl
  | succ n ih => rw [cn, ih (fun j h1 h2 => h j h1 (by omega)), h (n + 1) (by omega) (by omega)]; simp
theorem BK_ins {s0 : ak_S} {a : ab_T} {k u p : Nat} {y : Int64} (hb : BK s0 a) (hp : p ≤ a.1 1) (hlo : ∀ q, p = q + 1 → ¬ y < a.2.2.1 (s0.1 15 q).toNatClampNeg) (hhi : ∀ j, p ≤ j → j < a.1 1 → y < a.2.2.1 (s0.1 15 j).toNatClampNeg) (hn : a.1 1 < 250) : BK (c_ins s0 (a.1 1) p (nI (a.1 1 + 1))) (g_new a k u y) := by
  obtain ⟨bk, c1, c2, c3⟩ := hb
  have en : (g_new a k u y).1 1 = a.1 1 + 1 := rfl
  have ekey : ∀ i, (g_new a k u y).2.2.1 i = if i = a.1 1 + 1 then y else a.2.2.1 i := fun i => rfl
  have hbk : ∀ j, j < a.1 1 → (s0.1 15 j).toNatClampNeg = bk j := fun j hj => by
    obtain ⟨d1, d2, d3⟩ := c1 j hj
    rw [d1, q_cl (by omega)]
  obtain ⟨f, hf⟩ : ∃ f : Nat → Nat, f = fun j => if j = p then a.1 1 + 1 else if p < j then bk (j - 1) else bk j := ⟨_, rfl⟩
  have fp : f p = a.1 1 + 1 := by rw [hf]; simp
  have flt : ∀ j, j < p → f j = bk j := fun j hj => by rw [hf]; simp only; rw [if_neg (by omega), if_neg (by omega)]
  have fgt : ∀ j, p < j → f j = bk (j - 1) := fun j hj => by rw [hf]; simp only; rw [if_neg (by omega), if_pos hj]
  -- the newest against an old one
  have old_lt : ∀ q, q < p → a_lt (g_new a k u y) (bk q) (a.1 1 + 1) := by
    intro q hq
    have hlast := hlo (p - 1) (by omega)
    rw [hbk _ (by omega)] at hlast
    have hle : ¬ y < a.2.2.1 (bk q) := by
      by_cases e : q = p - 1
      · rw [e]; exact hlast
      · rcases c3 q (p - 1) (by omega) (by omega) with z | z
        · intro w; exact hlast (Int64.lt_trans w z)
        · rw [z.1]; exact hlast
    obtain ⟨_, d2, d3⟩ := c1 q (by omega)
    unfold a_lt
    rw [ekey, ekey, if_neg (by omega), if_pos rfl]
    rcases Int64.lt_or_eq_of_le (Int64.not_lt.mp hle) with z | z
    · exact Or.inl z
    · exact Or.inr ⟨z, by omega⟩
  have lt_old : ∀ q, p ≤ q → q < a.1 1 → a_lt (g_new a k u y) (a.1 1 + 1) (bk q) := by
    intro q hq hq2
    have := hhi q hq hq2
    rw [hbk _ hq2] at this
    obtain ⟨_, d2, d3⟩ := c1 q hq2
    unfold a_lt
    rw [ekey, ekey, if_pos rfl, if_neg (by omega)]
    exact Or.inl this
  have old_old : ∀ i j, i < j → j < a.1 1 → a_lt (g_new a k u y) (bk i) (bk j) := by
    intro i j hij hj
    obtain ⟨_, d2, d3⟩ := c1 i (by omega)
    obtain ⟨_, e2, e3⟩ := c1 j hj
    unfold a_lt
    rw [ekey, ekey, if_neg (by omega), if_neg (by omega)]
    exact c3 i j hij hj
  refine ⟨f, fun j hj => ?_, fun i h1 h2 => ?_, fun i j hij hj => ?_⟩
  · rw [en] at hj ⊢
    unfold c_ins
    rw [p1_s]
    by_cases e : j = p
    · rw [if_pos e, e, fp]
      exact ⟨rfl, by omega, by omega⟩
    · rw [if_neg e]
      simp only [c_sh, if_true]
      by_cases e2 : p < j
      · rw [if_pos ⟨e2, by omega⟩, fgt j e2]
        obtain ⟨d1, d2, d3⟩ := c1 (j - 1) (by omega)
        exact ⟨d1, d2, by omega⟩
      · rw [if_neg (fun z => e2 z.1), flt j (by omega)]
        obtain ⟨d1, d2, d3⟩ := c1 j (by omega)
        exact ⟨d1, d2, by omega⟩
  · rw [en] at h2 ⊢
    by_cases e : i = a.1 1 + 1
    · exact ⟨p, by omega, by rw [fp, e]⟩
    · obtain ⟨j, d1, d2⟩ := c2 i h1 (by omega)
      by_cases e2 : j < p
      · exact ⟨j, by omega, by rw [flt j e2, d2]⟩
      · exact ⟨j + 1, by omega, by rw [fgt (j + 1) (by omega)]; simpa using d2⟩
  · rw [en] at hj
    by_cases e1 : i < p
    · rw [flt i e1]
      by_cases e2 : j < p
      · rw [flt j e2]; exact old_old i j hij (by omega)
      · by_cases e3 : j = p
        · rw [e3, fp]; exact old_lt i e1
        · rw [fgt j (by omega)]; exact old_old i (j - 1) (by omega) (by omega)
    · by_cases e2 : i = p
      · rw [e2, fp, fgt j (by omega)]
        exact lt_old (j - 1) (by omega) (by omega)
      · rw [fgt i (by omega), fgt j (by omega)]
        exact old_old (i - 1) (j - 1) (by omega) (by omega)
theorem RC_new {s : ak_S} {a : ab_T} {k u p : Nat} {y : Int64} (hA : AI a) (hR : RC s a) (hn : a.1 1 < 250) (hp : p ≤ a.1 1) (hlo : ∀ q, p = q + 1 → ¬ y < (c_new s (a.1 1) (nI k) (nI u) y).2 10 (s.1 15 q).toNatClampNeg) (hhi : ∀ j, p ≤ j → j < a.1 1 → y < (c_new s (a.1 1) (nI k) (nI u) y).2 10 (s.1 15 j).toNatClampNeg) :
    RC (c_ins (c_new s (a.1 1) (nI k) (nI u) y) (a.1 1) p (nI (a.1 1 + 1))) (g_new a k u y) := by
  obtain ⟨⟨h1, h2, h3⟩, hk, hs, hc, hpt, hx, hb⟩ := hR
  have hrl : a.2.1 6 (a.1 1 + 1) = 0 := by
    by_cases z : a.2.1 6 (a.1 1 + 1) = 0
    · exact z
    · have := hA.2.2.2.2.1 (a.1 1 + 1) (by omega) z
      omega
  have hac : ∀ i, 1 ≤ i → ac (g_new a k u y) i = ac a i := by
    intro i hi
    show cn (fun j => decide ((g_new a k u y).2.1 6 j = i)) (a.1 1 + 1) = _
    rw [cn]
    have e : ∀ j, (g_new a k u y).2.1 6 j = a.2.1 6 j := fun j => by
      unfold g_new
      rw [ar_21, af_o (by decide), ak_21, af_o (by decide), af_o (by decide), an_2]
    simp only [e, hrl]
    rw [if_neg (by simp; omega)]
    rfl
  have e3 : ∀ i, (g_new a k u y).2.1 3 i = if i = a.1 1 + 1 then k else a.2.1 3 i := fun i => by
    unfold g_new
    rw [ar_21, af_o (by decide), ak_21, af_o (by decide), af_s, an_2]
  have e4 : ∀ i, (g_new a k u y).2.1 4 i = if i = a.1 1 + 1 then u else a.2.1 4 i := fun i => by
    unfold g_new
    rw [ar_21, af_o (by decide), ak_21, af_s, af_o (by decide), an_2]
  have e5 : ∀ i, (g_new a k u y).2.1 5 i = if i = a.1 1 + 1 then 1 else a.2.1 5 i := fun i => by
    unfold g_new
    rw [ar_21, af_s, ak_21, af_o (by decide), af_o (by decide), an_2]
  have eo : ∀ f i, f ≠ 3 → f ≠ 4 → f ≠ 5 → (g_new a k u y).2.1 f i = a.2.1 f i := fun f i q1 q2 q3 => by
    unfold g_new
    rw [ar_21, af_o q3, ak_21, af_o q2, af_o q1, an_2]
  -- the state before the row by keys
  have key0 : ∀ e, (c_new s (a.1 1) (nI k) (nI u) y).2 10 e = if e = a.1 1 + 1 then y else s.2 10 e := fun e => by
    unfold c_new c_new0
    rw [c_right_2, p1_2, p2_s]
    rfl
  have s15 : ∀ j, (c_new s (a.1 1) (nI k) (nI u) y).1 15 j = s.1 15 j := fun j => by
    unfold c_new c_new0
    rw [c_right_o (by decide), p1_o (by decide), p2_1, p1_o (by decide), p1_o (by decide), p1_o (by decide)]
  have hb0 : BK (c_new s (a.1 1) (nI k) (nI u) y) a := by
    obtain ⟨bk, c1, c2, c3⟩ := hb
    exact ⟨bk, fun j hj => by rw [s15]; exact c1 j hj, c2, c3⟩
  have hbkr : ∀ j, j < a.1 1 → ∃ e, 1 ≤ e ∧ e ≤ a.1 1 ∧ s.1 15 j = nI e := by
    obtain ⟨bk, c1, c2, c3⟩ := hb
    intro j hj
    obtain ⟨d1, d2, d3⟩ := c1 j hj
    exact ⟨bk j, d2, d3, d1⟩
  have kold : ∀ j, j < a.1 1 → (c_new s (a.1 1) (nI k) (nI u) y).2 10 (s.1 15 j).toNatClampNeg = a.2.2.1 (s.1 15 j).toNatClampNeg := by
    intro j hj
    obtain ⟨e, d1, d2, d3⟩ := hbkr j hj
    rw [d3, q_cl (by omega), key0, if_neg (by omega)]
    exact (hs e (by omega)).2.2.1
  have hBK : BK (c_ins (c_new s (a.1 1) (nI k) (nI u) y) (a.1 1) p (nI (a.1 1 + 1))) (g_new a k u y) := by
    refine BK_ins hb0 hp (fun q e => ?_) (fun j b1 b2 => ?_) hn
    · rw [s15, ← kold q (by omega)]; exact hlo q e
    · rw [s15, ← kold j b2]; exact hhi j b1 b2
  refine ⟨⟨?_, ?_, ?_⟩, fun k' hk' => ?_, fun i hi => ?_, fun i b1 b2 => ?_, fun i q b1 b2 b3 b4 => ?_, fun j hj => ?_, hBK⟩
  · rw [c_ins_o (by decide), c_new, c_right_o (by decide), c_new0, p1_o (by decide), p2_1, p1_o (by decide), p1_o (by decide), p1_o (by decide), h1]; rfl
  · rw [c_ins_o (by decide), c_new, c_right_o (by decide), c_new0, p1_o (by decide), p2_1, p1_o (by decide), p1_o (by decide), p1_s, if_pos rfl]; rfl
  · rw [c_ins_o (by decide), c_new, c_right_o (by decide), c_new0, p1_o (by decide), p2_1, p1_o (by decide), p1_o (by decide), p1_o (by decide), h3]; rfl
  · simp only [c_ins_o (show (5 : Nat) ≠ 15 by decide), c_ins_o (show (6 : Nat) ≠ 15 by decide), c_ins_o (show (7 : Nat) ≠ 15 by decide), c_new, c_right_o (show (5 : Nat) ≠ 14 by decide), c_right_o (show (6 : Nat) ≠ 14 by decide), c_right_o (show (7 : Nat) ≠ 14 by decide), c_new0, p2_1]
    rw [eo 0 k' (by decide) (by decide) (by decide), eo 1 k' (by decide) (by decide) (by decide), eo 2 k' (by decide) (by decide) (by decide)]
    simpa [p1_o, p2_1] using hk k' hk'
  · obtain ⟨q1, q2, q3, q4, q5⟩ := hs i hi
    refine ⟨?_, ?_, ?_, ?_, ?_⟩
    · rw [c_ins_o (by decide), c_new, c_right_o (by decide), c_new0, p1_o (by decide), p2_1, p1_o (by decide), p1_s, e3]
      split
      · rfl
      · rw [p1_o (by decide), q1]
    · rw [c_ins_o (by decide), c_new, c_right_o (by decide), c_new0, p1_o (by decide), p2_1, p1_s, e4, e5]
      by_cases e : i = a.1 1 + 1
      · rw [if_pos e, if_pos e, if_pos e, if_pos rfl]
      · rw [if_neg e, if_neg e, if_neg e, p1_o (by decide), p1_o (by decide), q2]
    · rw [c_ins_2, key0]
      show _ = if i = a.1 1 + 1 then y else a.2.2.1 i
      rw [q3]
    · rw [c_ins_o (by decide), c_new, c_right_o (by decide), c_new0, p1_s, e5]
      by_cases e : i = a.1 1 + 1
      · rw [if_pos e, if_pos e]; rfl
      · rw [if_neg e, if_neg e, p2_1, p1_o (by decide), p1_o (by decide), p1_o (by decide), q4]
    · rw [c_ins_o (by decide), c_new, c_right_o (by decide), c_new0, p1_o (by decide), p2_1, p1_o (by decide), p1_o (by decide), p1_o (by decide), eo 6 i (by decide) (by decide) (by decide), q5]
  · rw [hac i b1, c_ins_o (by decide), c_new, c_right_o (by decide), c_new0, p1_o (by decide), p2_1, p1_o (by decide), p1_o (by decide), p1_o (by decide)]
    exact hc i b1 b2
  · rw [c_ins_o (by decide), c_new, cr_p b4]
    have hg : (g_new a k u y).2.2.2 (3 * i + q) = if i = a.1 1 + 1 then nI (a_tr (a_f (a_k (a_f (a_f (a_n a 1 (a.1 1 + 1)) 3 (a.1 1 + 1) k) 4 (a.1 1 + 1) u) (a.1 1 + 1) y) 5 (a.1 1 + 1) 1) i q) else a.2.2.2 (3 * i + q) := by
      unfold g_new
      rw [ar_p b4]
      by_cases e : i = a.1 1 + 1
      · rw [if_pos e, if_pos e, e]
      · rw [if_neg e, if_neg e]; rfl
    rw [hg]
    by_cases e : i = a.1 1 + 1
    · rw [if_pos e, if_pos e, ← e]
      have hcnt : ac (a_f (a_k (a_f (a_f (a_n a 1 i) 3 i k) 4 i u) i y) 5 i 1) i = ac a i := by
        have := hac i b1
        rw [e] at this ⊢
        exact this
      unfold c_tr a_tr
      rw [hcnt]
      have z9 : (c_new0 s (a.1 1) (nI k) (nI u) y).1 9 i = nI u := by
        rw [c_new0, p1_o (by decide), p2_1, p1_s, if_pos e]
      have z12 : (c_new0 s (a.1 1) (nI k) (nI u) y).1 12 i = nI (a.2.1 6 i) := by
        rw [c_new0, p1_o (by decide), p2_1, p1_o (by decide), p1_o (by decide), p1_o (by decide)]
        exact (hs i (by omega)).2.2.2.2
      have z13 : (c_new0 s (a.1 1) (nI k) (nI u) y).1 13 i = nI (ac a i) := by
        rw [c_new0, p1_o (by decide), p2_1, p1_o (by decide), p1_o (by decide), p1_o (by decide)]
        exact hc i b1 (by omega)
      rw [z9, z12, z13]
      split
      · rw [af_s, if_pos rfl, if_pos rfl, af_o (by decide), ak_21, af_s, if_pos rfl]
      · split
        · rw [af_o (by decide), ak_21, af_o (by decide), af_o (by decide), an_2]
        · rfl
    · rw [if_neg e, if_neg e, c_new0, p1_o (by decide), p2_1, p1_o (by decide), p1_o (by decide), p1_o (by decide)]
      rw [e5, if_neg e] at b3
      have : (g_new a k u y).1 1 = a.1 1 + 1 := rfl
      exact hpt i q b1 (by omega) b3 b4
  · simp only [c_ins_o (show (16 : Nat) ≠ 15 by decide), c_ins_o (show (17 : Nat) ≠ 15 by decide), c_new, c_right_o (show (16 : Nat) ≠ 14 by decide), c_right_o (show (17 : Nat) ≠ 14 by decide), c_new0, p2_1]
    rw [eo 7 j (by decide) (by decide) (by decide), eo 8 j (by decide) (by decide) (by decide)]
    simpa [p1_o, p2_1] using hx j hj
def pt_L_segment : ak_P := fun vs s Q => match vs with
  | [.ref 0, .int k, .int u, .long y] => ∃ a, AI a ∧ RC s a ∧ ∀ s', RC s' (g_segment a k u y) → Q (some (.int (f_segment a k u y))) s'
  | _ => False
def cs_L_segment : Nat → ak_P := fun a => match a with
  | 0 => pt_K_has
  | 1 => pt_L_mayBeUnder
  | 2 => pt_S_hasKey
  | _ => pt_S_add
theorem vc_L_segment : ak_VC lay_C cs_L_segment bl_L_segment 5 pt_L_segment := by
  intro vs s Q h
  unfold pt_L_segment at h
  split at h
  · rename_i k u y
    obtain ⟨a, hA, hR, h⟩ := h
    refine ⟨Nat.le_of_ble_eq_true rfl, fun J hJ => hJ 4 _ _ _ _ ?_⟩
    simp only [Nat.reduceAdd, Nat.reduceLeDiff, Nat.zero_le, true_or, or_true, run_s, e_nop, e_iconst, e_bipush, e_sipush, e_lconst, e_iload, e_iload_n, e_lload, e_lload_n, e_aload, e_aload_n, e_istore, e_istore_n, e_iinc, e_iadd, e_isub, e_imul, e_lcmp, e_dupI, e_dupR, e_dup2, e_getfield, e_putfield, e_iaload, e_baload, e_laload, e_iastore, e_bastore, e_lastore, e_if, e_icmp, e_goto, e_tsw, e_ireturn0, e_ireturn1, e_return, e_call0, e_call1, e_call2, e_call3, lI_e, lL_e, lR_e, ak_nth, ak_set, ak_ok1, ak_jp, ak_b1, ak_b2, ak_sw, ak_la, ak_pad, true_and, and_true, List.map_cons, List.map_nil, List.sum_cons, List.sum_nil, Value.category, Option.toList_some, Option.toList_none, List.cons_append, List.nil_append, gC_0_0, gC_0_1, gC_0_2, gC_0_3, rC_0, gC_1_0, pC_1_0, gC_1_1, gC_1_2, gC_1_3, rC_1, gC_2_0, pC_2_0, gC_2_1, gC_2_2, gC_2_3, gC_2_4, gC_2_5, gC_2_6, gC_2_7, gC_2_8, rC_2, gC_3_0, pC_3_0, gC_3_1, gC_3_2, rC_3, gC_4_0, gC_4_1, gC_4_2, gC_4_3, gC_4_4, pC_4_4, rC_4, kC_5, kC_6, kC_7, kC_8, kC_9, kC_10, kC_11, kC_12, kC_13, kC_14, kC_15, kC_16, kC_17, kC_18, kC_19, fd_L_segment_0, fd_L_segment_14, fd_L_segment_26, fd_L_segment_42, bk_L_segment_0, bk_L_segment_14, bk_L_segment_26, bk_L_segment_42, cs_L_segment, pt_K_has, pt_L_mayBeUnder, pt_S_hasKey, pt_S_add]
    simp only [bt0, Classical.not_not, i10, false_implies, not_false_eq_true, true_implies, not_true_eq_false, true_and, and_true, false_and, and_false, imp_self]
    have hn := hA.1
    rw [hR.1.1]
    have same : g_segment a k u y = a → Q (some (.int (f_segment a k u y))) s := fun e => h s (by rw [e]; exact hR)
    refine ⟨fun q => ⟨a, hA, hR, q, fun hf => ⟨a.1 1, hn.2.1, hR.1.2.1, fun ⟨i, b1, b2, b3, b4, b5, b6⟩ => ?_, fun hno => ?_⟩, fun hf => ?_⟩, fun q => ?_⟩
    · obtain ⟨c1, c2, c3, c4, _⟩ := hR.2.2.1 i (by omega)
      have hst : a.2.1 5 i = 1 := by
        have := (hA.2.2.1 i (by omega)).2.2.1
        rw [c4, n_1, q_eq (by omega) (by omega)] at b4
        exact b4
      have hd : a_dup a k u y := by
        refine cn_ex.mpr ⟨i, b1, b2, ?_⟩
        rw [decide_eq_true_eq]
        rw [c2, if_pos hst] at b6
        exact ⟨hst, by rw [← c1]; exact b5, b6, by rw [← c3]; exact b3⟩
      have := same (by rw [g_segment, ci_f (fun z => z.2.2.1 hd)])
      rw [f_segment, ci_f (fun z => z q), ci_f (fun z => z hf), ci_t hd] at this
      exact this
    · have hd : ¬ a_dup a k u y := by
        intro z
        obtain ⟨i, b1, b2, b3⟩ := cn_ex.mp z
        rw [decide_eq_true_eq] at b3
        obtain ⟨c1, c2, c3, c4, _⟩ := hR.2.2.1 i (by omega)
        refine hno i b1 b2 ⟨by rw [c3]; exact b3.2.2.2, by rw [c4, b3.1]; rfl, by rw [c1]; exact b3.2.1, by rw [c2, if_pos b3.1]; exact b3.2.2.1⟩
      refine ⟨a.1 1, hn.2.1, hR.1.2.1, fun j hj => ?_, fun e => ?_, fun e p hp hlo hhi => ?_⟩
      · obtain ⟨bk, c1, _, _⟩ := hR.2.2.2.2.2.2
        obtain ⟨d1, d2, d3⟩ := c1 j hj
        exact ⟨bk j, by omega, d1⟩
      · have := same (by rw [g_segment, ci_f (fun z => by omega)])
        rw [f_segment, ci_f (fun z => z q), ci_f (fun z => z hf), ci_f hd, ci_t e] at this
        exact this
      · obtain ⟨k', hk1, hk2, rfl⟩ := iK_of hA q
        have hu : ∃ u' : Nat, u' < 2147483648 ∧ u = nI u' := by
          unfold a_fit at hf
          split at hf
          · exact ⟨0, by omega, hf⟩
          · obtain ⟨u', _, z, z2⟩ := iS_of hA hf.1
            exact ⟨u', by omega, z2⟩
        obtain ⟨u', hu1, rfl⟩ := hu
        have hy : (c_new s (a.1 1) (nI k') (nI u') y).2 10 (a.1 1 + 1) = y := by
          unfold c_new c_new0
          rw [c_right_2, p1_2, p2_s, if_pos rfl]
        rw [hy] at hlo hhi
        have := h (c_ins (c_new s (a.1 1) (nI k') (nI u') y) (a.1 1) p (nI (a.1 1 + 1))) (by
          rw [g_segment, ci_t ⟨q, hf, hd, e⟩, q_cl (by omega), q_cl hu1]
          exact RC_new hA hR e hp hlo hhi)
        rw [f_segment, ci_f (fun z => z q), ci_f (fun z => z hf), ci_f hd, ci_f (by omega)] at this
        exact this
    · have := same (by rw [g_segment, ci_f (fun z => hf z.2.1)])
      rw [f_segment, ci_f (fun z => z q), ci_t hf] at this
      exact this
    · have := same (by rw [g_segment, ci_f (fun z => q z.1)])
      rw [f_segment, ci_t q] at this
      exact this
  · exact h.elim
set_option maxRecDepth 20000 in
theorem ct_L_segment (l : Launch) : ak_Ctr l cl_all lay_C y_L_segment ws_L_segment rm_L_segment pt_L_segment := by
  refine ak_met (cs := cs_L_segment) (reg := rg_L_segment) (bl := bl_L_segment) (by decide +kernel) rfl (cl_ok _) rfl ok_L_segment ?_ vc_L_segment
  intro a n b ci h
  match a, h with
  | 0, h =>
    cases h
    exact ak_ccV (ct_K_has l) rfl 161 162 163 21 164 (by decide +kernel) ⟨rfl, rfl⟩ (by decide +kernel) (by decide +kernel)
  | 1, h =>
    cases h
    exact ak_ccV (ct_L_mayBeUnder l) rfl 181 182 0 20 183 (by decide +kernel) ⟨rfl, rfl⟩ (by decide +kernel) (by decide +kernel)
  | 2, h =>
    cases h
    exact ak_ccV (ct_S_hasKey l) rfl 192 193 194 22 195 (by decide +kernel) ⟨rfl, rfl⟩ (by decide +kernel) (by decide +kernel)
  | 3, h =>
    cases h
    exact ak_ccV (ct_S_add l) rfl 200 201 202 22 203 (by decide +kernel) ⟨rfl, rfl⟩ (by decide +kernel) (by decide +kernel)
  | k + 4, h => cases h
end
section
/-! the class's relate, there, count, index, poke -/
def f_relate (a : ab_T) (i o : Int32) : Int32 := if ¬ (iS a i ∧ iS a o) then -2 else if a.2.1 1 (a.2.1 3 i.toNatClampNeg) = 0 ∨ a.2.1 3 o.toNatClampNeg ≠ a.2.1 1 (a.2.1 3 i.toNatClampNeg) ∨ i = o then -4 else if a.2.1 5 i.toNatClampNeg ≠ 1 ∨ a.2.1 5 o.toNatClampNeg = 0 ∨ a.2.1 6 i.toNatClampNeg ≠ 0 then -5 else 1
def g_relate (a : ab_T) (i o : Int32) : ab_T := if f_relate a i o = 1 then a_right (a_right (a_f a 6 i.toNatClampNeg o.toNatClampNeg) i.toNatClampNeg) o.toNatClampNeg else a
theorem ac_join {a : ab_T} {i o j : Nat} (h1 : 1 ≤ i) (h2 : i ≤ a.1 1) (h0 : a.2.1 6 i = 0) (hj : 1 ≤ j) : ac (a_f a 6 i o) j = if j = o then ac a j + 1 else ac a j := by
  unfold ac
  rw [af_1]
  split
  · rename_i e
    subst e
    refine cn_add (e := i) h1 h2 ?_ ?_ ?_
    · rw [h0]; simp; omega
    · rw [af_s, if_pos rfl]; simp
    · intro k _ _ hk
      rw [af_s, if_neg hk]
  · rename_i e
    refine cn_congr (fun k _ _ => ?_)
    rw [af_s]
    by_cases hk : k = i
    · rw [if_pos hk, hk, h0]
      have : ¬ o = j := fun z => e z.symm
      simp [this]
      omega
    · rw [if_neg hk]
theorem RC_join {s : ak_S} {a : ab_T} {i o : Nat} (hA : AI a) (hR : RC s a) (h1 : 1 ≤ i) (h2 : i ≤ a.1 1) (h3 : 1 ≤ o) (h4 : o ≤ a.1 1) (h0 : a.2.1 6 i = 0) : RC (c_join s i o) (a_right (a_right (a_f a 6 i o) i) o) := by
  have hn := hA.1
  have hR1 : RCx (ak_p1 (ak_p1 s 12 i (nI o)) 13 o (s.1 13 o + 1)) (a_f a 6 i o) (fun _ => False) := by
    obtain ⟨⟨q1, q2, q3⟩, hk, hs, hc, hp, hx, hb⟩ := hR
    refine ⟨⟨?_, ?_, ?_⟩, fun k hk' => ?_, fun j hj => ?_, fun j b1 b2 => ?_, fun j p b1 b2 b3 b4 _ => ?_, fun j hj => ?_, ?_⟩
    · simp [p1_o, af_1, q1]
    · simp [p1_o, af_1, q2]
    · simp [p1_o, af_1, q3]
    · simpa [p1_o, af_o] using hk k hk'
    · obtain ⟨z1, z2, z3, z4, z5⟩ := hs j hj
      refine ⟨?_, ?_, ?_, ?_, ?_⟩
      · simp [p1_o, af_o, z1]
      · simp [p1_o, af_o, z2]
      · rw [p1_2, p1_2, af_2, z3]
      · simp [p1_o, af_o, z4]
      · rw [p1_o (by decide), p1_s, af_s]
        split
        · rfl
        · exact z5
    · rw [p1_s, ac_join h1 h2 h0 b1]
      split
      · rename_i e
        rw [e, hc o h3 (by omega), nI_1]
      · rw [p1_o (by decide), hc j b1 b2]
    · rw [p1_o (by decide), p1_o (by decide), af_2]
      exact hp j p b1 b2 (by simpa [af_o] using b3) b4
    · simpa [p1_o, af_o] using hx j hj
    · obtain ⟨bk, c1, c2, c3⟩ := hb
      refine ⟨bk, fun j hj => ?_, c2, c3⟩
      rw [p1_o (by decide), p1_o (by decide)]
      exact c1 j hj
  exact RC_of (RCx_right (RCx_right hR1 h1 (by omega)) h3 (by omega)) (fun _ _ _ _ z => z.1.1)
def pt_L_relate : ak_P := fun vs s Q => match vs with
  | [.ref 0, .int i, .int o] => ∃ a, AI a ∧ RC s a ∧ ∀ s', RC s' (g_relate a i o) → Q (some (.int (f_relate a i o))) s'
  | _ => False
def cs_L_relate : Nat → ak_P := fun a => match a with
  | 0 => pt_S_has
  | 1 => pt_S_is
  | _ => pt_S_join
theorem vc_L_relate : ak_VC lay_C cs_L_relate bl_L_relate 3 pt_L_relate := by
  intro vs s Q h
  unfold pt_L_relate at h
  split at h
  · rename_i i o
    obtain ⟨a, hA, hR, h⟩ := h
    refine ⟨Nat.le_of_ble_eq_true rfl, fun J hJ => hJ 6 _ _ _ _ ?_⟩
    simp only [Nat.reduceAdd, Nat.reduceLeDiff, Nat.zero_le, true_or, or_true, run_s, e_nop, e_iconst, e_bipush, e_sipush, e_lconst, e_iload, e_iload_n, e_lload, e_lload_n, e_aload, e_aload_n, e_istore, e_istore_n, e_iinc, e_iadd, e_isub, e_imul, e_lcmp, e_dupI, e_dupR, e_dup2, e_getfield, e_putfield, e_iaload, e_baload, e_laload, e_iastore, e_bastore, e_lastore, e_if, e_icmp, e_goto, e_tsw, e_ireturn0, e_ireturn1, e_return, e_call0, e_call1, e_call2, e_call3, lI_e, lL_e, lR_e, ak_nth, ak_set, ak_ok1, ak_jp, ak_b1, ak_b2, ak_sw, ak_la, ak_pad, true_and, and_true, List.map_cons, List.map_nil, List.sum_cons, List.sum_nil, Value.category, Option.toList_some, Option.toList_none, List.cons_append, List.nil_append, gC_0_0, gC_0_1, gC_0_2, gC_0_3, rC_0, gC_1_0, pC_1_0, gC_1_1, gC_1_2, gC_1_3, rC_1, gC_2_0, pC_2_0, gC_2_1, gC_2_2, gC_2_3, gC_2_4, gC_2_5, gC_2_6, gC_2_7, gC_2_8, rC_2, gC_3_0, pC_3_0, gC_3_1, gC_3_2, rC_3, gC_4_0, gC_4_1, gC_4_2, gC_4_3, gC_4_4, pC_4_4, rC_4, kC_5, kC_6, kC_7, kC_8, kC_9, kC_10, kC_11, kC_12, kC_13, kC_14, kC_15, kC_16, kC_17, kC_18, kC_19, fd_L_relate_0, fd_L_relate_22, fd_L_relate_25, fd_L_relate_59, fd_L_relate_62, fd_L_relate_98, fd_L_relate_101, bk_L_relate_0, bk_L_relate_22, bk_L_relate_25, bk_L_relate_59, bk_L_relate_62, bk_L_relate_98, bk_L_relate_101, cs_L_relate, pt_S_has, pt_S_is, pt_S_join]
    simp only [bt0, Classical.not_not, i10, false_implies, not_false_eq_true, true_implies, not_true_eq_false, true_and, and_true, false_and, and_false, imp_self]
    rw [hR.1.2.1]
    have hn := hA.1
    have same : ∀ v : Int32, v ≠ 1 → f_relate a i o = v → Q (some (.int v)) s := by
      intro v hv e
      have := h s (by rw [g_relate, e, if_neg hv]; exact hR)
      rw [e] at this
      exact this
    refine ⟨fun q => same _ (by decide) (by rw [f_relate, if_pos (fun y => q y.1)]), fun q => ⟨fun q2 => ⟨fun q3 => same _ (by decide) ?_, fun q3 => ?_⟩, fun q2 => same _ (by decide) (by rw [f_relate, if_pos (fun y => q2 y.2)])⟩⟩
    · rw [f_relate, if_neg (fun y => y ⟨q, q2⟩), if_pos (Or.inr (Or.inr q3))]
    · obtain ⟨i', hi1, hi2, rfl⟩ := iS_of hA q
      obtain ⟨o', ho1, ho2, rfl⟩ := iS_of hA q2
      rw [q_cl (by omega), q_cl (by omega)]
      obtain ⟨b1, _, _, b4, b5⟩ := hR.2.2.1 i' (by omega)
      obtain ⟨c1, _, _, c4, c5⟩ := hR.2.2.1 o' (by omega)
      obtain ⟨d1, _, d3, d4⟩ := hA.2.2.1 i' (by omega)
      obtain ⟨e1, _, e3, e4⟩ := hA.2.2.1 o' (by omega)
      have hlp := (hR.2.1 (a.2.1 3 i') (by omega)).2.1
      have hlb := (hA.2.1 (a.2.1 3 i') (by omega)).2.1
      have hko := hA.2.2.2.1 o' ho1 ho2
      rw [b1, q_cl (by omega), hlp, c1, b4, c4, b5, q_eq (by omega) (by omega)]
      have r1 : f_relate a (nI i') (nI o') = if a.2.1 1 (a.2.1 3 i') = 0 ∨ a.2.1 3 o' ≠ a.2.1 1 (a.2.1 3 i') ∨ nI i' = nI o' then -4 else if a.2.1 5 i' ≠ 1 ∨ a.2.1 5 o' = 0 ∨ a.2.1 6 i' ≠ 0 then -5 else 1 := by
        rw [f_relate, if_neg (fun y => y ⟨q, q2⟩), q_cl (by omega), q_cl (by omega)]
      refine ⟨q_in (by omega) (by omega), q_in (by omega) (by omega), q_in (by omega) (by omega), fun q4 => ?_, fun q4 => same _ (by decide) ?_⟩
      · have z4 : ¬ (a.2.1 1 (a.2.1 3 i') = 0 ∨ a.2.1 3 o' ≠ a.2.1 1 (a.2.1 3 i') ∨ nI i' = nI o') := by
          rintro (z | z | z)
          · omega
          · exact z q4.symm
          · exact q3 z
        rw [if_neg z4] at r1
        refine ⟨a.1 1, by omega, rfl, fun q5 => same _ (by decide) ?_, fun q5 => ⟨a.1 1, by omega, rfl, fun q6 => same _ (by decide) ?_, fun q6 => ⟨q_in (by omega) (by omega), fun q7 => ?_, fun q7 => same _ (by decide) ?_⟩⟩⟩
        · rw [r1, if_pos (Or.inl (fun z => q5 ⟨q, by rw [z]; rfl⟩))]
        · have := q6.2
          rw [n_0, q_eq (by omega) (by omega)] at this
          rw [r1, if_pos (Or.inr (Or.inl this))]
        · have s1 := q5.2
          rw [n_1, q_eq (by omega) (by omega)] at s1
          have s2 : a.2.1 5 o' ≠ 0 := fun z => q6 ⟨q2, by rw [z]; rfl⟩
          rw [n_0, q_eq (by omega) (by omega)] at q7
          have r2 : f_relate a (nI i') (nI o') = 1 := by
            rw [r1, if_neg]
            rintro (z | z | z)
            · exact z s1
            · exact s2 z
            · exact z q7
          refine ⟨i', o', by omega, by omega, rfl, rfl, ?_⟩
          have := h (c_join s i' o') (by
            rw [g_relate, r2, if_pos rfl, q_cl (by omega), q_cl (by omega)]
            exact RC_join hA hR hi1 hi2 ho1 ho2 q7)
          rw [r2] at this
          exact this
        · rw [n_0, q_eq (by omega) (by omega)] at q7
          rw [r1, if_pos (Or.inr (Or.inr q7))]
      · rw [r1, if_pos (Or.inr (Or.inl (fun z => q4 z.symm)))]
  · exact h.elim
set_option maxRecDepth 20000 in
theorem ct_L_relate (l : Launch) : ak_Ctr l cl_all lay_C y_L_relate ws_L_relate rm_L_relate pt_L_relate := by
  refine ak_met (cs := cs_L_relate) (reg := rg_L_relate) (bl := bl_L_relate) (by decide +kernel) rfl (cl_ok _) rfl ok_L_relate ?_ vc_L_relate
  intro a n b ci h
  match a, h with
  | 0, h =>
    cases h
    exact ak_ccV (ct_S_has l) rfl 218 189 190 22 191 (by decide +kernel) ⟨rfl, rfl⟩ (by decide +kernel) (by decide +kernel)
  | 1, h =>
    cases h
    exact ak_ccV (ct_S_is l) rfl 184 185 186 22 187 (by decide +kernel) ⟨rfl, rfl⟩ (by decide +kernel) (by decide +kernel)
  | 2, h =>
    cases h
    exact ak_ccV (ct_S_join l) rfl 219 220 221 22 222 (by decide +kernel) ⟨rfl, rfl⟩ (by decide +kernel) (by decide +kernel)
  | k + 3, h => cases h
def f_there (a : ab_T) (i d : Int32) : Int32 := if iS a i ∧ ((d = 0 ∧ a.2.1 5 i.toNatClampNeg = 1) ∨ (d = 1 ∧ a.2.1 5 i.toNatClampNeg = 2)) then 1 else 0
def pt_L_there : ak_P := fun vs s Q => match vs with
  | [.ref 0, .int i, .int d] => ∃ a, AI a ∧ RC s a ∧ Q (some (.int (f_there a i d))) s
  | _ => False
def cs_L_there : Nat → ak_P := fun a => match a with
  | _ => pt_S_is
theorem vc_L_there : ak_VC lay_C cs_L_there bl_L_there 3 pt_L_there := by
  intro vs s Q h
  unfold pt_L_there at h
  split at h
  · rename_i i d
    obtain ⟨a, hA, hR, h⟩ := h
    refine ⟨Nat.le_of_ble_eq_true rfl, fun J hJ => hJ 6 _ _ _ _ ?_⟩
    simp only [Nat.reduceAdd, Nat.reduceLeDiff, Nat.zero_le, true_or, or_true, run_s, e_nop, e_iconst, e_bipush, e_sipush, e_lconst, e_iload, e_iload_n, e_lload, e_lload_n, e_aload, e_aload_n, e_istore, e_istore_n, e_iinc, e_iadd, e_isub, e_imul, e_lcmp, e_dupI, e_dupR, e_dup2, e_getfield, e_putfield, e_iaload, e_baload, e_laload, e_iastore, e_bastore, e_lastore, e_if, e_icmp, e_goto, e_tsw, e_ireturn0, e_ireturn1, e_return, e_call0, e_call1, e_call2, e_call3, lI_e, lL_e, lR_e, ak_nth, ak_set, ak_ok1, ak_jp, ak_b1, ak_b2, ak_sw, ak_la, ak_pad, true_and, and_true, List.map_cons, List.map_nil, List.sum_cons, List.sum_nil, Value.category, Option.toList_some, Option.toList_none, List.cons_append, List.nil_append, gC_0_0, gC_0_1, gC_0_2, gC_0_3, rC_0, gC_1_0, pC_1_0, gC_1_1, gC_1_2, gC_1_3, rC_1, gC_2_0, pC_2_0, gC_2_1, gC_2_2, gC_2_3, gC_2_4, gC_2_5, gC_2_6, gC_2_7, gC_2_8, rC_2, gC_3_0, pC_3_0, gC_3_1, gC_3_2, rC_3, gC_4_0, gC_4_1, gC_4_2, gC_4_3, gC_4_4, pC_4_4, rC_4, kC_5, kC_6, kC_7, kC_8, kC_9, kC_10, kC_11, kC_12, kC_13, kC_14, kC_15, kC_16, kC_17, kC_18, kC_19, fd_L_there_0, fd_L_there_14, fd_L_there_35, fd_L_there_36, bk_L_there_0, bk_L_there_14, bk_L_there_35, bk_L_there_36, cs_L_there, pt_S_is]
    simp only [bt0, Classical.not_not, i10, false_implies, not_false_eq_true, true_implies, not_true_eq_false, true_and, and_true, false_and, and_false, imp_self]
    have hn := hA.1
    rw [hR.1.2.1]
    have key : ∀ w : Nat, w ≤ 2 → iS a i → (s.1 11 i.toNatClampNeg = nI w ↔ a.2.1 5 i.toNatClampNeg = w) := by
      intro w hw hi
      obtain ⟨i', hi1, hi2, rfl⟩ := iS_of hA hi
      rw [q_cl (by omega), (hR.2.2.1 i' (by omega)).2.2.2.1]
      have := (hA.2.2.1 i' (by omega)).2.2.1
      exact nI_eq (by omega) (by omega)
    have k1 := key 1 (by omega)
    have k2 := key 2 (by omega)
    rw [← n_1] at k1
    rw [← n_2] at k2
    unfold f_there at h
    refine ⟨fun q => ⟨fun q2 => ?_, fun q2 => ⟨a.1 1, hn.2.1, rfl, fun q3 => ?_, fun q3 => ?_⟩⟩, fun q => ⟨a.1 1, hn.2.1, rfl, ?_, ?_⟩⟩
    · rw [if_neg] at h
      · exact h
      · rintro ⟨_, z | z⟩
        · exact q z.1
        · exact q2 z.1
    · rw [if_neg] at h
      · exact h
      · rintro ⟨z0, z | z⟩
        · exact q z.1
        · exact q3 ⟨z0, (k2 z0).mpr z.2⟩
    · rw [if_pos ⟨q3.1, Or.inr ⟨q2, (k2 q3.1).mp q3.2⟩⟩] at h
      exact h
    · rw [bt1]
      exact (Classical.em _).symm
    · by_cases z : iS a i ∧ s.1 11 i.toNatClampNeg = 1
      · rw [if_pos z]
        rw [if_pos ⟨z.1, Or.inl ⟨q, (k1 z.1).mp z.2⟩⟩] at h
        exact h
      · rw [if_neg z]
        rw [if_neg] at h
        · exact h
        · rintro ⟨z0, y | y⟩
          · exact z ⟨z0, (k1 z0).mpr y.2⟩
          · rw [q] at y
            exact absurd y.1 (by decide)
  · exact h.elim
set_option maxRecDepth 20000 in
theorem ct_L_there (l : Launch) : ak_Ctr l cl_all lay_C y_L_there ws_L_there rm_L_there pt_L_there := by
  refine ak_met (cs := cs_L_there) (reg := rg_L_there) (bl := bl_L_there) (by decide +kernel) rfl (cl_ok _) rfl ok_L_there ?_ vc_L_there
  intro a n b ci h
  match a, h with
  | 0, h =>
    cases h
    exact ak_ccV (ct_S_is l) rfl 184 185 186 22 187 (by decide +kernel) ⟨rfl, rfl⟩ (by decide +kernel) (by decide +kernel)
  | k + 1, h => cases h
def f_count (a : ab_T) (i : Int32) : Int32 := if iS a i then nI (ac a i.toNatClampNeg) else -2
def pt_L_count : ak_P := fun vs s Q => match vs with
  | [.ref 0, .int i] => ∃ a, AI a ∧ RC s a ∧ Q (some (.int (f_count a i))) s
  | _ => False
def cs_L_count : Nat → ak_P := fun a => match a with
  | _ => pt_S_has
theorem vc_L_count : ak_VC lay_C cs_L_count bl_L_count 2 pt_L_count := by
  intro vs s Q h
  unfold pt_L_count at h
  split at h
  · rename_i i
    obtain ⟨a, hA, hR, h⟩ := h
    refine ⟨Nat.le_of_ble_eq_true rfl, fun J hJ => hJ 4 _ _ _ _ ?_⟩
    simp only [Nat.reduceAdd, Nat.reduceLeDiff, Nat.zero_le, true_or, or_true, run_s, e_nop, e_iconst, e_bipush, e_sipush, e_lconst, e_iload, e_iload_n, e_lload, e_lload_n, e_aload, e_aload_n, e_istore, e_istore_n, e_iinc, e_iadd, e_isub, e_imul, e_lcmp, e_dupI, e_dupR, e_dup2, e_getfield, e_putfield, e_iaload, e_baload, e_laload, e_iastore, e_bastore, e_lastore, e_if, e_icmp, e_goto, e_tsw, e_ireturn0, e_ireturn1, e_return, e_call0, e_call1, e_call2, e_call3, lI_e, lL_e, lR_e, ak_nth, ak_set, ak_ok1, ak_jp, ak_b1, ak_b2, ak_sw, ak_la, ak_pad, true_and, and_true, List.map_cons, List.map_nil, List.sum_cons, List.sum_nil, Value.category, Option.toList_some, Option.toList_none, List.cons_append, List.nil_append, gC_0_0, gC_0_1, gC_0_2, gC_0_3, rC_0, gC_1_0, pC_1_0, gC_1_1, gC_1_2, gC_1_3, rC_1, gC_2_0, pC_2_0, gC_2_1, gC_2_2, gC_2_3, gC_2_4, gC_2_5, gC_2_6, gC_2_7, gC_2_8, rC_2, gC_3_0, pC_3_0, gC_3_1, gC_3_2, rC_3, gC_4_0, gC_4_1, gC_4_2, gC_4_3, gC_4_4, pC_4_4, rC_4, kC_5, kC_6, kC_7, kC_8, kC_9, kC_10, kC_11, kC_12, kC_13, kC_14, kC_15, kC_16, kC_17, kC_18, kC_19, fd_L_count_0, fd_L_count_23, fd_L_count_25, bk_L_count_0, bk_L_count_23, bk_L_count_25, cs_L_count, pt_S_has]
    simp only [bt0, Classical.not_not, i10, false_implies, not_false_eq_true, true_implies, not_true_eq_false, true_and, and_true, false_and, and_false, imp_self]
    have hn := hA.1
    rw [hR.1.2.1]
    unfold f_count at h
    refine ⟨fun q => ?_, fun q => ?_⟩
    · rw [if_neg q] at h
      exact h
    · rw [if_pos q] at h
      obtain ⟨i', hi1, hi2, rfl⟩ := iS_of hA q
      rw [q_cl (by omega)] at h ⊢
      rw [hR.2.2.2.1 i' hi1 (by omega)]
      exact ⟨q_in (by omega) (by omega), h⟩
  · exact h.elim
set_option maxRecDepth 20000 in
theorem ct_L_count (l : Launch) : ak_Ctr l cl_all lay_C y_L_count ws_L_count rm_L_count pt_L_count := by
  refine ak_met (cs := cs_L_count) (reg := rg_L_count) (bl := bl_L_count) (by decide +kernel) rfl (cl_ok _) rfl ok_L_count ?_ vc_L_count
  intro a n b ci h
  match a, h with
  | 0, h =>
    cases h
    exact ak_ccV (ct_S_has l) rfl 218 189 190 22 191 (by decide +kernel) ⟨rfl, rfl⟩ (by decide +kernel) (by decide +kernel)
  | k + 1, h => cases h
def f_index (a : ab_T) (k b : Int32) : Int32 := if iK a k then (if a.1 2 = 10 then -1 else nI (a.1 2 + 1)) else -2
def g_index (a : ab_T) (k b : Int32) : ab_T := if iK a k ∧ a.1 2 < 10 then a_f (a_f (a_n a 2 (a.1 2 + 1)) 7 (a.1 2 + 1) k.toNatClampNeg) 8 (a.1 2 + 1) (b &&& 1).toNatClampNeg else a
theorem and1 (b : Int32) : ∃ j : Nat, j < 2 ∧ b &&& 1 = nI j := pk_andE b 1 (by decide)
theorem RC_index {s : ak_S} {a : ab_T} {k j : Nat} (hR : RC s a) : RC (ak_p1 (ak_p1 (ak_p1 s 3 0 (nI (a.1 2 + 1))) 16 (a.1 2 + 1) (nI k)) 17 (a.1 2 + 1) (nI j)) (a_f (a_f (a_n a 2 (a.1 2 + 1)) 7 (a.1 2 + 1) k) 8 (a.1 2 + 1) j) := by
  obtain ⟨⟨h1, h2, h3⟩, hk, hs, hc, hp, hx, hb⟩ := hR
  refine ⟨⟨?_, ?_, ?_⟩, fun k' hk' => ?_, fun i hi => ?_, fun i h1 h2 => ?_, fun i p h1 h2 h3 h4 => ?_, fun j hj => ?_, ?_⟩
  · simp [p1_o, af_1, an_1, h1]
  · simp [p1_o, af_1, an_1, h2]
  · simp [p1_s, p1_o, af_1, an_1]
  · simpa [p1_o, af_o, an_2] using hk k' hk'
  · simpa [p1_o, p1_2, af_o, af_2, an_2] using hs i hi
  · simpa [p1_o, ac, af_o, af_1, an_1, an_2] using hc i h1 h2
  · simpa [p1_o, af_2, an_2] using hp i p h1 h2 (by simpa [af_o, an_2] using h3) h4
  · obtain ⟨q1, q2⟩ := hx j hj
    refine ⟨?_, ?_⟩
    · rw [p1_o (by decide), p1_s, af_o (by decide), af_s]
      split
      · rfl
      · rw [p1_o (by decide), q1]; rfl
    · rw [p1_s, af_s]
      split
      · rfl
      · rw [p1_o (by decide), p1_o (by decide), q2, af_o (by decide)]; rfl
  · simpa [BK, p1_o, af_1, an_1, a_lt, af_2, an_2] using hb
def pt_L_index : ak_P := fun vs s Q => match vs with
  | [.ref 0, .int k, .int b] => ∃ a, AI a ∧ RC s a ∧ ∀ s', RC s' (g_index a k b) → Q (some (.int (f_index a k b))) s'
  | _ => False
def cs_L_index : Nat → ak_P := fun a => match a with
  | 0 => pt_K_has
  | _ => pt_X_add
theorem vc_L_index : ak_VC lay_C cs_L_index bl_L_index 3 pt_L_index := by
  intro vs s Q h
  unfold pt_L_index at h
  split at h
  · rename_i k b
    obtain ⟨a, hA, hR, h⟩ := h
    refine ⟨Nat.le_of_ble_eq_true rfl, fun J hJ => hJ 4 _ _ _ _ ?_⟩
    simp only [Nat.reduceAdd, Nat.reduceLeDiff, Nat.zero_le, true_or, or_true, run_s, e_nop, e_iconst, e_bipush, e_sipush, e_lconst, e_iload, e_iload_n, e_lload, e_lload_n, e_aload, e_aload_n, e_istore, e_istore_n, e_iinc, e_iadd, e_isub, e_imul, e_lcmp, e_dupI, e_dupR, e_dup2, e_getfield, e_putfield, e_iaload, e_baload, e_laload, e_iastore, e_bastore, e_lastore, e_if, e_icmp, e_goto, e_tsw, e_ireturn0, e_ireturn1, e_return, e_call0, e_call1, e_call2, e_call3, lI_e, lL_e, lR_e, ak_nth, ak_set, ak_ok1, ak_jp, ak_b1, ak_b2, ak_sw, ak_la, ak_pad, true_and, and_true, List.map_cons, List.map_nil, List.sum_cons, List.sum_nil, Value.category, Option.toList_some, Option.toList_none, List.cons_append, List.nil_append, gC_0_0, gC_0_1, gC_0_2, gC_0_3, rC_0, gC_1_0, pC_1_0, gC_1_1, gC_1_2, gC_1_3, rC_1, gC_2_0, pC_2_0, gC_2_1, gC_2_2, gC_2_3, gC_2_4, gC_2_5, gC_2_6, gC_2_7, gC_2_8, rC_2, gC_3_0, pC_3_0, gC_3_1, gC_3_2, rC_3, gC_4_0, gC_4_1, gC_4_2, gC_4_3, gC_4_4, pC_4_4, rC_4, kC_5, kC_6, kC_7, kC_8, kC_9, kC_10, kC_11, kC_12, kC_13, kC_14, kC_15, kC_16, kC_17, kC_18, kC_19, fd_L_index_0, fd_L_index_14, bk_L_index_0, bk_L_index_14, cs_L_index, pt_K_has, pt_X_add]
    simp only [bt0, Classical.not_not, i10, false_implies, not_false_eq_true, true_implies, not_true_eq_false, true_and, and_true, false_and, and_false, imp_self]
    have hn := hA.1
    rw [hR.1.1, hR.1.2.2]
    refine ⟨fun q => ⟨a.1 2, hn.2.2, rfl, fun e => ?_, fun e => ?_⟩, fun q => ?_⟩
    · have := h s (by rw [g_index, if_neg (fun z => by omega)]; exact hR)
      rw [f_index, if_pos q, if_pos e] at this
      exact this
    · obtain ⟨k', hk1, hk2, rfl⟩ := iK_of hA q
      obtain ⟨j, hj1, hj2⟩ := and1 b
      rw [hj2]
      have := h (ak_p1 (ak_p1 (ak_p1 s 3 0 (nI (a.1 2 + 1))) 16 (a.1 2 + 1) (nI k')) 17 (a.1 2 + 1) (nI j)) (by
        rw [g_index, if_pos ⟨q, e⟩, q_cl (by omega), hj2, q_cl (by omega)]
        exact RC_index hR)
      rw [f_index, if_pos q, if_neg (by omega)] at this
      exact this
    · have := h s (by rw [g_index, if_neg (fun z => q z.1)]; exact hR)
      rw [f_index, if_neg q] at this
      exact this
  · exact h.elim
set_option maxRecDepth 20000 in
theorem ct_L_index (l : Launch) : ak_Ctr l cl_all lay_C y_L_index ws_L_index rm_L_index pt_L_index := by
  refine ak_met (cs := cs_L_index) (reg := rg_L_index) (bl := bl_L_index) (by decide +kernel) rfl (cl_ok _) rfl ok_L_index ?_ vc_L_index
  intro a n b ci h
  match a, h with
  | 0, h =>
    cases h
    exact ak_ccV (ct_K_has l) rfl 161 162 163 21 164 (by decide +kernel) ⟨rfl, rfl⟩ (by decide +kernel) (by decide +kernel)
  | 1, h =>
    cases h
    exact ak_ccV (ct_X_add l) rfl 285 286 287 23 288 (by decide +kernel) ⟨rfl, rfl⟩ (by decide +kernel) (by decide +kernel)
  | k + 2, h => cases h
def f_poke (a : ab_T) (i p t : Int32) : Int32 := if ¬ iS a i then -2 else if p < 0 ∨ 2 < p then -4 else if a.2.1 5 i.toNatClampNeg = 0 then -5 else a.2.2.2 (3 * i.toNatClampNeg + p.toNatClampNeg)
def g_poke (a : ab_T) (i p t : Int32) : ab_T := if iS a i ∧ ¬ (p < 0 ∨ 2 < p) ∧ a.2.1 5 i.toNatClampNeg ≠ 0 then a_p a (3 * i.toNatClampNeg + p.toNatClampNeg) t else a
theorem RC_poke {s : ak_S} {a : ab_T} {j : Nat} {t : Int32} (hR : RC s a) : RC (ak_p1 s 14 j t) (a_p a j t) := by
  obtain ⟨⟨h1, h2, h3⟩, hk, hs, hc, hp, hx, hb⟩ := hR
  refine ⟨⟨?_, ?_, ?_⟩, fun k' hk' => ?_, fun i hi => ?_, fun i h1 h2 => ?_, fun i p h1 h2 h3 h4 => ?_, fun j hj => ?_, ?_⟩
  · simp [p1_o, ap_1, h1]
  · simp [p1_o, ap_1, h2]
  · simp [p1_o, ap_1, h3]
  · simpa [p1_o, ap_21] using hk k' hk'
  · obtain ⟨z1, z2, z3, z4, z5⟩ := hs i hi
    exact ⟨by rw [p1_o (by decide)]; exact z1, by rw [p1_o (by decide)]; exact z2, z3, by rw [p1_o (by decide)]; exact z4, by rw [p1_o (by decide)]; exact z5⟩
  · rw [p1_o (by decide)]
    exact hc i h1 h2
  · rw [p1_s, ap_s, hp i p h1 h2 h3 h4]
  · simpa [p1_o, ap_21] using hx j hj
  · simpa [BK, p1_o, ap_1, a_lt, ap_22] using hb
def pt_L_poke : ak_P := fun vs s Q => match vs with
  | [.ref 0, .int i, .int p, .int t] => ∃ a, AI a ∧ RC s a ∧ ∀ s', RC s' (g_poke a i p t) → Q (some (.int (f_poke a i p t))) s'
  | _ => False
def cs_L_poke : Nat → ak_P := fun a => match a with
  | 0 => pt_S_has
  | 1 => pt_S_is
  | _ => pt_S_say
theorem vc_L_poke : ak_VC lay_C cs_L_poke bl_L_poke 4 pt_L_poke := by
  intro vs s Q h
  unfold pt_L_poke at h
  split at h
  · rename_i i p t
    obtain ⟨a, hA, hR, h⟩ := h
    refine ⟨Nat.le_of_ble_eq_true rfl, fun J hJ => hJ 5 _ _ _ _ ?_⟩
    simp only [Nat.reduceAdd, Nat.reduceLeDiff, Nat.zero_le, true_or, or_true, run_s, e_nop, e_iconst, e_bipush, e_sipush, e_lconst, e_iload, e_iload_n, e_lload, e_lload_n, e_aload, e_aload_n, e_istore, e_istore_n, e_iinc, e_iadd, e_isub, e_imul, e_lcmp, e_dupI, e_dupR, e_dup2, e_getfield, e_putfield, e_iaload, e_baload, e_laload, e_iastore, e_bastore, e_lastore, e_if, e_icmp, e_goto, e_tsw, e_ireturn0, e_ireturn1, e_return, e_call0, e_call1, e_call2, e_call3, lI_e, lL_e, lR_e, ak_nth, ak_set, ak_ok1, ak_jp, ak_b1, ak_b2, ak_sw, ak_la, ak_pad, true_and, and_true, List.map_cons, List.map_nil, List.sum_cons, List.sum_nil, Value.category, Option.toList_some, Option.toList_none, List.cons_append, List.nil_append, gC_0_0, gC_0_1, gC_0_2, gC_0_3, rC_0, gC_1_0, pC_1_0, gC_1_1, gC_1_2, gC_1_3, rC_1, gC_2_0, pC_2_0, gC_2_1, gC_2_2, gC_2_3, gC_2_4, gC_2_5, gC_2_6, gC_2_7, gC_2_8, rC_2, gC_3_0, pC_3_0, gC_3_1, gC_3_2, rC_3, gC_4_0, gC_4_1, gC_4_2, gC_4_3, gC_4_4, pC_4_4, rC_4, kC_5, kC_6, kC_7, kC_8, kC_9, kC_10, kC_11, kC_12, kC_13, kC_14, kC_15, kC_16, kC_17, kC_18, kC_19, fd_L_poke_0, fd_L_poke_14, fd_L_poke_23, fd_L_poke_26, fd_L_poke_41, bk_L_poke_0, bk_L_poke_14, bk_L_poke_23, bk_L_poke_26, bk_L_poke_41, cs_L_poke, pt_S_has, pt_S_is, pt_S_say]
    simp only [bt0, Classical.not_not, i10, false_implies, not_false_eq_true, true_implies, not_true_eq_false, true_and, and_true, false_and, and_false, imp_self]
    have hn := hA.1
    rw [hR.1.2.1]
    have same : ∀ v : Int32, f_poke a i p t = v → g_poke a i p t = a → Q (some (.int v)) s := by
      intro v e e2
      have := h s (by rw [e2]; exact hR)
      rw [e] at this
      exact this
    refine ⟨fun q => ⟨fun q2 => same _ ?_ ?_, fun q2 => ⟨fun q3 => ⟨a.1 1, hn.2.1, rfl, fun q4 => ?_, fun q4 => same _ ?_ ?_⟩, fun q3 => same _ ?_ ?_⟩⟩, fun q => same _ ?_ ?_⟩
    · rw [f_poke, if_neg (fun z => z q), if_pos (Or.inl q2)]
    · rw [g_poke, if_neg (fun z => z.2.1 (Or.inl q2))]
    · obtain ⟨i', hi1, hi2, rfl⟩ := iS_of hA q
      obtain ⟨p', hp1, rfl⟩ := nI_of q2
      rw [n_3, q_lt (by omega) (by omega)] at q3
      obtain ⟨_, _, _, b4, _⟩ := hR.2.2.1 i' (by omega)
      rw [q_cl (by omega), b4] at q4
      have hst : a.2.1 5 i' ≠ 0 := fun z => q4 ⟨q, by rw [z]; rfl⟩
      have hp : ¬ (nI p' < 0 ∨ 2 < nI p') := by
        rintro (z | z)
        · exact q2 z
        · rw [n_2, q_lt (by omega) (by omega)] at z
          omega
      refine ⟨i', p', by omega, q3, rfl, rfl, ?_⟩
      have := h (ak_p1 s 14 (3 * i' + p') t) (by
        rw [g_poke, q_cl (by omega), q_cl (by omega), if_pos ⟨q, hp, hst⟩]
        exact RC_poke hR)
      rw [f_poke, if_neg (fun z => z q), if_neg hp, q_cl (by omega), q_cl (by omega), if_neg hst] at this
      rw [hR.2.2.2.2.1 i' p' hi1 hi2 hst q3]
      exact this
    · obtain ⟨i', hi1, hi2, rfl⟩ := iS_of hA q
      obtain ⟨_, _, _, b4, _⟩ := hR.2.2.1 i' (by omega)
      have := (hA.2.2.1 i' (by omega)).2.2.1
      have q5 := q4.2
      rw [q_cl (by omega), b4, n_0, q_eq (by omega) (by omega)] at q5
      rw [f_poke, if_neg (fun z => z q), if_neg, q_cl (by omega), if_pos q5]
      grind
    · obtain ⟨i', hi1, hi2, rfl⟩ := iS_of hA q
      obtain ⟨_, _, _, b4, _⟩ := hR.2.2.1 i' (by omega)
      have := (hA.2.2.1 i' (by omega)).2.2.1
      have q5 := q4.2
      rw [q_cl (by omega), b4, n_0, q_eq (by omega) (by omega)] at q5
      rw [g_poke, q_cl (by omega), if_neg (fun z => z.2.2 q5)]
    · rw [f_poke, if_neg (fun z => z q), if_pos (Or.inr (by grind))]
    · rw [g_poke, if_neg (fun z => z.2.1 (Or.inr (by grind)))]
    · rw [f_poke, if_pos q]
    · rw [g_poke, if_neg (fun z => q z.1)]
  · exact h.elim
set_option maxRecDepth 20000 in
theorem ct_L_poke (l : Launch) : ak_Ctr l cl_all lay_C y_L_poke ws_L_poke rm_L_poke pt_L_poke := by
  refine ak_met (cs := cs_L_poke) (reg := rg_L_poke) (bl := bl_L_poke) (by decide +kernel) rfl (cl_ok _) rfl ok_L_poke ?_ vc_L_poke
  intro a n b ci h
  match a, h with
  | 0, h =>
    cases h
    exact ak_ccV (ct_S_has l) rfl 218 189 190 22 191 (by decide +kernel) ⟨rfl, rfl⟩ (by decide +kernel) (by decide +kernel)
  | 1, h =>
    cases h
    exact ak_ccV (ct_S_is l) rfl 184 185 186 22 187 (by decide +kernel) ⟨rfl, rfl⟩ (by decide +kernel) (by decide +kernel)
  | 2, h =>
    cases h
    exact ak_ccV (ct_S_say l) rfl 304 305 306 22 307 (by decide +kernel) ⟨rfl, rfl⟩ (by decide +kernel) (by decide +kernel)
  | k + 3, h => cases h
end
section
/-! the class's check, broken, told -/
def sm (f : Nat → Nat) : Nat → Nat
  | 0 => 0
  | n + 1 => sm f n + f (n + 1)
theorem sm_congr {f g : Nat → Nat} : ∀ {n : Nat}, (∀ j, 1 ≤ j → j ≤ n → f j = g j) → sm f n = sm g n
  | 0, _ => rfl
  | n + 1, h => by rw [sm, sm, sm_congr (n := n) (fun j h1 h2 => h j h1 (by omega)), h (n + 1) (by omega) (by omega)]
theorem sm_le {f : Nat → Nat} {c : Nat} (h : ∀ j, f j ≤ c) : ∀ n, sm f n ≤ c * n
  | 0 => by simp [sm]
  | n + 1 => by
    have h1 := sm_le h n
    have h2 := h (n + 1)
    rw [sm, Nat.mul_succ]
    omega
/-- how many pointers of a segment don't say what is true -/
def a_wr (a : ab_T) (i : Nat) : Nat := if a.2.1 5 i = 0 then 0 else cn (fun p => decide (¬ a.2.2.2 (3 * i + (p - 1)) = nI (a_tr a i (p - 1)))) 3
theorem a_wr_le (a : ab_T) (i : Nat) : a_wr a i ≤ 3 := by
  unfold a_wr
  split
  · omega
  · exact cn_le _ 3
theorem wrC {s : ak_S} {a : ab_T} {i : Nat} (hA : AI a) (hR : RC s a) (h1 : 1 ≤ i) (h2 : i ≤ a.1 1) : (if s.1 11 i = 0 then 0 else cn (fun p => decide (¬ s.1 14 (3 * i + (p - 1)) = c_tr s i (p - 1))) 3) = a_wr a i := by
  have hn := hA.1
  have e := (hR.2.2.1 i (by omega)).2.2.2.1
  have eb := (hA.2.2.1 i (by omega)).2.2.1
  unfold a_wr
  have e0 : s.1 11 i = 0 ↔ a.2.1 5 i = 0 := by
    rw [e, n_0]
    exact nI_eq (by omega) (by omega)
  by_cases z : a.2.1 5 i = 0
  · rw [if_pos z, if_pos (e0.mpr z)]
  · rw [if_neg z, if_neg (fun y => z (e0.mp y))]
    refine cn_congr (fun p p1 p2 => ?_)
    rw [hR.2.2.2.2.1 i (p - 1) h1 h2 z (by omega), RCx_tr (RC_to hR (fun _ => False)) h1 (by omega)]
def f_check (a : ab_T) : Int32 := nI (sm (a_wr a) (a.1 1))
def pt_L_check : ak_P := fun vs s Q => match vs with
  | [.ref 0] => ∃ a, AI a ∧ RC s a ∧ Q (some (.int (f_check a))) s
  | _ => False
def cs_L_check : Nat → ak_P := fun a => match a with
  | _ => pt_S_wrongPointers
theorem vc_L_check : ak_VC lay_C cs_L_check bl_L_check 3 pt_L_check := by
  intro vs s Q h
  unfold pt_L_check at h
  split at h
  · obtain ⟨a, hA, hR, h⟩ := h
    have hn := hA.1
    refine ⟨Nat.le_of_ble_eq_true rfl, fun J hJ => ?_⟩
    have loop : ∀ d i, i + d = a.1 1 → J 4 [some (.ref 0), some (.int (nI (sm (a_wr a) i))), some (.int (nI (i + 1)))] [] s := by
      intro d
      induction d with
      | zero =>
        intro i hi
        refine hJ 3 _ _ _ _ ?_
        simp only [Nat.reduceAdd, Nat.reduceLeDiff, Nat.zero_le, true_or, or_true, run_s, e_nop, e_iconst, e_bipush, e_sipush, e_lconst, e_iload, e_iload_n, e_lload, e_lload_n, e_aload, e_aload_n, e_istore, e_istore_n, e_iinc, e_iadd, e_isub, e_imul, e_lcmp, e_dupI, e_dupR, e_dup2, e_getfield, e_putfield, e_iaload, e_baload, e_laload, e_iastore, e_bastore, e_lastore, e_if, e_icmp, e_goto, e_tsw, e_ireturn0, e_ireturn1, e_return, e_call0, e_call1, e_call2, e_call3, lI_e, lL_e, lR_e, ak_nth, ak_set, ak_ok1, ak_jp, ak_b1, ak_b2, ak_sw, ak_la, ak_pad, true_and, and_true, List.map_cons, List.map_nil, List.sum_cons, List.sum_nil, Value.category, Option.toList_some, Option.toList_none, List.cons_append, List.nil_append, gC_0_0, gC_0_1, gC_0_2, gC_0_3, rC_0, gC_1_0, pC_1_0, gC_1_1, gC_1_2, gC_1_3, rC_1, gC_2_0, pC_2_0, gC_2_1, gC_2_2, gC_2_3, gC_2_4, gC_2_5, gC_2_6, gC_2_7, gC_2_8, rC_2, gC_3_0, pC_3_0, gC_3_1, gC_3_2, rC_3, gC_4_0, gC_4_1, gC_4_2, gC_4_3, gC_4_4, pC_4_4, rC_4, kC_5, kC_6, kC_7, kC_8, kC_9, kC_10, kC_11, kC_12, kC_13, kC_14, kC_15, kC_16, kC_17, kC_18, kC_19, fd_L_check_0, fd_L_check_4, fd_L_check_32, bk_L_check_0, bk_L_check_4, bk_L_check_32, cs_L_check, pt_S_wrongPointers]
        rw [hR.1.2.1, q_lt (by omega) (by omega)]
        refine ⟨fun _ => ?_, fun q => absurd (by omega) q⟩
        have e : i = a.1 1 := by omega
        rw [e]
        exact h
      | succ d ih =>
        intro i hi
        refine hJ 3 _ _ _ _ ?_
        simp only [Nat.reduceAdd, Nat.reduceLeDiff, Nat.zero_le, true_or, or_true, run_s, e_nop, e_iconst, e_bipush, e_sipush, e_lconst, e_iload, e_iload_n, e_lload, e_lload_n, e_aload, e_aload_n, e_istore, e_istore_n, e_iinc, e_iadd, e_isub, e_imul, e_lcmp, e_dupI, e_dupR, e_dup2, e_getfield, e_putfield, e_iaload, e_baload, e_laload, e_iastore, e_bastore, e_lastore, e_if, e_icmp, e_goto, e_tsw, e_ireturn0, e_ireturn1, e_return, e_call0, e_call1, e_call2, e_call3, lI_e, lL_e, lR_e, ak_nth, ak_set, ak_ok1, ak_jp, ak_b1, ak_b2, ak_sw, ak_la, ak_pad, true_and, and_true, List.map_cons, List.map_nil, List.sum_cons, List.sum_nil, Value.category, Option.toList_some, Option.toList_none, List.cons_append, List.nil_append, gC_0_0, gC_0_1, gC_0_2, gC_0_3, rC_0, gC_1_0, pC_1_0, gC_1_1, gC_1_2, gC_1_3, rC_1, gC_2_0, pC_2_0, gC_2_1, gC_2_2, gC_2_3, gC_2_4, gC_2_5, gC_2_6, gC_2_7, gC_2_8, rC_2, gC_3_0, pC_3_0, gC_3_1, gC_3_2, rC_3, gC_4_0, gC_4_1, gC_4_2, gC_4_3, gC_4_4, pC_4_4, rC_4, kC_5, kC_6, kC_7, kC_8, kC_9, kC_10, kC_11, kC_12, kC_13, kC_14, kC_15, kC_16, kC_17, kC_18, kC_19, fd_L_check_0, fd_L_check_4, fd_L_check_32, bk_L_check_0, bk_L_check_4, bk_L_check_32, cs_L_check, pt_S_wrongPointers, nI_1]
        rw [hR.1.2.1, q_lt (by omega) (by omega)]
        refine ⟨fun q => absurd q (by omega), fun _ => ⟨i + 1, by omega, rfl, ?_⟩⟩
        rw [wrC hA hR (by omega) (by omega), nI_add]
        exact ih (i + 1) (by omega)
    refine hJ 3 _ _ _ _ ?_
    simp only [Nat.reduceAdd, Nat.reduceLeDiff, Nat.zero_le, true_or, or_true, run_s, e_nop, e_iconst, e_bipush, e_sipush, e_lconst, e_iload, e_iload_n, e_lload, e_lload_n, e_aload, e_aload_n, e_istore, e_istore_n, e_iinc, e_iadd, e_isub, e_imul, e_lcmp, e_dupI, e_dupR, e_dup2, e_getfield, e_putfield, e_iaload, e_baload, e_laload, e_iastore, e_bastore, e_lastore, e_if, e_icmp, e_goto, e_tsw, e_ireturn0, e_ireturn1, e_return, e_call0, e_call1, e_call2, e_call3, lI_e, lL_e, lR_e, ak_nth, ak_set, ak_ok1, ak_jp, ak_b1, ak_b2, ak_sw, ak_la, ak_pad, true_and, and_true, List.map_cons, List.map_nil, List.sum_cons, List.sum_nil, Value.category, Option.toList_some, Option.toList_none, List.cons_append, List.nil_append, gC_0_0, gC_0_1, gC_0_2, gC_0_3, rC_0, gC_1_0, pC_1_0, gC_1_1, gC_1_2, gC_1_3, rC_1, gC_2_0, pC_2_0, gC_2_1, gC_2_2, gC_2_3, gC_2_4, gC_2_5, gC_2_6, gC_2_7, gC_2_8, rC_2, gC_3_0, pC_3_0, gC_3_1, gC_3_2, rC_3, gC_4_0, gC_4_1, gC_4_2, gC_4_3, gC_4_4, pC_4_4, rC_4, kC_5, kC_6, kC_7, kC_8, kC_9, kC_10, kC_11, kC_12, kC_13, kC_14, kC_15, kC_16, kC_17, kC_18, kC_19, fd_L_check_0, fd_L_check_4, fd_L_check_32, bk_L_check_0, bk_L_check_4, bk_L_check_32, cs_L_check]
    exact loop (a.1 1) 0 (by omega)
  · exact h.elim
set_option maxRecDepth 20000 in
theorem ct_L_check (l : Launch) : ak_Ctr l cl_all lay_C y_L_check ws_L_check rm_L_check pt_L_check := by
  refine ak_met (cs := cs_L_check) (reg := rg_L_check) (bl := bl_L_check) (by decide +kernel) rfl (cl_ok _) rfl ok_L_check ?_ vc_L_check
  intro a n b ci h
  match a, h with
  | 0, h =>
    cases h
    exact ak_ccV (ct_S_wrongPointers l) rfl 312 313 314 22 315 (by decide +kernel) ⟨rfl, rfl⟩ (by decide +kernel) (by decide +kernel)
  | k + 1, h => cases h
/-- the first n with i below f's sum up to it -/
def bk_f (f : Nat → Nat) (i : Nat) : Nat → Nat
  | 0 => 0
  | n + 1 => if bk_f f i n ≠ 0 then bk_f f i n else if i < sm f (n + 1) then n + 1 else 0
theorem bk_f_0 {f : Nat → Nat} {i : Nat} : ∀ {n : Nat}, sm f n ≤ i → bk_f f i n = 0
  | 0, _ => rfl
  | n + 1, h => by
    have h2 : sm f n ≤ i := by rw [sm] at h; omega
    rw [bk_f, bk_f_0 h2, if_neg (fun z => z rfl), if_neg (by omega)]
theorem bk_f_at {f : Nat → Nat} {i k : Nat} (h1 : sm f k ≤ i) (h2 : i < sm f (k + 1)) : ∀ {n : Nat}, k + 1 ≤ n → bk_f f i n = k + 1
  | 0, h => by omega
  | n + 1, h => by
    rw [bk_f]
    by_cases e : k = n
    · subst e
      rw [bk_f_0 h1, if_neg (fun z => z rfl), if_pos h2]
    · rw [bk_f_at h1 h2 (n := n) (by omega), if_pos (by omega)]
def f_broken (a : ab_T) (x : Int32) : Int32 := if x < 0 then 0 else nI (bk_f (a_wr a) x.toNatClampNeg (a.1 1))
def pt_L_broken : ak_P := fun vs s Q => match vs with
  | [.ref 0, .int x] => ∃ a, AI a ∧ RC s a ∧ Q (some (.int (f_broken a x))) s
  | _ => False
def cs_L_broken : Nat → ak_P := fun a => match a with
  | _ => pt_S_wrongPointers
theorem vc_L_broken : ak_VC lay_C cs_L_broken bl_L_broken 4 pt_L_broken := by
  intro vs s Q h
  unfold pt_L_broken at h
  split at h
  · rename_i x
    obtain ⟨a, hA, hR, h⟩ := h
    have hn := hA.1
    unfold f_broken at h
    refine ⟨Nat.le_of_ble_eq_true rfl, fun J hJ => ?_⟩
    by_cases hx : x < 0
    · rw [if_pos hx] at h
      refine hJ 3 _ _ _ _ ?_
      simp only [Nat.reduceAdd, Nat.reduceLeDiff, Nat.zero_le, true_or, or_true, run_s, e_nop, e_iconst, e_bipush, e_sipush, e_lconst, e_iload, e_iload_n, e_lload, e_lload_n, e_aload, e_aload_n, e_istore, e_istore_n, e_iinc, e_iadd, e_isub, e_imul, e_lcmp, e_dupI, e_dupR, e_dup2, e_getfield, e_putfield, e_iaload, e_baload, e_laload, e_iastore, e_bastore, e_lastore, e_if, e_icmp, e_goto, e_tsw, e_ireturn0, e_ireturn1, e_return, e_call0, e_call1, e_call2, e_call3, lI_e, lL_e, lR_e, ak_nth, ak_set, ak_ok1, ak_jp, ak_b1, ak_b2, ak_sw, ak_la, ak_pad, true_and, and_true, List.map_cons, List.map_nil, List.sum_cons, List.sum_nil, Value.category, Option.toList_some, Option.toList_none, List.cons_append, List.nil_append, gC_0_0, gC_0_1, gC_0_2, gC_0_3, rC_0, gC_1_0, pC_1_0, gC_1_1, gC_1_2, gC_1_3, rC_1, gC_2_0, pC_2_0, gC_2_1, gC_2_2, gC_2_3, gC_2_4, gC_2_5, gC_2_6, gC_2_7, gC_2_8, rC_2, gC_3_0, pC_3_0, gC_3_1, gC_3_2, rC_3, gC_4_0, gC_4_1, gC_4_2, gC_4_3, gC_4_4, pC_4_4, rC_4, kC_5, kC_6, kC_7, kC_8, kC_9, kC_10, kC_11, kC_12, kC_13, kC_14, kC_15, kC_16, kC_17, kC_18, kC_19, fd_L_broken_0, fd_L_broken_6, fd_L_broken_10, fd_L_broken_38, fd_L_broken_44, bk_L_broken_0, bk_L_broken_6, bk_L_broken_10, bk_L_broken_38, bk_L_broken_44, cs_L_broken]
      exact ⟨fun q => absurd hx (Int32.not_lt.mpr q), fun _ => h⟩
    · rw [if_neg hx] at h
      obtain ⟨x', hx1, rfl⟩ := nI_of hx
      rw [q_cl hx1] at h
      have loop : ∀ d i l, i + d = a.1 1 → sm (a_wr a) i + l = x' → J 10 [some (.ref 0), some (.int (nI x')), some (.int (nI l)), some (.int (nI (i + 1)))] [] s := by
        intro d
        induction d with
        | zero =>
          intro i l hi hl
          have e : i = a.1 1 := by omega
          subst e
          refine hJ 3 _ _ _ _ ?_
          simp only [Nat.reduceAdd, Nat.reduceLeDiff, Nat.zero_le, true_or, or_true, run_s, e_nop, e_iconst, e_bipush, e_sipush, e_lconst, e_iload, e_iload_n, e_lload, e_lload_n, e_aload, e_aload_n, e_istore, e_istore_n, e_iinc, e_iadd, e_isub, e_imul, e_lcmp, e_dupI, e_dupR, e_dup2, e_getfield, e_putfield, e_iaload, e_baload, e_laload, e_iastore, e_bastore, e_lastore, e_if, e_icmp, e_goto, e_tsw, e_ireturn0, e_ireturn1, e_return, e_call0, e_call1, e_call2, e_call3, lI_e, lL_e, lR_e, ak_nth, ak_set, ak_ok1, ak_jp, ak_b1, ak_b2, ak_sw, ak_la, ak_pad, true_and, and_true, List.map_cons, List.map_nil, List.sum_cons, List.sum_nil, Value.category, Option.toList_some, Option.toList_none, List.cons_append, List.nil_append, gC_0_0, gC_0_1, gC_0_2, gC_0_3, rC_0, gC_1_0, pC_1_0, gC_1_1, gC_1_2, gC_1_3, rC_1, gC_2_0, pC_2_0, gC_2_1, gC_2_2, gC_2_3, gC_2_4, gC_2_5, gC_2_6, gC_2_7, gC_2_8, rC_2, gC_3_0, pC_3_0, gC_3_1, gC_3_2, rC_3, gC_4_0, gC_4_1, gC_4_2, gC_4_3, gC_4_4, pC_4_4, rC_4, kC_5, kC_6, kC_7, kC_8, kC_9, kC_10, kC_11, kC_12, kC_13, kC_14, kC_15, kC_16, kC_17, kC_18, kC_19, fd_L_broken_0, fd_L_broken_6, fd_L_broken_10, fd_L_broken_38, fd_L_broken_44, bk_L_broken_0, bk_L_broken_6, bk_L_broken_10, bk_L_broken_38, bk_L_broken_44, cs_L_broken, pt_S_wrongPointers]
          rw [hR.1.2.1, q_lt (by omega) (by omega)]
          refine ⟨fun _ => ?_, fun q => absurd (by omega) q⟩
          rw [bk_f_0 (by omega)] at h
          exact h
        | succ d ih =>
          intro i l hi hl
          have hw := a_wr_le a (i + 1)
          refine hJ 3 _ _ _ _ ?_
          simp only [Nat.reduceAdd, Nat.reduceLeDiff, Nat.zero_le, true_or, or_true, run_s, e_nop, e_iconst, e_bipush, e_sipush, e_lconst, e_iload, e_iload_n, e_lload, e_lload_n, e_aload, e_aload_n, e_istore, e_istore_n, e_iinc, e_iadd, e_isub, e_imul, e_lcmp, e_dupI, e_dupR, e_dup2, e_getfield, e_putfield, e_iaload, e_baload, e_laload, e_iastore, e_bastore, e_lastore, e_if, e_icmp, e_goto, e_tsw, e_ireturn0, e_ireturn1, e_return, e_call0, e_call1, e_call2, e_call3, lI_e, lL_e, lR_e, ak_nth, ak_set, ak_ok1, ak_jp, ak_b1, ak_b2, ak_sw, ak_la, ak_pad, true_and, and_true, List.map_cons, List.map_nil, List.sum_cons, List.sum_nil, Value.category, Option.toList_some, Option.toList_none, List.cons_append, List.nil_append, gC_0_0, gC_0_1, gC_0_2, gC_0_3, rC_0, gC_1_0, pC_1_0, gC_1_1, gC_1_2, gC_1_3, rC_1, gC_2_0, pC_2_0, gC_2_1, gC_2_2, gC_2_3, gC_2_4, gC_2_5, gC_2_6, gC_2_7, gC_2_8, rC_2, gC_3_0, pC_3_0, gC_3_1, gC_3_2, rC_3, gC_4_0, gC_4_1, gC_4_2, gC_4_3, gC_4_4, pC_4_4, rC_4, kC_5, kC_6, kC_7, kC_8, kC_9, kC_10, kC_11, kC_12, kC_13, kC_14, kC_15, kC_16, kC_17, kC_18, kC_19, fd_L_broken_0, fd_L_broken_6, fd_L_broken_10, fd_L_broken_38, fd_L_broken_44, bk_L_broken_0, bk_L_broken_6, bk_L_broken_10, bk_L_broken_38, bk_L_broken_44, cs_L_broken, pt_S_wrongPointers, nI_1]
          rw [hR.1.2.1, q_lt (by omega) (by omega)]
          refine ⟨fun q => absurd q (by omega), fun _ => ⟨i + 1, by omega, rfl, ?_⟩⟩
          rw [wrC hA hR (by omega) (by omega)]
          have hsl : sm (a_wr a) (i + 1) = sm (a_wr a) i + a_wr a (i + 1) := rfl
          refine ⟨fun q => ?_, fun q => ?_⟩
          · have hge : a_wr a (i + 1) ≤ l := by
              rcases Nat.lt_or_ge l (a_wr a (i + 1)) with z | z
              · exfalso
                have := pk_sneg (a := l) (b := a_wr a (i + 1)) (by omega) z
                exact absurd this (Int32.not_lt.mpr q)
              · exact z
            rw [pk_sub hge]
            exact ih (i + 1) (l - a_wr a (i + 1)) (by omega) (by omega)
          · have hlt : l < a_wr a (i + 1) := by
              rcases Nat.lt_or_ge l (a_wr a (i + 1)) with z | z
              · exact z
              · exfalso
                rw [pk_sub z] at q
                exact q (nI_pos' (by omega))
            rw [bk_f_at (k := i) (by omega) (by omega) (by omega)] at h
            exact h
      refine hJ 3 _ _ _ _ ?_
      simp only [Nat.reduceAdd, Nat.reduceLeDiff, Nat.zero_le, true_or, or_true, run_s, e_nop, e_iconst, e_bipush, e_sipush, e_lconst, e_iload, e_iload_n, e_lload, e_lload_n, e_aload, e_aload_n, e_istore, e_istore_n, e_iinc, e_iadd, e_isub, e_imul, e_lcmp, e_dupI, e_dupR, e_dup2, e_getfield, e_putfield, e_iaload, e_baload, e_laload, e_iastore, e_bastore, e_lastore, e_if, e_icmp, e_goto, e_tsw, e_ireturn0, e_ireturn1, e_return, e_call0, e_call1, e_call2, e_call3, lI_e, lL_e, lR_e, ak_nth, ak_set, ak_ok1, ak_jp, ak_b1, ak_b2, ak_sw, ak_la, ak_pad, true_and, and_true, List.map_cons, List.map_nil, List.sum_cons, List.sum_nil, Value.category, Option.toList_some, Option.toList_none, List.cons_append, List.nil_append, gC_0_0, gC_0_1, gC_0_2, gC_0_3, rC_0, gC_1_0, pC_1_0, gC_1_1, gC_1_2, gC_1_3, rC_1, gC_2_0, pC_2_0, gC_2_1, gC_2_2, gC_2_3, gC_2_4, gC_2_5, gC_2_6, gC_2_7, gC_2_8, rC_2, gC_3_0, pC_3_0, gC_3_1, gC_3_2, rC_3, gC_4_0, gC_4_1, gC_4_2, gC_4_3, gC_4_4, pC_4_4, rC_4, kC_5, kC_6, kC_7, kC_8, kC_9, kC_10, kC_11, kC_12, kC_13, kC_14, kC_15, kC_16, kC_17, kC_18, kC_19, fd_L_broken_0, fd_L_broken_6, fd_L_broken_10, fd_L_broken_38, fd_L_broken_44, bk_L_broken_0, bk_L_broken_6, bk_L_broken_10, bk_L_broken_38, bk_L_broken_44, cs_L_broken]
      exact ⟨fun _ => loop (a.1 1) 0 x' (by omega) (by simp [sm]), fun q => absurd (Int32.not_lt.mp hx) q⟩
  · exact h.elim
set_option maxRecDepth 20000 in
theorem ct_L_broken (l : Launch) : ak_Ctr l cl_all lay_C y_L_broken ws_L_broken rm_L_broken pt_L_broken := by
  refine ak_met (cs := cs_L_broken) (reg := rg_L_broken) (bl := bl_L_broken) (by decide +kernel) rfl (cl_ok _) rfl ok_L_broken ?_ vc_L_broken
  intro a n b ci h
  match a, h with
  | 0, h =>
    cases h
    exact ak_ccV (ct_S_wrongPointers l) rfl 312 313 314 22 315 (by decide +kernel) ⟨rfl, rfl⟩ (by decide +kernel) (by decide +kernel)
  | k + 1, h => cases h
def f_told (a : ab_T) (w : Int32) : Int32 := if w = 0 then nI (a.1 0) else if w = 1 then nI (a.1 1) else if w = 2 then nI (cn (fun i => decide (a.2.1 5 i = 1)) (a.1 1)) else if w = 3 then nI (cn (fun i => decide (a.2.1 5 i = 2)) (a.1 1)) else if w = 4 then nI (cn (fun i => decide (a.2.1 6 i ≠ 0)) (a.1 1)) else if w = 5 then nI (a.1 2) else -1
def pt_L_told : ak_P := fun vs s Q => match vs with
  | [.ref 0, .int w] => ∃ a, AI a ∧ RC s a ∧ Q (some (.int (f_told a w))) s
  | _ => False
def cs_L_told : Nat → ak_P := fun a => match a with
  | 0 => pt_S_howMany
  | _ => pt_S_relations
theorem vc_L_told : ak_VC lay_C cs_L_told bl_L_told 2 pt_L_told := by
  intro vs s Q h
  unfold pt_L_told at h
  split at h
  · rename_i w
    obtain ⟨a, hA, hR, h⟩ := h
    have hn := hA.1
    refine ⟨Nat.le_of_ble_eq_true rfl, fun J hJ => hJ 4 _ _ _ _ ?_⟩
    simp only [Nat.reduceAdd, Nat.reduceLeDiff, Nat.zero_le, true_or, or_true, run_s, e_nop, e_iconst, e_bipush, e_sipush, e_lconst, e_iload, e_iload_n, e_lload, e_lload_n, e_aload, e_aload_n, e_istore, e_istore_n, e_iinc, e_iadd, e_isub, e_imul, e_lcmp, e_dupI, e_dupR, e_dup2, e_getfield, e_putfield, e_iaload, e_baload, e_laload, e_iastore, e_bastore, e_lastore, e_if, e_icmp, e_goto, e_tsw, e_ireturn0, e_ireturn1, e_return, e_call0, e_call1, e_call2, e_call3, lI_e, lL_e, lR_e, ak_nth, ak_set, ak_ok1, ak_jp, ak_b1, ak_b2, ak_sw, ak_la, ak_pad, true_and, and_true, List.map_cons, List.map_nil, List.sum_cons, List.sum_nil, Value.category, Option.toList_some, Option.toList_none, List.cons_append, List.nil_append, gC_0_0, gC_0_1, gC_0_2, gC_0_3, rC_0, gC_1_0, pC_1_0, gC_1_1, gC_1_2, gC_1_3, rC_1, gC_2_0, pC_2_0, gC_2_1, gC_2_2, gC_2_3, gC_2_4, gC_2_5, gC_2_6, gC_2_7, gC_2_8, rC_2, gC_3_0, pC_3_0, gC_3_1, gC_3_2, rC_3, gC_4_0, gC_4_1, gC_4_2, gC_4_3, gC_4_4, pC_4_4, rC_4, kC_5, kC_6, kC_7, kC_8, kC_9, kC_10, kC_11, kC_12, kC_13, kC_14, kC_15, kC_16, kC_17, kC_18, kC_19, fd_L_told_0, fd_L_told_40, fd_L_told_48, fd_L_told_56, fd_L_told_65, fd_L_told_74, fd_L_told_82, fd_L_told_90, bk_L_told_0, bk_L_told_40, bk_L_told_48, bk_L_told_56, bk_L_told_65, bk_L_told_74, bk_L_told_82, bk_L_told_90, cs_L_told, pt_S_howMany, pt_S_relations]
    rw [hR.1.1, hR.1.2.1, hR.1.2.2]
    unfold f_told at h
    have hst : ∀ w : Nat, w ≤ 2 → cn (fun j => decide (s.1 11 j = nI w)) (a.1 1) = cn (fun i => decide (a.2.1 5 i = w)) (a.1 1) := by
      intro w hw
      refine cn_congr (fun j j1 j2 => ?_)
      have e := (hR.2.2.1 j (by omega)).2.2.2.1
      have eb := (hA.2.2.1 j (by omega)).2.2.1
      rw [e]
      simp only [q_eq (show a.2.1 5 j < 2147483648 by omega) (show w < 2147483648 by omega)]
    have hrl : cn (fun j => decide (¬ s.1 12 j = 0)) (a.1 1) = cn (fun i => decide (a.2.1 6 i ≠ 0)) (a.1 1) := by
      refine cn_congr (fun j j1 j2 => ?_)
      have e := (hR.2.2.1 j (by omega)).2.2.2.2
      have eb := (hA.2.2.1 j (by omega)).2.2.2
      rw [e, n_0]
      simp only [q_eq (show a.2.1 6 j < 2147483648 by omega) (show 0 < 2147483648 by omega), ne_eq]
    refine ⟨fun q => ?_, fun q0 => ⟨fun q => ?_, fun q1 => ⟨fun q => ⟨a.1 1, by omega, rfl, ?_⟩, fun q2 => ⟨fun q => ⟨a.1 1, by omega, rfl, ?_⟩, fun q3 => ⟨fun q => ⟨a.1 1, by omega, rfl, ?_⟩, fun q4 => ⟨fun q => ?_, fun q5 => ?_⟩⟩⟩⟩⟩⟩
    · rw [if_pos q] at h; exact h
    · rw [if_neg q0, if_pos q] at h; exact h
    · rw [if_neg q0, if_neg q1, if_pos q, ← hst 1 (by omega)] at h; exact h
    · rw [if_neg q0, if_neg q1, if_neg q2, if_pos q, ← hst 2 (by omega)] at h; exact h
    · rw [if_neg q0, if_neg q1, if_neg q2, if_neg q3, if_pos q, ← hrl] at h; exact h
    · rw [if_neg q0, if_neg q1, if_neg q2, if_neg q3, if_neg q4, if_pos q] at h; exact h
    · rw [if_neg q0, if_neg q1, if_neg q2, if_neg q3, if_neg q4, if_neg q5] at h; exact h
  · exact h.elim
set_option maxRecDepth 20000 in
theorem ct_L_told (l : Launch) : ak_Ctr l cl_all lay_C y_L_told ws_L_told rm_L_told pt_L_told := by
  refine ak_met (cs := cs_L_told) (reg := rg_L_told) (bl := bl_L_told) (by decide +kernel) rfl (cl_ok _) rfl ok_L_told ?_ vc_L_told
  intro a n b ci h
  match a, h with
  | 0, h =>
    cases h
    exact ak_ccV (ct_S_howMany l) rfl 324 325 326 22 327 (by decide +kernel) ⟨rfl, rfl⟩ (by decide +kernel) (by decide +kernel)
  | 1, h =>
    cases h
    exact ak_ccV (ct_S_relations l) rfl 328 329 330 22 331 (by decide +kernel) ⟨rfl, rfl⟩ (by decide +kernel) (by decide +kernel)
  | k + 2, h => cases h
end
section
/-! the i-th by an order: ranks -/
theorem cn_mono {p q : Nat → Bool} : ∀ {n : Nat}, (∀ j, 1 ≤ j → j ≤ n → p j = true → q j = true) → cn p n ≤ cn q n
  | 0, _ => Nat.le_refl 0
  | n + 1, h => by
    have ih := cn_mono (n := n) (fun j h1 h2 => h j h1 (by omega))
    rw [cn, cn]
    by_cases hp : p (n + 1) = true
    · rw [if_pos hp, if_pos (h (n + 1) (by omega) (by omega) hp)]
      omega
    · rw [if_neg hp]
      split <;> omega
theorem cn_lt {p q : Nat → Bool} {e : Nat} : ∀ {n : Nat}, (∀ j, 1 ≤ j → j ≤ n → p j = true → q j = true) → 1 ≤ e → e ≤ n → p e = false → q e = true → cn p n < cn q n
  | 0, _, h1, h2, _, _ => by omega
  | n + 1, h, h1, h2, hp, hq => by
    rw [cn, cn]
    by_cases he : e = n + 1
    · subst he
      have := cn_mono (n := n) (p := p) (q := q) (fun j a b => h j a (by omega))
      rw [hp, hq]
      simp
      omega
    · have ih := cn_lt (n := n) (fun j a b => h j a (by omega)) h1 (by omega) hp hq
      by_cases hp1 : p (n + 1) = true
      · rw [if_pos hp1, if_pos (h (n + 1) (by omega) (by omega) hp1)]
        omega
      · rw [if_neg hp1]
        split <;> omega
theorem cn_or {p q : Nat → Bool} : ∀ {n : Nat}, (∀ j, 1 ≤ j → j ≤ n → ¬ (p j = true ∧ q j = true)) → cn (fun j => p j || q j) n = cn p n + cn q n
  | 0, _ => rfl
  | n + 1, h => by
    rw [cn, cn, cn, cn_or (n := n) (fun j h1 h2 => h j h1 (by omega))]
    have h1 := h (n + 1) (by omega) (by omega)
    cases hp : p (n + 1) <;> cases hq : q (n + 1) <;> simp_all <;> omega
def fd (p : Nat → Bool) : Nat → Nat
  | 0 => 0
  | n + 1 => if fd p n ≠ 0 then fd p n else if p (n + 1) = true then n + 1 else 0
theorem fd_0 {p : Nat → Bool} : ∀ {n : Nat}, (∀ j, 1 ≤ j → j ≤ n → p j = false) → fd p n = 0
  | 0, _ => rfl
  | n + 1, h => by
    rw [fd, fd_0 (n := n) (fun j h1 h2 => h j h1 (by omega)), if_neg (fun z => z rfl), h (n + 1) (by omega) (by omega)]
    simp
theorem fd_at {p : Nat → Bool} {c : Nat} : ∀ {n : Nat}, 1 ≤ c → c ≤ n → p c = true → (∀ j, 1 ≤ j → j ≤ n → p j = true → j = c) → fd p n = c
  | 0, h1, h2, _, _ => by omega
  | n + 1, h1, h2, hp, hu => by
    rw [fd]
    by_cases e : c = n + 1
    · subst e
      have : fd p n = 0 := fd_0 (fun j a b => by
        cases hj : p j with
        | false => rfl
        | true => have := hu j a (by omega) hj; omega)
      rw [this, if_neg (fun z => z rfl), if_pos hp]
    · rw [fd_at (n := n) h1 (by omega) hp (fun j a b c => hu j a (by omega) c), if_pos (by omega)]
def a_rk (P : Nat → Bool) (lt : Nat → Nat → Bool) (n c : Nat) : Nat := cn (fun d => P d && lt d c) n
def a_ith (P : Nat → Bool) (lt : Nat → Nat → Bool) (n : Nat) (x : Int32) : Nat := fd (fun c => P c && decide (nI (a_rk P lt n c) = x)) n
/-- a strict total order -/
def STO (lt : Nat → Nat → Bool) : Prop := (∀ x, lt x x = false) ∧ (∀ x y z, lt x y = true → lt y z = true → lt x z = true) ∧ ∀ x y, x ≠ y → lt x y = true ∨ lt y x = true
theorem rk_lt {P : Nat → Bool} {lt : Nat → Nat → Bool} (h : STO lt) {n x y : Nat} (h1 : 1 ≤ x) (h2 : x ≤ n) (hx : P x = true) (hl : lt x y = true) : a_rk P lt n x < a_rk P lt n y := by
  refine cn_lt (e := x) (fun j _ _ hj => ?_) h1 h2 ?_ ?_
  · simp only [Bool.and_eq_true] at hj ⊢
    exact ⟨hj.1, h.2.1 _ _ _ hj.2 hl⟩
  · rw [h.1]; simp
  · rw [hx, hl]; rfl
theorem rk_all {P : Nat → Bool} {lt : Nat → Nat → Bool} (h : STO lt) {n x : Nat} (h1 : 1 ≤ x) (h2 : x ≤ n) (hx : P x = true) : a_rk P lt n x < cn P n := by
  refine cn_lt (e := x) (fun j _ _ hj => ?_) h1 h2 ?_ hx
  · simp only [Bool.and_eq_true] at hj
    exact hj.1
  · rw [h.1]; simp
theorem ith_at {P : Nat → Bool} {lt : Nat → Nat → Bool} (h : STO lt) {n i c : Nat} (hn : n ≤ 250) (hi : i < 2147483648) (h1 : 1 ≤ c) (h2 : c ≤ n) (hc : P c = true) (hr : a_rk P lt n c = i) : a_ith P lt n (nI i) = c := by
  refine fd_at h1 h2 ?_ (fun j a b hj => ?_)
  · rw [hc, hr]; simp
  · simp only [Bool.and_eq_true, decide_eq_true_eq] at hj
    have hle := cn_le (fun d => P d && lt d j) n
    have hj2 : a_rk P lt n j = i := (nI_eq (by unfold a_rk; omega) hi).mp hj.2
    by_cases e : j = c
    · exact e
    · exfalso
      rcases h.2.2 j c e with z | z
      · have := rk_lt h a b hj.1 z
        omega
      · have := rk_lt h h1 h2 hc z
        omega
theorem ith_no {P : Nat → Bool} {lt : Nat → Nat → Bool} (h : STO lt) {n i : Nat} (hn : n ≤ 250) (hi : i < 2147483648) (hc : cn P n ≤ i) : a_ith P lt n (nI i) = 0 := by
  refine fd_0 (fun j a b => ?_)
  cases hp : P j with
  | false => rfl
  | true =>
    have h1 := rk_all h a b hp
    have hle := cn_le (fun d => P d && lt d j) n
    have : ¬ nI (a_rk P lt n j) = nI i := fun z => by
      have := (nI_eq (by unfold a_rk; omega) hi).mp z
      omega
    simp [this]
theorem ith_neg {P : Nat → Bool} {lt : Nat → Nat → Bool} {n : Nat} {x : Int32} (hn : n ≤ 250) (hx : x < 0) : a_ith P lt n x = 0 := by
  refine fd_0 (fun j a b => ?_)
  have hle := cn_le (fun d => P d && lt d j) n
  have : ¬ nI (a_rk P lt n j) = x := fun z => by
    rw [← z] at hx
    exact nI_pos (by unfold a_rk; omega) hx
  simp [this]
def a_ltB (a : ab_T) (x y : Nat) : Bool := decide (a.2.2.1 x < a.2.2.1 y ∨ (a.2.2.1 x = a.2.2.1 y ∧ x < y))
theorem sto_lt (a : ab_T) : STO (a_ltB a) := by
  refine ⟨fun x => ?_, fun x y z h1 h2 => ?_, fun x y h => ?_⟩
  · simp only [a_ltB, decide_eq_false_iff_not]
    rintro (h | h)
    · exact absurd h Int64.lt_irrefl
    · omega
  · simp only [a_ltB, decide_eq_true_eq] at *
    rcases h1 with h1 | h1
    · rcases h2 with h2 | h2
      · exact Or.inl (Int64.lt_trans h1 h2)
      · exact Or.inl (by rw [← h2.1]; exact h1)
    · rcases h2 with h2 | h2
      · exact Or.inl (by rw [h1.1]; exact h2)
      · exact Or.inr ⟨h1.1.trans h2.1, by omega⟩
  · simp only [a_ltB, decide_eq_true_eq]
    by_cases e : a.2.2.1 x = a.2.2.1 y
    · rcases (by omega : x < y ∨ y < x) with z | z
      · exact Or.inl (Or.inr ⟨e, z⟩)
      · exact Or.inr (Or.inr ⟨e.symm, z⟩)
    · by_cases z : a.2.2.1 x < a.2.2.1 y
      · exact Or.inl (Or.inl z)
      · right; left
        rcases Int64.lt_or_eq_of_le (Int64.not_lt.mp z) with w | w
        · exact w
        · exact absurd w.symm e
/-- by kinds first -/
def a_kdB (a : ab_T) (x y : Nat) : Bool := if a.2.1 3 x ≠ a.2.1 3 y then decide (a.2.1 3 x < a.2.1 3 y) else a_ltB a x y
theorem sto_kd (a : ab_T) : STO (a_kdB a) := by
  obtain ⟨i1, i2, i3⟩ := sto_lt a
  refine ⟨fun x => ?_, fun x y z h1 h2 => ?_, fun x y h => ?_⟩
  · simp [a_kdB, i1]
  · unfold a_kdB at *
    by_cases e1 : a.2.1 3 x = a.2.1 3 y
    · rw [if_neg (fun q => q e1)] at h1
      by_cases e2 : a.2.1 3 y = a.2.1 3 z
      · rw [if_neg (fun q => q e2)] at h2
        rw [if_neg (fun q => q (e1.trans e2))]
        exact i2 _ _ _ h1 h2
      · rw [if_pos e2, decide_eq_true_eq] at h2
        rw [if_pos (by omega), decide_eq_true_eq]
        omega
    · rw [if_pos e1, decide_eq_true_eq] at h1
      by_cases e2 : a.2.1 3 y = a.2.1 3 z
      · rw [if_pos (by omega), decide_eq_true_eq]
        omega
      · rw [if_pos e2, decide_eq_true_eq] at h2
        rw [if_pos (by omega), decide_eq_true_eq]
        omega
  · unfold a_kdB
    by_cases e : a.2.1 3 x = a.2.1 3 y
    · rw [if_neg (fun q => q e), if_neg (fun q => q e.symm)]
      exact i3 x y h
    · rw [if_pos e, if_pos (Ne.symm e), decide_eq_true_eq, decide_eq_true_eq]
      omega
/-! counting along the row by keys -/
theorem c0_congr {p q : Nat → Bool} : ∀ {n : Nat}, (∀ j, j < n → p j = q j) → c0 p n = c0 q n
  | 0, _ => rfl
  | n + 1, h => by rw [c0, c0, c0_congr (n := n) (fun j h1 => h j (by omega)), h n (by omega)]
theorem c0_part {p : Nat → Bool} {bk : Nat → Nat} {n : Nat} : ∀ {m : Nat}, (∀ j, j < m → 1 ≤ bk j ∧ bk j ≤ n) → (∀ i j, i < m → j < m → bk i = bk j → i = j) → c0 (fun q => p (bk q)) m = cn (fun d => p d && @decide (∃ q, q < m ∧ bk q = d) (Classical.propDecidable _)) n
  | 0, _, _ => by
    rw [c0, cn_0]
    intro j _ _
    simp
  | m + 1, hr, hi => by
    rw [c0, c0_part (m := m) (fun j h => hr j (by omega)) (fun i j h1 h2 => hi i j (by omega) (by omega))]
    obtain ⟨r1, r2⟩ := hr m (by omega)
    have hm : ¬ ∃ q, q < m ∧ bk q = bk m := fun ⟨q, h1, h2⟩ => by
      have := hi q m (by omega) (by omega) h2
      omega
    by_cases hp : p (bk m) = true
    · rw [if_pos hp]
      refine (cn_add (e := bk m) r1 r2 ?_ ?_ ?_).symm
      · simp [hm]
      · simp [hp]
        exact ⟨m, by omega, rfl⟩
      · intro j _ _ hj
        have : (∃ q, q < m + 1 ∧ bk q = j) ↔ ∃ q, q < m ∧ bk q = j := by
          constructor
          · rintro ⟨q, h1, h2⟩
            by_cases e : q = m
            · subst e; exact absurd h2.symm hj
            · exact ⟨q, by omega, h2⟩
          · rintro ⟨q, h1, h2⟩
            exact ⟨q, by omega, h2⟩
        show (p j && @decide _ (Classical.propDecidable _)) = (p j && @decide _ (Classical.propDecidable _))
        exact congrArg (fun z => p j && z) (decide_eq_decide.mpr this)
    · rw [if_neg hp]
      refine cn_congr (fun j _ _ => ?_)
      by_cases e : j = bk m
      · subst e
        simp [hp]
      · have : (∃ q, q < m + 1 ∧ bk q = j) ↔ ∃ q, q < m ∧ bk q = j := by
          constructor
          · rintro ⟨q, h1, h2⟩
            by_cases e2 : q = m
            · subst e2; exact absurd h2.symm e
            · exact ⟨q, by omega, h2⟩
          · rintro ⟨q, h1, h2⟩
            exact ⟨q, by omega, h2⟩
        show (p j && @decide _ (Classical.propDecidable _)) = (p j && @decide _ (Classical.propDecidable _))
        exact congrArg (fun z => p j && z) (decide_eq_decide.mpr this.symm)
/-- the row by keys as a pure fact -/
def BKp (a : ab_T) (bk : Nat → Nat) : Prop := (∀ j, j < a.1 1 → 1 ≤ bk j ∧ bk j ≤ a.1 1) ∧ (∀ i, 1 ≤ i → i ≤ a.1 1 → ∃ j, j < a.1 1 ∧ bk j = i) ∧ ∀ i j, i < j → j < a.1 1 → a_lt a (bk i) (bk j)
theorem BK_p {s : ak_S} {a : ab_T} (h : BK s a) : ∃ bk, BKp a bk ∧ ∀ j, j < a.1 1 → s.1 15 j = nI (bk j) := by
  obtain ⟨bk, c1, c2, c3⟩ := h
  exact ⟨bk, ⟨fun j hj => (c1 j hj).2, c2, c3⟩, fun j hj => (c1 j hj).1⟩
theorem bk_lt {a : ab_T} {bk : Nat → Nat} (h : BKp a bk) {i j : Nat} (hi : i < a.1 1) (hj : j < a.1 1) : a_ltB a (bk i) (bk j) = decide (i < j) := by
  have hs := sto_lt a
  rcases (by omega : i < j ∨ i = j ∨ j < i) with z | z | z
  · have := h.2.2 i j z hj
    simp only [a_ltB, z, decide_true, decide_eq_true_eq]
    exact this
  · subst z
    rw [hs.1]
    simp
  · have h1 : a_ltB a (bk j) (bk i) = true := by
      simp only [a_ltB, decide_eq_true_eq]
      exact h.2.2 j i z hi
    cases h2 : a_ltB a (bk i) (bk j) with
    | false => simp; omega
    | true =>
      have := hs.2.1 _ _ _ h1 h2
      rw [hs.1] at this
      cases this
theorem bk_inj {a : ab_T} {bk : Nat → Nat} (h : BKp a bk) : ∀ i j, i < a.1 1 → j < a.1 1 → bk i = bk j → i = j := by
  intro i j hi hj e
  have h1 := bk_lt h hi hj
  have h2 := bk_lt h hj hi
  rw [e, (sto_lt a).1] at h1
  rw [← e, (sto_lt a).1] at h2
  have e1 : ¬ i < j := by simpa using h1.symm
  have e2 : ¬ j < i := by simpa using h2.symm
  omega
theorem cn_bk {a : ab_T} {bk : Nat → Nat} (h : BKp a bk) (p : Nat → Bool) : cn p (a.1 1) = c0 (fun q => p (bk q)) (a.1 1) := by
  rw [c0_part (n := a.1 1) h.1 (bk_inj h)]
  refine cn_congr (fun j h1 h2 => ?_)
  have := h.2.1 j h1 h2
  simp [this]
theorem c0_cut {p : Nat → Bool} {j : Nat} : ∀ {n : Nat}, j ≤ n → c0 (fun q => p q && decide (q < j)) n = c0 p j
  | 0, h => by
    have : j = 0 := by omega
    subst this
    rfl
  | n + 1, h => by
    by_cases e : j = n + 1
    · subst e
      exact c0_congr (fun q hq => by simp [hq])
    · rw [c0, c0_cut (n := n) (by omega)]
      have : ¬ n < j := by omega
      simp [this]
/-- a rank, along the row -/
theorem rk_bk {a : ab_T} {bk : Nat → Nat} (h : BKp a bk) (P : Nat → Bool) {j : Nat} (hj : j < a.1 1) : a_rk P (a_ltB a) (a.1 1) (bk j) = c0 (fun q => P (bk q)) j := by
  unfold a_rk
  rw [cn_bk h, ← c0_cut (p := fun q => P (bk q)) (j := j) (n := a.1 1) (by omega)]
  exact c0_congr (fun q hq => by rw [bk_lt h hq hj])
end
section
/-! the class's entry and child -/
def a_inB (a : ab_T) (j i : Nat) : Bool := decide (a.2.1 5 i = 1 ∧ a.2.1 3 i = a.2.1 7 j ∧ ¬ (a.2.1 8 j ≠ 0 ∧ a.2.2.1 i = 0))
def f_entry (a : ab_T) (x y : Int32) : Int32 := if iX a x then nI (a_ith (a_inB a x.toNatClampNeg) (a_ltB a) (a.1 1) y) else 0
def pt_L_isIn : ak_P := fun vs s Q => match vs with
  | [.ref 0, .int x, .int y] => ∃ (a : ab_T) (j i : Nat), AI a ∧ RC s a ∧ x = nI j ∧ y = nI i ∧ 1 ≤ j ∧ j ≤ a.1 2 ∧ 1 ≤ i ∧ i ≤ a.1 1 ∧ (a_inB a j i = true → Q (some (.int 1)) s) ∧ (a_inB a j i = false → Q (some (.int 0)) s)
  | _ => False
def cs_L_isIn : Nat → ak_P := fun a => match a with
  | _ => pt_S_is
theorem vc_L_isIn : ak_VC lay_C cs_L_isIn bl_L_isIn 3 pt_L_isIn := by
  intro vs s Q h
  unfold pt_L_isIn at h
  split at h
  · rename_i x y
    obtain ⟨a, j, i, hA, hR, rfl, rfl, hj1, hj2, hi1, hi2, hy, hno⟩ := h
    have hn := hA.1
    refine ⟨Nat.le_of_ble_eq_true rfl, fun J hJ => hJ 6 _ _ _ _ ?_⟩
    simp only [Nat.reduceAdd, Nat.reduceLeDiff, Nat.zero_le, true_or, or_true, run_s, e_nop, e_iconst, e_bipush, e_sipush, e_lconst, e_iload, e_iload_n, e_lload, e_lload_n, e_aload, e_aload_n, e_istore, e_istore_n, e_iinc, e_iadd, e_isub, e_imul, e_lcmp, e_dupI, e_dupR, e_dup2, e_getfield, e_putfield, e_iaload, e_baload, e_laload, e_iastore, e_bastore, e_lastore, e_if, e_icmp, e_goto, e_tsw, e_ireturn0, e_ireturn1, e_return, e_call0, e_call1, e_call2, e_call3, lI_e, lL_e, lR_e, ak_nth, ak_set, ak_ok1, ak_jp, ak_b1, ak_b2, ak_sw, ak_la, ak_pad, true_and, and_true, List.map_cons, List.map_nil, List.sum_cons, List.sum_nil, Value.category, Option.toList_some, Option.toList_none, List.cons_append, List.nil_append, gC_0_0, gC_0_1, gC_0_2, gC_0_3, rC_0, gC_1_0, pC_1_0, gC_1_1, gC_1_2, gC_1_3, rC_1, gC_2_0, pC_2_0, gC_2_1, gC_2_2, gC_2_3, gC_2_4, gC_2_5, gC_2_6, gC_2_7, gC_2_8, rC_2, gC_3_0, pC_3_0, gC_3_1, gC_3_2, rC_3, gC_4_0, gC_4_1, gC_4_2, gC_4_3, gC_4_4, pC_4_4, rC_4, kC_5, kC_6, kC_7, kC_8, kC_9, kC_10, kC_11, kC_12, kC_13, kC_14, kC_15, kC_16, kC_17, kC_18, kC_19, fd_L_isIn_0, fd_L_isIn_59, fd_L_isIn_63, fd_L_isIn_64, bk_L_isIn_0, bk_L_isIn_59, bk_L_isIn_63, bk_L_isIn_64, cs_L_isIn, pt_S_is]
    simp only [bt0, Classical.not_not, i10, false_implies, not_false_eq_true, true_implies, not_true_eq_false, true_and, and_true, false_and, and_false, imp_self]
    obtain ⟨b1, b2, b3, b4, b5⟩ := hR.2.2.1 i (by omega)
    obtain ⟨c1, c2, c3, c4⟩ := hA.2.2.1 i (by omega)
    obtain ⟨d1, d2⟩ := hR.2.2.2.2.2.1 j (by omega)
    obtain ⟨e1, e2⟩ := hA.2.2.2.2.2.2.2.2.1 j (by omega)
    have hi := n_in hi1 hi2 (by omega)
    simp only [a_inB, decide_eq_true_eq, decide_eq_false_iff_not] at hy hno
    rw [hR.1.2.1, q_cl (by omega), q_cl (by omega), b4, b1, d1, d2, b3, lg_cmp_eq, q_eq (by omega) (by omega)]
    have z5 : nI (a.2.1 5 i) = 1 ↔ a.2.1 5 i = 1 := by rw [n_1]; exact nI_eq (by omega) (by omega)
    have z8 : nI (a.2.1 8 j) = 0 ↔ a.2.1 8 j = 0 := by rw [n_0]; exact nI_eq (by omega) (by omega)
    rw [z5, z8]
    have l0 : Int32.toInt64 0 = 0 := by decide
    rw [l0]
    refine ⟨a.1 1, by omega, rfl, fun q => hno (fun z => q ⟨hi, z.1⟩), fun q => ⟨q_in (by omega) (by omega), q_in (by omega) (by omega), fun q2 => hno (fun z => q2 z.2.1), fun q2 => ⟨q_in (by omega) (by omega), fun q3 => hy ⟨q.2, q2, fun z => z.1 q3⟩, fun q3 => ⟨q_in (by omega) (by omega), fun q4 => hno (fun z => z.2.2 ⟨q3, q4⟩), fun q4 => hy ⟨q.2, q2, fun z => q4 z.2⟩⟩⟩⟩⟩
  · exact h.elim
set_option maxRecDepth 20000 in
theorem ct_L_isIn (l : Launch) : ak_Ctr l cl_all lay_C y_L_isIn ws_L_isIn rm_L_isIn pt_L_isIn := by
  refine ak_met (cs := cs_L_isIn) (reg := rg_L_isIn) (bl := bl_L_isIn) (by decide +kernel) rfl (cl_ok _) rfl ok_L_isIn ?_ vc_L_isIn
  intro a n b ci h
  match a, h with
  | 0, h =>
    cases h
    exact ak_ccV (ct_S_is l) rfl 184 185 186 22 187 (by decide +kernel) ⟨rfl, rfl⟩ (by decide +kernel) (by decide +kernel)
  | k + 1, h => cases h
def pt_L_entry : ak_P := fun vs s Q => match vs with
  | [.ref 0, .int x, .int y] => ∃ a, AI a ∧ RC s a ∧ Q (some (.int (f_entry a x y))) s
  | _ => False
def cs_L_entry : Nat → ak_P := fun a => match a with
  | 0 => pt_X_has
  | _ => pt_L_isIn
theorem vc_L_entry : ak_VC lay_C cs_L_entry bl_L_entry 6 pt_L_entry := by
  intro vs s Q h
  unfold pt_L_entry at h
  split at h
  · rename_i x y
    obtain ⟨a, hA, hR, h⟩ := h
    have hn := hA.1
    unfold f_entry at h
    refine ⟨Nat.le_of_ble_eq_true rfl, fun J hJ => ?_⟩
    have start : (iX a x → ¬ y < 0 → J 22 [some (.ref 0), some (.int x), some (.int y), some (.int y), some (.int 0), none] [] s) → J 0 (ak_pad 6 (ak_la [.ref 0, .int x, .int y])) [] s := by
      intro hj
      refine hJ 4 _ _ _ _ ?_
      simp only [Nat.reduceAdd, Nat.reduceLeDiff, Nat.zero_le, true_or, or_true, run_s, e_nop, e_iconst, e_bipush, e_sipush, e_lconst, e_iload, e_iload_n, e_lload, e_lload_n, e_aload, e_aload_n, e_istore, e_istore_n, e_iinc, e_iadd, e_isub, e_imul, e_lcmp, e_dupI, e_dupR, e_dup2, e_getfield, e_putfield, e_iaload, e_baload, e_laload, e_iastore, e_bastore, e_lastore, e_if, e_icmp, e_goto, e_tsw, e_ireturn0, e_ireturn1, e_return, e_call0, e_call1, e_call2, e_call3, lI_e, lL_e, lR_e, ak_nth, ak_set, ak_ok1, ak_jp, ak_b1, ak_b2, ak_sw, ak_la, ak_pad, true_and, and_true, List.map_cons, List.map_nil, List.sum_cons, List.sum_nil, Value.category, Option.toList_some, Option.toList_none, List.cons_append, List.nil_append, gC_0_0, gC_0_1, gC_0_2, gC_0_3, rC_0, gC_1_0, pC_1_0, gC_1_1, gC_1_2, gC_1_3, rC_1, gC_2_0, pC_2_0, gC_2_1, gC_2_2, gC_2_3, gC_2_4, gC_2_5, gC_2_6, gC_2_7, gC_2_8, rC_2, gC_3_0, pC_3_0, gC_3_1, gC_3_2, rC_3, gC_4_0, gC_4_1, gC_4_2, gC_4_3, gC_4_4, pC_4_4, rC_4, kC_5, kC_6, kC_7, kC_8, kC_9, kC_10, kC_11, kC_12, kC_13, kC_14, kC_15, kC_16, kC_17, kC_18, kC_19, fd_L_entry_0, fd_L_entry_15, fd_L_entry_17, fd_L_entry_22, fd_L_entry_66, fd_L_entry_72, bk_L_entry_0, bk_L_entry_15, bk_L_entry_17, bk_L_entry_22, bk_L_entry_66, bk_L_entry_72, cs_L_entry, pt_X_has]
      simp only [bt0, Classical.not_not, i10, false_implies, not_false_eq_true, true_implies, not_true_eq_false, true_and, and_true, false_and, and_false, imp_self]
      rw [hR.1.2.2]
      refine ⟨fun q => ?_, fun q => ⟨fun q2 => hj q (Int32.not_lt.mpr q2), fun q2 => ?_⟩⟩
      · rw [if_neg q] at h
        exact h
      · rw [if_pos q, ith_neg (by omega) (Int32.not_le.mp q2)] at h
        exact h
    refine start (fun hX hy => ?_)
    rw [if_pos hX] at h
    obtain ⟨j, hj1, hj2, rfl⟩ := iX_of hA hX
    obtain ⟨i, hi1, rfl⟩ := nI_of hy
    rw [q_cl (by omega)] at h
    obtain ⟨bk, hbk, hs15⟩ := BK_p hR.2.2.2.2.2.2
    have loop : ∀ d p l (o : Option Value), p + d = a.1 1 → c0 (fun q => a_inB a j (bk q)) p + l = i → J 22 [some (.ref 0), some (.int (nI j)), some (.int (nI i)), some (.int (nI l)), some (.int (nI p)), o] [] s := by
      intro d
      induction d with
      | zero =>
        intro p l o hp hl
        have e : p = a.1 1 := by omega
        subst e
        refine hJ 3 _ _ _ _ ?_
        simp only [Nat.reduceAdd, Nat.reduceLeDiff, Nat.zero_le, true_or, or_true, run_s, e_nop, e_iconst, e_bipush, e_sipush, e_lconst, e_iload, e_iload_n, e_lload, e_lload_n, e_aload, e_aload_n, e_istore, e_istore_n, e_iinc, e_iadd, e_isub, e_imul, e_lcmp, e_dupI, e_dupR, e_dup2, e_getfield, e_putfield, e_iaload, e_baload, e_laload, e_iastore, e_bastore, e_lastore, e_if, e_icmp, e_goto, e_tsw, e_ireturn0, e_ireturn1, e_return, e_call0, e_call1, e_call2, e_call3, lI_e, lL_e, lR_e, ak_nth, ak_set, ak_ok1, ak_jp, ak_b1, ak_b2, ak_sw, ak_la, ak_pad, true_and, and_true, List.map_cons, List.map_nil, List.sum_cons, List.sum_nil, Value.category, Option.toList_some, Option.toList_none, List.cons_append, List.nil_append, gC_0_0, gC_0_1, gC_0_2, gC_0_3, rC_0, gC_1_0, pC_1_0, gC_1_1, gC_1_2, gC_1_3, rC_1, gC_2_0, pC_2_0, gC_2_1, gC_2_2, gC_2_3, gC_2_4, gC_2_5, gC_2_6, gC_2_7, gC_2_8, rC_2, gC_3_0, pC_3_0, gC_3_1, gC_3_2, rC_3, gC_4_0, gC_4_1, gC_4_2, gC_4_3, gC_4_4, pC_4_4, rC_4, kC_5, kC_6, kC_7, kC_8, kC_9, kC_10, kC_11, kC_12, kC_13, kC_14, kC_15, kC_16, kC_17, kC_18, kC_19, fd_L_entry_0, fd_L_entry_15, fd_L_entry_17, fd_L_entry_22, fd_L_entry_66, fd_L_entry_72, bk_L_entry_0, bk_L_entry_15, bk_L_entry_17, bk_L_entry_22, bk_L_entry_66, bk_L_entry_72, cs_L_entry]
        rw [hR.1.2.1, q_le (by omega) (by omega)]
        refine ⟨fun _ => ?_, fun q => absurd (by omega) q⟩
        rw [ith_no (sto_lt a) (by omega) hi1 (by rw [cn_bk hbk]; omega)] at h
        exact h
      | succ d ih =>
        intro p l o hp hl
        have hb := hbk.1 p (by omega)
        refine hJ 4 _ _ _ _ ?_
        simp only [Nat.reduceAdd, Nat.reduceLeDiff, Nat.zero_le, true_or, or_true, run_s, e_nop, e_iconst, e_bipush, e_sipush, e_lconst, e_iload, e_iload_n, e_lload, e_lload_n, e_aload, e_aload_n, e_istore, e_istore_n, e_iinc, e_iadd, e_isub, e_imul, e_lcmp, e_dupI, e_dupR, e_dup2, e_getfield, e_putfield, e_iaload, e_baload, e_laload, e_iastore, e_bastore, e_lastore, e_if, e_icmp, e_goto, e_tsw, e_ireturn0, e_ireturn1, e_return, e_call0, e_call1, e_call2, e_call3, lI_e, lL_e, lR_e, ak_nth, ak_set, ak_ok1, ak_jp, ak_b1, ak_b2, ak_sw, ak_la, ak_pad, true_and, and_true, List.map_cons, List.map_nil, List.sum_cons, List.sum_nil, Value.category, Option.toList_some, Option.toList_none, List.cons_append, List.nil_append, gC_0_0, gC_0_1, gC_0_2, gC_0_3, rC_0, gC_1_0, pC_1_0, gC_1_1, gC_1_2, gC_1_3, rC_1, gC_2_0, pC_2_0, gC_2_1, gC_2_2, gC_2_3, gC_2_4, gC_2_5, gC_2_6, gC_2_7, gC_2_8, rC_2, gC_3_0, pC_3_0, gC_3_1, gC_3_2, rC_3, gC_4_0, gC_4_1, gC_4_2, gC_4_3, gC_4_4, pC_4_4, rC_4, kC_5, kC_6, kC_7, kC_8, kC_9, kC_10, kC_11, kC_12, kC_13, kC_14, kC_15, kC_16, kC_17, kC_18, kC_19, fd_L_entry_0, fd_L_entry_15, fd_L_entry_17, fd_L_entry_22, fd_L_entry_66, fd_L_entry_72, bk_L_entry_0, bk_L_entry_15, bk_L_entry_17, bk_L_entry_22, bk_L_entry_66, bk_L_entry_72, cs_L_entry, nI_1, pt_L_isIn]
        simp only [bt0, Classical.not_not, i10, false_implies, not_false_eq_true, true_implies, not_true_eq_false, true_and, and_true, false_and, and_false, imp_self]
        rw [hR.1.2.1, q_le (by omega) (by omega), q_cl (by omega), hs15 p (by omega)]
        refine ⟨fun q => absurd q (by omega), fun _ => ⟨q_in (by omega) (by omega), a, j, bk p, hA, hR, rfl, rfl, hj1, hj2, hb.1, hb.2, fun q => ⟨fun q2 => ?_, fun q2 => ?_⟩, fun q => ?_⟩⟩
        · obtain ⟨l', rfl⟩ : ∃ l', l = l' + 1 := by
            rcases Nat.eq_zero_or_pos l with z | z
            · subst z; exact absurd rfl q2
            · exact ⟨l - 1, by omega⟩
          rw [pk_m1]
          refine ih (p + 1) l' _ (by omega) ?_
          simp only [c0, q, if_true]
          omega
        · rw [n_0, q_eq (by omega) (by omega)] at q2
          rw [ith_at (sto_lt a) (by omega) hi1 hb.1 hb.2 q (by rw [rk_bk hbk _ (by omega)]; omega)] at h
          exact h
        · refine ih (p + 1) l _ (by omega) ?_
          simp only [c0, q]
          simp
          omega
    exact loop (a.1 1) 0 i _ (by omega) (by simp [c0])
  · exact h.elim
set_option maxRecDepth 20000 in
theorem ct_L_entry (l : Launch) : ak_Ctr l cl_all lay_C y_L_entry ws_L_entry rm_L_entry pt_L_entry := by
  refine ak_met (cs := cs_L_entry) (reg := rg_L_entry) (bl := bl_L_entry) (by decide +kernel) rfl (cl_ok _) rfl ok_L_entry ?_ vc_L_entry
  intro a n b ci h
  match a, h with
  | 0, h =>
    cases h
    exact ak_ccV (ct_X_has l) rfl 293 294 295 23 296 (by decide +kernel) ⟨rfl, rfl⟩ (by decide +kernel) (by decide +kernel)
  | 1, h =>
    cases h
    exact ak_ccV (ct_L_isIn l) rfl 297 298 7 20 299 (by decide +kernel) ⟨rfl, rfl⟩ (by decide +kernel) (by decide +kernel)
  | k + 2, h => cases h
/-- a child: side 0 under it, side 1 related to it -/
def a_chB (a : ab_T) (g side c : Nat) : Bool := decide (a.2.1 5 c = 1 ∧ (if side = 0 then a.2.1 4 c else a.2.1 6 c) = g)
def a_ckB (a : ab_T) (g k c : Nat) : Bool := decide (a.2.1 5 c = 1 ∧ a.2.1 3 c = k ∧ a.2.1 4 c = g)
def f_child (a : ab_T) (g d x : Int32) : Int32 := if iS a g ∧ (d = 0 ∨ d = 1) then nI (if d = 0 then a_ith (a_chB a g.toNatClampNeg 0) (a_kdB a) (a.1 1) x else a_ith (a_chB a g.toNatClampNeg 1) (a_ltB a) (a.1 1) x) else 0
theorem sm_ck {a : ab_T} (hA : AI a) (g : Nat) : ∀ k, sm (fun k => cn (a_ckB a g k) (a.1 1)) k = cn (fun d => a_chB a g 0 d && decide (a.2.1 3 d ≤ k)) (a.1 1)
  | 0 => by
    rw [sm, cn_0]
    intro j h1 h2
    have := hA.2.2.2.1 j h1 h2
    have z : ¬ a.2.1 3 j ≤ 0 := by omega
    simp [z]
  | k + 1 => by
    rw [sm, sm_ck hA g k, ← cn_or]
    · refine cn_congr (fun j _ _ => ?_)
      rw [Bool.eq_iff_iff]
      simp only [a_chB, a_ckB, if_true, Bool.or_eq_true, Bool.and_eq_true, decide_eq_true_eq]
      omega
    · intro j _ _
      simp only [a_chB, a_ckB, if_true, Bool.and_eq_true, decide_eq_true_eq]
      omega
theorem cn_ch {a : ab_T} (hA : AI a) (g : Nat) : cn (a_chB a g 0) (a.1 1) = sm (fun k => cn (a_ckB a g k) (a.1 1)) (a.1 0) := by
  rw [sm_ck hA]
  refine cn_congr (fun j h1 h2 => ?_)
  have := (hA.2.2.2.2.2.2.2.2.2 j h1 h2).1
  simp [this]
theorem rk_kd {a : ab_T} (hA : AI a) {bk : Nat → Nat} (h : BKp a bk) (g : Nat) {p k : Nat} (hp : p < a.1 1) (hk : a.2.1 3 (bk p) = k + 1) : a_rk (a_chB a g 0) (a_kdB a) (a.1 1) (bk p) = sm (fun k => cn (a_ckB a g k) (a.1 1)) k + c0 (fun q => a_ckB a g (k + 1) (bk q)) p := by
  rw [← rk_bk h _ hp, sm_ck hA]
  unfold a_rk
  rw [← cn_or]
  · refine cn_congr (fun j _ _ => ?_)
    have hkd : a_kdB a j (bk p) = (decide (a.2.1 3 j ≤ k) || (decide (a.2.1 3 j = k + 1) && a_ltB a j (bk p))) := by
      unfold a_kdB
      rw [hk]
      by_cases e : a.2.1 3 j = k + 1
      · have : ¬ a.2.1 3 j ≤ k := by omega
        rw [if_neg (fun z => z e), decide_eq_false this, decide_eq_true e]
        simp
      · rw [if_pos e]
        simp only [e, decide_false, Bool.false_and, Bool.or_false, decide_eq_decide]
        omega
    rw [hkd]
    rw [Bool.eq_iff_iff]
    simp only [a_chB, a_ckB, if_true, Bool.or_eq_true, Bool.and_eq_true, decide_eq_true_eq]
    constructor
    · rintro ⟨z1, z2 | z2⟩
      · exact Or.inl ⟨z1, z2⟩
      · exact Or.inr ⟨⟨z1.1, z2.1, z1.2⟩, z2.2⟩
    · rintro (z | z)
      · exact ⟨z.1, Or.inl z.2⟩
      · exact ⟨⟨z.1.1, z.1.2.2⟩, Or.inr ⟨z.1.2.1, z.2⟩⟩
  · intro j _ _
    simp only [a_chB, a_ckB, if_true, Bool.and_eq_true, decide_eq_true_eq]
    omega
def pt_L_physicalChild : ak_P := fun vs s Q => match vs with
  | [.ref 0, .int x, .int y] => ∃ (a : ab_T) (g i : Nat), AI a ∧ RC s a ∧ x = nI g ∧ y = nI i ∧ 1 ≤ g ∧ g ≤ a.1 1 ∧ i < 2147483648 ∧ Q (some (.int (nI (a_ith (a_chB a g 0) (a_kdB a) (a.1 1) (nI i))))) s
  | _ => False
def cs_L_physicalChild : Nat → ak_P := fun a => match a with
  | _ => pt_S_isOneUnder
theorem vc_L_physicalChild : ak_VC lay_C cs_L_physicalChild bl_L_physicalChild 7 pt_L_physicalChild := by
  intro vs s Q h
  unfold pt_L_physicalChild at h
  split at h
  · rename_i x y
    obtain ⟨a, g, i, hA, hR, rfl, rfl, hg1, hg2, hi, h⟩ := h
    have hn := hA.1
    obtain ⟨bk, hbk, hs15⟩ := BK_p hR.2.2.2.2.2.2
    obtain ⟨bg1, _⟩ := hR.2.2.1 g (by omega)
    obtain ⟨bg2, _⟩ := hA.2.2.1 g (by omega)
    refine ⟨Nat.le_of_ble_eq_true rfl, fun J hJ => ?_⟩
    have outer : ∀ d k l (o1 o2 : Option Value), k + d = a.1 0 → sm (fun k => cn (a_ckB a g k) (a.1 1)) k + l = i → J 5 [some (.ref 0), some (.int (nI g)), some (.int (nI i)), some (.int (nI l)), some (.int (nI (k + 1))), o1, o2] [] s := by
      intro d
      induction d with
      | zero =>
        intro k l o1 o2 hk hl
        have e : k = a.1 0 := by omega
        subst e
        refine hJ 3 _ _ _ _ ?_
        simp only [Nat.reduceAdd, Nat.reduceLeDiff, Nat.zero_le, true_or, or_true, run_s, e_nop, e_iconst, e_bipush, e_sipush, e_lconst, e_iload, e_iload_n, e_lload, e_lload_n, e_aload, e_aload_n, e_istore, e_istore_n, e_iinc, e_iadd, e_isub, e_imul, e_lcmp, e_dupI, e_dupR, e_dup2, e_getfield, e_putfield, e_iaload, e_baload, e_laload, e_iastore, e_bastore, e_lastore, e_if, e_icmp, e_goto, e_tsw, e_ireturn0, e_ireturn1, e_return, e_call0, e_call1, e_call2, e_call3, lI_e, lL_e, lR_e, ak_nth, ak_set, ak_ok1, ak_jp, ak_b1, ak_b2, ak_sw, ak_la, ak_pad, true_and, and_true, List.map_cons, List.map_nil, List.sum_cons, List.sum_nil, Value.category, Option.toList_some, Option.toList_none, List.cons_append, List.nil_append, gC_0_0, gC_0_1, gC_0_2, gC_0_3, rC_0, gC_1_0, pC_1_0, gC_1_1, gC_1_2, gC_1_3, rC_1, gC_2_0, pC_2_0, gC_2_1, gC_2_2, gC_2_3, gC_2_4, gC_2_5, gC_2_6, gC_2_7, gC_2_8, rC_2, gC_3_0, pC_3_0, gC_3_1, gC_3_2, rC_3, gC_4_0, gC_4_1, gC_4_2, gC_4_3, gC_4_4, pC_4_4, rC_4, kC_5, kC_6, kC_7, kC_8, kC_9, kC_10, kC_11, kC_12, kC_13, kC_14, kC_15, kC_16, kC_17, kC_18, kC_19, fd_L_physicalChild_0, fd_L_physicalChild_5, fd_L_physicalChild_42, fd_L_physicalChild_45, fd_L_physicalChild_94, fd_L_physicalChild_100, fd_L_physicalChild_106, bk_L_physicalChild_0, bk_L_physicalChild_5, bk_L_physicalChild_42, bk_L_physicalChild_45, bk_L_physicalChild_94, bk_L_physicalChild_100, bk_L_physicalChild_106, cs_L_physicalChild]
        rw [hR.1.1, q_lt (by omega) (by omega)]
        refine ⟨fun _ => ?_, fun q => absurd (by omega) q⟩
        rw [ith_no (sto_kd a) (by omega) hi (by rw [cn_ch hA]; omega)] at h
        exact h
      | succ d ih =>
        intro k l o1 o2 hk hl
        have inner : ∀ d2 p l2 (o : Option Value), p + d2 = a.1 1 → sm (fun k => cn (a_ckB a g k) (a.1 1)) k + c0 (fun q => a_ckB a g (k + 1) (bk q)) p + l2 = i → J 45 [some (.ref 0), some (.int (nI g)), some (.int (nI i)), some (.int (nI l2)), some (.int (nI (k + 1))), some (.int (nI p)), o] [] s := by
          intro d2
          induction d2 with
          | zero =>
            intro p l2 o hp hl2
            have e : p = a.1 1 := by omega
            subst e
            refine hJ 4 _ _ _ _ ?_
            simp only [Nat.reduceAdd, Nat.reduceLeDiff, Nat.zero_le, true_or, or_true, run_s, e_nop, e_iconst, e_bipush, e_sipush, e_lconst, e_iload, e_iload_n, e_lload, e_lload_n, e_aload, e_aload_n, e_istore, e_istore_n, e_iinc, e_iadd, e_isub, e_imul, e_lcmp, e_dupI, e_dupR, e_dup2, e_getfield, e_putfield, e_iaload, e_baload, e_laload, e_iastore, e_bastore, e_lastore, e_if, e_icmp, e_goto, e_tsw, e_ireturn0, e_ireturn1, e_return, e_call0, e_call1, e_call2, e_call3, lI_e, lL_e, lR_e, ak_nth, ak_set, ak_ok1, ak_jp, ak_b1, ak_b2, ak_sw, ak_la, ak_pad, true_and, and_true, List.map_cons, List.map_nil, List.sum_cons, List.sum_nil, Value.category, Option.toList_some, Option.toList_none, List.cons_append, List.nil_append, gC_0_0, gC_0_1, gC_0_2, gC_0_3, rC_0, gC_1_0, pC_1_0, gC_1_1, gC_1_2, gC_1_3, rC_1, gC_2_0, pC_2_0, gC_2_1, gC_2_2, gC_2_3, gC_2_4, gC_2_5, gC_2_6, gC_2_7, gC_2_8, rC_2, gC_3_0, pC_3_0, gC_3_1, gC_3_2, rC_3, gC_4_0, gC_4_1, gC_4_2, gC_4_3, gC_4_4, pC_4_4, rC_4, kC_5, kC_6, kC_7, kC_8, kC_9, kC_10, kC_11, kC_12, kC_13, kC_14, kC_15, kC_16, kC_17, kC_18, kC_19, fd_L_physicalChild_0, fd_L_physicalChild_5, fd_L_physicalChild_42, fd_L_physicalChild_45, fd_L_physicalChild_94, fd_L_physicalChild_100, fd_L_physicalChild_106, bk_L_physicalChild_0, bk_L_physicalChild_5, bk_L_physicalChild_42, bk_L_physicalChild_45, bk_L_physicalChild_94, bk_L_physicalChild_100, bk_L_physicalChild_106, cs_L_physicalChild, nI_1]
            rw [hR.1.2.1, q_le (by omega) (by omega)]
            refine ⟨fun _ => ?_, fun q => absurd (by omega) q⟩
            refine ih (k + 1) l2 _ _ (by omega) ?_
            rw [sm, cn_bk hbk]
            omega
          | succ d2 ih2 =>
            intro p l2 o hp hl2
            have hb := hbk.1 p (by omega)
            obtain ⟨b1, b2, b3, b4, b5⟩ := hR.2.2.1 (bk p) (by omega)
            obtain ⟨c1, c2, c3, c4⟩ := hA.2.2.1 (bk p) (by omega)
            refine hJ 4 _ _ _ _ ?_
            simp only [Nat.reduceAdd, Nat.reduceLeDiff, Nat.zero_le, true_or, or_true, run_s, e_nop, e_iconst, e_bipush, e_sipush, e_lconst, e_iload, e_iload_n, e_lload, e_lload_n, e_aload, e_aload_n, e_istore, e_istore_n, e_iinc, e_iadd, e_isub, e_imul, e_lcmp, e_dupI, e_dupR, e_dup2, e_getfield, e_putfield, e_iaload, e_baload, e_laload, e_iastore, e_bastore, e_lastore, e_if, e_icmp, e_goto, e_tsw, e_ireturn0, e_ireturn1, e_return, e_call0, e_call1, e_call2, e_call3, lI_e, lL_e, lR_e, ak_nth, ak_set, ak_ok1, ak_jp, ak_b1, ak_b2, ak_sw, ak_la, ak_pad, true_and, and_true, List.map_cons, List.map_nil, List.sum_cons, List.sum_nil, Value.category, Option.toList_some, Option.toList_none, List.cons_append, List.nil_append, gC_0_0, gC_0_1, gC_0_2, gC_0_3, rC_0, gC_1_0, pC_1_0, gC_1_1, gC_1_2, gC_1_3, rC_1, gC_2_0, pC_2_0, gC_2_1, gC_2_2, gC_2_3, gC_2_4, gC_2_5, gC_2_6, gC_2_7, gC_2_8, rC_2, gC_3_0, pC_3_0, gC_3_1, gC_3_2, rC_3, gC_4_0, gC_4_1, gC_4_2, gC_4_3, gC_4_4, pC_4_4, rC_4, kC_5, kC_6, kC_7, kC_8, kC_9, kC_10, kC_11, kC_12, kC_13, kC_14, kC_15, kC_16, kC_17, kC_18, kC_19, fd_L_physicalChild_0, fd_L_physicalChild_5, fd_L_physicalChild_42, fd_L_physicalChild_45, fd_L_physicalChild_94, fd_L_physicalChild_100, fd_L_physicalChild_106, bk_L_physicalChild_0, bk_L_physicalChild_5, bk_L_physicalChild_42, bk_L_physicalChild_45, bk_L_physicalChild_94, bk_L_physicalChild_100, bk_L_physicalChild_106, cs_L_physicalChild, nI_1, pt_S_isOneUnder]
            simp only [bt0, Classical.not_not, i10, false_implies, not_false_eq_true, true_implies, not_true_eq_false, true_and, and_true, false_and, and_false, imp_self]
            rw [hR.1.2.1, q_le (by omega) (by omega), q_cl (by omega), hs15 p (by omega), q_cl (by omega)]
            have hone : (s.1 11 (bk p) = 1 ∧ s.1 8 (bk p) = nI (k + 1) ∧ s.1 9 (bk p) = nI g) ↔ a_ckB a g (k + 1) (bk p) = true := by
              rw [b4, b1, b2, n_1]
              simp only [a_ckB, decide_eq_true_eq]
              rw [nI_eq (by omega) (by omega), nI_eq (by omega) (by omega)]
              by_cases z : a.2.1 5 (bk p) = 1
              · rw [if_pos z, nI_eq (by omega) (by omega)]
              · exact ⟨fun y => absurd y.1 z, fun y => absurd y.1 z⟩
            rw [hone]
            refine ⟨fun q => absurd q (by omega), fun _ => ⟨q_in (by omega) (by omega), q_in (by omega) (by omega), fun q => ?_, fun q => ⟨fun q2 => ?_, fun q2 => ?_⟩⟩⟩
            · refine ih2 (p + 1) l2 _ (by omega) ?_
              simp only [c0, q]
              simp
              omega
            · obtain ⟨l', rfl⟩ : ∃ l', l2 = l' + 1 := by
                rcases Nat.eq_zero_or_pos l2 with z | z
                · subst z; exact absurd rfl q2
                · exact ⟨l2 - 1, by omega⟩
              rw [pk_m1]
              refine ih2 (p + 1) l' _ (by omega) ?_
              simp only [c0, q, if_true]
              omega
            · rw [n_0, q_eq (by omega) (by omega)] at q2
              have hq := q
              simp only [a_ckB, decide_eq_true_eq] at hq
              rw [ith_at (sto_kd a) (by omega) hi hb.1 hb.2 (by simp [a_chB, hq]) (by rw [rk_kd hA hbk g (by omega) hq.2.1]; omega)] at h
              exact h
        have hab := (hR.2.1 (k + 1) (by omega)).1
        have hab2 := (hA.2.1 (k + 1) (by omega)).1
        refine hJ 4 _ _ _ _ ?_
        simp only [Nat.reduceAdd, Nat.reduceLeDiff, Nat.zero_le, true_or, or_true, run_s, e_nop, e_iconst, e_bipush, e_sipush, e_lconst, e_iload, e_iload_n, e_lload, e_lload_n, e_aload, e_aload_n, e_istore, e_istore_n, e_iinc, e_iadd, e_isub, e_imul, e_lcmp, e_dupI, e_dupR, e_dup2, e_getfield, e_putfield, e_iaload, e_baload, e_laload, e_iastore, e_bastore, e_lastore, e_if, e_icmp, e_goto, e_tsw, e_ireturn0, e_ireturn1, e_return, e_call0, e_call1, e_call2, e_call3, lI_e, lL_e, lR_e, ak_nth, ak_set, ak_ok1, ak_jp, ak_b1, ak_b2, ak_sw, ak_la, ak_pad, true_and, and_true, List.map_cons, List.map_nil, List.sum_cons, List.sum_nil, Value.category, Option.toList_some, Option.toList_none, List.cons_append, List.nil_append, gC_0_0, gC_0_1, gC_0_2, gC_0_3, rC_0, gC_1_0, pC_1_0, gC_1_1, gC_1_2, gC_1_3, rC_1, gC_2_0, pC_2_0, gC_2_1, gC_2_2, gC_2_3, gC_2_4, gC_2_5, gC_2_6, gC_2_7, gC_2_8, rC_2, gC_3_0, pC_3_0, gC_3_1, gC_3_2, rC_3, gC_4_0, gC_4_1, gC_4_2, gC_4_3, gC_4_4, pC_4_4, rC_4, kC_5, kC_6, kC_7, kC_8, kC_9, kC_10, kC_11, kC_12, kC_13, kC_14, kC_15, kC_16, kC_17, kC_18, kC_19, fd_L_physicalChild_0, fd_L_physicalChild_5, fd_L_physicalChild_42, fd_L_physicalChild_45, fd_L_physicalChild_94, fd_L_physicalChild_100, fd_L_physicalChild_106, bk_L_physicalChild_0, bk_L_physicalChild_5, bk_L_physicalChild_42, bk_L_physicalChild_45, bk_L_physicalChild_94, bk_L_physicalChild_100, bk_L_physicalChild_106, cs_L_physicalChild, nI_1]
        rw [hR.1.1, q_lt (by omega) (by omega), q_cl (by omega), q_cl (by omega), hab, bg1, q_eq (by omega) (by omega)]
        refine ⟨fun q => absurd q (by omega), fun _ => ⟨q_in (by omega) (by omega), q_in (by omega) (by omega), fun q => ?_, fun q => ?_⟩⟩
        · exact inner (a.1 1) 0 l _ (by omega) (by simp only [c0]; omega)
        · refine ih (k + 1) l _ _ (by omega) ?_
          rw [sm]
          have : cn (a_ckB a g (k + 1)) (a.1 1) = 0 := by
            refine cn_0 (fun j h1 h2 => ?_)
            simp only [a_ckB, decide_eq_false_iff_not]
            rintro ⟨_, z2, z3⟩
            have := ((hA.2.2.2.2.2.2.2.2.2 j h1 h2).2 (by omega)).2
            rw [z2, z3] at this
            exact q this
          omega
    refine hJ 3 _ _ _ _ ?_
    simp only [Nat.reduceAdd, Nat.reduceLeDiff, Nat.zero_le, true_or, or_true, run_s, e_nop, e_iconst, e_bipush, e_sipush, e_lconst, e_iload, e_iload_n, e_lload, e_lload_n, e_aload, e_aload_n, e_istore, e_istore_n, e_iinc, e_iadd, e_isub, e_imul, e_lcmp, e_dupI, e_dupR, e_dup2, e_getfield, e_putfield, e_iaload, e_baload, e_laload, e_iastore, e_bastore, e_lastore, e_if, e_icmp, e_goto, e_tsw, e_ireturn0, e_ireturn1, e_return, e_call0, e_call1, e_call2, e_call3, lI_e, lL_e, lR_e, ak_nth, ak_set, ak_ok1, ak_jp, ak_b1, ak_b2, ak_sw, ak_la, ak_pad, true_and, and_true, List.map_cons, List.map_nil, List.sum_cons, List.sum_nil, Value.category, Option.toList_some, Option.toList_none, List.cons_append, List.nil_append, gC_0_0, gC_0_1, gC_0_2, gC_0_3, rC_0, gC_1_0, pC_1_0, gC_1_1, gC_1_2, gC_1_3, rC_1, gC_2_0, pC_2_0, gC_2_1, gC_2_2, gC_2_3, gC_2_4, gC_2_5, gC_2_6, gC_2_7, gC_2_8, rC_2, gC_3_0, pC_3_0, gC_3_1, gC_3_2, rC_3, gC_4_0, gC_4_1, gC_4_2, gC_4_3, gC_4_4, pC_4_4, rC_4, kC_5, kC_6, kC_7, kC_8, kC_9, kC_10, kC_11, kC_12, kC_13, kC_14, kC_15, kC_16, kC_17, kC_18, kC_19, fd_L_physicalChild_0, fd_L_physicalChild_5, fd_L_physicalChild_42, fd_L_physicalChild_45, fd_L_physicalChild_94, fd_L_physicalChild_100, fd_L_physicalChild_106, bk_L_physicalChild_0, bk_L_physicalChild_5, bk_L_physicalChild_42, bk_L_physicalChild_45, bk_L_physicalChild_94, bk_L_physicalChild_100, bk_L_physicalChild_106, cs_L_physicalChild]
    exact outer (a.1 0) 0 i _ _ (by omega) (by simp [sm])
  · exact h.elim
set_option maxRecDepth 20000 in
theorem ct_L_physicalChild (l : Launch) : ak_Ctr l cl_all lay_C y_L_physicalChild ws_L_physicalChild rm_L_physicalChild pt_L_physicalChild := by
  refine ak_met (cs := cs_L_physicalChild) (reg := rg_L_physicalChild) (bl := bl_L_physicalChild) (by decide +kernel) rfl (cl_ok _) rfl ok_L_physicalChild ?_ vc_L_physicalChild
  intro a n b ci h
  match a, h with
  | 0, h =>
    cases h
    exact ak_ccV (ct_S_isOneUnder l) rfl 272 197 198 22 199 (by decide +kernel) ⟨rfl, rfl⟩ (by decide +kernel) (by decide +kernel)
  | k + 1, h => cases h
def pt_L_child : ak_P := fun vs s Q => match vs with
  | [.ref 0, .int g, .int d, .int x] => ∃ a, AI a ∧ RC s a ∧ Q (some (.int (f_child a g d x))) s
  | _ => False
def cs_L_child : Nat → ak_P := fun a => match a with
  | 0 => pt_S_has
  | 1 => pt_L_physicalChild
  | _ => pt_S_logicalChild
theorem vc_L_child : ak_VC lay_C cs_L_child bl_L_child 4 pt_L_child := by
  intro vs s Q h
  unfold pt_L_child at h
  split at h
  · rename_i g d x
    obtain ⟨a, hA, hR, h⟩ := h
    have hn := hA.1
    refine ⟨Nat.le_of_ble_eq_true rfl, fun J hJ => hJ 6 _ _ _ _ ?_⟩
    simp only [Nat.reduceAdd, Nat.reduceLeDiff, Nat.zero_le, true_or, or_true, run_s, e_nop, e_iconst, e_bipush, e_sipush, e_lconst, e_iload, e_iload_n, e_lload, e_lload_n, e_aload, e_aload_n, e_istore, e_istore_n, e_iinc, e_iadd, e_isub, e_imul, e_lcmp, e_dupI, e_dupR, e_dup2, e_getfield, e_putfield, e_iaload, e_baload, e_laload, e_iastore, e_bastore, e_lastore, e_if, e_icmp, e_goto, e_tsw, e_ireturn0, e_ireturn1, e_return, e_call0, e_call1, e_call2, e_call3, lI_e, lL_e, lR_e, ak_nth, ak_set, ak_ok1, ak_jp, ak_b1, ak_b2, ak_sw, ak_la, ak_pad, true_and, and_true, List.map_cons, List.map_nil, List.sum_cons, List.sum_nil, Value.category, Option.toList_some, Option.toList_none, List.cons_append, List.nil_append, gC_0_0, gC_0_1, gC_0_2, gC_0_3, rC_0, gC_1_0, pC_1_0, gC_1_1, gC_1_2, gC_1_3, rC_1, gC_2_0, pC_2_0, gC_2_1, gC_2_2, gC_2_3, gC_2_4, gC_2_5, gC_2_6, gC_2_7, gC_2_8, rC_2, gC_3_0, pC_3_0, gC_3_1, gC_3_2, rC_3, gC_4_0, gC_4_1, gC_4_2, gC_4_3, gC_4_4, pC_4_4, rC_4, kC_5, kC_6, kC_7, kC_8, kC_9, kC_10, kC_11, kC_12, kC_13, kC_14, kC_15, kC_16, kC_17, kC_18, kC_19, fd_L_child_0, fd_L_child_15, fd_L_child_17, fd_L_child_28, fd_L_child_45, fd_L_child_46, bk_L_child_0, bk_L_child_15, bk_L_child_17, bk_L_child_28, bk_L_child_45, bk_L_child_46, cs_L_child, pt_S_has, pt_L_physicalChild, pt_S_logicalChild]
    simp only [bt0, Classical.not_not, i10, false_implies, not_false_eq_true, true_implies, not_true_eq_false, true_and, and_true, false_and, and_false, imp_self]
    rw [hR.1.2.1]
    unfold f_child at h
    refine ⟨fun q => ?_, fun q => ⟨fun q2 => ?_, fun q2 => ?_⟩⟩
    · rw [if_neg (fun z => q z.1)] at h
      exact h
    · obtain ⟨g', hg1, hg2, rfl⟩ := iS_of hA q
      obtain ⟨i, hi1, rfl⟩ := nI_of (Int32.not_lt.mpr q2)
      rw [q_cl (by omega)] at h
      refine ⟨fun q3 => ⟨fun q4 => ?_, fun q4 => ?_⟩, fun q3 => ?_⟩
      · rw [if_neg (fun z => z.2.elim q3 q4)] at h
        exact h
      · rw [if_pos ⟨q, Or.inr q4⟩, if_neg q3] at h
        obtain ⟨bk, hbk, hs15⟩ := BK_p hR.2.2.2.2.2.2
        have hP : ∀ p, p < a.1 1 → decide (s.1 12 (s.1 15 p).toNatClampNeg = nI g') = a_chB a g' 1 (bk p) := by
          intro p hp
          have hb := hbk.1 p hp
          rw [hs15 p hp, q_cl (by omega), (hR.2.2.1 (bk p) (by omega)).2.2.2.2]
          have hr := (hA.2.2.1 (bk p) (by omega)).2.2.2
          simp only [a_chB, decide_eq_decide]
          rw [nI_eq (by omega) (by omega), if_neg (by omega)]
          refine ⟨fun z => ⟨(hA.2.2.2.2.1 (bk p) (by omega) (by omega)).2.2, z⟩, fun z => z.2⟩
        have hc : ∀ p, p ≤ a.1 1 → c0 (fun j => decide (s.1 12 (s.1 15 j).toNatClampNeg = nI g')) p = c0 (fun q => a_chB a g' 1 (bk q)) p := fun p hp => c0_congr (fun j hj => hP j (by omega))
        refine ⟨a.1 1, i, by omega, rfl, hi1, rfl, fun j hj => ⟨bk j, by have := hbk.1 j hj; omega, hs15 j hj⟩, fun j hj hy hcj => ?_, fun hcn => ?_⟩
        · have hb := hbk.1 j hj
          have hch : a_chB a g' 1 (bk j) = true := by rw [← hP j hj]; simp [hy]
          rw [hc j (by omega)] at hcj
          rw [ith_at (sto_lt a) (by omega) hi1 hb.1 hb.2 hch (by rw [rk_bk hbk _ hj]; exact hcj)] at h
          rw [hs15 j hj]
          exact h
        · rw [hc _ (Nat.le_refl _)] at hcn
          rw [ith_no (sto_lt a) (by omega) hi1 (by rw [cn_bk hbk]; exact hcn)] at h
          exact h
      · rw [if_pos ⟨q, Or.inl q3⟩, if_pos q3] at h
        exact ⟨a, g', i, hA, hR, rfl, rfl, hg1, hg2, hi1, h⟩
    · have hx : x < 0 := Int32.not_le.mp q2
      by_cases z : d = 0 ∨ d = 1
      · rw [if_pos ⟨q, z⟩] at h
        split at h
        · rw [ith_neg (by omega) hx] at h; exact h
        · rw [ith_neg (by omega) hx] at h; exact h
      · rw [if_neg (fun y => z y.2)] at h
        exact h
  · exact h.elim
set_option maxRecDepth 20000 in
theorem ct_L_child (l : Launch) : ak_Ctr l cl_all lay_C y_L_child ws_L_child rm_L_child pt_L_child := by
  refine ak_met (cs := cs_L_child) (reg := rg_L_child) (bl := bl_L_child) (by decide +kernel) rfl (cl_ok _) rfl ok_L_child ?_ vc_L_child
  intro a n b ci h
  match a, h with
  | 0, h =>
    cases h
    exact ak_ccV (ct_S_has l) rfl 218 189 190 22 191 (by decide +kernel) ⟨rfl, rfl⟩ (by decide +kernel) (by decide +kernel)
  | 1, h =>
    cases h
    exact ak_ccV (ct_L_physicalChild l) rfl 269 270 6 20 271 (by decide +kernel) ⟨rfl, rfl⟩ (by decide +kernel) (by decide +kernel)
  | 2, h =>
    cases h
    exact ak_ccV (ct_S_logicalChild l) rfl 273 274 275 22 276 (by decide +kernel) ⟨rfl, rfl⟩ (by decide +kernel) (by decide +kernel)
  | k + 3, h => cases h
end
section
/-! deleting, on the mathematical state, and in the class -/
def a_tk (a : ab_T) (x j : Nat) : Prop := (a.2.1 5 j = 1 ∧ a.2.1 4 j = x) ∨ (a.2.1 6 j = x ∧ a.2.1 2 (a.2.1 3 j) = 2)
def a_rch (a : ab_T) (x e : Nat) : Prop := ∀ S : Nat → Prop, S x → (∀ y j, S y → 1 ≤ y → y ≤ a.1 1 → 1 ≤ j → j ≤ a.1 1 → a_tk a y j → S j) → S e
def a_G (a : ab_T) (x e : Nat) : Prop := 1 ≤ e ∧ e ≤ a.1 1 ∧ a_rch a x e
noncomputable def a_gB (a : ab_T) (x e : Nat) : Bool := @decide (a_G a x e) (Classical.propDecidable _)
theorem a_gB_t {a : ab_T} {x e : Nat} : a_gB a x e = true ↔ a_G a x e := by simp [a_gB]
/-- what is left of the rows when those in T are taken -/
def a_rw (a : ab_T) (T : Nat → Bool) : ab_T := (a.1, fun f => if f = 5 then (fun i => if T i = true then 2 else a.2.1 5 i) else if f = 6 then (fun i => if T i = true then 0 else a.2.1 6 i) else a.2.1 f, a.2.2)
def a_chg (a : ab_T) (T : Nat → Bool) (i : Nat) : Bool := decide (cn (fun e => T e && decide (a.2.1 6 e = i)) (a.1 1) ≠ 0)
def a_T (a : ab_T) (T : Nat → Bool) : ab_T := ((a_rw a T).1, (a_rw a T).2.1, a.2.2.1, fun q => if a_chg a T (q / 3) = true then nI (a_tr (a_rw a T) (q / 3) (q % 3)) else a.2.2.2 q)
def a_del (a : ab_T) (T : Nat → Bool) : ab_T := (a.1, fun f => if f = 5 then (fun i => if 1 ≤ i ∧ i ≤ a.1 1 ∧ (a_rw a T).2.1 5 i = 2 ∧ ac (a_rw a T) i = 0 then 0 else (a_rw a T).2.1 5 i) else (a_rw a T).2.1 f, a.2.2.1, fun q => if T (q / 3) = true ∨ a_chg a T (q / 3) = true then nI (a_tr (a_rw a T) (q / 3) (q % 3)) else a.2.2.2 q)
def a_bar (a : ab_T) (T : Nat → Bool) : Prop := ∃ j, 1 ≤ j ∧ j ≤ a.1 1 ∧ T j = false ∧ a.2.1 6 j ≠ 0 ∧ T (a.2.1 6 j) = true ∧ a.2.1 2 (a.2.1 3 j) = 0
noncomputable def f_delete (a : ab_T) (x : Int32) : Int32 := ci (¬ iS a x) (-2) (ci (a.2.1 5 x.toNatClampNeg ≠ 1) (-5) (ci (a_bar a (a_gB a x.toNatClampNeg)) (-5) (nI (cn (a_gB a x.toNatClampNeg) (a.1 1)))))
noncomputable def g_delete (a : ab_T) (x : Int32) : ab_T := ci (iS a x ∧ a.2.1 5 x.toNatClampNeg = 1 ∧ ¬ a_bar a (a_gB a x.toNatClampNeg)) (a_del a (a_gB a x.toNatClampNeg)) a
theorem rw_5 {a : ab_T} {T : Nat → Bool} {i : Nat} : (a_rw a T).2.1 5 i = if T i = true then 2 else a.2.1 5 i := by simp [a_rw]
theorem rw_6 {a : ab_T} {T : Nat → Bool} {i : Nat} : (a_rw a T).2.1 6 i = if T i = true then 0 else a.2.1 6 i := by simp [a_rw]
theorem rw_o {a : ab_T} {T : Nat → Bool} {f i : Nat} (h5 : f ≠ 5) (h6 : f ≠ 6) : (a_rw a T).2.1 f i = a.2.1 f i := by simp [a_rw, h5, h6]
theorem aT_p {a : ab_T} {T : Nat → Bool} {i p : Nat} (hp : p < 3) : (a_T a T).2.2.2 (3 * i + p) = if a_chg a T i = true then nI (a_tr (a_rw a T) i p) else a.2.2.2 (3 * i + p) := by
  show (if a_chg a T ((3 * i + p) / 3) = true then nI (a_tr (a_rw a T) ((3 * i + p) / 3) ((3 * i + p) % 3)) else a.2.2.2 (3 * i + p)) = _
  rw [show (3 * i + p) / 3 = i by omega, show (3 * i + p) % 3 = p by omega]
theorem ad_p {a : ab_T} {T : Nat → Bool} {i p : Nat} (hp : p < 3) : (a_del a T).2.2.2 (3 * i + p) = if T i = true ∨ a_chg a T i = true then nI (a_tr (a_rw a T) i p) else a.2.2.2 (3 * i + p) := by
  show (if T ((3 * i + p) / 3) = true ∨ a_chg a T ((3 * i + p) / 3) = true then nI (a_tr (a_rw a T) ((3 * i + p) / 3) ((3 * i + p) % 3)) else a.2.2.2 (3 * i + p)) = _
  rw [show (3 * i + p) / 3 = i by omega, show (3 * i + p) % 3 = p by omega]
theorem aT_0 (a : ab_T) : a_T a (fun _ => false) = a := by
  have h1 : (a_rw a (fun _ => false)).2.1 = a.2.1 := by
    funext f i
    by_cases e5 : f = 5
    · subst e5; rw [rw_5]; rfl
    · by_cases e6 : f = 6
      · subst e6; rw [rw_6]; rfl
      · rw [rw_o e5 e6]
  have h2 : ∀ i, a_chg a (fun _ => false) i = false := fun i => by
    simp only [a_chg, Bool.false_and]
    rw [cn_0 (fun _ _ _ => rfl)]
    simp
  apply Prod.ext
  · rfl
  · apply Prod.ext
    · exact h1
    · apply Prod.ext
      · rfl
      · funext q
        show (if a_chg a (fun _ => false) (q / 3) = true then _ else a.2.2.2 q) = a.2.2.2 q
        rw [h2, if_neg (by decide)]
theorem RCx_weak {s : ak_S} {a : ab_T} {E F : Nat → Prop} (h : RCx s a E) (hEF : ∀ i, E i → F i) : RCx s a F := by
  obtain ⟨h1, hk, hs, hc, hp, hx, hb⟩ := h
  exact ⟨h1, hk, hs, hc, fun i p a1 a2 a3 a4 a5 => hp i p a1 a2 a3 a4 (fun z => a5 (hEF i z)), hx, hb⟩
/-- one more is taken -/
theorem RC_take {s : ak_S} {a : ab_T} (hA : AI a) {T : Nat → Bool} {e : Nat} (h1 : 1 ≤ e) (h2 : e ≤ a.1 1) (hR : RCx s (a_T a T) (fun i => T i = true)) : RCx (c_take s e) (a_T a (fun j => T j || decide (j = e))) (fun i => (T i || decide (i = e)) = true) := by
  have hn := hA.1
  obtain ⟨⟨q1, q2, q3⟩, hk, hs, hc, hp, hx, hb⟩ := hR
  have hT' : ∀ i, i ≠ e → (T i || decide (i = e)) = T i := fun i hi => by simp [hi]
  have hTe : (T e || decide (e = e)) = true := by simp
  have n5 : ∀ i, (a_rw a (fun j => T j || decide (j = e))).2.1 5 i = if i = e then 2 else (a_rw a T).2.1 5 i := fun i => by
    rw [rw_5, rw_5]
    by_cases z : i = e
    · subst z; rw [if_pos hTe, if_pos rfl]
    · rw [hT' i z, if_neg z]
  have n6 : ∀ i, (a_rw a (fun j => T j || decide (j = e))).2.1 6 i = if i = e then 0 else (a_rw a T).2.1 6 i := fun i => by
    rw [rw_6, rw_6]
    by_cases z : i = e
    · subst z; rw [if_pos hTe, if_pos rfl]
    · rw [hT' i z, if_neg z]
  have no : ∀ f i, f ≠ 5 → f ≠ 6 → (a_rw a (fun j => T j || decide (j = e))).2.1 f i = (a_rw a T).2.1 f i := fun f i z1 z2 => by rw [rw_o z1 z2, rw_o z1 z2]
  have hse := (hs e (by omega)).2.2.2.2
  have hse : s.1 12 e = nI ((a_rw a T).2.1 6 e) := hse
  have hrb : (a_rw a T).2.1 6 e ≤ a.1 1 := by
    rw [rw_6]
    have := (hA.2.2.1 e (by omega)).2.2.2
    split <;> omega
  -- the counts
  have hac : ∀ i, 1 ≤ i → ac (a_rw a (fun j => T j || decide (j = e))) i = if i = (a_rw a T).2.1 6 e then ac (a_rw a T) i - 1 else ac (a_rw a T) i := by
    intro i hi
    unfold ac
    show cn (fun j => decide ((a_rw a (fun j => T j || decide (j = e))).2.1 6 j = i)) (a.1 1) = if i = (a_rw a T).2.1 6 e then cn (fun j => decide ((a_rw a T).2.1 6 j = i)) (a.1 1) - 1 else cn (fun j => decide ((a_rw a T).2.1 6 j = i)) (a.1 1)
    by_cases z : i = (a_rw a T).2.1 6 e
    · rw [if_pos z]
      have := cn_add (p := fun j => decide ((a_rw a (fun j => T j || decide (j = e))).2.1 6 j = i)) (q := fun j => decide ((a_rw a T).2.1 6 j = i)) (e := e) h1 h2 (by
        rw [n6, if_pos rfl]; simp; omega) (by rw [z]; simp) (fun j _ _ hj => by rw [n6, if_neg hj])
      omega
    · rw [if_neg z]
      refine cn_congr (fun j _ _ => ?_)
      rw [n6]
      by_cases w : j = e
      · subst w
        rw [if_pos rfl]
        have w1 : ¬ (0 : Nat) = i := by omega
        have w2 : ¬ (a_rw a T).2.1 6 j = i := fun y => z y.symm
        simp [w1, w2]
      · rw [if_neg w]
  have hacp : ∀ i, i = (a_rw a T).2.1 6 e → 1 ≤ ac (a_rw a T) i := by
    intro i z
    have : ac (a_rw a T) i ≠ 0 := cn_ex.mpr ⟨e, h1, h2, by rw [decide_eq_true_eq]; exact z.symm⟩
    omega
  -- who has changed
  have hch : ∀ i, 1 ≤ i → a_chg a (fun j => T j || decide (j = e)) i = (a_chg a T i || decide (i = (a_rw a T).2.1 6 e)) := by
    intro i hi
    rw [Bool.eq_iff_iff]
    simp only [a_chg, Bool.or_eq_true, decide_eq_true_eq]
    rw [cn_ex, cn_ex]
    constructor
    · rintro ⟨j, b1, b2, b3⟩
      simp only [Bool.and_eq_true, Bool.or_eq_true, decide_eq_true_eq] at b3
      rcases b3 with ⟨b3 | b3, b4⟩
      · exact Or.inl ⟨j, b1, b2, by simp [b3, b4]⟩
      · subst b3
        by_cases z : T j = true
        · exact Or.inl ⟨j, b1, b2, by simp [z, b4]⟩
        · exact Or.inr (by rw [rw_6, if_neg z, b4])
    · rintro (⟨j, b1, b2, b3⟩ | b)
      · simp only [Bool.and_eq_true, decide_eq_true_eq] at b3
        exact ⟨j, b1, b2, by simp [b3.1, b3.2]⟩
      · refine ⟨e, h1, h2, ?_⟩
        rw [rw_6] at b
        split at b
        · omega
        · simp [b]
  -- what is true of the others
  have htr : ∀ i p, 1 ≤ i → i ≠ e → i ≠ (a_rw a T).2.1 6 e → a_tr (a_rw a (fun j => T j || decide (j = e))) i p = a_tr (a_rw a T) i p := by
    intro i p hi hie hio
    unfold a_tr
    rw [n5, n6, if_neg hie, if_neg hie, no 4 i (by decide) (by decide), hac i hi, if_neg hio]
  have hcom : (ak_p1 (ak_p1 s 11 e 2) 9 e 0).1 12 e = nI ((a_rw a T).2.1 6 e) := by rw [p1_o (by decide), p1_o (by decide), hse]
  have s13 : ∀ i, 1 ≤ i → i ≤ 250 → s.1 13 i = nI (ac (a_rw a T) i) := fun i b1 b2 => hc i b1 b2
  -- the rows of the new state
  have row8 : ∀ i, (c_take s e).1 8 i = s.1 8 i := fun i => c_take_o (by decide) (by decide) (by decide) (by decide) (by decide)
  have row9 : ∀ i, (c_take s e).1 9 i = if i = e then 0 else s.1 9 i := fun i => by rw [c_take, c_part_o (by decide) (by decide) (by decide), p1_s, p1_o (by decide)]
  have row11 : ∀ i, (c_take s e).1 11 i = if i = e then 2 else s.1 11 i := fun i => by rw [c_take, c_part_o (by decide) (by decide) (by decide), p1_o (by decide), p1_s]
  have row13 : ∀ i, 1 ≤ i → i ≤ 250 → (c_take s e).1 13 i = nI (ac (a_rw a (fun j => T j || decide (j = e))) i) := by
    intro i b1 b2
    unfold c_take c_part
    rw [hcom, hac i b1]
    split
    · rename_i z
      rw [n_0, q_eq (by omega) (by omega)] at z
      rw [p1_o (by decide), p1_o (by decide), s13 i b1 b2, if_neg (by omega)]
    · rename_i z
      rw [q_cl (by omega), c_right_o (by decide), p1_s, p1_o (by decide), p1_o (by decide), p1_o (by decide)]
      by_cases w : i = (a_rw a T).2.1 6 e
      · rw [if_pos w, if_pos w, ← w, s13 i b1 b2]
        have := hacp i w
        obtain ⟨c', hc'⟩ : ∃ c', ac (a_rw a T) i = c' + 1 := ⟨ac (a_rw a T) i - 1, by omega⟩
        rw [hc', nI_pred]
        rfl
      · rw [if_neg w, if_neg w, p1_o (by decide), p1_o (by decide), s13 i b1 b2]
  have row14 : ∀ i p, p < 3 → 1 ≤ i → i ≤ 250 → i ≠ e → (c_take s e).1 14 (3 * i + p) = if i = (a_rw a T).2.1 6 e then nI (a_tr (a_rw a (fun j => T j || decide (j = e))) i p) else s.1 14 (3 * i + p) := by
    intro i p hp3 b1 b2 b3
    have hR12 : (c_take s e).1 12 i = s.1 12 i := by rw [c_take_12, if_neg b3]
    by_cases z : i = (a_rw a T).2.1 6 e
    · rw [if_pos z]
      have z0 : ¬ nI ((a_rw a T).2.1 6 e) = 0 := by
        rw [n_0, q_eq (by omega) (by omega)]
        omega
      have r9 := row9 i
      have r13 := row13 i b1 b2
      obtain ⟨U, hct⟩ : ∃ U, c_take s e = c_right U ((a_rw a T).2.1 6 e) := ⟨_, by unfold c_take c_part; rw [hcom, if_neg z0, q_cl (by omega)]⟩
      rw [hct] at r9 r13 hR12 ⊢
      rw [c_right_o (by decide)] at r9 r13 hR12
      rw [cr_p hp3, if_pos z, ← z]
      unfold c_tr a_tr
      rw [r9, r13, hR12, if_neg b3, n5, if_neg b3, n6, if_neg b3, no 4 i (by decide) (by decide)]
      obtain ⟨_, d2, _, _, d5⟩ := hs i b2
      rw [d2, d5]
      split
      · rfl
      · split <;> rfl
    · rw [if_neg z]
      unfold c_take c_part
      rw [hcom]
      split
      · rw [p1_o (by decide), p1_o (by decide)]
      · rw [q_cl (by omega), cr_p hp3, if_neg z, p1_o (by decide), p1_o (by decide), p1_o (by decide), p1_o (by decide)]
  refine ⟨⟨?_, ?_, ?_⟩, fun k hk' => ?_, fun i hi => ?_, fun i b1 b2 => ?_, fun i p b1 b2 b3 b4 b5 => ?_, fun j hj => ?_, ?_⟩
  · rw [c_take_o (by decide) (by decide) (by decide) (by decide) (by decide), q1]; rfl
  · rw [c_take_o (by decide) (by decide) (by decide) (by decide) (by decide), q2]; rfl
  · rw [c_take_o (by decide) (by decide) (by decide) (by decide) (by decide), q3]; rfl
  · rw [c_take_o (by decide) (by decide) (by decide) (by decide) (by decide), c_take_o (by decide) (by decide) (by decide) (by decide) (by decide), c_take_o (by decide) (by decide) (by decide) (by decide) (by decide)]
    exact hk k hk'
  · obtain ⟨d1, d2, d3, d4, d5⟩ := hs i hi
    refine ⟨?_, ?_, ?_, ?_, ?_⟩
    · rw [row8]; exact d1
    · show _ = nI (if (a_rw a (fun j => T j || decide (j = e))).2.1 5 i = 1 then (a_rw a (fun j => T j || decide (j = e))).2.1 4 i else 0)
      rw [row9, n5, no 4 i (by decide) (by decide)]
      by_cases z : i = e
      · rw [if_pos z, if_pos z, if_neg (by decide)]; rfl
      · rw [if_neg z, if_neg z]; exact d2
    · have : (c_take s e).2 = s.2 := by
        unfold c_take c_part
        split
        · rfl
        · rfl
      rw [this]; exact d3
    · show _ = nI ((a_rw a (fun j => T j || decide (j = e))).2.1 5 i)
      rw [row11, n5]
      by_cases z : i = e
      · rw [if_pos z, if_pos z]; rfl
      · rw [if_neg z, if_neg z]; exact d4
    · show _ = nI ((a_rw a (fun j => T j || decide (j = e))).2.1 6 i)
      rw [c_take_12, n6]
      by_cases z : i = e
      · rw [if_pos z, if_pos z]; rfl
      · rw [if_neg z, if_neg z]; exact d5
  · exact row13 i b1 b2
  · have b2' : i ≤ a.1 1 := b2
    have hie : i ≠ e := fun z => b5 (by subst z; exact hTe)
    have hTi : ¬ T i = true := fun z => b5 (by simp [z])
    have b3' : (a_rw a (fun j => T j || decide (j = e))).2.1 5 i ≠ 0 := b3
    rw [n5, if_neg hie] at b3'
    rw [row14 i p b4 b1 (by omega) hie, aT_p b4, hch i b1]
    have old := hp i p b1 b2 b3' b4 hTi
    rw [aT_p b4] at old
    by_cases z : i = (a_rw a T).2.1 6 e
    · rw [if_pos z, if_pos (by simp [← z])]
    · rw [if_neg z, old]
      have : (a_chg a T i || decide (i = (a_rw a T).2.1 6 e)) = a_chg a T i := by simp [z]
      rw [this, htr i p b1 hie z]
  · rw [c_take_o (by decide) (by decide) (by decide) (by decide) (by decide), c_take_o (by decide) (by decide) (by decide) (by decide) (by decide)]
    exact hx j hj
  · obtain ⟨bk, c1, c2, c3⟩ := hb
    refine ⟨bk, fun j hj => ?_, c2, c3⟩
    rw [c_take_o (by decide) (by decide) (by decide) (by decide) (by decide)]
    exact c1 j hj
end
section
/-! the class's delete -/
theorem RC_D {s : ak_S} {a : ab_T} {gs gg : Nat → Int32} {mm : Int32} (hR : RC s a) : RC (c_D s gs gg mm) a := by
  obtain ⟨⟨h1, h2, h3⟩, hk, hs, hc, hp, hx, hb⟩ := hR
  refine ⟨⟨?_, ?_, ?_⟩, fun k hk' => ?_, fun i hi => ?_, fun i b1 b2 => ?_, fun i p b1 b2 b3 b4 => ?_, fun j hj => ?_, ?_⟩
  · rw [c_D_o (by decide) (by decide) (by decide), h1]
  · rw [c_D_o (by decide) (by decide) (by decide), h2]
  · rw [c_D_o (by decide) (by decide) (by decide), h3]
  · simpa [c_D_o] using hk k hk'
  · obtain ⟨d1, d2, d3, d4, d5⟩ := hs i hi
    exact ⟨by rw [c_D_o (by decide) (by decide) (by decide)]; exact d1, by rw [c_D_o (by decide) (by decide) (by decide)]; exact d2, d3, by rw [c_D_o (by decide) (by decide) (by decide)]; exact d4, by rw [c_D_o (by decide) (by decide) (by decide)]; exact d5⟩
  · rw [c_D_o (by decide) (by decide) (by decide)]; exact hc i b1 b2
  · rw [c_D_o (by decide) (by decide) (by decide)]; exact hp i p b1 b2 b3 b4
  · simpa [c_D_o] using hx j hj
  · obtain ⟨bk, c1, c2, c3⟩ := hb
    exact ⟨bk, fun j hj => by rw [c_D_o (by decide) (by decide) (by decide)]; exact c1 j hj, c2, c3⟩
theorem RC_takes {s : ak_S} {a : ab_T} (hA : AI a) (hR : RC s a) : ∀ (m : Nat), (∀ p, p < m → ∃ e, 1 ≤ e ∧ e ≤ a.1 1 ∧ s.1 19 p = nI e) → ∃ T : Nat → Bool, (∀ j, T j = true ↔ ∃ p, p < m ∧ (s.1 19 p).toNatClampNeg = j) ∧ RCx (c_takes s m) (a_T a T) (fun i => T i = true)
  | 0, _ => ⟨fun _ => false, fun j => ⟨fun h => (by cases h), fun ⟨p, h, _⟩ => (by omega)⟩, by rw [aT_0]; exact RC_to hR _⟩
  | m + 1, hg => by
    obtain ⟨T, h1, h2⟩ := RC_takes hA hR m (fun p hp => hg p (by omega))
    obtain ⟨e, e1, e2, e3⟩ := hg m (by omega)
    have hn := hA.1
    refine ⟨fun j => T j || decide (j = e), fun j => ?_, ?_⟩
    · simp only [Bool.or_eq_true, decide_eq_true_eq]
      rw [h1]
      constructor
      · rintro (⟨p, b1, b2⟩ | b)
        · exact ⟨p, by omega, b2⟩
        · exact ⟨m, by omega, by rw [e3, q_cl (by omega), b]⟩
      · rintro ⟨p, b1, b2⟩
        by_cases z : p = m
        · subst z
          rw [e3, q_cl (by omega)] at b2
          exact Or.inr b2.symm
        · exact Or.inl ⟨p, by omega, b2⟩
    · rw [c_takes, e3, q_cl (by omega)]
      exact RC_take hA e1 e2 h2
theorem c_rights_tr {s : ak_S} {m i p : Nat} : c_tr (c_rights s m) i p = c_tr s i p := by
  unfold c_tr
  rw [c_rights_o (by decide), c_rights_o (by decide), c_rights_o (by decide)]
theorem c_rights_p {s : ak_S} {i p : Nat} (hp : p < 3) : ∀ {m : Nat}, ((∃ q, q < m ∧ (s.1 19 q).toNatClampNeg = i) → (c_rights s m).1 14 (3 * i + p) = c_tr s i p) ∧ ((¬ ∃ q, q < m ∧ (s.1 19 q).toNatClampNeg = i) → (c_rights s m).1 14 (3 * i + p) = s.1 14 (3 * i + p))
  | 0 => ⟨fun ⟨q, h, _⟩ => by omega, fun _ => rfl⟩
  | m + 1 => by
    obtain ⟨h1, h2⟩ := c_rights_p (s := s) (i := i) hp (m := m)
    rw [c_rights, cr_p hp]
    constructor
    · rintro ⟨q, b1, b2⟩
      split
      · rename_i z
        rw [c_rights_tr, z]
      · rename_i z
        refine h1 ⟨q, ?_, b2⟩
        by_cases w : q = m
        · subst w; exact absurd b2.symm z
        · omega
    · intro h
      rw [if_neg (fun z => h ⟨m, by omega, z.symm⟩)]
      exact h2 (fun ⟨q, b1, b2⟩ => h ⟨q, by omega, b2⟩)
theorem RC_del {s : ak_S} {a : ab_T} (hA : AI a) {T : Nat → Bool} {m : Nat} (hT : ∀ j, T j = true ↔ ∃ p, p < m ∧ (s.1 19 p).toNatClampNeg = j) (hR : RCx s (a_T a T) (fun i => T i = true)) : RC (c_drop (c_rights s m) (a.1 1)) (a_del a T) := by
  have hn := hA.1
  have htrx := fun i p b1 b2 => RCx_tr (i := i) (p := p) hR b1 b2
  obtain ⟨⟨q1, q2, q3⟩, hk, hs, hc, hp, hx, hb⟩ := hR
  have d5 : ∀ i, (a_del a T).2.1 5 i = if 1 ≤ i ∧ i ≤ a.1 1 ∧ (a_rw a T).2.1 5 i = 2 ∧ ac (a_rw a T) i = 0 then 0 else (a_rw a T).2.1 5 i := fun i => rfl
  have do_ : ∀ f i, f ≠ 5 → (a_del a T).2.1 f i = (a_rw a T).2.1 f i := fun f i h => by simp [a_del, h]
  have b5 : ∀ i, i ≤ 250 → (a_rw a T).2.1 5 i ≤ 2 := fun i hi => by
    rw [rw_5]
    have := (hA.2.2.1 i hi).2.2.1
    split <;> omega
  have hac : ∀ i, ac (a_del a T) i = ac (a_rw a T) i := fun i => by
    unfold ac
    show cn (fun j => decide ((a_del a T).2.1 6 j = i)) (a.1 1) = cn (fun j => decide ((a_rw a T).2.1 6 j = i)) (a.1 1)
    exact cn_congr (fun j _ _ => by rw [do_ 6 j (by decide)])
  have one : ∀ i, ((a_del a T).2.1 5 i = 1) = ((a_rw a T).2.1 5 i = 1) := fun i => by
    rw [d5]
    split
    · rename_i z
      rw [z.2.2.1]
      decide
    · rfl
  refine ⟨⟨?_, ?_, ?_⟩, fun k hk' => ?_, fun i hi => ?_, fun i b1 b2 => ?_, fun i p b1 b2 b3 b4 => ?_, fun j hj => ?_, ?_⟩
  · rw [c_drop_o (by decide), c_rights_o (by decide)]; exact q1
  · rw [c_drop_o (by decide), c_rights_o (by decide)]; exact q2
  · rw [c_drop_o (by decide), c_rights_o (by decide)]; exact q3
  · rw [c_drop_o (by decide), c_drop_o (by decide), c_drop_o (by decide), c_rights_o (by decide), c_rights_o (by decide), c_rights_o (by decide)]
    obtain ⟨z1, z2, z3⟩ := hk k hk'
    exact ⟨z1, z2, z3⟩
  · obtain ⟨z1, z2, z3, z4, z5⟩ := hs i hi
    refine ⟨?_, ?_, ?_, ?_, ?_⟩
    · rw [c_drop_o (by decide), c_rights_o (by decide)]; exact z1
    · rw [c_drop_o (by decide), c_rights_o (by decide), do_ 4 i (by decide)]
      simp only [one]
      exact z2
    · have : (c_drop (c_rights s m) (a.1 1)).2 = s.2 := by
        show (c_rights s m).2 = s.2
        clear hT
        induction m with
        | zero => rfl
        | succ m ih => exact ih
      rw [this]; exact z3
    · rw [d5]
      show (if 1 ≤ i ∧ i ≤ a.1 1 ∧ (c_rights s m).1 11 i = 2 ∧ (c_rights s m).1 13 i = 0 then 0 else (c_rights s m).1 11 i) = _
      rw [c_rights_o (by decide), c_rights_o (by decide)]
      have z4' : s.1 11 i = nI ((a_rw a T).2.1 5 i) := z4
      have hb5 := b5 i hi
      by_cases w : 1 ≤ i ∧ i ≤ a.1 1
      · have w13 : s.1 13 i = nI (ac (a_rw a T) i) := hc i w.1 (by omega)
        have wle : ac (a_rw a T) i ≤ a.1 1 := cn_le _ _
        rw [z4', w13]
        have e2 : nI ((a_rw a T).2.1 5 i) = 2 ↔ (a_rw a T).2.1 5 i = 2 := by rw [n_2]; exact nI_eq (by omega) (by omega)
        have e0 : nI (ac (a_rw a T) i) = 0 ↔ ac (a_rw a T) i = 0 := by rw [n_0]; exact nI_eq (by omega) (by omega)
        by_cases y : (a_rw a T).2.1 5 i = 2 ∧ ac (a_rw a T) i = 0
        · rw [if_pos ⟨w.1, w.2, e2.mpr y.1, e0.mpr y.2⟩, if_pos ⟨w.1, w.2, y.1, y.2⟩]; rfl
        · rw [if_neg (fun v => y ⟨e2.mp v.2.2.1, e0.mp v.2.2.2⟩), if_neg (fun v => y ⟨v.2.2.1, v.2.2.2⟩)]
      · rw [if_neg (fun v => w ⟨v.1, v.2.1⟩), if_neg (fun v => w ⟨v.1, v.2.1⟩), z4']
    · rw [c_drop_o (by decide), c_rights_o (by decide), do_ 6 i (by decide)]; exact z5
  · rw [c_drop_o (by decide), c_rights_o (by decide), hac]; exact hc i b1 b2
  · have b2' : i ≤ a.1 1 := b2
    have b3' : (a_rw a T).2.1 5 i ≠ 0 := fun z => b3 (by rw [d5]; split <;> simp_all)
    rw [c_drop_o (by decide), ad_p b4]
    by_cases z : T i = true
    · rw [if_pos (Or.inl z), (c_rights_p b4).1 ((hT i).mp z), htrx i p b1 (by omega)]
      rfl
    · rw [(c_rights_p b4).2 (fun w => z ((hT i).mpr w)), hp i p b1 b2 b3' b4 z, aT_p b4]
      by_cases y : a_chg a T i = true
      · rw [if_pos y, if_pos (Or.inr y)]
      · rw [if_neg y, if_neg (fun w => w.elim z y)]
  · rw [c_drop_o (by decide), c_drop_o (by decide), c_rights_o (by decide), c_rights_o (by decide)]
    obtain ⟨z1, z2⟩ := hx j hj
    exact ⟨z1, z2⟩
  · obtain ⟨bk, c1, c2, c3⟩ := hb
    refine ⟨bk, fun j hj => ?_, c2, c3⟩
    rw [c_drop_o (by decide), c_rights_o (by decide)]
    exact c1 j hj
theorem tkC {s : ak_S} {a : ab_T} (hA : AI a) (hR : RC s a) {x j : Nat} (h1 : 1 ≤ x) (h2 : x ≤ 250) (h3 : j ≤ 250) : tk s x j ↔ a_tk a x j := by
  obtain ⟨b1, b2, _, _, b5⟩ := hR.2.2.1 j h3
  obtain ⟨c1, c2, c3, c4⟩ := hA.2.2.1 j h3
  have hn := hA.1
  have r := (hR.2.1 (a.2.1 3 j) (by omega)).2.2
  have rb := (hA.2.1 (a.2.1 3 j) (by omega)).2.2
  unfold tk a_tk
  have e12 : nI (a.2.1 6 j) = nI x ↔ a.2.1 6 j = x := nI_eq (by omega) (by omega)
  have e7 : nI (a.2.1 2 (a.2.1 3 j)) = 2 ↔ a.2.1 2 (a.2.1 3 j) = 2 := by rw [n_2]; exact nI_eq (by omega) (by omega)
  rw [b1, q_cl (by omega), b2, b5, r, e12, e7]
  by_cases z : a.2.1 5 j = 1
  · rw [if_pos z, nI_eq (by omega) (by omega)]
    simp [z]
  · rw [if_neg z, nI_eq (by omega) (by omega)]
    simp only [z, false_and, false_or]
    constructor
    · rintro (w | w)
      · omega
      · exact w
    · exact Or.inr
theorem rchC {s : ak_S} {a : ab_T} (hA : AI a) (hR : RC s a) {x e : Nat} (h1 : 1 ≤ x) (h2 : x ≤ a.1 1) : (1 ≤ e ∧ e ≤ a.1 1 ∧ rch s (a.1 1) x e) ↔ a_G a x e := by
  have hn := hA.1
  unfold a_G
  constructor
  · rintro ⟨e1, e2, h⟩
    refine ⟨e1, e2, fun S hS hc => ?_⟩
    exact (h (fun y => 1 ≤ y ∧ y ≤ a.1 1 ∧ S y) ⟨h1, h2, hS⟩ (fun y j hy j1 j2 ht => ⟨j1, j2, hc y j hy.2.2 hy.1 hy.2.1 j1 j2 ((tkC hA hR hy.1 (by omega) (by omega)).mp ht)⟩)).2.2
  · rintro ⟨e1, e2, h⟩
    refine ⟨e1, e2, fun S hS hc => ?_⟩
    exact h S hS (fun y j hy y1 y2 j1 j2 ht => hc y j hy j1 j2 ((tkC hA hR y1 (by omega) (by omega)).mpr ht))
def pt_L_delete : ak_P := fun vs s Q => match vs with
  | [.ref 0, .int x] => ∃ a, AI a ∧ RC s a ∧ ∀ s', RC s' (g_delete a x) → Q (some (.int (f_delete a x))) s'
  | _ => False
def cs_L_delete : Nat → ak_P := fun a => match a with
  | 0 => pt_S_has
  | 1 => pt_S_is
  | 2 => pt_D_gather
  | 3 => pt_D_isBarred
  | _ => pt_D_carryOut
theorem vc_L_delete : ak_VC lay_C cs_L_delete bl_L_delete 2 pt_L_delete := by
  intro vs s Q h
  unfold pt_L_delete at h
  split at h
  · rename_i x
    obtain ⟨a, hA, hR, h⟩ := h
    have hn := hA.1
    refine ⟨Nat.le_of_ble_eq_true rfl, fun J hJ => hJ 5 _ _ _ _ ?_⟩
    simp only [Nat.reduceAdd, Nat.reduceLeDiff, Nat.zero_le, true_or, or_true, run_s, e_nop, e_iconst, e_bipush, e_sipush, e_lconst, e_iload, e_iload_n, e_lload, e_lload_n, e_aload, e_aload_n, e_istore, e_istore_n, e_iinc, e_iadd, e_isub, e_imul, e_lcmp, e_dupI, e_dupR, e_dup2, e_getfield, e_putfield, e_iaload, e_baload, e_laload, e_iastore, e_bastore, e_lastore, e_if, e_icmp, e_goto, e_tsw, e_ireturn0, e_ireturn1, e_return, e_call0, e_call1, e_call2, e_call3, lI_e, lL_e, lR_e, ak_nth, ak_set, ak_ok1, ak_jp, ak_b1, ak_b2, ak_sw, ak_la, ak_pad, true_and, and_true, List.map_cons, List.map_nil, List.sum_cons, List.sum_nil, Value.category, Option.toList_some, Option.toList_none, List.cons_append, List.nil_append, gC_0_0, gC_0_1, gC_0_2, gC_0_3, rC_0, gC_1_0, pC_1_0, gC_1_1, gC_1_2, gC_1_3, rC_1, gC_2_0, pC_2_0, gC_2_1, gC_2_2, gC_2_3, gC_2_4, gC_2_5, gC_2_6, gC_2_7, gC_2_8, rC_2, gC_3_0, pC_3_0, gC_3_1, gC_3_2, rC_3, gC_4_0, gC_4_1, gC_4_2, gC_4_3, gC_4_4, pC_4_4, rC_4, kC_5, kC_6, kC_7, kC_8, kC_9, kC_10, kC_11, kC_12, kC_13, kC_14, kC_15, kC_16, kC_17, kC_18, kC_19, fd_L_delete_0, fd_L_delete_14, fd_L_delete_29, fd_L_delete_50, bk_L_delete_0, bk_L_delete_14, bk_L_delete_29, bk_L_delete_50, cs_L_delete, pt_S_has, pt_S_is, pt_D_gather, pt_D_isBarred, pt_D_carryOut]
    simp only [bt0, Classical.not_not, i10, false_implies, not_false_eq_true, true_implies, not_true_eq_false, true_and, and_true, false_and, and_false, imp_self]
    rw [hR.1.2.1]
    refine ⟨fun q => ⟨a.1 1, by omega, rfl, fun q2 => ?_, fun q2 => ?_⟩, fun q => ?_⟩
    · obtain ⟨x', hx1, hx2, rfl⟩ := iS_of hA q
      have hst : a.2.1 5 x' = 1 := by
        have := q2.2
        have hb := (hA.2.2.1 x' (by omega)).2.2.1
        rw [q_cl (by omega), (hR.2.2.1 x' (by omega)).2.2.2.1, n_1, q_eq (by omega) (by omega)] at this
        exact this
      refine ⟨a.1 1, x', by omega, rfl, fun j j1 j2 => ⟨a.2.1 3 j, by have := (hA.2.2.1 j (by omega)).1; omega, (hR.2.2.1 j (by omega)).1⟩, rfl, hx1, hx2, fun gs gg m hDI hgs => ?_⟩
      have hRD : RC (c_D s gs gg (nI m)) a := RC_D hR
      have hmn := cn_le (fun j => decide (gs j = 1)) (a.1 1)
      have hme := hDI.1
      -- what goes
      have hG : ∀ j, j ≤ 250 → (gs j = 1 ↔ a_gB a x' j = true) := fun j hj => by rw [hgs j hj, a_gB_t]; exact rchC hA hR hx1 hx2
      have hG0 : ∀ j, j ≤ 250 → (gs j = 0 ↔ a_gB a x' j = false) := fun j hj => by
        rcases hDI.2.1 j hj with z | z
        · refine ⟨fun _ => ?_, fun _ => z⟩
          cases w : a_gB a x' j with
          | false => rfl
          | true =>
            have := (hG j hj).mpr w
            rw [z] at this
            exact absurd this (by decide)
        · refine ⟨fun w => ?_, fun w => ?_⟩
          · rw [z] at w; exact absurd w (by decide)
          · rw [(hG j hj).mp z] at w; cases w
      have hcount : m = cn (a_gB a x') (a.1 1) := by
        rw [hme]
        refine cn_congr (fun j j1 j2 => ?_)
        rw [Bool.eq_iff_iff, decide_eq_true_eq]
        exact hG j (by omega)
      have hbar : (∃ j, 1 ≤ j ∧ j ≤ a.1 1 ∧ (c_D s gs gg (nI m)).1 18 j = 0 ∧ ¬ (c_D s gs gg (nI m)).1 18 ((c_D s gs gg (nI m)).1 12 j).toNatClampNeg = 0 ∧ (c_D s gs gg (nI m)).1 7 ((c_D s gs gg (nI m)).1 8 j).toNatClampNeg = 0) ↔ a_bar a (a_gB a x') := by
        unfold a_bar
        have each : ∀ j, 1 ≤ j → j ≤ a.1 1 → (((c_D s gs gg (nI m)).1 18 j = 0 ∧ ¬ (c_D s gs gg (nI m)).1 18 ((c_D s gs gg (nI m)).1 12 j).toNatClampNeg = 0 ∧ (c_D s gs gg (nI m)).1 7 ((c_D s gs gg (nI m)).1 8 j).toNatClampNeg = 0) ↔ (a_gB a x' j = false ∧ a.2.1 6 j ≠ 0 ∧ a_gB a x' (a.2.1 6 j) = true ∧ a.2.1 2 (a.2.1 3 j) = 0)) := by
          intro j j1 j2
          obtain ⟨b1, _, _, _, b5⟩ := hRD.2.2.1 j (by omega)
          obtain ⟨c1, _, _, c4⟩ := hA.2.2.1 j (by omega)
          have r := (hRD.2.1 (a.2.1 3 j) (by omega)).2.2
          have rb := (hA.2.1 (a.2.1 3 j) (by omega)).2.2
          have e7 : nI (a.2.1 2 (a.2.1 3 j)) = 0 ↔ a.2.1 2 (a.2.1 3 j) = 0 := by rw [n_0]; exact nI_eq (by omega) (by omega)
          rw [b5, b1, q_cl (by omega), q_cl (by omega), r, e7, c_D_18, c_D_18, hG0 j (by omega), hG0 (a.2.1 6 j) (by omega)]
          constructor
          · rintro ⟨z1, z2, z3⟩
            have z4 : a_gB a x' (a.2.1 6 j) = true := by
              cases w : a_gB a x' (a.2.1 6 j) with
              | false => exact absurd w z2
              | true => rfl
            exact ⟨z1, fun w => by rw [w] at z4; exact absurd (a_gB_t.mp z4).1 (by omega), z4, z3⟩
          · rintro ⟨z1, _, z2, z3⟩
            exact ⟨z1, fun w => (by rw [z2] at w; cases w), z3⟩
        constructor
        · rintro ⟨j, j1, j2, z⟩
          exact ⟨j, j1, j2, (each j j1 j2).mp z⟩
        · rintro ⟨j, j1, j2, z⟩
          exact ⟨j, j1, j2, (each j j1 j2).mpr z⟩
      refine ⟨a.1 1, by omega, hRD.1.2.1, fun j j1 j2 => ⟨a.2.1 3 j, by have := (hA.2.2.1 j (by omega)).1; omega, (hRD.2.2.1 j (by omega)).1⟩, fun j j1 j2 => ⟨a.2.1 6 j, by have := (hA.2.2.1 j (by omega)).2.2.2; omega, (hRD.2.2.1 j (by omega)).2.2.2.2⟩, fun hb => ?_, fun hb => ?_⟩
      · have hb' := hbar.mp hb
        have := h (c_D s gs gg (nI m)) (by
          rw [g_delete, q_cl (by omega), ci_f (fun z => z.2.2 hb')]
          exact hRD)
        rw [f_delete, q_cl (by omega), ci_f (fun z => z q), ci_f (fun z => z hst), ci_t hb'] at this
        exact this
      · have hb' : ¬ a_bar a (a_gB a x') := fun z => by
          obtain ⟨j, j1, j2, w⟩ := hbar.mpr z
          exact hb j j1 j2 w
        have hgo : ∀ p, p < m → ∃ e, 1 ≤ e ∧ e ≤ a.1 1 ∧ (c_D s gs gg (nI m)).1 19 p = nI e := fun p hp => by
          obtain ⟨e, z1, z2, z3, _⟩ := hDI.2.2.2.1 p hp
          exact ⟨e, z1, z2, by rw [c_D_19]; exact z3⟩
        refine ⟨a.1 1, m, by omega, by omega, hRD.1.2.1, c_D_4, fun p hp => ?_, fun j j1 => ⟨a.2.1 6 j, by have := (hA.2.2.1 j (by omega)).2.2.2; omega, (hRD.2.2.1 j (by omega)).2.2.2.2⟩, ?_⟩
        · obtain ⟨e, z1, z2, z3⟩ := hgo p hp
          exact ⟨e, by omega, z3⟩
        · rw [c_drop_o (by decide), c_rights_o (by decide), c_takes_o (by decide) (by decide) (by decide) (by decide) (by decide), c_D_4]
          obtain ⟨T, hT, hRT⟩ := RC_takes hA hRD m hgo
          have hTg : T = a_gB a x' := by
            funext j
            rw [Bool.eq_iff_iff, hT]
            constructor
            · rintro ⟨p, p1, p2⟩
              obtain ⟨e, z1, z2, z3, z4⟩ := hDI.2.2.2.1 p p1
              rw [c_D_19, z3, q_cl (by omega)] at p2
              subst p2
              exact (hG e (by omega)).mp z4
            · intro z
              have z2 := (a_gB_t.mp z).2.1
              obtain ⟨p, p1, p2⟩ := hDI.2.2.2.2 j (by omega) ((hG j (by omega)).mpr z)
              exact ⟨p, p1, by rw [c_D_19, p2, q_cl (by omega)]⟩
          have hT2 : ∀ j, T j = true ↔ ∃ p, p < m ∧ ((c_takes (c_D s gs gg (nI m)) m).1 19 p).toNatClampNeg = j := fun j => by
            rw [hT]
            constructor
            · rintro ⟨p, p1, p2⟩
              exact ⟨p, p1, by rw [c_takes_o (by decide) (by decide) (by decide) (by decide) (by decide)]; exact p2⟩
            · rintro ⟨p, p1, p2⟩
              rw [c_takes_o (by decide) (by decide) (by decide) (by decide) (by decide)] at p2
              exact ⟨p, p1, p2⟩
          have hfin := RC_del hA hT2 hRT
          rw [hTg] at hfin
          have := h _ (by
            rw [g_delete, q_cl (by omega), ci_t ⟨q, hst, hb'⟩]
            exact hfin)
          rw [f_delete, q_cl (by omega), ci_f (fun z => z q), ci_f (fun z => z hst), ci_f hb', ← hcount] at this
          exact this
    · obtain ⟨x', hx1, hx2, rfl⟩ := iS_of hA q
      have hst : a.2.1 5 x' ≠ 1 := fun z => q2 ⟨q, by rw [q_cl (by omega), (hR.2.2.1 x' (by omega)).2.2.2.1, z]; rfl⟩
      have := h s (by
        rw [g_delete, q_cl (by omega), ci_f (fun z => hst z.2.1)]
        exact hR)
      rw [f_delete, q_cl (by omega), ci_f (fun z => z q), ci_t hst] at this
      exact this
    · have := h s (by
        rw [g_delete, ci_f (fun z => q z.1)]
        exact hR)
      rw [f_delete, ci_t q] at this
      exact this
  · exact h.elim
set_option maxRecDepth 20000 in
theorem ct_L_delete (l : Launch) : ak_Ctr l cl_all lay_C y_L_delete ws_L_delete rm_L_delete pt_L_delete := by
  refine ak_met (cs := cs_L_delete) (reg := rg_L_delete) (bl := bl_L_delete) (by decide +kernel) rfl (cl_ok _) rfl ok_L_delete ?_ vc_L_delete
  intro a n b ci h
  match a, h with
  | 0, h =>
    cases h
    exact ak_ccV (ct_S_has l) rfl 218 189 190 22 191 (by decide +kernel) ⟨rfl, rfl⟩ (by decide +kernel) (by decide +kernel)
  | 1, h =>
    cases h
    exact ak_ccV (ct_S_is l) rfl 184 185 186 22 187 (by decide +kernel) ⟨rfl, rfl⟩ (by decide +kernel) (by decide +kernel)
  | 2, h =>
    cases h
    exact ak_ccV (ct_D_gather l) rfl 227 228 229 24 230 (by decide +kernel) ⟨rfl, rfl⟩ (by decide +kernel) (by decide +kernel)
  | 3, h =>
    cases h
    exact ak_ccV (ct_D_isBarred l) rfl 240 241 242 24 243 (by decide +kernel) ⟨rfl, rfl⟩ (by decide +kernel) (by decide +kernel)
  | 4, h =>
    cases h
    exact ak_ccV (ct_D_carryOut l) rfl 244 245 246 24 247 (by decide +kernel) ⟨rfl, rfl⟩ (by decide +kernel) (by decide +kernel)
  | k + 5, h => cases h
end
section
/-! the reference: its leaves -/
theorem pos1 {k : Int32} : (0 < k) = (1 ≤ k) := by
  have h0 : (0 : Int32).toInt = 0 := by decide
  have h1 : (1 : Int32).toInt = 1 := by decide
  rw [Int32.lt_iff_toInt_lt, Int32.le_iff_toInt_le, h0, h1]
  exact propext (by omega)
theorem npos1 {k : Int32} : (k ≤ 0) = ¬ (1 ≤ k) := by
  rw [← pos1]
  exact propext ⟨fun h => Int32.not_lt.mpr h, fun h => Int32.not_lt.mp h⟩
def pt_M_isKind : ak_P := fun vs t Q => match vs with
  | [.ref 0, .int k] => Q (some (.int (if 1 ≤ k ∧ k ≤ t.1 0 1 then 1 else 0))) t
  | _ => False
def cs_M_isKind : Nat → ak_P := fun _ _ _ _ => False
theorem vc_M_isKind : ak_VC lay_M cs_M_isKind bl_M_isKind 2 pt_M_isKind := by
  intro vs t Q h
  unfold pt_M_isKind at h
  split at h
  · rename_i k
    refine ⟨Nat.le_refl 2, fun J hJ => hJ 3 _ _ _ _ ?_⟩
    simp only [Nat.reduceAdd, Nat.reduceLeDiff, Nat.zero_le, true_or, or_true, run_s, e_nop, e_iconst, e_bipush, e_sipush, e_lconst, e_iload, e_iload_n, e_lload, e_lload_n, e_aload, e_aload_n, e_istore, e_istore_n, e_iinc, e_iadd, e_isub, e_imul, e_lcmp, e_dupI, e_dupR, e_dup2, e_getfield, e_putfield, e_iaload, e_baload, e_laload, e_iastore, e_bastore, e_lastore, e_if, e_icmp, e_goto, e_tsw, e_ireturn0, e_ireturn1, e_return, e_call0, e_call1, e_call2, e_call3, lI_e, lL_e, lR_e, ak_nth, ak_set, ak_ok1, ak_jp, ak_b1, ak_b2, ak_sw, ak_la, ak_pad, true_and, and_true, List.map_cons, List.map_nil, List.sum_cons, List.sum_nil, Value.category, Option.toList_some, Option.toList_none, List.cons_append, List.nil_append, gM_0_0, pM_0_0, gM_0_1, pM_0_1, gM_0_2, pM_0_2, gM_0_3, pM_0_3, gM_0_4, gM_0_5, gM_0_6, gM_0_7, gM_0_8, gM_0_9, gM_0_10, gM_0_11, gM_0_12, gM_0_13, gM_0_14, gM_0_15, gM_0_16, rM_0, kM_1, kM_2, kM_3, kM_4, kM_5, kM_6, kM_7, kM_8, kM_9, kM_10, kM_11, kM_12, kM_13, fd_M_isKind_0, fd_M_isKind_16, fd_M_isKind_17, bk_M_isKind_0, bk_M_isKind_16, bk_M_isKind_17]
    rw [npos1]
    refine ⟨fun h1 => ?_, fun h1 => ⟨fun h2 => ?_, fun h2 => ?_⟩⟩ <;> grind
  · exact h.elim
set_option maxRecDepth 20000 in
theorem ct_M_isKind (l : Launch) : ak_Ctr l cl_all lay_M y_M_isKind ws_M_isKind rm_M_isKind pt_M_isKind := by
  refine ak_met (cs := cs_M_isKind) (reg := rg_M_isKind) (bl := bl_M_isKind) (by decide +kernel) rfl (cl_ok _) rfl ok_M_isKind ?_ vc_M_isKind
  intro a n b ci h
  match a, h with
  | k + 0, h => cases h
def pt_M_isSegment : ak_P := fun vs t Q => match vs with
  | [.ref 0, .int k] => Q (some (.int (if 1 ≤ k ∧ k ≤ t.1 0 2 then 1 else 0))) t
  | _ => False
def cs_M_isSegment : Nat → ak_P := fun _ _ _ _ => False
theorem vc_M_isSegment : ak_VC lay_M cs_M_isSegment bl_M_isSegment 2 pt_M_isSegment := by
  intro vs t Q h
  unfold pt_M_isSegment at h
  split at h
  · rename_i k
    refine ⟨Nat.le_refl 2, fun J hJ => hJ 3 _ _ _ _ ?_⟩
    simp only [Nat.reduceAdd, Nat.reduceLeDiff, Nat.zero_le, true_or, or_true, run_s, e_nop, e_iconst, e_bipush, e_sipush, e_lconst, e_iload, e_iload_n, e_lload, e_lload_n, e_aload, e_aload_n, e_istore, e_istore_n, e_iinc, e_iadd, e_isub, e_imul, e_lcmp, e_dupI, e_dupR, e_dup2, e_getfield, e_putfield, e_iaload, e_baload, e_laload, e_iastore, e_bastore, e_lastore, e_if, e_icmp, e_goto, e_tsw, e_ireturn0, e_ireturn1, e_return, e_call0, e_call1, e_call2, e_call3, lI_e, lL_e, lR_e, ak_nth, ak_set, ak_ok1, ak_jp, ak_b1, ak_b2, ak_sw, ak_la, ak_pad, true_and, and_true, List.map_cons, List.map_nil, List.sum_cons, List.sum_nil, Value.category, Option.toList_some, Option.toList_none, List.cons_append, List.nil_append, gM_0_0, pM_0_0, gM_0_1, pM_0_1, gM_0_2, pM_0_2, gM_0_3, pM_0_3, gM_0_4, gM_0_5, gM_0_6, gM_0_7, gM_0_8, gM_0_9, gM_0_10, gM_0_11, gM_0_12, gM_0_13, gM_0_14, gM_0_15, gM_0_16, rM_0, kM_1, kM_2, kM_3, kM_4, kM_5, kM_6, kM_7, kM_8, kM_9, kM_10, kM_11, kM_12, kM_13, fd_M_isSegment_0, fd_M_isSegment_16, fd_M_isSegment_17, bk_M_isSegment_0, bk_M_isSegment_16, bk_M_isSegment_17]
    rw [npos1]
    refine ⟨fun h1 => ?_, fun h1 => ⟨fun h2 => ?_, fun h2 => ?_⟩⟩ <;> grind
  · exact h.elim
set_option maxRecDepth 20000 in
theorem ct_M_isSegment (l : Launch) : ak_Ctr l cl_all lay_M y_M_isSegment ws_M_isSegment rm_M_isSegment pt_M_isSegment := by
  refine ak_met (cs := cs_M_isSegment) (reg := rg_M_isSegment) (bl := bl_M_isSegment) (by decide +kernel) rfl (cl_ok _) rfl ok_M_isSegment ?_ vc_M_isSegment
  intro a n b ci h
  match a, h with
  | k + 0, h => cases h
def pt_M_isThere : ak_P := fun vs t Q => match vs with
  | [.ref 0, .int i] => ∃ n : Nat, n ≤ 250 ∧ t.1 0 2 = nI n ∧ Q (some (.int (if (1 ≤ i ∧ i ≤ nI n) ∧ t.1 6 i.toNatClampNeg = 1 then 1 else 0))) t
  | _ => False
def cs_M_isThere : Nat → ak_P := fun a => match a with
  | _ => pt_M_isSegment
theorem vc_M_isThere : ak_VC lay_M cs_M_isThere bl_M_isThere 2 pt_M_isThere := by
  intro vs t Q h
  unfold pt_M_isThere at h
  split at h
  · rename_i i
    obtain ⟨n, hn, hs, h⟩ := h
    refine ⟨Nat.le_refl 2, fun J hJ => hJ 4 _ _ _ _ ?_⟩
    simp only [Nat.reduceAdd, Nat.reduceLeDiff, Nat.zero_le, true_or, or_true, run_s, e_nop, e_iconst, e_bipush, e_sipush, e_lconst, e_iload, e_iload_n, e_lload, e_lload_n, e_aload, e_aload_n, e_istore, e_istore_n, e_iinc, e_iadd, e_isub, e_imul, e_lcmp, e_dupI, e_dupR, e_dup2, e_getfield, e_putfield, e_iaload, e_baload, e_laload, e_iastore, e_bastore, e_lastore, e_if, e_icmp, e_goto, e_tsw, e_ireturn0, e_ireturn1, e_return, e_call0, e_call1, e_call2, e_call3, lI_e, lL_e, lR_e, ak_nth, ak_set, ak_ok1, ak_jp, ak_b1, ak_b2, ak_sw, ak_la, ak_pad, true_and, and_true, List.map_cons, List.map_nil, List.sum_cons, List.sum_nil, Value.category, Option.toList_some, Option.toList_none, List.cons_append, List.nil_append, gM_0_0, pM_0_0, gM_0_1, pM_0_1, gM_0_2, pM_0_2, gM_0_3, pM_0_3, gM_0_4, gM_0_5, gM_0_6, gM_0_7, gM_0_8, gM_0_9, gM_0_10, gM_0_11, gM_0_12, gM_0_13, gM_0_14, gM_0_15, gM_0_16, rM_0, kM_1, kM_2, kM_3, kM_4, kM_5, kM_6, kM_7, kM_8, kM_9, kM_10, kM_11, kM_12, kM_13, fd_M_isThere_0, fd_M_isThere_22, fd_M_isThere_23, bk_M_isThere_0, bk_M_isThere_22, bk_M_isThere_23, cs_M_isThere, pt_M_isSegment, hs]
    rcases n_case i (n := n) (by omega) with ⟨j, h1, h2, rfl⟩ | hx
    · have hb := n_in h1 h2 (by omega)
      rw [if_pos hb]
      rw [q_cl (by omega)] at h ⊢
      simp only [hb, true_and] at h
      refine ⟨fun e => absurd e (by decide), fun _ => ⟨q_in (by omega) (by omega), fun e => ?_, fun e => ?_⟩⟩ <;> grind
    · rw [if_neg hx]
      refine ⟨fun _ => ?_, fun e => absurd rfl e⟩
      grind
  · exact h.elim
set_option maxRecDepth 20000 in
theorem ct_M_isThere (l : Launch) : ak_Ctr l cl_all lay_M y_M_isThere ws_M_isThere rm_M_isThere pt_M_isThere := by
  refine ak_met (cs := cs_M_isThere) (reg := rg_M_isThere) (bl := bl_M_isThere) (by decide +kernel) rfl (cl_ok _) rfl ok_M_isThere ?_ vc_M_isThere
  intro a n b ci h
  match a, h with
  | 0, h =>
    cases h
    exact ak_ccV (ct_M_isSegment l) rfl 408 409 10 25 410 (by decide +kernel) ⟨rfl, rfl⟩ (by decide +kernel) (by decide +kernel)
  | k + 1, h => cases h
def m_cnt (t : ak_S) (n : Nat) (x : Int32) : Nat := cn (fun r => decide (t.1 6 r = 1 ∧ t.1 7 r = x)) n
def pt_M_countOf : ak_P := fun vs t Q => match vs with
  | [.ref 0, .int x] => ∃ n : Nat, n ≤ 250 ∧ t.1 0 2 = nI n ∧ Q (some (.int (nI (m_cnt t n x)))) t
  | _ => False
def cs_M_countOf : Nat → ak_P := fun _ _ _ _ => False
theorem vc_M_countOf : ak_VC lay_M cs_M_countOf bl_M_countOf 4 pt_M_countOf := by
  intro vs t Q h
  unfold pt_M_countOf at h
  split at h
  · rename_i x
    obtain ⟨n, hn, hs, h⟩ := h
    refine ⟨Nat.le_of_ble_eq_true rfl, fun J hJ => ?_⟩
    have loop : ∀ d i, i + d = n → J 4 [some (.ref 0), some (.int x), some (.int (nI (m_cnt t i x))), some (.int (nI (i + 1)))] [] t := by
      intro d
      induction d with
      | zero =>
        intro i hi
        refine hJ 3 _ _ _ _ ?_
        simp only [Nat.reduceAdd, Nat.reduceLeDiff, Nat.zero_le, true_or, or_true, run_s, e_nop, e_iconst, e_bipush, e_sipush, e_lconst, e_iload, e_iload_n, e_lload, e_lload_n, e_aload, e_aload_n, e_istore, e_istore_n, e_iinc, e_iadd, e_isub, e_imul, e_lcmp, e_dupI, e_dupR, e_dup2, e_getfield, e_putfield, e_iaload, e_baload, e_laload, e_iastore, e_bastore, e_lastore, e_if, e_icmp, e_goto, e_tsw, e_ireturn0, e_ireturn1, e_return, e_call0, e_call1, e_call2, e_call3, lI_e, lL_e, lR_e, ak_nth, ak_set, ak_ok1, ak_jp, ak_b1, ak_b2, ak_sw, ak_la, ak_pad, true_and, and_true, List.map_cons, List.map_nil, List.sum_cons, List.sum_nil, Value.category, Option.toList_some, Option.toList_none, List.cons_append, List.nil_append, gM_0_0, pM_0_0, gM_0_1, pM_0_1, gM_0_2, pM_0_2, gM_0_3, pM_0_3, gM_0_4, gM_0_5, gM_0_6, gM_0_7, gM_0_8, gM_0_9, gM_0_10, gM_0_11, gM_0_12, gM_0_13, gM_0_14, gM_0_15, gM_0_16, rM_0, kM_1, kM_2, kM_3, kM_4, kM_5, kM_6, kM_7, kM_8, kM_9, kM_10, kM_11, kM_12, kM_13, fd_M_countOf_0, fd_M_countOf_4, fd_M_countOf_37, fd_M_countOf_38, fd_M_countOf_46, bk_M_countOf_0, bk_M_countOf_4, bk_M_countOf_37, bk_M_countOf_38, bk_M_countOf_46, hs]
        rw [q_lt (by omega) (by omega)]
        refine ⟨fun _ => ?_, fun q => absurd (by omega) q⟩
        have e : i = n := by omega
        rw [e]
        exact h
      | succ d ih =>
        intro i hi
        have hh := ih (i + 1) (by omega)
        refine hJ 4 _ _ _ _ ?_
        simp only [Nat.reduceAdd, Nat.reduceLeDiff, Nat.zero_le, true_or, or_true, run_s, e_nop, e_iconst, e_bipush, e_sipush, e_lconst, e_iload, e_iload_n, e_lload, e_lload_n, e_aload, e_aload_n, e_istore, e_istore_n, e_iinc, e_iadd, e_isub, e_imul, e_lcmp, e_dupI, e_dupR, e_dup2, e_getfield, e_putfield, e_iaload, e_baload, e_laload, e_iastore, e_bastore, e_lastore, e_if, e_icmp, e_goto, e_tsw, e_ireturn0, e_ireturn1, e_return, e_call0, e_call1, e_call2, e_call3, lI_e, lL_e, lR_e, ak_nth, ak_set, ak_ok1, ak_jp, ak_b1, ak_b2, ak_sw, ak_la, ak_pad, true_and, and_true, List.map_cons, List.map_nil, List.sum_cons, List.sum_nil, Value.category, Option.toList_some, Option.toList_none, List.cons_append, List.nil_append, gM_0_0, pM_0_0, gM_0_1, pM_0_1, gM_0_2, pM_0_2, gM_0_3, pM_0_3, gM_0_4, gM_0_5, gM_0_6, gM_0_7, gM_0_8, gM_0_9, gM_0_10, gM_0_11, gM_0_12, gM_0_13, gM_0_14, gM_0_15, gM_0_16, rM_0, kM_1, kM_2, kM_3, kM_4, kM_5, kM_6, kM_7, kM_8, kM_9, kM_10, kM_11, kM_12, kM_13, fd_M_countOf_0, fd_M_countOf_4, fd_M_countOf_37, fd_M_countOf_38, fd_M_countOf_46, bk_M_countOf_0, bk_M_countOf_4, bk_M_countOf_37, bk_M_countOf_38, bk_M_countOf_46, hs, nI_1]
        rw [q_lt (by omega) (by omega), q_cl (by omega)]
        have e0 : nI (m_cnt t i x) + 0 = nI (m_cnt t i x) := by rw [n_0, nI_add]; rfl
        rw [e0]
        refine ⟨fun q => absurd q (by omega), fun _ => ⟨q_in (by omega) (by omega), fun q => ?_, fun q => ⟨q_in (by omega) (by omega), fun q2 => ?_, fun q2 => ?_⟩⟩⟩
        · simpa [m_cnt, cn, q] using hh
        · simpa [m_cnt, cn, q, q2] using hh
        · simpa [m_cnt, cn, q, q2] using hh
    refine hJ 3 _ _ _ _ ?_
    simp only [Nat.reduceAdd, Nat.reduceLeDiff, Nat.zero_le, true_or, or_true, run_s, e_nop, e_iconst, e_bipush, e_sipush, e_lconst, e_iload, e_iload_n, e_lload, e_lload_n, e_aload, e_aload_n, e_istore, e_istore_n, e_iinc, e_iadd, e_isub, e_imul, e_lcmp, e_dupI, e_dupR, e_dup2, e_getfield, e_putfield, e_iaload, e_baload, e_laload, e_iastore, e_bastore, e_lastore, e_if, e_icmp, e_goto, e_tsw, e_ireturn0, e_ireturn1, e_return, e_call0, e_call1, e_call2, e_call3, lI_e, lL_e, lR_e, ak_nth, ak_set, ak_ok1, ak_jp, ak_b1, ak_b2, ak_sw, ak_la, ak_pad, true_and, and_true, List.map_cons, List.map_nil, List.sum_cons, List.sum_nil, Value.category, Option.toList_some, Option.toList_none, List.cons_append, List.nil_append, gM_0_0, pM_0_0, gM_0_1, pM_0_1, gM_0_2, pM_0_2, gM_0_3, pM_0_3, gM_0_4, gM_0_5, gM_0_6, gM_0_7, gM_0_8, gM_0_9, gM_0_10, gM_0_11, gM_0_12, gM_0_13, gM_0_14, gM_0_15, gM_0_16, rM_0, kM_1, kM_2, kM_3, kM_4, kM_5, kM_6, kM_7, kM_8, kM_9, kM_10, kM_11, kM_12, kM_13, fd_M_countOf_0, fd_M_countOf_4, fd_M_countOf_37, fd_M_countOf_38, fd_M_countOf_46, bk_M_countOf_0, bk_M_countOf_4, bk_M_countOf_37, bk_M_countOf_38, bk_M_countOf_46]
    exact loop n 0 (by omega)
  · exact h.elim
set_option maxRecDepth 20000 in
theorem ct_M_countOf (l : Launch) : ak_Ctr l cl_all lay_M y_M_countOf ws_M_countOf rm_M_countOf pt_M_countOf := by
  refine ak_met (cs := cs_M_countOf) (reg := rg_M_countOf) (bl := bl_M_countOf) (by decide +kernel) rfl (cl_ok _) rfl ok_M_countOf ?_ vc_M_countOf
  intro a n b ci h
  match a, h with
  | k + 0, h => cases h
def m_tr (t : ak_S) (n i p : Nat) : Int32 := if p = 0 then (if t.1 6 i = 1 then t.1 5 i else 0) else if p = 1 then t.1 7 i else nI (m_cnt t n (nI i))
def pt_M_truth : ak_P := fun vs t Q => match vs with
  | [.ref 0, .int x, .int y] => ∃ n i p : Nat, n ≤ 250 ∧ t.1 0 2 = nI n ∧ i ≤ 250 ∧ x = nI i ∧ p < 2147483648 ∧ y = nI p ∧ Q (some (.int (m_tr t n i p))) t
  | _ => False
def cs_M_truth : Nat → ak_P := fun a => match a with
  | _ => pt_M_countOf
theorem vc_M_truth : ak_VC lay_M cs_M_truth bl_M_truth 3 pt_M_truth := by
  intro vs t Q h
  unfold pt_M_truth at h
  split at h
  · rename_i x y
    obtain ⟨n, i, p, hn, hs, hi, rfl, hp, rfl, h⟩ := h
    refine ⟨Nat.le_of_ble_eq_true rfl, fun J hJ => hJ 4 _ _ _ _ ?_⟩
    simp only [Nat.reduceAdd, Nat.reduceLeDiff, Nat.zero_le, true_or, or_true, run_s, e_nop, e_iconst, e_bipush, e_sipush, e_lconst, e_iload, e_iload_n, e_lload, e_lload_n, e_aload, e_aload_n, e_istore, e_istore_n, e_iinc, e_iadd, e_isub, e_imul, e_lcmp, e_dupI, e_dupR, e_dup2, e_getfield, e_putfield, e_iaload, e_baload, e_laload, e_iastore, e_bastore, e_lastore, e_if, e_icmp, e_goto, e_tsw, e_ireturn0, e_ireturn1, e_return, e_call0, e_call1, e_call2, e_call3, lI_e, lL_e, lR_e, ak_nth, ak_set, ak_ok1, ak_jp, ak_b1, ak_b2, ak_sw, ak_la, ak_pad, true_and, and_true, List.map_cons, List.map_nil, List.sum_cons, List.sum_nil, Value.category, Option.toList_some, Option.toList_none, List.cons_append, List.nil_append, gM_0_0, pM_0_0, gM_0_1, pM_0_1, gM_0_2, pM_0_2, gM_0_3, pM_0_3, gM_0_4, gM_0_5, gM_0_6, gM_0_7, gM_0_8, gM_0_9, gM_0_10, gM_0_11, gM_0_12, gM_0_13, gM_0_14, gM_0_15, gM_0_16, rM_0, kM_1, kM_2, kM_3, kM_4, kM_5, kM_6, kM_7, kM_8, kM_9, kM_10, kM_11, kM_12, kM_13, fd_M_truth_0, fd_M_truth_23, fd_M_truth_27, fd_M_truth_41, fd_M_truth_46, bk_M_truth_0, bk_M_truth_23, bk_M_truth_27, bk_M_truth_41, bk_M_truth_46, cs_M_truth, pt_M_countOf, hs]
    unfold m_tr at h
    have e0 : nI p = 0 ↔ p = 0 := by rw [n_0]; exact nI_eq hp (by omega)
    have e1 : nI p = 1 ↔ p = 1 := by rw [n_1]; exact nI_eq hp (by omega)
    rw [q_cl (by omega), e0, e1]
    refine ⟨fun q => ?_, fun q => ⟨q_in (by omega) (by omega), fun q2 => ?_, fun q2 => ⟨q_in (by omega) (by omega), ?_⟩⟩⟩
    · rw [if_neg q] at h
      refine ⟨fun q2 => ⟨n, hn, rfl, ?_⟩, fun q2 => ⟨q_in (by omega) (by omega), ?_⟩⟩
      · rw [if_neg q2] at h; exact h
      · rw [if_pos q2] at h; exact h
    · rw [if_pos q, if_neg q2] at h; exact h
    · rw [if_pos q, if_pos q2] at h; exact h
  · exact h.elim
set_option maxRecDepth 20000 in
theorem ct_M_truth (l : Launch) : ak_Ctr l cl_all lay_M y_M_truth ws_M_truth rm_M_truth pt_M_truth := by
  refine ak_met (cs := cs_M_truth) (reg := rg_M_truth) (bl := bl_M_truth) (by decide +kernel) rfl (cl_ok _) rfl ok_M_truth ?_ vc_M_truth
  intro a n b ci h
  match a, h with
  | 0, h =>
    cases h
    exact ak_ccV (ct_M_countOf l) rfl 417 418 13 25 419 (by decide +kernel) ⟨rfl, rfl⟩ (by decide +kernel) (by decide +kernel)
  | k + 1, h => cases h
def m_right (t : ak_S) (n i : Nat) : ak_S := ak_p1 (ak_p1 (ak_p1 t 8 (3 * i) (m_tr t n i 0)) 8 (3 * i + 1) (m_tr t n i 1)) 8 (3 * i + 2) (m_tr t n i 2)
theorem m_tr_p {t : ak_S} {n i j p : Nat} {x : Int32} : m_tr (ak_p1 t 8 j x) n i p = m_tr t n i p := by
  unfold m_tr m_cnt
  rw [p1_o (by decide), p1_o (by decide), p1_o (by decide)]
  simp only [p1_o (show (6 : Nat) ≠ 8 by decide), p1_o (show (7 : Nat) ≠ 8 by decide)]
def pt_M_right : ak_P := fun vs t Q => match vs with
  | [.ref 0, .int x] => ∃ n i : Nat, n ≤ 250 ∧ t.1 0 2 = nI n ∧ i ≤ 250 ∧ x = nI i ∧ Q none (m_right t n i)
  | _ => False
def cs_M_right : Nat → ak_P := fun a => match a with
  | _ => pt_M_truth
theorem vc_M_right : ak_VC lay_M cs_M_right bl_M_right 3 pt_M_right := by
  intro vs t Q h
  unfold pt_M_right at h
  split at h
  · rename_i x
    obtain ⟨n, i, hn, hs, hi, rfl, h⟩ := h
    refine ⟨Nat.le_of_ble_eq_true rfl, fun J hJ => ?_⟩
    have step : ∀ (p : Nat) (t : ak_S), t.1 0 2 = nI n → p < 3 → J 2 [some (.ref 0), some (.int (nI i)), some (.int (nI (p + 1)))] [] (ak_p1 t 8 (3 * i + p) (m_tr t n i p)) → J 2 [some (.ref 0), some (.int (nI i)), some (.int (nI p))] [] t := by
      intro p t hs hp hj
      refine hJ 2 _ _ _ _ ?_
      simp only [Nat.reduceAdd, Nat.reduceLeDiff, Nat.zero_le, true_or, or_true, run_s, e_nop, e_iconst, e_bipush, e_sipush, e_lconst, e_iload, e_iload_n, e_lload, e_lload_n, e_aload, e_aload_n, e_istore, e_istore_n, e_iinc, e_iadd, e_isub, e_imul, e_lcmp, e_dupI, e_dupR, e_dup2, e_getfield, e_putfield, e_iaload, e_baload, e_laload, e_iastore, e_bastore, e_lastore, e_if, e_icmp, e_goto, e_tsw, e_ireturn0, e_ireturn1, e_return, e_call0, e_call1, e_call2, e_call3, lI_e, lL_e, lR_e, ak_nth, ak_set, ak_ok1, ak_jp, ak_b1, ak_b2, ak_sw, ak_la, ak_pad, true_and, and_true, List.map_cons, List.map_nil, List.sum_cons, List.sum_nil, Value.category, Option.toList_some, Option.toList_none, List.cons_append, List.nil_append, gM_0_0, pM_0_0, gM_0_1, pM_0_1, gM_0_2, pM_0_2, gM_0_3, pM_0_3, gM_0_4, gM_0_5, gM_0_6, gM_0_7, gM_0_8, gM_0_9, gM_0_10, gM_0_11, gM_0_12, gM_0_13, gM_0_14, gM_0_15, gM_0_16, rM_0, kM_1, kM_2, kM_3, kM_4, kM_5, kM_6, kM_7, kM_8, kM_9, kM_10, kM_11, kM_12, kM_13, fd_M_right_0, fd_M_right_2, fd_M_right_29, bk_M_right_0, bk_M_right_2, bk_M_right_29, cs_M_right, pt_M_truth, nI_1]
      rw [n_3, q_le (by omega) (by omega), pk_mul, nI_add, q_cl (by omega)]
      exact ⟨fun q => absurd q (by omega), fun _ => ⟨n, i, p, hn, hs, hi, rfl, by omega, rfl, q_in (by omega) (by omega), hj⟩⟩
    refine hJ 2 _ _ _ _ ?_
    simp only [Nat.reduceAdd, Nat.reduceLeDiff, Nat.zero_le, true_or, or_true, run_s, e_nop, e_iconst, e_bipush, e_sipush, e_lconst, e_iload, e_iload_n, e_lload, e_lload_n, e_aload, e_aload_n, e_istore, e_istore_n, e_iinc, e_iadd, e_isub, e_imul, e_lcmp, e_dupI, e_dupR, e_dup2, e_getfield, e_putfield, e_iaload, e_baload, e_laload, e_iastore, e_bastore, e_lastore, e_if, e_icmp, e_goto, e_tsw, e_ireturn0, e_ireturn1, e_return, e_call0, e_call1, e_call2, e_call3, lI_e, lL_e, lR_e, ak_nth, ak_set, ak_ok1, ak_jp, ak_b1, ak_b2, ak_sw, ak_la, ak_pad, true_and, and_true, List.map_cons, List.map_nil, List.sum_cons, List.sum_nil, Value.category, Option.toList_some, Option.toList_none, List.cons_append, List.nil_append, gM_0_0, pM_0_0, gM_0_1, pM_0_1, gM_0_2, pM_0_2, gM_0_3, pM_0_3, gM_0_4, gM_0_5, gM_0_6, gM_0_7, gM_0_8, gM_0_9, gM_0_10, gM_0_11, gM_0_12, gM_0_13, gM_0_14, gM_0_15, gM_0_16, rM_0, kM_1, kM_2, kM_3, kM_4, kM_5, kM_6, kM_7, kM_8, kM_9, kM_10, kM_11, kM_12, kM_13, fd_M_right_0, fd_M_right_2, fd_M_right_29, bk_M_right_0, bk_M_right_2, bk_M_right_29, cs_M_right]
    refine step 0 t hs (by omega) (step 1 _ (by rw [p1_o (by decide)]; exact hs) (by omega) (step 2 _ (by rw [p1_o (by decide), p1_o (by decide)]; exact hs) (by omega) ?_))
    refine hJ 2 _ _ _ _ ?_
    simp only [Nat.reduceAdd, Nat.reduceLeDiff, Nat.zero_le, true_or, or_true, run_s, e_nop, e_iconst, e_bipush, e_sipush, e_lconst, e_iload, e_iload_n, e_lload, e_lload_n, e_aload, e_aload_n, e_istore, e_istore_n, e_iinc, e_iadd, e_isub, e_imul, e_lcmp, e_dupI, e_dupR, e_dup2, e_getfield, e_putfield, e_iaload, e_baload, e_laload, e_iastore, e_bastore, e_lastore, e_if, e_icmp, e_goto, e_tsw, e_ireturn0, e_ireturn1, e_return, e_call0, e_call1, e_call2, e_call3, lI_e, lL_e, lR_e, ak_nth, ak_set, ak_ok1, ak_jp, ak_b1, ak_b2, ak_sw, ak_la, ak_pad, true_and, and_true, List.map_cons, List.map_nil, List.sum_cons, List.sum_nil, Value.category, Option.toList_some, Option.toList_none, List.cons_append, List.nil_append, gM_0_0, pM_0_0, gM_0_1, pM_0_1, gM_0_2, pM_0_2, gM_0_3, pM_0_3, gM_0_4, gM_0_5, gM_0_6, gM_0_7, gM_0_8, gM_0_9, gM_0_10, gM_0_11, gM_0_12, gM_0_13, gM_0_14, gM_0_15, gM_0_16, rM_0, kM_1, kM_2, kM_3, kM_4, kM_5, kM_6, kM_7, kM_8, kM_9, kM_10, kM_11, kM_12, kM_13, fd_M_right_0, fd_M_right_2, fd_M_right_29, bk_M_right_0, bk_M_right_2, bk_M_right_29, cs_M_right]
    refine ⟨fun _ => ?_, fun q => absurd (by decide) q⟩
    rw [m_tr_p, m_tr_p, m_tr_p]
    exact h
  · exact h.elim
set_option maxRecDepth 20000 in
theorem ct_M_right (l : Launch) : ak_Ctr l cl_all lay_M y_M_right ws_M_right rm_M_right pt_M_right := by
  refine ak_met (cs := cs_M_right) (reg := rg_M_right) (bl := bl_M_right) (by decide +kernel) rfl (cl_ok _) rfl ok_M_right ?_ vc_M_right
  intro a n b ci h
  match a, h with
  | 0, h =>
    cases h
    exact ak_ccV (ct_M_truth l) rfl 414 415 12 25 416 (by decide +kernel) ⟨rfl, rfl⟩ (by decide +kernel) (by decide +kernel)
  | k + 1, h => cases h
end
section
/-! the reference's kind, parent, there, count, index, poke -/
theorem RM_c {t : ak_S} {a : ab_T} (hR : RM t a) : RM (ak_p1 t 0 0 0) a := by
  obtain ⟨⟨h1, h2, h3⟩, hk, hs, hst, hp, hx⟩ := hR
  refine ⟨⟨by simp [p1_s, h1], by simp [p1_s, h2], by simp [p1_s, h3]⟩, fun k hk' => ?_, fun i hi => ?_, fun i b1 b2 => ?_, fun i p b1 b2 b3 b4 => ?_, fun j hj => ?_⟩
  · simpa [p1_o] using hk k hk'
  · obtain ⟨d1, d2, d3, d4⟩ := hs i hi
    exact ⟨by rw [p1_o (by decide)]; exact d1, by rw [p1_o (by decide)]; exact d2, d3, by rw [p1_o (by decide)]; exact d4⟩
  · rw [p1_o (by decide)]; exact hst i b1 b2
  · rw [p1_o (by decide)]; exact hp i p b1 b2 b3 b4
  · simpa [p1_o] using hx j hj
theorem RM_kind {t : ak_S} {a : ab_T} {k : Nat} (hR : RM t a) : RM (ak_p1 (ak_p1 t 0 1 (nI (a.1 0 + 1))) 1 (a.1 0 + 1) (nI k)) (a_f (a_n a 0 (a.1 0 + 1)) 0 (a.1 0 + 1) k) := by
  obtain ⟨⟨h1, h2, h3⟩, hk, hs, hst, hp, hx⟩ := hR
  refine ⟨⟨?_, ?_, ?_⟩, fun k' hk' => ?_, fun i hi => ?_, fun i b1 b2 => ?_, fun i p b1 b2 b3 b4 => ?_, fun j hj => ?_⟩
  · rw [p1_o (by decide), p1_s, if_pos rfl]; rfl
  · rw [p1_o (by decide), p1_s, if_neg (by decide), h2]; rfl
  · rw [p1_o (by decide), p1_s, if_neg (by decide), h3]; rfl
  · obtain ⟨q1, q2, q3⟩ := hk k' hk'
    refine ⟨?_, ?_, ?_⟩
    · rw [p1_s, af_s]
      split
      · rfl
      · rw [p1_o (by decide), q1]; rfl
    · rw [p1_o (by decide), p1_o (by decide), af_o (by decide), q2]; rfl
    · rw [p1_o (by decide), p1_o (by decide), af_o (by decide), q3]; rfl
  · obtain ⟨d1, d2, d3, d4⟩ := hs i hi
    refine ⟨?_, ?_, ?_, ?_⟩
    · rw [p1_o (by decide), p1_o (by decide), af_o (by decide), d1]; rfl
    · rw [p1_o (by decide), p1_o (by decide), af_o (by decide), d2]; rfl
    · exact d3
    · rw [p1_o (by decide), p1_o (by decide), af_o (by decide), d4]; rfl
  · rw [p1_o (by decide), p1_o (by decide), af_o (by decide)]
    exact hst i b1 b2
  · rw [p1_o (by decide), p1_o (by decide)]
    exact hp i p b1 b2 (by rw [af_o (by decide)] at b3; exact b3) b4
  · rw [p1_o (by decide), p1_o (by decide), p1_o (by decide), p1_o (by decide), af_o (by decide), af_o (by decide)]
    exact hx j hj
def pt_M_kind : ak_P := fun vs t Q => match vs with
  | [.ref 0, .int x] => ∃ a, AI a ∧ RM t a ∧ ∀ t', RM t' (g_kind a x) → Q (some (.int (f_kind a x))) t'
  | _ => False
def cs_M_kind : Nat → ak_P := fun a => match a with
  | _ => pt_M_isKind
theorem vc_M_kind : ak_VC lay_M cs_M_kind bl_M_kind 2 pt_M_kind := by
  intro vs t Q h
  unfold pt_M_kind at h
  split at h
  · rename_i x
    obtain ⟨a, hA, hR, h⟩ := h
    have hn := hA.1
    have hR0 := RM_c hR
    refine ⟨Nat.le_of_ble_eq_true rfl, fun J hJ => hJ 4 _ _ _ _ ?_⟩
    simp only [Nat.reduceAdd, Nat.reduceLeDiff, Nat.zero_le, true_or, or_true, run_s, e_nop, e_iconst, e_bipush, e_sipush, e_lconst, e_iload, e_iload_n, e_lload, e_lload_n, e_aload, e_aload_n, e_istore, e_istore_n, e_iinc, e_iadd, e_isub, e_imul, e_lcmp, e_dupI, e_dupR, e_dup2, e_getfield, e_putfield, e_iaload, e_baload, e_laload, e_iastore, e_bastore, e_lastore, e_if, e_icmp, e_goto, e_tsw, e_ireturn0, e_ireturn1, e_return, e_call0, e_call1, e_call2, e_call3, lI_e, lL_e, lR_e, ak_nth, ak_set, ak_ok1, ak_jp, ak_b1, ak_b2, ak_sw, ak_la, ak_pad, true_and, and_true, List.map_cons, List.map_nil, List.sum_cons, List.sum_nil, Value.category, Option.toList_some, Option.toList_none, List.cons_append, List.nil_append, gM_0_0, pM_0_0, gM_0_1, pM_0_1, gM_0_2, pM_0_2, gM_0_3, pM_0_3, gM_0_4, gM_0_5, gM_0_6, gM_0_7, gM_0_8, gM_0_9, gM_0_10, gM_0_11, gM_0_12, gM_0_13, gM_0_14, gM_0_15, gM_0_16, rM_0, kM_1, kM_2, kM_3, kM_4, kM_5, kM_6, kM_7, kM_8, kM_9, kM_10, kM_11, kM_12, kM_13, fd_M_kind_0, fd_M_kind_20, fd_M_kind_31, bk_M_kind_0, bk_M_kind_20, bk_M_kind_31, cs_M_kind, pt_M_isKind]
    simp only [bt0, Classical.not_not, i10, false_implies, not_false_eq_true, true_implies, not_true_eq_false, true_and, and_true, false_and, and_false, imp_self]
    generalize ak_p1 t 0 0 0 = t0 at hR0 ⊢
    have e15 : nI (a.1 0) = 15 ↔ a.1 0 = 15 := by rw [n_15]; exact nI_eq (by omega) (by omega)
    rw [hR0.1.1, e15, nI_1]
    have add : x = 0 ∨ iK a x → (¬ a.1 0 = 15 → vp_in ((ak_p1 t0 0 1 (nI (a.1 0 + 1))).1 0 1) 16 ∧ Q (some (Value.int ((ak_p1 (ak_p1 t0 0 1 (nI (a.1 0 + 1))) 1 ((ak_p1 t0 0 1 (nI (a.1 0 + 1))).1 0 1).toNatClampNeg x).1 0 1))) (ak_p1 (ak_p1 t0 0 1 (nI (a.1 0 + 1))) 1 ((ak_p1 t0 0 1 (nI (a.1 0 + 1))).1 0 1).toNatClampNeg x)) ∧ (a.1 0 = 15 → Q (some (Value.int (-1))) t0) := by
      intro hx
      refine ⟨fun e => ?_, fun e => ?_⟩
      · have hk : ∃ k, k ≤ a.1 0 ∧ x = nI k := by
          rcases hx with hx | hx
          · exact ⟨0, by omega, hx⟩
          · obtain ⟨k, _, h2, h3⟩ := iK_of hA hx
            exact ⟨k, h2, h3⟩
        obtain ⟨k, hk1, hk2⟩ := hk
        rw [p1_s, if_pos rfl, q_cl (by omega), p1_o (by decide), p1_s, if_pos rfl]
        refine ⟨q_in (by omega) (by omega), ?_⟩
        have := h (ak_p1 (ak_p1 t0 0 1 (nI (a.1 0 + 1))) 1 (a.1 0 + 1) x) (by
          rw [g_kind, if_pos ⟨hx, by omega⟩, hk2, q_cl (by omega)]
          exact RM_kind hR0)
        rw [f_kind, if_pos hx, if_neg e] at this
        exact this
      · have := h t0 (by rw [g_kind, if_neg (fun q => by omega)]; exact hR0)
        rw [f_kind, if_pos hx, if_pos e] at this
        exact this
    refine ⟨fun q => add (Or.inl q), fun q => ⟨fun q2 => add (Or.inr q2), fun q2 => ?_⟩⟩
    have := h t0 (by rw [g_kind, if_neg (fun y => y.1.elim q q2)]; exact hR0)
    rw [f_kind, if_neg (fun y => y.elim q q2)] at this
    exact this
  · exact h.elim
set_option maxRecDepth 20000 in
theorem ct_M_kind (l : Launch) : ak_Ctr l cl_all lay_M y_M_kind ws_M_kind rm_M_kind pt_M_kind := by
  refine ak_met (cs := cs_M_kind) (reg := rg_M_kind) (bl := bl_M_kind) (by decide +kernel) rfl (cl_ok _) rfl ok_M_kind ?_ vc_M_kind
  intro a n b ci h
  match a, h with
  | 0, h =>
    cases h
    exact ak_ccV (ct_M_isKind l) rfl 394 395 8 25 396 (by decide +kernel) ⟨rfl, rfl⟩ (by decide +kernel) (by decide +kernel)
  | k + 1, h => cases h
theorem RM_parent {t : ak_S} {a : ab_T} {k o r : Nat} (hR : RM t a) : RM (ak_p1 (ak_p1 t 2 k (nI o)) 3 k (nI r)) (a_f (a_f a 1 k o) 2 k r) := by
  obtain ⟨⟨h1, h2, h3⟩, hk, hs, hst, hp, hx⟩ := hR
  refine ⟨⟨?_, ?_, ?_⟩, fun k' hk' => ?_, fun i hi => ?_, fun i b1 b2 => ?_, fun i p b1 b2 b3 b4 => ?_, fun j hj => ?_⟩
  · rw [p1_o (by decide), p1_o (by decide), h1]; rfl
  · rw [p1_o (by decide), p1_o (by decide), h2]; rfl
  · rw [p1_o (by decide), p1_o (by decide), h3]; rfl
  · obtain ⟨q1, q2, q3⟩ := hk k' hk'
    refine ⟨?_, ?_, ?_⟩
    · rw [p1_o (by decide), p1_o (by decide), af_o (by decide), af_o (by decide), q1]
    · rw [p1_o (by decide), p1_s, af_o (by decide), af_s]
      split
      · rfl
      · exact q2
    · rw [p1_s, af_s]
      split
      · rfl
      · rw [p1_o (by decide), af_o (by decide), q3]
  · obtain ⟨d1, d2, d3, d4⟩ := hs i hi
    refine ⟨?_, ?_, ?_, ?_⟩
    · rw [p1_o (by decide), p1_o (by decide), af_o (by decide), af_o (by decide), d1]
    · rw [p1_o (by decide), p1_o (by decide), af_o (by decide), af_o (by decide), d2]
    · exact d3
    · rw [p1_o (by decide), p1_o (by decide), af_o (by decide), af_o (by decide), d4]
  · rw [p1_o (by decide), p1_o (by decide), af_o (by decide), af_o (by decide)]
    exact hst i b1 b2
  · rw [p1_o (by decide), p1_o (by decide)]
    exact hp i p b1 b2 (by rw [af_o (by decide), af_o (by decide)] at b3; exact b3) b4
  · rw [p1_o (by decide), p1_o (by decide), p1_o (by decide), p1_o (by decide), af_o (by decide), af_o (by decide), af_o (by decide), af_o (by decide)]
    exact hx j hj
def pt_M_parent : ak_P := fun vs t Q => match vs with
  | [.ref 0, .int k, .int o, .int r] => ∃ a, AI a ∧ RM t a ∧ ∀ t', RM t' (g_parent a k o r) → Q (some (.int (f_parent a k o r))) t'
  | _ => False
def cs_M_parent : Nat → ak_P := fun a => match a with
  | _ => pt_M_isKind
theorem vc_M_parent : ak_VC lay_M cs_M_parent bl_M_parent 5 pt_M_parent := by
  intro vs t Q h
  unfold pt_M_parent at h
  split at h
  · rename_i k o r
    obtain ⟨a, hA, hR, h⟩ := h
    have hn := hA.1
    have hR0 := RM_c hR
    refine ⟨Nat.le_of_ble_eq_true rfl, fun J hJ => ?_⟩
    obtain ⟨t0, ht0⟩ : ∃ t0, t0 = ak_p1 t 0 0 0 := ⟨_, rfl⟩
    rw [← ht0] at hR0
    have same : ∀ v : Int32, v ≠ 1 → f_parent a k o r = v → Q (some (.int v)) t0 := by
      intro v hv e
      have := h t0 (by rw [g_parent, e, if_neg hv]; exact hR0)
      rw [e] at this
      exact this
    have loop : iK a k → iK a o → ¬ (r < 0 ∨ 2 < r) → ∀ d i, i + d = a.1 1 → (∀ j, 1 ≤ j → j ≤ i → ¬ nI (a.2.1 3 j) = k) → J 39 [some (.ref 0), some (.int k), some (.int o), some (.int r), some (.int (nI (i + 1)))] [] t0 := by
      intro hk ho hr d
      obtain ⟨k', hk1, hk2, rfl⟩ := iK_of hA hk
      obtain ⟨o', ho1, ho2, rfl⟩ := iK_of hA ho
      induction d with
      | zero =>
        intro i hi hq
        have e : i = a.1 1 := by omega
        subst e
        refine hJ 4 _ _ _ _ ?_
        simp only [Nat.reduceAdd, Nat.reduceLeDiff, Nat.zero_le, true_or, or_true, run_s, e_nop, e_iconst, e_bipush, e_sipush, e_lconst, e_iload, e_iload_n, e_lload, e_lload_n, e_aload, e_aload_n, e_istore, e_istore_n, e_iinc, e_iadd, e_isub, e_imul, e_lcmp, e_dupI, e_dupR, e_dup2, e_getfield, e_putfield, e_iaload, e_baload, e_laload, e_iastore, e_bastore, e_lastore, e_if, e_icmp, e_goto, e_tsw, e_ireturn0, e_ireturn1, e_return, e_call0, e_call1, e_call2, e_call3, lI_e, lL_e, lR_e, ak_nth, ak_set, ak_ok1, ak_jp, ak_b1, ak_b2, ak_sw, ak_la, ak_pad, true_and, and_true, List.map_cons, List.map_nil, List.sum_cons, List.sum_nil, Value.category, Option.toList_some, Option.toList_none, List.cons_append, List.nil_append, gM_0_0, pM_0_0, gM_0_1, pM_0_1, gM_0_2, pM_0_2, gM_0_3, pM_0_3, gM_0_4, gM_0_5, gM_0_6, gM_0_7, gM_0_8, gM_0_9, gM_0_10, gM_0_11, gM_0_12, gM_0_13, gM_0_14, gM_0_15, gM_0_16, rM_0, kM_1, kM_2, kM_3, kM_4, kM_5, kM_6, kM_7, kM_8, kM_9, kM_10, kM_11, kM_12, kM_13, fd_M_parent_0, fd_M_parent_21, fd_M_parent_24, fd_M_parent_33, fd_M_parent_36, fd_M_parent_39, fd_M_parent_62, fd_M_parent_68, fd_M_parent_79, bk_M_parent_0, bk_M_parent_21, bk_M_parent_24, bk_M_parent_33, bk_M_parent_36, bk_M_parent_39, bk_M_parent_62, bk_M_parent_68, bk_M_parent_79, cs_M_parent]
        rw [hR0.1.2.1, q_lt (by omega) (by omega), q_cl (by omega), (hR0.2.1 k' (by omega)).2.1]
        have hb := (hA.2.1 k' (by omega)).2.1
        have hz : ¬ cn (fun i => decide (nI (a.2.1 3 i) = nI k')) (a.1 1) ≠ 0 := by
          intro y
          obtain ⟨j, b1, b2, b3⟩ := cn_ex.mp y
          rw [decide_eq_true_eq] at b3
          exact hq j b1 b2 b3
        have f0 : f_parent a (nI k') (nI o') r = if a.2.1 1 k' ≠ 0 then 0 else 1 := by rw [f_parent, if_neg (fun y => y ⟨hk, ho⟩), if_neg hr, if_neg hz, q_cl (by omega)]
        refine ⟨fun _ => ⟨q_in (by omega) (by omega), fun y => ⟨q_in (by omega) (by omega), q_in (by omega) (by omega), ?_⟩, fun y => ?_⟩, fun q => absurd (by omega) q⟩
        · rw [n_0, q_eq (by omega) (by omega)] at y
          obtain ⟨r', hr'⟩ : ∃ r' : Nat, r' < 2147483648 ∧ r = nI r' := nI_of (fun w => hr (Or.inl w))
          have z : f_parent a (nI k') (nI o') r = 1 := by rw [f0, if_neg (fun w => w y)]
          have := h (ak_p1 (ak_p1 t0 2 k' (nI o')) 3 k' r) (by
            rw [g_parent, z, if_pos rfl, q_cl (by omega), q_cl (by omega), hr'.2, q_cl hr'.1]
            exact RM_parent hR0)
          rw [z] at this
          exact this
        · rw [n_0, q_eq (by omega) (by omega)] at y
          exact same 0 (by decide) (by rw [f0, if_pos y])
      | succ d ih =>
        intro i hi hq
        refine hJ 4 _ _ _ _ ?_
        simp only [Nat.reduceAdd, Nat.reduceLeDiff, Nat.zero_le, true_or, or_true, run_s, e_nop, e_iconst, e_bipush, e_sipush, e_lconst, e_iload, e_iload_n, e_lload, e_lload_n, e_aload, e_aload_n, e_istore, e_istore_n, e_iinc, e_iadd, e_isub, e_imul, e_lcmp, e_dupI, e_dupR, e_dup2, e_getfield, e_putfield, e_iaload, e_baload, e_laload, e_iastore, e_bastore, e_lastore, e_if, e_icmp, e_goto, e_tsw, e_ireturn0, e_ireturn1, e_return, e_call0, e_call1, e_call2, e_call3, lI_e, lL_e, lR_e, ak_nth, ak_set, ak_ok1, ak_jp, ak_b1, ak_b2, ak_sw, ak_la, ak_pad, true_and, and_true, List.map_cons, List.map_nil, List.sum_cons, List.sum_nil, Value.category, Option.toList_some, Option.toList_none, List.cons_append, List.nil_append, gM_0_0, pM_0_0, gM_0_1, pM_0_1, gM_0_2, pM_0_2, gM_0_3, pM_0_3, gM_0_4, gM_0_5, gM_0_6, gM_0_7, gM_0_8, gM_0_9, gM_0_10, gM_0_11, gM_0_12, gM_0_13, gM_0_14, gM_0_15, gM_0_16, rM_0, kM_1, kM_2, kM_3, kM_4, kM_5, kM_6, kM_7, kM_8, kM_9, kM_10, kM_11, kM_12, kM_13, fd_M_parent_0, fd_M_parent_21, fd_M_parent_24, fd_M_parent_33, fd_M_parent_36, fd_M_parent_39, fd_M_parent_62, fd_M_parent_68, fd_M_parent_79, bk_M_parent_0, bk_M_parent_21, bk_M_parent_24, bk_M_parent_33, bk_M_parent_36, bk_M_parent_39, bk_M_parent_62, bk_M_parent_68, bk_M_parent_79, cs_M_parent, nI_1]
        rw [hR0.1.2.1, q_lt (by omega) (by omega), q_cl (a := i + 1) (by omega), (hR0.2.2.1 (i + 1) (by omega)).1]
        refine ⟨fun q => absurd q (by omega), fun _ => ⟨q_in (by omega) (by omega), fun q => ?_, fun q => ?_⟩⟩
        · refine ih (i + 1) (by omega) (fun j h1 h2 => ?_)
          by_cases e : j = i + 1
          · rw [e]; exact q
          · exact hq j h1 (by omega)
        · refine same (-5) (by decide) ?_
          rw [f_parent, if_neg (fun y => y ⟨hk, ho⟩), if_neg hr, if_pos]
          exact cn_ex.mpr ⟨i + 1, by omega, by omega, by rw [decide_eq_true_eq]; exact q⟩
    refine hJ 6 _ _ _ _ ?_
    simp only [Nat.reduceAdd, Nat.reduceLeDiff, Nat.zero_le, true_or, or_true, run_s, e_nop, e_iconst, e_bipush, e_sipush, e_lconst, e_iload, e_iload_n, e_lload, e_lload_n, e_aload, e_aload_n, e_istore, e_istore_n, e_iinc, e_iadd, e_isub, e_imul, e_lcmp, e_dupI, e_dupR, e_dup2, e_getfield, e_putfield, e_iaload, e_baload, e_laload, e_iastore, e_bastore, e_lastore, e_if, e_icmp, e_goto, e_tsw, e_ireturn0, e_ireturn1, e_return, e_call0, e_call1, e_call2, e_call3, lI_e, lL_e, lR_e, ak_nth, ak_set, ak_ok1, ak_jp, ak_b1, ak_b2, ak_sw, ak_la, ak_pad, true_and, and_true, List.map_cons, List.map_nil, List.sum_cons, List.sum_nil, Value.category, Option.toList_some, Option.toList_none, List.cons_append, List.nil_append, gM_0_0, pM_0_0, gM_0_1, pM_0_1, gM_0_2, pM_0_2, gM_0_3, pM_0_3, gM_0_4, gM_0_5, gM_0_6, gM_0_7, gM_0_8, gM_0_9, gM_0_10, gM_0_11, gM_0_12, gM_0_13, gM_0_14, gM_0_15, gM_0_16, rM_0, kM_1, kM_2, kM_3, kM_4, kM_5, kM_6, kM_7, kM_8, kM_9, kM_10, kM_11, kM_12, kM_13, fd_M_parent_0, fd_M_parent_21, fd_M_parent_24, fd_M_parent_33, fd_M_parent_36, fd_M_parent_39, fd_M_parent_62, fd_M_parent_68, fd_M_parent_79, bk_M_parent_0, bk_M_parent_21, bk_M_parent_24, bk_M_parent_33, bk_M_parent_36, bk_M_parent_39, bk_M_parent_62, bk_M_parent_68, bk_M_parent_79, cs_M_parent, pt_M_isKind]
    simp only [bt0, Classical.not_not, i10, false_implies, not_false_eq_true, true_implies, not_true_eq_false, true_and, and_true, false_and, and_false, imp_self]
    rw [← ht0, hR0.1.1]
    refine ⟨fun q => same _ (by decide) (by rw [f_parent, if_pos (fun y => q y.1)]), fun q => ⟨fun q2 => ⟨fun q3 => same _ (by decide) ?_, fun q3 => ⟨fun q4 => ?_, fun q4 => same _ (by decide) ?_⟩⟩, fun q2 => same _ (by decide) (by rw [f_parent, if_pos (fun y => q2 y.2)])⟩⟩
    · rw [f_parent, if_neg (fun y => y ⟨q, q2⟩), if_pos (Or.inl q3)]
    · have := loop q q2 (by grind) (a.1 1) 0 (by omega) (fun j h1 h2 => absurd h2 (by omega))
      exact this
    · rw [f_parent, if_neg (fun y => y ⟨q, q2⟩), if_pos (Or.inr (by grind))]
  · exact h.elim
set_option maxRecDepth 20000 in
theorem ct_M_parent (l : Launch) : ak_Ctr l cl_all lay_M y_M_parent ws_M_parent rm_M_parent pt_M_parent := by
  refine ak_met (cs := cs_M_parent) (reg := rg_M_parent) (bl := bl_M_parent) (by decide +kernel) rfl (cl_ok _) rfl ok_M_parent ?_ vc_M_parent
  intro a n b ci h
  match a, h with
  | 0, h =>
    cases h
    exact ak_ccV (ct_M_isKind l) rfl 394 395 8 25 396 (by decide +kernel) ⟨rfl, rfl⟩ (by decide +kernel) (by decide +kernel)
  | k + 1, h => cases h
end
section
/-! the reference's there, count, index, poke -/
theorem stM {t : ak_S} {a : ab_T} (hA : AI a) (hR : RM t a) {i : Nat} (h1 : 1 ≤ i) (h2 : i ≤ a.1 1) : (t.1 6 i = 1 ↔ a.2.1 5 i = 1) ∧ (t.1 6 i = 2 ↔ a.2.1 5 i = 2) ∧ (t.1 6 i = 3 ↔ a.2.1 5 i = 0) := by
  have hn := hA.1
  have hb := (hA.2.2.1 i (by omega)).2.2.1
  rw [hR.2.2.2.1 i h1 h2]
  rcases (by omega : a.2.1 5 i = 0 ∨ a.2.1 5 i = 1 ∨ a.2.1 5 i = 2) with z | z | z
  · rw [z]; decide
  · rw [z]; decide
  · rw [z]; decide
theorem m_cnt_a {t : ak_S} {a : ab_T} (hA : AI a) (hR : RM t a) {i : Nat} (h1 : 1 ≤ i) (h2 : i ≤ 250) : m_cnt t (a.1 1) (nI i) = ac a i := by
  have hn := hA.1
  refine cn_congr (fun j j1 j2 => ?_)
  rw [decide_eq_decide, (hR.2.2.1 j (by omega)).2.2.2]
  have hb := (hA.2.2.1 j (by omega)).2.2.2
  rw [nI_eq (by omega) (by omega), (stM hA hR j1 j2).1]
  exact ⟨fun z => z.2, fun z => ⟨(hA.2.2.2.2.1 j (by omega) (by omega)).2.2, z⟩⟩
theorem m_tr_a {t : ak_S} {a : ab_T} (hA : AI a) (hR : RM t a) {i p : Nat} (h1 : 1 ≤ i) (h2 : i ≤ a.1 1) : m_tr t (a.1 1) i p = nI (a_tr a i p) := by
  have hn := hA.1
  unfold m_tr a_tr
  obtain ⟨_, d2, _, d4⟩ := hR.2.2.1 i (by omega)
  rw [m_cnt_a hA hR h1 (by omega), d2, d4]
  have e := (stM hA hR h1 h2).1
  by_cases z : a.2.1 5 i = 1
  · rw [if_pos (e.mpr z), if_pos z]
    split
    · rfl
    · split <;> rfl
  · rw [if_neg (fun w => z (e.mp w)), if_neg z]
    split
    · rfl
    · split <;> rfl
def pt_M_there : ak_P := fun vs t Q => match vs with
  | [.ref 0, .int i, .int d] => ∃ a, AI a ∧ RM t a ∧ ∀ t', RM t' a → Q (some (.int (f_there a i d))) t'
  | _ => False
def cs_M_there : Nat → ak_P := fun a => match a with
  | _ => pt_M_isSegment
theorem vc_M_there : ak_VC lay_M cs_M_there bl_M_there 3 pt_M_there := by
  intro vs t Q h
  unfold pt_M_there at h
  split at h
  · rename_i i d
    obtain ⟨a, hA, hR, h⟩ := h
    have hn := hA.1
    have hR0 := RM_c hR
    refine ⟨Nat.le_of_ble_eq_true rfl, fun J hJ => hJ 6 _ _ _ _ ?_⟩
    simp only [Nat.reduceAdd, Nat.reduceLeDiff, Nat.zero_le, true_or, or_true, run_s, e_nop, e_iconst, e_bipush, e_sipush, e_lconst, e_iload, e_iload_n, e_lload, e_lload_n, e_aload, e_aload_n, e_istore, e_istore_n, e_iinc, e_iadd, e_isub, e_imul, e_lcmp, e_dupI, e_dupR, e_dup2, e_getfield, e_putfield, e_iaload, e_baload, e_laload, e_iastore, e_bastore, e_lastore, e_if, e_icmp, e_goto, e_tsw, e_ireturn0, e_ireturn1, e_return, e_call0, e_call1, e_call2, e_call3, lI_e, lL_e, lR_e, ak_nth, ak_set, ak_ok1, ak_jp, ak_b1, ak_b2, ak_sw, ak_la, ak_pad, true_and, and_true, List.map_cons, List.map_nil, List.sum_cons, List.sum_nil, Value.category, Option.toList_some, Option.toList_none, List.cons_append, List.nil_append, gM_0_0, pM_0_0, gM_0_1, pM_0_1, gM_0_2, pM_0_2, gM_0_3, pM_0_3, gM_0_4, gM_0_5, gM_0_6, gM_0_7, gM_0_8, gM_0_9, gM_0_10, gM_0_11, gM_0_12, gM_0_13, gM_0_14, gM_0_15, gM_0_16, rM_0, kM_1, kM_2, kM_3, kM_4, kM_5, kM_6, kM_7, kM_8, kM_9, kM_10, kM_11, kM_12, kM_13, fd_M_there_0, fd_M_there_27, fd_M_there_42, fd_M_there_46, fd_M_there_47, bk_M_there_0, bk_M_there_27, bk_M_there_42, bk_M_there_46, bk_M_there_47, cs_M_there, pt_M_isSegment]
    simp only [bt0, Classical.not_not, i10, false_implies, not_false_eq_true, true_implies, not_true_eq_false, true_and, and_true, false_and, and_false, imp_self]
    generalize ak_p1 t 0 0 0 = t0 at hR0 ⊢
    have h := h t0 hR0
    rw [hR0.1.2.1]
    unfold f_there at h
    have key : iS a i → vp_in i 251 ∧ (t0.1 6 i.toNatClampNeg = 1 ↔ a.2.1 5 i.toNatClampNeg = 1) ∧ (t0.1 6 i.toNatClampNeg = 2 ↔ a.2.1 5 i.toNatClampNeg = 2) := by
      intro hi
      obtain ⟨i', hi1, hi2, rfl⟩ := iS_of hA hi
      rw [q_cl (by omega)]
      obtain ⟨z1, z2, _⟩ := stM hA hR0 hi1 hi2
      exact ⟨q_in (by omega) (by omega), z1, z2⟩
    by_cases hi : iS a i
    · obtain ⟨k1, k2, k3⟩ := key hi
      simp only [hi, true_and, not_true_eq_false, false_implies, true_implies, k1, k2, k3] at h ⊢
      grind
    · rw [if_neg (fun z => hi z.1)] at h
      refine ⟨fun _ => h, fun z => absurd z hi⟩
  · exact h.elim
set_option maxRecDepth 20000 in
theorem ct_M_there (l : Launch) : ak_Ctr l cl_all lay_M y_M_there ws_M_there rm_M_there pt_M_there := by
  refine ak_met (cs := cs_M_there) (reg := rg_M_there) (bl := bl_M_there) (by decide +kernel) rfl (cl_ok _) rfl ok_M_there ?_ vc_M_there
  intro a n b ci h
  match a, h with
  | 0, h =>
    cases h
    exact ak_ccV (ct_M_isSegment l) rfl 408 409 10 25 410 (by decide +kernel) ⟨rfl, rfl⟩ (by decide +kernel) (by decide +kernel)
  | k + 1, h => cases h
def pt_M_count : ak_P := fun vs t Q => match vs with
  | [.ref 0, .int i] => ∃ a, AI a ∧ RM t a ∧ ∀ t', RM t' a → Q (some (.int (f_count a i))) t'
  | _ => False
def cs_M_count : Nat → ak_P := fun a => match a with
  | 0 => pt_M_isSegment
  | _ => pt_M_countOf
theorem vc_M_count : ak_VC lay_M cs_M_count bl_M_count 2 pt_M_count := by
  intro vs t Q h
  unfold pt_M_count at h
  split at h
  · rename_i i
    obtain ⟨a, hA, hR, h⟩ := h
    have hn := hA.1
    have hR0 := RM_c hR
    refine ⟨Nat.le_of_ble_eq_true rfl, fun J hJ => hJ 6 _ _ _ _ ?_⟩
    simp only [Nat.reduceAdd, Nat.reduceLeDiff, Nat.zero_le, true_or, or_true, run_s, e_nop, e_iconst, e_bipush, e_sipush, e_lconst, e_iload, e_iload_n, e_lload, e_lload_n, e_aload, e_aload_n, e_istore, e_istore_n, e_iinc, e_iadd, e_isub, e_imul, e_lcmp, e_dupI, e_dupR, e_dup2, e_getfield, e_putfield, e_iaload, e_baload, e_laload, e_iastore, e_bastore, e_lastore, e_if, e_icmp, e_goto, e_tsw, e_ireturn0, e_ireturn1, e_return, e_call0, e_call1, e_call2, e_call3, lI_e, lL_e, lR_e, ak_nth, ak_set, ak_ok1, ak_jp, ak_b1, ak_b2, ak_sw, ak_la, ak_pad, true_and, and_true, List.map_cons, List.map_nil, List.sum_cons, List.sum_nil, Value.category, Option.toList_some, Option.toList_none, List.cons_append, List.nil_append, gM_0_0, pM_0_0, gM_0_1, pM_0_1, gM_0_2, pM_0_2, gM_0_3, pM_0_3, gM_0_4, gM_0_5, gM_0_6, gM_0_7, gM_0_8, gM_0_9, gM_0_10, gM_0_11, gM_0_12, gM_0_13, gM_0_14, gM_0_15, gM_0_16, rM_0, kM_1, kM_2, kM_3, kM_4, kM_5, kM_6, kM_7, kM_8, kM_9, kM_10, kM_11, kM_12, kM_13, fd_M_count_0, fd_M_count_21, fd_M_count_23, bk_M_count_0, bk_M_count_21, bk_M_count_23, cs_M_count, pt_M_isSegment, pt_M_countOf]
    simp only [bt0, Classical.not_not, i10, false_implies, not_false_eq_true, true_implies, not_true_eq_false, true_and, and_true, false_and, and_false, imp_self]
    generalize ak_p1 t 0 0 0 = t0 at hR0 ⊢
    have h := h t0 hR0
    rw [hR0.1.2.1]
    unfold f_count at h
    refine ⟨fun q => ?_, fun q => ⟨a.1 1, by omega, rfl, ?_⟩⟩
    · rw [if_neg q] at h
      exact h
    · rw [if_pos q] at h
      obtain ⟨i', hi1, hi2, rfl⟩ := iS_of hA q
      rw [q_cl (by omega)] at h
      rw [m_cnt_a hA hR0 hi1 (by omega)]
      exact h
  · exact h.elim
set_option maxRecDepth 20000 in
theorem ct_M_count (l : Launch) : ak_Ctr l cl_all lay_M y_M_count ws_M_count rm_M_count pt_M_count := by
  refine ak_met (cs := cs_M_count) (reg := rg_M_count) (bl := bl_M_count) (by decide +kernel) rfl (cl_ok _) rfl ok_M_count ?_ vc_M_count
  intro a n b ci h
  match a, h with
  | 0, h =>
    cases h
    exact ak_ccV (ct_M_isSegment l) rfl 408 409 10 25 410 (by decide +kernel) ⟨rfl, rfl⟩ (by decide +kernel) (by decide +kernel)
  | 1, h =>
    cases h
    exact ak_ccV (ct_M_countOf l) rfl 417 418 13 25 419 (by decide +kernel) ⟨rfl, rfl⟩ (by decide +kernel) (by decide +kernel)
  | k + 2, h => cases h
theorem RM_index {t : ak_S} {a : ab_T} {k j : Nat} (hR : RM t a) : RM (ak_p1 (ak_p1 (ak_p1 t 0 3 (nI (a.1 2 + 1))) 12 (a.1 2 + 1) (nI k)) 13 (a.1 2 + 1) (nI j)) (a_f (a_f (a_n a 2 (a.1 2 + 1)) 7 (a.1 2 + 1) k) 8 (a.1 2 + 1) j) := by
  obtain ⟨⟨h1, h2, h3⟩, hk, hs, hst, hp, hx⟩ := hR
  refine ⟨⟨?_, ?_, ?_⟩, fun k' hk' => ?_, fun i hi => ?_, fun i b1 b2 => ?_, fun i p b1 b2 b3 b4 => ?_, fun j' hj => ?_⟩
  · rw [p1_o (by decide), p1_o (by decide), p1_s, if_neg (by decide), h1]; rfl
  · rw [p1_o (by decide), p1_o (by decide), p1_s, if_neg (by decide), h2]; rfl
  · rw [p1_o (by decide), p1_o (by decide), p1_s, if_pos rfl]; rfl
  · simpa [p1_o, af_o, an_2] using hk k' hk'
  · obtain ⟨d1, d2, d3, d4⟩ := hs i hi
    refine ⟨?_, ?_, d3, ?_⟩
    · simp [p1_o, af_o, an_2, d1]
    · simp [p1_o, af_o, an_2, d2]
    · simp [p1_o, af_o, an_2, d4]
  · rw [p1_o (by decide), p1_o (by decide), p1_o (by decide), af_o (by decide), af_o (by decide)]
    exact hst i b1 b2
  · rw [p1_o (by decide), p1_o (by decide), p1_o (by decide)]
    exact hp i p b1 b2 (by rw [af_o (by decide), af_o (by decide)] at b3; exact b3) b4
  · obtain ⟨q1, q2⟩ := hx j' hj
    refine ⟨?_, ?_⟩
    · rw [p1_o (by decide), p1_s, af_o (by decide), af_s]
      split
      · rfl
      · rw [p1_o (by decide), q1]; rfl
    · rw [p1_s, af_s]
      split
      · rfl
      · rw [p1_o (by decide), p1_o (by decide), q2, af_o (by decide)]; rfl
def pt_M_index : ak_P := fun vs t Q => match vs with
  | [.ref 0, .int k, .int b] => ∃ a, AI a ∧ RM t a ∧ ∀ t', RM t' (g_index a k b) → Q (some (.int (f_index a k b))) t'
  | _ => False
def cs_M_index : Nat → ak_P := fun a => match a with
  | _ => pt_M_isKind
theorem vc_M_index : ak_VC lay_M cs_M_index bl_M_index 3 pt_M_index := by
  intro vs t Q h
  unfold pt_M_index at h
  split at h
  · rename_i k b
    obtain ⟨a, hA, hR, h⟩ := h
    have hn := hA.1
    have hR0 := RM_c hR
    refine ⟨Nat.le_of_ble_eq_true rfl, fun J hJ => hJ 6 _ _ _ _ ?_⟩
    simp only [Nat.reduceAdd, Nat.reduceLeDiff, Nat.zero_le, true_or, or_true, run_s, e_nop, e_iconst, e_bipush, e_sipush, e_lconst, e_iload, e_iload_n, e_lload, e_lload_n, e_aload, e_aload_n, e_istore, e_istore_n, e_iinc, e_iadd, e_isub, e_imul, e_lcmp, e_dupI, e_dupR, e_dup2, e_getfield, e_putfield, e_iaload, e_baload, e_laload, e_iastore, e_bastore, e_lastore, e_if, e_icmp, e_goto, e_tsw, e_ireturn0, e_ireturn1, e_return, e_call0, e_call1, e_call2, e_call3, lI_e, lL_e, lR_e, ak_nth, ak_set, ak_ok1, ak_jp, ak_b1, ak_b2, ak_sw, ak_la, ak_pad, true_and, and_true, List.map_cons, List.map_nil, List.sum_cons, List.sum_nil, Value.category, Option.toList_some, Option.toList_none, List.cons_append, List.nil_append, gM_0_0, pM_0_0, gM_0_1, pM_0_1, gM_0_2, pM_0_2, gM_0_3, pM_0_3, gM_0_4, gM_0_5, gM_0_6, gM_0_7, gM_0_8, gM_0_9, gM_0_10, gM_0_11, gM_0_12, gM_0_13, gM_0_14, gM_0_15, gM_0_16, rM_0, kM_1, kM_2, kM_3, kM_4, kM_5, kM_6, kM_7, kM_8, kM_9, kM_10, kM_11, kM_12, kM_13, fd_M_index_0, fd_M_index_16, fd_M_index_27, bk_M_index_0, bk_M_index_16, bk_M_index_27, cs_M_index, pt_M_isKind]
    simp only [bt0, Classical.not_not, i10, false_implies, not_false_eq_true, true_implies, not_true_eq_false, true_and, and_true, false_and, and_false, imp_self]
    generalize ak_p1 t 0 0 0 = t0 at hR0 ⊢
    have e10 : nI (a.1 2) = 10 ↔ a.1 2 = 10 := by rw [n_10]; exact nI_eq (by omega) (by omega)
    rw [hR0.1.1, hR0.1.2.2, e10, nI_1]
    refine ⟨fun q => ⟨fun e => ?_, fun e => ?_⟩, fun q => ?_⟩
    · obtain ⟨k', hk1, hk2, rfl⟩ := iK_of hA q
      obtain ⟨j, hj1, hj2⟩ := and1 b
      rw [hj2, p1_s, if_pos rfl, p1_o (by decide), p1_s, if_pos rfl, p1_o (by decide), p1_o (by decide), p1_s, if_pos rfl, q_cl (by omega)]
      refine ⟨q_in (by omega) (by omega), q_in (by omega) (by omega), ?_⟩
      have := h (ak_p1 (ak_p1 (ak_p1 t0 0 3 (nI (a.1 2 + 1))) 12 (a.1 2 + 1) (nI k')) 13 (a.1 2 + 1) (nI j)) (by
        rw [g_index, if_pos ⟨q, by omega⟩, q_cl (by omega), hj2, q_cl (by omega)]
        exact RM_index hR0)
      rw [f_index, if_pos q, if_neg e] at this
      exact this
    · have := h t0 (by rw [g_index, if_neg (fun z => by omega)]; exact hR0)
      rw [f_index, if_pos q, if_pos e] at this
      exact this
    · have := h t0 (by rw [g_index, if_neg (fun z => q z.1)]; exact hR0)
      rw [f_index, if_neg q] at this
      exact this
  · exact h.elim
set_option maxRecDepth 20000 in
theorem ct_M_index (l : Launch) : ak_Ctr l cl_all lay_M y_M_index ws_M_index rm_M_index pt_M_index := by
  refine ak_met (cs := cs_M_index) (reg := rg_M_index) (bl := bl_M_index) (by decide +kernel) rfl (cl_ok _) rfl ok_M_index ?_ vc_M_index
  intro a n b ci h
  match a, h with
  | 0, h =>
    cases h
    exact ak_ccV (ct_M_isKind l) rfl 394 395 8 25 396 (by decide +kernel) ⟨rfl, rfl⟩ (by decide +kernel) (by decide +kernel)
  | k + 1, h => cases h
theorem RM_poke {t : ak_S} {a : ab_T} {j : Nat} {x : Int32} (hR : RM t a) : RM (ak_p1 t 8 j x) (a_p a j x) := by
  obtain ⟨⟨h1, h2, h3⟩, hk, hs, hst, hp, hx⟩ := hR
  refine ⟨⟨?_, ?_, ?_⟩, fun k' hk' => ?_, fun i hi => ?_, fun i b1 b2 => ?_, fun i p b1 b2 b3 b4 => ?_, fun j' hj => ?_⟩
  · rw [p1_o (by decide), h1]; rfl
  · rw [p1_o (by decide), h2]; rfl
  · rw [p1_o (by decide), h3]; rfl
  · rw [p1_o (by decide), p1_o (by decide), p1_o (by decide)]; exact hk k' hk'
  · rw [p1_o (by decide), p1_o (by decide), p1_o (by decide)]; exact hs i hi
  · rw [p1_o (by decide)]; exact hst i b1 b2
  · rw [p1_s, ap_s, hp i p b1 b2 b3 b4]
  · rw [p1_o (by decide), p1_o (by decide)]; exact hx j' hj
def pt_M_poke : ak_P := fun vs t Q => match vs with
  | [.ref 0, .int i, .int p, .int x] => ∃ a, AI a ∧ RM t a ∧ ∀ t', RM t' (g_poke a i p x) → Q (some (.int (f_poke a i p x))) t'
  | _ => False
def cs_M_poke : Nat → ak_P := fun a => match a with
  | _ => pt_M_isSegment
theorem vc_M_poke : ak_VC lay_M cs_M_poke bl_M_poke 5 pt_M_poke := by
  intro vs t Q h
  unfold pt_M_poke at h
  split at h
  · rename_i i p x
    obtain ⟨a, hA, hR, h⟩ := h
    have hn := hA.1
    have hR0 := RM_c hR
    refine ⟨Nat.le_of_ble_eq_true rfl, fun J hJ => hJ 6 _ _ _ _ ?_⟩
    simp only [Nat.reduceAdd, Nat.reduceLeDiff, Nat.zero_le, true_or, or_true, run_s, e_nop, e_iconst, e_bipush, e_sipush, e_lconst, e_iload, e_iload_n, e_lload, e_lload_n, e_aload, e_aload_n, e_istore, e_istore_n, e_iinc, e_iadd, e_isub, e_imul, e_lcmp, e_dupI, e_dupR, e_dup2, e_getfield, e_putfield, e_iaload, e_baload, e_laload, e_iastore, e_bastore, e_lastore, e_if, e_icmp, e_goto, e_tsw, e_ireturn0, e_ireturn1, e_return, e_call0, e_call1, e_call2, e_call3, lI_e, lL_e, lR_e, ak_nth, ak_set, ak_ok1, ak_jp, ak_b1, ak_b2, ak_sw, ak_la, ak_pad, true_and, and_true, List.map_cons, List.map_nil, List.sum_cons, List.sum_nil, Value.category, Option.toList_some, Option.toList_none, List.cons_append, List.nil_append, gM_0_0, pM_0_0, gM_0_1, pM_0_1, gM_0_2, pM_0_2, gM_0_3, pM_0_3, gM_0_4, gM_0_5, gM_0_6, gM_0_7, gM_0_8, gM_0_9, gM_0_10, gM_0_11, gM_0_12, gM_0_13, gM_0_14, gM_0_15, gM_0_16, rM_0, kM_1, kM_2, kM_3, kM_4, kM_5, kM_6, kM_7, kM_8, kM_9, kM_10, kM_11, kM_12, kM_13, fd_M_poke_0, fd_M_poke_16, fd_M_poke_25, fd_M_poke_28, fd_M_poke_41, bk_M_poke_0, bk_M_poke_16, bk_M_poke_25, bk_M_poke_28, bk_M_poke_41, cs_M_poke, pt_M_isSegment]
    simp only [bt0, Classical.not_not, i10, false_implies, not_false_eq_true, true_implies, not_true_eq_false, true_and, and_true, false_and, and_false, imp_self]
    generalize ak_p1 t 0 0 0 = t0 at hR0 ⊢
    rw [hR0.1.2.1]
    have same : ∀ v : Int32, f_poke a i p x = v → g_poke a i p x = a → Q (some (.int v)) t0 := by
      intro v e e2
      have := h t0 (by rw [e2]; exact hR0)
      rw [e] at this
      exact this
    refine ⟨fun q => ⟨fun q2 => same _ ?_ ?_, fun q2 => ⟨fun q3 => ?_, fun q3 => same _ ?_ ?_⟩⟩, fun q => same _ ?_ ?_⟩
    · rw [f_poke, if_neg (fun z => z q), if_pos (Or.inl q2)]
    · rw [g_poke, if_neg (fun z => z.2.1 (Or.inl q2))]
    · obtain ⟨i', hi1, hi2, rfl⟩ := iS_of hA q
      obtain ⟨p', hp1, rfl⟩ := nI_of q2
      rw [n_2, q_le (by omega) (by omega)] at q3
      obtain ⟨_, _, s3⟩ := stM hA hR0 hi1 hi2
      have hp : ¬ (nI p' < 0 ∨ 2 < nI p') := by
        rintro (z | z)
        · exact q2 z
        · rw [n_2, q_lt (by omega) (by omega)] at z
          omega
      rw [q_cl (by omega), s3, n_3, pk_mul, nI_add, q_cl (by omega)]
      refine ⟨q_in (by omega) (by omega), fun q4 => ⟨q_in (by omega) (by omega), q_in (by omega) (by omega), ?_⟩, fun q4 => same _ ?_ ?_⟩
      · have := h (ak_p1 t0 8 (3 * i' + p') x) (by
          rw [g_poke, q_cl (by omega), q_cl (by omega), if_pos ⟨q, hp, q4⟩]
          exact RM_poke hR0)
        rw [f_poke, if_neg (fun z => z q), if_neg hp, q_cl (by omega), q_cl (by omega), if_neg q4] at this
        rw [hR0.2.2.2.2.1 i' p' hi1 hi2 q4 (by omega)]
        exact this
      · rw [f_poke, if_neg (fun z => z q), if_neg hp, q_cl (by omega), if_pos q4]
      · rw [g_poke, q_cl (by omega), if_neg (fun z => z.2.2 q4)]
    · rw [f_poke, if_neg (fun z => z q), if_pos (Or.inr (by grind))]
    · rw [g_poke, if_neg (fun z => z.2.1 (Or.inr (by grind)))]
    · rw [f_poke, if_pos q]
    · rw [g_poke, if_neg (fun z => q z.1)]
  · exact h.elim
set_option maxRecDepth 20000 in
theorem ct_M_poke (l : Launch) : ak_Ctr l cl_all lay_M y_M_poke ws_M_poke rm_M_poke pt_M_poke := by
  refine ak_met (cs := cs_M_poke) (reg := rg_M_poke) (bl := bl_M_poke) (by decide +kernel) rfl (cl_ok _) rfl ok_M_poke ?_ vc_M_poke
  intro a n b ci h
  match a, h with
  | 0, h =>
    cases h
    exact ak_ccV (ct_M_isSegment l) rfl 408 409 10 25 410 (by decide +kernel) ⟨rfl, rfl⟩ (by decide +kernel) (by decide +kernel)
  | k + 1, h => cases h
end
section
/-! the reference's segment and relate; the invariants kept -/
def RMx (t : ak_S) (a : ab_T) (E : Nat → Prop) : Prop := (t.1 0 1 = nI (a.1 0) ∧ t.1 0 2 = nI (a.1 1) ∧ t.1 0 3 = nI (a.1 2)) ∧
  (∀ k, k ≤ 15 → t.1 1 k = nI (a.2.1 0 k) ∧ t.1 2 k = nI (a.2.1 1 k) ∧ t.1 3 k = nI (a.2.1 2 k)) ∧
  (∀ i, i ≤ 250 → t.1 4 i = nI (a.2.1 3 i) ∧ t.1 5 i = nI (a.2.1 4 i) ∧ t.2 9 i = a.2.2.1 i ∧ t.1 7 i = nI (a.2.1 6 i)) ∧
  (∀ i, 1 ≤ i → i ≤ a.1 1 → t.1 6 i = nI (if a.2.1 5 i = 0 then 3 else a.2.1 5 i)) ∧
  (∀ i p, 1 ≤ i → i ≤ a.1 1 → a.2.1 5 i ≠ 0 → p < 3 → ¬ E i → t.1 8 (3 * i + p) = a.2.2.2 (3 * i + p)) ∧
  (∀ j, j ≤ 10 → t.1 12 j = nI (a.2.1 7 j) ∧ t.1 13 j = nI (a.2.1 8 j))
theorem RM_of {t : ak_S} {a : ab_T} {E : Nat → Prop} (h : RMx t a E) (hE : ∀ i, 1 ≤ i → i ≤ a.1 1 → a.2.1 5 i ≠ 0 → ¬ E i) : RM t a := by
  obtain ⟨h1, hk, hs, hst, hp, hx⟩ := h
  exact ⟨h1, hk, hs, hst, fun i p a1 a2 a3 a4 => hp i p a1 a2 a3 a4 (hE i a1 a2 a3), hx⟩
theorem RM_to {t : ak_S} {a : ab_T} (h : RM t a) (E : Nat → Prop) : RMx t a E := by
  obtain ⟨h1, hk, hs, hst, hp, hx⟩ := h
  exact ⟨h1, hk, hs, hst, fun i p a1 a2 a3 a4 _ => hp i p a1 a2 a3 a4, hx⟩
/-- with the pointers as they are, it holds of the rows -/
def a_wp (a : ab_T) (P : Nat → Int32) : ab_T := (a.1, a.2.1, a.2.2.1, P)
theorem RMx_wp {t : ak_S} {a : ab_T} {E : Nat → Prop} (h : RMx t a E) : RM t (a_wp a (t.1 8)) := by
  obtain ⟨h1, hk, hs, hst, hp, hx⟩ := h
  exact ⟨h1, hk, hs, hst, fun i p a1 a2 a3 a4 => rfl, hx⟩
theorem mx_tr {t : ak_S} {a : ab_T} {E : Nat → Prop} (hA : AI a) (hR : RMx t a E) {i p : Nat} (h1 : 1 ≤ i) (h2 : i ≤ a.1 1) : m_tr t (a.1 1) i p = nI (a_tr a i p) :=
  m_tr_a (a := a_wp a (t.1 8)) hA (RMx_wp hR) h1 h2
theorem m_right_o {t : ak_S} {n i k j : Nat} (h : k ≠ 8) : (m_right t n i).1 k j = t.1 k j := by rw [m_right, p1_o h, p1_o h, p1_o h]
theorem mr_p {t : ak_S} {n i j p : Nat} (hp : p < 3) : (m_right t n i).1 8 (3 * j + p) = if j = i then m_tr t n i p else t.1 8 (3 * j + p) := by
  unfold m_right
  rw [p1_s, p1_s, p1_s]
  by_cases e : j = i
  · subst e
    rw [if_pos rfl]
    rcases (by omega : p = 0 ∨ p = 1 ∨ p = 2) with rfl | rfl | rfl
    · rw [if_neg (by omega), if_neg (by omega), if_pos (by omega)]
    · rw [if_neg (by omega), if_pos (by omega)]
    · rw [if_pos (by omega)]
  · rw [if_neg e, if_neg (by omega), if_neg (by omega), if_neg (by omega)]
theorem RMx_right {t : ak_S} {a : ab_T} {E : Nat → Prop} {i : Nat} (hA : AI a) (h : RMx t a E) (h1 : 1 ≤ i) (h2 : i ≤ a.1 1) : RMx (m_right t (a.1 1) i) (a_right a i) (fun j => E j ∧ j ≠ i) := by
  have ht := fun p => mx_tr (p := p) hA h h1 h2
  obtain ⟨⟨q1, q2, q3⟩, hk, hs, hst, hp, hx⟩ := h
  refine ⟨⟨?_, ?_, ?_⟩, fun k' hk' => ?_, fun j hj => ?_, fun j b1 b2 => ?_, fun j p b1 b2 b3 b4 b5 => ?_, fun j hj => ?_⟩
  · rw [m_right_o (by decide)]; exact q1
  · rw [m_right_o (by decide)]; exact q2
  · rw [m_right_o (by decide)]; exact q3
  · rw [m_right_o (by decide), m_right_o (by decide), m_right_o (by decide)]; exact hk k' hk'
  · rw [m_right_o (by decide), m_right_o (by decide), m_right_o (by decide)]; exact hs j hj
  · rw [m_right_o (by decide)]; exact hst j b1 b2
  · rw [mr_p b4, ar_p b4]
    by_cases e : j = i
    · rw [if_pos e, if_pos e, ht]
    · rw [if_neg e, if_neg e]
      exact hp j p b1 b2 b3 b4 (fun z => b5 ⟨z, e⟩)
  · rw [m_right_o (by decide), m_right_o (by decide)]; exact hx j hj
/-! the invariants are kept -/
theorem AI_right {a : ab_T} {i : Nat} (h : AI a) : AI (a_right a i) := h
theorem AI_relate {a : ab_T} {i o : Nat} (hA : AI a) (h1 : 1 ≤ i) (h2 : i ≤ a.1 1) (hst : a.2.1 5 i = 1) (ho : o ≤ a.1 1) : AI (a_f a 6 i o) := by
  obtain ⟨c1, c2, c3, c4, c5, c6, c7, c8, c9, c10⟩ := hA
  refine ⟨c1, fun k hk => ?_, fun j hj => ?_, fun j j1 j2 => ?_, fun j hj hz => ?_, fun j j1 j2 => ?_, ?_, fun k k1 k2 => ?_, fun j hj => ?_, fun j j1 j2 => ?_⟩
  · rw [af_o (by decide), af_o (by decide), af_o (by decide)]; exact c2 k hk
  · rw [af_o (by decide), af_o (by decide), af_o (by decide), af_s]
    obtain ⟨d1, d2, d3, d4⟩ := c3 j hj
    refine ⟨d1, d2, d3, ?_⟩
    split
    · exact ho
    · exact d4
  · rw [af_o (by decide)]; exact c4 j j1 j2
  · rw [af_s] at hz
    rw [af_o (by decide)]
    by_cases e : j = i
    · subst e; exact ⟨h1, h2, hst⟩
    · rw [if_neg e] at hz; exact c5 j hj hz
  · rw [af_o (by decide)]; exact c6 j j1 j2
  · rw [af_o (by decide)]; exact c7
  · rw [af_o (by decide), af_o (by decide)]; exact c8 k k1 k2
  · rw [af_o (by decide), af_o (by decide)]; exact c9 j hj
  · rw [af_o (by decide), af_o (by decide), af_o (by decide), af_o (by decide)]; exact c10 j j1 j2
theorem AI_new {a : ab_T} {k u : Nat} {y : Int64} (hA : AI a) (hn : a.1 1 < 250) (k1 : 1 ≤ k) (k2 : k ≤ a.1 0) (hu : u ≤ a.1 1) (hfit : u ≠ 0 → a.2.1 0 k = a.2.1 3 u) : AI (a_f (a_k (a_f (a_f (a_n a 1 (a.1 1 + 1)) 3 (a.1 1 + 1) k) 4 (a.1 1 + 1) u) (a.1 1 + 1) y) 5 (a.1 1 + 1) 1) := by
  obtain ⟨c1, c2, c3, c4, c5, c6, c7, c8, c9, c10⟩ := hA
  have e3 : ∀ i, (a_f (a_k (a_f (a_f (a_n a 1 (a.1 1 + 1)) 3 (a.1 1 + 1) k) 4 (a.1 1 + 1) u) (a.1 1 + 1) y) 5 (a.1 1 + 1) 1).2.1 3 i = if i = a.1 1 + 1 then k else a.2.1 3 i := fun i => by
    rw [af_o (by decide), ak_21, af_o (by decide), af_s, an_2]
  have e4 : ∀ i, (a_f (a_k (a_f (a_f (a_n a 1 (a.1 1 + 1)) 3 (a.1 1 + 1) k) 4 (a.1 1 + 1) u) (a.1 1 + 1) y) 5 (a.1 1 + 1) 1).2.1 4 i = if i = a.1 1 + 1 then u else a.2.1 4 i := fun i => by
    rw [af_o (by decide), ak_21, af_s, af_o (by decide), an_2]
  have e5 : ∀ i, (a_f (a_k (a_f (a_f (a_n a 1 (a.1 1 + 1)) 3 (a.1 1 + 1) k) 4 (a.1 1 + 1) u) (a.1 1 + 1) y) 5 (a.1 1 + 1) 1).2.1 5 i = if i = a.1 1 + 1 then 1 else a.2.1 5 i := fun i => by
    rw [af_s, ak_21, af_o (by decide), af_o (by decide), an_2]
  have eo : ∀ f i, f ≠ 3 → f ≠ 4 → f ≠ 5 → (a_f (a_k (a_f (a_f (a_n a 1 (a.1 1 + 1)) 3 (a.1 1 + 1) k) 4 (a.1 1 + 1) u) (a.1 1 + 1) y) 5 (a.1 1 + 1) 1).2.1 f i = a.2.1 f i := fun f i q1 q2 q3 => by
    rw [af_o q3, ak_21, af_o q2, af_o q1, an_2]
  have en : (a_f (a_k (a_f (a_f (a_n a 1 (a.1 1 + 1)) 3 (a.1 1 + 1) k) 4 (a.1 1 + 1) u) (a.1 1 + 1) y) 5 (a.1 1 + 1) 1).1 1 = a.1 1 + 1 := rfl
  have en0 : (a_f (a_k (a_f (a_f (a_n a 1 (a.1 1 + 1)) 3 (a.1 1 + 1) k) 4 (a.1 1 + 1) u) (a.1 1 + 1) y) 5 (a.1 1 + 1) 1).1 0 = a.1 0 := rfl
  have en2 : (a_f (a_k (a_f (a_f (a_n a 1 (a.1 1 + 1)) 3 (a.1 1 + 1) k) 4 (a.1 1 + 1) u) (a.1 1 + 1) y) 5 (a.1 1 + 1) 1).1 2 = a.1 2 := rfl
  refine ⟨⟨by rw [en0]; exact c1.1, by rw [en]; omega, by rw [en2]; exact c1.2.2⟩, fun k' hk => ?_, fun j hj => ?_, fun j j1 j2 => ?_, fun j hj hz => ?_, fun j j1 j2 => ?_, ?_, fun k' q1 q2 => ?_, fun j hj => ?_, fun j j1 j2 => ?_⟩
  · rw [eo 0 k' (by decide) (by decide) (by decide), eo 1 k' (by decide) (by decide) (by decide), eo 2 k' (by decide) (by decide) (by decide)]; exact c2 k' hk
  · rw [e3, e4, e5, eo 6 j (by decide) (by decide) (by decide), en]
    obtain ⟨d1, d2, d3, d4⟩ := c3 j hj
    refine ⟨?_, ?_, ?_, by omega⟩
    · split <;> omega
    · split <;> omega
    · split <;> omega
  · rw [en] at j2
    rw [e3]
    split
    · exact k1
    · exact c4 j j1 (by omega)
  · rw [eo 6 j (by decide) (by decide) (by decide)] at hz
    obtain ⟨d1, d2, d3⟩ := c5 j hj hz
    rw [en, e5, if_neg (by omega)]
    exact ⟨d1, by omega, d3⟩
  · rw [en] at j1
    rw [e5, if_neg (by omega)]
    exact c6 j (by omega) j2
  · rw [e5, if_neg (by omega)]; exact c7
  · rw [en0] at q1
    rw [eo 1 k' (by decide) (by decide) (by decide), eo 2 k' (by decide) (by decide) (by decide)]; exact c8 k' q1 q2
  · rw [eo 7 j (by decide) (by decide) (by decide), eo 8 j (by decide) (by decide) (by decide)]; exact c9 j hj
  · rw [en] at j2
    rw [e3, e4, en0, en, eo 0 _ (by decide) (by decide) (by decide)]
    by_cases e : j = a.1 1 + 1
    · rw [if_pos e, if_pos e]
      refine ⟨k2, fun z => ⟨by omega, ?_⟩⟩
      rw [e3, if_neg (by omega)]
      exact hfit z
    · rw [if_neg e, if_neg e]
      obtain ⟨d1, d2⟩ := c10 j j1 (by omega)
      refine ⟨d1, fun z => ?_⟩
      obtain ⟨d3, d4⟩ := d2 z
      refine ⟨by omega, ?_⟩
      rw [e3, if_neg (by omega)]
      exact d4
/-- what a fit gives -/
theorem fit_of {a : ab_T} (hA : AI a) {k : Nat} {u : Int32} (hk : k ≤ 15) (hf : a_fit a (nI k) u) : ∃ u' : Nat, u' ≤ a.1 1 ∧ u = nI u' ∧ (u' ≠ 0 → a.2.1 0 k = a.2.1 3 u') := by
  have hn := hA.1
  rw [a_fit, q_cl (by omega)] at hf
  split at hf
  · exact ⟨0, by omega, hf, fun z => absurd rfl z⟩
  · obtain ⟨u', z1, z2, rfl⟩ := iS_of hA hf.1
    have := hf.2.2
    rw [q_cl (by omega)] at this
    exact ⟨u', z2, rfl, fun _ => this.symm⟩
def m_new0 (t : ak_S) (n : Nat) (k u : Int32) (y : Int64) : ak_S := ak_p1 (ak_p2 (ak_p1 (ak_p1 (ak_p1 t 0 2 (nI (n + 1))) 4 (n + 1) k) 5 (n + 1) u) 9 (n + 1) y) 6 (n + 1) 1
theorem RM_new {t : ak_S} {a : ab_T} {k u : Nat} {y : Int64} (hA : AI a) (hR : RM t a) (hn : a.1 1 < 250) (k1 : 1 ≤ k) (k2 : k ≤ a.1 0) (hu : u ≤ a.1 1) (hfit : u ≠ 0 → a.2.1 0 k = a.2.1 3 u) : RM (m_right (m_new0 t (a.1 1) (nI k) (nI u) y) (a.1 1 + 1) (a.1 1 + 1)) (g_new a k u y) := by
  have hA2 := AI_new (y := y) hA hn k1 k2 hu hfit
  obtain ⟨⟨q1, q2, q3⟩, hk, hs, hst, hp, hx⟩ := hR
  have hx0 : RMx (m_new0 t (a.1 1) (nI k) (nI u) y) (a_f (a_k (a_f (a_f (a_n a 1 (a.1 1 + 1)) 3 (a.1 1 + 1) k) 4 (a.1 1 + 1) u) (a.1 1 + 1) y) 5 (a.1 1 + 1) 1) (fun i => i = a.1 1 + 1) := by
    refine ⟨⟨?_, ?_, ?_⟩, fun k' hk' => ?_, fun j hj => ?_, fun j b1 b2 => ?_, fun j p b1 b2 b3 b4 b5 => ?_, fun j hj => ?_⟩
    · simp [m_new0, p1_s, p1_o, p2_1, q1, af_1, ak_1, an_1]
    · simp [m_new0, p1_s, p1_o, p2_1, af_1, ak_1, an_1]
    · simp [m_new0, p1_s, p1_o, p2_1, q3, af_1, ak_1, an_1]
    · simpa [m_new0, p1_o, p2_1, af_o, ak_21, an_2] using hk k' hk'
    · obtain ⟨d1, d2, d3, d4⟩ := hs j hj
      refine ⟨?_, ?_, ?_, ?_⟩
      · rw [m_new0, p1_o (by decide), p2_1, p1_o (by decide), p1_s, af_o (by decide), ak_21, af_o (by decide), af_s, an_2]
        split
        · rfl
        · rw [p1_o (by decide), d1]
      · rw [m_new0, p1_o (by decide), p2_1, p1_s, af_o (by decide), ak_21, af_s, af_o (by decide), an_2]
        split
        · rfl
        · rw [p1_o (by decide), p1_o (by decide), d2]
      · rw [m_new0, p1_2, p2_s, af_2, ak_s]
        show _ = if j = a.1 1 + 1 then y else a.2.2.1 j
        rw [← d3]
        rfl
      · rw [m_new0, p1_o (by decide), p2_1, p1_o (by decide), p1_o (by decide), p1_o (by decide), af_o (by decide), ak_21, af_o (by decide), af_o (by decide), an_2, d4]
    · have b2' : j ≤ a.1 1 + 1 := b2
      rw [m_new0, p1_s, af_s, ak_21, af_o (by decide), af_o (by decide), an_2]
      by_cases e : j = a.1 1 + 1
      · rw [if_pos e, if_pos e]; rfl
      · rw [if_neg e, if_neg e, p2_1, p1_o (by decide), p1_o (by decide), p1_o (by decide)]
        exact hst j b1 (by omega)
    · have b2' : j ≤ a.1 1 + 1 := b2
      rw [af_s, if_neg b5, ak_21, af_o (by decide), af_o (by decide), an_2] at b3
      rw [m_new0, p1_o (by decide), p2_1, p1_o (by decide), p1_o (by decide), p1_o (by decide)]
      exact hp j p b1 (by omega) b3 b4
    · simpa [m_new0, p1_o, p2_1, af_o, ak_21, an_2] using hx j hj
  have := RMx_right (i := a.1 1 + 1) hA2 hx0 (by omega) (Nat.le_refl _)
  exact RM_of this (fun i _ _ _ z => z.2 z.1)
def pt_M_segment : ak_P := fun vs t Q => match vs with
  | [.ref 0, .int k, .int u, .long y] => ∃ a, AI a ∧ RM t a ∧ ∀ t', RM t' (g_segment a k u y) → Q (some (.int (f_segment a k u y))) t'
  | _ => False
def cs_M_segment : Nat → ak_P := fun a => match a with
  | 0 => pt_M_isKind
  | 1 => pt_M_isThere
  | _ => pt_M_right
theorem vc_M_segment : ak_VC lay_M cs_M_segment bl_M_segment 7 pt_M_segment := by
  intro vs t Q h
  unfold pt_M_segment at h
  split at h
  · rename_i k u y
    obtain ⟨a, hA, hR, h⟩ := h
    have hn := hA.1
    have hR0 := RM_c hR
    refine ⟨Nat.le_of_ble_eq_true rfl, fun J hJ => ?_⟩
    obtain ⟨t0, ht0⟩ : ∃ t0, t0 = ak_p1 t 0 0 0 := ⟨_, rfl⟩
    rw [← ht0] at hR0
    have same : g_segment a k u y = a → Q (some (.int (f_segment a k u y))) t0 := fun e => h t0 (by rw [e]; exact hR0)
    have loop : iK a k → a_fit a k u → ∀ d i, i + d = a.1 1 → (∀ j, 1 ≤ j → j ≤ i → ¬ (a.2.1 5 j = 1 ∧ nI (a.2.1 3 j) = k ∧ nI (a.2.1 4 j) = u ∧ a.2.2.1 j = y)) → J 78 [some (.ref 0), some (.int k), some (.int u), some (.long y), none, some (.int 1), some (.int (nI (i + 1)))] [] t0 := by
      intro q hf d
      induction d with
      | zero =>
        intro i hi hq
        have e : i = a.1 1 := by omega
        subst e
        have hd : ¬ a_dup a k u y := by
          intro z
          obtain ⟨j, b1, b2, b3⟩ := cn_ex.mp z
          rw [decide_eq_true_eq] at b3
          exact hq j b1 b2 b3
        obtain ⟨k', hk1, hk2, rfl⟩ := iK_of hA q
        obtain ⟨u', hu1, rfl, hu3⟩ := fit_of hA (by omega) hf
        refine hJ 4 _ _ _ _ ?_
        simp only [Nat.reduceAdd, Nat.reduceLeDiff, Nat.zero_le, true_or, or_true, run_s, e_nop, e_iconst, e_bipush, e_sipush, e_lconst, e_iload, e_iload_n, e_lload, e_lload_n, e_aload, e_aload_n, e_istore, e_istore_n, e_iinc, e_iadd, e_isub, e_imul, e_lcmp, e_dupI, e_dupR, e_dup2, e_getfield, e_putfield, e_iaload, e_baload, e_laload, e_iastore, e_bastore, e_lastore, e_if, e_icmp, e_goto, e_tsw, e_ireturn0, e_ireturn1, e_return, e_call0, e_call1, e_call2, e_call3, lI_e, lL_e, lR_e, ak_nth, ak_set, ak_ok1, ak_jp, ak_b1, ak_b2, ak_sw, ak_la, ak_pad, true_and, and_true, List.map_cons, List.map_nil, List.sum_cons, List.sum_nil, Value.category, Option.toList_some, Option.toList_none, List.cons_append, List.nil_append, gM_0_0, pM_0_0, gM_0_1, pM_0_1, gM_0_2, pM_0_2, gM_0_3, pM_0_3, gM_0_4, gM_0_5, gM_0_6, gM_0_7, gM_0_8, gM_0_9, gM_0_10, gM_0_11, gM_0_12, gM_0_13, gM_0_14, gM_0_15, gM_0_16, rM_0, kM_1, kM_2, kM_3, kM_4, kM_5, kM_6, kM_7, kM_8, kM_9, kM_10, kM_11, kM_12, kM_13, fd_M_segment_0, fd_M_segment_16, fd_M_segment_33, fd_M_segment_37, fd_M_segment_64, fd_M_segment_65, fd_M_segment_75, fd_M_segment_78, fd_M_segment_135, fd_M_segment_141, fd_M_segment_153, bk_M_segment_0, bk_M_segment_16, bk_M_segment_33, bk_M_segment_37, bk_M_segment_64, bk_M_segment_65, bk_M_segment_75, bk_M_segment_78, bk_M_segment_135, bk_M_segment_141, bk_M_segment_153, cs_M_segment, pt_M_right, nI_1, p1_s, p1_o, p2_1, if_true, ne_eq, Nat.reduceEqDiff, not_false_eq_true]
        have e250 : nI (a.1 1) = 250 ↔ a.1 1 = 250 := by rw [n_250]; exact nI_eq (by omega) (by omega)
        rw [hR0.1.2.1, q_lt (by omega) (by omega), e250, nI_1]
        refine ⟨fun _ => ⟨fun e => ?_, fun e => ?_⟩, fun z => absurd (by omega) z⟩
        · rw [q_cl (by omega)]
          refine ⟨q_in (by omega) (by omega), q_in (by omega) (by omega), q_in (by omega) (by omega), q_in (by omega) (by omega), a.1 1 + 1, a.1 1 + 1, by omega, rfl, by omega, rfl, ?_⟩
          rw [m_right_o (by decide)]
          have := h (m_right (m_new0 t0 (a.1 1) (nI k') (nI u') y) (a.1 1 + 1) (a.1 1 + 1)) (by
            rw [g_segment, ci_t ⟨q, hf, hd, by omega⟩, q_cl (by omega), q_cl (by omega)]
            exact RM_new hA hR0 (by omega) hk1 hk2 hu1 hu3)
          rw [f_segment, ci_f (fun z => z q), ci_f (fun z => z hf), ci_f hd, ci_f e] at this
          have e2 : (m_new0 t0 (a.1 1) (nI k') (nI u') y).1 0 2 = nI (a.1 1 + 1) := by simp [m_new0, p1_s, p1_o, p2_1]
          simpa [m_new0, p1_s, p1_o, p2_1] using this
        · have := same (by rw [g_segment, ci_f (fun z => by omega)])
          rw [f_segment, ci_f (fun z => z q), ci_f (fun z => z hf), ci_f hd, ci_t e] at this
          exact this
      | succ d ih =>
        intro i hi hq
        obtain ⟨d1, d2, d3, d4⟩ := hR0.2.2.1 (i + 1) (by omega)
        have ds := (stM hA hR0 (show 1 ≤ i + 1 by omega) (by omega)).1
        have go : ¬ (a.2.1 5 (i + 1) = 1 ∧ nI (a.2.1 3 (i + 1)) = k ∧ nI (a.2.1 4 (i + 1)) = u ∧ a.2.2.1 (i + 1) = y) → J 78 [some (.ref 0), some (.int k), some (.int u), some (.long y), none, some (.int 1), some (.int (nI (i + 1 + 1)))] [] t0 := fun z => ih (i + 1) (by omega) (fun j j1 j2 => by
          by_cases e : j = i + 1
          · rw [e]; exact z
          · exact hq j j1 (by omega))
        refine hJ 4 _ _ _ _ ?_
        simp only [Nat.reduceAdd, Nat.reduceLeDiff, Nat.zero_le, true_or, or_true, run_s, e_nop, e_iconst, e_bipush, e_sipush, e_lconst, e_iload, e_iload_n, e_lload, e_lload_n, e_aload, e_aload_n, e_istore, e_istore_n, e_iinc, e_iadd, e_isub, e_imul, e_lcmp, e_dupI, e_dupR, e_dup2, e_getfield, e_putfield, e_iaload, e_baload, e_laload, e_iastore, e_bastore, e_lastore, e_if, e_icmp, e_goto, e_tsw, e_ireturn0, e_ireturn1, e_return, e_call0, e_call1, e_call2, e_call3, lI_e, lL_e, lR_e, ak_nth, ak_set, ak_ok1, ak_jp, ak_b1, ak_b2, ak_sw, ak_la, ak_pad, true_and, and_true, List.map_cons, List.map_nil, List.sum_cons, List.sum_nil, Value.category, Option.toList_some, Option.toList_none, List.cons_append, List.nil_append, gM_0_0, pM_0_0, gM_0_1, pM_0_1, gM_0_2, pM_0_2, gM_0_3, pM_0_3, gM_0_4, gM_0_5, gM_0_6, gM_0_7, gM_0_8, gM_0_9, gM_0_10, gM_0_11, gM_0_12, gM_0_13, gM_0_14, gM_0_15, gM_0_16, rM_0, kM_1, kM_2, kM_3, kM_4, kM_5, kM_6, kM_7, kM_8, kM_9, kM_10, kM_11, kM_12, kM_13, fd_M_segment_0, fd_M_segment_16, fd_M_segment_33, fd_M_segment_37, fd_M_segment_64, fd_M_segment_65, fd_M_segment_75, fd_M_segment_78, fd_M_segment_135, fd_M_segment_141, fd_M_segment_153, bk_M_segment_0, bk_M_segment_16, bk_M_segment_33, bk_M_segment_37, bk_M_segment_64, bk_M_segment_65, bk_M_segment_75, bk_M_segment_78, bk_M_segment_135, bk_M_segment_141, bk_M_segment_153, cs_M_segment, nI_1]
        rw [hR0.1.2.1, q_lt (by omega) (by omega), q_cl (a := i + 1) (by omega), ds, d1, d2, d3, lg_cmp_eq]
        refine ⟨fun z => absurd z (by omega), fun _ => ⟨q_in (by omega) (by omega), fun q1 => go (fun z => q1 z.1), fun q1 => ⟨q_in (by omega) (by omega), fun q2 => go (fun z => q2 z.2.1), fun q2 => ⟨q_in (by omega) (by omega), fun q3 => go (fun z => q3 z.2.2.1), fun q3 => ⟨q_in (by omega) (by omega), fun q4 => go (fun z => q4 z.2.2.2), fun q4 => ?_⟩⟩⟩⟩⟩
        have hd : a_dup a k u y := cn_ex.mpr ⟨i + 1, by omega, by omega, by rw [decide_eq_true_eq]; exact ⟨q1, q2, q3, q4⟩⟩
        have := same (by rw [g_segment, ci_f (fun z => z.2.2.1 hd)])
        rw [f_segment, ci_f (fun z => z q), ci_f (fun z => z hf), ci_t hd] at this
        exact this
    have l0 := fun q hf => loop q hf (a.1 1) 0 (by omega) (fun j h1 h2 => absurd h2 (by omega))
    have nofit : iK a k → ¬ a_fit a k u → Q (some (.int (-4))) t0 := by
      intro q hf
      have := same (by rw [g_segment, ci_f (fun z => hf z.2.1)])
      rw [f_segment, ci_f (fun z => z q), ci_t hf] at this
      exact this
    refine hJ 8 _ _ _ _ ?_
    simp only [Nat.reduceAdd, Nat.reduceLeDiff, Nat.zero_le, true_or, or_true, run_s, e_nop, e_iconst, e_bipush, e_sipush, e_lconst, e_iload, e_iload_n, e_lload, e_lload_n, e_aload, e_aload_n, e_istore, e_istore_n, e_iinc, e_iadd, e_isub, e_imul, e_lcmp, e_dupI, e_dupR, e_dup2, e_getfield, e_putfield, e_iaload, e_baload, e_laload, e_iastore, e_bastore, e_lastore, e_if, e_icmp, e_goto, e_tsw, e_ireturn0, e_ireturn1, e_return, e_call0, e_call1, e_call2, e_call3, lI_e, lL_e, lR_e, ak_nth, ak_set, ak_ok1, ak_jp, ak_b1, ak_b2, ak_sw, ak_la, ak_pad, true_and, and_true, List.map_cons, List.map_nil, List.sum_cons, List.sum_nil, Value.category, Option.toList_some, Option.toList_none, List.cons_append, List.nil_append, gM_0_0, pM_0_0, gM_0_1, pM_0_1, gM_0_2, pM_0_2, gM_0_3, pM_0_3, gM_0_4, gM_0_5, gM_0_6, gM_0_7, gM_0_8, gM_0_9, gM_0_10, gM_0_11, gM_0_12, gM_0_13, gM_0_14, gM_0_15, gM_0_16, rM_0, kM_1, kM_2, kM_3, kM_4, kM_5, kM_6, kM_7, kM_8, kM_9, kM_10, kM_11, kM_12, kM_13, fd_M_segment_0, fd_M_segment_16, fd_M_segment_33, fd_M_segment_37, fd_M_segment_64, fd_M_segment_65, fd_M_segment_75, fd_M_segment_78, fd_M_segment_135, fd_M_segment_141, fd_M_segment_153, bk_M_segment_0, bk_M_segment_16, bk_M_segment_33, bk_M_segment_37, bk_M_segment_64, bk_M_segment_65, bk_M_segment_75, bk_M_segment_78, bk_M_segment_135, bk_M_segment_141, bk_M_segment_153, cs_M_segment, pt_M_isKind, pt_M_isThere]
    simp only [bt0, Classical.not_not, i10, false_implies, not_false_eq_true, true_implies, not_true_eq_false, true_and, and_true, false_and, and_false, imp_self]
    rw [← ht0, hR0.1.1]
    refine ⟨fun q => ?_, fun q => ?_⟩
    · have l0 := l0 q
      have nofit := nofit q
      obtain ⟨k', hk1, hk2, rfl⟩ := iK_of hA q
      have eb := (hA.2.1 k' (by omega)).1
      have efit : a_fit a (nI k') u = (if a.2.1 0 k' = 0 then u = 0 else (iS a u ∧ a.2.1 5 u.toNatClampNeg = 1 ∧ a.2.1 3 u.toNatClampNeg = a.2.1 0 k')) := by
        rw [a_fit, q_cl (by omega)]
      rw [efit] at l0 nofit
      have e0 : nI (a.2.1 0 k') = 0 ↔ a.2.1 0 k' = 0 := by rw [n_0]; exact nI_eq (by omega) (by omega)
      rw [q_cl (by omega), (hR0.2.1 k' (by omega)).1, e0]
      refine ⟨q_in (by omega) (by omega), fun q1 => ⟨a.1 1, by omega, hR0.1.2.1, fun q2 => ?_, fun q2 => ?_⟩, fun q1 => ?_⟩
      · rw [if_neg q1] at nofit
        refine nofit (fun z => q2 ⟨z.1, ?_⟩)
        obtain ⟨u', hu1, hu2, rfl⟩ := iS_of hA z.1
        have := z.2.1
        rw [q_cl (by omega)] at this ⊢
        exact (stM hA hR0 hu1 hu2).1.mpr this
      · rw [if_neg q1] at nofit l0
        obtain ⟨u', hu1, hu2, rfl⟩ := iS_of hA q2.1
        have q3 := q2.2
        rw [q_cl (by omega)] at q3 nofit l0 ⊢
        have q4 := (stM hA hR0 hu1 hu2).1.mp q3
        have ub := (hA.2.2.1 u' (by omega)).1
        rw [(hR0.2.2.1 u' (by omega)).1, nI_eq (by omega) (by omega)]
        exact ⟨q_in (by omega) (by omega), q_in (by omega) (by omega), fun z => nofit (fun w => z w.2.2), fun z => l0 ⟨q2.1, q4, z⟩⟩
      · rw [if_pos q1] at nofit l0
        exact ⟨fun z => nofit z, fun z => l0 z⟩
    · have := same (by rw [g_segment, ci_f (fun z => q z.1)])
      rw [f_segment, ci_t q] at this
      exact this
  · exact h.elim
set_option maxRecDepth 20000 in
theorem ct_M_segment (l : Launch) : ak_Ctr l cl_all lay_M y_M_segment ws_M_segment rm_M_segment pt_M_segment := by
  refine ak_met (cs := cs_M_segment) (reg := rg_M_segment) (bl := bl_M_segment) (by decide +kernel) rfl (cl_ok _) rfl ok_M_segment ?_ vc_M_segment
  intro a n b ci h
  match a, h with
  | 0, h =>
    cases h
    exact ak_ccV (ct_M_isKind l) rfl 394 395 8 25 396 (by decide +kernel) ⟨rfl, rfl⟩ (by decide +kernel) (by decide +kernel)
  | 1, h =>
    cases h
    exact ak_ccV (ct_M_isThere l) rfl 405 406 9 25 407 (by decide +kernel) ⟨rfl, rfl⟩ (by decide +kernel) (by decide +kernel)
  | 2, h =>
    cases h
    exact ak_ccV (ct_M_right l) rfl 411 412 11 25 413 (by decide +kernel) ⟨rfl, rfl⟩ (by decide +kernel) (by decide +kernel)
  | k + 3, h => cases h
def pt_M_relate : ak_P := fun vs t Q => match vs with
  | [.ref 0, .int i, .int o] => ∃ a, AI a ∧ RM t a ∧ ∀ t', RM t' (g_relate a i o) → Q (some (.int (f_relate a i o))) t'
  | _ => False
def cs_M_relate : Nat → ak_P := fun a => match a with
  | 0 => pt_M_isSegment
  | _ => pt_M_right
theorem vc_M_relate : ak_VC lay_M cs_M_relate bl_M_relate 3 pt_M_relate := by
  intro vs t Q h
  unfold pt_M_relate at h
  split at h
  · rename_i i o
    obtain ⟨a, hA, hR, h⟩ := h
    have hn := hA.1
    have hR0 := RM_c hR
    refine ⟨Nat.le_of_ble_eq_true rfl, fun J hJ => hJ 6 _ _ _ _ ?_⟩
    simp only [Nat.reduceAdd, Nat.reduceLeDiff, Nat.zero_le, true_or, or_true, run_s, e_nop, e_iconst, e_bipush, e_sipush, e_lconst, e_iload, e_iload_n, e_lload, e_lload_n, e_aload, e_aload_n, e_istore, e_istore_n, e_iinc, e_iadd, e_isub, e_imul, e_lcmp, e_dupI, e_dupR, e_dup2, e_getfield, e_putfield, e_iaload, e_baload, e_laload, e_iastore, e_bastore, e_lastore, e_if, e_icmp, e_goto, e_tsw, e_ireturn0, e_ireturn1, e_return, e_call0, e_call1, e_call2, e_call3, lI_e, lL_e, lR_e, ak_nth, ak_set, ak_ok1, ak_jp, ak_b1, ak_b2, ak_sw, ak_la, ak_pad, true_and, and_true, List.map_cons, List.map_nil, List.sum_cons, List.sum_nil, Value.category, Option.toList_some, Option.toList_none, List.cons_append, List.nil_append, gM_0_0, pM_0_0, gM_0_1, pM_0_1, gM_0_2, pM_0_2, gM_0_3, pM_0_3, gM_0_4, gM_0_5, gM_0_6, gM_0_7, gM_0_8, gM_0_9, gM_0_10, gM_0_11, gM_0_12, gM_0_13, gM_0_14, gM_0_15, gM_0_16, rM_0, kM_1, kM_2, kM_3, kM_4, kM_5, kM_6, kM_7, kM_8, kM_9, kM_10, kM_11, kM_12, kM_13, fd_M_relate_0, fd_M_relate_21, fd_M_relate_24, fd_M_relate_63, fd_M_relate_66, fd_M_relate_95, fd_M_relate_98, bk_M_relate_0, bk_M_relate_21, bk_M_relate_24, bk_M_relate_63, bk_M_relate_66, bk_M_relate_95, bk_M_relate_98, cs_M_relate, pt_M_isSegment, pt_M_right]
    simp only [bt0, Classical.not_not, i10, false_implies, not_false_eq_true, true_implies, not_true_eq_false, true_and, and_true, false_and, and_false, imp_self]
    generalize ak_p1 t 0 0 0 = t0 at hR0 ⊢
    rw [hR0.1.2.1]
    have same : ∀ v : Int32, v ≠ 1 → f_relate a i o = v → Q (some (.int v)) t0 := by
      intro v hv e
      have := h t0 (by rw [g_relate, e, if_neg hv]; exact hR0)
      rw [e] at this
      exact this
    refine ⟨fun q => same _ (by decide) (by rw [f_relate, if_pos (fun y => q y.1)]), fun q => ⟨fun q2 => ?_, fun q2 => same _ (by decide) (by rw [f_relate, if_pos (fun y => q2 y.2)])⟩⟩
    have r0 : f_relate a i o = if a.2.1 1 (a.2.1 3 i.toNatClampNeg) = 0 ∨ a.2.1 3 o.toNatClampNeg ≠ a.2.1 1 (a.2.1 3 i.toNatClampNeg) ∨ i = o then -4 else if a.2.1 5 i.toNatClampNeg ≠ 1 ∨ a.2.1 5 o.toNatClampNeg = 0 ∨ a.2.1 6 i.toNatClampNeg ≠ 0 then -5 else 1 := by
      rw [f_relate, if_neg (fun y => y ⟨q, q2⟩)]
    obtain ⟨i', hi1, hi2, rfl⟩ := iS_of hA q
    obtain ⟨o', ho1, ho2, rfl⟩ := iS_of hA q2
    obtain ⟨b1, _, _, b4⟩ := hR0.2.2.1 i' (by omega)
    obtain ⟨c1, _, _, c4⟩ := hR0.2.2.1 o' (by omega)
    obtain ⟨d1, _, d3, d4⟩ := hA.2.2.1 i' (by omega)
    obtain ⟨e1, _, e3, e4⟩ := hA.2.2.1 o' (by omega)
    have hlp := (hR0.2.1 (a.2.1 3 i') (by omega)).2.1
    have hlb := (hA.2.1 (a.2.1 3 i') (by omega)).2.1
    obtain ⟨s1, _, _⟩ := stM hA hR0 hi1 hi2
    obtain ⟨_, _, s3⟩ := stM hA hR0 ho1 ho2
    rw [q_cl (by omega), q_cl (by omega)] at r0
    have e0 : nI (a.2.1 1 (a.2.1 3 i')) = 0 ↔ a.2.1 1 (a.2.1 3 i') = 0 := by rw [n_0]; exact nI_eq (by omega) (by omega)
    have er : nI (a.2.1 6 i') = 0 ↔ a.2.1 6 i' = 0 := by rw [n_0]; exact nI_eq (by omega) (by omega)
    have eko : nI (a.2.1 3 o') = nI (a.2.1 1 (a.2.1 3 i')) ↔ a.2.1 3 o' = a.2.1 1 (a.2.1 3 i') := nI_eq (by omega) (by omega)
    rw [q_cl (a := i') (by omega), q_cl (a := o') (by omega), b1, q_cl (a := a.2.1 3 i') (by omega), hlp, c1, s1, s3, b4, e0, er, eko]
    refine ⟨q_in (by omega) (by omega), q_in (by omega) (by omega), fun z1 => same _ (by decide) (by rw [r0, if_pos (Or.inl z1)]), fun z1 => ⟨q_in (by omega) (by omega), q_in (by omega) (by omega), q_in (by omega) (by omega), fun z2 => same _ (by decide) ?_, fun z2 => ⟨fun z3 => ⟨q_in (by omega) (by omega), fun z4 => same _ (by decide) ?_, fun z4 => ⟨q_in (by omega) (by omega), fun z5 => same _ (by decide) ?_, fun z5 => ⟨q_in (by omega) (by omega), fun z6 => ?_, fun z6 => same _ (by decide) ?_⟩⟩⟩, fun z3 => same _ (by decide) ?_⟩⟩⟩
    · rw [r0, if_pos (Or.inr (Or.inl z2))]
    · rw [r0, if_neg (by rintro (w | w | w); exact z1 w; exact w z2; exact z3 w), if_pos (Or.inl z4)]
    · rw [r0, if_neg (by rintro (w | w | w); exact z1 w; exact w z2; exact z3 w), if_pos (Or.inr (Or.inl z5))]
    · have r1 : f_relate a (nI i') (nI o') = 1 := by
        rw [r0, if_neg (by rintro (w | w | w); exact z1 w; exact w z2; exact z3 w), if_neg (by rintro (w | w | w); exact w z4; exact z5 w; exact w z6)]
      refine ⟨q_in (by omega) (by omega), a.1 1, i', by omega, by rw [p1_o (by decide)]; exact hR0.1.2.1, by omega, rfl, a.1 1, o', by omega, by rw [m_right_o (by decide), p1_o (by decide)]; exact hR0.1.2.1, by omega, rfl, ?_⟩
      have hA1 : AI (a_f a 6 i' o') := AI_relate hA hi1 hi2 z4 ho2
      have hR1 : RMx (ak_p1 t0 7 i' (nI o')) (a_f a 6 i' o') (fun _ => False) := by
        obtain ⟨⟨y1, y2, y3⟩, hk, hs, hst, hp, hx⟩ := hR0
        refine ⟨⟨?_, ?_, ?_⟩, fun k' hk' => ?_, fun j hj => ?_, fun j w1 w2 => ?_, fun j p w1 w2 w3 w4 _ => ?_, fun j hj => ?_⟩
        · rw [p1_o (by decide)]; exact y1
        · rw [p1_o (by decide)]; exact y2
        · rw [p1_o (by decide)]; exact y3
        · rw [p1_o (by decide), p1_o (by decide), p1_o (by decide), af_o (by decide), af_o (by decide), af_o (by decide)]; exact hk k' hk'
        · rw [p1_o (by decide), p1_o (by decide), af_o (by decide), af_o (by decide), af_s, p1_s]
          obtain ⟨v1, v2, v3, v4⟩ := hs j hj
          refine ⟨v1, v2, v3, ?_⟩
          split
          · rfl
          · exact v4
        · rw [p1_o (by decide), af_o (by decide)]; exact hst j w1 w2
        · rw [p1_o (by decide)]
          exact hp j p w1 w2 (by rw [af_o (by decide)] at w3; exact w3) w4
        · rw [p1_o (by decide), p1_o (by decide), af_o (by decide), af_o (by decide)]; exact hx j hj
      have hfin : RM (m_right (m_right (ak_p1 t0 7 i' (nI o')) (a.1 1) i') (a.1 1) o') (a_right (a_right (a_f a 6 i' o') i') o') :=
        RM_of (RMx_right (AI_right hA1) (RMx_right hA1 hR1 hi1 hi2) ho1 ho2) (fun _ _ _ _ w => w.1.1)
      have := h _ (by
        rw [g_relate, r1, if_pos rfl, q_cl (by omega), q_cl (by omega)]
        exact hfin)
      rw [r1] at this
      exact this
    · rw [r0, if_neg (by rintro (w | w | w); exact z1 w; exact w z2; exact z3 w), if_pos (Or.inr (Or.inr z6))]
    · rw [r0, if_pos (Or.inr (Or.inr z3))]
  · exact h.elim
set_option maxRecDepth 20000 in
theorem ct_M_relate (l : Launch) : ak_Ctr l cl_all lay_M y_M_relate ws_M_relate rm_M_relate pt_M_relate := by
  refine ak_met (cs := cs_M_relate) (reg := rg_M_relate) (bl := bl_M_relate) (by decide +kernel) rfl (cl_ok _) rfl ok_M_relate ?_ vc_M_relate
  intro a n b ci h
  match a, h with
  | 0, h =>
    cases h
    exact ak_ccV (ct_M_isSegment l) rfl 408 409 10 25 410 (by decide +kernel) ⟨rfl, rfl⟩ (by decide +kernel) (by decide +kernel)
  | 1, h =>
    cases h
    exact ak_ccV (ct_M_right l) rfl 411 412 11 25 413 (by decide +kernel) ⟨rfl, rfl⟩ (by decide +kernel) (by decide +kernel)
  | k + 2, h => cases h
end
section
/-! the reference's check, broken, told -/
def a_brB (a : ab_T) (i p : Nat) : Bool := decide (a.2.1 5 i ≠ 0 ∧ ¬ a.2.2.2 (3 * i + p) = nI (a_tr a i p))
theorem a_wr_br (a : ab_T) (i : Nat) : a_wr a i = cn (fun p => a_brB a i (p - 1)) 3 := by
  unfold a_wr
  split
  · rename_i z
    rw [cn_0]
    intro p _ _
    simp [a_brB, z]
  · rename_i z
    refine cn_congr (fun p _ _ => ?_)
    simp [a_brB, z]
def pt_M_isBroken : ak_P := fun vs t Q => match vs with
  | [.ref 0, .int x, .int y] => ∃ (a : ab_T) (i p : Nat), AI a ∧ RM t a ∧ x = nI i ∧ y = nI p ∧ 1 ≤ i ∧ i ≤ a.1 1 ∧ p < 3 ∧ (a_brB a i p = true → Q (some (.int 1)) t) ∧ (a_brB a i p = false → Q (some (.int 0)) t)
  | _ => False
def cs_M_isBroken : Nat → ak_P := fun a => match a with
  | _ => pt_M_truth
theorem vc_M_isBroken : ak_VC lay_M cs_M_isBroken bl_M_isBroken 3 pt_M_isBroken := by
  intro vs t Q h
  unfold pt_M_isBroken at h
  split at h
  · rename_i x y
    obtain ⟨a, i, p, hA, hR, rfl, rfl, hi1, hi2, hp, hy, hno⟩ := h
    have hn := hA.1
    refine ⟨Nat.le_of_ble_eq_true rfl, fun J hJ => hJ 4 _ _ _ _ ?_⟩
    simp only [Nat.reduceAdd, Nat.reduceLeDiff, Nat.zero_le, true_or, or_true, run_s, e_nop, e_iconst, e_bipush, e_sipush, e_lconst, e_iload, e_iload_n, e_lload, e_lload_n, e_aload, e_aload_n, e_istore, e_istore_n, e_iinc, e_iadd, e_isub, e_imul, e_lcmp, e_dupI, e_dupR, e_dup2, e_getfield, e_putfield, e_iaload, e_baload, e_laload, e_iastore, e_bastore, e_lastore, e_if, e_icmp, e_goto, e_tsw, e_ireturn0, e_ireturn1, e_return, e_call0, e_call1, e_call2, e_call3, lI_e, lL_e, lR_e, ak_nth, ak_set, ak_ok1, ak_jp, ak_b1, ak_b2, ak_sw, ak_la, ak_pad, true_and, and_true, List.map_cons, List.map_nil, List.sum_cons, List.sum_nil, Value.category, Option.toList_some, Option.toList_none, List.cons_append, List.nil_append, gM_0_0, pM_0_0, gM_0_1, pM_0_1, gM_0_2, pM_0_2, gM_0_3, pM_0_3, gM_0_4, gM_0_5, gM_0_6, gM_0_7, gM_0_8, gM_0_9, gM_0_10, gM_0_11, gM_0_12, gM_0_13, gM_0_14, gM_0_15, gM_0_16, rM_0, kM_1, kM_2, kM_3, kM_4, kM_5, kM_6, kM_7, kM_8, kM_9, kM_10, kM_11, kM_12, kM_13, fd_M_isBroken_0, fd_M_isBroken_33, fd_M_isBroken_34, bk_M_isBroken_0, bk_M_isBroken_33, bk_M_isBroken_34, cs_M_isBroken, pt_M_truth]
    simp only [a_brB, decide_eq_true_eq, decide_eq_false_iff_not] at hy hno
    rw [n_3, pk_mul, nI_add, q_cl (a := 3 * i + p) (by omega), q_cl (by omega), ← n_3, (stM hA hR hi1 hi2).2.2]
    refine ⟨q_in (by omega) (by omega), fun q => hno (fun z => z.1 q), fun q => ⟨q_in (by omega) (by omega), a.1 1, i, p, by omega, hR.1.2.1, by omega, rfl, by omega, rfl, ?_⟩⟩
    rw [m_tr_a hA hR hi1 hi2, hR.2.2.2.2.1 i p hi1 hi2 q hp]
    exact ⟨fun z => hno (fun w => w.2 z), fun z => hy ⟨q, z⟩⟩
  · exact h.elim
set_option maxRecDepth 20000 in
theorem ct_M_isBroken (l : Launch) : ak_Ctr l cl_all lay_M y_M_isBroken ws_M_isBroken rm_M_isBroken pt_M_isBroken := by
  refine ak_met (cs := cs_M_isBroken) (reg := rg_M_isBroken) (bl := bl_M_isBroken) (by decide +kernel) rfl (cl_ok _) rfl ok_M_isBroken ?_ vc_M_isBroken
  intro a n b ci h
  match a, h with
  | 0, h =>
    cases h
    exact ak_ccV (ct_M_truth l) rfl 414 415 12 25 416 (by decide +kernel) ⟨rfl, rfl⟩ (by decide +kernel) (by decide +kernel)
  | k + 1, h => cases h
def pt_M_check : ak_P := fun vs t Q => match vs with
  | [.ref 0] => ∃ a, AI a ∧ RM t a ∧ ∀ t', RM t' a → Q (some (.int (f_check a))) t'
  | _ => False
def cs_M_check : Nat → ak_P := fun a => match a with
  | _ => pt_M_isBroken
theorem vc_M_check : ak_VC lay_M cs_M_check bl_M_check 4 pt_M_check := by
  intro vs t Q h
  unfold pt_M_check at h
  split at h
  · obtain ⟨a, hA, hR, h⟩ := h
    have hn := hA.1
    have hR0 := RM_c hR
    refine ⟨Nat.le_of_ble_eq_true rfl, fun J hJ => ?_⟩
    obtain ⟨t0, ht0⟩ : ∃ t0, t0 = ak_p1 t 0 0 0 := ⟨_, rfl⟩
    rw [← ht0] at hR0
    have h := h t0 hR0
    have outer : ∀ d i (o : Option Value), i + d = a.1 1 → J 9 [some (.ref 0), some (.int (nI (sm (a_wr a) i))), some (.int (nI (i + 1))), o] [] t0 := by
      intro d
      induction d with
      | zero =>
        intro i o hi
        have e : i = a.1 1 := by omega
        subst e
        refine hJ 3 _ _ _ _ ?_
        simp only [Nat.reduceAdd, Nat.reduceLeDiff, Nat.zero_le, true_or, or_true, run_s, e_nop, e_iconst, e_bipush, e_sipush, e_lconst, e_iload, e_iload_n, e_lload, e_lload_n, e_aload, e_aload_n, e_istore, e_istore_n, e_iinc, e_iadd, e_isub, e_imul, e_lcmp, e_dupI, e_dupR, e_dup2, e_getfield, e_putfield, e_iaload, e_baload, e_laload, e_iastore, e_bastore, e_lastore, e_if, e_icmp, e_goto, e_tsw, e_ireturn0, e_ireturn1, e_return, e_call0, e_call1, e_call2, e_call3, lI_e, lL_e, lR_e, ak_nth, ak_set, ak_ok1, ak_jp, ak_b1, ak_b2, ak_sw, ak_la, ak_pad, true_and, and_true, List.map_cons, List.map_nil, List.sum_cons, List.sum_nil, Value.category, Option.toList_some, Option.toList_none, List.cons_append, List.nil_append, gM_0_0, pM_0_0, gM_0_1, pM_0_1, gM_0_2, pM_0_2, gM_0_3, pM_0_3, gM_0_4, gM_0_5, gM_0_6, gM_0_7, gM_0_8, gM_0_9, gM_0_10, gM_0_11, gM_0_12, gM_0_13, gM_0_14, gM_0_15, gM_0_16, rM_0, kM_1, kM_2, kM_3, kM_4, kM_5, kM_6, kM_7, kM_8, kM_9, kM_10, kM_11, kM_12, kM_13, fd_M_check_0, fd_M_check_9, fd_M_check_19, fd_M_check_38, fd_M_check_39, fd_M_check_47, fd_M_check_53, bk_M_check_0, bk_M_check_9, bk_M_check_19, bk_M_check_38, bk_M_check_39, bk_M_check_47, bk_M_check_53, cs_M_check]
        rw [hR0.1.2.1, q_lt (by omega) (by omega)]
        exact ⟨fun _ => h, fun q => absurd (by omega) q⟩
      | succ d ih =>
        intro i o hi
        have inner : ∀ d2 p, p + d2 = 3 → J 19 [some (.ref 0), some (.int (nI (sm (a_wr a) i + cn (fun p => a_brB a (i + 1) (p - 1)) p))), some (.int (nI (i + 1))), some (.int (nI p))] [] t0 := by
          intro d2
          induction d2 with
          | zero =>
            intro p hp
            have e : p = 3 := by omega
            subst e
            refine hJ 3 _ _ _ _ ?_
            simp only [Nat.reduceAdd, Nat.reduceLeDiff, Nat.zero_le, true_or, or_true, run_s, e_nop, e_iconst, e_bipush, e_sipush, e_lconst, e_iload, e_iload_n, e_lload, e_lload_n, e_aload, e_aload_n, e_istore, e_istore_n, e_iinc, e_iadd, e_isub, e_imul, e_lcmp, e_dupI, e_dupR, e_dup2, e_getfield, e_putfield, e_iaload, e_baload, e_laload, e_iastore, e_bastore, e_lastore, e_if, e_icmp, e_goto, e_tsw, e_ireturn0, e_ireturn1, e_return, e_call0, e_call1, e_call2, e_call3, lI_e, lL_e, lR_e, ak_nth, ak_set, ak_ok1, ak_jp, ak_b1, ak_b2, ak_sw, ak_la, ak_pad, true_and, and_true, List.map_cons, List.map_nil, List.sum_cons, List.sum_nil, Value.category, Option.toList_some, Option.toList_none, List.cons_append, List.nil_append, gM_0_0, pM_0_0, gM_0_1, pM_0_1, gM_0_2, pM_0_2, gM_0_3, pM_0_3, gM_0_4, gM_0_5, gM_0_6, gM_0_7, gM_0_8, gM_0_9, gM_0_10, gM_0_11, gM_0_12, gM_0_13, gM_0_14, gM_0_15, gM_0_16, rM_0, kM_1, kM_2, kM_3, kM_4, kM_5, kM_6, kM_7, kM_8, kM_9, kM_10, kM_11, kM_12, kM_13, fd_M_check_0, fd_M_check_9, fd_M_check_19, fd_M_check_38, fd_M_check_39, fd_M_check_47, fd_M_check_53, bk_M_check_0, bk_M_check_9, bk_M_check_19, bk_M_check_38, bk_M_check_39, bk_M_check_47, bk_M_check_53, cs_M_check, nI_1]
            refine ⟨fun _ => ?_, fun q => absurd (by decide) q⟩
            have := ih (i + 1) (some (.int (nI 3))) (by omega)
            rw [sm, a_wr_br] at this
            exact this
          | succ d2 ih2 =>
            intro p hp
            have hh := ih2 (p + 1) (by omega)
            refine hJ 4 _ _ _ _ ?_
            simp only [Nat.reduceAdd, Nat.reduceLeDiff, Nat.zero_le, true_or, or_true, run_s, e_nop, e_iconst, e_bipush, e_sipush, e_lconst, e_iload, e_iload_n, e_lload, e_lload_n, e_aload, e_aload_n, e_istore, e_istore_n, e_iinc, e_iadd, e_isub, e_imul, e_lcmp, e_dupI, e_dupR, e_dup2, e_getfield, e_putfield, e_iaload, e_baload, e_laload, e_iastore, e_bastore, e_lastore, e_if, e_icmp, e_goto, e_tsw, e_ireturn0, e_ireturn1, e_return, e_call0, e_call1, e_call2, e_call3, lI_e, lL_e, lR_e, ak_nth, ak_set, ak_ok1, ak_jp, ak_b1, ak_b2, ak_sw, ak_la, ak_pad, true_and, and_true, List.map_cons, List.map_nil, List.sum_cons, List.sum_nil, Value.category, Option.toList_some, Option.toList_none, List.cons_append, List.nil_append, gM_0_0, pM_0_0, gM_0_1, pM_0_1, gM_0_2, pM_0_2, gM_0_3, pM_0_3, gM_0_4, gM_0_5, gM_0_6, gM_0_7, gM_0_8, gM_0_9, gM_0_10, gM_0_11, gM_0_12, gM_0_13, gM_0_14, gM_0_15, gM_0_16, rM_0, kM_1, kM_2, kM_3, kM_4, kM_5, kM_6, kM_7, kM_8, kM_9, kM_10, kM_11, kM_12, kM_13, fd_M_check_0, fd_M_check_9, fd_M_check_19, fd_M_check_38, fd_M_check_39, fd_M_check_47, fd_M_check_53, bk_M_check_0, bk_M_check_9, bk_M_check_19, bk_M_check_38, bk_M_check_39, bk_M_check_47, bk_M_check_53, cs_M_check, pt_M_isBroken, nI_1]
            simp only [bt0, Classical.not_not, i10, false_implies, not_false_eq_true, true_implies, not_true_eq_false, true_and, and_true, false_and, and_false, imp_self]
            rw [n_3, q_le (by omega) (by omega)]
            have e0 : ∀ z : Nat, nI z + 0 = nI z := fun z => by rw [n_0, nI_add]; rfl
            rw [e0]
            refine ⟨fun q => absurd q (by omega), fun _ => ⟨a, i + 1, p, hA, hR0, rfl, rfl, by omega, by omega, by omega, fun q => ?_, fun q => ?_⟩⟩
            · rw [cn] at hh
              rw [show p + 1 - 1 = p by omega, if_pos q] at hh
              exact hh
            · rw [cn] at hh
              rw [show p + 1 - 1 = p by omega, q, if_neg (by decide)] at hh
              exact hh
        refine hJ 3 _ _ _ _ ?_
        simp only [Nat.reduceAdd, Nat.reduceLeDiff, Nat.zero_le, true_or, or_true, run_s, e_nop, e_iconst, e_bipush, e_sipush, e_lconst, e_iload, e_iload_n, e_lload, e_lload_n, e_aload, e_aload_n, e_istore, e_istore_n, e_iinc, e_iadd, e_isub, e_imul, e_lcmp, e_dupI, e_dupR, e_dup2, e_getfield, e_putfield, e_iaload, e_baload, e_laload, e_iastore, e_bastore, e_lastore, e_if, e_icmp, e_goto, e_tsw, e_ireturn0, e_ireturn1, e_return, e_call0, e_call1, e_call2, e_call3, lI_e, lL_e, lR_e, ak_nth, ak_set, ak_ok1, ak_jp, ak_b1, ak_b2, ak_sw, ak_la, ak_pad, true_and, and_true, List.map_cons, List.map_nil, List.sum_cons, List.sum_nil, Value.category, Option.toList_some, Option.toList_none, List.cons_append, List.nil_append, gM_0_0, pM_0_0, gM_0_1, pM_0_1, gM_0_2, pM_0_2, gM_0_3, pM_0_3, gM_0_4, gM_0_5, gM_0_6, gM_0_7, gM_0_8, gM_0_9, gM_0_10, gM_0_11, gM_0_12, gM_0_13, gM_0_14, gM_0_15, gM_0_16, rM_0, kM_1, kM_2, kM_3, kM_4, kM_5, kM_6, kM_7, kM_8, kM_9, kM_10, kM_11, kM_12, kM_13, fd_M_check_0, fd_M_check_9, fd_M_check_19, fd_M_check_38, fd_M_check_39, fd_M_check_47, fd_M_check_53, bk_M_check_0, bk_M_check_9, bk_M_check_19, bk_M_check_38, bk_M_check_39, bk_M_check_47, bk_M_check_53, cs_M_check]
        rw [hR0.1.2.1, q_lt (by omega) (by omega)]
        refine ⟨fun q => absurd q (by omega), fun _ => ?_⟩
        exact inner 3 0 (by omega)
    refine hJ 3 _ _ _ _ ?_
    simp only [Nat.reduceAdd, Nat.reduceLeDiff, Nat.zero_le, true_or, or_true, run_s, e_nop, e_iconst, e_bipush, e_sipush, e_lconst, e_iload, e_iload_n, e_lload, e_lload_n, e_aload, e_aload_n, e_istore, e_istore_n, e_iinc, e_iadd, e_isub, e_imul, e_lcmp, e_dupI, e_dupR, e_dup2, e_getfield, e_putfield, e_iaload, e_baload, e_laload, e_iastore, e_bastore, e_lastore, e_if, e_icmp, e_goto, e_tsw, e_ireturn0, e_ireturn1, e_return, e_call0, e_call1, e_call2, e_call3, lI_e, lL_e, lR_e, ak_nth, ak_set, ak_ok1, ak_jp, ak_b1, ak_b2, ak_sw, ak_la, ak_pad, true_and, and_true, List.map_cons, List.map_nil, List.sum_cons, List.sum_nil, Value.category, Option.toList_some, Option.toList_none, List.cons_append, List.nil_append, gM_0_0, pM_0_0, gM_0_1, pM_0_1, gM_0_2, pM_0_2, gM_0_3, pM_0_3, gM_0_4, gM_0_5, gM_0_6, gM_0_7, gM_0_8, gM_0_9, gM_0_10, gM_0_11, gM_0_12, gM_0_13, gM_0_14, gM_0_15, gM_0_16, rM_0, kM_1, kM_2, kM_3, kM_4, kM_5, kM_6, kM_7, kM_8, kM_9, kM_10, kM_11, kM_12, kM_13, fd_M_check_0, fd_M_check_9, fd_M_check_19, fd_M_check_38, fd_M_check_39, fd_M_check_47, fd_M_check_53, bk_M_check_0, bk_M_check_9, bk_M_check_19, bk_M_check_38, bk_M_check_39, bk_M_check_47, bk_M_check_53, cs_M_check]
    rw [← ht0]
    exact outer (a.1 1) 0 none (by omega)
  · exact h.elim
set_option maxRecDepth 20000 in
theorem ct_M_check (l : Launch) : ak_Ctr l cl_all lay_M y_M_check ws_M_check rm_M_check pt_M_check := by
  refine ak_met (cs := cs_M_check) (reg := rg_M_check) (bl := bl_M_check) (by decide +kernel) rfl (cl_ok _) rfl ok_M_check ?_ vc_M_check
  intro a n b ci h
  match a, h with
  | 0, h =>
    cases h
    exact ak_ccV (ct_M_isBroken l) rfl 468 469 18 25 470 (by decide +kernel) ⟨rfl, rfl⟩ (by decide +kernel) (by decide +kernel)
  | k + 1, h => cases h
def pt_M_broken : ak_P := fun vs t Q => match vs with
  | [.ref 0, .int x] => ∃ a, AI a ∧ RM t a ∧ ∀ t', RM t' a → Q (some (.int (f_broken a x))) t'
  | _ => False
def cs_M_broken : Nat → ak_P := fun a => match a with
  | _ => pt_M_isBroken
theorem vc_M_broken : ak_VC lay_M cs_M_broken bl_M_broken 5 pt_M_broken := by
  intro vs t Q h
  unfold pt_M_broken at h
  split at h
  · rename_i x
    obtain ⟨a, hA, hR, h⟩ := h
    have hn := hA.1
    have hR0 := RM_c hR
    refine ⟨Nat.le_of_ble_eq_true rfl, fun J hJ => ?_⟩
    obtain ⟨t0, ht0⟩ : ∃ t0, t0 = ak_p1 t 0 0 0 := ⟨_, rfl⟩
    rw [← ht0] at hR0
    have h := h t0 hR0
    unfold f_broken at h
    have hsm : ∀ i, i ≤ a.1 1 → sm (a_wr a) i ≤ 750 := fun i hi => by
      have := sm_le (a_wr_le a) i
      omega
    have outer : ∀ d i (o : Option Value), i + d = a.1 1 → (x < 0 ∨ ∃ x' : Nat, x' < 2147483648 ∧ x = nI x' ∧ sm (a_wr a) i ≤ x') → J 9 [some (.ref 0), some (.int x), some (.int (nI (sm (a_wr a) i))), some (.int (nI (i + 1))), o] [] t0 := by
      intro d
      induction d with
      | zero =>
        intro i o hi hx
        have e : i = a.1 1 := by omega
        subst e
        refine hJ 3 _ _ _ _ ?_
        simp only [Nat.reduceAdd, Nat.reduceLeDiff, Nat.zero_le, true_or, or_true, run_s, e_nop, e_iconst, e_bipush, e_sipush, e_lconst, e_iload, e_iload_n, e_lload, e_lload_n, e_aload, e_aload_n, e_istore, e_istore_n, e_iinc, e_iadd, e_isub, e_imul, e_lcmp, e_dupI, e_dupR, e_dup2, e_getfield, e_putfield, e_iaload, e_baload, e_laload, e_iastore, e_bastore, e_lastore, e_if, e_icmp, e_goto, e_tsw, e_ireturn0, e_ireturn1, e_return, e_call0, e_call1, e_call2, e_call3, lI_e, lL_e, lR_e, ak_nth, ak_set, ak_ok1, ak_jp, ak_b1, ak_b2, ak_sw, ak_la, ak_pad, true_and, and_true, List.map_cons, List.map_nil, List.sum_cons, List.sum_nil, Value.category, Option.toList_some, Option.toList_none, List.cons_append, List.nil_append, gM_0_0, pM_0_0, gM_0_1, pM_0_1, gM_0_2, pM_0_2, gM_0_3, pM_0_3, gM_0_4, gM_0_5, gM_0_6, gM_0_7, gM_0_8, gM_0_9, gM_0_10, gM_0_11, gM_0_12, gM_0_13, gM_0_14, gM_0_15, gM_0_16, rM_0, kM_1, kM_2, kM_3, kM_4, kM_5, kM_6, kM_7, kM_8, kM_9, kM_10, kM_11, kM_12, kM_13, fd_M_broken_0, fd_M_broken_9, fd_M_broken_20, fd_M_broken_39, fd_M_broken_46, fd_M_broken_49, fd_M_broken_55, fd_M_broken_61, bk_M_broken_0, bk_M_broken_9, bk_M_broken_20, bk_M_broken_39, bk_M_broken_46, bk_M_broken_49, bk_M_broken_55, bk_M_broken_61, cs_M_broken]
        rw [hR0.1.2.1, q_lt (by omega) (by omega)]
        refine ⟨fun _ => ?_, fun q => absurd (by omega) q⟩
        rcases hx with hx | ⟨x', hx1, rfl, hx2⟩
        · rw [if_pos hx] at h; exact h
        · rw [if_neg (nI_pos hx1), q_cl hx1, bk_f_0 hx2] at h; exact h
      | succ d ih =>
        intro i o hi hx
        have inner : ∀ d2 p, p + d2 = 3 → (x < 0 ∨ ∃ x' : Nat, x' < 2147483648 ∧ x = nI x' ∧ sm (a_wr a) i + cn (fun p => a_brB a (i + 1) (p - 1)) p ≤ x') → J 20 [some (.ref 0), some (.int x), some (.int (nI (sm (a_wr a) i + cn (fun p => a_brB a (i + 1) (p - 1)) p))), some (.int (nI (i + 1))), some (.int (nI p))] [] t0 := by
          intro d2
          induction d2 with
          | zero =>
            intro p hp hx
            have e : p = 3 := by omega
            subst e
            refine hJ 3 _ _ _ _ ?_
            simp only [Nat.reduceAdd, Nat.reduceLeDiff, Nat.zero_le, true_or, or_true, run_s, e_nop, e_iconst, e_bipush, e_sipush, e_lconst, e_iload, e_iload_n, e_lload, e_lload_n, e_aload, e_aload_n, e_istore, e_istore_n, e_iinc, e_iadd, e_isub, e_imul, e_lcmp, e_dupI, e_dupR, e_dup2, e_getfield, e_putfield, e_iaload, e_baload, e_laload, e_iastore, e_bastore, e_lastore, e_if, e_icmp, e_goto, e_tsw, e_ireturn0, e_ireturn1, e_return, e_call0, e_call1, e_call2, e_call3, lI_e, lL_e, lR_e, ak_nth, ak_set, ak_ok1, ak_jp, ak_b1, ak_b2, ak_sw, ak_la, ak_pad, true_and, and_true, List.map_cons, List.map_nil, List.sum_cons, List.sum_nil, Value.category, Option.toList_some, Option.toList_none, List.cons_append, List.nil_append, gM_0_0, pM_0_0, gM_0_1, pM_0_1, gM_0_2, pM_0_2, gM_0_3, pM_0_3, gM_0_4, gM_0_5, gM_0_6, gM_0_7, gM_0_8, gM_0_9, gM_0_10, gM_0_11, gM_0_12, gM_0_13, gM_0_14, gM_0_15, gM_0_16, rM_0, kM_1, kM_2, kM_3, kM_4, kM_5, kM_6, kM_7, kM_8, kM_9, kM_10, kM_11, kM_12, kM_13, fd_M_broken_0, fd_M_broken_9, fd_M_broken_20, fd_M_broken_39, fd_M_broken_46, fd_M_broken_49, fd_M_broken_55, fd_M_broken_61, bk_M_broken_0, bk_M_broken_9, bk_M_broken_20, bk_M_broken_39, bk_M_broken_46, bk_M_broken_49, bk_M_broken_55, bk_M_broken_61, cs_M_broken, nI_1]
            refine ⟨fun _ => ?_, fun q => absurd (by decide) q⟩
            have := ih (i + 1) (some (.int (nI 3))) (by omega) (by rw [sm, a_wr_br]; exact hx)
            rw [sm, a_wr_br] at this
            exact this
          | succ d2 ih2 =>
            intro p hp hx
            have hh := ih2 (p + 1) (by omega)
            have hle := cn_le (fun p => a_brB a (i + 1) (p - 1)) p
            have hs0 := hsm i (by omega)
            refine hJ 4 _ _ _ _ ?_
            simp only [Nat.reduceAdd, Nat.reduceLeDiff, Nat.zero_le, true_or, or_true, run_s, e_nop, e_iconst, e_bipush, e_sipush, e_lconst, e_iload, e_iload_n, e_lload, e_lload_n, e_aload, e_aload_n, e_istore, e_istore_n, e_iinc, e_iadd, e_isub, e_imul, e_lcmp, e_dupI, e_dupR, e_dup2, e_getfield, e_putfield, e_iaload, e_baload, e_laload, e_iastore, e_bastore, e_lastore, e_if, e_icmp, e_goto, e_tsw, e_ireturn0, e_ireturn1, e_return, e_call0, e_call1, e_call2, e_call3, lI_e, lL_e, lR_e, ak_nth, ak_set, ak_ok1, ak_jp, ak_b1, ak_b2, ak_sw, ak_la, ak_pad, true_and, and_true, List.map_cons, List.map_nil, List.sum_cons, List.sum_nil, Value.category, Option.toList_some, Option.toList_none, List.cons_append, List.nil_append, gM_0_0, pM_0_0, gM_0_1, pM_0_1, gM_0_2, pM_0_2, gM_0_3, pM_0_3, gM_0_4, gM_0_5, gM_0_6, gM_0_7, gM_0_8, gM_0_9, gM_0_10, gM_0_11, gM_0_12, gM_0_13, gM_0_14, gM_0_15, gM_0_16, rM_0, kM_1, kM_2, kM_3, kM_4, kM_5, kM_6, kM_7, kM_8, kM_9, kM_10, kM_11, kM_12, kM_13, fd_M_broken_0, fd_M_broken_9, fd_M_broken_20, fd_M_broken_39, fd_M_broken_46, fd_M_broken_49, fd_M_broken_55, fd_M_broken_61, bk_M_broken_0, bk_M_broken_9, bk_M_broken_20, bk_M_broken_39, bk_M_broken_46, bk_M_broken_49, bk_M_broken_55, bk_M_broken_61, cs_M_broken, pt_M_isBroken, nI_1]
            simp only [bt0, Classical.not_not, i10, false_implies, not_false_eq_true, true_implies, not_true_eq_false, true_and, and_true, false_and, and_false, imp_self]
            rw [n_3, q_le (by omega) (by omega)]
            refine ⟨fun q => absurd q (by omega), fun _ => ⟨a, i + 1, p, hA, hR0, rfl, rfl, by omega, by omega, by omega, fun q => ⟨fun q2 => ?_, fun q2 => ?_⟩, fun q => ?_⟩⟩
            · rw [cn, show p + 1 - 1 = p by omega, if_pos q] at hh
              refine hh ?_
              rcases hx with hx | ⟨x', hx1, rfl, hx2⟩
              · exact Or.inl hx
              · refine Or.inr ⟨x', hx1, rfl, ?_⟩
                rw [q_eq (by omega) hx1] at q2
                omega
            · rcases hx with hx | ⟨x', hx1, rfl, hx2⟩
              · rw [← q2] at hx
                exact absurd hx (nI_pos (by omega))
              · rw [q_eq (by omega) hx1] at q2
                have hlt : x' < sm (a_wr a) (i + 1) := by
                  rw [sm, a_wr_br]
                  have hm : cn (fun p => a_brB a (i + 1) (p - 1)) (p + 1) ≤ cn (fun p => a_brB a (i + 1) (p - 1)) 3 := by
                    rcases (by omega : p = 0 ∨ p = 1 ∨ p = 2) with rfl | rfl | rfl
                    · simp only [cn]; omega
                    · simp only [cn]; omega
                    · exact Nat.le_refl _
                  rw [cn, show p + 1 - 1 = p by omega, if_pos q] at hm
                  omega
                rw [if_neg (nI_pos hx1), q_cl hx1, bk_f_at (k := i) (by omega) hlt (by omega)] at h
                exact h
            · rw [cn, show p + 1 - 1 = p by omega, q, if_neg (by decide)] at hh
              exact hh hx
        refine hJ 3 _ _ _ _ ?_
        simp only [Nat.reduceAdd, Nat.reduceLeDiff, Nat.zero_le, true_or, or_true, run_s, e_nop, e_iconst, e_bipush, e_sipush, e_lconst, e_iload, e_iload_n, e_lload, e_lload_n, e_aload, e_aload_n, e_istore, e_istore_n, e_iinc, e_iadd, e_isub, e_imul, e_lcmp, e_dupI, e_dupR, e_dup2, e_getfield, e_putfield, e_iaload, e_baload, e_laload, e_iastore, e_bastore, e_lastore, e_if, e_icmp, e_goto, e_tsw, e_ireturn0, e_ireturn1, e_return, e_call0, e_call1, e_call2, e_call3, lI_e, lL_e, lR_e, ak_nth, ak_set, ak_ok1, ak_jp, ak_b1, ak_b2, ak_sw, ak_la, ak_pad, true_and, and_true, List.map_cons, List.map_nil, List.sum_cons, List.sum_nil, Value.category, Option.toList_some, Option.toList_none, List.cons_append, List.nil_append, gM_0_0, pM_0_0, gM_0_1, pM_0_1, gM_0_2, pM_0_2, gM_0_3, pM_0_3, gM_0_4, gM_0_5, gM_0_6, gM_0_7, gM_0_8, gM_0_9, gM_0_10, gM_0_11, gM_0_12, gM_0_13, gM_0_14, gM_0_15, gM_0_16, rM_0, kM_1, kM_2, kM_3, kM_4, kM_5, kM_6, kM_7, kM_8, kM_9, kM_10, kM_11, kM_12, kM_13, fd_M_broken_0, fd_M_broken_9, fd_M_broken_20, fd_M_broken_39, fd_M_broken_46, fd_M_broken_49, fd_M_broken_55, fd_M_broken_61, bk_M_broken_0, bk_M_broken_9, bk_M_broken_20, bk_M_broken_39, bk_M_broken_46, bk_M_broken_49, bk_M_broken_55, bk_M_broken_61, cs_M_broken]
        rw [hR0.1.2.1, q_lt (by omega) (by omega)]
        refine ⟨fun q => absurd q (by omega), fun _ => ?_⟩
        exact inner 3 0 (by omega) (by simpa [cn] using hx)
    refine hJ 3 _ _ _ _ ?_
    simp only [Nat.reduceAdd, Nat.reduceLeDiff, Nat.zero_le, true_or, or_true, run_s, e_nop, e_iconst, e_bipush, e_sipush, e_lconst, e_iload, e_iload_n, e_lload, e_lload_n, e_aload, e_aload_n, e_istore, e_istore_n, e_iinc, e_iadd, e_isub, e_imul, e_lcmp, e_dupI, e_dupR, e_dup2, e_getfield, e_putfield, e_iaload, e_baload, e_laload, e_iastore, e_bastore, e_lastore, e_if, e_icmp, e_goto, e_tsw, e_ireturn0, e_ireturn1, e_return, e_call0, e_call1, e_call2, e_call3, lI_e, lL_e, lR_e, ak_nth, ak_set, ak_ok1, ak_jp, ak_b1, ak_b2, ak_sw, ak_la, ak_pad, true_and, and_true, List.map_cons, List.map_nil, List.sum_cons, List.sum_nil, Value.category, Option.toList_some, Option.toList_none, List.cons_append, List.nil_append, gM_0_0, pM_0_0, gM_0_1, pM_0_1, gM_0_2, pM_0_2, gM_0_3, pM_0_3, gM_0_4, gM_0_5, gM_0_6, gM_0_7, gM_0_8, gM_0_9, gM_0_10, gM_0_11, gM_0_12, gM_0_13, gM_0_14, gM_0_15, gM_0_16, rM_0, kM_1, kM_2, kM_3, kM_4, kM_5, kM_6, kM_7, kM_8, kM_9, kM_10, kM_11, kM_12, kM_13, fd_M_broken_0, fd_M_broken_9, fd_M_broken_20, fd_M_broken_39, fd_M_broken_46, fd_M_broken_49, fd_M_broken_55, fd_M_broken_61, bk_M_broken_0, bk_M_broken_9, bk_M_broken_20, bk_M_broken_39, bk_M_broken_46, bk_M_broken_49, bk_M_broken_55, bk_M_broken_61, cs_M_broken]
    rw [← ht0]
    refine outer (a.1 1) 0 none (by omega) ?_
    by_cases hx : x < 0
    · exact Or.inl hx
    · obtain ⟨x', hx1, hx2⟩ := nI_of hx
      exact Or.inr ⟨x', hx1, hx2, by simp [sm]⟩
  · exact h.elim
set_option maxRecDepth 20000 in
theorem ct_M_broken (l : Launch) : ak_Ctr l cl_all lay_M y_M_broken ws_M_broken rm_M_broken pt_M_broken := by
  refine ak_met (cs := cs_M_broken) (reg := rg_M_broken) (bl := bl_M_broken) (by decide +kernel) rfl (cl_ok _) rfl ok_M_broken ?_ vc_M_broken
  intro a n b ci h
  match a, h with
  | 0, h =>
    cases h
    exact ak_ccV (ct_M_isBroken l) rfl 468 469 18 25 470 (by decide +kernel) ⟨rfl, rfl⟩ (by decide +kernel) (by decide +kernel)
  | k + 1, h => cases h
def pt_M_told : ak_P := fun vs t Q => match vs with
  | [.ref 0, .int w] => ∃ a, AI a ∧ RM t a ∧ ∀ t', RM t' a → Q (some (.int (f_told a w))) t'
  | _ => False
def cs_M_told : Nat → ak_P := fun _ _ _ _ => False
theorem vc_M_told : ak_VC lay_M cs_M_told bl_M_told 6 pt_M_told := by
  intro vs t Q h
  unfold pt_M_told at h
  split at h
  · rename_i w
    obtain ⟨a, hA, hR, h⟩ := h
    have hn := hA.1
    have hR0 := RM_c hR
    refine ⟨Nat.le_of_ble_eq_true rfl, fun J hJ => ?_⟩
    obtain ⟨t0, ht0⟩ : ∃ t0, t0 = ak_p1 t 0 0 0 := ⟨_, rfl⟩
    rw [← ht0] at hR0
    have h := h t0 hR0
    unfold f_told at h
    have loop : ∀ d i, i + d = a.1 1 → J 15 [some (.ref 0), some (.int w), some (.int (nI (cn (fun i => decide (a.2.1 5 i = 1)) i))), some (.int (nI (cn (fun i => decide (a.2.1 5 i = 2)) i))), some (.int (nI (cn (fun i => decide (a.2.1 6 i ≠ 0)) i))), some (.int (nI (i + 1)))] [] t0 := by
      intro d
      induction d with
      | zero =>
        intro i hi
        have e : i = a.1 1 := by omega
        subst e
        refine hJ 4 _ _ _ _ ?_
        simp only [Nat.reduceAdd, Nat.reduceLeDiff, Nat.zero_le, true_or, or_true, run_s, e_nop, e_iconst, e_bipush, e_sipush, e_lconst, e_iload, e_iload_n, e_lload, e_lload_n, e_aload, e_aload_n, e_istore, e_istore_n, e_iinc, e_iadd, e_isub, e_imul, e_lcmp, e_dupI, e_dupR, e_dup2, e_getfield, e_putfield, e_iaload, e_baload, e_laload, e_iastore, e_bastore, e_lastore, e_if, e_icmp, e_goto, e_tsw, e_ireturn0, e_ireturn1, e_return, e_call0, e_call1, e_call2, e_call3, lI_e, lL_e, lR_e, ak_nth, ak_set, ak_ok1, ak_jp, ak_b1, ak_b2, ak_sw, ak_la, ak_pad, true_and, and_true, List.map_cons, List.map_nil, List.sum_cons, List.sum_nil, Value.category, Option.toList_some, Option.toList_none, List.cons_append, List.nil_append, gM_0_0, pM_0_0, gM_0_1, pM_0_1, gM_0_2, pM_0_2, gM_0_3, pM_0_3, gM_0_4, gM_0_5, gM_0_6, gM_0_7, gM_0_8, gM_0_9, gM_0_10, gM_0_11, gM_0_12, gM_0_13, gM_0_14, gM_0_15, gM_0_16, rM_0, kM_1, kM_2, kM_3, kM_4, kM_5, kM_6, kM_7, kM_8, kM_9, kM_10, kM_11, kM_12, kM_13, fd_M_told_0, fd_M_told_15, fd_M_told_40, fd_M_told_41, fd_M_told_59, fd_M_told_60, fd_M_told_78, fd_M_told_79, fd_M_told_88, fd_M_told_128, fd_M_told_133, fd_M_told_138, fd_M_told_140, fd_M_told_142, fd_M_told_145, fd_M_told_150, bk_M_told_0, bk_M_told_15, bk_M_told_40, bk_M_told_41, bk_M_told_59, bk_M_told_60, bk_M_told_78, bk_M_told_79, bk_M_told_88, bk_M_told_128, bk_M_told_133, bk_M_told_138, bk_M_told_140, bk_M_told_142, bk_M_told_145, bk_M_told_150]
        rw [hR0.1.1, hR0.1.2.1, hR0.1.2.2, q_lt (by omega) (by omega)]
        refine ⟨fun _ => ⟨fun q => ?_, fun q0 => ⟨fun q => ?_, fun q1 => ⟨fun q => ?_, fun q2 => ⟨fun q => ?_, fun q3 => ⟨fun q => ?_, fun q4 => ⟨fun q => ?_, fun q5 => ?_⟩⟩⟩⟩⟩⟩, fun q => absurd (by omega) q⟩
        · rw [if_pos q] at h; exact h
        · rw [if_neg q0, if_pos q] at h; exact h
        · rw [if_neg q0, if_neg q1, if_pos q] at h; exact h
        · rw [if_neg q0, if_neg q1, if_neg q2, if_pos q] at h; exact h
        · rw [if_neg q0, if_neg q1, if_neg q2, if_neg q3, if_pos q] at h; exact h
        · rw [if_neg q0, if_neg q1, if_neg q2, if_neg q3, if_neg q4, if_pos q] at h; exact h
        · rw [if_neg q0, if_neg q1, if_neg q2, if_neg q3, if_neg q4, if_neg q5] at h; exact h
      | succ d ih =>
        intro i hi
        have hh := ih (i + 1) (by omega)
        obtain ⟨s1, s2, _⟩ := stM hA hR0 (show 1 ≤ i + 1 by omega) (by omega)
        have r := (hR0.2.2.1 (i + 1) (by omega)).2.2.2
        have rb := (hA.2.2.1 (i + 1) (by omega)).2.2.2
        have er : nI (a.2.1 6 (i + 1)) = 0 ↔ a.2.1 6 (i + 1) = 0 := by rw [n_0]; exact nI_eq (by omega) (by omega)
        have e0 : ∀ z : Nat, nI z + 0 = nI z := fun z => by rw [n_0, nI_add]; rfl
        refine hJ 8 _ _ _ _ ?_
        simp only [Nat.reduceAdd, Nat.reduceLeDiff, Nat.zero_le, true_or, or_true, run_s, e_nop, e_iconst, e_bipush, e_sipush, e_lconst, e_iload, e_iload_n, e_lload, e_lload_n, e_aload, e_aload_n, e_istore, e_istore_n, e_iinc, e_iadd, e_isub, e_imul, e_lcmp, e_dupI, e_dupR, e_dup2, e_getfield, e_putfield, e_iaload, e_baload, e_laload, e_iastore, e_bastore, e_lastore, e_if, e_icmp, e_goto, e_tsw, e_ireturn0, e_ireturn1, e_return, e_call0, e_call1, e_call2, e_call3, lI_e, lL_e, lR_e, ak_nth, ak_set, ak_ok1, ak_jp, ak_b1, ak_b2, ak_sw, ak_la, ak_pad, true_and, and_true, List.map_cons, List.map_nil, List.sum_cons, List.sum_nil, Value.category, Option.toList_some, Option.toList_none, List.cons_append, List.nil_append, gM_0_0, pM_0_0, gM_0_1, pM_0_1, gM_0_2, pM_0_2, gM_0_3, pM_0_3, gM_0_4, gM_0_5, gM_0_6, gM_0_7, gM_0_8, gM_0_9, gM_0_10, gM_0_11, gM_0_12, gM_0_13, gM_0_14, gM_0_15, gM_0_16, rM_0, kM_1, kM_2, kM_3, kM_4, kM_5, kM_6, kM_7, kM_8, kM_9, kM_10, kM_11, kM_12, kM_13, fd_M_told_0, fd_M_told_15, fd_M_told_40, fd_M_told_41, fd_M_told_59, fd_M_told_60, fd_M_told_78, fd_M_told_79, fd_M_told_88, fd_M_told_128, fd_M_told_133, fd_M_told_138, fd_M_told_140, fd_M_told_142, fd_M_told_145, fd_M_told_150, bk_M_told_0, bk_M_told_15, bk_M_told_40, bk_M_told_41, bk_M_told_59, bk_M_told_60, bk_M_told_78, bk_M_told_79, bk_M_told_88, bk_M_told_128, bk_M_told_133, bk_M_told_138, bk_M_told_140, bk_M_told_142, bk_M_told_145, bk_M_told_150, nI_1]
        rw [hR0.1.2.1, q_lt (by omega) (by omega), q_cl (a := i + 1) (by omega), s1, s2, r, er]
        simp only [e0]
        refine ⟨fun q => absurd q (by omega), fun _ => ⟨q_in (by omega) (by omega), fun q1 => ⟨q_in (by omega) (by omega), fun q2 => ⟨q_in (by omega) (by omega), fun q3 => ?_, fun q3 => ?_⟩, fun q2 => ⟨q_in (by omega) (by omega), fun q3 => ?_, fun q3 => ?_⟩⟩, fun q1 => ⟨q_in (by omega) (by omega), fun q2 => ⟨q_in (by omega) (by omega), fun q3 => ?_, fun q3 => ?_⟩, fun q2 => ⟨q_in (by omega) (by omega), fun q3 => ?_, fun q3 => ?_⟩⟩⟩⟩ <;> first | (exfalso; omega) | simpa [cn, q1, q2, q3] using hh
    refine hJ 3 _ _ _ _ ?_
    simp only [Nat.reduceAdd, Nat.reduceLeDiff, Nat.zero_le, true_or, or_true, run_s, e_nop, e_iconst, e_bipush, e_sipush, e_lconst, e_iload, e_iload_n, e_lload, e_lload_n, e_aload, e_aload_n, e_istore, e_istore_n, e_iinc, e_iadd, e_isub, e_imul, e_lcmp, e_dupI, e_dupR, e_dup2, e_getfield, e_putfield, e_iaload, e_baload, e_laload, e_iastore, e_bastore, e_lastore, e_if, e_icmp, e_goto, e_tsw, e_ireturn0, e_ireturn1, e_return, e_call0, e_call1, e_call2, e_call3, lI_e, lL_e, lR_e, ak_nth, ak_set, ak_ok1, ak_jp, ak_b1, ak_b2, ak_sw, ak_la, ak_pad, true_and, and_true, List.map_cons, List.map_nil, List.sum_cons, List.sum_nil, Value.category, Option.toList_some, Option.toList_none, List.cons_append, List.nil_append, gM_0_0, pM_0_0, gM_0_1, pM_0_1, gM_0_2, pM_0_2, gM_0_3, pM_0_3, gM_0_4, gM_0_5, gM_0_6, gM_0_7, gM_0_8, gM_0_9, gM_0_10, gM_0_11, gM_0_12, gM_0_13, gM_0_14, gM_0_15, gM_0_16, rM_0, kM_1, kM_2, kM_3, kM_4, kM_5, kM_6, kM_7, kM_8, kM_9, kM_10, kM_11, kM_12, kM_13, fd_M_told_0, fd_M_told_15, fd_M_told_40, fd_M_told_41, fd_M_told_59, fd_M_told_60, fd_M_told_78, fd_M_told_79, fd_M_told_88, fd_M_told_128, fd_M_told_133, fd_M_told_138, fd_M_told_140, fd_M_told_142, fd_M_told_145, fd_M_told_150, bk_M_told_0, bk_M_told_15, bk_M_told_40, bk_M_told_41, bk_M_told_59, bk_M_told_60, bk_M_told_78, bk_M_told_79, bk_M_told_88, bk_M_told_128, bk_M_told_133, bk_M_told_138, bk_M_told_140, bk_M_told_142, bk_M_told_145, bk_M_told_150]
    rw [← ht0]
    exact loop (a.1 1) 0 (by omega)
  · exact h.elim
set_option maxRecDepth 20000 in
theorem ct_M_told (l : Launch) : ak_Ctr l cl_all lay_M y_M_told ws_M_told rm_M_told pt_M_told := by
  refine ak_met (cs := cs_M_told) (reg := rg_M_told) (bl := bl_M_told) (by decide +kernel) rfl (cl_ok _) rfl ok_M_told ?_ vc_M_told
  intro a n b ci h
  match a, h with
  | k + 0, h => cases h
end
section
/-! the reference's child and entry -/
theorem fd_min {p : Nat → Bool} {c : Nat} : ∀ {n : Nat}, c + 1 ≤ n → p (c + 1) = true → (∀ j, 1 ≤ j → j ≤ c → p j = false) → fd p n = c + 1
  | 0, h, _, _ => by omega
  | n + 1, h, hp, hl => by
    rw [fd]
    by_cases e : c = n
    · subst e
      rw [fd_0 hl, if_neg (fun z => z rfl), if_pos hp]
    · rw [fd_min (n := n) (by omega) hp hl, if_pos (by omega)]
def a_ahB (a : ab_T) (d x y : Nat) : Bool := if d = 0 then a_kdB a x y else a_ltB a x y
def pt_M_isAhead : ak_P := fun vs t Q => match vs with
  | [.ref 0, .int x, .int y, .int z] => ∃ (a : ab_T) (i j d : Nat), AI a ∧ RM t a ∧ x = nI i ∧ y = nI j ∧ z = nI d ∧ i ≤ 250 ∧ j ≤ 250 ∧ d < 2 ∧ (a_ahB a d i j = true → Q (some (.int 1)) t) ∧ (a_ahB a d i j = false → Q (some (.int 0)) t)
  | _ => False
def cs_M_isAhead : Nat → ak_P := fun _ _ _ _ => False
theorem vc_M_isAhead : ak_VC lay_M cs_M_isAhead bl_M_isAhead 4 pt_M_isAhead := by
  intro vs t Q h
  unfold pt_M_isAhead at h
  split at h
  · rename_i x y z
    obtain ⟨a, i, j, d, hA, hR, rfl, rfl, rfl, hi, hj, hd, hy, hno⟩ := h
    have hn := hA.1
    obtain ⟨b1, _, b3, _⟩ := hR.2.2.1 i hi
    obtain ⟨c1, _, c3, _⟩ := hR.2.2.1 j hj
    have e1 := (hA.2.2.1 i hi).1
    have e2 := (hA.2.2.1 j hj).1
    refine ⟨Nat.le_of_ble_eq_true rfl, fun J hJ => hJ 6 _ _ _ _ ?_⟩
    simp only [Nat.reduceAdd, Nat.reduceLeDiff, Nat.zero_le, true_or, or_true, run_s, e_nop, e_iconst, e_bipush, e_sipush, e_lconst, e_iload, e_iload_n, e_lload, e_lload_n, e_aload, e_aload_n, e_istore, e_istore_n, e_iinc, e_iadd, e_isub, e_imul, e_lcmp, e_dupI, e_dupR, e_dup2, e_getfield, e_putfield, e_iaload, e_baload, e_laload, e_iastore, e_bastore, e_lastore, e_if, e_icmp, e_goto, e_tsw, e_ireturn0, e_ireturn1, e_return, e_call0, e_call1, e_call2, e_call3, lI_e, lL_e, lR_e, ak_nth, ak_set, ak_ok1, ak_jp, ak_b1, ak_b2, ak_sw, ak_la, ak_pad, true_and, and_true, List.map_cons, List.map_nil, List.sum_cons, List.sum_nil, Value.category, Option.toList_some, Option.toList_none, List.cons_append, List.nil_append, gM_0_0, pM_0_0, gM_0_1, pM_0_1, gM_0_2, pM_0_2, gM_0_3, pM_0_3, gM_0_4, gM_0_5, gM_0_6, gM_0_7, gM_0_8, gM_0_9, gM_0_10, gM_0_11, gM_0_12, gM_0_13, gM_0_14, gM_0_15, gM_0_16, rM_0, kM_1, kM_2, kM_3, kM_4, kM_5, kM_6, kM_7, kM_8, kM_9, kM_10, kM_11, kM_12, kM_13, fd_M_isAhead_0, fd_M_isAhead_38, fd_M_isAhead_39, fd_M_isAhead_40, fd_M_isAhead_76, fd_M_isAhead_80, fd_M_isAhead_89, fd_M_isAhead_90, bk_M_isAhead_0, bk_M_isAhead_38, bk_M_isAhead_39, bk_M_isAhead_40, bk_M_isAhead_76, bk_M_isAhead_80, bk_M_isAhead_89, bk_M_isAhead_90]
    have ed : nI d = 0 ↔ d = 0 := by rw [n_0]; exact nI_eq (by omega) (by omega)
    have ek : nI (a.2.1 3 i) = nI (a.2.1 3 j) ↔ a.2.1 3 i = a.2.1 3 j := nI_eq (by omega) (by omega)
    have el : nI (a.2.1 3 j) ≤ nI (a.2.1 3 i) ↔ a.2.1 3 j ≤ a.2.1 3 i := nI_leI (by omega) (by omega)
    have ei : nI j ≤ nI i ↔ j ≤ i := nI_leI (by omega) (by omega)
    have vi : ∀ n, 251 ≤ n → n < 2147483648 → vp_in (nI i) n := fun n h1 h2 => q_in (by omega) h2
    have vj : ∀ n, 251 ≤ n → n < 2147483648 → vp_in (nI j) n := fun n h1 h2 => q_in (by omega) h2
    rw [q_cl (by omega), q_cl (by omega), b1, c1, b3, c3, ed, ek, el, ei, lg_cmp_eq, lg_cmp_ge]
    simp only [vi 251 (by omega) (by omega), vj 251 (by omega) (by omega), true_and]
    unfold a_ahB a_kdB a_ltB at hy hno
    have key : (¬ a.2.2.1 i = a.2.2.1 j → (a.2.2.1 j ≤ a.2.2.1 i → Q (some (Value.int 0)) t) ∧ (¬ a.2.2.1 j ≤ a.2.2.1 i → Q (some (Value.int 1)) t)) ∧ (a.2.2.1 i = a.2.2.1 j → (j ≤ i → Q (some (Value.int 0)) t) ∧ (¬ j ≤ i → Q (some (Value.int 1)) t)) ∨ (d = 0 ∧ ¬ a.2.1 3 i = a.2.1 3 j) := by
      by_cases w : d = 0 ∧ ¬ a.2.1 3 i = a.2.1 3 j
      · exact Or.inr w
      · left
        have e : (if d = 0 then (if a.2.1 3 i ≠ a.2.1 3 j then decide (a.2.1 3 i < a.2.1 3 j) else decide (a.2.2.1 i < a.2.2.1 j ∨ (a.2.2.1 i = a.2.2.1 j ∧ i < j))) else decide (a.2.2.1 i < a.2.2.1 j ∨ (a.2.2.1 i = a.2.2.1 j ∧ i < j))) = decide (a.2.2.1 i < a.2.2.1 j ∨ (a.2.2.1 i = a.2.2.1 j ∧ i < j)) := by
          by_cases w1 : d = 0
          · rw [if_pos w1, if_neg (fun z => w ⟨w1, z⟩)]
          · rw [if_neg w1]
        rw [e, decide_eq_true_eq] at hy
        rw [e, decide_eq_false_iff_not] at hno
        refine ⟨fun q => ⟨fun q2 => hno ?_, fun q2 => hy (Or.inl (Int64.not_le.mp q2))⟩, fun q => ⟨fun q2 => hno ?_, fun q2 => hy (Or.inr ⟨q, by omega⟩)⟩⟩
        · rintro (z | z)
          · exact absurd q2 (Int64.not_le.mpr z)
          · exact q z.1
        · rintro (z | z)
          · rw [q] at z; exact absurd z Int64.lt_irrefl
          · omega
    refine ⟨fun q => ?_, fun q => ⟨fun q2 => ?_, fun q2 => ?_⟩⟩
    · rcases key with key | key
      · exact ⟨key.2, key.1⟩
      · exact absurd key.1 q
    · rcases key with key | key
      · exact ⟨key.2, key.1⟩
      · exact absurd q2 key.2
    · rw [if_pos q, if_pos q2, decide_eq_true_eq] at hy
      rw [if_pos q, if_pos q2, decide_eq_false_iff_not] at hno
      exact ⟨fun z => hno (by omega), fun z => hy (by omega)⟩
  · exact h.elim
set_option maxRecDepth 20000 in
theorem ct_M_isAhead (l : Launch) : ak_Ctr l cl_all lay_M y_M_isAhead ws_M_isAhead rm_M_isAhead pt_M_isAhead := by
  refine ak_met (cs := cs_M_isAhead) (reg := rg_M_isAhead) (bl := bl_M_isAhead) (by decide +kernel) rfl (cl_ok _) rfl ok_M_isAhead ?_ vc_M_isAhead
  intro a n b ci h
  match a, h with
  | k + 0, h => cases h
def pt_M_isChild : ak_P := fun vs t Q => match vs with
  | [.ref 0, .int x, .int y, .int z] => ∃ (a : ab_T) (g c d : Nat), AI a ∧ RM t a ∧ x = nI g ∧ y = nI c ∧ z = nI d ∧ 1 ≤ g ∧ g ≤ 250 ∧ 1 ≤ c ∧ c ≤ a.1 1 ∧ d < 2 ∧ (a_chB a g d c = true → Q (some (.int 1)) t) ∧ (a_chB a g d c = false → Q (some (.int 0)) t)
  | _ => False
def cs_M_isChild : Nat → ak_P := fun _ _ _ _ => False
theorem vc_M_isChild : ak_VC lay_M cs_M_isChild bl_M_isChild 4 pt_M_isChild := by
  intro vs t Q h
  unfold pt_M_isChild at h
  split at h
  · rename_i x y z
    obtain ⟨a, g, c, d, hA, hR, rfl, rfl, rfl, hg1, hg2, hc1, hc2, hd, hy, hno⟩ := h
    have hn := hA.1
    obtain ⟨_, b2, _, b4⟩ := hR.2.2.1 c (by omega)
    obtain ⟨_, e2, _, e4⟩ := hA.2.2.1 c (by omega)
    have s1 := (stM hA hR hc1 hc2).1
    refine ⟨Nat.le_of_ble_eq_true rfl, fun J hJ => hJ 6 _ _ _ _ ?_⟩
    simp only [Nat.reduceAdd, Nat.reduceLeDiff, Nat.zero_le, true_or, or_true, run_s, e_nop, e_iconst, e_bipush, e_sipush, e_lconst, e_iload, e_iload_n, e_lload, e_lload_n, e_aload, e_aload_n, e_istore, e_istore_n, e_iinc, e_iadd, e_isub, e_imul, e_lcmp, e_dupI, e_dupR, e_dup2, e_getfield, e_putfield, e_iaload, e_baload, e_laload, e_iastore, e_bastore, e_lastore, e_if, e_icmp, e_goto, e_tsw, e_ireturn0, e_ireturn1, e_return, e_call0, e_call1, e_call2, e_call3, lI_e, lL_e, lR_e, ak_nth, ak_set, ak_ok1, ak_jp, ak_b1, ak_b2, ak_sw, ak_la, ak_pad, true_and, and_true, List.map_cons, List.map_nil, List.sum_cons, List.sum_nil, Value.category, Option.toList_some, Option.toList_none, List.cons_append, List.nil_append, gM_0_0, pM_0_0, gM_0_1, pM_0_1, gM_0_2, pM_0_2, gM_0_3, pM_0_3, gM_0_4, gM_0_5, gM_0_6, gM_0_7, gM_0_8, gM_0_9, gM_0_10, gM_0_11, gM_0_12, gM_0_13, gM_0_14, gM_0_15, gM_0_16, rM_0, kM_1, kM_2, kM_3, kM_4, kM_5, kM_6, kM_7, kM_8, kM_9, kM_10, kM_11, kM_12, kM_13, fd_M_isChild_0, fd_M_isChild_23, fd_M_isChild_29, fd_M_isChild_37, fd_M_isChild_38, bk_M_isChild_0, bk_M_isChild_23, bk_M_isChild_29, bk_M_isChild_37, bk_M_isChild_38]
    have ed : nI d = 0 ↔ d = 0 := by rw [n_0]; exact nI_eq (by omega) (by omega)
    have eu : nI (a.2.1 4 c) = nI g ↔ a.2.1 4 c = g := nI_eq (by omega) (by omega)
    have er : nI (a.2.1 6 c) = nI g ↔ a.2.1 6 c = g := nI_eq (by omega) (by omega)
    rw [q_cl (by omega), s1, b2, b4, ed, eu, er]
    unfold a_chB at hy hno
    rw [decide_eq_true_eq] at hy
    rw [decide_eq_false_iff_not] at hno
    refine ⟨q_in (by omega) (by omega), fun q => hno (fun z => q z.1), fun q => ⟨fun q2 => ⟨q_in (by omega) (by omega), ?_⟩, fun q2 => ⟨q_in (by omega) (by omega), ?_⟩⟩⟩
    · rw [if_neg q2] at hy hno
      exact ⟨fun q3 => hno (fun z => q3 z.2), fun q3 => hy ⟨q, q3⟩⟩
    · rw [if_pos q2] at hy hno
      exact ⟨fun q3 => hno (fun z => q3 z.2), fun q3 => hy ⟨q, q3⟩⟩
  · exact h.elim
set_option maxRecDepth 20000 in
theorem ct_M_isChild (l : Launch) : ak_Ctr l cl_all lay_M y_M_isChild ws_M_isChild rm_M_isChild pt_M_isChild := by
  refine ak_met (cs := cs_M_isChild) (reg := rg_M_isChild) (bl := bl_M_isChild) (by decide +kernel) rfl (cl_ok _) rfl ok_M_isChild ?_ vc_M_isChild
  intro a n b ci h
  match a, h with
  | k + 0, h => cases h
def pt_M_isIn : ak_P := fun vs t Q => match vs with
  | [.ref 0, .int y, .int x] => ∃ (a : ab_T) (j i : Nat), AI a ∧ RM t a ∧ x = nI j ∧ y = nI i ∧ 1 ≤ j ∧ j ≤ a.1 2 ∧ 1 ≤ i ∧ i ≤ a.1 1 ∧ (a_inB a j i = true → Q (some (.int 1)) t) ∧ (a_inB a j i = false → Q (some (.int 0)) t)
  | _ => False
def cs_M_isIn : Nat → ak_P := fun _ _ _ _ => False
theorem vc_M_isIn : ak_VC lay_M cs_M_isIn bl_M_isIn 3 pt_M_isIn := by
  intro vs t Q h
  unfold pt_M_isIn at h
  split at h
  · rename_i y x
    obtain ⟨a, j, i, hA, hR, rfl, rfl, hj1, hj2, hi1, hi2, hy, hno⟩ := h
    have hn := hA.1
    refine ⟨Nat.le_of_ble_eq_true rfl, fun J hJ => hJ 6 _ _ _ _ ?_⟩
    simp only [Nat.reduceAdd, Nat.reduceLeDiff, Nat.zero_le, true_or, or_true, run_s, e_nop, e_iconst, e_bipush, e_sipush, e_lconst, e_iload, e_iload_n, e_lload, e_lload_n, e_aload, e_aload_n, e_istore, e_istore_n, e_iinc, e_iadd, e_isub, e_imul, e_lcmp, e_dupI, e_dupR, e_dup2, e_getfield, e_putfield, e_iaload, e_baload, e_laload, e_iastore, e_bastore, e_lastore, e_if, e_icmp, e_goto, e_tsw, e_ireturn0, e_ireturn1, e_return, e_call0, e_call1, e_call2, e_call3, lI_e, lL_e, lR_e, ak_nth, ak_set, ak_ok1, ak_jp, ak_b1, ak_b2, ak_sw, ak_la, ak_pad, true_and, and_true, List.map_cons, List.map_nil, List.sum_cons, List.sum_nil, Value.category, Option.toList_some, Option.toList_none, List.cons_append, List.nil_append, gM_0_0, pM_0_0, gM_0_1, pM_0_1, gM_0_2, pM_0_2, gM_0_3, pM_0_3, gM_0_4, gM_0_5, gM_0_6, gM_0_7, gM_0_8, gM_0_9, gM_0_10, gM_0_11, gM_0_12, gM_0_13, gM_0_14, gM_0_15, gM_0_16, rM_0, kM_1, kM_2, kM_3, kM_4, kM_5, kM_6, kM_7, kM_8, kM_9, kM_10, kM_11, kM_12, kM_13, fd_M_isIn_0, fd_M_isIn_45, fd_M_isIn_49, fd_M_isIn_50, bk_M_isIn_0, bk_M_isIn_45, bk_M_isIn_49, bk_M_isIn_50]
    obtain ⟨b1, _, b3, _⟩ := hR.2.2.1 i (by omega)
    have c1 := (hA.2.2.1 i (by omega)).1
    obtain ⟨d1, d2⟩ := hR.2.2.2.2.2 j (by omega)
    obtain ⟨e1, e2⟩ := hA.2.2.2.2.2.2.2.2.1 j (by omega)
    have s1 := (stM hA hR hi1 hi2).1
    simp only [a_inB, decide_eq_true_eq, decide_eq_false_iff_not] at hy hno
    have z8 : nI (a.2.1 8 j) = 0 ↔ a.2.1 8 j = 0 := by rw [n_0]; exact nI_eq (by omega) (by omega)
    have zk : nI (a.2.1 3 i) = nI (a.2.1 7 j) ↔ a.2.1 3 i = a.2.1 7 j := nI_eq (by omega) (by omega)
    have l0 : Int32.toInt64 0 = 0 := by decide
    rw [q_cl (by omega), q_cl (by omega), s1, b1, d1, d2, b3, z8, zk, lg_cmp_eq, l0]
    refine ⟨q_in (by omega) (by omega), fun q => hno (fun z => q z.1), fun q => ⟨q_in (by omega) (by omega), q_in (by omega) (by omega), fun q2 => hno (fun z => q2 z.2.1), fun q2 => ⟨q_in (by omega) (by omega), fun q3 => hy ⟨q, q2, fun z => z.1 q3⟩, fun q3 => ⟨q_in (by omega) (by omega), fun q4 => hno (fun z => z.2.2 ⟨q3, q4⟩), fun q4 => hy ⟨q, q2, fun z => q4 z.2⟩⟩⟩⟩⟩
  · exact h.elim
set_option maxRecDepth 20000 in
theorem ct_M_isIn (l : Launch) : ak_Ctr l cl_all lay_M y_M_isIn ws_M_isIn rm_M_isIn pt_M_isIn := by
  refine ak_met (cs := cs_M_isIn) (reg := rg_M_isIn) (bl := bl_M_isIn) (by decide +kernel) rfl (cl_ok _) rfl ok_M_isIn ?_ vc_M_isIn
  intro a n b ci h
  match a, h with
  | k + 0, h => cases h
def pt_M_child : ak_P := fun vs t Q => match vs with
  | [.ref 0, .int g, .int d, .int x] => ∃ a, AI a ∧ RM t a ∧ ∀ t', RM t' a → Q (some (.int (f_child a g d x))) t'
  | _ => False
def cs_M_child : Nat → ak_P := fun a => match a with
  | 0 => pt_M_isSegment
  | 1 => pt_M_isChild
  | _ => pt_M_isAhead
theorem vc_M_child : ak_VC lay_M cs_M_child bl_M_child 7 pt_M_child := by
  intro vs t Q h
  unfold pt_M_child at h
  split at h
  · rename_i g d x
    obtain ⟨a, hA, hR, h⟩ := h
    have hn := hA.1
    have hR0 := RM_c hR
    refine ⟨Nat.le_of_ble_eq_true rfl, fun J hJ => ?_⟩
    obtain ⟨t0, ht0⟩ : ∃ t0, t0 = ak_p1 t 0 0 0 := ⟨_, rfl⟩
    rw [← ht0] at hR0
    replace h := h t0 hR0
    have outer : ∀ (g' d' : Nat), 1 ≤ g' → g' ≤ a.1 1 → d' < 2 → Q (some (.int (nI (a_ith (a_chB a g' d') (a_ahB a d') (a.1 1) x)))) t0 → ∀ e c (o1 o2 : Option Value), c + e = a.1 1 → (∀ j, 1 ≤ j → j ≤ c → (a_chB a g' d' j && decide (nI (a_rk (a_chB a g' d') (a_ahB a d') (a.1 1) j) = x)) = false) → J 27 [some (.ref 0), some (.int (nI g')), some (.int (nI d')), some (.int x), some (.int (nI (c + 1))), o1, o2] [] t0 := by
      intro g' d' hg1 hg2 hd h e
      induction e with
      | zero =>
        intro c o1 o2 hc hl
        have e : c = a.1 1 := by omega
        subst e
        refine hJ 3 _ _ _ _ ?_
        simp only [Nat.reduceAdd, Nat.reduceLeDiff, Nat.zero_le, true_or, or_true, run_s, e_nop, e_iconst, e_bipush, e_sipush, e_lconst, e_iload, e_iload_n, e_lload, e_lload_n, e_aload, e_aload_n, e_istore, e_istore_n, e_iinc, e_iadd, e_isub, e_imul, e_lcmp, e_dupI, e_dupR, e_dup2, e_getfield, e_putfield, e_iaload, e_baload, e_laload, e_iastore, e_bastore, e_lastore, e_if, e_icmp, e_goto, e_tsw, e_ireturn0, e_ireturn1, e_return, e_call0, e_call1, e_call2, e_call3, lI_e, lL_e, lR_e, ak_nth, ak_set, ak_ok1, ak_jp, ak_b1, ak_b2, ak_sw, ak_la, ak_pad, true_and, and_true, List.map_cons, List.map_nil, List.sum_cons, List.sum_nil, Value.category, Option.toList_some, Option.toList_none, List.cons_append, List.nil_append, gM_0_0, pM_0_0, gM_0_1, pM_0_1, gM_0_2, pM_0_2, gM_0_3, pM_0_3, gM_0_4, gM_0_5, gM_0_6, gM_0_7, gM_0_8, gM_0_9, gM_0_10, gM_0_11, gM_0_12, gM_0_13, gM_0_14, gM_0_15, gM_0_16, rM_0, kM_1, kM_2, kM_3, kM_4, kM_5, kM_6, kM_7, kM_8, kM_9, kM_10, kM_11, kM_12, kM_13, fd_M_child_0, fd_M_child_22, fd_M_child_24, fd_M_child_27, fd_M_child_50, fd_M_child_56, fd_M_child_94, fd_M_child_95, fd_M_child_104, fd_M_child_113, fd_M_child_119, bk_M_child_0, bk_M_child_22, bk_M_child_24, bk_M_child_27, bk_M_child_50, bk_M_child_56, bk_M_child_94, bk_M_child_95, bk_M_child_104, bk_M_child_113, bk_M_child_119, cs_M_child]
        rw [hR0.1.2.1, q_lt (by omega) (by omega)]
        refine ⟨fun _ => ?_, fun q => absurd (by omega) q⟩
        rw [a_ith, fd_0 hl] at h
        exact h
      | succ e ih =>
        intro c o1 o2 hc hl
        have next : (a_chB a g' d' (c + 1) && decide (nI (a_rk (a_chB a g' d') (a_ahB a d') (a.1 1) (c + 1)) = x)) = false → ∀ o1 o2 : Option Value, J 27 [some (.ref 0), some (.int (nI g')), some (.int (nI d')), some (.int x), some (.int (nI (c + 1 + 1))), o1, o2] [] t0 := fun z o1 o2 => ih (c + 1) o1 o2 (by omega) (fun j j1 j2 => by
          by_cases w : j = c + 1
          · rw [w]; exact z
          · exact hl j j1 (by omega))
        have inner : a_chB a g' d' (c + 1) = true → ∀ e2 k, k + e2 = a.1 1 → J 56 [some (.ref 0), some (.int (nI g')), some (.int (nI d')), some (.int x), some (.int (nI (c + 1))), some (.int (nI (cn (fun q => a_chB a g' d' q && a_ahB a d' q (c + 1)) k))), some (.int (nI (k + 1)))] [] t0 := by
          intro hch e2
          induction e2 with
          | zero =>
            intro k hk
            have e : k = a.1 1 := by omega
            subst e
            refine hJ 4 _ _ _ _ ?_
            simp only [Nat.reduceAdd, Nat.reduceLeDiff, Nat.zero_le, true_or, or_true, run_s, e_nop, e_iconst, e_bipush, e_sipush, e_lconst, e_iload, e_iload_n, e_lload, e_lload_n, e_aload, e_aload_n, e_istore, e_istore_n, e_iinc, e_iadd, e_isub, e_imul, e_lcmp, e_dupI, e_dupR, e_dup2, e_getfield, e_putfield, e_iaload, e_baload, e_laload, e_iastore, e_bastore, e_lastore, e_if, e_icmp, e_goto, e_tsw, e_ireturn0, e_ireturn1, e_return, e_call0, e_call1, e_call2, e_call3, lI_e, lL_e, lR_e, ak_nth, ak_set, ak_ok1, ak_jp, ak_b1, ak_b2, ak_sw, ak_la, ak_pad, true_and, and_true, List.map_cons, List.map_nil, List.sum_cons, List.sum_nil, Value.category, Option.toList_some, Option.toList_none, List.cons_append, List.nil_append, gM_0_0, pM_0_0, gM_0_1, pM_0_1, gM_0_2, pM_0_2, gM_0_3, pM_0_3, gM_0_4, gM_0_5, gM_0_6, gM_0_7, gM_0_8, gM_0_9, gM_0_10, gM_0_11, gM_0_12, gM_0_13, gM_0_14, gM_0_15, gM_0_16, rM_0, kM_1, kM_2, kM_3, kM_4, kM_5, kM_6, kM_7, kM_8, kM_9, kM_10, kM_11, kM_12, kM_13, fd_M_child_0, fd_M_child_22, fd_M_child_24, fd_M_child_27, fd_M_child_50, fd_M_child_56, fd_M_child_94, fd_M_child_95, fd_M_child_104, fd_M_child_113, fd_M_child_119, bk_M_child_0, bk_M_child_22, bk_M_child_24, bk_M_child_27, bk_M_child_50, bk_M_child_56, bk_M_child_94, bk_M_child_95, bk_M_child_104, bk_M_child_113, bk_M_child_119, cs_M_child, nI_1]
            rw [hR0.1.2.1, q_lt (by omega) (by omega)]
            refine ⟨fun _ => ⟨fun q => next ?_ _ _, fun q => ?_⟩, fun q => absurd (by omega) q⟩
            · rw [hch]
              unfold a_rk
              simp [q]
            · have hp : (a_chB a g' d' (c + 1) && decide (nI (a_rk (a_chB a g' d') (a_ahB a d') (a.1 1) (c + 1)) = x)) = true := by
                rw [hch]
                unfold a_rk
                simp [q]
              rw [a_ith, fd_min (c := c) (by omega) hp hl] at h
              exact h
          | succ e2 ih2 =>
            intro k hk
            have hh := ih2 (k + 1) (by omega)
            have e0 : ∀ z : Nat, nI z + 0 = nI z := fun z => by rw [n_0, nI_add]; rfl
            refine hJ 5 _ _ _ _ ?_
            simp only [Nat.reduceAdd, Nat.reduceLeDiff, Nat.zero_le, true_or, or_true, run_s, e_nop, e_iconst, e_bipush, e_sipush, e_lconst, e_iload, e_iload_n, e_lload, e_lload_n, e_aload, e_aload_n, e_istore, e_istore_n, e_iinc, e_iadd, e_isub, e_imul, e_lcmp, e_dupI, e_dupR, e_dup2, e_getfield, e_putfield, e_iaload, e_baload, e_laload, e_iastore, e_bastore, e_lastore, e_if, e_icmp, e_goto, e_tsw, e_ireturn0, e_ireturn1, e_return, e_call0, e_call1, e_call2, e_call3, lI_e, lL_e, lR_e, ak_nth, ak_set, ak_ok1, ak_jp, ak_b1, ak_b2, ak_sw, ak_la, ak_pad, true_and, and_true, List.map_cons, List.map_nil, List.sum_cons, List.sum_nil, Value.category, Option.toList_some, Option.toList_none, List.cons_append, List.nil_append, gM_0_0, pM_0_0, gM_0_1, pM_0_1, gM_0_2, pM_0_2, gM_0_3, pM_0_3, gM_0_4, gM_0_5, gM_0_6, gM_0_7, gM_0_8, gM_0_9, gM_0_10, gM_0_11, gM_0_12, gM_0_13, gM_0_14, gM_0_15, gM_0_16, rM_0, kM_1, kM_2, kM_3, kM_4, kM_5, kM_6, kM_7, kM_8, kM_9, kM_10, kM_11, kM_12, kM_13, fd_M_child_0, fd_M_child_22, fd_M_child_24, fd_M_child_27, fd_M_child_50, fd_M_child_56, fd_M_child_94, fd_M_child_95, fd_M_child_104, fd_M_child_113, fd_M_child_119, bk_M_child_0, bk_M_child_22, bk_M_child_24, bk_M_child_27, bk_M_child_50, bk_M_child_56, bk_M_child_94, bk_M_child_95, bk_M_child_104, bk_M_child_113, bk_M_child_119, cs_M_child, pt_M_isChild, pt_M_isAhead, nI_1]
            simp only [bt0, Classical.not_not, i10, false_implies, not_false_eq_true, true_implies, not_true_eq_false, true_and, and_true, false_and, and_false, imp_self]
            simp only [e0]
            rw [hR0.1.2.1, q_lt (by omega) (by omega)]
            refine ⟨fun q => absurd q (by omega), fun _ => ⟨a, g', k + 1, d', hA, hR0, rfl, rfl, rfl, hg1, by omega, by omega, by omega, hd, fun q => ⟨a, k + 1, c + 1, d', hA, hR0, rfl, rfl, rfl, by omega, by omega, hd, fun q2 => ?_, fun q2 => ?_⟩, fun q => ?_⟩⟩
            · simpa [cn, q, q2] using hh
            · simpa [cn, q, q2] using hh
            · simpa [cn, q] using hh
        refine hJ 4 _ _ _ _ ?_
        simp only [Nat.reduceAdd, Nat.reduceLeDiff, Nat.zero_le, true_or, or_true, run_s, e_nop, e_iconst, e_bipush, e_sipush, e_lconst, e_iload, e_iload_n, e_lload, e_lload_n, e_aload, e_aload_n, e_istore, e_istore_n, e_iinc, e_iadd, e_isub, e_imul, e_lcmp, e_dupI, e_dupR, e_dup2, e_getfield, e_putfield, e_iaload, e_baload, e_laload, e_iastore, e_bastore, e_lastore, e_if, e_icmp, e_goto, e_tsw, e_ireturn0, e_ireturn1, e_return, e_call0, e_call1, e_call2, e_call3, lI_e, lL_e, lR_e, ak_nth, ak_set, ak_ok1, ak_jp, ak_b1, ak_b2, ak_sw, ak_la, ak_pad, true_and, and_true, List.map_cons, List.map_nil, List.sum_cons, List.sum_nil, Value.category, Option.toList_some, Option.toList_none, List.cons_append, List.nil_append, gM_0_0, pM_0_0, gM_0_1, pM_0_1, gM_0_2, pM_0_2, gM_0_3, pM_0_3, gM_0_4, gM_0_5, gM_0_6, gM_0_7, gM_0_8, gM_0_9, gM_0_10, gM_0_11, gM_0_12, gM_0_13, gM_0_14, gM_0_15, gM_0_16, rM_0, kM_1, kM_2, kM_3, kM_4, kM_5, kM_6, kM_7, kM_8, kM_9, kM_10, kM_11, kM_12, kM_13, fd_M_child_0, fd_M_child_22, fd_M_child_24, fd_M_child_27, fd_M_child_50, fd_M_child_56, fd_M_child_94, fd_M_child_95, fd_M_child_104, fd_M_child_113, fd_M_child_119, bk_M_child_0, bk_M_child_22, bk_M_child_24, bk_M_child_27, bk_M_child_50, bk_M_child_56, bk_M_child_94, bk_M_child_95, bk_M_child_104, bk_M_child_113, bk_M_child_119, cs_M_child, pt_M_isChild, nI_1]
        simp only [bt0, Classical.not_not, i10, false_implies, not_false_eq_true, true_implies, not_true_eq_false, true_and, and_true, false_and, and_false, imp_self]
        rw [hR0.1.2.1, q_lt (by omega) (by omega)]
        refine ⟨fun q => absurd q (by omega), fun _ => ⟨a, g', c + 1, d', hA, hR0, rfl, rfl, rfl, hg1, by omega, by omega, by omega, hd, fun q => ?_, fun q => next (by rw [q]; rfl) _ _⟩⟩
        exact inner q (a.1 1) 0 (by omega)
    refine hJ 6 _ _ _ _ ?_
    simp only [Nat.reduceAdd, Nat.reduceLeDiff, Nat.zero_le, true_or, or_true, run_s, e_nop, e_iconst, e_bipush, e_sipush, e_lconst, e_iload, e_iload_n, e_lload, e_lload_n, e_aload, e_aload_n, e_istore, e_istore_n, e_iinc, e_iadd, e_isub, e_imul, e_lcmp, e_dupI, e_dupR, e_dup2, e_getfield, e_putfield, e_iaload, e_baload, e_laload, e_iastore, e_bastore, e_lastore, e_if, e_icmp, e_goto, e_tsw, e_ireturn0, e_ireturn1, e_return, e_call0, e_call1, e_call2, e_call3, lI_e, lL_e, lR_e, ak_nth, ak_set, ak_ok1, ak_jp, ak_b1, ak_b2, ak_sw, ak_la, ak_pad, true_and, and_true, List.map_cons, List.map_nil, List.sum_cons, List.sum_nil, Value.category, Option.toList_some, Option.toList_none, List.cons_append, List.nil_append, gM_0_0, pM_0_0, gM_0_1, pM_0_1, gM_0_2, pM_0_2, gM_0_3, pM_0_3, gM_0_4, gM_0_5, gM_0_6, gM_0_7, gM_0_8, gM_0_9, gM_0_10, gM_0_11, gM_0_12, gM_0_13, gM_0_14, gM_0_15, gM_0_16, rM_0, kM_1, kM_2, kM_3, kM_4, kM_5, kM_6, kM_7, kM_8, kM_9, kM_10, kM_11, kM_12, kM_13, fd_M_child_0, fd_M_child_22, fd_M_child_24, fd_M_child_27, fd_M_child_50, fd_M_child_56, fd_M_child_94, fd_M_child_95, fd_M_child_104, fd_M_child_113, fd_M_child_119, bk_M_child_0, bk_M_child_22, bk_M_child_24, bk_M_child_27, bk_M_child_50, bk_M_child_56, bk_M_child_94, bk_M_child_95, bk_M_child_104, bk_M_child_113, bk_M_child_119, cs_M_child, pt_M_isSegment]
    simp only [bt0, Classical.not_not, i10, false_implies, not_false_eq_true, true_implies, not_true_eq_false, true_and, and_true, false_and, and_false, imp_self]
    rw [← ht0, hR0.1.2.1]
    unfold f_child at h
    have d01 : ¬ d < 0 → d ≤ 1 → d = 0 ∨ d = 1 := by
      intro q1 q2
      obtain ⟨d', hd1, rfl⟩ := nI_of q1
      rw [n_1, q_le (by omega) (by omega)] at q2
      rcases (by omega : d' = 0 ∨ d' = 1) with z | z
      · exact Or.inl (by rw [z]; rfl)
      · exact Or.inr (by rw [z]; rfl)
    refine ⟨fun q => ?_, fun q => ⟨fun q2 => ?_, fun q2 => ⟨fun q3 => ?_, fun q3 => ?_⟩⟩⟩
    · rw [if_neg (fun z => q z.1)] at h; exact h
    · rw [if_neg (fun z => by rcases z.2 with w | w <;> rw [w] at q2 <;> exact absurd q2 (by decide))] at h; exact h
    · have hd := d01 q2 q3
      rw [if_pos ⟨q, hd⟩] at h
      obtain ⟨g', hg1, hg2, rfl⟩ := iS_of hA q
      rw [q_cl (by omega)] at h
      rcases hd with hd | hd
      · rw [if_pos hd] at h
        subst hd
        exact outer g' 0 hg1 hg2 (by omega) h (a.1 1) 0 _ _ (by omega) (fun j h1 h2 => absurd h2 (by omega))
      · rw [if_neg (by rw [hd]; decide)] at h
        subst hd
        exact outer g' 1 hg1 hg2 (by omega) h (a.1 1) 0 _ _ (by omega) (fun j h1 h2 => absurd h2 (by omega))
    · rw [if_neg (fun z => by rcases z.2 with w | w <;> rw [w] at q3 <;> exact absurd (by decide) q3)] at h; exact h
  · exact h.elim
set_option maxRecDepth 20000 in
theorem ct_M_child (l : Launch) : ak_Ctr l cl_all lay_M y_M_child ws_M_child rm_M_child pt_M_child := by
  refine ak_met (cs := cs_M_child) (reg := rg_M_child) (bl := bl_M_child) (by decide +kernel) rfl (cl_ok _) rfl ok_M_child ?_ vc_M_child
  intro a n b ci h
  match a, h with
  | 0, h =>
    cases h
    exact ak_ccV (ct_M_isSegment l) rfl 408 409 10 25 410 (by decide +kernel) ⟨rfl, rfl⟩ (by decide +kernel) (by decide +kernel)
  | 1, h =>
    cases h
    exact ak_ccV (ct_M_isChild l) rfl 439 440 15 25 441 (by decide +kernel) ⟨rfl, rfl⟩ (by decide +kernel) (by decide +kernel)
  | 2, h =>
    cases h
    exact ak_ccV (ct_M_isAhead l) rfl 442 443 16 25 444 (by decide +kernel) ⟨rfl, rfl⟩ (by decide +kernel) (by decide +kernel)
  | k + 3, h => cases h
def pt_M_entry : ak_P := fun vs t Q => match vs with
  | [.ref 0, .int x, .int y] => ∃ a, AI a ∧ RM t a ∧ ∀ t', RM t' a → Q (some (.int (f_entry a x y))) t'
  | _ => False
def cs_M_entry : Nat → ak_P := fun a => match a with
  | 0 => pt_M_isIn
  | _ => pt_M_isAhead
theorem vc_M_entry : ak_VC lay_M cs_M_entry bl_M_entry 6 pt_M_entry := by
  intro vs t Q h
  unfold pt_M_entry at h
  split at h
  · rename_i x y
    obtain ⟨a, hA, hR, h⟩ := h
    have hn := hA.1
    have hR0 := RM_c hR
    refine ⟨Nat.le_of_ble_eq_true rfl, fun J hJ => ?_⟩
    obtain ⟨t0, ht0⟩ : ∃ t0, t0 = ak_p1 t 0 0 0 := ⟨_, rfl⟩
    rw [← ht0] at hR0
    replace h := h t0 hR0
    have outer : ∀ (m : Nat), 1 ≤ m → m ≤ a.1 2 → Q (some (.int (nI (a_ith (a_inB a m) (a_ltB a) (a.1 1) y)))) t0 → ∀ e c (o1 o2 : Option Value), c + e = a.1 1 → (∀ j, 1 ≤ j → j ≤ c → (a_inB a m j && decide (nI (a_rk (a_inB a m) (a_ltB a) (a.1 1) j) = y)) = false) → J 22 [some (.ref 0), some (.int (nI m)), some (.int y), some (.int (nI (c + 1))), o1, o2] [] t0 := by
      intro m hm1 hm2 h e
      induction e with
      | zero =>
        intro c o1 o2 hc hl
        have e : c = a.1 1 := by omega
        subst e
        refine hJ 3 _ _ _ _ ?_
        simp only [Nat.reduceAdd, Nat.reduceLeDiff, Nat.zero_le, true_or, or_true, run_s, e_nop, e_iconst, e_bipush, e_sipush, e_lconst, e_iload, e_iload_n, e_lload, e_lload_n, e_aload, e_aload_n, e_istore, e_istore_n, e_iinc, e_iadd, e_isub, e_imul, e_lcmp, e_dupI, e_dupR, e_dup2, e_getfield, e_putfield, e_iaload, e_baload, e_laload, e_iastore, e_bastore, e_lastore, e_if, e_icmp, e_goto, e_tsw, e_ireturn0, e_ireturn1, e_return, e_call0, e_call1, e_call2, e_call3, lI_e, lL_e, lR_e, ak_nth, ak_set, ak_ok1, ak_jp, ak_b1, ak_b2, ak_sw, ak_la, ak_pad, true_and, and_true, List.map_cons, List.map_nil, List.sum_cons, List.sum_nil, Value.category, Option.toList_some, Option.toList_none, List.cons_append, List.nil_append, gM_0_0, pM_0_0, gM_0_1, pM_0_1, gM_0_2, pM_0_2, gM_0_3, pM_0_3, gM_0_4, gM_0_5, gM_0_6, gM_0_7, gM_0_8, gM_0_9, gM_0_10, gM_0_11, gM_0_12, gM_0_13, gM_0_14, gM_0_15, gM_0_16, rM_0, kM_1, kM_2, kM_3, kM_4, kM_5, kM_6, kM_7, kM_8, kM_9, kM_10, kM_11, kM_12, kM_13, fd_M_entry_0, fd_M_entry_18, fd_M_entry_20, fd_M_entry_22, fd_M_entry_42, fd_M_entry_48, fd_M_entry_84, fd_M_entry_85, fd_M_entry_94, fd_M_entry_102, fd_M_entry_108, bk_M_entry_0, bk_M_entry_18, bk_M_entry_20, bk_M_entry_22, bk_M_entry_42, bk_M_entry_48, bk_M_entry_84, bk_M_entry_85, bk_M_entry_94, bk_M_entry_102, bk_M_entry_108, cs_M_entry]
        rw [hR0.1.2.1, q_lt (by omega) (by omega)]
        refine ⟨fun _ => ?_, fun q => absurd (by omega) q⟩
        rw [a_ith, fd_0 hl] at h
        exact h
      | succ e ih =>
        intro c o1 o2 hc hl
        have next : (a_inB a m (c + 1) && decide (nI (a_rk (a_inB a m) (a_ltB a) (a.1 1) (c + 1)) = y)) = false → ∀ o1 o2 : Option Value, J 22 [some (.ref 0), some (.int (nI m)), some (.int y), some (.int (nI (c + 1 + 1))), o1, o2] [] t0 := fun z o1 o2 => ih (c + 1) o1 o2 (by omega) (fun j j1 j2 => by
          by_cases w : j = c + 1
          · rw [w]; exact z
          · exact hl j j1 (by omega))
        have inner : a_inB a m (c + 1) = true → ∀ e2 k, k + e2 = a.1 1 → J 48 [some (.ref 0), some (.int (nI m)), some (.int y), some (.int (nI (c + 1))), some (.int (nI (cn (fun q => a_inB a m q && a_ltB a q (c + 1)) k))), some (.int (nI (k + 1)))] [] t0 := by
          intro hch e2
          induction e2 with
          | zero =>
            intro k hk
            have e : k = a.1 1 := by omega
            subst e
            refine hJ 4 _ _ _ _ ?_
            simp only [Nat.reduceAdd, Nat.reduceLeDiff, Nat.zero_le, true_or, or_true, run_s, e_nop, e_iconst, e_bipush, e_sipush, e_lconst, e_iload, e_iload_n, e_lload, e_lload_n, e_aload, e_aload_n, e_istore, e_istore_n, e_iinc, e_iadd, e_isub, e_imul, e_lcmp, e_dupI, e_dupR, e_dup2, e_getfield, e_putfield, e_iaload, e_baload, e_laload, e_iastore, e_bastore, e_lastore, e_if, e_icmp, e_goto, e_tsw, e_ireturn0, e_ireturn1, e_return, e_call0, e_call1, e_call2, e_call3, lI_e, lL_e, lR_e, ak_nth, ak_set, ak_ok1, ak_jp, ak_b1, ak_b2, ak_sw, ak_la, ak_pad, true_and, and_true, List.map_cons, List.map_nil, List.sum_cons, List.sum_nil, Value.category, Option.toList_some, Option.toList_none, List.cons_append, List.nil_append, gM_0_0, pM_0_0, gM_0_1, pM_0_1, gM_0_2, pM_0_2, gM_0_3, pM_0_3, gM_0_4, gM_0_5, gM_0_6, gM_0_7, gM_0_8, gM_0_9, gM_0_10, gM_0_11, gM_0_12, gM_0_13, gM_0_14, gM_0_15, gM_0_16, rM_0, kM_1, kM_2, kM_3, kM_4, kM_5, kM_6, kM_7, kM_8, kM_9, kM_10, kM_11, kM_12, kM_13, fd_M_entry_0, fd_M_entry_18, fd_M_entry_20, fd_M_entry_22, fd_M_entry_42, fd_M_entry_48, fd_M_entry_84, fd_M_entry_85, fd_M_entry_94, fd_M_entry_102, fd_M_entry_108, bk_M_entry_0, bk_M_entry_18, bk_M_entry_20, bk_M_entry_22, bk_M_entry_42, bk_M_entry_48, bk_M_entry_84, bk_M_entry_85, bk_M_entry_94, bk_M_entry_102, bk_M_entry_108, cs_M_entry, nI_1]
            rw [hR0.1.2.1, q_lt (by omega) (by omega)]
            refine ⟨fun _ => ⟨fun q => next ?_ _ _, fun q => ?_⟩, fun q => absurd (by omega) q⟩
            · rw [hch]
              unfold a_rk
              simp [q]
            · have hp : (a_inB a m (c + 1) && decide (nI (a_rk (a_inB a m) (a_ltB a) (a.1 1) (c + 1)) = y)) = true := by
                rw [hch]
                unfold a_rk
                simp [q]
              rw [a_ith, fd_min (c := c) (by omega) hp hl] at h
              exact h
          | succ e2 ih2 =>
            intro k hk
            have hh := ih2 (k + 1) (by omega)
            have e0 : ∀ z : Nat, nI z + 0 = nI z := fun z => by rw [n_0, nI_add]; rfl
            refine hJ 5 _ _ _ _ ?_
            simp only [Nat.reduceAdd, Nat.reduceLeDiff, Nat.zero_le, true_or, or_true, run_s, e_nop, e_iconst, e_bipush, e_sipush, e_lconst, e_iload, e_iload_n, e_lload, e_lload_n, e_aload, e_aload_n, e_istore, e_istore_n, e_iinc, e_iadd, e_isub, e_imul, e_lcmp, e_dupI, e_dupR, e_dup2, e_getfield, e_putfield, e_iaload, e_baload, e_laload, e_iastore, e_bastore, e_lastore, e_if, e_icmp, e_goto, e_tsw, e_ireturn0, e_ireturn1, e_return, e_call0, e_call1, e_call2, e_call3, lI_e, lL_e, lR_e, ak_nth, ak_set, ak_ok1, ak_jp, ak_b1, ak_b2, ak_sw, ak_la, ak_pad, true_and, and_true, List.map_cons, List.map_nil, List.sum_cons, List.sum_nil, Value.category, Option.toList_some, Option.toList_none, List.cons_append, List.nil_append, gM_0_0, pM_0_0, gM_0_1, pM_0_1, gM_0_2, pM_0_2, gM_0_3, pM_0_3, gM_0_4, gM_0_5, gM_0_6, gM_0_7, gM_0_8, gM_0_9, gM_0_10, gM_0_11, gM_0_12, gM_0_13, gM_0_14, gM_0_15, gM_0_16, rM_0, kM_1, kM_2, kM_3, kM_4, kM_5, kM_6, kM_7, kM_8, kM_9, kM_10, kM_11, kM_12, kM_13, fd_M_entry_0, fd_M_entry_18, fd_M_entry_20, fd_M_entry_22, fd_M_entry_42, fd_M_entry_48, fd_M_entry_84, fd_M_entry_85, fd_M_entry_94, fd_M_entry_102, fd_M_entry_108, bk_M_entry_0, bk_M_entry_18, bk_M_entry_20, bk_M_entry_22, bk_M_entry_42, bk_M_entry_48, bk_M_entry_84, bk_M_entry_85, bk_M_entry_94, bk_M_entry_102, bk_M_entry_108, cs_M_entry, pt_M_isIn, pt_M_isAhead, nI_1]
            simp only [bt0, Classical.not_not, i10, false_implies, not_false_eq_true, true_implies, not_true_eq_false, true_and, and_true, false_and, and_false, imp_self]
            simp only [e0]
            rw [hR0.1.2.1, q_lt (by omega) (by omega)]
            refine ⟨fun q => absurd q (by omega), fun _ => ⟨a, m, k + 1, hA, hR0, rfl, rfl, hm1, hm2, by omega, by omega, fun q => ⟨a, k + 1, c + 1, 1, hA, hR0, rfl, rfl, rfl, by omega, by omega, by omega, fun q2 => ?_, fun q2 => ?_⟩, fun q => ?_⟩⟩
            · have q3 : a_ltB a (k + 1) (c + 1) = true := q2
              simpa [cn, q, q3] using hh
            · have q3 : a_ltB a (k + 1) (c + 1) = false := q2
              simpa [cn, q, q3] using hh
            · simpa [cn, q] using hh
        refine hJ 4 _ _ _ _ ?_
        simp only [Nat.reduceAdd, Nat.reduceLeDiff, Nat.zero_le, true_or, or_true, run_s, e_nop, e_iconst, e_bipush, e_sipush, e_lconst, e_iload, e_iload_n, e_lload, e_lload_n, e_aload, e_aload_n, e_istore, e_istore_n, e_iinc, e_iadd, e_isub, e_imul, e_lcmp, e_dupI, e_dupR, e_dup2, e_getfield, e_putfield, e_iaload, e_baload, e_laload, e_iastore, e_bastore, e_lastore, e_if, e_icmp, e_goto, e_tsw, e_ireturn0, e_ireturn1, e_return, e_call0, e_call1, e_call2, e_call3, lI_e, lL_e, lR_e, ak_nth, ak_set, ak_ok1, ak_jp, ak_b1, ak_b2, ak_sw, ak_la, ak_pad, true_and, and_true, List.map_cons, List.map_nil, List.sum_cons, List.sum_nil, Value.category, Option.toList_some, Option.toList_none, List.cons_append, List.nil_append, gM_0_0, pM_0_0, gM_0_1, pM_0_1, gM_0_2, pM_0_2, gM_0_3, pM_0_3, gM_0_4, gM_0_5, gM_0_6, gM_0_7, gM_0_8, gM_0_9, gM_0_10, gM_0_11, gM_0_12, gM_0_13, gM_0_14, gM_0_15, gM_0_16, rM_0, kM_1, kM_2, kM_3, kM_4, kM_5, kM_6, kM_7, kM_8, kM_9, kM_10, kM_11, kM_12, kM_13, fd_M_entry_0, fd_M_entry_18, fd_M_entry_20, fd_M_entry_22, fd_M_entry_42, fd_M_entry_48, fd_M_entry_84, fd_M_entry_85, fd_M_entry_94, fd_M_entry_102, fd_M_entry_108, bk_M_entry_0, bk_M_entry_18, bk_M_entry_20, bk_M_entry_22, bk_M_entry_42, bk_M_entry_48, bk_M_entry_84, bk_M_entry_85, bk_M_entry_94, bk_M_entry_102, bk_M_entry_108, cs_M_entry, pt_M_isIn, nI_1]
        simp only [bt0, Classical.not_not, i10, false_implies, not_false_eq_true, true_implies, not_true_eq_false, true_and, and_true, false_and, and_false, imp_self]
        rw [hR0.1.2.1, q_lt (by omega) (by omega)]
        refine ⟨fun q => absurd q (by omega), fun _ => ⟨a, m, c + 1, hA, hR0, rfl, rfl, hm1, hm2, by omega, by omega, fun q => ?_, fun q => next (by rw [q]; rfl) _ _⟩⟩
        exact inner q (a.1 1) 0 (by omega)
    refine hJ 6 _ _ _ _ ?_
    simp only [Nat.reduceAdd, Nat.reduceLeDiff, Nat.zero_le, true_or, or_true, run_s, e_nop, e_iconst, e_bipush, e_sipush, e_lconst, e_iload, e_iload_n, e_lload, e_lload_n, e_aload, e_aload_n, e_istore, e_istore_n, e_iinc, e_iadd, e_isub, e_imul, e_lcmp, e_dupI, e_dupR, e_dup2, e_getfield, e_putfield, e_iaload, e_baload, e_laload, e_iastore, e_bastore, e_lastore, e_if, e_icmp, e_goto, e_tsw, e_ireturn0, e_ireturn1, e_return, e_call0, e_call1, e_call2, e_call3, lI_e, lL_e, lR_e, ak_nth, ak_set, ak_ok1, ak_jp, ak_b1, ak_b2, ak_sw, ak_la, ak_pad, true_and, and_true, List.map_cons, List.map_nil, List.sum_cons, List.sum_nil, Value.category, Option.toList_some, Option.toList_none, List.cons_append, List.nil_append, gM_0_0, pM_0_0, gM_0_1, pM_0_1, gM_0_2, pM_0_2, gM_0_3, pM_0_3, gM_0_4, gM_0_5, gM_0_6, gM_0_7, gM_0_8, gM_0_9, gM_0_10, gM_0_11, gM_0_12, gM_0_13, gM_0_14, gM_0_15, gM_0_16, rM_0, kM_1, kM_2, kM_3, kM_4, kM_5, kM_6, kM_7, kM_8, kM_9, kM_10, kM_11, kM_12, kM_13, fd_M_entry_0, fd_M_entry_18, fd_M_entry_20, fd_M_entry_22, fd_M_entry_42, fd_M_entry_48, fd_M_entry_84, fd_M_entry_85, fd_M_entry_94, fd_M_entry_102, fd_M_entry_108, bk_M_entry_0, bk_M_entry_18, bk_M_entry_20, bk_M_entry_22, bk_M_entry_42, bk_M_entry_48, bk_M_entry_84, bk_M_entry_85, bk_M_entry_94, bk_M_entry_102, bk_M_entry_108, cs_M_entry]
    rw [← ht0, hR0.1.2.2]
    unfold f_entry at h
    refine ⟨fun q => ?_, fun q => ⟨fun q2 => ?_, fun q2 => ?_⟩⟩
    · rw [if_neg (fun z => by have := z.1; grind)] at h; exact h
    · have hX : iX a x := ⟨by grind, q2⟩
      rw [if_pos hX] at h
      obtain ⟨m, hm1, hm2, rfl⟩ := iX_of hA hX
      rw [q_cl (by omega)] at h
      exact outer m hm1 hm2 h (a.1 1) 0 _ _ (by omega) (fun j h1 h2 => absurd h2 (by omega))
    · rw [if_neg (fun z => q2 z.2)] at h; exact h
  · exact h.elim
set_option maxRecDepth 20000 in
theorem ct_M_entry (l : Launch) : ak_Ctr l cl_all lay_M y_M_entry ws_M_entry rm_M_entry pt_M_entry := by
  refine ak_met (cs := cs_M_entry) (reg := rg_M_entry) (bl := bl_M_entry) (by decide +kernel) rfl (cl_ok _) rfl ok_M_entry ?_ vc_M_entry
  intro a n b ci h
  match a, h with
  | 0, h =>
    cases h
    exact ak_ccV (ct_M_isIn l) rfl 457 458 17 25 459 (by decide +kernel) ⟨rfl, rfl⟩ (by decide +kernel) (by decide +kernel)
  | 1, h =>
    cases h
    exact ak_ccV (ct_M_isAhead l) rfl 442 443 16 25 444 (by decide +kernel) ⟨rfl, rfl⟩ (by decide +kernel) (by decide +kernel)
  | k + 2, h => cases h
end
section
/-! the reference's spread -/
def m_G (t : ak_S) (gs : Nat → Int32) : ak_S := (fun k => if k = 10 then gs else t.1 k, t.2)
theorem mG_o {t : ak_S} {gs : Nat → Int32} {k j : Nat} (h : k ≠ 10) : (m_G t gs).1 k j = t.1 k j := by simp [m_G, h]
theorem mG_10 {t : ak_S} {gs : Nat → Int32} {j : Nat} : (m_G t gs).1 10 j = gs j := by simp [m_G]
theorem mG_p {t : ak_S} {gs : Nat → Int32} {j : Nat} {x : Int32} : ak_p1 (m_G t gs) 10 j x = m_G t (upd gs j x) := by
  apply Prod.ext
  · funext k q
    by_cases h : k = 10
    · subst h; simp [ak_p1, m_G]
    · simp [ak_p1, m_G, h]
  · rfl
theorem mG_self (t : ak_S) : m_G t (t.1 10) = t := by
  apply Prod.ext
  · funext k q
    by_cases h : k = 10
    · subst h; simp [m_G]
    · simp [m_G, h]
  · rfl
theorem RM_G {t : ak_S} {a : ab_T} {gs : Nat → Int32} (hR : RM t a) : RM (m_G t gs) a := by
  obtain ⟨⟨y1, y2, y3⟩, hk, hs, hst, hp, hx⟩ := hR
  refine ⟨⟨?_, ?_, ?_⟩, fun k' hk' => ?_, fun j hj => ?_, fun j w1 w2 => ?_, fun j p w1 w2 w3 w4 => ?_, fun j hj => ?_⟩
  · rw [mG_o (by decide)]; exact y1
  · rw [mG_o (by decide)]; exact y2
  · rw [mG_o (by decide)]; exact y3
  · rw [mG_o (by decide), mG_o (by decide), mG_o (by decide)]; exact hk k' hk'
  · rw [mG_o (by decide), mG_o (by decide), mG_o (by decide)]; exact hs j hj
  · rw [mG_o (by decide)]; exact hst j w1 w2
  · rw [mG_o (by decide)]; exact hp j p w1 w2 w3 w4
  · rw [mG_o (by decide), mG_o (by decide)]; exact hx j hj
/-- what goes so far -/
def MI (a : ab_T) (x : Nat) (gs : Nat → Int32) : Prop := (∀ j, j ≤ 250 → gs j = 0 ∨ gs j = 1) ∧ gs x = 1 ∧ ∀ j, j ≤ 250 → gs j = 1 → a_G a x j
theorem a_G_self {a : ab_T} {x : Nat} (h1 : 1 ≤ x) (h2 : x ≤ a.1 1) : a_G a x x := ⟨h1, h2, fun _ h _ => h⟩
theorem a_G_step {a : ab_T} {x y j : Nat} (h : a_G a x y) (h1 : 1 ≤ j) (h2 : j ≤ a.1 1) (ht : a_tk a y j) : a_G a x j := ⟨h1, h2, fun S hS hc => hc y j (h.2.2 S hS hc) h.1 h.2.1 h1 h2 ht⟩
def pt_M_spread : ak_P := fun vs t Q => match vs with
  | [.ref 0] => ∃ (a : ab_T) (x : Nat), AI a ∧ RM t a ∧ 1 ≤ x ∧ x ≤ a.1 1 ∧ MI a x (t.1 10) ∧
      (∀ gs' : Nat → Int32, MI a x gs' → cn (fun j => decide (t.1 10 j = 1)) (a.1 1) < cn (fun j => decide (gs' j = 1)) (a.1 1) → Q (some (.int 1)) (m_G t gs')) ∧
      ((∀ y j, 1 ≤ y → y ≤ a.1 1 → 1 ≤ j → j ≤ a.1 1 → t.1 10 y = 1 → a_tk a y j → t.1 10 j = 1) → Q (some (.int 0)) t)
  | _ => False
def cs_M_spread : Nat → ak_P := fun _ _ _ _ => False
theorem vc_M_spread : ak_VC lay_M cs_M_spread bl_M_spread 3 pt_M_spread := by
  intro vs t Q h
  unfold pt_M_spread at h
  split at h
  · obtain ⟨a, x, hA, hR, hx1, hx2, hMI, hy, hno⟩ := h
    have hn := hA.1
    refine ⟨Nat.le_of_ble_eq_true rfl, fun J hJ => ?_⟩
    have loop : ∀ d i (mr : Int32) (gs1 : Nat → Int32), i + d = a.1 1 → MI a x gs1 → ((mr = 0 ∧ gs1 = t.1 10 ∧ ∀ y j, 1 ≤ y → y ≤ a.1 1 → 1 ≤ j → j ≤ i → t.1 10 y = 1 → a_tk a y j → t.1 10 j = 1) ∨ (mr = 1 ∧ cn (fun j => decide (t.1 10 j = 1)) (a.1 1) < cn (fun j => decide (gs1 j = 1)) (a.1 1))) → J 4 [some (.ref 0), some (.int mr), some (.int (nI (i + 1)))] [] (m_G t gs1) := by
      intro d
      induction d with
      | zero =>
        intro i mr gs1 hi hM hB
        have e : i = a.1 1 := by omega
        subst e
        refine hJ 3 _ _ _ _ ?_
        simp only [Nat.reduceAdd, Nat.reduceLeDiff, Nat.zero_le, true_or, or_true, run_s, e_nop, e_iconst, e_bipush, e_sipush, e_lconst, e_iload, e_iload_n, e_lload, e_lload_n, e_aload, e_aload_n, e_istore, e_istore_n, e_iinc, e_iadd, e_isub, e_imul, e_lcmp, e_dupI, e_dupR, e_dup2, e_getfield, e_putfield, e_iaload, e_baload, e_laload, e_iastore, e_bastore, e_lastore, e_if, e_icmp, e_goto, e_tsw, e_ireturn0, e_ireturn1, e_return, e_call0, e_call1, e_call2, e_call3, lI_e, lL_e, lR_e, ak_nth, ak_set, ak_ok1, ak_jp, ak_b1, ak_b2, ak_sw, ak_la, ak_pad, true_and, and_true, List.map_cons, List.map_nil, List.sum_cons, List.sum_nil, Value.category, Option.toList_some, Option.toList_none, List.cons_append, List.nil_append, gM_0_0, pM_0_0, gM_0_1, pM_0_1, gM_0_2, pM_0_2, gM_0_3, pM_0_3, gM_0_4, gM_0_5, gM_0_6, gM_0_7, gM_0_8, gM_0_9, gM_0_10, gM_0_11, gM_0_12, gM_0_13, gM_0_14, gM_0_15, gM_0_16, rM_0, kM_1, kM_2, kM_3, kM_4, kM_5, kM_6, kM_7, kM_8, kM_9, kM_10, kM_11, kM_12, kM_13, fd_M_spread_0, fd_M_spread_4, fd_M_spread_34, fd_M_spread_62, fd_M_spread_100, fd_M_spread_104, fd_M_spread_105, fd_M_spread_119, fd_M_spread_123, fd_M_spread_124, fd_M_spread_125, fd_M_spread_131, bk_M_spread_0, bk_M_spread_4, bk_M_spread_34, bk_M_spread_62, bk_M_spread_100, bk_M_spread_104, bk_M_spread_105, bk_M_spread_119, bk_M_spread_123, bk_M_spread_124, bk_M_spread_125, bk_M_spread_131]
        rw [mG_o (by decide), hR.1.2.1, q_lt (by omega) (by omega)]
        refine ⟨fun _ => ?_, fun q => absurd (by omega) q⟩
        rcases hB with ⟨rfl, rfl, hc⟩ | ⟨rfl, hc⟩
        · refine ⟨Or.inl rfl, ?_⟩
          rw [mG_self]
          exact hno hc
        · exact ⟨Or.inr rfl, hy gs1 hM hc⟩
      | succ d ih =>
        intro i mr gs1 hi hM hB
        obtain ⟨b1, b2, _, b4⟩ := hR.2.2.1 (i + 1) (by omega)
        obtain ⟨c1, c2, c3, c4⟩ := hA.2.2.1 (i + 1) (by omega)
        have s1 := (stM hA hR (show 1 ≤ i + 1 by omega) (by omega)).1
        have r := (hR.2.1 (a.2.1 3 (i + 1)) (by omega)).2.2
        have rb := (hA.2.1 (a.2.1 3 (i + 1)) (by omega)).2.2
        -- nothing new here
        have next : (∀ y, 1 ≤ y → y ≤ a.1 1 → gs1 y = 1 → a_tk a y (i + 1) → gs1 (i + 1) = 1) → J 4 [some (.ref 0), some (.int mr), some (.int (nI (i + 1 + 1)))] [] (m_G t gs1) := by
          intro hc
          refine ih (i + 1) mr gs1 (by omega) hM ?_
          rcases hB with ⟨z1, z2, z3⟩ | z
          · refine Or.inl ⟨z1, z2, fun y j y1 y2 j1 j2 hgy htk => ?_⟩
            by_cases e : j = i + 1
            · subst e
              rw [← z2] at hgy ⊢
              exact hc y y1 y2 hgy htk
            · exact z3 y j y1 y2 j1 (by omega) hgy htk
          · exact Or.inr z
        have store : ∀ v : Int32, gs1 (i + 1) = 0 → ((v = 1 ∧ a_G a x (i + 1)) ∨ (v = 0 ∧ ∀ y, 1 ≤ y → y ≤ a.1 1 → gs1 y = 1 → ¬ a_tk a y (i + 1))) → J 105 [some (.ref 0), some (.int mr), some (.int (nI (i + 1)))] [.int v, .int (nI (i + 1)), .ref 10] (m_G t gs1) := by
          intro v hg hv
          refine hJ 5 _ _ _ _ ?_
          simp only [Nat.reduceAdd, Nat.reduceLeDiff, Nat.zero_le, true_or, or_true, run_s, e_nop, e_iconst, e_bipush, e_sipush, e_lconst, e_iload, e_iload_n, e_lload, e_lload_n, e_aload, e_aload_n, e_istore, e_istore_n, e_iinc, e_iadd, e_isub, e_imul, e_lcmp, e_dupI, e_dupR, e_dup2, e_getfield, e_putfield, e_iaload, e_baload, e_laload, e_iastore, e_bastore, e_lastore, e_if, e_icmp, e_goto, e_tsw, e_ireturn0, e_ireturn1, e_return, e_call0, e_call1, e_call2, e_call3, lI_e, lL_e, lR_e, ak_nth, ak_set, ak_ok1, ak_jp, ak_b1, ak_b2, ak_sw, ak_la, ak_pad, true_and, and_true, List.map_cons, List.map_nil, List.sum_cons, List.sum_nil, Value.category, Option.toList_some, Option.toList_none, List.cons_append, List.nil_append, gM_0_0, pM_0_0, gM_0_1, pM_0_1, gM_0_2, pM_0_2, gM_0_3, pM_0_3, gM_0_4, gM_0_5, gM_0_6, gM_0_7, gM_0_8, gM_0_9, gM_0_10, gM_0_11, gM_0_12, gM_0_13, gM_0_14, gM_0_15, gM_0_16, rM_0, kM_1, kM_2, kM_3, kM_4, kM_5, kM_6, kM_7, kM_8, kM_9, kM_10, kM_11, kM_12, kM_13, fd_M_spread_0, fd_M_spread_4, fd_M_spread_34, fd_M_spread_62, fd_M_spread_100, fd_M_spread_104, fd_M_spread_105, fd_M_spread_119, fd_M_spread_123, fd_M_spread_124, fd_M_spread_125, fd_M_spread_131, bk_M_spread_0, bk_M_spread_4, bk_M_spread_34, bk_M_spread_62, bk_M_spread_100, bk_M_spread_104, bk_M_spread_105, bk_M_spread_119, bk_M_spread_123, bk_M_spread_124, bk_M_spread_125, bk_M_spread_131, mG_p, mG_10, nI_1]
          rw [q_cl (by omega)]
          rcases hv with ⟨rfl, hG⟩ | ⟨rfl, hc⟩
          · have e1 : (1 : Int32) &&& 1 = 1 := by decide
            rw [e1]
            have hM2 : MI a x (upd gs1 (i + 1) 1) := by
              refine ⟨fun j hj => ?_, ?_, fun j hj hz => ?_⟩
              · by_cases e : j = i + 1
                · right; simp [upd, e]
                · simp only [upd, e, if_false]; exact hM.1 j hj
              · by_cases e : x = i + 1
                · simp [upd, e]
                · simp only [upd, e, if_false]; exact hM.2.1
              · by_cases e : j = i + 1
                · rw [e]; exact hG
                · simp only [upd, e, if_false] at hz; exact hM.2.2 j hj hz
            have hcn : cn (fun j => decide ((upd gs1 (i + 1) 1) j = 1)) (a.1 1) = cn (fun j => decide (gs1 j = 1)) (a.1 1) + 1 := by
              refine cn_add (e := i + 1) (by omega) (by omega) ?_ ?_ ?_
              · rw [hg]; decide
              · simp [upd]
              · intro j _ _ hj
                simp [upd, hj]
            have hlt : cn (fun j => decide (t.1 10 j = 1)) (a.1 1) < cn (fun j => decide ((upd gs1 (i + 1) 1) j = 1)) (a.1 1) := by
              rcases hB with ⟨_, z2, _⟩ | ⟨_, z⟩
              · rw [hcn, z2]; omega
              · omega
            have fin := ih (i + 1) 1 (upd gs1 (i + 1) 1) (by omega) hM2 (Or.inr ⟨rfl, hlt⟩)
            have e2 : ¬ upd gs1 (i + 1) 1 (i + 1) = 0 := by simp [upd]
            exact ⟨q_in (by omega) (by omega), fun _ => fin, fun _ => ⟨q_in (by omega) (by omega), fun z => absurd z e2, fun _ => fin⟩⟩
          · have e1 : (0 : Int32) &&& 1 = 0 := by decide
            have e2 : upd gs1 (i + 1) 0 = gs1 := by
              funext j
              by_cases e : j = i + 1
              · simp [upd, e, hg]
              · simp [upd, e]
            rw [e1, e2]
            have hnx := next (fun y y1 y2 hgy htk => absurd htk (hc y y1 y2 hgy))
            have mr01 : mr = 0 ∨ mr = 1 := by
              rcases hB with ⟨z, _⟩ | ⟨z, _⟩
              · exact Or.inl z
              · exact Or.inr z
            refine ⟨q_in (by omega) (by omega), fun z => ?_, fun z => ⟨q_in (by omega) (by omega), fun _ => ?_, fun w => absurd hg w⟩⟩
            · rcases mr01 with w | w
              · exact absurd w z
              · rw [w] at hnx; exact hnx
            · rw [z] at hnx; exact hnx
        refine hJ 6 _ _ _ _ ?_
        simp only [Nat.reduceAdd, Nat.reduceLeDiff, Nat.zero_le, true_or, or_true, run_s, e_nop, e_iconst, e_bipush, e_sipush, e_lconst, e_iload, e_iload_n, e_lload, e_lload_n, e_aload, e_aload_n, e_istore, e_istore_n, e_iinc, e_iadd, e_isub, e_imul, e_lcmp, e_dupI, e_dupR, e_dup2, e_getfield, e_putfield, e_iaload, e_baload, e_laload, e_iastore, e_bastore, e_lastore, e_if, e_icmp, e_goto, e_tsw, e_ireturn0, e_ireturn1, e_return, e_call0, e_call1, e_call2, e_call3, lI_e, lL_e, lR_e, ak_nth, ak_set, ak_ok1, ak_jp, ak_b1, ak_b2, ak_sw, ak_la, ak_pad, true_and, and_true, List.map_cons, List.map_nil, List.sum_cons, List.sum_nil, Value.category, Option.toList_some, Option.toList_none, List.cons_append, List.nil_append, gM_0_0, pM_0_0, gM_0_1, pM_0_1, gM_0_2, pM_0_2, gM_0_3, pM_0_3, gM_0_4, gM_0_5, gM_0_6, gM_0_7, gM_0_8, gM_0_9, gM_0_10, gM_0_11, gM_0_12, gM_0_13, gM_0_14, gM_0_15, gM_0_16, rM_0, kM_1, kM_2, kM_3, kM_4, kM_5, kM_6, kM_7, kM_8, kM_9, kM_10, kM_11, kM_12, kM_13, fd_M_spread_0, fd_M_spread_4, fd_M_spread_34, fd_M_spread_62, fd_M_spread_100, fd_M_spread_104, fd_M_spread_105, fd_M_spread_119, fd_M_spread_123, fd_M_spread_124, fd_M_spread_125, fd_M_spread_131, bk_M_spread_0, bk_M_spread_4, bk_M_spread_34, bk_M_spread_62, bk_M_spread_100, bk_M_spread_104, bk_M_spread_105, bk_M_spread_119, bk_M_spread_123, bk_M_spread_124, bk_M_spread_125, bk_M_spread_131, mG_10, mG_o, ne_eq, Nat.reduceEqDiff, not_false_eq_true, nI_1]
        have eu0 : nI (a.2.1 4 (i + 1)) = 0 ↔ a.2.1 4 (i + 1) = 0 := by rw [n_0]; exact nI_eq (by omega) (by omega)
        have er0 : nI (a.2.1 6 (i + 1)) = 0 ↔ a.2.1 6 (i + 1) = 0 := by rw [n_0]; exact nI_eq (by omega) (by omega)
        have eru : nI (a.2.1 2 (a.2.1 3 (i + 1))) = 2 ↔ a.2.1 2 (a.2.1 3 (i + 1)) = 2 := by rw [n_2]; exact nI_eq (by omega) (by omega)
        rw [hR.1.2.1, q_lt (by omega) (by omega), q_cl (a := i + 1) (by omega), s1, b2, b4, b1, q_cl (a := a.2.1 4 (i + 1)) (by omega), q_cl (a := a.2.1 6 (i + 1)) (by omega), q_cl (a := a.2.1 3 (i + 1)) (by omega), r, eu0, er0, eru]
        have vi : vp_in (nI (i + 1)) 251 := q_in (by omega) (by omega)
        have vu : vp_in (nI (a.2.1 4 (i + 1))) 251 := q_in (by omega) (by omega)
        have vr : vp_in (nI (a.2.1 6 (i + 1))) 251 := q_in (by omega) (by omega)
        have vk : vp_in (nI (a.2.1 3 (i + 1))) 16 := q_in (by omega) (by omega)
        simp only [vi, vu, vr, vk, true_and]
        refine ⟨fun q => absurd q (by omega), fun _ => ?_⟩
        by_cases hst : a.2.1 5 (i + 1) = 1
        · by_cases hg : gs1 (i + 1) = 0
          · have one : (a.2.1 4 (i + 1) ≠ 0 ∧ ¬ gs1 (a.2.1 4 (i + 1)) = 0) ∨ (a.2.1 6 (i + 1) ≠ 0 ∧ ¬ gs1 (a.2.1 6 (i + 1)) = 0 ∧ a.2.1 2 (a.2.1 3 (i + 1)) = 2) → J 105 [some (.ref 0), some (.int mr), some (.int (nI (i + 1)))] [.int 1, .int (nI (i + 1)), .ref 10] (m_G t gs1) := by
              intro z
              refine store 1 hg (Or.inl ⟨rfl, ?_⟩)
              rcases z with z | z
              · have g1 : gs1 (a.2.1 4 (i + 1)) = 1 := (hM.1 _ (by omega)).resolve_left z.2
                exact a_G_step (hM.2.2 _ (by omega) g1) (by omega) (by omega) (Or.inl ⟨hst, rfl⟩)
              · have g1 : gs1 (a.2.1 6 (i + 1)) = 1 := (hM.1 _ (by omega)).resolve_left z.2.1
                exact a_G_step (hM.2.2 _ (by omega) g1) (by omega) (by omega) (Or.inr ⟨rfl, z.2.2⟩)
            have zero : ¬ ((a.2.1 4 (i + 1) ≠ 0 ∧ ¬ gs1 (a.2.1 4 (i + 1)) = 0) ∨ (a.2.1 6 (i + 1) ≠ 0 ∧ ¬ gs1 (a.2.1 6 (i + 1)) = 0 ∧ a.2.1 2 (a.2.1 3 (i + 1)) = 2)) → J 105 [some (.ref 0), some (.int mr), some (.int (nI (i + 1)))] [.int 0, .int (nI (i + 1)), .ref 10] (m_G t gs1) := by
              intro z
              refine store 0 hg (Or.inr ⟨rfl, fun y y1 y2 hgy htk => z ?_⟩)
              have gne : ¬ gs1 y = 0 := by rw [hgy]; decide
              rcases htk with w | w
              · exact Or.inl ⟨by omega, by rw [w.2]; exact gne⟩
              · exact Or.inr ⟨by omega, by rw [w.1]; exact gne, w.2⟩
            grind
          · have hg1 : gs1 (i + 1) = 1 := (hM.1 _ (by omega)).resolve_left hg
            have nx := next (fun _ _ _ _ _ => hg1)
            grind
        · have nx := next (fun y y1 y2 hgy htk => by
            rcases htk with w | w
            · exact absurd w.1 hst
            · exact absurd (hA.2.2.2.2.1 (i + 1) (by omega) (by omega)).2.2 hst)
          grind
    refine hJ 3 _ _ _ _ ?_
    simp only [Nat.reduceAdd, Nat.reduceLeDiff, Nat.zero_le, true_or, or_true, run_s, e_nop, e_iconst, e_bipush, e_sipush, e_lconst, e_iload, e_iload_n, e_lload, e_lload_n, e_aload, e_aload_n, e_istore, e_istore_n, e_iinc, e_iadd, e_isub, e_imul, e_lcmp, e_dupI, e_dupR, e_dup2, e_getfield, e_putfield, e_iaload, e_baload, e_laload, e_iastore, e_bastore, e_lastore, e_if, e_icmp, e_goto, e_tsw, e_ireturn0, e_ireturn1, e_return, e_call0, e_call1, e_call2, e_call3, lI_e, lL_e, lR_e, ak_nth, ak_set, ak_ok1, ak_jp, ak_b1, ak_b2, ak_sw, ak_la, ak_pad, true_and, and_true, List.map_cons, List.map_nil, List.sum_cons, List.sum_nil, Value.category, Option.toList_some, Option.toList_none, List.cons_append, List.nil_append, gM_0_0, pM_0_0, gM_0_1, pM_0_1, gM_0_2, pM_0_2, gM_0_3, pM_0_3, gM_0_4, gM_0_5, gM_0_6, gM_0_7, gM_0_8, gM_0_9, gM_0_10, gM_0_11, gM_0_12, gM_0_13, gM_0_14, gM_0_15, gM_0_16, rM_0, kM_1, kM_2, kM_3, kM_4, kM_5, kM_6, kM_7, kM_8, kM_9, kM_10, kM_11, kM_12, kM_13, fd_M_spread_0, fd_M_spread_4, fd_M_spread_34, fd_M_spread_62, fd_M_spread_100, fd_M_spread_104, fd_M_spread_105, fd_M_spread_119, fd_M_spread_123, fd_M_spread_124, fd_M_spread_125, fd_M_spread_131, bk_M_spread_0, bk_M_spread_4, bk_M_spread_34, bk_M_spread_62, bk_M_spread_100, bk_M_spread_104, bk_M_spread_105, bk_M_spread_119, bk_M_spread_123, bk_M_spread_124, bk_M_spread_125, bk_M_spread_131]
    have := loop (a.1 1) 0 0 (t.1 10) (by omega) hMI (Or.inl ⟨rfl, rfl, fun y j _ _ j1 j2 => absurd j2 (by omega)⟩)
    rw [mG_self] at this
    exact this
  · exact h.elim
set_option maxRecDepth 20000 in
theorem ct_M_spread (l : Launch) : ak_Ctr l cl_all lay_M y_M_spread ws_M_spread rm_M_spread pt_M_spread := by
  refine ak_met (cs := cs_M_spread) (reg := rg_M_spread) (bl := bl_M_spread) (by decide +kernel) rfl (cl_ok _) rfl ok_M_spread ?_ vc_M_spread
  intro a n b ci h
  match a, h with
  | k + 0, h => cases h
end
section
/-! the reference's delete -/
theorem AI_del {a : ab_T} (hA : AI a) {T : Nat → Bool} (hT : ∀ j, T j = true → 1 ≤ j ∧ j ≤ a.1 1) : AI (a_del a T) := by
  obtain ⟨c1, c2, c3, c4, c5, c6, c7, c8, c9, c10⟩ := hA
  have d5 : ∀ i, (a_del a T).2.1 5 i = if 1 ≤ i ∧ i ≤ a.1 1 ∧ (a_rw a T).2.1 5 i = 2 ∧ ac (a_rw a T) i = 0 then 0 else (a_rw a T).2.1 5 i := fun i => rfl
  have d6 : ∀ i, (a_del a T).2.1 6 i = if T i = true then 0 else a.2.1 6 i := fun i => by
    show (a_rw a T).2.1 6 i = _
    exact rw_6
  have do_ : ∀ f i, f ≠ 5 → f ≠ 6 → (a_del a T).2.1 f i = a.2.1 f i := fun f i h1 h2 => by
    have : (a_del a T).2.1 f i = (a_rw a T).2.1 f i := by simp [a_del, h1]
    rw [this, rw_o h1 h2]
  refine ⟨c1, fun k hk => ?_, fun j hj => ?_, fun j j1 j2 => ?_, fun j hj hz => ?_, fun j j1 j2 => ?_, ?_, fun k k1 k2 => ?_, fun j hj => ?_, fun j j1 j2 => ?_⟩
  · rw [do_ 0 k (by decide) (by decide), do_ 1 k (by decide) (by decide), do_ 2 k (by decide) (by decide)]; exact c2 k hk
  · obtain ⟨e1, e2, e3, e4⟩ := c3 j hj
    rw [do_ 3 j (by decide) (by decide), do_ 4 j (by decide) (by decide), d5, d6, rw_5]
    refine ⟨e1, e2, ?_, ?_⟩
    · repeat' split
      all_goals omega
    · split
      · exact Nat.zero_le _
      · exact e4
  · rw [do_ 3 j (by decide) (by decide)]; exact c4 j j1 j2
  · rw [d6] at hz
    split at hz
    · exact absurd rfl hz
    · rename_i w
      obtain ⟨e1, e2, e3⟩ := c5 j hj hz
      refine ⟨e1, e2, ?_⟩
      rw [d5, rw_5, if_neg w, if_neg (fun z => by omega)]
      exact e3
  · have hTj : ¬ T j = true := fun w => by
      have := hT j w
      have : (a_del a T).1 1 = a.1 1 := rfl
      omega
    rw [d5, rw_5, if_neg hTj, if_neg (fun z => by have : (a_del a T).1 1 = a.1 1 := rfl; omega)]
    exact c6 j j1 j2
  · have hT0 : ¬ T 0 = true := fun w => by have := hT 0 w; omega
    rw [d5, rw_5, if_neg hT0, if_neg (fun z => by omega)]
    exact c7
  · rw [do_ 1 k (by decide) (by decide), do_ 2 k (by decide) (by decide)]; exact c8 k k1 k2
  · rw [do_ 7 j (by decide) (by decide), do_ 8 j (by decide) (by decide)]; exact c9 j hj
  · rw [do_ 3 j (by decide) (by decide), do_ 4 j (by decide) (by decide), do_ 0 _ (by decide) (by decide), do_ 3 _ (by decide) (by decide)]; exact c10 j j1 j2
/-- all but what a delete may change -/
def m_F (t t' : ak_S) : Prop := (∀ k j, k ≠ 6 → k ≠ 7 → k ≠ 8 → k ≠ 10 → k ≠ 11 → t'.1 k j = t.1 k j) ∧ t'.2 = t.2
theorem m_F_p {t t' : ak_S} {k j : Nat} {x : Int32} (h : m_F t t') (hk : k = 6 ∨ k = 7 ∨ k = 8 ∨ k = 10 ∨ k = 11) : m_F t (ak_p1 t' k j x) := ⟨fun k' j' h1 h2 h3 h4 h5 => by rw [p1_o (by omega)]; exact h.1 k' j' h1 h2 h3 h4 h5, h.2⟩
theorem RM_same {t t' : ak_S} {a : ab_T} (hR : RM t a) (hF : m_F t t') (h6 : ∀ j, t'.1 6 j = t.1 6 j) (h7 : ∀ j, t'.1 7 j = t.1 7 j) (h8 : ∀ j, t'.1 8 j = t.1 8 j) : RM t' a := by
  obtain ⟨⟨y1, y2, y3⟩, hk, hs, hst, hp, hx⟩ := hR
  have F := fun k j h1 h2 h3 h4 h5 => hF.1 k j h1 h2 h3 h4 h5
  refine ⟨⟨?_, ?_, ?_⟩, fun k' hk' => ?_, fun j hj => ?_, fun j w1 w2 => ?_, fun j p w1 w2 w3 w4 => ?_, fun j hj => ?_⟩
  · rw [F _ _ (by decide) (by decide) (by decide) (by decide) (by decide)]; exact y1
  · rw [F _ _ (by decide) (by decide) (by decide) (by decide) (by decide)]; exact y2
  · rw [F _ _ (by decide) (by decide) (by decide) (by decide) (by decide)]; exact y3
  · rw [F 1 _ (by decide) (by decide) (by decide) (by decide) (by decide), F 2 _ (by decide) (by decide) (by decide) (by decide) (by decide), F 3 _ (by decide) (by decide) (by decide) (by decide) (by decide)]; exact hk k' hk'
  · rw [F 4 _ (by decide) (by decide) (by decide) (by decide) (by decide), F 5 _ (by decide) (by decide) (by decide) (by decide) (by decide), h7, hF.2]; exact hs j hj
  · rw [h6]; exact hst j w1 w2
  · rw [h8]; exact hp j p w1 w2 w3 w4
  · rw [F 12 _ (by decide) (by decide) (by decide) (by decide) (by decide), F 13 _ (by decide) (by decide) (by decide) (by decide) (by decide)]; exact hx j hj
/-- the number in the reference's row of states -/
def m_st (v : Nat) : Nat := if v = 0 then 3 else v
theorem m_delRows {t t' : ak_S} {a : ab_T} (hA : AI a) (hR : RM t a) {T : Nat → Bool} (hF : m_F t t') (h6 : ∀ j, 1 ≤ j → j ≤ a.1 1 → t'.1 6 j = nI (m_st ((a_del a T).2.1 5 j))) (h7 : ∀ j, j ≤ 250 → t'.1 7 j = nI ((a_rw a T).2.1 6 j)) (h8 : ∀ j, t'.1 8 j = t.1 8 j) (hst : ∀ j, 1 ≤ j → j ≤ a.1 1 → T j = true → a.2.1 5 j = 1) : RMx t' (a_del a T) (fun i => T i = true ∨ a_chg a T i = true) := by
  obtain ⟨⟨y1, y2, y3⟩, hk, hs, hstt, hp, hx⟩ := hR
  have F := fun k j h1 h2 h3 h4 h5 => hF.1 k j h1 h2 h3 h4 h5
  have do_ : ∀ f i, f ≠ 5 → f ≠ 6 → (a_del a T).2.1 f i = a.2.1 f i := fun f i h1 h2 => by
    have : (a_del a T).2.1 f i = (a_rw a T).2.1 f i := by simp [a_del, h1]
    rw [this, rw_o h1 h2]
  refine ⟨⟨?_, ?_, ?_⟩, fun k' hk' => ?_, fun j hj => ?_, fun j w1 w2 => ?_, fun j p w1 w2 w3 w4 w5 => ?_, fun j hj => ?_⟩
  · rw [F _ _ (by decide) (by decide) (by decide) (by decide) (by decide)]; exact y1
  · rw [F _ _ (by decide) (by decide) (by decide) (by decide) (by decide)]; exact y2
  · rw [F _ _ (by decide) (by decide) (by decide) (by decide) (by decide)]; exact y3
  · rw [F 1 _ (by decide) (by decide) (by decide) (by decide) (by decide), F 2 _ (by decide) (by decide) (by decide) (by decide) (by decide), F 3 _ (by decide) (by decide) (by decide) (by decide) (by decide), do_ 0 _ (by decide) (by decide), do_ 1 _ (by decide) (by decide), do_ 2 _ (by decide) (by decide)]; exact hk k' hk'
  · rw [F 4 _ (by decide) (by decide) (by decide) (by decide) (by decide), F 5 _ (by decide) (by decide) (by decide) (by decide) (by decide), h7 j hj, hF.2, do_ 3 _ (by decide) (by decide), do_ 4 _ (by decide) (by decide)]
    obtain ⟨v1, v2, v3, _⟩ := hs j hj
    exact ⟨v1, v2, v3, rfl⟩
  · exact h6 j w1 w2
  · have w2' : j ≤ a.1 1 := w2
    have hTj : ¬ T j = true := fun z => w5 (Or.inl z)
    have w3' : a.2.1 5 j ≠ 0 := fun z => w3 (by
      show (if 1 ≤ j ∧ j ≤ a.1 1 ∧ (a_rw a T).2.1 5 j = 2 ∧ ac (a_rw a T) j = 0 then 0 else (a_rw a T).2.1 5 j) = 0
      rw [rw_5, if_neg hTj, z]
      split <;> rfl)
    rw [h8, ad_p w4, if_neg w5]
    exact hp j p w1 w2' w3' w4
  · rw [F 12 _ (by decide) (by decide) (by decide) (by decide) (by decide), F 13 _ (by decide) (by decide) (by decide) (by decide) (by decide), do_ 7 _ (by decide) (by decide), do_ 8 _ (by decide) (by decide)]; exact hx j hj
theorem del_tr {a : ab_T} {T : Nat → Bool} {i p : Nat} : a_tr (a_del a T) i p = a_tr (a_rw a T) i p := by
  have d5 : (a_del a T).2.1 5 i = if 1 ≤ i ∧ i ≤ a.1 1 ∧ (a_rw a T).2.1 5 i = 2 ∧ ac (a_rw a T) i = 0 then 0 else (a_rw a T).2.1 5 i := rfl
  have one : ((a_del a T).2.1 5 i = 1) = ((a_rw a T).2.1 5 i = 1) := by
    rw [d5]
    split
    · rename_i z
      rw [z.2.2.1]
      decide
    · rfl
  have hac : ac (a_del a T) i = ac (a_rw a T) i := rfl
  have e4 : (a_del a T).2.1 4 i = (a_rw a T).2.1 4 i := rfl
  have e6 : (a_del a T).2.1 6 i = (a_rw a T).2.1 6 i := rfl
  unfold a_tr
  rw [hac, e4, e6]
  simp only [one]
/-- one is set right -/
theorem m_delRight {t : ak_S} {a : ab_T} (hA : AI a) {T : Nat → Bool} (hT : ∀ j, T j = true → 1 ≤ j ∧ j ≤ a.1 1) {E : Nat → Prop} {i : Nat} (h : RMx t (a_del a T) E) (h1 : 1 ≤ i) (h2 : i ≤ a.1 1) (hc : T i = true ∨ a_chg a T i = true) : RMx (m_right t (a.1 1) i) (a_del a T) (fun j => E j ∧ j ≠ i) := by
  have ht := fun p => mx_tr (p := p) (AI_del hA hT) h h1 h2
  have ht : ∀ p, m_tr t (a.1 1) i p = nI (a_tr (a_del a T) i p) := ht
  obtain ⟨⟨q1, q2, q3⟩, hk, hs, hst, hp, hx⟩ := h
  refine ⟨⟨?_, ?_, ?_⟩, fun k' hk' => ?_, fun j hj => ?_, fun j b1 b2 => ?_, fun j p b1 b2 b3 b4 b5 => ?_, fun j hj => ?_⟩
  · rw [m_right_o (by decide)]; exact q1
  · rw [m_right_o (by decide)]; exact q2
  · rw [m_right_o (by decide)]; exact q3
  · rw [m_right_o (by decide), m_right_o (by decide), m_right_o (by decide)]; exact hk k' hk'
  · rw [m_right_o (by decide), m_right_o (by decide), m_right_o (by decide)]; exact hs j hj
  · rw [m_right_o (by decide)]; exact hst j b1 b2
  · rw [mr_p b4]
    by_cases e : j = i
    · rw [if_pos e, ht, e, ad_p b4, if_pos hc, del_tr]
    · rw [if_neg e]
      exact hp j p b1 b2 b3 b4 (fun z => b5 ⟨z, e⟩)
  · rw [m_right_o (by decide), m_right_o (by decide)]; exact hx j hj
def pt_M_delete : ak_P := fun vs t Q => match vs with
  | [.ref 0, .int x] => ∃ a, AI a ∧ RM t a ∧ ∀ t', RM t' (g_delete a x) → Q (some (.int (f_delete a x))) t'
  | _ => False
def cs_M_delete : Nat → ak_P := fun a => match a with
  | 0 => pt_M_isSegment
  | 1 => pt_M_spread
  | 2 => pt_M_countOf
  | _ => pt_M_right
theorem vc_M_delete : ak_VC lay_M cs_M_delete bl_M_delete 5 pt_M_delete := by
  intro vs t Q h
  unfold pt_M_delete at h
  split at h
  · rename_i x
    obtain ⟨a, hA, hR, h⟩ := h
    have hn := hA.1
    have hR0 := RM_c hR
    refine ⟨Nat.le_of_ble_eq_true rfl, fun J hJ => ?_⟩
    obtain ⟨t0, ht0⟩ : ∃ t0, t0 = ak_p1 t 0 0 0 := ⟨_, rfl⟩
    rw [← ht0] at hR0
    have same : ∀ v : Int32, f_delete a x = v → g_delete a x = a → ∀ t', RM t' a → Q (some (.int v)) t' := by
      intro v e e2 t' ht'
      have := h t' (by rw [e2]; exact ht')
      rw [e] at this
      exact this
    have main : ∀ x' : Nat, x = nI x' → 1 ≤ x' → x' ≤ a.1 1 → a.2.1 5 x' = 1 → iS a x → ∀ o2 o3 o4 : Option Value, o2 = some (.int 0) → J 31 [some (.ref 0), some (.int x), o2, o3, o4] [] t0 := by
      intro x' hxx hx1 hx2 hxs hxi
      subst hxx
      have fdel : f_delete a (nI x') = ci (a_bar a (a_gB a x')) (-5) (nI (cn (a_gB a x') (a.1 1))) := by
        rw [f_delete, q_cl (by omega), ci_f (fun z => z hxi), ci_f (fun z => z hxs)]
      -- the facts of what goes
      have hgT : ∀ j, a_gB a x' j = true → 1 ≤ j ∧ j ≤ a.1 1 := fun j hj => ⟨(a_gB_t.mp hj).1, (a_gB_t.mp hj).2.1⟩
      -- loop 6
      have loop6 : ∀ d i (t' : ak_S), i + d = a.1 1 → ¬ a_bar a (a_gB a x') → RMx t' (a_del a (a_gB a x')) (fun j => i < j ∧ (a_gB a x' j = true ∨ a_chg a (a_gB a x') j = true)) → (∀ j, 1 ≤ j → j ≤ a.1 1 → (t'.1 11 j = 0 ↔ ¬ (a_gB a x' j = true ∨ a_chg a (a_gB a x') j = true))) → ∀ o2 : Option Value, J 300 [some (.ref 0), some (.int (nI x')), o2, some (.int (nI (cn (a_gB a x') (a.1 1)))), some (.int (nI (i + 1)))] [] t' := by
        intro d
        induction d with
        | zero =>
          intro i t' hi hb hRx hch o2
          have e : i = a.1 1 := by omega
          subst e
          refine hJ 3 _ _ _ _ ?_
          simp only [Nat.reduceAdd, Nat.reduceLeDiff, Nat.zero_le, true_or, or_true, run_s, e_nop, e_iconst, e_bipush, e_sipush, e_lconst, e_iload, e_iload_n, e_lload, e_lload_n, e_aload, e_aload_n, e_istore, e_istore_n, e_iinc, e_iadd, e_isub, e_imul, e_lcmp, e_dupI, e_dupR, e_dup2, e_getfield, e_putfield, e_iaload, e_baload, e_laload, e_iastore, e_bastore, e_lastore, e_if, e_icmp, e_goto, e_tsw, e_ireturn0, e_ireturn1, e_return, e_call0, e_call1, e_call2, e_call3, lI_e, lL_e, lR_e, ak_nth, ak_set, ak_ok1, ak_jp, ak_b1, ak_b2, ak_sw, ak_la, ak_pad, true_and, and_true, List.map_cons, List.map_nil, List.sum_cons, List.sum_nil, Value.category, Option.toList_some, Option.toList_none, List.cons_append, List.nil_append, gM_0_0, pM_0_0, gM_0_1, pM_0_1, gM_0_2, pM_0_2, gM_0_3, pM_0_3, gM_0_4, gM_0_5, gM_0_6, gM_0_7, gM_0_8, gM_0_9, gM_0_10, gM_0_11, gM_0_12, gM_0_13, gM_0_14, gM_0_15, gM_0_16, rM_0, kM_1, kM_2, kM_3, kM_4, kM_5, kM_6, kM_7, kM_8, kM_9, kM_10, kM_11, kM_12, kM_13, fd_M_delete_0, fd_M_delete_16, fd_M_delete_29, fd_M_delete_31, fd_M_delete_52, fd_M_delete_53, fd_M_delete_67, fd_M_delete_69, fd_M_delete_81, fd_M_delete_86, fd_M_delete_159, fd_M_delete_174, fd_M_delete_175, fd_M_delete_183, fd_M_delete_186, fd_M_delete_208, fd_M_delete_245, fd_M_delete_251, fd_M_delete_254, fd_M_delete_291, fd_M_delete_297, fd_M_delete_300, fd_M_delete_325, fd_M_delete_331, bk_M_delete_0, bk_M_delete_16, bk_M_delete_29, bk_M_delete_31, bk_M_delete_52, bk_M_delete_53, bk_M_delete_67, bk_M_delete_69, bk_M_delete_81, bk_M_delete_86, bk_M_delete_159, bk_M_delete_174, bk_M_delete_175, bk_M_delete_183, bk_M_delete_186, bk_M_delete_208, bk_M_delete_245, bk_M_delete_251, bk_M_delete_254, bk_M_delete_291, bk_M_delete_297, bk_M_delete_300, bk_M_delete_325, bk_M_delete_331, cs_M_delete]
          have e2 : t'.1 0 2 = nI (a.1 1) := hRx.1.2.1
          rw [e2, q_lt (by omega) (by omega)]
          refine ⟨fun _ => ?_, fun q => absurd (by omega) q⟩
          have hfin : RM t' (a_del a (a_gB a x')) := RM_of hRx (fun j _ j2 _ z => by
            have : (a_del a (a_gB a x')).1 1 = a.1 1 := rfl
            omega)
          have := h t' (by rw [g_delete, q_cl (by omega), ci_t ⟨hxi, hxs, hb⟩]; exact hfin)
          rw [fdel, ci_f hb] at this
          exact this
        | succ d ih =>
          intro i t' hi hb hRx hch o2
          have e2 : t'.1 0 2 = nI (a.1 1) := hRx.1.2.1
          refine hJ 4 _ _ _ _ ?_
          simp only [Nat.reduceAdd, Nat.reduceLeDiff, Nat.zero_le, true_or, or_true, run_s, e_nop, e_iconst, e_bipush, e_sipush, e_lconst, e_iload, e_iload_n, e_lload, e_lload_n, e_aload, e_aload_n, e_istore, e_istore_n, e_iinc, e_iadd, e_isub, e_imul, e_lcmp, e_dupI, e_dupR, e_dup2, e_getfield, e_putfield, e_iaload, e_baload, e_laload, e_iastore, e_bastore, e_lastore, e_if, e_icmp, e_goto, e_tsw, e_ireturn0, e_ireturn1, e_return, e_call0, e_call1, e_call2, e_call3, lI_e, lL_e, lR_e, ak_nth, ak_set, ak_ok1, ak_jp, ak_b1, ak_b2, ak_sw, ak_la, ak_pad, true_and, and_true, List.map_cons, List.map_nil, List.sum_cons, List.sum_nil, Value.category, Option.toList_some, Option.toList_none, List.cons_append, List.nil_append, gM_0_0, pM_0_0, gM_0_1, pM_0_1, gM_0_2, pM_0_2, gM_0_3, pM_0_3, gM_0_4, gM_0_5, gM_0_6, gM_0_7, gM_0_8, gM_0_9, gM_0_10, gM_0_11, gM_0_12, gM_0_13, gM_0_14, gM_0_15, gM_0_16, rM_0, kM_1, kM_2, kM_3, kM_4, kM_5, kM_6, kM_7, kM_8, kM_9, kM_10, kM_11, kM_12, kM_13, fd_M_delete_0, fd_M_delete_16, fd_M_delete_29, fd_M_delete_31, fd_M_delete_52, fd_M_delete_53, fd_M_delete_67, fd_M_delete_69, fd_M_delete_81, fd_M_delete_86, fd_M_delete_159, fd_M_delete_174, fd_M_delete_175, fd_M_delete_183, fd_M_delete_186, fd_M_delete_208, fd_M_delete_245, fd_M_delete_251, fd_M_delete_254, fd_M_delete_291, fd_M_delete_297, fd_M_delete_300, fd_M_delete_325, fd_M_delete_331, bk_M_delete_0, bk_M_delete_16, bk_M_delete_29, bk_M_delete_31, bk_M_delete_52, bk_M_delete_53, bk_M_delete_67, bk_M_delete_69, bk_M_delete_81, bk_M_delete_86, bk_M_delete_159, bk_M_delete_174, bk_M_delete_175, bk_M_delete_183, bk_M_delete_186, bk_M_delete_208, bk_M_delete_245, bk_M_delete_251, bk_M_delete_254, bk_M_delete_291, bk_M_delete_297, bk_M_delete_300, bk_M_delete_325, bk_M_delete_331, cs_M_delete, pt_M_right, nI_1]
          rw [e2, q_lt (by omega) (by omega), q_cl (by omega)]
          refine ⟨fun q => absurd q (by omega), fun _ => ⟨q_in (by omega) (by omega), fun q => ?_, fun q => ?_⟩⟩
          · have hq := (hch (i + 1) (by omega) (by omega)).mp q
            refine ih (i + 1) t' (by omega) hb ?_ hch _
            obtain ⟨r1, r2, r3, r4, r5, r6⟩ := hRx
            refine ⟨r1, r2, r3, r4, fun j p b1 b2 b3 b4 b5 => r5 j p b1 b2 b3 b4 (fun z => ?_), r6⟩
            by_cases e : j = i + 1
            · rw [e] at z; exact hq z.2
            · exact b5 ⟨by omega, z.2⟩
          · have hq : a_gB a x' (i + 1) = true ∨ a_chg a (a_gB a x') (i + 1) = true := Classical.byContradiction (fun z => q ((hch (i + 1) (by omega) (by omega)).mpr z))
            refine ⟨a.1 1, i + 1, by omega, rfl, by omega, rfl, ?_⟩
            refine ih (i + 1) _ (by omega) hb ?_ (fun j j1 j2 => by rw [m_right_o (by decide)]; exact hch j j1 j2) _
            obtain ⟨r1, r2, r3, r4, r5, r6⟩ := m_delRight hA hgT hRx (by omega) (by omega) hq
            refine ⟨r1, r2, r3, r4, fun j p b1 b2 b3 b4 b5 => r5 j p b1 b2 b3 b4 (fun z => ?_), r6⟩
            exact b5 ⟨by have := z.1.1; have := z.2; omega, z.1.2⟩
      -- loop 5
      have loop5 : ∀ d i (t' : ak_S), i + d = a.1 1 → ¬ a_bar a (a_gB a x') → m_F t0 t' → (∀ j, 1 ≤ j → j ≤ a.1 1 → t'.1 6 j = nI (if j ≤ i then m_st ((a_del a (a_gB a x')).2.1 5 j) else m_st ((a_rw a (a_gB a x')).2.1 5 j))) → (∀ j, j ≤ 250 → t'.1 7 j = nI ((a_rw a (a_gB a x')).2.1 6 j)) → (∀ j, t'.1 8 j = t0.1 8 j) → (∀ j, 1 ≤ j → j ≤ a.1 1 → (t'.1 11 j = 0 ↔ ¬ (a_gB a x' j = true ∨ a_chg a (a_gB a x') j = true))) → ∀ o2 : Option Value, J 254 [some (.ref 0), some (.int (nI x')), o2, some (.int (nI (cn (a_gB a x') (a.1 1)))), some (.int (nI (i + 1)))] [] t' := by
        intro d
        induction d with
        | zero =>
          intro i t' hi hb hF h6 h7 h8 hch o2
          have e : i = a.1 1 := by omega
          subst e
          refine hJ 3 _ _ _ _ ?_
          simp only [Nat.reduceAdd, Nat.reduceLeDiff, Nat.zero_le, true_or, or_true, run_s, e_nop, e_iconst, e_bipush, e_sipush, e_lconst, e_iload, e_iload_n, e_lload, e_lload_n, e_aload, e_aload_n, e_istore, e_istore_n, e_iinc, e_iadd, e_isub, e_imul, e_lcmp, e_dupI, e_dupR, e_dup2, e_getfield, e_putfield, e_iaload, e_baload, e_laload, e_iastore, e_bastore, e_lastore, e_if, e_icmp, e_goto, e_tsw, e_ireturn0, e_ireturn1, e_return, e_call0, e_call1, e_call2, e_call3, lI_e, lL_e, lR_e, ak_nth, ak_set, ak_ok1, ak_jp, ak_b1, ak_b2, ak_sw, ak_la, ak_pad, true_and, and_true, List.map_cons, List.map_nil, List.sum_cons, List.sum_nil, Value.category, Option.toList_some, Option.toList_none, List.cons_append, List.nil_append, gM_0_0, pM_0_0, gM_0_1, pM_0_1, gM_0_2, pM_0_2, gM_0_3, pM_0_3, gM_0_4, gM_0_5, gM_0_6, gM_0_7, gM_0_8, gM_0_9, gM_0_10, gM_0_11, gM_0_12, gM_0_13, gM_0_14, gM_0_15, gM_0_16, rM_0, kM_1, kM_2, kM_3, kM_4, kM_5, kM_6, kM_7, kM_8, kM_9, kM_10, kM_11, kM_12, kM_13, fd_M_delete_0, fd_M_delete_16, fd_M_delete_29, fd_M_delete_31, fd_M_delete_52, fd_M_delete_53, fd_M_delete_67, fd_M_delete_69, fd_M_delete_81, fd_M_delete_86, fd_M_delete_159, fd_M_delete_174, fd_M_delete_175, fd_M_delete_183, fd_M_delete_186, fd_M_delete_208, fd_M_delete_245, fd_M_delete_251, fd_M_delete_254, fd_M_delete_291, fd_M_delete_297, fd_M_delete_300, fd_M_delete_325, fd_M_delete_331, bk_M_delete_0, bk_M_delete_16, bk_M_delete_29, bk_M_delete_31, bk_M_delete_52, bk_M_delete_53, bk_M_delete_67, bk_M_delete_69, bk_M_delete_81, bk_M_delete_86, bk_M_delete_159, bk_M_delete_174, bk_M_delete_175, bk_M_delete_183, bk_M_delete_186, bk_M_delete_208, bk_M_delete_245, bk_M_delete_251, bk_M_delete_254, bk_M_delete_291, bk_M_delete_297, bk_M_delete_300, bk_M_delete_325, bk_M_delete_331, cs_M_delete]
          have e2 : t'.1 0 2 = nI (a.1 1) := by rw [hF.1 0 2 (by decide) (by decide) (by decide) (by decide) (by decide)]; exact hR0.1.2.1
          rw [e2, q_lt (by omega) (by omega)]
          refine ⟨fun _ => ?_, fun q => absurd (by omega) q⟩
          have hrows := m_delRows hA hR0 (T := a_gB a x') hF (fun j j1 j2 => by rw [h6 j j1 j2, if_pos j2]) h7 h8 (fun j j1 j2 hj => by
            obtain ⟨_, _, hr⟩ := a_gB_t.mp hj
            have := hr (fun y => a.2.1 5 y = 1) hxs (fun y k hy y1 y2 k1 k2 htk => by
              rcases htk with w | w
              · exact w.1
              · exact (hA.2.2.2.2.1 k (by omega) (by omega)).2.2)
            exact this)
          refine loop6 (a.1 1) 0 t' (by omega) hb ?_ hch _
          obtain ⟨r1, r2, r3, r4, r5, r6⟩ := hrows
          exact ⟨r1, r2, r3, r4, fun j p b1 b2 b3 b4 b5 => r5 j p b1 b2 b3 b4 (fun z => b5 ⟨by omega, z⟩), r6⟩
        | succ d ih =>
          intro i t' hi hb hF h6 h7 h8 hch o2
          have e2 : t'.1 0 2 = nI (a.1 1) := by rw [hF.1 0 2 (by decide) (by decide) (by decide) (by decide) (by decide)]; exact hR0.1.2.1
          have hb5 : (a_rw a (a_gB a x')).2.1 5 (i + 1) ≤ 2 := by
            rw [rw_5]
            have := (hA.2.2.1 (i + 1) (by omega)).2.2.1
            split <;> omega
          have e6 := h6 (i + 1) (by omega) (by omega)
          rw [if_neg (by omega)] at e6
          have z2 : t'.1 6 (i + 1) = 2 ↔ (a_rw a (a_gB a x')).2.1 5 (i + 1) = 2 := by
            rw [e6]
            unfold m_st
            rcases (by omega : (a_rw a (a_gB a x')).2.1 5 (i + 1) = 0 ∨ (a_rw a (a_gB a x')).2.1 5 (i + 1) = 1 ∨ (a_rw a (a_gB a x')).2.1 5 (i + 1) = 2) with z | z | z <;> rw [z] <;> decide
          have hd5 : (a_del a (a_gB a x')).2.1 5 (i + 1) = if (a_rw a (a_gB a x')).2.1 5 (i + 1) = 2 ∧ ac (a_rw a (a_gB a x')) (i + 1) = 0 then 0 else (a_rw a (a_gB a x')).2.1 5 (i + 1) := by
            show (if 1 ≤ i + 1 ∧ i + 1 ≤ a.1 1 ∧ (a_rw a (a_gB a x')).2.1 5 (i + 1) = 2 ∧ ac (a_rw a (a_gB a x')) (i + 1) = 0 then 0 else (a_rw a (a_gB a x')).2.1 5 (i + 1)) = _
            by_cases z : (a_rw a (a_gB a x')).2.1 5 (i + 1) = 2 ∧ ac (a_rw a (a_gB a x')) (i + 1) = 0
            · rw [if_pos z, if_pos ⟨by omega, by omega, z.1, z.2⟩]
            · rw [if_neg z, if_neg (fun w => z ⟨w.2.2.1, w.2.2.2⟩)]
          -- the count
          have hcnt : m_cnt t' (a.1 1) (nI (i + 1)) = ac (a_rw a (a_gB a x')) (i + 1) := by
            unfold m_cnt
            show cn _ (a.1 1) = cn (fun j => decide ((a_rw a (a_gB a x')).2.1 6 j = i + 1)) (a.1 1)
            refine cn_congr (fun j j1 j2 => ?_)
            have hrb : (a_rw a (a_gB a x')).2.1 6 j ≤ 250 := by
              rw [rw_6]
              have := (hA.2.2.1 j (by omega)).2.2.2
              split <;> omega
            rw [decide_eq_decide, h7 j (by omega), nI_eq (by omega) (by omega)]
            refine ⟨fun w => w.2, fun w => ⟨?_, w⟩⟩
            rw [rw_6] at w
            by_cases wT : a_gB a x' j = true
            · rw [if_pos wT] at w; omega
            · rw [if_neg wT] at w
              have st1 := (hA.2.2.2.2.1 j (by omega) (by omega)).2.2
              rw [h6 j j1 j2]
              have r5 : (a_rw a (a_gB a x')).2.1 5 j = 1 := by rw [rw_5, if_neg wT]; exact st1
              have d5 : (a_del a (a_gB a x')).2.1 5 j = 1 := by
                show (if 1 ≤ j ∧ j ≤ a.1 1 ∧ (a_rw a (a_gB a x')).2.1 5 j = 2 ∧ ac (a_rw a (a_gB a x')) j = 0 then 0 else (a_rw a (a_gB a x')).2.1 5 j) = 1
                rw [r5, if_neg (fun z => by have := z.2.2.1; omega)]
              rw [r5, d5]
              split <;> rfl
          have hcb : ac (a_rw a (a_gB a x')) (i + 1) ≤ a.1 1 := cn_le _ _
          have ez : nI (ac (a_rw a (a_gB a x')) (i + 1)) = 0 ↔ ac (a_rw a (a_gB a x')) (i + 1) = 0 := by rw [n_0]; exact nI_eq (by omega) (by omega)
          have keep : ¬ ((a_rw a (a_gB a x')).2.1 5 (i + 1) = 2 ∧ ac (a_rw a (a_gB a x')) (i + 1) = 0) → J 254 [some (.ref 0), some (.int (nI x')), o2, some (.int (nI (cn (a_gB a x') (a.1 1)))), some (.int (nI (i + 1 + 1)))] [] t' := by
            intro z
            refine ih (i + 1) t' (by omega) hb hF (fun j j1 j2 => ?_) h7 h8 hch _
            by_cases e : j = i + 1
            · rw [if_pos (by omega), e, e6, hd5, if_neg z]
            · rw [h6 j j1 j2]
              by_cases w : j ≤ i
              · rw [if_pos w, if_pos (by omega)]
              · rw [if_neg w, if_neg (by omega)]
          refine hJ 4 _ _ _ _ ?_
          simp only [Nat.reduceAdd, Nat.reduceLeDiff, Nat.zero_le, true_or, or_true, run_s, e_nop, e_iconst, e_bipush, e_sipush, e_lconst, e_iload, e_iload_n, e_lload, e_lload_n, e_aload, e_aload_n, e_istore, e_istore_n, e_iinc, e_iadd, e_isub, e_imul, e_lcmp, e_dupI, e_dupR, e_dup2, e_getfield, e_putfield, e_iaload, e_baload, e_laload, e_iastore, e_bastore, e_lastore, e_if, e_icmp, e_goto, e_tsw, e_ireturn0, e_ireturn1, e_return, e_call0, e_call1, e_call2, e_call3, lI_e, lL_e, lR_e, ak_nth, ak_set, ak_ok1, ak_jp, ak_b1, ak_b2, ak_sw, ak_la, ak_pad, true_and, and_true, List.map_cons, List.map_nil, List.sum_cons, List.sum_nil, Value.category, Option.toList_some, Option.toList_none, List.cons_append, List.nil_append, gM_0_0, pM_0_0, gM_0_1, pM_0_1, gM_0_2, pM_0_2, gM_0_3, pM_0_3, gM_0_4, gM_0_5, gM_0_6, gM_0_7, gM_0_8, gM_0_9, gM_0_10, gM_0_11, gM_0_12, gM_0_13, gM_0_14, gM_0_15, gM_0_16, rM_0, kM_1, kM_2, kM_3, kM_4, kM_5, kM_6, kM_7, kM_8, kM_9, kM_10, kM_11, kM_12, kM_13, fd_M_delete_0, fd_M_delete_16, fd_M_delete_29, fd_M_delete_31, fd_M_delete_52, fd_M_delete_53, fd_M_delete_67, fd_M_delete_69, fd_M_delete_81, fd_M_delete_86, fd_M_delete_159, fd_M_delete_174, fd_M_delete_175, fd_M_delete_183, fd_M_delete_186, fd_M_delete_208, fd_M_delete_245, fd_M_delete_251, fd_M_delete_254, fd_M_delete_291, fd_M_delete_297, fd_M_delete_300, fd_M_delete_325, fd_M_delete_331, bk_M_delete_0, bk_M_delete_16, bk_M_delete_29, bk_M_delete_31, bk_M_delete_52, bk_M_delete_53, bk_M_delete_67, bk_M_delete_69, bk_M_delete_81, bk_M_delete_86, bk_M_delete_159, bk_M_delete_174, bk_M_delete_175, bk_M_delete_183, bk_M_delete_186, bk_M_delete_208, bk_M_delete_245, bk_M_delete_251, bk_M_delete_254, bk_M_delete_291, bk_M_delete_297, bk_M_delete_300, bk_M_delete_325, bk_M_delete_331, cs_M_delete, pt_M_countOf, nI_1]
          rw [e2, q_lt (by omega) (by omega), q_cl (by omega), z2]
          refine ⟨fun q => absurd q (by omega), fun _ => ⟨q_in (by omega) (by omega), fun q => keep (fun z => q z.1), fun q => ⟨a.1 1, by omega, rfl, ?_⟩⟩⟩
          rw [hcnt, ez]
          refine ⟨fun q2 => keep (fun z => q2 z.2), fun q2 => ⟨q_in (by omega) (by omega), ?_⟩⟩
          refine ih (i + 1) _ (by omega) hb (m_F_p hF (Or.inl rfl)) (fun j j1 j2 => ?_) (fun j hj => by rw [p1_o (by decide)]; exact h7 j hj) (fun j => by rw [p1_o (by decide)]; exact h8 j) (fun j j1 j2 => by rw [p1_o (by decide)]; exact hch j j1 j2) _
          rw [p1_s]
          by_cases e : j = i + 1
          · rw [if_pos e, if_pos (by omega), e, hd5, if_pos ⟨q, q2⟩]; rfl
          · rw [if_neg e, h6 j j1 j2]
            by_cases w : j ≤ i
            · rw [if_pos w, if_pos (by omega)]
            · rw [if_neg w, if_neg (by omega)]
      -- loop 4
      have loop4 : ∀ d i (t' : ak_S), i + d = a.1 1 → ¬ a_bar a (a_gB a x') → m_F t0 t' → (∀ j, 1 ≤ j → j ≤ a.1 1 → t'.1 6 j = nI (m_st (if j ≤ i then (a_rw a (a_gB a x')).2.1 5 j else a.2.1 5 j))) → (∀ j, j ≤ 250 → t'.1 7 j = nI (if 1 ≤ j ∧ j ≤ i then (a_rw a (a_gB a x')).2.1 6 j else a.2.1 6 j)) → (∀ j, t'.1 8 j = t0.1 8 j) → (∀ j, j ≤ 250 → (t'.1 10 j = 0 ↔ ¬ a_gB a x' j = true)) → (∀ j, 1 ≤ j → j ≤ a.1 1 → (t'.1 11 j = 0 ↔ ¬ ((j ≤ i ∧ a_gB a x' j = true) ∨ ∃ e, 1 ≤ e ∧ e ≤ i ∧ a_gB a x' e = true ∧ a.2.1 6 e = j))) → ∀ o2 : Option Value, J 186 [some (.ref 0), some (.int (nI x')), o2, some (.int (nI (cn (a_gB a x') (a.1 1)))), some (.int (nI (i + 1)))] [] t' := by
        intro d
        induction d with
        | zero =>
          intro i t' hi hb hF h6 h7 h8 h10 h11 o2
          have e : i = a.1 1 := by omega
          subst e
          refine hJ 3 _ _ _ _ ?_
          simp only [Nat.reduceAdd, Nat.reduceLeDiff, Nat.zero_le, true_or, or_true, run_s, e_nop, e_iconst, e_bipush, e_sipush, e_lconst, e_iload, e_iload_n, e_lload, e_lload_n, e_aload, e_aload_n, e_istore, e_istore_n, e_iinc, e_iadd, e_isub, e_imul, e_lcmp, e_dupI, e_dupR, e_dup2, e_getfield, e_putfield, e_iaload, e_baload, e_laload, e_iastore, e_bastore, e_lastore, e_if, e_icmp, e_goto, e_tsw, e_ireturn0, e_ireturn1, e_return, e_call0, e_call1, e_call2, e_call3, lI_e, lL_e, lR_e, ak_nth, ak_set, ak_ok1, ak_jp, ak_b1, ak_b2, ak_sw, ak_la, ak_pad, true_and, and_true, List.map_cons, List.map_nil, List.sum_cons, List.sum_nil, Value.category, Option.toList_some, Option.toList_none, List.cons_append, List.nil_append, gM_0_0, pM_0_0, gM_0_1, pM_0_1, gM_0_2, pM_0_2, gM_0_3, pM_0_3, gM_0_4, gM_0_5, gM_0_6, gM_0_7, gM_0_8, gM_0_9, gM_0_10, gM_0_11, gM_0_12, gM_0_13, gM_0_14, gM_0_15, gM_0_16, rM_0, kM_1, kM_2, kM_3, kM_4, kM_5, kM_6, kM_7, kM_8, kM_9, kM_10, kM_11, kM_12, kM_13, fd_M_delete_0, fd_M_delete_16, fd_M_delete_29, fd_M_delete_31, fd_M_delete_52, fd_M_delete_53, fd_M_delete_67, fd_M_delete_69, fd_M_delete_81, fd_M_delete_86, fd_M_delete_159, fd_M_delete_174, fd_M_delete_175, fd_M_delete_183, fd_M_delete_186, fd_M_delete_208, fd_M_delete_245, fd_M_delete_251, fd_M_delete_254, fd_M_delete_291, fd_M_delete_297, fd_M_delete_300, fd_M_delete_325, fd_M_delete_331, bk_M_delete_0, bk_M_delete_16, bk_M_delete_29, bk_M_delete_31, bk_M_delete_52, bk_M_delete_53, bk_M_delete_67, bk_M_delete_69, bk_M_delete_81, bk_M_delete_86, bk_M_delete_159, bk_M_delete_174, bk_M_delete_175, bk_M_delete_183, bk_M_delete_186, bk_M_delete_208, bk_M_delete_245, bk_M_delete_251, bk_M_delete_254, bk_M_delete_291, bk_M_delete_297, bk_M_delete_300, bk_M_delete_325, bk_M_delete_331, cs_M_delete]
          have e2 : t'.1 0 2 = nI (a.1 1) := by rw [hF.1 0 2 (by decide) (by decide) (by decide) (by decide) (by decide)]; exact hR0.1.2.1
          rw [e2, q_lt (by omega) (by omega)]
          refine ⟨fun _ => ?_, fun q => absurd (by omega) q⟩
          refine loop5 (a.1 1) 0 t' (by omega) hb hF (fun j j1 j2 => by rw [h6 j j1 j2, if_pos j2, if_neg (by omega)]) (fun j hj => ?_) h8 (fun j j1 j2 => ?_) _
          · rw [h7 j hj]
            by_cases z : 1 ≤ j ∧ j ≤ a.1 1
            · rw [if_pos z]
            · rw [if_neg z, rw_6, if_neg (fun w => z (hgT j w))]
          · rw [h11 j j1 j2]
            have : a_chg a (a_gB a x') j = true ↔ ∃ e, 1 ≤ e ∧ e ≤ a.1 1 ∧ a_gB a x' e = true ∧ a.2.1 6 e = j := by
              unfold a_chg
              rw [decide_eq_true_eq, cn_ex]
              simp only [Bool.and_eq_true, decide_eq_true_eq]
            rw [this]
            refine not_congr ⟨fun z => ?_, fun z => ?_⟩
            · rcases z with z | z
              · exact Or.inl z.2
              · exact Or.inr z
            · rcases z with z | z
              · exact Or.inl ⟨j2, z⟩
              · exact Or.inr z
        | succ d ih =>
          intro i t' hi hb hF h6 h7 h8 h10 h11 o2
          have e2 : t'.1 0 2 = nI (a.1 1) := by rw [hF.1 0 2 (by decide) (by decide) (by decide) (by decide) (by decide)]; exact hR0.1.2.1
          have e7 := h7 (i + 1) (by omega)
          rw [if_neg (by omega)] at e7
          have rb := (hA.2.2.1 (i + 1) (by omega)).2.2.2
          refine hJ 4 _ _ _ _ ?_
          simp only [Nat.reduceAdd, Nat.reduceLeDiff, Nat.zero_le, true_or, or_true, run_s, e_nop, e_iconst, e_bipush, e_sipush, e_lconst, e_iload, e_iload_n, e_lload, e_lload_n, e_aload, e_aload_n, e_istore, e_istore_n, e_iinc, e_iadd, e_isub, e_imul, e_lcmp, e_dupI, e_dupR, e_dup2, e_getfield, e_putfield, e_iaload, e_baload, e_laload, e_iastore, e_bastore, e_lastore, e_if, e_icmp, e_goto, e_tsw, e_ireturn0, e_ireturn1, e_return, e_call0, e_call1, e_call2, e_call3, lI_e, lL_e, lR_e, ak_nth, ak_set, ak_ok1, ak_jp, ak_b1, ak_b2, ak_sw, ak_la, ak_pad, true_and, and_true, List.map_cons, List.map_nil, List.sum_cons, List.sum_nil, Value.category, Option.toList_some, Option.toList_none, List.cons_append, List.nil_append, gM_0_0, pM_0_0, gM_0_1, pM_0_1, gM_0_2, pM_0_2, gM_0_3, pM_0_3, gM_0_4, gM_0_5, gM_0_6, gM_0_7, gM_0_8, gM_0_9, gM_0_10, gM_0_11, gM_0_12, gM_0_13, gM_0_14, gM_0_15, gM_0_16, rM_0, kM_1, kM_2, kM_3, kM_4, kM_5, kM_6, kM_7, kM_8, kM_9, kM_10, kM_11, kM_12, kM_13, fd_M_delete_0, fd_M_delete_16, fd_M_delete_29, fd_M_delete_31, fd_M_delete_52, fd_M_delete_53, fd_M_delete_67, fd_M_delete_69, fd_M_delete_81, fd_M_delete_86, fd_M_delete_159, fd_M_delete_174, fd_M_delete_175, fd_M_delete_183, fd_M_delete_186, fd_M_delete_208, fd_M_delete_245, fd_M_delete_251, fd_M_delete_254, fd_M_delete_291, fd_M_delete_297, fd_M_delete_300, fd_M_delete_325, fd_M_delete_331, bk_M_delete_0, bk_M_delete_16, bk_M_delete_29, bk_M_delete_31, bk_M_delete_52, bk_M_delete_53, bk_M_delete_67, bk_M_delete_69, bk_M_delete_81, bk_M_delete_86, bk_M_delete_159, bk_M_delete_174, bk_M_delete_175, bk_M_delete_183, bk_M_delete_186, bk_M_delete_208, bk_M_delete_245, bk_M_delete_251, bk_M_delete_254, bk_M_delete_291, bk_M_delete_297, bk_M_delete_300, bk_M_delete_325, bk_M_delete_331, cs_M_delete, nI_1, p1_o, ne_eq, Nat.reduceEqDiff, not_false_eq_true]
          rw [e2, q_lt (by omega) (by omega), q_cl (a := i + 1) (by omega), e7, q_cl (by omega), h10 (i + 1) (by omega)]
          have e1 : (1 : Int32) &&& 1 = 1 := by decide
          rw [e1]
          refine ⟨fun q => absurd q (by omega), fun _ => ⟨q_in (by omega) (by omega), fun q => ?_, fun q => ?_⟩⟩
          · have q := Classical.not_not.mp q
            refine ⟨q_in (by omega) (by omega), q_in (by omega) (by omega), q_in (by omega) (by omega), q_in (by omega) (by omega), q_in (by omega) (by omega), ?_⟩
            refine ih (i + 1) _ (by omega) hb (m_F_p (m_F_p (m_F_p (m_F_p hF (Or.inl rfl)) (by omega)) (by omega)) (by omega)) (fun j j1 j2 => ?_) (fun j hj => ?_) (fun j => ?_) (fun j hj => ?_) (fun j j1 j2 => ?_) _
            · rw [p1_o (by decide), p1_o (by decide), p1_o (by decide), p1_s]
              by_cases e : j = i + 1
              · rw [if_pos e, if_pos (by omega), e, rw_5, if_pos q]; rfl
              · rw [if_neg e, h6 j j1 j2]
                by_cases w : j ≤ i
                · rw [if_pos w, if_pos (by omega)]
                · rw [if_neg w, if_neg (by omega)]
            · rw [p1_s]
              by_cases e : j = i + 1
              · rw [if_pos e, if_pos ⟨by omega, by omega⟩, e, rw_6, if_pos q]; rfl
              · rw [if_neg e, p1_o (by decide), p1_o (by decide), p1_o (by decide), h7 j hj]
                by_cases w : 1 ≤ j ∧ j ≤ i
                · rw [if_pos w, if_pos ⟨w.1, by omega⟩]
                · rw [if_neg w, if_neg (fun z => w ⟨z.1, by omega⟩)]
            · rw [p1_o (by decide), p1_o (by decide), p1_o (by decide), p1_o (by decide)]; exact h8 j
            · rw [p1_o (by decide), p1_o (by decide), p1_o (by decide), p1_o (by decide)]; exact h10 j hj
            · rw [p1_o (by decide), p1_s, p1_s, p1_o (by decide)]
              by_cases w1 : j = a.2.1 6 (i + 1)
              · rw [if_pos w1]
                exact ⟨fun z => absurd z (by decide), fun z => absurd (Or.inr ⟨i + 1, by omega, by omega, q, w1.symm⟩) z⟩
              · rw [if_neg w1]
                by_cases w2 : j = i + 1
                · rw [if_pos w2]
                  exact ⟨fun z => absurd z (by decide), fun z => absurd (Or.inl ⟨by omega, by rw [w2]; exact q⟩) z⟩
                · rw [if_neg w2, h11 j j1 j2]
                  refine not_congr ⟨fun z => ?_, fun z => ?_⟩
                  · rcases z with z | ⟨e, z1, z2, z3, z4⟩
                    · exact Or.inl ⟨by omega, z.2⟩
                    · exact Or.inr ⟨e, z1, by omega, z3, z4⟩
                  · rcases z with z | ⟨e, z1, z2, z3, z4⟩
                    · exact Or.inl ⟨by omega, z.2⟩
                    · refine Or.inr ⟨e, z1, ?_, z3, z4⟩
                      by_cases w3 : e = i + 1
                      · subst w3; exact absurd z4.symm w1
                      · omega
          · refine ih (i + 1) t' (by omega) hb hF (fun j j1 j2 => ?_) (fun j hj => ?_) h8 h10 (fun j j1 j2 => ?_) _
            · rw [h6 j j1 j2]
              by_cases e : j = i + 1
              · rw [if_neg (by omega), if_pos (by omega), e, rw_5, if_neg q]
              · by_cases w : j ≤ i
                · rw [if_pos w, if_pos (by omega)]
                · rw [if_neg w, if_neg (by omega)]
            · rw [h7 j hj]
              by_cases e : j = i + 1
              · rw [if_neg (by omega), if_pos ⟨by omega, by omega⟩, e, rw_6, if_neg q]
              · by_cases w : 1 ≤ j ∧ j ≤ i
                · rw [if_pos w, if_pos ⟨w.1, by omega⟩]
                · rw [if_neg w, if_neg (fun z => w ⟨z.1, by omega⟩)]
            · rw [h11 j j1 j2]
              refine not_congr ⟨fun z => ?_, fun z => ?_⟩
              · rcases z with z | ⟨e, z1, z2, z3, z4⟩
                · exact Or.inl ⟨by omega, z.2⟩
                · exact Or.inr ⟨e, z1, by omega, z3, z4⟩
              · rcases z with z | ⟨e, z1, z2, z3, z4⟩
                · refine Or.inl ⟨?_, z.2⟩
                  by_cases w3 : j = i + 1
                  · subst w3; exact absurd z.2 q
                  · omega
                · refine Or.inr ⟨e, z1, ?_, z3, z4⟩
                  by_cases w3 : e = i + 1
                  · subst w3; exact absurd z3 q
                  · omega
      -- loop 3
      have loop3 : ∀ d i (t' : ak_S), i + d = a.1 1 → m_F t0 t' → (∀ j, t'.1 6 j = t0.1 6 j) → (∀ j, t'.1 7 j = t0.1 7 j) → (∀ j, t'.1 8 j = t0.1 8 j) → (∀ j, j ≤ 250 → (t'.1 10 j = 0 ↔ ¬ a_gB a x' j = true)) → (∀ j, j ≤ 250 → t'.1 11 j = 0) → (∀ j, 1 ≤ j → j ≤ i → ¬ (a_gB a x' j = false ∧ a.2.1 6 j ≠ 0 ∧ a_gB a x' (a.2.1 6 j) = true ∧ a.2.1 2 (a.2.1 3 j) = 0)) → ∀ z2 : Int32, J 86 [some (.ref 0), some (.int (nI x')), some (.int z2), some (.int (nI (cn (a_gB a x') i))), some (.int (nI (i + 1)))] [] t' := by
        intro d
        induction d with
        | zero =>
          intro i t' hi hF h6 h7 h8 h10 h11 hnb z2
          have e : i = a.1 1 := by omega
          subst e
          have hR' := RM_same hR0 hF h6 h7 h8
          refine hJ 3 _ _ _ _ ?_
          simp only [Nat.reduceAdd, Nat.reduceLeDiff, Nat.zero_le, true_or, or_true, run_s, e_nop, e_iconst, e_bipush, e_sipush, e_lconst, e_iload, e_iload_n, e_lload, e_lload_n, e_aload, e_aload_n, e_istore, e_istore_n, e_iinc, e_iadd, e_isub, e_imul, e_lcmp, e_dupI, e_dupR, e_dup2, e_getfield, e_putfield, e_iaload, e_baload, e_laload, e_iastore, e_bastore, e_lastore, e_if, e_icmp, e_goto, e_tsw, e_ireturn0, e_ireturn1, e_return, e_call0, e_call1, e_call2, e_call3, lI_e, lL_e, lR_e, ak_nth, ak_set, ak_ok1, ak_jp, ak_b1, ak_b2, ak_sw, ak_la, ak_pad, true_and, and_true, List.map_cons, List.map_nil, List.sum_cons, List.sum_nil, Value.category, Option.toList_some, Option.toList_none, List.cons_append, List.nil_append, gM_0_0, pM_0_0, gM_0_1, pM_0_1, gM_0_2, pM_0_2, gM_0_3, pM_0_3, gM_0_4, gM_0_5, gM_0_6, gM_0_7, gM_0_8, gM_0_9, gM_0_10, gM_0_11, gM_0_12, gM_0_13, gM_0_14, gM_0_15, gM_0_16, rM_0, kM_1, kM_2, kM_3, kM_4, kM_5, kM_6, kM_7, kM_8, kM_9, kM_10, kM_11, kM_12, kM_13, fd_M_delete_0, fd_M_delete_16, fd_M_delete_29, fd_M_delete_31, fd_M_delete_52, fd_M_delete_53, fd_M_delete_67, fd_M_delete_69, fd_M_delete_81, fd_M_delete_86, fd_M_delete_159, fd_M_delete_174, fd_M_delete_175, fd_M_delete_183, fd_M_delete_186, fd_M_delete_208, fd_M_delete_245, fd_M_delete_251, fd_M_delete_254, fd_M_delete_291, fd_M_delete_297, fd_M_delete_300, fd_M_delete_325, fd_M_delete_331, bk_M_delete_0, bk_M_delete_16, bk_M_delete_29, bk_M_delete_31, bk_M_delete_52, bk_M_delete_53, bk_M_delete_67, bk_M_delete_69, bk_M_delete_81, bk_M_delete_86, bk_M_delete_159, bk_M_delete_174, bk_M_delete_175, bk_M_delete_183, bk_M_delete_186, bk_M_delete_208, bk_M_delete_245, bk_M_delete_251, bk_M_delete_254, bk_M_delete_291, bk_M_delete_297, bk_M_delete_300, bk_M_delete_325, bk_M_delete_331, cs_M_delete]
          rw [hR'.1.2.1, q_lt (by omega) (by omega)]
          refine ⟨fun _ => ?_, fun q => absurd (by omega) q⟩
          refine loop4 (a.1 1) 0 t' (by omega) (fun ⟨j, j1, j2, z⟩ => hnb j j1 j2 z) hF (fun j j1 j2 => ?_) (fun j hj => ?_) h8 h10 (fun j j1 j2 => ?_) _
          · rw [if_neg (by omega)]; exact hR'.2.2.2.1 j j1 j2
          · rw [if_neg (by omega)]; exact (hR'.2.2.1 j hj).2.2.2
          · rw [h11 j (by omega)]
            refine ⟨fun _ z => ?_, fun _ => rfl⟩
            rcases z with z | ⟨e, z1, z2, _⟩
            · omega
            · omega
        | succ d ih =>
          intro i t' hi hF h6 h7 h8 h10 h11 hnb z2
          have hR' := RM_same hR0 hF h6 h7 h8
          obtain ⟨b1, _, _, b4⟩ := hR'.2.2.1 (i + 1) (by omega)
          obtain ⟨c1, _, c3, c4⟩ := hA.2.2.1 (i + 1) (by omega)
          have r := (hR'.2.1 (a.2.1 3 (i + 1)) (by omega)).2.2
          have rb := (hA.2.1 (a.2.1 3 (i + 1)) (by omega)).2.2
          have s1 := (stM hA hR' (show 1 ≤ i + 1 by omega) (by omega)).1
          have er0 : nI (a.2.1 6 (i + 1)) = 0 ↔ a.2.1 6 (i + 1) = 0 := by rw [n_0]; exact nI_eq (by omega) (by omega)
          have eru : nI (a.2.1 2 (a.2.1 3 (i + 1))) = 0 ↔ a.2.1 2 (a.2.1 3 (i + 1)) = 0 := by rw [n_0]; exact nI_eq (by omega) (by omega)
          have go : ¬ (a_gB a x' (i + 1) = false ∧ a.2.1 6 (i + 1) ≠ 0 ∧ a_gB a x' (a.2.1 6 (i + 1)) = true ∧ a.2.1 2 (a.2.1 3 (i + 1)) = 0) → J 159 [some (.ref 0), some (.int (nI x')), some (.int z2), some (.int (nI (cn (a_gB a x') i))), some (.int (nI (i + 1)))] [] t' := by
            intro z
            have hh := ih (i + 1) t' (by omega) hF h6 h7 h8 h10 h11 (fun j j1 j2 => by
              by_cases e : j = i + 1
              · rw [e]; exact z
              · exact hnb j j1 (by omega)) z2
            refine hJ 4 _ _ _ _ ?_
            simp only [Nat.reduceAdd, Nat.reduceLeDiff, Nat.zero_le, true_or, or_true, run_s, e_nop, e_iconst, e_bipush, e_sipush, e_lconst, e_iload, e_iload_n, e_lload, e_lload_n, e_aload, e_aload_n, e_istore, e_istore_n, e_iinc, e_iadd, e_isub, e_imul, e_lcmp, e_dupI, e_dupR, e_dup2, e_getfield, e_putfield, e_iaload, e_baload, e_laload, e_iastore, e_bastore, e_lastore, e_if, e_icmp, e_goto, e_tsw, e_ireturn0, e_ireturn1, e_return, e_call0, e_call1, e_call2, e_call3, lI_e, lL_e, lR_e, ak_nth, ak_set, ak_ok1, ak_jp, ak_b1, ak_b2, ak_sw, ak_la, ak_pad, true_and, and_true, List.map_cons, List.map_nil, List.sum_cons, List.sum_nil, Value.category, Option.toList_some, Option.toList_none, List.cons_append, List.nil_append, gM_0_0, pM_0_0, gM_0_1, pM_0_1, gM_0_2, pM_0_2, gM_0_3, pM_0_3, gM_0_4, gM_0_5, gM_0_6, gM_0_7, gM_0_8, gM_0_9, gM_0_10, gM_0_11, gM_0_12, gM_0_13, gM_0_14, gM_0_15, gM_0_16, rM_0, kM_1, kM_2, kM_3, kM_4, kM_5, kM_6, kM_7, kM_8, kM_9, kM_10, kM_11, kM_12, kM_13, fd_M_delete_0, fd_M_delete_16, fd_M_delete_29, fd_M_delete_31, fd_M_delete_52, fd_M_delete_53, fd_M_delete_67, fd_M_delete_69, fd_M_delete_81, fd_M_delete_86, fd_M_delete_159, fd_M_delete_174, fd_M_delete_175, fd_M_delete_183, fd_M_delete_186, fd_M_delete_208, fd_M_delete_245, fd_M_delete_251, fd_M_delete_254, fd_M_delete_291, fd_M_delete_297, fd_M_delete_300, fd_M_delete_325, fd_M_delete_331, bk_M_delete_0, bk_M_delete_16, bk_M_delete_29, bk_M_delete_31, bk_M_delete_52, bk_M_delete_53, bk_M_delete_67, bk_M_delete_69, bk_M_delete_81, bk_M_delete_86, bk_M_delete_159, bk_M_delete_174, bk_M_delete_175, bk_M_delete_183, bk_M_delete_186, bk_M_delete_208, bk_M_delete_245, bk_M_delete_251, bk_M_delete_254, bk_M_delete_291, bk_M_delete_297, bk_M_delete_300, bk_M_delete_325, bk_M_delete_331, cs_M_delete, nI_1]
            have e0 : ∀ z : Nat, nI z + 0 = nI z := fun z => by rw [n_0, nI_add]; rfl
            rw [q_cl (by omega), h10 (i + 1) (by omega), e0]
            refine ⟨q_in (by omega) (by omega), fun q => ?_, fun q => ?_⟩
            · simpa [cn, q] using hh
            · simpa [cn, Classical.not_not.mp q] using hh
          refine hJ 6 _ _ _ _ ?_
          simp only [Nat.reduceAdd, Nat.reduceLeDiff, Nat.zero_le, true_or, or_true, run_s, e_nop, e_iconst, e_bipush, e_sipush, e_lconst, e_iload, e_iload_n, e_lload, e_lload_n, e_aload, e_aload_n, e_istore, e_istore_n, e_iinc, e_iadd, e_isub, e_imul, e_lcmp, e_dupI, e_dupR, e_dup2, e_getfield, e_putfield, e_iaload, e_baload, e_laload, e_iastore, e_bastore, e_lastore, e_if, e_icmp, e_goto, e_tsw, e_ireturn0, e_ireturn1, e_return, e_call0, e_call1, e_call2, e_call3, lI_e, lL_e, lR_e, ak_nth, ak_set, ak_ok1, ak_jp, ak_b1, ak_b2, ak_sw, ak_la, ak_pad, true_and, and_true, List.map_cons, List.map_nil, List.sum_cons, List.sum_nil, Value.category, Option.toList_some, Option.toList_none, List.cons_append, List.nil_append, gM_0_0, pM_0_0, gM_0_1, pM_0_1, gM_0_2, pM_0_2, gM_0_3, pM_0_3, gM_0_4, gM_0_5, gM_0_6, gM_0_7, gM_0_8, gM_0_9, gM_0_10, gM_0_11, gM_0_12, gM_0_13, gM_0_14, gM_0_15, gM_0_16, rM_0, kM_1, kM_2, kM_3, kM_4, kM_5, kM_6, kM_7, kM_8, kM_9, kM_10, kM_11, kM_12, kM_13, fd_M_delete_0, fd_M_delete_16, fd_M_delete_29, fd_M_delete_31, fd_M_delete_52, fd_M_delete_53, fd_M_delete_67, fd_M_delete_69, fd_M_delete_81, fd_M_delete_86, fd_M_delete_159, fd_M_delete_174, fd_M_delete_175, fd_M_delete_183, fd_M_delete_186, fd_M_delete_208, fd_M_delete_245, fd_M_delete_251, fd_M_delete_254, fd_M_delete_291, fd_M_delete_297, fd_M_delete_300, fd_M_delete_325, fd_M_delete_331, bk_M_delete_0, bk_M_delete_16, bk_M_delete_29, bk_M_delete_31, bk_M_delete_52, bk_M_delete_53, bk_M_delete_67, bk_M_delete_69, bk_M_delete_81, bk_M_delete_86, bk_M_delete_159, bk_M_delete_174, bk_M_delete_175, bk_M_delete_183, bk_M_delete_186, bk_M_delete_208, bk_M_delete_245, bk_M_delete_251, bk_M_delete_254, bk_M_delete_291, bk_M_delete_297, bk_M_delete_300, bk_M_delete_325, bk_M_delete_331, cs_M_delete]
          rw [hR'.1.2.1, q_lt (by omega) (by omega), q_cl (a := i + 1) (by omega), s1, b4, b1, q_cl (a := a.2.1 6 (i + 1)) (by omega), q_cl (a := a.2.1 3 (i + 1)) (by omega), r, er0, eru, h10 (i + 1) (by omega), h10 (a.2.1 6 (i + 1)) (by omega)]
          have vi : vp_in (nI (i + 1)) 251 := q_in (by omega) (by omega)
          have vr : vp_in (nI (a.2.1 6 (i + 1))) 251 := q_in (by omega) (by omega)
          have vk : vp_in (nI (a.2.1 3 (i + 1))) 16 := q_in (by omega) (by omega)
          simp only [vi, vr, vk, true_and]
          refine ⟨fun q => absurd q (by omega), fun _ => ⟨fun q1 => go (fun z => q1 (hA.2.2.2.2.1 (i + 1) (by omega) z.2.1).2.2), fun q1 => ⟨fun q2 => go (fun z => q2 (by rw [z.1]; decide)), fun q2 => ⟨fun q3 => go (fun z => z.2.1 q3), fun q3 => ⟨fun q4 => go (fun z => q4 z.2.2.1), fun q4 => ⟨fun q5 => go (fun z => q5 z.2.2.2), fun q5 => ?_⟩⟩⟩⟩⟩⟩
          have hb : a_bar a (a_gB a x') := ⟨i + 1, by omega, by omega, by
            cases w : a_gB a x' (i + 1) with
            | false => rfl
            | true => exact absurd w q2, q3, Classical.not_not.mp q4, q5⟩
          exact same (-5) (by rw [fdel, ci_t hb]) (by rw [g_delete, q_cl (by omega), ci_f (fun z => z.2.2 hb)]) t' hR'
      -- loop 2
      have loop2 : ∀ d (t' : ak_S) (mr : Int32), a.1 1 ≤ cn (fun j => decide (t'.1 10 j = 1)) (a.1 1) + d → m_F t0 t' → (∀ j, t'.1 6 j = t0.1 6 j) → (∀ j, t'.1 7 j = t0.1 7 j) → (∀ j, t'.1 8 j = t0.1 8 j) → (∀ j, j ≤ 250 → t'.1 11 j = 0) → MI a x' (t'.1 10) → (mr = 1 ∨ (mr = 0 ∧ ∀ y j, 1 ≤ y → y ≤ a.1 1 → 1 ≤ j → j ≤ a.1 1 → t'.1 10 y = 1 → a_tk a y j → t'.1 10 j = 1)) → ∀ o3 o4 : Option Value, J 69 [some (.ref 0), some (.int (nI x')), some (.int mr), o3, o4] [] t' := by
        have stop : ∀ (t' : ak_S), m_F t0 t' → (∀ j, t'.1 6 j = t0.1 6 j) → (∀ j, t'.1 7 j = t0.1 7 j) → (∀ j, t'.1 8 j = t0.1 8 j) → (∀ j, j ≤ 250 → t'.1 11 j = 0) → MI a x' (t'.1 10) → (∀ y j, 1 ≤ y → y ≤ a.1 1 → 1 ≤ j → j ≤ a.1 1 → t'.1 10 y = 1 → a_tk a y j → t'.1 10 j = 1) → ∀ o3 o4 : Option Value, J 69 [some (.ref 0), some (.int (nI x')), some (.int 0), o3, o4] [] t' := by
          intro t' hF h6 h7 h8 h11 hM hc o3 o4
          refine hJ 3 _ _ _ _ ?_
          simp only [Nat.reduceAdd, Nat.reduceLeDiff, Nat.zero_le, true_or, or_true, run_s, e_nop, e_iconst, e_bipush, e_sipush, e_lconst, e_iload, e_iload_n, e_lload, e_lload_n, e_aload, e_aload_n, e_istore, e_istore_n, e_iinc, e_iadd, e_isub, e_imul, e_lcmp, e_dupI, e_dupR, e_dup2, e_getfield, e_putfield, e_iaload, e_baload, e_laload, e_iastore, e_bastore, e_lastore, e_if, e_icmp, e_goto, e_tsw, e_ireturn0, e_ireturn1, e_return, e_call0, e_call1, e_call2, e_call3, lI_e, lL_e, lR_e, ak_nth, ak_set, ak_ok1, ak_jp, ak_b1, ak_b2, ak_sw, ak_la, ak_pad, true_and, and_true, List.map_cons, List.map_nil, List.sum_cons, List.sum_nil, Value.category, Option.toList_some, Option.toList_none, List.cons_append, List.nil_append, gM_0_0, pM_0_0, gM_0_1, pM_0_1, gM_0_2, pM_0_2, gM_0_3, pM_0_3, gM_0_4, gM_0_5, gM_0_6, gM_0_7, gM_0_8, gM_0_9, gM_0_10, gM_0_11, gM_0_12, gM_0_13, gM_0_14, gM_0_15, gM_0_16, rM_0, kM_1, kM_2, kM_3, kM_4, kM_5, kM_6, kM_7, kM_8, kM_9, kM_10, kM_11, kM_12, kM_13, fd_M_delete_0, fd_M_delete_16, fd_M_delete_29, fd_M_delete_31, fd_M_delete_52, fd_M_delete_53, fd_M_delete_67, fd_M_delete_69, fd_M_delete_81, fd_M_delete_86, fd_M_delete_159, fd_M_delete_174, fd_M_delete_175, fd_M_delete_183, fd_M_delete_186, fd_M_delete_208, fd_M_delete_245, fd_M_delete_251, fd_M_delete_254, fd_M_delete_291, fd_M_delete_297, fd_M_delete_300, fd_M_delete_325, fd_M_delete_331, bk_M_delete_0, bk_M_delete_16, bk_M_delete_29, bk_M_delete_31, bk_M_delete_52, bk_M_delete_53, bk_M_delete_67, bk_M_delete_69, bk_M_delete_81, bk_M_delete_86, bk_M_delete_159, bk_M_delete_174, bk_M_delete_175, bk_M_delete_183, bk_M_delete_186, bk_M_delete_208, bk_M_delete_245, bk_M_delete_251, bk_M_delete_254, bk_M_delete_291, bk_M_delete_297, bk_M_delete_300, bk_M_delete_325, bk_M_delete_331, cs_M_delete]
          refine ⟨fun _ => ?_, fun z => absurd trivial z⟩
          refine loop3 (a.1 1) 0 t' (by omega) hF h6 h7 h8 (fun j hj => ?_) h11 (fun j j1 j2 => absurd j2 (by omega)) _
          rcases hM.1 j hj with z | z
          · refine ⟨fun _ w => ?_, fun _ => z⟩
            have hr := (a_gB_t.mp w).2.2
            have := hr (fun y => t'.1 10 y = 1) hM.2.1 (fun y k hy y1 y2 k1 k2 htk => hc y k y1 y2 k1 k2 hy htk)
            rw [z] at this
            exact absurd this (by decide)
          · refine ⟨fun w => ?_, fun w => absurd (a_gB_t.mpr (hM.2.2 j hj z)) w⟩
            rw [z] at w
            exact absurd w (by decide)
        intro d
        induction d with
        | zero =>
          intro t' mr hd hF h6 h7 h8 h11 hM hmr o3 o4
          rcases hmr with rfl | ⟨rfl, hc⟩
          · have hR' := RM_same hR0 hF h6 h7 h8
            refine hJ 3 _ _ _ _ ?_
            simp only [Nat.reduceAdd, Nat.reduceLeDiff, Nat.zero_le, true_or, or_true, run_s, e_nop, e_iconst, e_bipush, e_sipush, e_lconst, e_iload, e_iload_n, e_lload, e_lload_n, e_aload, e_aload_n, e_istore, e_istore_n, e_iinc, e_iadd, e_isub, e_imul, e_lcmp, e_dupI, e_dupR, e_dup2, e_getfield, e_putfield, e_iaload, e_baload, e_laload, e_iastore, e_bastore, e_lastore, e_if, e_icmp, e_goto, e_tsw, e_ireturn0, e_ireturn1, e_return, e_call0, e_call1, e_call2, e_call3, lI_e, lL_e, lR_e, ak_nth, ak_set, ak_ok1, ak_jp, ak_b1, ak_b2, ak_sw, ak_la, ak_pad, true_and, and_true, List.map_cons, List.map_nil, List.sum_cons, List.sum_nil, Value.category, Option.toList_some, Option.toList_none, List.cons_append, List.nil_append, gM_0_0, pM_0_0, gM_0_1, pM_0_1, gM_0_2, pM_0_2, gM_0_3, pM_0_3, gM_0_4, gM_0_5, gM_0_6, gM_0_7, gM_0_8, gM_0_9, gM_0_10, gM_0_11, gM_0_12, gM_0_13, gM_0_14, gM_0_15, gM_0_16, rM_0, kM_1, kM_2, kM_3, kM_4, kM_5, kM_6, kM_7, kM_8, kM_9, kM_10, kM_11, kM_12, kM_13, fd_M_delete_0, fd_M_delete_16, fd_M_delete_29, fd_M_delete_31, fd_M_delete_52, fd_M_delete_53, fd_M_delete_67, fd_M_delete_69, fd_M_delete_81, fd_M_delete_86, fd_M_delete_159, fd_M_delete_174, fd_M_delete_175, fd_M_delete_183, fd_M_delete_186, fd_M_delete_208, fd_M_delete_245, fd_M_delete_251, fd_M_delete_254, fd_M_delete_291, fd_M_delete_297, fd_M_delete_300, fd_M_delete_325, fd_M_delete_331, bk_M_delete_0, bk_M_delete_16, bk_M_delete_29, bk_M_delete_31, bk_M_delete_52, bk_M_delete_53, bk_M_delete_67, bk_M_delete_69, bk_M_delete_81, bk_M_delete_86, bk_M_delete_159, bk_M_delete_174, bk_M_delete_175, bk_M_delete_183, bk_M_delete_186, bk_M_delete_208, bk_M_delete_245, bk_M_delete_251, bk_M_delete_254, bk_M_delete_291, bk_M_delete_297, bk_M_delete_300, bk_M_delete_325, bk_M_delete_331, cs_M_delete, pt_M_spread]
            refine ⟨fun z => absurd z (by decide), fun _ => ⟨a, x', hA, hR', hx1, hx2, hM, fun gs' hM' hlt => ?_, fun hc => stop t' hF h6 h7 h8 h11 hM hc _ _⟩⟩
            have := cn_le (fun j => decide (gs' j = 1)) (a.1 1)
            omega
          · exact stop t' hF h6 h7 h8 h11 hM hc o3 o4
        | succ d ih =>
          intro t' mr hd hF h6 h7 h8 h11 hM hmr o3 o4
          rcases hmr with rfl | ⟨rfl, hc⟩
          · have hR' := RM_same hR0 hF h6 h7 h8
            refine hJ 3 _ _ _ _ ?_
            simp only [Nat.reduceAdd, Nat.reduceLeDiff, Nat.zero_le, true_or, or_true, run_s, e_nop, e_iconst, e_bipush, e_sipush, e_lconst, e_iload, e_iload_n, e_lload, e_lload_n, e_aload, e_aload_n, e_istore, e_istore_n, e_iinc, e_iadd, e_isub, e_imul, e_lcmp, e_dupI, e_dupR, e_dup2, e_getfield, e_putfield, e_iaload, e_baload, e_laload, e_iastore, e_bastore, e_lastore, e_if, e_icmp, e_goto, e_tsw, e_ireturn0, e_ireturn1, e_return, e_call0, e_call1, e_call2, e_call3, lI_e, lL_e, lR_e, ak_nth, ak_set, ak_ok1, ak_jp, ak_b1, ak_b2, ak_sw, ak_la, ak_pad, true_and, and_true, List.map_cons, List.map_nil, List.sum_cons, List.sum_nil, Value.category, Option.toList_some, Option.toList_none, List.cons_append, List.nil_append, gM_0_0, pM_0_0, gM_0_1, pM_0_1, gM_0_2, pM_0_2, gM_0_3, pM_0_3, gM_0_4, gM_0_5, gM_0_6, gM_0_7, gM_0_8, gM_0_9, gM_0_10, gM_0_11, gM_0_12, gM_0_13, gM_0_14, gM_0_15, gM_0_16, rM_0, kM_1, kM_2, kM_3, kM_4, kM_5, kM_6, kM_7, kM_8, kM_9, kM_10, kM_11, kM_12, kM_13, fd_M_delete_0, fd_M_delete_16, fd_M_delete_29, fd_M_delete_31, fd_M_delete_52, fd_M_delete_53, fd_M_delete_67, fd_M_delete_69, fd_M_delete_81, fd_M_delete_86, fd_M_delete_159, fd_M_delete_174, fd_M_delete_175, fd_M_delete_183, fd_M_delete_186, fd_M_delete_208, fd_M_delete_245, fd_M_delete_251, fd_M_delete_254, fd_M_delete_291, fd_M_delete_297, fd_M_delete_300, fd_M_delete_325, fd_M_delete_331, bk_M_delete_0, bk_M_delete_16, bk_M_delete_29, bk_M_delete_31, bk_M_delete_52, bk_M_delete_53, bk_M_delete_67, bk_M_delete_69, bk_M_delete_81, bk_M_delete_86, bk_M_delete_159, bk_M_delete_174, bk_M_delete_175, bk_M_delete_183, bk_M_delete_186, bk_M_delete_208, bk_M_delete_245, bk_M_delete_251, bk_M_delete_254, bk_M_delete_291, bk_M_delete_297, bk_M_delete_300, bk_M_delete_325, bk_M_delete_331, cs_M_delete, pt_M_spread]
            refine ⟨fun z => absurd z (by decide), fun _ => ⟨a, x', hA, hR', hx1, hx2, hM, fun gs' hM' hlt => ?_, fun hc => stop t' hF h6 h7 h8 h11 hM hc _ _⟩⟩
            refine ih (m_G t' gs') 1 ?_ ⟨fun k j k1 k2 k3 k4 k5 => by rw [mG_o k4]; exact hF.1 k j k1 k2 k3 k4 k5, hF.2⟩ (fun j => by rw [mG_o (by decide)]; exact h6 j) (fun j => by rw [mG_o (by decide)]; exact h7 j) (fun j => by rw [mG_o (by decide)]; exact h8 j) (fun j hj => by rw [mG_o (by decide)]; exact h11 j hj) ?_ (Or.inl rfl) _ _
            · have : cn (fun j => decide ((m_G t' gs').1 10 j = 1)) (a.1 1) = cn (fun j => decide (gs' j = 1)) (a.1 1) := cn_congr (fun j _ _ => by rw [mG_10])
              omega
            · have : (m_G t' gs').1 10 = gs' := by funext j; exact mG_10
              rw [this]
              exact hM'
          · exact stop t' hF h6 h7 h8 h11 hM hc o3 o4
      -- loop 1
      have loop1 : ∀ d i (t' : ak_S), i + d = 251 → m_F t0 t' → (∀ j, t'.1 6 j = t0.1 6 j) → (∀ j, t'.1 7 j = t0.1 7 j) → (∀ j, t'.1 8 j = t0.1 8 j) → (∀ j, j < i → t'.1 10 j = (if j = x' then 1 else 0) ∧ t'.1 11 j = 0) → ∀ o3 o4 : Option Value, J 31 [some (.ref 0), some (.int (nI x')), some (.int (nI i)), o3, o4] [] t' := by
        intro d
        induction d with
        | zero =>
          intro i t' hi hF h6 h7 h8 hv o3 o4
          have e : i = 251 := by omega
          subst e
          refine hJ 3 _ _ _ _ ?_
          simp only [Nat.reduceAdd, Nat.reduceLeDiff, Nat.zero_le, true_or, or_true, run_s, e_nop, e_iconst, e_bipush, e_sipush, e_lconst, e_iload, e_iload_n, e_lload, e_lload_n, e_aload, e_aload_n, e_istore, e_istore_n, e_iinc, e_iadd, e_isub, e_imul, e_lcmp, e_dupI, e_dupR, e_dup2, e_getfield, e_putfield, e_iaload, e_baload, e_laload, e_iastore, e_bastore, e_lastore, e_if, e_icmp, e_goto, e_tsw, e_ireturn0, e_ireturn1, e_return, e_call0, e_call1, e_call2, e_call3, lI_e, lL_e, lR_e, ak_nth, ak_set, ak_ok1, ak_jp, ak_b1, ak_b2, ak_sw, ak_la, ak_pad, true_and, and_true, List.map_cons, List.map_nil, List.sum_cons, List.sum_nil, Value.category, Option.toList_some, Option.toList_none, List.cons_append, List.nil_append, gM_0_0, pM_0_0, gM_0_1, pM_0_1, gM_0_2, pM_0_2, gM_0_3, pM_0_3, gM_0_4, gM_0_5, gM_0_6, gM_0_7, gM_0_8, gM_0_9, gM_0_10, gM_0_11, gM_0_12, gM_0_13, gM_0_14, gM_0_15, gM_0_16, rM_0, kM_1, kM_2, kM_3, kM_4, kM_5, kM_6, kM_7, kM_8, kM_9, kM_10, kM_11, kM_12, kM_13, fd_M_delete_0, fd_M_delete_16, fd_M_delete_29, fd_M_delete_31, fd_M_delete_52, fd_M_delete_53, fd_M_delete_67, fd_M_delete_69, fd_M_delete_81, fd_M_delete_86, fd_M_delete_159, fd_M_delete_174, fd_M_delete_175, fd_M_delete_183, fd_M_delete_186, fd_M_delete_208, fd_M_delete_245, fd_M_delete_251, fd_M_delete_254, fd_M_delete_291, fd_M_delete_297, fd_M_delete_300, fd_M_delete_325, fd_M_delete_331, bk_M_delete_0, bk_M_delete_16, bk_M_delete_29, bk_M_delete_31, bk_M_delete_52, bk_M_delete_53, bk_M_delete_67, bk_M_delete_69, bk_M_delete_81, bk_M_delete_86, bk_M_delete_159, bk_M_delete_174, bk_M_delete_175, bk_M_delete_183, bk_M_delete_186, bk_M_delete_208, bk_M_delete_245, bk_M_delete_251, bk_M_delete_254, bk_M_delete_291, bk_M_delete_297, bk_M_delete_300, bk_M_delete_325, bk_M_delete_331, cs_M_delete]
          refine ⟨fun _ => ?_, fun z => absurd (by decide) z⟩
          refine loop2 (a.1 1) t' 1 (by omega) hF h6 h7 h8 (fun j hj => (hv j (by omega)).2) ⟨fun j hj => ?_, ?_, fun j hj hz => ?_⟩ (Or.inl rfl) _ _
          · rw [(hv j (by omega)).1]
            split
            · exact Or.inr rfl
            · exact Or.inl rfl
          · rw [(hv x' (by omega)).1, if_pos rfl]
          · rw [(hv j (by omega)).1] at hz
            split at hz
            · rename_i w
              rw [w]
              exact a_G_self hx1 hx2
            · exact absurd hz (by decide)
        | succ d ih =>
          intro i t' hi hF h6 h7 h8 hv o3 o4
          refine hJ 4 _ _ _ _ ?_
          simp only [Nat.reduceAdd, Nat.reduceLeDiff, Nat.zero_le, true_or, or_true, run_s, e_nop, e_iconst, e_bipush, e_sipush, e_lconst, e_iload, e_iload_n, e_lload, e_lload_n, e_aload, e_aload_n, e_istore, e_istore_n, e_iinc, e_iadd, e_isub, e_imul, e_lcmp, e_dupI, e_dupR, e_dup2, e_getfield, e_putfield, e_iaload, e_baload, e_laload, e_iastore, e_bastore, e_lastore, e_if, e_icmp, e_goto, e_tsw, e_ireturn0, e_ireturn1, e_return, e_call0, e_call1, e_call2, e_call3, lI_e, lL_e, lR_e, ak_nth, ak_set, ak_ok1, ak_jp, ak_b1, ak_b2, ak_sw, ak_la, ak_pad, true_and, and_true, List.map_cons, List.map_nil, List.sum_cons, List.sum_nil, Value.category, Option.toList_some, Option.toList_none, List.cons_append, List.nil_append, gM_0_0, pM_0_0, gM_0_1, pM_0_1, gM_0_2, pM_0_2, gM_0_3, pM_0_3, gM_0_4, gM_0_5, gM_0_6, gM_0_7, gM_0_8, gM_0_9, gM_0_10, gM_0_11, gM_0_12, gM_0_13, gM_0_14, gM_0_15, gM_0_16, rM_0, kM_1, kM_2, kM_3, kM_4, kM_5, kM_6, kM_7, kM_8, kM_9, kM_10, kM_11, kM_12, kM_13, fd_M_delete_0, fd_M_delete_16, fd_M_delete_29, fd_M_delete_31, fd_M_delete_52, fd_M_delete_53, fd_M_delete_67, fd_M_delete_69, fd_M_delete_81, fd_M_delete_86, fd_M_delete_159, fd_M_delete_174, fd_M_delete_175, fd_M_delete_183, fd_M_delete_186, fd_M_delete_208, fd_M_delete_245, fd_M_delete_251, fd_M_delete_254, fd_M_delete_291, fd_M_delete_297, fd_M_delete_300, fd_M_delete_325, fd_M_delete_331, bk_M_delete_0, bk_M_delete_16, bk_M_delete_29, bk_M_delete_31, bk_M_delete_52, bk_M_delete_53, bk_M_delete_67, bk_M_delete_69, bk_M_delete_81, bk_M_delete_86, bk_M_delete_159, bk_M_delete_174, bk_M_delete_175, bk_M_delete_183, bk_M_delete_186, bk_M_delete_208, bk_M_delete_245, bk_M_delete_251, bk_M_delete_254, bk_M_delete_291, bk_M_delete_297, bk_M_delete_300, bk_M_delete_325, bk_M_delete_331, cs_M_delete, nI_1]
          have e1 : (1 : Int32) &&& 1 = 1 := by decide
          have e0 : (0 : Int32) &&& 1 = 0 := by decide
          rw [n_250, q_lt (by omega) (by omega), q_eq (by omega) (by omega), q_cl (by omega), e1, e0]
          have fin : ∀ v : Int32, v = (if i = x' then 1 else 0) → J 31 [some (.ref 0), some (.int (nI x')), some (.int (nI (i + 1))), o3, o4] [] (ak_p1 (ak_p1 t' 10 i v) 11 i 0) := by
            intro v hvv
            refine ih (i + 1) _ (by omega) (m_F_p (m_F_p hF (by omega)) (by omega)) (fun j => by rw [p1_o (by decide), p1_o (by decide)]; exact h6 j) (fun j => by rw [p1_o (by decide), p1_o (by decide)]; exact h7 j) (fun j => by rw [p1_o (by decide), p1_o (by decide)]; exact h8 j) (fun j hj => ?_) _ _
            rw [p1_o (by decide), p1_s, p1_s, p1_o (by decide)]
            by_cases e : j = i
            · rw [if_pos e, if_pos e, e]
              exact ⟨hvv, rfl⟩
            · rw [if_neg e, if_neg e]
              exact hv j (by omega)
          refine ⟨fun q => absurd q (by omega), fun _ => ⟨fun q => ⟨q_in (by omega) (by omega), q_in (by omega) (by omega), fin 0 (by rw [if_neg q])⟩, fun q => ⟨q_in (by omega) (by omega), q_in (by omega) (by omega), fin 1 (by rw [if_pos q])⟩⟩⟩
      intro o2 o3 o4 ho
      subst ho
      exact loop1 251 0 t0 (by omega) ⟨fun _ _ _ _ _ _ _ => rfl, rfl⟩ (fun _ => rfl) (fun _ => rfl) (fun _ => rfl) (fun j hj => absurd hj (by omega)) o3 o4
    refine hJ 4 _ _ _ _ ?_
    simp only [Nat.reduceAdd, Nat.reduceLeDiff, Nat.zero_le, true_or, or_true, run_s, e_nop, e_iconst, e_bipush, e_sipush, e_lconst, e_iload, e_iload_n, e_lload, e_lload_n, e_aload, e_aload_n, e_istore, e_istore_n, e_iinc, e_iadd, e_isub, e_imul, e_lcmp, e_dupI, e_dupR, e_dup2, e_getfield, e_putfield, e_iaload, e_baload, e_laload, e_iastore, e_bastore, e_lastore, e_if, e_icmp, e_goto, e_tsw, e_ireturn0, e_ireturn1, e_return, e_call0, e_call1, e_call2, e_call3, lI_e, lL_e, lR_e, ak_nth, ak_set, ak_ok1, ak_jp, ak_b1, ak_b2, ak_sw, ak_la, ak_pad, true_and, and_true, List.map_cons, List.map_nil, List.sum_cons, List.sum_nil, Value.category, Option.toList_some, Option.toList_none, List.cons_append, List.nil_append, gM_0_0, pM_0_0, gM_0_1, pM_0_1, gM_0_2, pM_0_2, gM_0_3, pM_0_3, gM_0_4, gM_0_5, gM_0_6, gM_0_7, gM_0_8, gM_0_9, gM_0_10, gM_0_11, gM_0_12, gM_0_13, gM_0_14, gM_0_15, gM_0_16, rM_0, kM_1, kM_2, kM_3, kM_4, kM_5, kM_6, kM_7, kM_8, kM_9, kM_10, kM_11, kM_12, kM_13, fd_M_delete_0, fd_M_delete_16, fd_M_delete_29, fd_M_delete_31, fd_M_delete_52, fd_M_delete_53, fd_M_delete_67, fd_M_delete_69, fd_M_delete_81, fd_M_delete_86, fd_M_delete_159, fd_M_delete_174, fd_M_delete_175, fd_M_delete_183, fd_M_delete_186, fd_M_delete_208, fd_M_delete_245, fd_M_delete_251, fd_M_delete_254, fd_M_delete_291, fd_M_delete_297, fd_M_delete_300, fd_M_delete_325, fd_M_delete_331, bk_M_delete_0, bk_M_delete_16, bk_M_delete_29, bk_M_delete_31, bk_M_delete_52, bk_M_delete_53, bk_M_delete_67, bk_M_delete_69, bk_M_delete_81, bk_M_delete_86, bk_M_delete_159, bk_M_delete_174, bk_M_delete_175, bk_M_delete_183, bk_M_delete_186, bk_M_delete_208, bk_M_delete_245, bk_M_delete_251, bk_M_delete_254, bk_M_delete_291, bk_M_delete_297, bk_M_delete_300, bk_M_delete_325, bk_M_delete_331, cs_M_delete, pt_M_isSegment]
    simp only [bt0, Classical.not_not, i10, false_implies, not_false_eq_true, true_implies, not_true_eq_false, true_and, and_true, false_and, and_false, imp_self]
    rw [← ht0, hR0.1.2.1]
    refine ⟨fun q => ?_, fun q => ?_⟩
    · obtain ⟨x', hx1, hx2, hxx⟩ := iS_of hA q
      have hm := main x' hxx hx1 hx2
      subst hxx
      have s1 := (stM hA hR0 hx1 hx2).1
      rw [q_cl (by omega), s1]
      refine ⟨q_in (by omega) (by omega), fun q2 => hm q2 q _ _ _ rfl, fun q2 => ?_⟩
      exact same (-5) (by rw [f_delete, q_cl (by omega), ci_f (fun z => z q), ci_t q2]) (by rw [g_delete, q_cl (by omega), ci_f (fun z => q2 z.2.1)]) t0 hR0
    · exact same (-2) (by rw [f_delete, ci_t q]) (by rw [g_delete, ci_f (fun z => q z.1)]) t0 hR0
  · exact h.elim
set_option maxRecDepth 20000 in
theorem ct_M_delete (l : Launch) : ak_Ctr l cl_all lay_M y_M_delete ws_M_delete rm_M_delete pt_M_delete := by
  refine ak_met (cs := cs_M_delete) (reg := rg_M_delete) (bl := bl_M_delete) (by decide +kernel) rfl (cl_ok _) rfl ok_M_delete ?_ vc_M_delete
  intro a n b ci h
  match a, h with
  | 0, h =>
    cases h
    exact ak_ccV (ct_M_isSegment l) rfl 408 409 10 25 410 (by decide +kernel) ⟨rfl, rfl⟩ (by decide +kernel) (by decide +kernel)
  | 1, h =>
    cases h
    exact ak_ccV (ct_M_spread l) rfl 428 429 14 25 430 (by decide +kernel) ⟨rfl, rfl⟩ (by decide +kernel) (by decide +kernel)
  | 2, h =>
    cases h
    exact ak_ccV (ct_M_countOf l) rfl 417 418 13 25 419 (by decide +kernel) ⟨rfl, rfl⟩ (by decide +kernel) (by decide +kernel)
  | 3, h =>
    cases h
    exact ak_ccV (ct_M_right l) rfl 411 412 11 25 413 (by decide +kernel) ⟨rfl, rfl⟩ (by decide +kernel) (by decide +kernel)
  | k + 4, h => cases h
end
section
/-! constructors, laid by program (wip/whole/gen2.py) -/
abbrev co_U : Type := (Nat → Nat) × (Nat → ClassId)
def z0 : ak_S := (fun _ _ => 0, fun _ _ => 0)
theorem d_K_init_0 : decode prog_4_method_1_code 0 = .ok (.aload_n 0, 1) := by decide +kernel
theorem d_K_init_1 : decode prog_4_method_1_code 1 = .ok (.invokespecial 3, 3) := by decide +kernel
theorem d_K_init_4 : decode prog_4_method_1_code 4 = .ok (.aload_n 0, 1) := by decide +kernel
theorem d_K_init_5 : decode prog_4_method_1_code 5 = .ok (.bipush 16, 2) := by decide +kernel
theorem d_K_init_7 : decode prog_4_method_1_code 7 = .ok (.newarray .int, 2) := by decide +kernel
theorem d_K_init_9 : decode prog_4_method_1_code 9 = .ok (.putfield 9, 3) := by decide +kernel
theorem d_K_init_12 : decode prog_4_method_1_code 12 = .ok (.aload_n 0, 1) := by decide +kernel
theorem d_K_init_13 : decode prog_4_method_1_code 13 = .ok (.bipush 16, 2) := by decide +kernel
theorem d_K_init_15 : decode prog_4_method_1_code 15 = .ok (.newarray .int, 2) := by decide +kernel
theorem d_K_init_17 : decode prog_4_method_1_code 17 = .ok (.putfield 15, 3) := by decide +kernel
theorem d_K_init_20 : decode prog_4_method_1_code 20 = .ok (.aload_n 0, 1) := by decide +kernel
theorem d_K_init_21 : decode prog_4_method_1_code 21 = .ok (.bipush 16, 2) := by decide +kernel
theorem d_K_init_23 : decode prog_4_method_1_code 23 = .ok (.newarray .int, 2) := by decide +kernel
theorem d_K_init_25 : decode prog_4_method_1_code 25 = .ok (.putfield 18, 3) := by decide +kernel
theorem d_K_init_28 : decode prog_4_method_1_code 28 = .ok (.return_, 1) := by decide +kernel
def ws_K_init : List Cond := .code y_K_init prog_4_method_1_code 1 none :: wd_tbl
def rm_K_init : Room := { frames := 1, cells := 3, slots := 48, locals := 12 }
def w0_K (h0 : Nat) : va_W := [(h0, .inr (1, [.int 0, .null, .null, .null]))]
def w1_K (h0 : Nat) (u : co_U) : va_W := [(h0, .inr (1, [.int 0, .ref (u.1 1), .ref (u.1 2), .ref (u.1 3)])), (u.1 1, .inl (u.2 1, 16, .inl (fun _ => 0))), (u.1 2, .inl (u.2 2, 16, .inl (fun _ => 0))), (u.1 3, .inl (u.2 3, 16, .inl (fun _ => 0)))]
def ty_K (u : co_U) : List (ClassId × FieldType) := [(u.2 1, .int), (u.2 2, .int), (u.2 3, .int)]
def pc_K (D : va_G) (h0 sz : Nat) : State → Prop := fun U => U.heap.size = sz ∧ va_P D cl_all (w0_K h0) U.heap ∧ va_K D cl_all [] U ∧ va_D (fun _ => True) (w0_K h0)
def pq_K (D : va_G) (h0 sz : Nat) (u : co_U) : State → Prop := fun U => va_P D cl_all (w1_K h0 u) U.heap ∧ va_K D cl_all (ty_K u) U ∧ va_D (va_A (w0_K h0) sz) (w1_K h0 u)
set_option maxHeartbeats 4000000 in
set_option maxRecDepth 100000 in
theorem c_K_init (l : Launch) (D : va_G) (h0 sz : Nat) : Met l y_K_init ws_K_init rm_K_init (va_Pc [.ref h0] (pc_K D h0 sz)) (va_Qv (fun _ : co_U => True) (pq_K D h0 sz) (va_A (w0_K h0) sz)) 3 48 (va_A (w0_K h0) sz) := by
  refine Met.ofW (cc := prog_4_method_1_code) (maxL := 1) (ret := none) (by decide) rfl ?_
  intro p e s m args below meth c s₁ B hml hv
  obtain ⟨rfl, hsz, hP, hK, hD0⟩ := hv
  have hx := B.exec
  have hb := B.bytes
  have hr := B.returns
  have hts := atoms_spec (ws := ws_K_init) B.pre
  have hown : s.vm.findClass "LogicalPairs$Kinds" = some m.cls := findClass_of_methodNamed B.named
  have hlocks := B.notSynchronized
  have hin : meth.name = "<init>" := (name_of_methodNamed B.named B.method).1
  subst hsz
  have hD := hD0.self (sz := s.heap.size)
  generalize hAe : va_A (w0_K h0) s.heap.size = A at hD ⊢
  have hA : ∀ q : Nat, s.heap.size ≤ q → A q := fun q h => by rw [← hAe]; exact Or.inr h
  have hS : va_S A s.heap s.heap [] := va_S.rf
  have hl := lv_entry ([.ref h0]) (n := 1) (Nat.le_of_ble_eq_true rfl)
  rw [lg_entry_eq]
  generalize (lg_sl ([.ref h0]) ++ List.replicate (1 - (lg_sl ([.ref h0])).length) Slot.unset).toArray = ls at hl ⊢
  have hl : lv_has ls 1 [(0, .ref h0)] := hl
  refine lv_aload_n hx hb d_K_init_0 rfl (lv_at hl 0 rfl) ?_
  refine W.objInit hx hb hown (hts _ (List.mem_cons_of_mem _ (ak_mem (k := 38) (by decide +kernel : ak_nth wd_tbl 38 = some (.methodLink "LogicalPairs$Kinds" 3 objectInit))))) (hts _ (List.mem_cons_of_mem _ (ak_mem (k := 32) (by decide +kernel : ak_nth wd_tbl 32 = some (.instanceMethod objectInit))))) (hts _ (List.mem_cons_of_mem _ (ak_mem (k := 33) (by decide +kernel : ak_nth wd_tbl 33 = some (.code objectInit object_method_1_code 1 none))))) rfl (by rw [hml]; exact hl.1) rfl d_K_init_1 (Nat.le_of_ble_eq_true rfl) (Nat.le_of_ble_eq_true rfl) ?_
  refine W.eq (g2 := F0 m 4 ls []) rfl ?_
  unfold pq_K
  rw [hAe]
  have hP : va_P D cl_all [(h0, .inr (1, [.int 0, .null, .null, .null]))] s.heap := hP
  have hD : va_D A [(h0, .inr (1, [.int 0, .null, .null, .null]))] := hD
  refine lv_aload_n hx hb d_K_init_4 rfl (lv_at hl 0 rfl) ?_
  refine lv_bipush (v := 16) hx hb d_K_init_5 (by decide) ?_
  refine va_newa (atype := .int) (ty := .int) (N' := 16) (a0 := (16, .inl (fun _ => 0))) hx hb (hts _ (List.mem_cons_of_mem _ (ak_mem (k := 57) (by decide +kernel : ak_nth wd_tbl 57 = some (.arrayClass .int))))) rfl hK hP hD hS hA (fun _ => rfl) (by decide) (by decide) (by decide) (Nat.le_of_ble_eq_true rfl) (Nat.le_of_ble_eq_true rfl) d_K_init_7 (fun q1 c1 H hK hP hD hS => ?_)
  have hP : va_P D cl_all [(h0, .inr (1, [.int 0, .null, .null, .null])), (q1, .inl (c1, 16, .inl (fun _ => 0)))] H := hP
  have hD : va_D A [(h0, .inr (1, [.int 0, .null, .null, .null])), (q1, .inl (c1, 16, .inl (fun _ => 0)))] := hD
  have hK : va_K D cl_all [(c1, .int)] s := hK
  refine W.widen (k := 1) (n := 16) (Nat.le_of_ble_eq_true rfl) (Nat.le_of_ble_eq_true rfl) ?_
  refine va_putF (D := D) (ci := 1) (v := .ref q1) (ty := .array .int) (C := "LogicalPairs$Kinds") (T := F_K) (N := 4) hx hb hts (fun w h => List.mem_cons_of_mem _ (in_K w h)) t_K tk_K nm_K hown hK hP hD hS 0 rfl rfl 1 (by decide) (hts _ (List.mem_cons_of_mem _ (ak_mem (k := 41) (by decide +kernel : ak_nth wd_tbl 41 = some (.fieldLink "LogicalPairs$Kinds" 9 "LogicalPairs$Kinds" "above" "[I"))))) (fun _ h9 => h9) rfl hin rfl (by decide +kernel) rfl rfl (Nat.le_of_ble_eq_true rfl) d_K_init_9 (fun H locs hP hD hS => ?_)
  have hP : va_P D cl_all [(h0, .inr (1, [.int 0, .ref q1, .null, .null])), (q1, .inl (c1, 16, .inl (fun _ => 0)))] H := hP
  have hD : va_D A [(h0, .inr (1, [.int 0, .ref q1, .null, .null])), (q1, .inl (c1, 16, .inl (fun _ => 0)))] := hD
  refine lv_aload_n hx hb d_K_init_12 rfl (lv_at hl 0 rfl) ?_
  refine lv_bipush (v := 16) hx hb d_K_init_13 (by decide) ?_
  refine va_newa (atype := .int) (ty := .int) (N' := 16) (a0 := (16, .inl (fun _ => 0))) hx hb (hts _ (List.mem_cons_of_mem _ (ak_mem (k := 57) (by decide +kernel : ak_nth wd_tbl 57 = some (.arrayClass .int))))) rfl hK hP hD hS hA (fun _ => rfl) (by decide) (by decide) (by decide) (Nat.le_of_ble_eq_true rfl) (Nat.le_of_ble_eq_true rfl) d_K_init_15 (fun q2 c2 H hK hP hD hS => ?_)
  have hP : va_P D cl_all [(h0, .inr (1, [.int 0, .ref q1, .null, .null])), (q1, .inl (c1, 16, .inl (fun _ => 0))), (q2, .inl (c2, 16, .inl (fun _ => 0)))] H := hP
  have hD : va_D A [(h0, .inr (1, [.int 0, .ref q1, .null, .null])), (q1, .inl (c1, 16, .inl (fun _ => 0))), (q2, .inl (c2, 16, .inl (fun _ => 0)))] := hD
  have hK : va_K D cl_all [(c1, .int), (c2, .int)] s := hK
  refine W.widen (k := 2) (n := 32) (Nat.le_of_ble_eq_true rfl) (Nat.le_of_ble_eq_true rfl) ?_
  refine va_putF (D := D) (ci := 1) (v := .ref q2) (ty := .array .int) (C := "LogicalPairs$Kinds") (T := F_K) (N := 4) hx hb hts (fun w h => List.mem_cons_of_mem _ (in_K w h)) t_K tk_K nm_K hown hK hP hD hS 0 rfl rfl 2 (by decide) (hts _ (List.mem_cons_of_mem _ (ak_mem (k := 43) (by decide +kernel : ak_nth wd_tbl 43 = some (.fieldLink "LogicalPairs$Kinds" 15 "LogicalPairs$Kinds" "logicalParent" "[I"))))) (fun _ h9 => h9) rfl hin rfl (by decide +kernel) rfl rfl (Nat.le_of_ble_eq_true rfl) d_K_init_17 (fun H locs hP hD hS => ?_)
  have hP : va_P D cl_all [(h0, .inr (1, [.int 0, .ref q1, .ref q2, .null])), (q1, .inl (c1, 16, .inl (fun _ => 0))), (q2, .inl (c2, 16, .inl (fun _ => 0)))] H := hP
  have hD : va_D A [(h0, .inr (1, [.int 0, .ref q1, .ref q2, .null])), (q1, .inl (c1, 16, .inl (fun _ => 0))), (q2, .inl (c2, 16, .inl (fun _ => 0)))] := hD
  refine lv_aload_n hx hb d_K_init_20 rfl (lv_at hl 0 rfl) ?_
  refine lv_bipush (v := 16) hx hb d_K_init_21 (by decide) ?_
  refine va_newa (atype := .int) (ty := .int) (N' := 16) (a0 := (16, .inl (fun _ => 0))) hx hb (hts _ (List.mem_cons_of_mem _ (ak_mem (k := 57) (by decide +kernel : ak_nth wd_tbl 57 = some (.arrayClass .int))))) rfl hK hP hD hS hA (fun _ => rfl) (by decide) (by decide) (by decide) (Nat.le_of_ble_eq_true rfl) (Nat.le_of_ble_eq_true rfl) d_K_init_23 (fun q3 c3 H hK hP hD hS => ?_)
  have hP : va_P D cl_all [(h0, .inr (1, [.int 0, .ref q1, .ref q2, .null])), (q1, .inl (c1, 16, .inl (fun _ => 0))), (q2, .inl (c2, 16, .inl (fun _ => 0))), (q3, .inl (c3, 16, .inl (fun _ => 0)))] H := hP
  have hD : va_D A [(h0, .inr (1, [.int 0, .ref q1, .ref q2, .null])), (q1, .inl (c1, 16, .inl (fun _ => 0))), (q2, .inl (c2, 16, .inl (fun _ => 0))), (q3, .inl (c3, 16, .inl (fun _ => 0)))] := hD
  have hK : va_K D cl_all [(c1, .int), (c2, .int), (c3, .int)] s := hK
  refine W.widen (k := 3) (n := 48) (Nat.le_of_ble_eq_true rfl) (Nat.le_of_ble_eq_true rfl) ?_
  refine va_putF (D := D) (ci := 1) (v := .ref q3) (ty := .array .int) (C := "LogicalPairs$Kinds") (T := F_K) (N := 4) hx hb hts (fun w h => List.mem_cons_of_mem _ (in_K w h)) t_K tk_K nm_K hown hK hP hD hS 0 rfl rfl 3 (by decide) (hts _ (List.mem_cons_of_mem _ (ak_mem (k := 45) (by decide +kernel : ak_nth wd_tbl 45 = some (.fieldLink "LogicalPairs$Kinds" 18 "LogicalPairs$Kinds" "rule" "[I"))))) (fun _ h9 => h9) rfl hin rfl (by decide +kernel) rfl rfl (Nat.le_of_ble_eq_true rfl) d_K_init_25 (fun H locs hP hD hS => ?_)
  have hP : va_P D cl_all [(h0, .inr (1, [.int 0, .ref q1, .ref q2, .ref q3])), (q1, .inl (c1, 16, .inl (fun _ => 0))), (q2, .inl (c2, 16, .inl (fun _ => 0))), (q3, .inl (c3, 16, .inl (fun _ => 0)))] H := hP
  have hD : va_D A [(h0, .inr (1, [.int 0, .ref q1, .ref q2, .ref q3])), (q1, .inl (c1, 16, .inl (fun _ => 0))), (q2, .inl (c2, 16, .inl (fun _ => 0))), (q3, .inl (c3, 16, .inl (fun _ => 0)))] := hD
  exact W.vret hx hb hr (fun t ht hW => ⟨⟨(fun k => match k with | 1 => q1 | 2 => q2 | _ => q3, fun k => match k with | 1 => c1 | 2 => c2 | _ => c3), rfl, trivial, by rw [ht]; exact hP, va_K.moved hW.alike hK, hD⟩, hS.F ht⟩) hS.2.2 d_K_init_28
theorem d_X_init_0 : decode prog_3_method_1_code 0 = .ok (.aload_n 0, 1) := by decide +kernel
theorem d_X_init_1 : decode prog_3_method_1_code 1 = .ok (.invokespecial 3, 3) := by decide +kernel
theorem d_X_init_4 : decode prog_3_method_1_code 4 = .ok (.aload_n 0, 1) := by decide +kernel
theorem d_X_init_5 : decode prog_3_method_1_code 5 = .ok (.bipush 11, 2) := by decide +kernel
theorem d_X_init_7 : decode prog_3_method_1_code 7 = .ok (.newarray .int, 2) := by decide +kernel
theorem d_X_init_9 : decode prog_3_method_1_code 9 = .ok (.putfield 9, 3) := by decide +kernel
theorem d_X_init_12 : decode prog_3_method_1_code 12 = .ok (.aload_n 0, 1) := by decide +kernel
theorem d_X_init_13 : decode prog_3_method_1_code 13 = .ok (.bipush 11, 2) := by decide +kernel
theorem d_X_init_15 : decode prog_3_method_1_code 15 = .ok (.newarray .boolean, 2) := by decide +kernel
theorem d_X_init_17 : decode prog_3_method_1_code 17 = .ok (.putfield 15, 3) := by decide +kernel
theorem d_X_init_20 : decode prog_3_method_1_code 20 = .ok (.return_, 1) := by decide +kernel
def ws_X_init : List Cond := .code y_X_init prog_3_method_1_code 1 none :: wd_tbl
def rm_X_init : Room := { frames := 1, cells := 2, slots := 22, locals := 12 }
def w0_X (h0 : Nat) : va_W := [(h0, .inr (3, [.int 0, .null, .null]))]
def w1_X (h0 : Nat) (u : co_U) : va_W := [(h0, .inr (3, [.int 0, .ref (u.1 1), .ref (u.1 2)])), (u.1 1, .inl (u.2 1, 11, .inl (fun _ => 0))), (u.1 2, .inl (u.2 2, 11, .inl (fun _ => 0)))]
def ty_X (u : co_U) : List (ClassId × FieldType) := [(u.2 1, .int), (u.2 2, .boolean)]
def pc_X (D : va_G) (h0 sz : Nat) : State → Prop := fun U => U.heap.size = sz ∧ va_P D cl_all (w0_X h0) U.heap ∧ va_K D cl_all [] U ∧ va_D (fun _ => True) (w0_X h0)
def pq_X (D : va_G) (h0 sz : Nat) (u : co_U) : State → Prop := fun U => va_P D cl_all (w1_X h0 u) U.heap ∧ va_K D cl_all (ty_X u) U ∧ va_D (va_A (w0_X h0) sz) (w1_X h0 u)
set_option maxHeartbeats 4000000 in
set_option maxRecDepth 100000 in
theorem c_X_init (l : Launch) (D : va_G) (h0 sz : Nat) : Met l y_X_init ws_X_init rm_X_init (va_Pc [.ref h0] (pc_X D h0 sz)) (va_Qv (fun _ : co_U => True) (pq_X D h0 sz) (va_A (w0_X h0) sz)) 2 22 (va_A (w0_X h0) sz) := by
  refine Met.ofW (cc := prog_3_method_1_code) (maxL := 1) (ret := none) (by decide) rfl ?_
  intro p e s m args below meth c s₁ B hml hv
  obtain ⟨rfl, hsz, hP, hK, hD0⟩ := hv
  have hx := B.exec
  have hb := B.bytes
  have hr := B.returns
  have hts := atoms_spec (ws := ws_X_init) B.pre
  have hown : s.vm.findClass "LogicalPairs$Indexes" = some m.cls := findClass_of_methodNamed B.named
  have hlocks := B.notSynchronized
  have hin : meth.name = "<init>" := (name_of_methodNamed B.named B.method).1
  subst hsz
  have hD := hD0.self (sz := s.heap.size)
  generalize hAe : va_A (w0_X h0) s.heap.size = A at hD ⊢
  have hA : ∀ q : Nat, s.heap.size ≤ q → A q := fun q h => by rw [← hAe]; exact Or.inr h
  have hS : va_S A s.heap s.heap [] := va_S.rf
  have hl := lv_entry ([.ref h0]) (n := 1) (Nat.le_of_ble_eq_true rfl)
  rw [lg_entry_eq]
  generalize (lg_sl ([.ref h0]) ++ List.replicate (1 - (lg_sl ([.ref h0])).length) Slot.unset).toArray = ls at hl ⊢
  have hl : lv_has ls 1 [(0, .ref h0)] := hl
  refine lv_aload_n hx hb d_X_init_0 rfl (lv_at hl 0 rfl) ?_
  refine W.objInit hx hb hown (hts _ (List.mem_cons_of_mem _ (ak_mem (k := 106) (by decide +kernel : ak_nth wd_tbl 106 = some (.methodLink "LogicalPairs$Indexes" 3 objectInit))))) (hts _ (List.mem_cons_of_mem _ (ak_mem (k := 32) (by decide +kernel : ak_nth wd_tbl 32 = some (.instanceMethod objectInit))))) (hts _ (List.mem_cons_of_mem _ (ak_mem (k := 33) (by decide +kernel : ak_nth wd_tbl 33 = some (.code objectInit object_method_1_code 1 none))))) rfl (by rw [hml]; exact hl.1) rfl d_X_init_1 (Nat.le_of_ble_eq_true rfl) (Nat.le_of_ble_eq_true rfl) ?_
  refine W.eq (g2 := F0 m 4 ls []) rfl ?_
  unfold pq_X
  rw [hAe]
  have hP : va_P D cl_all [(h0, .inr (3, [.int 0, .null, .null]))] s.heap := hP
  have hD : va_D A [(h0, .inr (3, [.int 0, .null, .null]))] := hD
  refine lv_aload_n hx hb d_X_init_4 rfl (lv_at hl 0 rfl) ?_
  refine lv_bipush (v := 11) hx hb d_X_init_5 (by decide) ?_
  refine va_newa (atype := .int) (ty := .int) (N' := 11) (a0 := (11, .inl (fun _ => 0))) hx hb (hts _ (List.mem_cons_of_mem _ (ak_mem (k := 57) (by decide +kernel : ak_nth wd_tbl 57 = some (.arrayClass .int))))) rfl hK hP hD hS hA (fun _ => rfl) (by decide) (by decide) (by decide) (Nat.le_of_ble_eq_true rfl) (Nat.le_of_ble_eq_true rfl) d_X_init_7 (fun q1 c1 H hK hP hD hS => ?_)
  have hP : va_P D cl_all [(h0, .inr (3, [.int 0, .null, .null])), (q1, .inl (c1, 11, .inl (fun _ => 0)))] H := hP
  have hD : va_D A [(h0, .inr (3, [.int 0, .null, .null])), (q1, .inl (c1, 11, .inl (fun _ => 0)))] := hD
  have hK : va_K D cl_all [(c1, .int)] s := hK
  refine W.widen (k := 1) (n := 11) (Nat.le_of_ble_eq_true rfl) (Nat.le_of_ble_eq_true rfl) ?_
  refine va_putF (D := D) (ci := 3) (v := .ref q1) (ty := .array .int) (C := "LogicalPairs$Indexes") (T := F_X) (N := 3) hx hb hts (fun w h => List.mem_cons_of_mem _ (in_X w h)) t_X tk_X nm_X hown hK hP hD hS 0 rfl rfl 1 (by decide) (hts _ (List.mem_cons_of_mem _ (ak_mem (k := 109) (by decide +kernel : ak_nth wd_tbl 109 = some (.fieldLink "LogicalPairs$Indexes" 9 "LogicalPairs$Indexes" "kindOf" "[I"))))) (fun _ h9 => h9) rfl hin rfl (by decide +kernel) rfl rfl (Nat.le_of_ble_eq_true rfl) d_X_init_9 (fun H locs hP hD hS => ?_)
  have hP : va_P D cl_all [(h0, .inr (3, [.int 0, .ref q1, .null])), (q1, .inl (c1, 11, .inl (fun _ => 0)))] H := hP
  have hD : va_D A [(h0, .inr (3, [.int 0, .ref q1, .null])), (q1, .inl (c1, 11, .inl (fun _ => 0)))] := hD
  refine lv_aload_n hx hb d_X_init_12 rfl (lv_at hl 0 rfl) ?_
  refine lv_bipush (v := 11) hx hb d_X_init_13 (by decide) ?_
  refine va_newa (atype := .boolean) (ty := .boolean) (N' := 11) (a0 := (11, .inl (fun _ => 0))) hx hb (hts _ (List.mem_cons_of_mem _ (ak_mem (k := 120) (by decide +kernel : ak_nth wd_tbl 120 = some (.arrayClass .boolean))))) rfl hK hP hD hS hA (fun _ => rfl) (by decide) (by decide) (by decide) (Nat.le_of_ble_eq_true rfl) (Nat.le_of_ble_eq_true rfl) d_X_init_15 (fun q2 c2 H hK hP hD hS => ?_)
  have hP : va_P D cl_all [(h0, .inr (3, [.int 0, .ref q1, .null])), (q1, .inl (c1, 11, .inl (fun _ => 0))), (q2, .inl (c2, 11, .inl (fun _ => 0)))] H := hP
  have hD : va_D A [(h0, .inr (3, [.int 0, .ref q1, .null])), (q1, .inl (c1, 11, .inl (fun _ => 0))), (q2, .inl (c2, 11, .inl (fun _ => 0)))] := hD
  have hK : va_K D cl_all [(c1, .int), (c2, .boolean)] s := hK
  refine W.widen (k := 2) (n := 22) (Nat.le_of_ble_eq_true rfl) (Nat.le_of_ble_eq_true rfl) ?_
  refine va_putF (D := D) (ci := 3) (v := .ref q2) (ty := .array .boolean) (C := "LogicalPairs$Indexes") (T := F_X) (N := 3) hx hb hts (fun w h => List.mem_cons_of_mem _ (in_X w h)) t_X tk_X nm_X hown hK hP hD hS 0 rfl rfl 2 (by decide) (hts _ (List.mem_cons_of_mem _ (ak_mem (k := 111) (by decide +kernel : ak_nth wd_tbl 111 = some (.fieldLink "LogicalPairs$Indexes" 15 "LogicalPairs$Indexes" "sparse" "[Z"))))) (fun _ h9 => h9) rfl hin rfl (by decide +kernel) rfl rfl (Nat.le_of_ble_eq_true rfl) d_X_init_17 (fun H locs hP hD hS => ?_)
  have hP : va_P D cl_all [(h0, .inr (3, [.int 0, .ref q1, .ref q2])), (q1, .inl (c1, 11, .inl (fun _ => 0))), (q2, .inl (c2, 11, .inl (fun _ => 0)))] H := hP
  have hD : va_D A [(h0, .inr (3, [.int 0, .ref q1, .ref q2])), (q1, .inl (c1, 11, .inl (fun _ => 0))), (q2, .inl (c2, 11, .inl (fun _ => 0)))] := hD
  exact W.vret hx hb hr (fun t ht hW => ⟨⟨(fun k => match k with | 1 => q1 | _ => q2, fun k => match k with | 1 => c1 | _ => c2), rfl, trivial, by rw [ht]; exact hP, va_K.moved hW.alike hK, hD⟩, hS.F ht⟩) hS.2.2 d_X_init_20
theorem d_D_init_0 : decode prog_2_method_1_code 0 = .ok (.aload_n 0, 1) := by decide +kernel
theorem d_D_init_1 : decode prog_2_method_1_code 1 = .ok (.invokespecial 3, 3) := by decide +kernel
theorem d_D_init_4 : decode prog_2_method_1_code 4 = .ok (.aload_n 0, 1) := by decide +kernel
theorem d_D_init_5 : decode prog_2_method_1_code 5 = .ok (.sipush 251, 3) := by decide +kernel
theorem d_D_init_8 : decode prog_2_method_1_code 8 = .ok (.newarray .boolean, 2) := by decide +kernel
theorem d_D_init_10 : decode prog_2_method_1_code 10 = .ok (.putfield 9, 3) := by decide +kernel
theorem d_D_init_13 : decode prog_2_method_1_code 13 = .ok (.aload_n 0, 1) := by decide +kernel
theorem d_D_init_14 : decode prog_2_method_1_code 14 = .ok (.sipush 250, 3) := by decide +kernel
theorem d_D_init_17 : decode prog_2_method_1_code 17 = .ok (.newarray .int, 2) := by decide +kernel
theorem d_D_init_19 : decode prog_2_method_1_code 19 = .ok (.putfield 15, 3) := by decide +kernel
theorem d_D_init_22 : decode prog_2_method_1_code 22 = .ok (.aload_n 0, 1) := by decide +kernel
theorem d_D_init_23 : decode prog_2_method_1_code 23 = .ok (.aload_n 1, 1) := by decide +kernel
theorem d_D_init_24 : decode prog_2_method_1_code 24 = .ok (.putfield 19, 3) := by decide +kernel
theorem d_D_init_27 : decode prog_2_method_1_code 27 = .ok (.aload_n 0, 1) := by decide +kernel
theorem d_D_init_28 : decode prog_2_method_1_code 28 = .ok (.aload_n 2, 1) := by decide +kernel
theorem d_D_init_29 : decode prog_2_method_1_code 29 = .ok (.putfield 23, 3) := by decide +kernel
theorem d_D_init_32 : decode prog_2_method_1_code 32 = .ok (.return_, 1) := by decide +kernel
def ws_D_init : List Cond := .code y_D_init prog_2_method_1_code 3 none :: wd_tbl
def rm_D_init : Room := { frames := 1, cells := 2, slots := 501, locals := 12 }
def w0_D (h0 : Nat) : va_W := [(h0, .inr (4, [.null, .null, .null, .null, .int 0]))]
def w1_D (h0 hk hs : Nat) (u : co_U) : va_W := [(h0, .inr (4, [.ref hk, .ref hs, .ref (u.1 1), .ref (u.1 2), .int 0])), (u.1 1, .inl (u.2 1, 251, .inl (fun _ => 0))), (u.1 2, .inl (u.2 2, 250, .inl (fun _ => 0)))]
def ty_D (u : co_U) : List (ClassId × FieldType) := [(u.2 1, .boolean), (u.2 2, .int)]
def pc_D (D : va_G) (h0 sz : Nat) : State → Prop := fun U => U.heap.size = sz ∧ va_P D cl_all (w0_D h0) U.heap ∧ va_K D cl_all [] U ∧ va_D (fun _ => True) (w0_D h0)
def pq_D (D : va_G) (h0 hk hs sz : Nat) (u : co_U) : State → Prop := fun U => va_P D cl_all (w1_D h0 hk hs u) U.heap ∧ va_K D cl_all (ty_D u) U ∧ va_D (va_A (w0_D h0) sz) (w1_D h0 hk hs u)
set_option maxHeartbeats 4000000 in
set_option maxRecDepth 100000 in
theorem c_D_init (l : Launch) (D : va_G) (h0 hk hs sz : Nat) : Met l y_D_init ws_D_init rm_D_init (va_Pc [.ref h0, .ref hk, .ref hs] (pc_D D h0 sz)) (va_Qv (fun _ : co_U => True) (pq_D D h0 hk hs sz) (va_A (w0_D h0) sz)) 2 501 (va_A (w0_D h0) sz) := by
  refine Met.ofW (cc := prog_2_method_1_code) (maxL := 3) (ret := none) (by decide) rfl ?_
  intro p e s m args below meth c s₁ B hml hv
  obtain ⟨rfl, hsz, hP, hK, hD0⟩ := hv
  have hx := B.exec
  have hb := B.bytes
  have hr := B.returns
  have hts := atoms_spec (ws := ws_D_init) B.pre
  have hown : s.vm.findClass "LogicalPairs$Deletion" = some m.cls := findClass_of_methodNamed B.named
  have hlocks := B.notSynchronized
  have hin : meth.name = "<init>" := (name_of_methodNamed B.named B.method).1
  subst hsz
  have hD := hD0.self (sz := s.heap.size)
  generalize hAe : va_A (w0_D h0) s.heap.size = A at hD ⊢
  have hA : ∀ q : Nat, s.heap.size ≤ q → A q := fun q h => by rw [← hAe]; exact Or.inr h
  have hS : va_S A s.heap s.heap [] := va_S.rf
  have hl := lv_entry ([.ref h0, .ref hk, .ref hs]) (n := 3) (Nat.le_of_ble_eq_true rfl)
  rw [lg_entry_eq]
  generalize (lg_sl ([.ref h0, .ref hk, .ref hs]) ++ List.replicate (3 - (lg_sl ([.ref h0, .ref hk, .ref hs])).length) Slot.unset).toArray = ls at hl ⊢
  have hl : lv_has ls 3 [(0, .ref h0), (1, .ref hk), (2, .ref hs)] := hl
  refine lv_aload_n hx hb d_D_init_0 rfl (lv_at hl 0 rfl) ?_
  refine W.objInit hx hb hown (hts _ (List.mem_cons_of_mem _ (ak_mem (k := 126) (by decide +kernel : ak_nth wd_tbl 126 = some (.methodLink "LogicalPairs$Deletion" 3 objectInit))))) (hts _ (List.mem_cons_of_mem _ (ak_mem (k := 32) (by decide +kernel : ak_nth wd_tbl 32 = some (.instanceMethod objectInit))))) (hts _ (List.mem_cons_of_mem _ (ak_mem (k := 33) (by decide +kernel : ak_nth wd_tbl 33 = some (.code objectInit object_method_1_code 1 none))))) rfl (by rw [hml]; exact hl.1) rfl d_D_init_1 (Nat.le_of_ble_eq_true rfl) (Nat.le_of_ble_eq_true rfl) ?_
  refine W.eq (g2 := F0 m 4 ls []) rfl ?_
  unfold pq_D
  rw [hAe]
  have hP : va_P D cl_all [(h0, .inr (4, [.null, .null, .null, .null, .int 0]))] s.heap := hP
  have hD : va_D A [(h0, .inr (4, [.null, .null, .null, .null, .int 0]))] := hD
  refine lv_aload_n hx hb d_D_init_4 rfl (lv_at hl 0 rfl) ?_
  refine lv_sipush (v := 251) hx hb d_D_init_5 (by decide) ?_
  refine va_newa (atype := .boolean) (ty := .boolean) (N' := 251) (a0 := (251, .inl (fun _ => 0))) hx hb (hts _ (List.mem_cons_of_mem _ (ak_mem (k := 120) (by decide +kernel : ak_nth wd_tbl 120 = some (.arrayClass .boolean))))) rfl hK hP hD hS hA (fun _ => rfl) (by decide) (by decide) (by decide) (Nat.le_of_ble_eq_true rfl) (Nat.le_of_ble_eq_true rfl) d_D_init_8 (fun q1 c1 H hK hP hD hS => ?_)
  have hP : va_P D cl_all [(h0, .inr (4, [.null, .null, .null, .null, .int 0])), (q1, .inl (c1, 251, .inl (fun _ => 0)))] H := hP
  have hD : va_D A [(h0, .inr (4, [.null, .null, .null, .null, .int 0])), (q1, .inl (c1, 251, .inl (fun _ => 0)))] := hD
  have hK : va_K D cl_all [(c1, .boolean)] s := hK
  refine W.widen (k := 1) (n := 251) (Nat.le_of_ble_eq_true rfl) (Nat.le_of_ble_eq_true rfl) ?_
  refine va_putF (D := D) (ci := 4) (v := .ref q1) (ty := .array .boolean) (C := "LogicalPairs$Deletion") (T := F_D) (N := 5) hx hb hts (fun w h => List.mem_cons_of_mem _ (in_D w h)) t_D tk_D nm_D hown hK hP hD hS 0 rfl rfl 2 (by decide) (hts _ (List.mem_cons_of_mem _ (ak_mem (k := 129) (by decide +kernel : ak_nth wd_tbl 129 = some (.fieldLink "LogicalPairs$Deletion" 9 "LogicalPairs$Deletion" "goes" "[Z"))))) (fun _ h9 => h9) rfl hin rfl (by decide +kernel) rfl rfl (Nat.le_of_ble_eq_true rfl) d_D_init_10 (fun H locs hP hD hS => ?_)
  have hP : va_P D cl_all [(h0, .inr (4, [.null, .null, .ref q1, .null, .int 0])), (q1, .inl (c1, 251, .inl (fun _ => 0)))] H := hP
  have hD : va_D A [(h0, .inr (4, [.null, .null, .ref q1, .null, .int 0])), (q1, .inl (c1, 251, .inl (fun _ => 0)))] := hD
  refine lv_aload_n hx hb d_D_init_13 rfl (lv_at hl 0 rfl) ?_
  refine lv_sipush (v := 250) hx hb d_D_init_14 (by decide) ?_
  refine va_newa (atype := .int) (ty := .int) (N' := 250) (a0 := (250, .inl (fun _ => 0))) hx hb (hts _ (List.mem_cons_of_mem _ (ak_mem (k := 57) (by decide +kernel : ak_nth wd_tbl 57 = some (.arrayClass .int))))) rfl hK hP hD hS hA (fun _ => rfl) (by decide) (by decide) (by decide) (Nat.le_of_ble_eq_true rfl) (Nat.le_of_ble_eq_true rfl) d_D_init_17 (fun q2 c2 H hK hP hD hS => ?_)
  have hP : va_P D cl_all [(h0, .inr (4, [.null, .null, .ref q1, .null, .int 0])), (q1, .inl (c1, 251, .inl (fun _ => 0))), (q2, .inl (c2, 250, .inl (fun _ => 0)))] H := hP
  have hD : va_D A [(h0, .inr (4, [.null, .null, .ref q1, .null, .int 0])), (q1, .inl (c1, 251, .inl (fun _ => 0))), (q2, .inl (c2, 250, .inl (fun _ => 0)))] := hD
  have hK : va_K D cl_all [(c1, .boolean), (c2, .int)] s := hK
  refine W.widen (k := 2) (n := 501) (Nat.le_of_ble_eq_true rfl) (Nat.le_of_ble_eq_true rfl) ?_
  refine va_putF (D := D) (ci := 4) (v := .ref q2) (ty := .array .int) (C := "LogicalPairs$Deletion") (T := F_D) (N := 5) hx hb hts (fun w h => List.mem_cons_of_mem _ (in_D w h)) t_D tk_D nm_D hown hK hP hD hS 0 rfl rfl 3 (by decide) (hts _ (List.mem_cons_of_mem _ (ak_mem (k := 130) (by decide +kernel : ak_nth wd_tbl 130 = some (.fieldLink "LogicalPairs$Deletion" 15 "LogicalPairs$Deletion" "going" "[I"))))) (fun _ h9 => h9) rfl hin rfl (by decide +kernel) rfl rfl (Nat.le_of_ble_eq_true rfl) d_D_init_19 (fun H locs hP hD hS => ?_)
  have hP : va_P D cl_all [(h0, .inr (4, [.null, .null, .ref q1, .ref q2, .int 0])), (q1, .inl (c1, 251, .inl (fun _ => 0))), (q2, .inl (c2, 250, .inl (fun _ => 0)))] H := hP
  have hD : va_D A [(h0, .inr (4, [.null, .null, .ref q1, .ref q2, .int 0])), (q1, .inl (c1, 251, .inl (fun _ => 0))), (q2, .inl (c2, 250, .inl (fun _ => 0)))] := hD
  refine lv_aload_n hx hb d_D_init_22 rfl (lv_at hl 0 rfl) ?_
  refine lv_aload_n hx hb d_D_init_23 rfl (lv_at hl 1 rfl) ?_
  refine va_putF (D := D) (ci := 4) (v := .ref hk) (ty := .object "LogicalPairs$Kinds") (C := "LogicalPairs$Deletion") (T := F_D) (N := 5) hx hb hts (fun w h => List.mem_cons_of_mem _ (in_D w h)) t_D tk_D nm_D hown hK hP hD hS 0 rfl rfl 0 (by decide) (hts _ (List.mem_cons_of_mem _ (ak_mem (k := 127) (by decide +kernel : ak_nth wd_tbl 127 = some (.fieldLink "LogicalPairs$Deletion" 19 "LogicalPairs$Deletion" "kinds" "LLogicalPairs$Kinds;"))))) (fun _ h9 => h9) rfl hin rfl (by decide +kernel) rfl rfl (Nat.le_of_ble_eq_true rfl) d_D_init_24 (fun H locs hP hD hS => ?_)
  have hP : va_P D cl_all [(h0, .inr (4, [.ref hk, .null, .ref q1, .ref q2, .int 0])), (q1, .inl (c1, 251, .inl (fun _ => 0))), (q2, .inl (c2, 250, .inl (fun _ => 0)))] H := hP
  have hD : va_D A [(h0, .inr (4, [.ref hk, .null, .ref q1, .ref q2, .int 0])), (q1, .inl (c1, 251, .inl (fun _ => 0))), (q2, .inl (c2, 250, .inl (fun _ => 0)))] := hD
  refine lv_aload_n hx hb d_D_init_27 rfl (lv_at hl 0 rfl) ?_
  refine lv_aload_n hx hb d_D_init_28 rfl (lv_at hl 2 rfl) ?_
  refine va_putF (D := D) (ci := 4) (v := .ref hs) (ty := .object "LogicalPairs$Segments") (C := "LogicalPairs$Deletion") (T := F_D) (N := 5) hx hb hts (fun w h => List.mem_cons_of_mem _ (in_D w h)) t_D tk_D nm_D hown hK hP hD hS 0 rfl rfl 1 (by decide) (hts _ (List.mem_cons_of_mem _ (ak_mem (k := 128) (by decide +kernel : ak_nth wd_tbl 128 = some (.fieldLink "LogicalPairs$Deletion" 23 "LogicalPairs$Deletion" "segments" "LLogicalPairs$Segments;"))))) (fun _ h9 => h9) rfl hin rfl (by decide +kernel) rfl rfl (Nat.le_of_ble_eq_true rfl) d_D_init_29 (fun H locs hP hD hS => ?_)
  have hP : va_P D cl_all [(h0, .inr (4, [.ref hk, .ref hs, .ref q1, .ref q2, .int 0])), (q1, .inl (c1, 251, .inl (fun _ => 0))), (q2, .inl (c2, 250, .inl (fun _ => 0)))] H := hP
  have hD : va_D A [(h0, .inr (4, [.ref hk, .ref hs, .ref q1, .ref q2, .int 0])), (q1, .inl (c1, 251, .inl (fun _ => 0))), (q2, .inl (c2, 250, .inl (fun _ => 0)))] := hD
  exact W.vret hx hb hr (fun t ht hW => ⟨⟨(fun k => match k with | 1 => q1 | _ => q2, fun k => match k with | 1 => c1 | _ => c2), rfl, trivial, by rw [ht]; exact hP, va_K.moved hW.alike hK, hD⟩, hS.F ht⟩) hS.2.2 d_D_init_32
end
section
/-! constructors, laid by program (wip/whole/gen2.py) -/
theorem d_S_init_0 : decode prog_5_method_1_code 0 = .ok (.aload_n 0, 1) := by decide +kernel
theorem d_S_init_1 : decode prog_5_method_1_code 1 = .ok (.invokespecial 3, 3) := by decide +kernel
theorem d_S_init_4 : decode prog_5_method_1_code 4 = .ok (.aload_n 0, 1) := by decide +kernel
theorem d_S_init_5 : decode prog_5_method_1_code 5 = .ok (.sipush 251, 3) := by decide +kernel
theorem d_S_init_8 : decode prog_5_method_1_code 8 = .ok (.newarray .int, 2) := by decide +kernel
theorem d_S_init_10 : decode prog_5_method_1_code 10 = .ok (.putfield 9, 3) := by decide +kernel
theorem d_S_init_13 : decode prog_5_method_1_code 13 = .ok (.aload_n 0, 1) := by decide +kernel
theorem d_S_init_14 : decode prog_5_method_1_code 14 = .ok (.sipush 251, 3) := by decide +kernel
theorem d_S_init_17 : decode prog_5_method_1_code 17 = .ok (.newarray .int, 2) := by decide +kernel
theorem d_S_init_19 : decode prog_5_method_1_code 19 = .ok (.putfield 15, 3) := by decide +kernel
theorem d_S_init_22 : decode prog_5_method_1_code 22 = .ok (.aload_n 0, 1) := by decide +kernel
theorem d_S_init_23 : decode prog_5_method_1_code 23 = .ok (.sipush 251, 3) := by decide +kernel
theorem d_S_init_26 : decode prog_5_method_1_code 26 = .ok (.newarray .long, 2) := by decide +kernel
theorem d_S_init_28 : decode prog_5_method_1_code 28 = .ok (.putfield 18, 3) := by decide +kernel
theorem d_S_init_31 : decode prog_5_method_1_code 31 = .ok (.aload_n 0, 1) := by decide +kernel
theorem d_S_init_32 : decode prog_5_method_1_code 32 = .ok (.sipush 251, 3) := by decide +kernel
theorem d_S_init_35 : decode prog_5_method_1_code 35 = .ok (.newarray .int, 2) := by decide +kernel
theorem d_S_init_37 : decode prog_5_method_1_code 37 = .ok (.putfield 22, 3) := by decide +kernel
theorem d_S_init_40 : decode prog_5_method_1_code 40 = .ok (.aload_n 0, 1) := by decide +kernel
theorem d_S_init_41 : decode prog_5_method_1_code 41 = .ok (.sipush 251, 3) := by decide +kernel
theorem d_S_init_44 : decode prog_5_method_1_code 44 = .ok (.newarray .int, 2) := by decide +kernel
theorem d_S_init_46 : decode prog_5_method_1_code 46 = .ok (.putfield 25, 3) := by decide +kernel
theorem d_S_init_49 : decode prog_5_method_1_code 49 = .ok (.aload_n 0, 1) := by decide +kernel
theorem d_S_init_50 : decode prog_5_method_1_code 50 = .ok (.sipush 251, 3) := by decide +kernel
theorem d_S_init_53 : decode prog_5_method_1_code 53 = .ok (.newarray .int, 2) := by decide +kernel
theorem d_S_init_55 : decode prog_5_method_1_code 55 = .ok (.putfield 28, 3) := by decide +kernel
theorem d_S_init_58 : decode prog_5_method_1_code 58 = .ok (.aload_n 0, 1) := by decide +kernel
theorem d_S_init_59 : decode prog_5_method_1_code 59 = .ok (.sipush 753, 3) := by decide +kernel
theorem d_S_init_62 : decode prog_5_method_1_code 62 = .ok (.newarray .int, 2) := by decide +kernel
theorem d_S_init_64 : decode prog_5_method_1_code 64 = .ok (.putfield 31, 3) := by decide +kernel
theorem d_S_init_67 : decode prog_5_method_1_code 67 = .ok (.aload_n 0, 1) := by decide +kernel
theorem d_S_init_68 : decode prog_5_method_1_code 68 = .ok (.sipush 250, 3) := by decide +kernel
theorem d_S_init_71 : decode prog_5_method_1_code 71 = .ok (.newarray .int, 2) := by decide +kernel
theorem d_S_init_73 : decode prog_5_method_1_code 73 = .ok (.putfield 34, 3) := by decide +kernel
theorem d_S_init_76 : decode prog_5_method_1_code 76 = .ok (.return_, 1) := by decide +kernel
def ws_S_init : List Cond := .code y_S_init prog_5_method_1_code 1 none :: wd_tbl
def rm_S_init : Room := { frames := 1, cells := 8, slots := 2509, locals := 12 }
def w0_S (h0 : Nat) : va_W := [(h0, .inr (2, [.int 0, .null, .null, .null, .null, .null, .null, .null, .null]))]
def w1_S (h0 : Nat) (u : co_U) : va_W := [(h0, .inr (2, [.int 0, .ref (u.1 1), .ref (u.1 2), .ref (u.1 3), .ref (u.1 4), .ref (u.1 5), .ref (u.1 6), .ref (u.1 7), .ref (u.1 8)])), (u.1 1, .inl (u.2 1, 251, .inl (fun _ => 0))), (u.1 2, .inl (u.2 2, 251, .inl (fun _ => 0))), (u.1 3, .inl (u.2 3, 251, .inr (.inl (fun _ => 0)))), (u.1 4, .inl (u.2 4, 251, .inl (fun _ => 0))), (u.1 5, .inl (u.2 5, 251, .inl (fun _ => 0))), (u.1 6, .inl (u.2 6, 251, .inl (fun _ => 0))), (u.1 7, .inl (u.2 7, 753, .inl (fun _ => 0))), (u.1 8, .inl (u.2 8, 250, .inl (fun _ => 0)))]
def ty_S (u : co_U) : List (ClassId × FieldType) := [(u.2 1, .int), (u.2 2, .int), (u.2 3, .long), (u.2 4, .int), (u.2 5, .int), (u.2 6, .int), (u.2 7, .int), (u.2 8, .int)]
def pc_S (D : va_G) (h0 sz : Nat) : State → Prop := fun U => U.heap.size = sz ∧ va_P D cl_all (w0_S h0) U.heap ∧ va_K D cl_all [] U ∧ va_D (fun _ => True) (w0_S h0)
def pq_S (D : va_G) (h0 sz : Nat) (u : co_U) : State → Prop := fun U => va_P D cl_all (w1_S h0 u) U.heap ∧ va_K D cl_all (ty_S u) U ∧ va_D (va_A (w0_S h0) sz) (w1_S h0 u)
set_option maxHeartbeats 4000000 in
set_option maxRecDepth 100000 in
theorem c_S_init (l : Launch) (D : va_G) (h0 sz : Nat) : Met l y_S_init ws_S_init rm_S_init (va_Pc [.ref h0] (pc_S D h0 sz)) (va_Qv (fun _ : co_U => True) (pq_S D h0 sz) (va_A (w0_S h0) sz)) 8 2509 (va_A (w0_S h0) sz) := by
  refine Met.ofW (cc := prog_5_method_1_code) (maxL := 1) (ret := none) (by decide) rfl ?_
  intro p e s m args below meth c s₁ B hml hv
  obtain ⟨rfl, hsz, hP, hK, hD0⟩ := hv
  have hx := B.exec
  have hb := B.bytes
  have hr := B.returns
  have hts := atoms_spec (ws := ws_S_init) B.pre
  have hown : s.vm.findClass "LogicalPairs$Segments" = some m.cls := findClass_of_methodNamed B.named
  have hlocks := B.notSynchronized
  have hin : meth.name = "<init>" := (name_of_methodNamed B.named B.method).1
  subst hsz
  have hD := hD0.self (sz := s.heap.size)
  generalize hAe : va_A (w0_S h0) s.heap.size = A at hD ⊢
  have hA : ∀ q : Nat, s.heap.size ≤ q → A q := fun q h => by rw [← hAe]; exact Or.inr h
  have hS : va_S A s.heap s.heap [] := va_S.rf
  have hl := lv_entry ([.ref h0]) (n := 1) (Nat.le_of_ble_eq_true rfl)
  rw [lg_entry_eq]
  generalize (lg_sl ([.ref h0]) ++ List.replicate (1 - (lg_sl ([.ref h0])).length) Slot.unset).toArray = ls at hl ⊢
  have hl : lv_has ls 1 [(0, .ref h0)] := hl
  refine lv_aload_n hx hb d_S_init_0 rfl (lv_at hl 0 rfl) ?_
  refine W.objInit hx hb hown (hts _ (List.mem_cons_of_mem _ (ak_mem (k := 62) (by decide +kernel : ak_nth wd_tbl 62 = some (.methodLink "LogicalPairs$Segments" 3 objectInit))))) (hts _ (List.mem_cons_of_mem _ (ak_mem (k := 32) (by decide +kernel : ak_nth wd_tbl 32 = some (.instanceMethod objectInit))))) (hts _ (List.mem_cons_of_mem _ (ak_mem (k := 33) (by decide +kernel : ak_nth wd_tbl 33 = some (.code objectInit object_method_1_code 1 none))))) rfl (by rw [hml]; exact hl.1) rfl d_S_init_1 (Nat.le_of_ble_eq_true rfl) (Nat.le_of_ble_eq_true rfl) ?_
  refine W.eq (g2 := F0 m 4 ls []) rfl ?_
  unfold pq_S
  rw [hAe]
  have hP : va_P D cl_all [(h0, .inr (2, [.int 0, .null, .null, .null, .null, .null, .null, .null, .null]))] s.heap := hP
  have hD : va_D A [(h0, .inr (2, [.int 0, .null, .null, .null, .null, .null, .null, .null, .null]))] := hD
  refine lv_aload_n hx hb d_S_init_4 rfl (lv_at hl 0 rfl) ?_
  refine lv_sipush (v := 251) hx hb d_S_init_5 (by decide) ?_
  refine va_newa (atype := .int) (ty := .int) (N' := 251) (a0 := (251, .inl (fun _ => 0))) hx hb (hts _ (List.mem_cons_of_mem _ (ak_mem (k := 57) (by decide +kernel : ak_nth wd_tbl 57 = some (.arrayClass .int))))) rfl hK hP hD hS hA (fun _ => rfl) (by decide) (by decide) (by decide) (Nat.le_of_ble_eq_true rfl) (Nat.le_of_ble_eq_true rfl) d_S_init_8 (fun q1 c1 H hK hP hD hS => ?_)
  have hP : va_P D cl_all [(h0, .inr (2, [.int 0, .null, .null, .null, .null, .null, .null, .null, .null])), (q1, .inl (c1, 251, .inl (fun _ => 0)))] H := hP
  have hD : va_D A [(h0, .inr (2, [.int 0, .null, .null, .null, .null, .null, .null, .null, .null])), (q1, .inl (c1, 251, .inl (fun _ => 0)))] := hD
  have hK : va_K D cl_all [(c1, .int)] s := hK
  refine W.widen (k := 1) (n := 251) (Nat.le_of_ble_eq_true rfl) (Nat.le_of_ble_eq_true rfl) ?_
  refine va_putF (D := D) (ci := 2) (v := .ref q1) (ty := .array .int) (C := "LogicalPairs$Segments") (T := F_S) (N := 9) hx hb hts (fun w h => List.mem_cons_of_mem _ (in_S w h)) t_S tk_S nm_S hown hK hP hD hS 0 rfl rfl 1 (by decide) (hts _ (List.mem_cons_of_mem _ (ak_mem (k := 66) (by decide +kernel : ak_nth wd_tbl 66 = some (.fieldLink "LogicalPairs$Segments" 9 "LogicalPairs$Segments" "kindOf" "[I"))))) (fun _ h9 => h9) rfl hin rfl (by decide +kernel) rfl rfl (Nat.le_of_ble_eq_true rfl) d_S_init_10 (fun H locs hP hD hS => ?_)
  have hP : va_P D cl_all [(h0, .inr (2, [.int 0, .ref q1, .null, .null, .null, .null, .null, .null, .null])), (q1, .inl (c1, 251, .inl (fun _ => 0)))] H := hP
  have hD : va_D A [(h0, .inr (2, [.int 0, .ref q1, .null, .null, .null, .null, .null, .null, .null])), (q1, .inl (c1, 251, .inl (fun _ => 0)))] := hD
  refine lv_aload_n hx hb d_S_init_13 rfl (lv_at hl 0 rfl) ?_
  refine lv_sipush (v := 251) hx hb d_S_init_14 (by decide) ?_
  refine va_newa (atype := .int) (ty := .int) (N' := 251) (a0 := (251, .inl (fun _ => 0))) hx hb (hts _ (List.mem_cons_of_mem _ (ak_mem (k := 57) (by decide +kernel : ak_nth wd_tbl 57 = some (.arrayClass .int))))) rfl hK hP hD hS hA (fun _ => rfl) (by decide) (by decide) (by decide) (Nat.le_of_ble_eq_true rfl) (Nat.le_of_ble_eq_true rfl) d_S_init_17 (fun q2 c2 H hK hP hD hS => ?_)
  have hP : va_P D cl_all [(h0, .inr (2, [.int 0, .ref q1, .null, .null, .null, .null, .null, .null, .null])), (q1, .inl (c1, 251, .inl (fun _ => 0))), (q2, .inl (c2, 251, .inl (fun _ => 0)))] H := hP
  have hD : va_D A [(h0, .inr (2, [.int 0, .ref q1, .null, .null, .null, .null, .null, .null, .null])), (q1, .inl (c1, 251, .inl (fun _ => 0))), (q2, .inl (c2, 251, .inl (fun _ => 0)))] := hD
  have hK : va_K D cl_all [(c1, .int), (c2, .int)] s := hK
  refine W.widen (k := 2) (n := 502) (Nat.le_of_ble_eq_true rfl) (Nat.le_of_ble_eq_true rfl) ?_
  refine va_putF (D := D) (ci := 2) (v := .ref q2) (ty := .array .int) (C := "LogicalPairs$Segments") (T := F_S) (N := 9) hx hb hts (fun w h => List.mem_cons_of_mem _ (in_S w h)) t_S tk_S nm_S hown hK hP hD hS 0 rfl rfl 2 (by decide) (hts _ (List.mem_cons_of_mem _ (ak_mem (k := 69) (by decide +kernel : ak_nth wd_tbl 69 = some (.fieldLink "LogicalPairs$Segments" 15 "LogicalPairs$Segments" "aboveOf" "[I"))))) (fun _ h9 => h9) rfl hin rfl (by decide +kernel) rfl rfl (Nat.le_of_ble_eq_true rfl) d_S_init_19 (fun H locs hP hD hS => ?_)
  have hP : va_P D cl_all [(h0, .inr (2, [.int 0, .ref q1, .ref q2, .null, .null, .null, .null, .null, .null])), (q1, .inl (c1, 251, .inl (fun _ => 0))), (q2, .inl (c2, 251, .inl (fun _ => 0)))] H := hP
  have hD : va_D A [(h0, .inr (2, [.int 0, .ref q1, .ref q2, .null, .null, .null, .null, .null, .null])), (q1, .inl (c1, 251, .inl (fun _ => 0))), (q2, .inl (c2, 251, .inl (fun _ => 0)))] := hD
  refine lv_aload_n hx hb d_S_init_22 rfl (lv_at hl 0 rfl) ?_
  refine lv_sipush (v := 251) hx hb d_S_init_23 (by decide) ?_
  refine va_newa (atype := .long) (ty := .long) (N' := 251) (a0 := (251, .inr (.inl (fun _ => 0)))) hx hb (hts _ (List.mem_cons_of_mem _ (ak_mem (k := 101) (by decide +kernel : ak_nth wd_tbl 101 = some (.arrayClass .long))))) rfl hK hP hD hS hA (fun _ => rfl) (by decide) (by decide) (by decide) (Nat.le_of_ble_eq_true rfl) (Nat.le_of_ble_eq_true rfl) d_S_init_26 (fun q3 c3 H hK hP hD hS => ?_)
  have hP : va_P D cl_all [(h0, .inr (2, [.int 0, .ref q1, .ref q2, .null, .null, .null, .null, .null, .null])), (q1, .inl (c1, 251, .inl (fun _ => 0))), (q2, .inl (c2, 251, .inl (fun _ => 0))), (q3, .inl (c3, 251, .inr (.inl (fun _ => 0))))] H := hP
  have hD : va_D A [(h0, .inr (2, [.int 0, .ref q1, .ref q2, .null, .null, .null, .null, .null, .null])), (q1, .inl (c1, 251, .inl (fun _ => 0))), (q2, .inl (c2, 251, .inl (fun _ => 0))), (q3, .inl (c3, 251, .inr (.inl (fun _ => 0))))] := hD
  have hK : va_K D cl_all [(c1, .int), (c2, .int), (c3, .long)] s := hK
  refine W.widen (k := 3) (n := 753) (Nat.le_of_ble_eq_true rfl) (Nat.le_of_ble_eq_true rfl) ?_
  refine va_putF (D := D) (ci := 2) (v := .ref q3) (ty := .array .long) (C := "LogicalPairs$Segments") (T := F_S) (N := 9) hx hb hts (fun w h => List.mem_cons_of_mem _ (in_S w h)) t_S tk_S nm_S hown hK hP hD hS 0 rfl rfl 3 (by decide) (hts _ (List.mem_cons_of_mem _ (ak_mem (k := 71) (by decide +kernel : ak_nth wd_tbl 71 = some (.fieldLink "LogicalPairs$Segments" 18 "LogicalPairs$Segments" "keyOf" "[J"))))) (fun _ h9 => h9) rfl hin rfl (by decide +kernel) rfl rfl (Nat.le_of_ble_eq_true rfl) d_S_init_28 (fun H locs hP hD hS => ?_)
  have hP : va_P D cl_all [(h0, .inr (2, [.int 0, .ref q1, .ref q2, .ref q3, .null, .null, .null, .null, .null])), (q1, .inl (c1, 251, .inl (fun _ => 0))), (q2, .inl (c2, 251, .inl (fun _ => 0))), (q3, .inl (c3, 251, .inr (.inl (fun _ => 0))))] H := hP
  have hD : va_D A [(h0, .inr (2, [.int 0, .ref q1, .ref q2, .ref q3, .null, .null, .null, .null, .null])), (q1, .inl (c1, 251, .inl (fun _ => 0))), (q2, .inl (c2, 251, .inl (fun _ => 0))), (q3, .inl (c3, 251, .inr (.inl (fun _ => 0))))] := hD
  refine lv_aload_n hx hb d_S_init_31 rfl (lv_at hl 0 rfl) ?_
  refine lv_sipush (v := 251) hx hb d_S_init_32 (by decide) ?_
  refine va_newa (atype := .int) (ty := .int) (N' := 251) (a0 := (251, .inl (fun _ => 0))) hx hb (hts _ (List.mem_cons_of_mem _ (ak_mem (k := 57) (by decide +kernel : ak_nth wd_tbl 57 = some (.arrayClass .int))))) rfl hK hP hD hS hA (fun _ => rfl) (by decide) (by decide) (by decide) (Nat.le_of_ble_eq_true rfl) (Nat.le_of_ble_eq_true rfl) d_S_init_35 (fun q4 c4 H hK hP hD hS => ?_)
  have hP : va_P D cl_all [(h0, .inr (2, [.int 0, .ref q1, .ref q2, .ref q3, .null, .null, .null, .null, .null])), (q1, .inl (c1, 251, .inl (fun _ => 0))), (q2, .inl (c2, 251, .inl (fun _ => 0))), (q3, .inl (c3, 251, .inr (.inl (fun _ => 0)))), (q4, .inl (c4, 251, .inl (fun _ => 0)))] H := hP
  have hD : va_D A [(h0, .inr (2, [.int 0, .ref q1, .ref q2, .ref q3, .null, .null, .null, .null, .null])), (q1, .inl (c1, 251, .inl (fun _ => 0))), (q2, .inl (c2, 251, .inl (fun _ => 0))), (q3, .inl (c3, 251, .inr (.inl (fun _ => 0)))), (q4, .inl (c4, 251, .inl (fun _ => 0)))] := hD
  have hK : va_K D cl_all [(c1, .int), (c2, .int), (c3, .long), (c4, .int)] s := hK
  refine W.widen (k := 4) (n := 1004) (Nat.le_of_ble_eq_true rfl) (Nat.le_of_ble_eq_true rfl) ?_
  refine va_putF (D := D) (ci := 2) (v := .ref q4) (ty := .array .int) (C := "LogicalPairs$Segments") (T := F_S) (N := 9) hx hb hts (fun w h => List.mem_cons_of_mem _ (in_S w h)) t_S tk_S nm_S hown hK hP hD hS 0 rfl rfl 4 (by decide) (hts _ (List.mem_cons_of_mem _ (ak_mem (k := 73) (by decide +kernel : ak_nth wd_tbl 73 = some (.fieldLink "LogicalPairs$Segments" 22 "LogicalPairs$Segments" "state" "[I"))))) (fun _ h9 => h9) rfl hin rfl (by decide +kernel) rfl rfl (Nat.le_of_ble_eq_true rfl) d_S_init_37 (fun H locs hP hD hS => ?_)
  have hP : va_P D cl_all [(h0, .inr (2, [.int 0, .ref q1, .ref q2, .ref q3, .ref q4, .null, .null, .null, .null])), (q1, .inl (c1, 251, .inl (fun _ => 0))), (q2, .inl (c2, 251, .inl (fun _ => 0))), (q3, .inl (c3, 251, .inr (.inl (fun _ => 0)))), (q4, .inl (c4, 251, .inl (fun _ => 0)))] H := hP
  have hD : va_D A [(h0, .inr (2, [.int 0, .ref q1, .ref q2, .ref q3, .ref q4, .null, .null, .null, .null])), (q1, .inl (c1, 251, .inl (fun _ => 0))), (q2, .inl (c2, 251, .inl (fun _ => 0))), (q3, .inl (c3, 251, .inr (.inl (fun _ => 0)))), (q4, .inl (c4, 251, .inl (fun _ => 0)))] := hD
  refine lv_aload_n hx hb d_S_init_40 rfl (lv_at hl 0 rfl) ?_
  refine lv_sipush (v := 251) hx hb d_S_init_41 (by decide) ?_
  refine va_newa (atype := .int) (ty := .int) (N' := 251) (a0 := (251, .inl (fun _ => 0))) hx hb (hts _ (List.mem_cons_of_mem _ (ak_mem (k := 57) (by decide +kernel : ak_nth wd_tbl 57 = some (.arrayClass .int))))) rfl hK hP hD hS hA (fun _ => rfl) (by decide) (by decide) (by decide) (Nat.le_of_ble_eq_true rfl) (Nat.le_of_ble_eq_true rfl) d_S_init_44 (fun q5 c5 H hK hP hD hS => ?_)
  have hP : va_P D cl_all [(h0, .inr (2, [.int 0, .ref q1, .ref q2, .ref q3, .ref q4, .null, .null, .null, .null])), (q1, .inl (c1, 251, .inl (fun _ => 0))), (q2, .inl (c2, 251, .inl (fun _ => 0))), (q3, .inl (c3, 251, .inr (.inl (fun _ => 0)))), (q4, .inl (c4, 251, .inl (fun _ => 0))), (q5, .inl (c5, 251, .inl (fun _ => 0)))] H := hP
  have hD : va_D A [(h0, .inr (2, [.int 0, .ref q1, .ref q2, .ref q3, .ref q4, .null, .null, .null, .null])), (q1, .inl (c1, 251, .inl (fun _ => 0))), (q2, .inl (c2, 251, .inl (fun _ => 0))), (q3, .inl (c3, 251, .inr (.inl (fun _ => 0)))), (q4, .inl (c4, 251, .inl (fun _ => 0))), (q5, .inl (c5, 251, .inl (fun _ => 0)))] := hD
  have hK : va_K D cl_all [(c1, .int), (c2, .int), (c3, .long), (c4, .int), (c5, .int)] s := hK
  refine W.widen (k := 5) (n := 1255) (Nat.le_of_ble_eq_true rfl) (Nat.le_of_ble_eq_true rfl) ?_
  refine va_putF (D := D) (ci := 2) (v := .ref q5) (ty := .array .int) (C := "LogicalPairs$Segments") (T := F_S) (N := 9) hx hb hts (fun w h => List.mem_cons_of_mem _ (in_S w h)) t_S tk_S nm_S hown hK hP hD hS 0 rfl rfl 5 (by decide) (hts _ (List.mem_cons_of_mem _ (ak_mem (k := 74) (by decide +kernel : ak_nth wd_tbl 74 = some (.fieldLink "LogicalPairs$Segments" 25 "LogicalPairs$Segments" "relatedTo" "[I"))))) (fun _ h9 => h9) rfl hin rfl (by decide +kernel) rfl rfl (Nat.le_of_ble_eq_true rfl) d_S_init_46 (fun H locs hP hD hS => ?_)
  have hP : va_P D cl_all [(h0, .inr (2, [.int 0, .ref q1, .ref q2, .ref q3, .ref q4, .ref q5, .null, .null, .null])), (q1, .inl (c1, 251, .inl (fun _ => 0))), (q2, .inl (c2, 251, .inl (fun _ => 0))), (q3, .inl (c3, 251, .inr (.inl (fun _ => 0)))), (q4, .inl (c4, 251, .inl (fun _ => 0))), (q5, .inl (c5, 251, .inl (fun _ => 0)))] H := hP
  have hD : va_D A [(h0, .inr (2, [.int 0, .ref q1, .ref q2, .ref q3, .ref q4, .ref q5, .null, .null, .null])), (q1, .inl (c1, 251, .inl (fun _ => 0))), (q2, .inl (c2, 251, .inl (fun _ => 0))), (q3, .inl (c3, 251, .inr (.inl (fun _ => 0)))), (q4, .inl (c4, 251, .inl (fun _ => 0))), (q5, .inl (c5, 251, .inl (fun _ => 0)))] := hD
  refine lv_aload_n hx hb d_S_init_49 rfl (lv_at hl 0 rfl) ?_
  refine lv_sipush (v := 251) hx hb d_S_init_50 (by decide) ?_
  refine va_newa (atype := .int) (ty := .int) (N' := 251) (a0 := (251, .inl (fun _ => 0))) hx hb (hts _ (List.mem_cons_of_mem _ (ak_mem (k := 57) (by decide +kernel : ak_nth wd_tbl 57 = some (.arrayClass .int))))) rfl hK hP hD hS hA (fun _ => rfl) (by decide) (by decide) (by decide) (Nat.le_of_ble_eq_true rfl) (Nat.le_of_ble_eq_true rfl) d_S_init_53 (fun q6 c6 H hK hP hD hS => ?_)
  have hP : va_P D cl_all [(h0, .inr (2, [.int 0, .ref q1, .ref q2, .ref q3, .ref q4, .ref q5, .null, .null, .null])), (q1, .inl (c1, 251, .inl (fun _ => 0))), (q2, .inl (c2, 251, .inl (fun _ => 0))), (q3, .inl (c3, 251, .inr (.inl (fun _ => 0)))), (q4, .inl (c4, 251, .inl (fun _ => 0))), (q5, .inl (c5, 251, .inl (fun _ => 0))), (q6, .inl (c6, 251, .inl (fun _ => 0)))] H := hP
  have hD : va_D A [(h0, .inr (2, [.int 0, .ref q1, .ref q2, .ref q3, .ref q4, .ref q5, .null, .null, .null])), (q1, .inl (c1, 251, .inl (fun _ => 0))), (q2, .inl (c2, 251, .inl (fun _ => 0))), (q3, .inl (c3, 251, .inr (.inl (fun _ => 0)))), (q4, .inl (c4, 251, .inl (fun _ => 0))), (q5, .inl (c5, 251, .inl (fun _ => 0))), (q6, .inl (c6, 251, .inl (fun _ => 0)))] := hD
  have hK : va_K D cl_all [(c1, .int), (c2, .int), (c3, .long), (c4, .int), (c5, .int), (c6, .int)] s := hK
  refine W.widen (k := 6) (n := 1506) (Nat.le_of_ble_eq_true rfl) (Nat.le_of_ble_eq_true rfl) ?_
  refine va_putF (D := D) (ci := 2) (v := .ref q6) (ty := .array .int) (C := "LogicalPairs$Segments") (T := F_S) (N := 9) hx hb hts (fun w h => List.mem_cons_of_mem _ (in_S w h)) t_S tk_S nm_S hown hK hP hD hS 0 rfl rfl 6 (by decide) (hts _ (List.mem_cons_of_mem _ (ak_mem (k := 77) (by decide +kernel : ak_nth wd_tbl 77 = some (.fieldLink "LogicalPairs$Segments" 28 "LogicalPairs$Segments" "counted" "[I"))))) (fun _ h9 => h9) rfl hin rfl (by decide +kernel) rfl rfl (Nat.le_of_ble_eq_true rfl) d_S_init_55 (fun H locs hP hD hS => ?_)
  have hP : va_P D cl_all [(h0, .inr (2, [.int 0, .ref q1, .ref q2, .ref q3, .ref q4, .ref q5, .ref q6, .null, .null])), (q1, .inl (c1, 251, .inl (fun _ => 0))), (q2, .inl (c2, 251, .inl (fun _ => 0))), (q3, .inl (c3, 251, .inr (.inl (fun _ => 0)))), (q4, .inl (c4, 251, .inl (fun _ => 0))), (q5, .inl (c5, 251, .inl (fun _ => 0))), (q6, .inl (c6, 251, .inl (fun _ => 0)))] H := hP
  have hD : va_D A [(h0, .inr (2, [.int 0, .ref q1, .ref q2, .ref q3, .ref q4, .ref q5, .ref q6, .null, .null])), (q1, .inl (c1, 251, .inl (fun _ => 0))), (q2, .inl (c2, 251, .inl (fun _ => 0))), (q3, .inl (c3, 251, .inr (.inl (fun _ => 0)))), (q4, .inl (c4, 251, .inl (fun _ => 0))), (q5, .inl (c5, 251, .inl (fun _ => 0))), (q6, .inl (c6, 251, .inl (fun _ => 0)))] := hD
  refine lv_aload_n hx hb d_S_init_58 rfl (lv_at hl 0 rfl) ?_
  refine lv_sipush (v := 753) hx hb d_S_init_59 (by decide) ?_
  refine va_newa (atype := .int) (ty := .int) (N' := 753) (a0 := (753, .inl (fun _ => 0))) hx hb (hts _ (List.mem_cons_of_mem _ (ak_mem (k := 57) (by decide +kernel : ak_nth wd_tbl 57 = some (.arrayClass .int))))) rfl hK hP hD hS hA (fun _ => rfl) (by decide) (by decide) (by decide) (Nat.le_of_ble_eq_true rfl) (Nat.le_of_ble_eq_true rfl) d_S_init_62 (fun q7 c7 H hK hP hD hS => ?_)
  have hP : va_P D cl_all [(h0, .inr (2, [.int 0, .ref q1, .ref q2, .ref q3, .ref q4, .ref q5, .ref q6, .null, .null])), (q1, .inl (c1, 251, .inl (fun _ => 0))), (q2, .inl (c2, 251, .inl (fun _ => 0))), (q3, .inl (c3, 251, .inr (.inl (fun _ => 0)))), (q4, .inl (c4, 251, .inl (fun _ => 0))), (q5, .inl (c5, 251, .inl (fun _ => 0))), (q6, .inl (c6, 251, .inl (fun _ => 0))), (q7, .inl (c7, 753, .inl (fun _ => 0)))] H := hP
  have hD : va_D A [(h0, .inr (2, [.int 0, .ref q1, .ref q2, .ref q3, .ref q4, .ref q5, .ref q6, .null, .null])), (q1, .inl (c1, 251, .inl (fun _ => 0))), (q2, .inl (c2, 251, .inl (fun _ => 0))), (q3, .inl (c3, 251, .inr (.inl (fun _ => 0)))), (q4, .inl (c4, 251, .inl (fun _ => 0))), (q5, .inl (c5, 251, .inl (fun _ => 0))), (q6, .inl (c6, 251, .inl (fun _ => 0))), (q7, .inl (c7, 753, .inl (fun _ => 0)))] := hD
  have hK : va_K D cl_all [(c1, .int), (c2, .int), (c3, .long), (c4, .int), (c5, .int), (c6, .int), (c7, .int)] s := hK
  refine W.widen (k := 7) (n := 2259) (Nat.le_of_ble_eq_true rfl) (Nat.le_of_ble_eq_true rfl) ?_
  refine va_putF (D := D) (ci := 2) (v := .ref q7) (ty := .array .int) (C := "LogicalPairs$Segments") (T := F_S) (N := 9) hx hb hts (fun w h => List.mem_cons_of_mem _ (in_S w h)) t_S tk_S nm_S hown hK hP hD hS 0 rfl rfl 7 (by decide) (hts _ (List.mem_cons_of_mem _ (ak_mem (k := 79) (by decide +kernel : ak_nth wd_tbl 79 = some (.fieldLink "LogicalPairs$Segments" 31 "LogicalPairs$Segments" "said" "[I"))))) (fun _ h9 => h9) rfl hin rfl (by decide +kernel) rfl rfl (Nat.le_of_ble_eq_true rfl) d_S_init_64 (fun H locs hP hD hS => ?_)
  have hP : va_P D cl_all [(h0, .inr (2, [.int 0, .ref q1, .ref q2, .ref q3, .ref q4, .ref q5, .ref q6, .ref q7, .null])), (q1, .inl (c1, 251, .inl (fun _ => 0))), (q2, .inl (c2, 251, .inl (fun _ => 0))), (q3, .inl (c3, 251, .inr (.inl (fun _ => 0)))), (q4, .inl (c4, 251, .inl (fun _ => 0))), (q5, .inl (c5, 251, .inl (fun _ => 0))), (q6, .inl (c6, 251, .inl (fun _ => 0))), (q7, .inl (c7, 753, .inl (fun _ => 0)))] H := hP
  have hD : va_D A [(h0, .inr (2, [.int 0, .ref q1, .ref q2, .ref q3, .ref q4, .ref q5, .ref q6, .ref q7, .null])), (q1, .inl (c1, 251, .inl (fun _ => 0))), (q2, .inl (c2, 251, .inl (fun _ => 0))), (q3, .inl (c3, 251, .inr (.inl (fun _ => 0)))), (q4, .inl (c4, 251, .inl (fun _ => 0))), (q5, .inl (c5, 251, .inl (fun _ => 0))), (q6, .inl (c6, 251, .inl (fun _ => 0))), (q7, .inl (c7, 753, .inl (fun _ => 0)))] := hD
  refine lv_aload_n hx hb d_S_init_67 rfl (lv_at hl 0 rfl) ?_
  refine lv_sipush (v := 250) hx hb d_S_init_68 (by decide) ?_
  refine va_newa (atype := .int) (ty := .int) (N' := 250) (a0 := (250, .inl (fun _ => 0))) hx hb (hts _ (List.mem_cons_of_mem _ (ak_mem (k := 57) (by decide +kernel : ak_nth wd_tbl 57 = some (.arrayClass .int))))) rfl hK hP hD hS hA (fun _ => rfl) (by decide) (by decide) (by decide) (Nat.le_of_ble_eq_true rfl) (Nat.le_of_ble_eq_true rfl) d_S_init_71 (fun q8 c8 H hK hP hD hS => ?_)
  have hP : va_P D cl_all [(h0, .inr (2, [.int 0, .ref q1, .ref q2, .ref q3, .ref q4, .ref q5, .ref q6, .ref q7, .null])), (q1, .inl (c1, 251, .inl (fun _ => 0))), (q2, .inl (c2, 251, .inl (fun _ => 0))), (q3, .inl (c3, 251, .inr (.inl (fun _ => 0)))), (q4, .inl (c4, 251, .inl (fun _ => 0))), (q5, .inl (c5, 251, .inl (fun _ => 0))), (q6, .inl (c6, 251, .inl (fun _ => 0))), (q7, .inl (c7, 753, .inl (fun _ => 0))), (q8, .inl (c8, 250, .inl (fun _ => 0)))] H := hP
  have hD : va_D A [(h0, .inr (2, [.int 0, .ref q1, .ref q2, .ref q3, .ref q4, .ref q5, .ref q6, .ref q7, .null])), (q1, .inl (c1, 251, .inl (fun _ => 0))), (q2, .inl (c2, 251, .inl (fun _ => 0))), (q3, .inl (c3, 251, .inr (.inl (fun _ => 0)))), (q4, .inl (c4, 251, .inl (fun _ => 0))), (q5, .inl (c5, 251, .inl (fun _ => 0))), (q6, .inl (c6, 251, .inl (fun _ => 0))), (q7, .inl (c7, 753, .inl (fun _ => 0))), (q8, .inl (c8, 250, .inl (fun _ => 0)))] := hD
  have hK : va_K D cl_all [(c1, .int), (c2, .int), (c3, .long), (c4, .int), (c5, .int), (c6, .int), (c7, .int), (c8, .int)] s := hK
  refine W.widen (k := 8) (n := 2509) (Nat.le_of_ble_eq_true rfl) (Nat.le_of_ble_eq_true rfl) ?_
  refine va_putF (D := D) (ci := 2) (v := .ref q8) (ty := .array .int) (C := "LogicalPairs$Segments") (T := F_S) (N := 9) hx hb hts (fun w h => List.mem_cons_of_mem _ (in_S w h)) t_S tk_S nm_S hown hK hP hD hS 0 rfl rfl 8 (by decide) (hts _ (List.mem_cons_of_mem _ (ak_mem (k := 80) (by decide +kernel : ak_nth wd_tbl 80 = some (.fieldLink "LogicalPairs$Segments" 34 "LogicalPairs$Segments" "byKey" "[I"))))) (fun _ h9 => h9) rfl hin rfl (by decide +kernel) rfl rfl (Nat.le_of_ble_eq_true rfl) d_S_init_73 (fun H locs hP hD hS => ?_)
  have hP : va_P D cl_all [(h0, .inr (2, [.int 0, .ref q1, .ref q2, .ref q3, .ref q4, .ref q5, .ref q6, .ref q7, .ref q8])), (q1, .inl (c1, 251, .inl (fun _ => 0))), (q2, .inl (c2, 251, .inl (fun _ => 0))), (q3, .inl (c3, 251, .inr (.inl (fun _ => 0)))), (q4, .inl (c4, 251, .inl (fun _ => 0))), (q5, .inl (c5, 251, .inl (fun _ => 0))), (q6, .inl (c6, 251, .inl (fun _ => 0))), (q7, .inl (c7, 753, .inl (fun _ => 0))), (q8, .inl (c8, 250, .inl (fun _ => 0)))] H := hP
  have hD : va_D A [(h0, .inr (2, [.int 0, .ref q1, .ref q2, .ref q3, .ref q4, .ref q5, .ref q6, .ref q7, .ref q8])), (q1, .inl (c1, 251, .inl (fun _ => 0))), (q2, .inl (c2, 251, .inl (fun _ => 0))), (q3, .inl (c3, 251, .inr (.inl (fun _ => 0)))), (q4, .inl (c4, 251, .inl (fun _ => 0))), (q5, .inl (c5, 251, .inl (fun _ => 0))), (q6, .inl (c6, 251, .inl (fun _ => 0))), (q7, .inl (c7, 753, .inl (fun _ => 0))), (q8, .inl (c8, 250, .inl (fun _ => 0)))] := hD
  exact W.vret hx hb hr (fun t ht hW => ⟨⟨(fun k => match k with | 1 => q1 | 2 => q2 | 3 => q3 | 4 => q4 | 5 => q5 | 6 => q6 | 7 => q7 | _ => q8, fun k => match k with | 1 => c1 | 2 => c2 | 3 => c3 | 4 => c4 | 5 => c5 | 6 => c6 | 7 => c7 | _ => c8), rfl, trivial, by rw [ht]; exact hP, va_K.moved hW.alike hK, hD⟩, hS.F ht⟩) hS.2.2 d_S_init_76
end
section
/-! constructors, laid by program (wip/whole/gen2.py) -/
theorem d_M_init_0 : decode prog_7_method_1_code 0 = .ok (.aload_n 0, 1) := by decide +kernel
theorem d_M_init_1 : decode prog_7_method_1_code 1 = .ok (.invokespecial 1, 3) := by decide +kernel
theorem d_M_init_4 : decode prog_7_method_1_code 4 = .ok (.aload_n 0, 1) := by decide +kernel
theorem d_M_init_5 : decode prog_7_method_1_code 5 = .ok (.bipush 16, 2) := by decide +kernel
theorem d_M_init_7 : decode prog_7_method_1_code 7 = .ok (.newarray .int, 2) := by decide +kernel
theorem d_M_init_9 : decode prog_7_method_1_code 9 = .ok (.putfield 7, 3) := by decide +kernel
theorem d_M_init_12 : decode prog_7_method_1_code 12 = .ok (.aload_n 0, 1) := by decide +kernel
theorem d_M_init_13 : decode prog_7_method_1_code 13 = .ok (.bipush 16, 2) := by decide +kernel
theorem d_M_init_15 : decode prog_7_method_1_code 15 = .ok (.newarray .int, 2) := by decide +kernel
theorem d_M_init_17 : decode prog_7_method_1_code 17 = .ok (.putfield 13, 3) := by decide +kernel
theorem d_M_init_20 : decode prog_7_method_1_code 20 = .ok (.aload_n 0, 1) := by decide +kernel
theorem d_M_init_21 : decode prog_7_method_1_code 21 = .ok (.bipush 16, 2) := by decide +kernel
theorem d_M_init_23 : decode prog_7_method_1_code 23 = .ok (.newarray .int, 2) := by decide +kernel
theorem d_M_init_25 : decode prog_7_method_1_code 25 = .ok (.putfield 16, 3) := by decide +kernel
theorem d_M_init_28 : decode prog_7_method_1_code 28 = .ok (.aload_n 0, 1) := by decide +kernel
theorem d_M_init_29 : decode prog_7_method_1_code 29 = .ok (.sipush 251, 3) := by decide +kernel
theorem d_M_init_32 : decode prog_7_method_1_code 32 = .ok (.newarray .int, 2) := by decide +kernel
theorem d_M_init_34 : decode prog_7_method_1_code 34 = .ok (.putfield 19, 3) := by decide +kernel
theorem d_M_init_37 : decode prog_7_method_1_code 37 = .ok (.aload_n 0, 1) := by decide +kernel
theorem d_M_init_38 : decode prog_7_method_1_code 38 = .ok (.sipush 251, 3) := by decide +kernel
theorem d_M_init_41 : decode prog_7_method_1_code 41 = .ok (.newarray .int, 2) := by decide +kernel
theorem d_M_init_43 : decode prog_7_method_1_code 43 = .ok (.putfield 22, 3) := by decide +kernel
theorem d_M_init_46 : decode prog_7_method_1_code 46 = .ok (.aload_n 0, 1) := by decide +kernel
theorem d_M_init_47 : decode prog_7_method_1_code 47 = .ok (.sipush 251, 3) := by decide +kernel
theorem d_M_init_50 : decode prog_7_method_1_code 50 = .ok (.newarray .int, 2) := by decide +kernel
theorem d_M_init_52 : decode prog_7_method_1_code 52 = .ok (.putfield 25, 3) := by decide +kernel
theorem d_M_init_55 : decode prog_7_method_1_code 55 = .ok (.aload_n 0, 1) := by decide +kernel
theorem d_M_init_56 : decode prog_7_method_1_code 56 = .ok (.sipush 251, 3) := by decide +kernel
theorem d_M_init_59 : decode prog_7_method_1_code 59 = .ok (.newarray .int, 2) := by decide +kernel
theorem d_M_init_61 : decode prog_7_method_1_code 61 = .ok (.putfield 28, 3) := by decide +kernel
theorem d_M_init_64 : decode prog_7_method_1_code 64 = .ok (.aload_n 0, 1) := by decide +kernel
theorem d_M_init_65 : decode prog_7_method_1_code 65 = .ok (.sipush 753, 3) := by decide +kernel
theorem d_M_init_68 : decode prog_7_method_1_code 68 = .ok (.newarray .int, 2) := by decide +kernel
theorem d_M_init_70 : decode prog_7_method_1_code 70 = .ok (.putfield 31, 3) := by decide +kernel
theorem d_M_init_73 : decode prog_7_method_1_code 73 = .ok (.aload_n 0, 1) := by decide +kernel
theorem d_M_init_74 : decode prog_7_method_1_code 74 = .ok (.sipush 251, 3) := by decide +kernel
theorem d_M_init_77 : decode prog_7_method_1_code 77 = .ok (.newarray .long, 2) := by decide +kernel
theorem d_M_init_79 : decode prog_7_method_1_code 79 = .ok (.putfield 34, 3) := by decide +kernel
theorem d_M_init_82 : decode prog_7_method_1_code 82 = .ok (.aload_n 0, 1) := by decide +kernel
theorem d_M_init_83 : decode prog_7_method_1_code 83 = .ok (.sipush 251, 3) := by decide +kernel
theorem d_M_init_86 : decode prog_7_method_1_code 86 = .ok (.newarray .boolean, 2) := by decide +kernel
theorem d_M_init_88 : decode prog_7_method_1_code 88 = .ok (.putfield 38, 3) := by decide +kernel
theorem d_M_init_91 : decode prog_7_method_1_code 91 = .ok (.aload_n 0, 1) := by decide +kernel
theorem d_M_init_92 : decode prog_7_method_1_code 92 = .ok (.sipush 251, 3) := by decide +kernel
theorem d_M_init_95 : decode prog_7_method_1_code 95 = .ok (.newarray .boolean, 2) := by decide +kernel
theorem d_M_init_97 : decode prog_7_method_1_code 97 = .ok (.putfield 42, 3) := by decide +kernel
theorem d_M_init_100 : decode prog_7_method_1_code 100 = .ok (.aload_n 0, 1) := by decide +kernel
theorem d_M_init_101 : decode prog_7_method_1_code 101 = .ok (.bipush 11, 2) := by decide +kernel
theorem d_M_init_103 : decode prog_7_method_1_code 103 = .ok (.newarray .int, 2) := by decide +kernel
theorem d_M_init_105 : decode prog_7_method_1_code 105 = .ok (.putfield 45, 3) := by decide +kernel
theorem d_M_init_108 : decode prog_7_method_1_code 108 = .ok (.aload_n 0, 1) := by decide +kernel
theorem d_M_init_109 : decode prog_7_method_1_code 109 = .ok (.bipush 11, 2) := by decide +kernel
theorem d_M_init_111 : decode prog_7_method_1_code 111 = .ok (.newarray .boolean, 2) := by decide +kernel
theorem d_M_init_113 : decode prog_7_method_1_code 113 = .ok (.putfield 48, 3) := by decide +kernel
theorem d_M_init_116 : decode prog_7_method_1_code 116 = .ok (.return_, 1) := by decide +kernel
def ws_M_init : List Cond := .code y_M_init prog_7_method_1_code 1 none :: wd_tbl
def rm_M_init : Room := { frames := 1, cells := 13, slots := 2580, locals := 12 }
def w0_M (h0 : Nat) : va_W := [(h0, .inr (5, [.int 0, .int 0, .int 0, .int 0, .null, .null, .null, .null, .null, .null, .null, .null, .null, .null, .null, .null, .null]))]
def w1_M (h0 : Nat) (u : co_U) : va_W := [(h0, .inr (5, [.int 0, .int 0, .int 0, .int 0, .ref (u.1 1), .ref (u.1 2), .ref (u.1 3), .ref (u.1 4), .ref (u.1 5), .ref (u.1 6), .ref (u.1 7), .ref (u.1 8), .ref (u.1 9), .ref (u.1 10), .ref (u.1 11), .ref (u.1 12), .ref (u.1 13)])), (u.1 1, .inl (u.2 1, 16, .inl (fun _ => 0))), (u.1 2, .inl (u.2 2, 16, .inl (fun _ => 0))), (u.1 3, .inl (u.2 3, 16, .inl (fun _ => 0))), (u.1 4, .inl (u.2 4, 251, .inl (fun _ => 0))), (u.1 5, .inl (u.2 5, 251, .inl (fun _ => 0))), (u.1 6, .inl (u.2 6, 251, .inl (fun _ => 0))), (u.1 7, .inl (u.2 7, 251, .inl (fun _ => 0))), (u.1 8, .inl (u.2 8, 753, .inl (fun _ => 0))), (u.1 9, .inl (u.2 9, 251, .inr (.inl (fun _ => 0)))), (u.1 10, .inl (u.2 10, 251, .inl (fun _ => 0))), (u.1 11, .inl (u.2 11, 251, .inl (fun _ => 0))), (u.1 12, .inl (u.2 12, 11, .inl (fun _ => 0))), (u.1 13, .inl (u.2 13, 11, .inl (fun _ => 0)))]
def ty_M (u : co_U) : List (ClassId × FieldType) := [(u.2 1, .int), (u.2 2, .int), (u.2 3, .int), (u.2 4, .int), (u.2 5, .int), (u.2 6, .int), (u.2 7, .int), (u.2 8, .int), (u.2 9, .long), (u.2 10, .boolean), (u.2 11, .boolean), (u.2 12, .int), (u.2 13, .boolean)]
def pc_M (D : va_G) (h0 sz : Nat) : State → Prop := fun U => U.heap.size = sz ∧ va_P D cl_all (w0_M h0) U.heap ∧ va_K D cl_all [] U ∧ va_D (fun _ => True) (w0_M h0)
def pq_M (D : va_G) (h0 sz : Nat) (u : co_U) : State → Prop := fun U => va_P D cl_all (w1_M h0 u) U.heap ∧ va_K D cl_all (ty_M u) U ∧ va_D (va_A (w0_M h0) sz) (w1_M h0 u)
set_option maxHeartbeats 4000000 in
set_option maxRecDepth 100000 in
theorem c_M_init (l : Launch) (D : va_G) (h0 sz : Nat) : Met l y_M_init ws_M_init rm_M_init (va_Pc [.ref h0] (pc_M D h0 sz)) (va_Qv (fun _ : co_U => True) (pq_M D h0 sz) (va_A (w0_M h0) sz)) 13 2580 (va_A (w0_M h0) sz) := by
  refine Met.ofW (cc := prog_7_method_1_code) (maxL := 1) (ret := none) (by decide) rfl ?_
  intro p e s m args below meth c s₁ B hml hv
  obtain ⟨rfl, hsz, hP, hK, hD0⟩ := hv
  have hx := B.exec
  have hb := B.bytes
  have hr := B.returns
  have hts := atoms_spec (ws := ws_M_init) B.pre
  have hown : s.vm.findClass "LogicalPairsModel" = some m.cls := findClass_of_methodNamed B.named
  have hlocks := B.notSynchronized
  have hin : meth.name = "<init>" := (name_of_methodNamed B.named B.method).1
  subst hsz
  have hD := hD0.self (sz := s.heap.size)
  generalize hAe : va_A (w0_M h0) s.heap.size = A at hD ⊢
  have hA : ∀ q : Nat, s.heap.size ≤ q → A q := fun q h => by rw [← hAe]; exact Or.inr h
  have hS : va_S A s.heap s.heap [] := va_S.rf
  have hl := lv_entry ([.ref h0]) (n := 1) (Nat.le_of_ble_eq_true rfl)
  rw [lg_entry_eq]
  generalize (lg_sl ([.ref h0]) ++ List.replicate (1 - (lg_sl ([.ref h0])).length) Slot.unset).toArray = ls at hl ⊢
  have hl : lv_has ls 1 [(0, .ref h0)] := hl
  refine lv_aload_n hx hb d_M_init_0 rfl (lv_at hl 0 rfl) ?_
  refine W.objInit hx hb hown (hts _ (List.mem_cons_of_mem _ (ak_mem (k := 337) (by decide +kernel : ak_nth wd_tbl 337 = some (.methodLink "LogicalPairsModel" 1 objectInit))))) (hts _ (List.mem_cons_of_mem _ (ak_mem (k := 32) (by decide +kernel : ak_nth wd_tbl 32 = some (.instanceMethod objectInit))))) (hts _ (List.mem_cons_of_mem _ (ak_mem (k := 33) (by decide +kernel : ak_nth wd_tbl 33 = some (.code objectInit object_method_1_code 1 none))))) rfl (by rw [hml]; exact hl.1) rfl d_M_init_1 (Nat.le_of_ble_eq_true rfl) (Nat.le_of_ble_eq_true rfl) ?_
  refine W.eq (g2 := F0 m 4 ls []) rfl ?_
  unfold pq_M
  rw [hAe]
  have hP : va_P D cl_all [(h0, .inr (5, [.int 0, .int 0, .int 0, .int 0, .null, .null, .null, .null, .null, .null, .null, .null, .null, .null, .null, .null, .null]))] s.heap := hP
  have hD : va_D A [(h0, .inr (5, [.int 0, .int 0, .int 0, .int 0, .null, .null, .null, .null, .null, .null, .null, .null, .null, .null, .null, .null, .null]))] := hD
  refine lv_aload_n hx hb d_M_init_4 rfl (lv_at hl 0 rfl) ?_
  refine lv_bipush (v := 16) hx hb d_M_init_5 (by decide) ?_
  refine va_newa (atype := .int) (ty := .int) (N' := 16) (a0 := (16, .inl (fun _ => 0))) hx hb (hts _ (List.mem_cons_of_mem _ (ak_mem (k := 57) (by decide +kernel : ak_nth wd_tbl 57 = some (.arrayClass .int))))) rfl hK hP hD hS hA (fun _ => rfl) (by decide) (by decide) (by decide) (Nat.le_of_ble_eq_true rfl) (Nat.le_of_ble_eq_true rfl) d_M_init_7 (fun q1 c1 H hK hP hD hS => ?_)
  have hP : va_P D cl_all [(h0, .inr (5, [.int 0, .int 0, .int 0, .int 0, .null, .null, .null, .null, .null, .null, .null, .null, .null, .null, .null, .null, .null])), (q1, .inl (c1, 16, .inl (fun _ => 0)))] H := hP
  have hD : va_D A [(h0, .inr (5, [.int 0, .int 0, .int 0, .int 0, .null, .null, .null, .null, .null, .null, .null, .null, .null, .null, .null, .null, .null])), (q1, .inl (c1, 16, .inl (fun _ => 0)))] := hD
  have hK : va_K D cl_all [(c1, .int)] s := hK
  refine W.widen (k := 1) (n := 16) (Nat.le_of_ble_eq_true rfl) (Nat.le_of_ble_eq_true rfl) ?_
  refine va_putF (D := D) (ci := 5) (v := .ref q1) (ty := .array .int) (C := "LogicalPairsModel") (T := F_M) (N := 17) hx hb hts (fun w h => List.mem_cons_of_mem _ (in_M w h)) t_M tk_M nm_M hown hK hP hD hS 0 rfl rfl 4 (by decide) (hts _ (List.mem_cons_of_mem _ (ak_mem (k := 342) (by decide +kernel : ak_nth wd_tbl 342 = some (.fieldLink "LogicalPairsModel" 7 "LogicalPairsModel" "aboves" "[I"))))) (fun _ h9 => h9) rfl hin rfl (by decide +kernel) rfl rfl (Nat.le_of_ble_eq_true rfl) d_M_init_9 (fun H locs hP hD hS => ?_)
  have hP : va_P D cl_all [(h0, .inr (5, [.int 0, .int 0, .int 0, .int 0, .ref q1, .null, .null, .null, .null, .null, .null, .null, .null, .null, .null, .null, .null])), (q1, .inl (c1, 16, .inl (fun _ => 0)))] H := hP
  have hD : va_D A [(h0, .inr (5, [.int 0, .int 0, .int 0, .int 0, .ref q1, .null, .null, .null, .null, .null, .null, .null, .null, .null, .null, .null, .null])), (q1, .inl (c1, 16, .inl (fun _ => 0)))] := hD
  refine lv_aload_n hx hb d_M_init_12 rfl (lv_at hl 0 rfl) ?_
  refine lv_bipush (v := 16) hx hb d_M_init_13 (by decide) ?_
  refine va_newa (atype := .int) (ty := .int) (N' := 16) (a0 := (16, .inl (fun _ => 0))) hx hb (hts _ (List.mem_cons_of_mem _ (ak_mem (k := 57) (by decide +kernel : ak_nth wd_tbl 57 = some (.arrayClass .int))))) rfl hK hP hD hS hA (fun _ => rfl) (by decide) (by decide) (by decide) (Nat.le_of_ble_eq_true rfl) (Nat.le_of_ble_eq_true rfl) d_M_init_15 (fun q2 c2 H hK hP hD hS => ?_)
  have hP : va_P D cl_all [(h0, .inr (5, [.int 0, .int 0, .int 0, .int 0, .ref q1, .null, .null, .null, .null, .null, .null, .null, .null, .null, .null, .null, .null])), (q1, .inl (c1, 16, .inl (fun _ => 0))), (q2, .inl (c2, 16, .inl (fun _ => 0)))] H := hP
  have hD : va_D A [(h0, .inr (5, [.int 0, .int 0, .int 0, .int 0, .ref q1, .null, .null, .null, .null, .null, .null, .null, .null, .null, .null, .null, .null])), (q1, .inl (c1, 16, .inl (fun _ => 0))), (q2, .inl (c2, 16, .inl (fun _ => 0)))] := hD
  have hK : va_K D cl_all [(c1, .int), (c2, .int)] s := hK
  refine W.widen (k := 2) (n := 32) (Nat.le_of_ble_eq_true rfl) (Nat.le_of_ble_eq_true rfl) ?_
  refine va_putF (D := D) (ci := 5) (v := .ref q2) (ty := .array .int) (C := "LogicalPairsModel") (T := F_M) (N := 17) hx hb hts (fun w h => List.mem_cons_of_mem _ (in_M w h)) t_M tk_M nm_M hown hK hP hD hS 0 rfl rfl 5 (by decide) (hts _ (List.mem_cons_of_mem _ (ak_mem (k := 343) (by decide +kernel : ak_nth wd_tbl 343 = some (.fieldLink "LogicalPairsModel" 13 "LogicalPairsModel" "parents" "[I"))))) (fun _ h9 => h9) rfl hin rfl (by decide +kernel) rfl rfl (Nat.le_of_ble_eq_true rfl) d_M_init_17 (fun H locs hP hD hS => ?_)
  have hP : va_P D cl_all [(h0, .inr (5, [.int 0, .int 0, .int 0, .int 0, .ref q1, .ref q2, .null, .null, .null, .null, .null, .null, .null, .null, .null, .null, .null])), (q1, .inl (c1, 16, .inl (fun _ => 0))), (q2, .inl (c2, 16, .inl (fun _ => 0)))] H := hP
  have hD : va_D A [(h0, .inr (5, [.int 0, .int 0, .int 0, .int 0, .ref q1, .ref q2, .null, .null, .null, .null, .null, .null, .null, .null, .null, .null, .null])), (q1, .inl (c1, 16, .inl (fun _ => 0))), (q2, .inl (c2, 16, .inl (fun _ => 0)))] := hD
  refine lv_aload_n hx hb d_M_init_20 rfl (lv_at hl 0 rfl) ?_
  refine lv_bipush (v := 16) hx hb d_M_init_21 (by decide) ?_
  refine va_newa (atype := .int) (ty := .int) (N' := 16) (a0 := (16, .inl (fun _ => 0))) hx hb (hts _ (List.mem_cons_of_mem _ (ak_mem (k := 57) (by decide +kernel : ak_nth wd_tbl 57 = some (.arrayClass .int))))) rfl hK hP hD hS hA (fun _ => rfl) (by decide) (by decide) (by decide) (Nat.le_of_ble_eq_true rfl) (Nat.le_of_ble_eq_true rfl) d_M_init_23 (fun q3 c3 H hK hP hD hS => ?_)
  have hP : va_P D cl_all [(h0, .inr (5, [.int 0, .int 0, .int 0, .int 0, .ref q1, .ref q2, .null, .null, .null, .null, .null, .null, .null, .null, .null, .null, .null])), (q1, .inl (c1, 16, .inl (fun _ => 0))), (q2, .inl (c2, 16, .inl (fun _ => 0))), (q3, .inl (c3, 16, .inl (fun _ => 0)))] H := hP
  have hD : va_D A [(h0, .inr (5, [.int 0, .int 0, .int 0, .int 0, .ref q1, .ref q2, .null, .null, .null, .null, .null, .null, .null, .null, .null, .null, .null])), (q1, .inl (c1, 16, .inl (fun _ => 0))), (q2, .inl (c2, 16, .inl (fun _ => 0))), (q3, .inl (c3, 16, .inl (fun _ => 0)))] := hD
  have hK : va_K D cl_all [(c1, .int), (c2, .int), (c3, .int)] s := hK
  refine W.widen (k := 3) (n := 48) (Nat.le_of_ble_eq_true rfl) (Nat.le_of_ble_eq_true rfl) ?_
  refine va_putF (D := D) (ci := 5) (v := .ref q3) (ty := .array .int) (C := "LogicalPairsModel") (T := F_M) (N := 17) hx hb hts (fun w h => List.mem_cons_of_mem _ (in_M w h)) t_M tk_M nm_M hown hK hP hD hS 0 rfl rfl 6 (by decide) (hts _ (List.mem_cons_of_mem _ (ak_mem (k := 344) (by decide +kernel : ak_nth wd_tbl 344 = some (.fieldLink "LogicalPairsModel" 16 "LogicalPairsModel" "rules" "[I"))))) (fun _ h9 => h9) rfl hin rfl (by decide +kernel) rfl rfl (Nat.le_of_ble_eq_true rfl) d_M_init_25 (fun H locs hP hD hS => ?_)
  have hP : va_P D cl_all [(h0, .inr (5, [.int 0, .int 0, .int 0, .int 0, .ref q1, .ref q2, .ref q3, .null, .null, .null, .null, .null, .null, .null, .null, .null, .null])), (q1, .inl (c1, 16, .inl (fun _ => 0))), (q2, .inl (c2, 16, .inl (fun _ => 0))), (q3, .inl (c3, 16, .inl (fun _ => 0)))] H := hP
  have hD : va_D A [(h0, .inr (5, [.int 0, .int 0, .int 0, .int 0, .ref q1, .ref q2, .ref q3, .null, .null, .null, .null, .null, .null, .null, .null, .null, .null])), (q1, .inl (c1, 16, .inl (fun _ => 0))), (q2, .inl (c2, 16, .inl (fun _ => 0))), (q3, .inl (c3, 16, .inl (fun _ => 0)))] := hD
  refine lv_aload_n hx hb d_M_init_28 rfl (lv_at hl 0 rfl) ?_
  refine lv_sipush (v := 251) hx hb d_M_init_29 (by decide) ?_
  refine va_newa (atype := .int) (ty := .int) (N' := 251) (a0 := (251, .inl (fun _ => 0))) hx hb (hts _ (List.mem_cons_of_mem _ (ak_mem (k := 57) (by decide +kernel : ak_nth wd_tbl 57 = some (.arrayClass .int))))) rfl hK hP hD hS hA (fun _ => rfl) (by decide) (by decide) (by decide) (Nat.le_of_ble_eq_true rfl) (Nat.le_of_ble_eq_true rfl) d_M_init_32 (fun q4 c4 H hK hP hD hS => ?_)
  have hP : va_P D cl_all [(h0, .inr (5, [.int 0, .int 0, .int 0, .int 0, .ref q1, .ref q2, .ref q3, .null, .null, .null, .null, .null, .null, .null, .null, .null, .null])), (q1, .inl (c1, 16, .inl (fun _ => 0))), (q2, .inl (c2, 16, .inl (fun _ => 0))), (q3, .inl (c3, 16, .inl (fun _ => 0))), (q4, .inl (c4, 251, .inl (fun _ => 0)))] H := hP
  have hD : va_D A [(h0, .inr (5, [.int 0, .int 0, .int 0, .int 0, .ref q1, .ref q2, .ref q3, .null, .null, .null, .null, .null, .null, .null, .null, .null, .null])), (q1, .inl (c1, 16, .inl (fun _ => 0))), (q2, .inl (c2, 16, .inl (fun _ => 0))), (q3, .inl (c3, 16, .inl (fun _ => 0))), (q4, .inl (c4, 251, .inl (fun _ => 0)))] := hD
  have hK : va_K D cl_all [(c1, .int), (c2, .int), (c3, .int), (c4, .int)] s := hK
  refine W.widen (k := 4) (n := 299) (Nat.le_of_ble_eq_true rfl) (Nat.le_of_ble_eq_true rfl) ?_
  refine va_putF (D := D) (ci := 5) (v := .ref q4) (ty := .array .int) (C := "LogicalPairsModel") (T := F_M) (N := 17) hx hb hts (fun w h => List.mem_cons_of_mem _ (in_M w h)) t_M tk_M nm_M hown hK hP hD hS 0 rfl rfl 7 (by decide) (hts _ (List.mem_cons_of_mem _ (ak_mem (k := 345) (by decide +kernel : ak_nth wd_tbl 345 = some (.fieldLink "LogicalPairsModel" 19 "LogicalPairsModel" "of" "[I"))))) (fun _ h9 => h9) rfl hin rfl (by decide +kernel) rfl rfl (Nat.le_of_ble_eq_true rfl) d_M_init_34 (fun H locs hP hD hS => ?_)
  have hP : va_P D cl_all [(h0, .inr (5, [.int 0, .int 0, .int 0, .int 0, .ref q1, .ref q2, .ref q3, .ref q4, .null, .null, .null, .null, .null, .null, .null, .null, .null])), (q1, .inl (c1, 16, .inl (fun _ => 0))), (q2, .inl (c2, 16, .inl (fun _ => 0))), (q3, .inl (c3, 16, .inl (fun _ => 0))), (q4, .inl (c4, 251, .inl (fun _ => 0)))] H := hP
  have hD : va_D A [(h0, .inr (5, [.int 0, .int 0, .int 0, .int 0, .ref q1, .ref q2, .ref q3, .ref q4, .null, .null, .null, .null, .null, .null, .null, .null, .null])), (q1, .inl (c1, 16, .inl (fun _ => 0))), (q2, .inl (c2, 16, .inl (fun _ => 0))), (q3, .inl (c3, 16, .inl (fun _ => 0))), (q4, .inl (c4, 251, .inl (fun _ => 0)))] := hD
  refine lv_aload_n hx hb d_M_init_37 rfl (lv_at hl 0 rfl) ?_
  refine lv_sipush (v := 251) hx hb d_M_init_38 (by decide) ?_
  refine va_newa (atype := .int) (ty := .int) (N' := 251) (a0 := (251, .inl (fun _ => 0))) hx hb (hts _ (List.mem_cons_of_mem _ (ak_mem (k := 57) (by decide +kernel : ak_nth wd_tbl 57 = some (.arrayClass .int))))) rfl hK hP hD hS hA (fun _ => rfl) (by decide) (by decide) (by decide) (Nat.le_of_ble_eq_true rfl) (Nat.le_of_ble_eq_true rfl) d_M_init_41 (fun q5 c5 H hK hP hD hS => ?_)
  have hP : va_P D cl_all [(h0, .inr (5, [.int 0, .int 0, .int 0, .int 0, .ref q1, .ref q2, .ref q3, .ref q4, .null, .null, .null, .null, .null, .null, .null, .null, .null])), (q1, .inl (c1, 16, .inl (fun _ => 0))), (q2, .inl (c2, 16, .inl (fun _ => 0))), (q3, .inl (c3, 16, .inl (fun _ => 0))), (q4, .inl (c4, 251, .inl (fun _ => 0))), (q5, .inl (c5, 251, .inl (fun _ => 0)))] H := hP
  have hD : va_D A [(h0, .inr (5, [.int 0, .int 0, .int 0, .int 0, .ref q1, .ref q2, .ref q3, .ref q4, .null, .null, .null, .null, .null, .null, .null, .null, .null])), (q1, .inl (c1, 16, .inl (fun _ => 0))), (q2, .inl (c2, 16, .inl (fun _ => 0))), (q3, .inl (c3, 16, .inl (fun _ => 0))), (q4, .inl (c4, 251, .inl (fun _ => 0))), (q5, .inl (c5, 251, .inl (fun _ => 0)))] := hD
  have hK : va_K D cl_all [(c1, .int), (c2, .int), (c3, .int), (c4, .int), (c5, .int)] s := hK
  refine W.widen (k := 5) (n := 550) (Nat.le_of_ble_eq_true rfl) (Nat.le_of_ble_eq_true rfl) ?_
  refine va_putF (D := D) (ci := 5) (v := .ref q5) (ty := .array .int) (C := "LogicalPairsModel") (T := F_M) (N := 17) hx hb hts (fun w h => List.mem_cons_of_mem _ (in_M w h)) t_M tk_M nm_M hown hK hP hD hS 0 rfl rfl 8 (by decide) (hts _ (List.mem_cons_of_mem _ (ak_mem (k := 346) (by decide +kernel : ak_nth wd_tbl 346 = some (.fieldLink "LogicalPairsModel" 22 "LogicalPairsModel" "unders" "[I"))))) (fun _ h9 => h9) rfl hin rfl (by decide +kernel) rfl rfl (Nat.le_of_ble_eq_true rfl) d_M_init_43 (fun H locs hP hD hS => ?_)
  have hP : va_P D cl_all [(h0, .inr (5, [.int 0, .int 0, .int 0, .int 0, .ref q1, .ref q2, .ref q3, .ref q4, .ref q5, .null, .null, .null, .null, .null, .null, .null, .null])), (q1, .inl (c1, 16, .inl (fun _ => 0))), (q2, .inl (c2, 16, .inl (fun _ => 0))), (q3, .inl (c3, 16, .inl (fun _ => 0))), (q4, .inl (c4, 251, .inl (fun _ => 0))), (q5, .inl (c5, 251, .inl (fun _ => 0)))] H := hP
  have hD : va_D A [(h0, .inr (5, [.int 0, .int 0, .int 0, .int 0, .ref q1, .ref q2, .ref q3, .ref q4, .ref q5, .null, .null, .null, .null, .null, .null, .null, .null])), (q1, .inl (c1, 16, .inl (fun _ => 0))), (q2, .inl (c2, 16, .inl (fun _ => 0))), (q3, .inl (c3, 16, .inl (fun _ => 0))), (q4, .inl (c4, 251, .inl (fun _ => 0))), (q5, .inl (c5, 251, .inl (fun _ => 0)))] := hD
  refine lv_aload_n hx hb d_M_init_46 rfl (lv_at hl 0 rfl) ?_
  refine lv_sipush (v := 251) hx hb d_M_init_47 (by decide) ?_
  refine va_newa (atype := .int) (ty := .int) (N' := 251) (a0 := (251, .inl (fun _ => 0))) hx hb (hts _ (List.mem_cons_of_mem _ (ak_mem (k := 57) (by decide +kernel : ak_nth wd_tbl 57 = some (.arrayClass .int))))) rfl hK hP hD hS hA (fun _ => rfl) (by decide) (by decide) (by decide) (Nat.le_of_ble_eq_true rfl) (Nat.le_of_ble_eq_true rfl) d_M_init_50 (fun q6 c6 H hK hP hD hS => ?_)
  have hP : va_P D cl_all [(h0, .inr (5, [.int 0, .int 0, .int 0, .int 0, .ref q1, .ref q2, .ref q3, .ref q4, .ref q5, .null, .null, .null, .null, .null, .null, .null, .null])), (q1, .inl (c1, 16, .inl (fun _ => 0))), (q2, .inl (c2, 16, .inl (fun _ => 0))), (q3, .inl (c3, 16, .inl (fun _ => 0))), (q4, .inl (c4, 251, .inl (fun _ => 0))), (q5, .inl (c5, 251, .inl (fun _ => 0))), (q6, .inl (c6, 251, .inl (fun _ => 0)))] H := hP
  have hD : va_D A [(h0, .inr (5, [.int 0, .int 0, .int 0, .int 0, .ref q1, .ref q2, .ref q3, .ref q4, .ref q5, .null, .null, .null, .null, .null, .null, .null, .null])), (q1, .inl (c1, 16, .inl (fun _ => 0))), (q2, .inl (c2, 16, .inl (fun _ => 0))), (q3, .inl (c3, 16, .inl (fun _ => 0))), (q4, .inl (c4, 251, .inl (fun _ => 0))), (q5, .inl (c5, 251, .inl (fun _ => 0))), (q6, .inl (c6, 251, .inl (fun _ => 0)))] := hD
  have hK : va_K D cl_all [(c1, .int), (c2, .int), (c3, .int), (c4, .int), (c5, .int), (c6, .int)] s := hK
  refine W.widen (k := 6) (n := 801) (Nat.le_of_ble_eq_true rfl) (Nat.le_of_ble_eq_true rfl) ?_
  refine va_putF (D := D) (ci := 5) (v := .ref q6) (ty := .array .int) (C := "LogicalPairsModel") (T := F_M) (N := 17) hx hb hts (fun w h => List.mem_cons_of_mem _ (in_M w h)) t_M tk_M nm_M hown hK hP hD hS 0 rfl rfl 9 (by decide) (hts _ (List.mem_cons_of_mem _ (ak_mem (k := 347) (by decide +kernel : ak_nth wd_tbl 347 = some (.fieldLink "LogicalPairsModel" 25 "LogicalPairsModel" "states" "[I"))))) (fun _ h9 => h9) rfl hin rfl (by decide +kernel) rfl rfl (Nat.le_of_ble_eq_true rfl) d_M_init_52 (fun H locs hP hD hS => ?_)
  have hP : va_P D cl_all [(h0, .inr (5, [.int 0, .int 0, .int 0, .int 0, .ref q1, .ref q2, .ref q3, .ref q4, .ref q5, .ref q6, .null, .null, .null, .null, .null, .null, .null])), (q1, .inl (c1, 16, .inl (fun _ => 0))), (q2, .inl (c2, 16, .inl (fun _ => 0))), (q3, .inl (c3, 16, .inl (fun _ => 0))), (q4, .inl (c4, 251, .inl (fun _ => 0))), (q5, .inl (c5, 251, .inl (fun _ => 0))), (q6, .inl (c6, 251, .inl (fun _ => 0)))] H := hP
  have hD : va_D A [(h0, .inr (5, [.int 0, .int 0, .int 0, .int 0, .ref q1, .ref q2, .ref q3, .ref q4, .ref q5, .ref q6, .null, .null, .null, .null, .null, .null, .null])), (q1, .inl (c1, 16, .inl (fun _ => 0))), (q2, .inl (c2, 16, .inl (fun _ => 0))), (q3, .inl (c3, 16, .inl (fun _ => 0))), (q4, .inl (c4, 251, .inl (fun _ => 0))), (q5, .inl (c5, 251, .inl (fun _ => 0))), (q6, .inl (c6, 251, .inl (fun _ => 0)))] := hD
  refine lv_aload_n hx hb d_M_init_55 rfl (lv_at hl 0 rfl) ?_
  refine lv_sipush (v := 251) hx hb d_M_init_56 (by decide) ?_
  refine va_newa (atype := .int) (ty := .int) (N' := 251) (a0 := (251, .inl (fun _ => 0))) hx hb (hts _ (List.mem_cons_of_mem _ (ak_mem (k := 57) (by decide +kernel : ak_nth wd_tbl 57 = some (.arrayClass .int))))) rfl hK hP hD hS hA (fun _ => rfl) (by decide) (by decide) (by decide) (Nat.le_of_ble_eq_true rfl) (Nat.le_of_ble_eq_true rfl) d_M_init_59 (fun q7 c7 H hK hP hD hS => ?_)
  have hP : va_P D cl_all [(h0, .inr (5, [.int 0, .int 0, .int 0, .int 0, .ref q1, .ref q2, .ref q3, .ref q4, .ref q5, .ref q6, .null, .null, .null, .null, .null, .null, .null])), (q1, .inl (c1, 16, .inl (fun _ => 0))), (q2, .inl (c2, 16, .inl (fun _ => 0))), (q3, .inl (c3, 16, .inl (fun _ => 0))), (q4, .inl (c4, 251, .inl (fun _ => 0))), (q5, .inl (c5, 251, .inl (fun _ => 0))), (q6, .inl (c6, 251, .inl (fun _ => 0))), (q7, .inl (c7, 251, .inl (fun _ => 0)))] H := hP
  have hD : va_D A [(h0, .inr (5, [.int 0, .int 0, .int 0, .int 0, .ref q1, .ref q2, .ref q3, .ref q4, .ref q5, .ref q6, .null, .null, .null, .null, .null, .null, .null])), (q1, .inl (c1, 16, .inl (fun _ => 0))), (q2, .inl (c2, 16, .inl (fun _ => 0))), (q3, .inl (c3, 16, .inl (fun _ => 0))), (q4, .inl (c4, 251, .inl (fun _ => 0))), (q5, .inl (c5, 251, .inl (fun _ => 0))), (q6, .inl (c6, 251, .inl (fun _ => 0))), (q7, .inl (c7, 251, .inl (fun _ => 0)))] := hD
  have hK : va_K D cl_all [(c1, .int), (c2, .int), (c3, .int), (c4, .int), (c5, .int), (c6, .int), (c7, .int)] s := hK
  refine W.widen (k := 7) (n := 1052) (Nat.le_of_ble_eq_true rfl) (Nat.le_of_ble_eq_true rfl) ?_
  refine va_putF (D := D) (ci := 5) (v := .ref q7) (ty := .array .int) (C := "LogicalPairsModel") (T := F_M) (N := 17) hx hb hts (fun w h => List.mem_cons_of_mem _ (in_M w h)) t_M tk_M nm_M hown hK hP hD hS 0 rfl rfl 10 (by decide) (hts _ (List.mem_cons_of_mem _ (ak_mem (k := 348) (by decide +kernel : ak_nth wd_tbl 348 = some (.fieldLink "LogicalPairsModel" 28 "LogicalPairsModel" "related" "[I"))))) (fun _ h9 => h9) rfl hin rfl (by decide +kernel) rfl rfl (Nat.le_of_ble_eq_true rfl) d_M_init_61 (fun H locs hP hD hS => ?_)
  have hP : va_P D cl_all [(h0, .inr (5, [.int 0, .int 0, .int 0, .int 0, .ref q1, .ref q2, .ref q3, .ref q4, .ref q5, .ref q6, .ref q7, .null, .null, .null, .null, .null, .null])), (q1, .inl (c1, 16, .inl (fun _ => 0))), (q2, .inl (c2, 16, .inl (fun _ => 0))), (q3, .inl (c3, 16, .inl (fun _ => 0))), (q4, .inl (c4, 251, .inl (fun _ => 0))), (q5, .inl (c5, 251, .inl (fun _ => 0))), (q6, .inl (c6, 251, .inl (fun _ => 0))), (q7, .inl (c7, 251, .inl (fun _ => 0)))] H := hP
  have hD : va_D A [(h0, .inr (5, [.int 0, .int 0, .int 0, .int 0, .ref q1, .ref q2, .ref q3, .ref q4, .ref q5, .ref q6, .ref q7, .null, .null, .null, .null, .null, .null])), (q1, .inl (c1, 16, .inl (fun _ => 0))), (q2, .inl (c2, 16, .inl (fun _ => 0))), (q3, .inl (c3, 16, .inl (fun _ => 0))), (q4, .inl (c4, 251, .inl (fun _ => 0))), (q5, .inl (c5, 251, .inl (fun _ => 0))), (q6, .inl (c6, 251, .inl (fun _ => 0))), (q7, .inl (c7, 251, .inl (fun _ => 0)))] := hD
  refine lv_aload_n hx hb d_M_init_64 rfl (lv_at hl 0 rfl) ?_
  refine lv_sipush (v := 753) hx hb d_M_init_65 (by decide) ?_
  refine va_newa (atype := .int) (ty := .int) (N' := 753) (a0 := (753, .inl (fun _ => 0))) hx hb (hts _ (List.mem_cons_of_mem _ (ak_mem (k := 57) (by decide +kernel : ak_nth wd_tbl 57 = some (.arrayClass .int))))) rfl hK hP hD hS hA (fun _ => rfl) (by decide) (by decide) (by decide) (Nat.le_of_ble_eq_true rfl) (Nat.le_of_ble_eq_true rfl) d_M_init_68 (fun q8 c8 H hK hP hD hS => ?_)
  have hP : va_P D cl_all [(h0, .inr (5, [.int 0, .int 0, .int 0, .int 0, .ref q1, .ref q2, .ref q3, .ref q4, .ref q5, .ref q6, .ref q7, .null, .null, .null, .null, .null, .null])), (q1, .inl (c1, 16, .inl (fun _ => 0))), (q2, .inl (c2, 16, .inl (fun _ => 0))), (q3, .inl (c3, 16, .inl (fun _ => 0))), (q4, .inl (c4, 251, .inl (fun _ => 0))), (q5, .inl (c5, 251, .inl (fun _ => 0))), (q6, .inl (c6, 251, .inl (fun _ => 0))), (q7, .inl (c7, 251, .inl (fun _ => 0))), (q8, .inl (c8, 753, .inl (fun _ => 0)))] H := hP
  have hD : va_D A [(h0, .inr (5, [.int 0, .int 0, .int 0, .int 0, .ref q1, .ref q2, .ref q3, .ref q4, .ref q5, .ref q6, .ref q7, .null, .null, .null, .null, .null, .null])), (q1, .inl (c1, 16, .inl (fun _ => 0))), (q2, .inl (c2, 16, .inl (fun _ => 0))), (q3, .inl (c3, 16, .inl (fun _ => 0))), (q4, .inl (c4, 251, .inl (fun _ => 0))), (q5, .inl (c5, 251, .inl (fun _ => 0))), (q6, .inl (c6, 251, .inl (fun _ => 0))), (q7, .inl (c7, 251, .inl (fun _ => 0))), (q8, .inl (c8, 753, .inl (fun _ => 0)))] := hD
  have hK : va_K D cl_all [(c1, .int), (c2, .int), (c3, .int), (c4, .int), (c5, .int), (c6, .int), (c7, .int), (c8, .int)] s := hK
  refine W.widen (k := 8) (n := 1805) (Nat.le_of_ble_eq_true rfl) (Nat.le_of_ble_eq_true rfl) ?_
  refine va_putF (D := D) (ci := 5) (v := .ref q8) (ty := .array .int) (C := "LogicalPairsModel") (T := F_M) (N := 17) hx hb hts (fun w h => List.mem_cons_of_mem _ (in_M w h)) t_M tk_M nm_M hown hK hP hD hS 0 rfl rfl 11 (by decide) (hts _ (List.mem_cons_of_mem _ (ak_mem (k := 349) (by decide +kernel : ak_nth wd_tbl 349 = some (.fieldLink "LogicalPairsModel" 31 "LogicalPairsModel" "pointers" "[I"))))) (fun _ h9 => h9) rfl hin rfl (by decide +kernel) rfl rfl (Nat.le_of_ble_eq_true rfl) d_M_init_70 (fun H locs hP hD hS => ?_)
  have hP : va_P D cl_all [(h0, .inr (5, [.int 0, .int 0, .int 0, .int 0, .ref q1, .ref q2, .ref q3, .ref q4, .ref q5, .ref q6, .ref q7, .ref q8, .null, .null, .null, .null, .null])), (q1, .inl (c1, 16, .inl (fun _ => 0))), (q2, .inl (c2, 16, .inl (fun _ => 0))), (q3, .inl (c3, 16, .inl (fun _ => 0))), (q4, .inl (c4, 251, .inl (fun _ => 0))), (q5, .inl (c5, 251, .inl (fun _ => 0))), (q6, .inl (c6, 251, .inl (fun _ => 0))), (q7, .inl (c7, 251, .inl (fun _ => 0))), (q8, .inl (c8, 753, .inl (fun _ => 0)))] H := hP
  have hD : va_D A [(h0, .inr (5, [.int 0, .int 0, .int 0, .int 0, .ref q1, .ref q2, .ref q3, .ref q4, .ref q5, .ref q6, .ref q7, .ref q8, .null, .null, .null, .null, .null])), (q1, .inl (c1, 16, .inl (fun _ => 0))), (q2, .inl (c2, 16, .inl (fun _ => 0))), (q3, .inl (c3, 16, .inl (fun _ => 0))), (q4, .inl (c4, 251, .inl (fun _ => 0))), (q5, .inl (c5, 251, .inl (fun _ => 0))), (q6, .inl (c6, 251, .inl (fun _ => 0))), (q7, .inl (c7, 251, .inl (fun _ => 0))), (q8, .inl (c8, 753, .inl (fun _ => 0)))] := hD
  refine lv_aload_n hx hb d_M_init_73 rfl (lv_at hl 0 rfl) ?_
  refine lv_sipush (v := 251) hx hb d_M_init_74 (by decide) ?_
  refine va_newa (atype := .long) (ty := .long) (N' := 251) (a0 := (251, .inr (.inl (fun _ => 0)))) hx hb (hts _ (List.mem_cons_of_mem _ (ak_mem (k := 101) (by decide +kernel : ak_nth wd_tbl 101 = some (.arrayClass .long))))) rfl hK hP hD hS hA (fun _ => rfl) (by decide) (by decide) (by decide) (Nat.le_of_ble_eq_true rfl) (Nat.le_of_ble_eq_true rfl) d_M_init_77 (fun q9 c9 H hK hP hD hS => ?_)
  have hP : va_P D cl_all [(h0, .inr (5, [.int 0, .int 0, .int 0, .int 0, .ref q1, .ref q2, .ref q3, .ref q4, .ref q5, .ref q6, .ref q7, .ref q8, .null, .null, .null, .null, .null])), (q1, .inl (c1, 16, .inl (fun _ => 0))), (q2, .inl (c2, 16, .inl (fun _ => 0))), (q3, .inl (c3, 16, .inl (fun _ => 0))), (q4, .inl (c4, 251, .inl (fun _ => 0))), (q5, .inl (c5, 251, .inl (fun _ => 0))), (q6, .inl (c6, 251, .inl (fun _ => 0))), (q7, .inl (c7, 251, .inl (fun _ => 0))), (q8, .inl (c8, 753, .inl (fun _ => 0))), (q9, .inl (c9, 251, .inr (.inl (fun _ => 0))))] H := hP
  have hD : va_D A [(h0, .inr (5, [.int 0, .int 0, .int 0, .int 0, .ref q1, .ref q2, .ref q3, .ref q4, .ref q5, .ref q6, .ref q7, .ref q8, .null, .null, .null, .null, .null])), (q1, .inl (c1, 16, .inl (fun _ => 0))), (q2, .inl (c2, 16, .inl (fun _ => 0))), (q3, .inl (c3, 16, .inl (fun _ => 0))), (q4, .inl (c4, 251, .inl (fun _ => 0))), (q5, .inl (c5, 251, .inl (fun _ => 0))), (q6, .inl (c6, 251, .inl (fun _ => 0))), (q7, .inl (c7, 251, .inl (fun _ => 0))), (q8, .inl (c8, 753, .inl (fun _ => 0))), (q9, .inl (c9, 251, .inr (.inl (fun _ => 0))))] := hD
  have hK : va_K D cl_all [(c1, .int), (c2, .int), (c3, .int), (c4, .int), (c5, .int), (c6, .int), (c7, .int), (c8, .int), (c9, .long)] s := hK
  refine W.widen (k := 9) (n := 2056) (Nat.le_of_ble_eq_true rfl) (Nat.le_of_ble_eq_true rfl) ?_
  refine va_putF (D := D) (ci := 5) (v := .ref q9) (ty := .array .long) (C := "LogicalPairsModel") (T := F_M) (N := 17) hx hb hts (fun w h => List.mem_cons_of_mem _ (in_M w h)) t_M tk_M nm_M hown hK hP hD hS 0 rfl rfl 12 (by decide) (hts _ (List.mem_cons_of_mem _ (ak_mem (k := 350) (by decide +kernel : ak_nth wd_tbl 350 = some (.fieldLink "LogicalPairsModel" 34 "LogicalPairsModel" "keys" "[J"))))) (fun _ h9 => h9) rfl hin rfl (by decide +kernel) rfl rfl (Nat.le_of_ble_eq_true rfl) d_M_init_79 (fun H locs hP hD hS => ?_)
  have hP : va_P D cl_all [(h0, .inr (5, [.int 0, .int 0, .int 0, .int 0, .ref q1, .ref q2, .ref q3, .ref q4, .ref q5, .ref q6, .ref q7, .ref q8, .ref q9, .null, .null, .null, .null])), (q1, .inl (c1, 16, .inl (fun _ => 0))), (q2, .inl (c2, 16, .inl (fun _ => 0))), (q3, .inl (c3, 16, .inl (fun _ => 0))), (q4, .inl (c4, 251, .inl (fun _ => 0))), (q5, .inl (c5, 251, .inl (fun _ => 0))), (q6, .inl (c6, 251, .inl (fun _ => 0))), (q7, .inl (c7, 251, .inl (fun _ => 0))), (q8, .inl (c8, 753, .inl (fun _ => 0))), (q9, .inl (c9, 251, .inr (.inl (fun _ => 0))))] H := hP
  have hD : va_D A [(h0, .inr (5, [.int 0, .int 0, .int 0, .int 0, .ref q1, .ref q2, .ref q3, .ref q4, .ref q5, .ref q6, .ref q7, .ref q8, .ref q9, .null, .null, .null, .null])), (q1, .inl (c1, 16, .inl (fun _ => 0))), (q2, .inl (c2, 16, .inl (fun _ => 0))), (q3, .inl (c3, 16, .inl (fun _ => 0))), (q4, .inl (c4, 251, .inl (fun _ => 0))), (q5, .inl (c5, 251, .inl (fun _ => 0))), (q6, .inl (c6, 251, .inl (fun _ => 0))), (q7, .inl (c7, 251, .inl (fun _ => 0))), (q8, .inl (c8, 753, .inl (fun _ => 0))), (q9, .inl (c9, 251, .inr (.inl (fun _ => 0))))] := hD
  refine lv_aload_n hx hb d_M_init_82 rfl (lv_at hl 0 rfl) ?_
  refine lv_sipush (v := 251) hx hb d_M_init_83 (by decide) ?_
  refine va_newa (atype := .boolean) (ty := .boolean) (N' := 251) (a0 := (251, .inl (fun _ => 0))) hx hb (hts _ (List.mem_cons_of_mem _ (ak_mem (k := 120) (by decide +kernel : ak_nth wd_tbl 120 = some (.arrayClass .boolean))))) rfl hK hP hD hS hA (fun _ => rfl) (by decide) (by decide) (by decide) (Nat.le_of_ble_eq_true rfl) (Nat.le_of_ble_eq_true rfl) d_M_init_86 (fun q10 c10 H hK hP hD hS => ?_)
  have hP : va_P D cl_all [(h0, .inr (5, [.int 0, .int 0, .int 0, .int 0, .ref q1, .ref q2, .ref q3, .ref q4, .ref q5, .ref q6, .ref q7, .ref q8, .ref q9, .null, .null, .null, .null])), (q1, .inl (c1, 16, .inl (fun _ => 0))), (q2, .inl (c2, 16, .inl (fun _ => 0))), (q3, .inl (c3, 16, .inl (fun _ => 0))), (q4, .inl (c4, 251, .inl (fun _ => 0))), (q5, .inl (c5, 251, .inl (fun _ => 0))), (q6, .inl (c6, 251, .inl (fun _ => 0))), (q7, .inl (c7, 251, .inl (fun _ => 0))), (q8, .inl (c8, 753, .inl (fun _ => 0))), (q9, .inl (c9, 251, .inr (.inl (fun _ => 0)))), (q10, .inl (c10, 251, .inl (fun _ => 0)))] H := hP
  have hD : va_D A [(h0, .inr (5, [.int 0, .int 0, .int 0, .int 0, .ref q1, .ref q2, .ref q3, .ref q4, .ref q5, .ref q6, .ref q7, .ref q8, .ref q9, .null, .null, .null, .null])), (q1, .inl (c1, 16, .inl (fun _ => 0))), (q2, .inl (c2, 16, .inl (fun _ => 0))), (q3, .inl (c3, 16, .inl (fun _ => 0))), (q4, .inl (c4, 251, .inl (fun _ => 0))), (q5, .inl (c5, 251, .inl (fun _ => 0))), (q6, .inl (c6, 251, .inl (fun _ => 0))), (q7, .inl (c7, 251, .inl (fun _ => 0))), (q8, .inl (c8, 753, .inl (fun _ => 0))), (q9, .inl (c9, 251, .inr (.inl (fun _ => 0)))), (q10, .inl (c10, 251, .inl (fun _ => 0)))] := hD
  have hK : va_K D cl_all [(c1, .int), (c2, .int), (c3, .int), (c4, .int), (c5, .int), (c6, .int), (c7, .int), (c8, .int), (c9, .long), (c10, .boolean)] s := hK
  refine W.widen (k := 10) (n := 2307) (Nat.le_of_ble_eq_true rfl) (Nat.le_of_ble_eq_true rfl) ?_
  refine va_putF (D := D) (ci := 5) (v := .ref q10) (ty := .array .boolean) (C := "LogicalPairsModel") (T := F_M) (N := 17) hx hb hts (fun w h => List.mem_cons_of_mem _ (in_M w h)) t_M tk_M nm_M hown hK hP hD hS 0 rfl rfl 13 (by decide) (hts _ (List.mem_cons_of_mem _ (ak_mem (k := 351) (by decide +kernel : ak_nth wd_tbl 351 = some (.fieldLink "LogicalPairsModel" 38 "LogicalPairsModel" "goes" "[Z"))))) (fun _ h9 => h9) rfl hin rfl (by decide +kernel) rfl rfl (Nat.le_of_ble_eq_true rfl) d_M_init_88 (fun H locs hP hD hS => ?_)
  have hP : va_P D cl_all [(h0, .inr (5, [.int 0, .int 0, .int 0, .int 0, .ref q1, .ref q2, .ref q3, .ref q4, .ref q5, .ref q6, .ref q7, .ref q8, .ref q9, .ref q10, .null, .null, .null])), (q1, .inl (c1, 16, .inl (fun _ => 0))), (q2, .inl (c2, 16, .inl (fun _ => 0))), (q3, .inl (c3, 16, .inl (fun _ => 0))), (q4, .inl (c4, 251, .inl (fun _ => 0))), (q5, .inl (c5, 251, .inl (fun _ => 0))), (q6, .inl (c6, 251, .inl (fun _ => 0))), (q7, .inl (c7, 251, .inl (fun _ => 0))), (q8, .inl (c8, 753, .inl (fun _ => 0))), (q9, .inl (c9, 251, .inr (.inl (fun _ => 0)))), (q10, .inl (c10, 251, .inl (fun _ => 0)))] H := hP
  have hD : va_D A [(h0, .inr (5, [.int 0, .int 0, .int 0, .int 0, .ref q1, .ref q2, .ref q3, .ref q4, .ref q5, .ref q6, .ref q7, .ref q8, .ref q9, .ref q10, .null, .null, .null])), (q1, .inl (c1, 16, .inl (fun _ => 0))), (q2, .inl (c2, 16, .inl (fun _ => 0))), (q3, .inl (c3, 16, .inl (fun _ => 0))), (q4, .inl (c4, 251, .inl (fun _ => 0))), (q5, .inl (c5, 251, .inl (fun _ => 0))), (q6, .inl (c6, 251, .inl (fun _ => 0))), (q7, .inl (c7, 251, .inl (fun _ => 0))), (q8, .inl (c8, 753, .inl (fun _ => 0))), (q9, .inl (c9, 251, .inr (.inl (fun _ => 0)))), (q10, .inl (c10, 251, .inl (fun _ => 0)))] := hD
  refine lv_aload_n hx hb d_M_init_91 rfl (lv_at hl 0 rfl) ?_
  refine lv_sipush (v := 251) hx hb d_M_init_92 (by decide) ?_
  refine va_newa (atype := .boolean) (ty := .boolean) (N' := 251) (a0 := (251, .inl (fun _ => 0))) hx hb (hts _ (List.mem_cons_of_mem _ (ak_mem (k := 120) (by decide +kernel : ak_nth wd_tbl 120 = some (.arrayClass .boolean))))) rfl hK hP hD hS hA (fun _ => rfl) (by decide) (by decide) (by decide) (Nat.le_of_ble_eq_true rfl) (Nat.le_of_ble_eq_true rfl) d_M_init_95 (fun q11 c11 H hK hP hD hS => ?_)
  have hP : va_P D cl_all [(h0, .inr (5, [.int 0, .int 0, .int 0, .int 0, .ref q1, .ref q2, .ref q3, .ref q4, .ref q5, .ref q6, .ref q7, .ref q8, .ref q9, .ref q10, .null, .null, .null])), (q1, .inl (c1, 16, .inl (fun _ => 0))), (q2, .inl (c2, 16, .inl (fun _ => 0))), (q3, .inl (c3, 16, .inl (fun _ => 0))), (q4, .inl (c4, 251, .inl (fun _ => 0))), (q5, .inl (c5, 251, .inl (fun _ => 0))), (q6, .inl (c6, 251, .inl (fun _ => 0))), (q7, .inl (c7, 251, .inl (fun _ => 0))), (q8, .inl (c8, 753, .inl (fun _ => 0))), (q9, .inl (c9, 251, .inr (.inl (fun _ => 0)))), (q10, .inl (c10, 251, .inl (fun _ => 0))), (q11, .inl (c11, 251, .inl (fun _ => 0)))] H := hP
  have hD : va_D A [(h0, .inr (5, [.int 0, .int 0, .int 0, .int 0, .ref q1, .ref q2, .ref q3, .ref q4, .ref q5, .ref q6, .ref q7, .ref q8, .ref q9, .ref q10, .null, .null, .null])), (q1, .inl (c1, 16, .inl (fun _ => 0))), (q2, .inl (c2, 16, .inl (fun _ => 0))), (q3, .inl (c3, 16, .inl (fun _ => 0))), (q4, .inl (c4, 251, .inl (fun _ => 0))), (q5, .inl (c5, 251, .inl (fun _ => 0))), (q6, .inl (c6, 251, .inl (fun _ => 0))), (q7, .inl (c7, 251, .inl (fun _ => 0))), (q8, .inl (c8, 753, .inl (fun _ => 0))), (q9, .inl (c9, 251, .inr (.inl (fun _ => 0)))), (q10, .inl (c10, 251, .inl (fun _ => 0))), (q11, .inl (c11, 251, .inl (fun _ => 0)))] := hD
  have hK : va_K D cl_all [(c1, .int), (c2, .int), (c3, .int), (c4, .int), (c5, .int), (c6, .int), (c7, .int), (c8, .int), (c9, .long), (c10, .boolean), (c11, .boolean)] s := hK
  refine W.widen (k := 11) (n := 2558) (Nat.le_of_ble_eq_true rfl) (Nat.le_of_ble_eq_true rfl) ?_
  refine va_putF (D := D) (ci := 5) (v := .ref q11) (ty := .array .boolean) (C := "LogicalPairsModel") (T := F_M) (N := 17) hx hb hts (fun w h => List.mem_cons_of_mem _ (in_M w h)) t_M tk_M nm_M hown hK hP hD hS 0 rfl rfl 14 (by decide) (hts _ (List.mem_cons_of_mem _ (ak_mem (k := 352) (by decide +kernel : ak_nth wd_tbl 352 = some (.fieldLink "LogicalPairsModel" 42 "LogicalPairsModel" "changed" "[Z"))))) (fun _ h9 => h9) rfl hin rfl (by decide +kernel) rfl rfl (Nat.le_of_ble_eq_true rfl) d_M_init_97 (fun H locs hP hD hS => ?_)
  have hP : va_P D cl_all [(h0, .inr (5, [.int 0, .int 0, .int 0, .int 0, .ref q1, .ref q2, .ref q3, .ref q4, .ref q5, .ref q6, .ref q7, .ref q8, .ref q9, .ref q10, .ref q11, .null, .null])), (q1, .inl (c1, 16, .inl (fun _ => 0))), (q2, .inl (c2, 16, .inl (fun _ => 0))), (q3, .inl (c3, 16, .inl (fun _ => 0))), (q4, .inl (c4, 251, .inl (fun _ => 0))), (q5, .inl (c5, 251, .inl (fun _ => 0))), (q6, .inl (c6, 251, .inl (fun _ => 0))), (q7, .inl (c7, 251, .inl (fun _ => 0))), (q8, .inl (c8, 753, .inl (fun _ => 0))), (q9, .inl (c9, 251, .inr (.inl (fun _ => 0)))), (q10, .inl (c10, 251, .inl (fun _ => 0))), (q11, .inl (c11, 251, .inl (fun _ => 0)))] H := hP
  have hD : va_D A [(h0, .inr (5, [.int 0, .int 0, .int 0, .int 0, .ref q1, .ref q2, .ref q3, .ref q4, .ref q5, .ref q6, .ref q7, .ref q8, .ref q9, .ref q10, .ref q11, .null, .null])), (q1, .inl (c1, 16, .inl (fun _ => 0))), (q2, .inl (c2, 16, .inl (fun _ => 0))), (q3, .inl (c3, 16, .inl (fun _ => 0))), (q4, .inl (c4, 251, .inl (fun _ => 0))), (q5, .inl (c5, 251, .inl (fun _ => 0))), (q6, .inl (c6, 251, .inl (fun _ => 0))), (q7, .inl (c7, 251, .inl (fun _ => 0))), (q8, .inl (c8, 753, .inl (fun _ => 0))), (q9, .inl (c9, 251, .inr (.inl (fun _ => 0)))), (q10, .inl (c10, 251, .inl (fun _ => 0))), (q11, .inl (c11, 251, .inl (fun _ => 0)))] := hD
  refine lv_aload_n hx hb d_M_init_100 rfl (lv_at hl 0 rfl) ?_
  refine lv_bipush (v := 11) hx hb d_M_init_101 (by decide) ?_
  refine va_newa (atype := .int) (ty := .int) (N' := 11) (a0 := (11, .inl (fun _ => 0))) hx hb (hts _ (List.mem_cons_of_mem _ (ak_mem (k := 57) (by decide +kernel : ak_nth wd_tbl 57 = some (.arrayClass .int))))) rfl hK hP hD hS hA (fun _ => rfl) (by decide) (by decide) (by decide) (Nat.le_of_ble_eq_true rfl) (Nat.le_of_ble_eq_true rfl) d_M_init_103 (fun q12 c12 H hK hP hD hS => ?_)
  have hP : va_P D cl_all [(h0, .inr (5, [.int 0, .int 0, .int 0, .int 0, .ref q1, .ref q2, .ref q3, .ref q4, .ref q5, .ref q6, .ref q7, .ref q8, .ref q9, .ref q10, .ref q11, .null, .null])), (q1, .inl (c1, 16, .inl (fun _ => 0))), (q2, .inl (c2, 16, .inl (fun _ => 0))), (q3, .inl (c3, 16, .inl (fun _ => 0))), (q4, .inl (c4, 251, .inl (fun _ => 0))), (q5, .inl (c5, 251, .inl (fun _ => 0))), (q6, .inl (c6, 251, .inl (fun _ => 0))), (q7, .inl (c7, 251, .inl (fun _ => 0))), (q8, .inl (c8, 753, .inl (fun _ => 0))), (q9, .inl (c9, 251, .inr (.inl (fun _ => 0)))), (q10, .inl (c10, 251, .inl (fun _ => 0))), (q11, .inl (c11, 251, .inl (fun _ => 0))), (q12, .inl (c12, 11, .inl (fun _ => 0)))] H := hP
  have hD : va_D A [(h0, .inr (5, [.int 0, .int 0, .int 0, .int 0, .ref q1, .ref q2, .ref q3, .ref q4, .ref q5, .ref q6, .ref q7, .ref q8, .ref q9, .ref q10, .ref q11, .null, .null])), (q1, .inl (c1, 16, .inl (fun _ => 0))), (q2, .inl (c2, 16, .inl (fun _ => 0))), (q3, .inl (c3, 16, .inl (fun _ => 0))), (q4, .inl (c4, 251, .inl (fun _ => 0))), (q5, .inl (c5, 251, .inl (fun _ => 0))), (q6, .inl (c6, 251, .inl (fun _ => 0))), (q7, .inl (c7, 251, .inl (fun _ => 0))), (q8, .inl (c8, 753, .inl (fun _ => 0))), (q9, .inl (c9, 251, .inr (.inl (fun _ => 0)))), (q10, .inl (c10, 251, .inl (fun _ => 0))), (q11, .inl (c11, 251, .inl (fun _ => 0))), (q12, .inl (c12, 11, .inl (fun _ => 0)))] := hD
  have hK : va_K D cl_all [(c1, .int), (c2, .int), (c3, .int), (c4, .int), (c5, .int), (c6, .int), (c7, .int), (c8, .int), (c9, .long), (c10, .boolean), (c11, .boolean), (c12, .int)] s := hK
  refine W.widen (k := 12) (n := 2569) (Nat.le_of_ble_eq_true rfl) (Nat.le_of_ble_eq_true rfl) ?_
  refine va_putF (D := D) (ci := 5) (v := .ref q12) (ty := .array .int) (C := "LogicalPairsModel") (T := F_M) (N := 17) hx hb hts (fun w h => List.mem_cons_of_mem _ (in_M w h)) t_M tk_M nm_M hown hK hP hD hS 0 rfl rfl 15 (by decide) (hts _ (List.mem_cons_of_mem _ (ak_mem (k := 353) (by decide +kernel : ak_nth wd_tbl 353 = some (.fieldLink "LogicalPairsModel" 45 "LogicalPairsModel" "indexKinds" "[I"))))) (fun _ h9 => h9) rfl hin rfl (by decide +kernel) rfl rfl (Nat.le_of_ble_eq_true rfl) d_M_init_105 (fun H locs hP hD hS => ?_)
  have hP : va_P D cl_all [(h0, .inr (5, [.int 0, .int 0, .int 0, .int 0, .ref q1, .ref q2, .ref q3, .ref q4, .ref q5, .ref q6, .ref q7, .ref q8, .ref q9, .ref q10, .ref q11, .ref q12, .null])), (q1, .inl (c1, 16, .inl (fun _ => 0))), (q2, .inl (c2, 16, .inl (fun _ => 0))), (q3, .inl (c3, 16, .inl (fun _ => 0))), (q4, .inl (c4, 251, .inl (fun _ => 0))), (q5, .inl (c5, 251, .inl (fun _ => 0))), (q6, .inl (c6, 251, .inl (fun _ => 0))), (q7, .inl (c7, 251, .inl (fun _ => 0))), (q8, .inl (c8, 753, .inl (fun _ => 0))), (q9, .inl (c9, 251, .inr (.inl (fun _ => 0)))), (q10, .inl (c10, 251, .inl (fun _ => 0))), (q11, .inl (c11, 251, .inl (fun _ => 0))), (q12, .inl (c12, 11, .inl (fun _ => 0)))] H := hP
  have hD : va_D A [(h0, .inr (5, [.int 0, .int 0, .int 0, .int 0, .ref q1, .ref q2, .ref q3, .ref q4, .ref q5, .ref q6, .ref q7, .ref q8, .ref q9, .ref q10, .ref q11, .ref q12, .null])), (q1, .inl (c1, 16, .inl (fun _ => 0))), (q2, .inl (c2, 16, .inl (fun _ => 0))), (q3, .inl (c3, 16, .inl (fun _ => 0))), (q4, .inl (c4, 251, .inl (fun _ => 0))), (q5, .inl (c5, 251, .inl (fun _ => 0))), (q6, .inl (c6, 251, .inl (fun _ => 0))), (q7, .inl (c7, 251, .inl (fun _ => 0))), (q8, .inl (c8, 753, .inl (fun _ => 0))), (q9, .inl (c9, 251, .inr (.inl (fun _ => 0)))), (q10, .inl (c10, 251, .inl (fun _ => 0))), (q11, .inl (c11, 251, .inl (fun _ => 0))), (q12, .inl (c12, 11, .inl (fun _ => 0)))] := hD
  refine lv_aload_n hx hb d_M_init_108 rfl (lv_at hl 0 rfl) ?_
  refine lv_bipush (v := 11) hx hb d_M_init_109 (by decide) ?_
  refine va_newa (atype := .boolean) (ty := .boolean) (N' := 11) (a0 := (11, .inl (fun _ => 0))) hx hb (hts _ (List.mem_cons_of_mem _ (ak_mem (k := 120) (by decide +kernel : ak_nth wd_tbl 120 = some (.arrayClass .boolean))))) rfl hK hP hD hS hA (fun _ => rfl) (by decide) (by decide) (by decide) (Nat.le_of_ble_eq_true rfl) (Nat.le_of_ble_eq_true rfl) d_M_init_111 (fun q13 c13 H hK hP hD hS => ?_)
  have hP : va_P D cl_all [(h0, .inr (5, [.int 0, .int 0, .int 0, .int 0, .ref q1, .ref q2, .ref q3, .ref q4, .ref q5, .ref q6, .ref q7, .ref q8, .ref q9, .ref q10, .ref q11, .ref q12, .null])), (q1, .inl (c1, 16, .inl (fun _ => 0))), (q2, .inl (c2, 16, .inl (fun _ => 0))), (q3, .inl (c3, 16, .inl (fun _ => 0))), (q4, .inl (c4, 251, .inl (fun _ => 0))), (q5, .inl (c5, 251, .inl (fun _ => 0))), (q6, .inl (c6, 251, .inl (fun _ => 0))), (q7, .inl (c7, 251, .inl (fun _ => 0))), (q8, .inl (c8, 753, .inl (fun _ => 0))), (q9, .inl (c9, 251, .inr (.inl (fun _ => 0)))), (q10, .inl (c10, 251, .inl (fun _ => 0))), (q11, .inl (c11, 251, .inl (fun _ => 0))), (q12, .inl (c12, 11, .inl (fun _ => 0))), (q13, .inl (c13, 11, .inl (fun _ => 0)))] H := hP
  have hD : va_D A [(h0, .inr (5, [.int 0, .int 0, .int 0, .int 0, .ref q1, .ref q2, .ref q3, .ref q4, .ref q5, .ref q6, .ref q7, .ref q8, .ref q9, .ref q10, .ref q11, .ref q12, .null])), (q1, .inl (c1, 16, .inl (fun _ => 0))), (q2, .inl (c2, 16, .inl (fun _ => 0))), (q3, .inl (c3, 16, .inl (fun _ => 0))), (q4, .inl (c4, 251, .inl (fun _ => 0))), (q5, .inl (c5, 251, .inl (fun _ => 0))), (q6, .inl (c6, 251, .inl (fun _ => 0))), (q7, .inl (c7, 251, .inl (fun _ => 0))), (q8, .inl (c8, 753, .inl (fun _ => 0))), (q9, .inl (c9, 251, .inr (.inl (fun _ => 0)))), (q10, .inl (c10, 251, .inl (fun _ => 0))), (q11, .inl (c11, 251, .inl (fun _ => 0))), (q12, .inl (c12, 11, .inl (fun _ => 0))), (q13, .inl (c13, 11, .inl (fun _ => 0)))] := hD
  have hK : va_K D cl_all [(c1, .int), (c2, .int), (c3, .int), (c4, .int), (c5, .int), (c6, .int), (c7, .int), (c8, .int), (c9, .long), (c10, .boolean), (c11, .boolean), (c12, .int), (c13, .boolean)] s := hK
  refine W.widen (k := 13) (n := 2580) (Nat.le_of_ble_eq_true rfl) (Nat.le_of_ble_eq_true rfl) ?_
  refine va_putF (D := D) (ci := 5) (v := .ref q13) (ty := .array .boolean) (C := "LogicalPairsModel") (T := F_M) (N := 17) hx hb hts (fun w h => List.mem_cons_of_mem _ (in_M w h)) t_M tk_M nm_M hown hK hP hD hS 0 rfl rfl 16 (by decide) (hts _ (List.mem_cons_of_mem _ (ak_mem (k := 354) (by decide +kernel : ak_nth wd_tbl 354 = some (.fieldLink "LogicalPairsModel" 48 "LogicalPairsModel" "sparse" "[Z"))))) (fun _ h9 => h9) rfl hin rfl (by decide +kernel) rfl rfl (Nat.le_of_ble_eq_true rfl) d_M_init_113 (fun H locs hP hD hS => ?_)
  have hP : va_P D cl_all [(h0, .inr (5, [.int 0, .int 0, .int 0, .int 0, .ref q1, .ref q2, .ref q3, .ref q4, .ref q5, .ref q6, .ref q7, .ref q8, .ref q9, .ref q10, .ref q11, .ref q12, .ref q13])), (q1, .inl (c1, 16, .inl (fun _ => 0))), (q2, .inl (c2, 16, .inl (fun _ => 0))), (q3, .inl (c3, 16, .inl (fun _ => 0))), (q4, .inl (c4, 251, .inl (fun _ => 0))), (q5, .inl (c5, 251, .inl (fun _ => 0))), (q6, .inl (c6, 251, .inl (fun _ => 0))), (q7, .inl (c7, 251, .inl (fun _ => 0))), (q8, .inl (c8, 753, .inl (fun _ => 0))), (q9, .inl (c9, 251, .inr (.inl (fun _ => 0)))), (q10, .inl (c10, 251, .inl (fun _ => 0))), (q11, .inl (c11, 251, .inl (fun _ => 0))), (q12, .inl (c12, 11, .inl (fun _ => 0))), (q13, .inl (c13, 11, .inl (fun _ => 0)))] H := hP
  have hD : va_D A [(h0, .inr (5, [.int 0, .int 0, .int 0, .int 0, .ref q1, .ref q2, .ref q3, .ref q4, .ref q5, .ref q6, .ref q7, .ref q8, .ref q9, .ref q10, .ref q11, .ref q12, .ref q13])), (q1, .inl (c1, 16, .inl (fun _ => 0))), (q2, .inl (c2, 16, .inl (fun _ => 0))), (q3, .inl (c3, 16, .inl (fun _ => 0))), (q4, .inl (c4, 251, .inl (fun _ => 0))), (q5, .inl (c5, 251, .inl (fun _ => 0))), (q6, .inl (c6, 251, .inl (fun _ => 0))), (q7, .inl (c7, 251, .inl (fun _ => 0))), (q8, .inl (c8, 753, .inl (fun _ => 0))), (q9, .inl (c9, 251, .inr (.inl (fun _ => 0)))), (q10, .inl (c10, 251, .inl (fun _ => 0))), (q11, .inl (c11, 251, .inl (fun _ => 0))), (q12, .inl (c12, 11, .inl (fun _ => 0))), (q13, .inl (c13, 11, .inl (fun _ => 0)))] := hD
  exact W.vret hx hb hr (fun t ht hW => ⟨⟨(fun k => match k with | 1 => q1 | 2 => q2 | 3 => q3 | 4 => q4 | 5 => q5 | 6 => q6 | 7 => q7 | 8 => q8 | 9 => q9 | 10 => q10 | 11 => q11 | 12 => q12 | _ => q13, fun k => match k with | 1 => c1 | 2 => c2 | 3 => c3 | 4 => c4 | 5 => c5 | 6 => c6 | 7 => c7 | 8 => c8 | 9 => c9 | 10 => c10 | 11 => c11 | 12 => c12 | _ => c13), rfl, trivial, by rw [ht]; exact hP, va_K.moved hW.alike hK, hD⟩, hS.F ht⟩) hS.2.2 d_M_init_116
end
section
/-! constructors, laid by program (wip/whole/gen2.py) -/
theorem goodL {c : Cond} {k : Nat} {y : MethodName} {b : ByteArray} {n : Nat} {r : Option FieldType} (h : ak_nth wd_tbl k = some (.code y b n r)) : GoodIn (c :: wd_tbl) (.code y b n r :: wd_tbl) := by
  intro w hw
  have hin : w ∈ wd_tbl := by
    rcases List.mem_cons.mp hw with rfl | h9
    · exact ak_mem h
    · exact h9
  exact ⟨List.mem_cons_of_mem _ hin, good_of_word (wd_good w hin)⟩
theorem d_L_init_0 : decode prog_1_method_1_code 0 = .ok (.aload_n 0, 1) := by decide +kernel
theorem d_L_init_1 : decode prog_1_method_1_code 1 = .ok (.invokespecial 1, 3) := by decide +kernel
theorem d_L_init_4 : decode prog_1_method_1_code 4 = .ok (.aload_n 0, 1) := by decide +kernel
theorem d_L_init_5 : decode prog_1_method_1_code 5 = .ok (.new 7, 3) := by decide +kernel
theorem d_L_init_8 : decode prog_1_method_1_code 8 = .ok (.dup, 1) := by decide +kernel
theorem d_L_init_9 : decode prog_1_method_1_code 9 = .ok (.invokespecial 9, 3) := by decide +kernel
theorem d_L_init_12 : decode prog_1_method_1_code 12 = .ok (.putfield 10, 3) := by decide +kernel
theorem d_L_init_15 : decode prog_1_method_1_code 15 = .ok (.aload_n 0, 1) := by decide +kernel
theorem d_L_init_16 : decode prog_1_method_1_code 16 = .ok (.new 16, 3) := by decide +kernel
theorem d_L_init_19 : decode prog_1_method_1_code 19 = .ok (.dup, 1) := by decide +kernel
theorem d_L_init_20 : decode prog_1_method_1_code 20 = .ok (.invokespecial 18, 3) := by decide +kernel
theorem d_L_init_23 : decode prog_1_method_1_code 23 = .ok (.putfield 19, 3) := by decide +kernel
theorem d_L_init_26 : decode prog_1_method_1_code 26 = .ok (.aload_n 0, 1) := by decide +kernel
theorem d_L_init_27 : decode prog_1_method_1_code 27 = .ok (.new 23, 3) := by decide +kernel
theorem d_L_init_30 : decode prog_1_method_1_code 30 = .ok (.dup, 1) := by decide +kernel
theorem d_L_init_31 : decode prog_1_method_1_code 31 = .ok (.invokespecial 25, 3) := by decide +kernel
theorem d_L_init_34 : decode prog_1_method_1_code 34 = .ok (.putfield 26, 3) := by decide +kernel
theorem d_L_init_37 : decode prog_1_method_1_code 37 = .ok (.aload_n 0, 1) := by decide +kernel
theorem d_L_init_38 : decode prog_1_method_1_code 38 = .ok (.new 30, 3) := by decide +kernel
theorem d_L_init_41 : decode prog_1_method_1_code 41 = .ok (.dup, 1) := by decide +kernel
theorem d_L_init_42 : decode prog_1_method_1_code 42 = .ok (.aload_n 0, 1) := by decide +kernel
theorem d_L_init_43 : decode prog_1_method_1_code 43 = .ok (.getfield 10, 3) := by decide +kernel
theorem d_L_init_46 : decode prog_1_method_1_code 46 = .ok (.aload_n 0, 1) := by decide +kernel
theorem d_L_init_47 : decode prog_1_method_1_code 47 = .ok (.getfield 19, 3) := by decide +kernel
theorem d_L_init_50 : decode prog_1_method_1_code 50 = .ok (.invokespecial 32, 3) := by decide +kernel
theorem d_L_init_53 : decode prog_1_method_1_code 53 = .ok (.putfield 35, 3) := by decide +kernel
theorem d_L_init_56 : decode prog_1_method_1_code 56 = .ok (.return_, 1) := by decide +kernel
def ws_L_init : List Cond := .code y_L_init prog_1_method_1_code 1 none :: wd_tbl
def rm_L_init : Room := { frames := 2, cells := 19, slots := 3101, locals := 34 }
def w0_L (h0 : Nat) : va_W := [(h0, .inr (0, [.null, .null, .null, .null]))]
def nw_L (U : State) : Prop := va_Nw (.methodLinkNest "LogicalPairs" 9 y_K_init "LogicalPairs") U ∧ va_Nw (.methodLinkNest "LogicalPairs" 18 y_S_init "LogicalPairs") U ∧ va_Nw (.methodLinkNest "LogicalPairs" 25 y_X_init "LogicalPairs") U
def pc_L (D : va_G) (h0 sz : Nat) : State → Prop := fun U => U.heap.size = sz ∧ va_P D cl_all (w0_L h0) U.heap ∧ va_K D cl_all [] U ∧ va_D (fun _ => True) (w0_L h0) ∧ nw_L U
def pq_L (D : va_G) (h0 sz : Nat) (u : co_U) : State → Prop := fun U => va_P D cl_all (ak_W u.1 u.2 z0 0 lay_C) U.heap ∧ ak_K D cl_all lay_C u.2 U ∧ va_D (va_A (w0_L h0) sz) (ak_W u.1 u.2 z0 0 lay_C)
set_option maxHeartbeats 4000000 in
set_option maxRecDepth 100000 in
theorem c_L_init (l : Launch) (D : va_G) (h0 sz : Nat) : Met l y_L_init ws_L_init rm_L_init (va_Pc [.ref h0] (pc_L D h0 sz)) (va_Qv (fun u : co_U => u.1 0 = h0) (pq_L D h0 sz) (va_A (w0_L h0) sz)) 19 3101 (va_A (w0_L h0) sz) := by
  refine Met.ofW (cc := prog_1_method_1_code) (maxL := 1) (ret := none) (by decide) rfl ?_
  intro p e s m args below meth c s₁ B hml hv
  obtain ⟨rfl, hsz, hP, hK, hD0, hN1, hN2, hN3⟩ := hv
  have hx := B.exec
  have hb := B.bytes
  have hr := B.returns
  have hts := atoms_spec (ws := ws_L_init) B.pre
  have hown : s.vm.findClass "LogicalPairs" = some m.cls := findClass_of_methodNamed B.named
  have hlocks := B.notSynchronized
  have hin : meth.name = "<init>" := (name_of_methodNamed B.named B.method).1
  subst hsz
  have hD := hD0.self (sz := s.heap.size)
  generalize hAe : va_A (w0_L h0) s.heap.size = A at hD ⊢
  have hA : ∀ q : Nat, s.heap.size ≤ q → A q := fun q h => by rw [← hAe]; exact Or.inr h
  have hS : va_S A s.heap s.heap [] := va_S.rf
  have hl := lv_entry ([.ref h0]) (n := 1) (Nat.le_of_ble_eq_true rfl)
  rw [lg_entry_eq]
  generalize (lg_sl ([.ref h0]) ++ List.replicate (1 - (lg_sl ([.ref h0])).length) Slot.unset).toArray = ls at hl ⊢
  have hl : lv_has ls 1 [(0, .ref h0)] := hl
  refine lv_aload_n hx hb d_L_init_0 rfl (lv_at hl 0 rfl) ?_
  refine W.objInit hx hb hown (hts _ (List.mem_cons_of_mem _ (ak_mem (k := 31) (by decide +kernel : ak_nth wd_tbl 31 = some (.methodLink "LogicalPairs" 1 objectInit))))) (hts _ (List.mem_cons_of_mem _ (ak_mem (k := 32) (by decide +kernel : ak_nth wd_tbl 32 = some (.instanceMethod objectInit))))) (hts _ (List.mem_cons_of_mem _ (ak_mem (k := 33) (by decide +kernel : ak_nth wd_tbl 33 = some (.code objectInit object_method_1_code 1 none))))) rfl (by rw [hml]; exact hl.1) rfl d_L_init_1 (Nat.le_of_ble_eq_true rfl) (Nat.le_of_ble_eq_true rfl) ?_
  refine W.eq (g2 := F0 m 4 ls []) rfl ?_
  unfold pq_L
  rw [hAe]
  have hP : va_P D cl_all [(h0, .inr (0, [.null, .null, .null, .null]))] s.heap := hP
  have hD : va_D A [(h0, .inr (0, [.null, .null, .null, .null]))] := hD
  refine lv_aload_n hx hb d_L_init_4 rfl (lv_at hl 0 rfl) ?_
  refine va_new (ci := 1) (fs := [.int 0, .null, .null, .null]) (C := "LogicalPairs$Kinds") (T := F_K) (N := 4) hx hb hts (fun w h => List.mem_cons_of_mem _ (in_K w h)) t_K tk_K hown (hts _ (List.mem_cons_of_mem _ (ak_mem (k := 34) (by decide +kernel : ak_nth wd_tbl 34 = some (.classLink "LogicalPairs" 7 "LogicalPairs$Kinds"))))) (hts _ (List.mem_cons_of_mem _ (ak_mem (k := 35) (by decide +kernel : ak_nth wd_tbl 35 = some (.instantiable "LogicalPairs$Kinds" 4))))) (hts _ (List.mem_cons_of_mem _ (ak_mem (k := 21) (by decide +kernel : ak_nth wd_tbl 21 = some (.initialized "LogicalPairs$Kinds"))))) hK hP hD hS hA rfl (fun j hj => by rcases (show j = 0 ∨ j = 1 ∨ j = 2 ∨ j = 3 by omega) with rfl | rfl | rfl | rfl <;> rfl) (Nat.le_of_ble_eq_true rfl) (Nat.le_of_ble_eq_true rfl) d_L_init_5 (fun qK H hP hD hS => ?_)
  have hP : va_P D cl_all [(h0, .inr (0, [.null, .null, .null, .null])), (qK, .inr (1, [.int 0, .null, .null, .null]))] H := hP
  have hD : va_D A [(h0, .inr (0, [.null, .null, .null, .null])), (qK, .inr (1, [.int 0, .null, .null, .null]))] := hD
  refine W.widen (k := 1) (n := 4) (Nat.le_of_ble_eq_true rfl) (Nat.le_of_ble_eq_true rfl) ?_
  refine lv_dup hx hb d_L_init_8 rfl ?_
  have hPc : va_P D cl_all (w0_K qK) H := hP.sub (ws' := [(qK, .inr (1, [.int 0, .null, .null, .null]))]) [1] rfl
  have hDc : va_D A (w0_K qK) := hD.sub (ws' := [(qK, .inr (1, [.int 0, .null, .null, .null]))]) [1] (by decide) rfl
  have hKc : va_K D cl_all [] s := hK.sub (tys' := []) [] rfl
  have hFc := va_free (wc := w0_K qK) hD hS hA [1] rfl
  refine va_callv (va_runIN (As := []) (rest := [.ref qK, .ref h0]) ⟨hx, hb, hml, hown, hts⟩ (c_K_init l D qK H.size) ⟨va_cnB 0 hts (goodL (by decide +kernel : ak_nth wd_tbl 37 = some (.code y_K_init prog_4_method_1_code 1 none))) rfl rfl rfl hN1 (hts _ (List.mem_cons_of_mem _ (ak_mem (k := 21) (by decide +kernel : ak_nth wd_tbl 21 = some (.initialized "LogicalPairs$Kinds"))))) (by decide +kernel) ⟨Nat.le_of_ble_eq_true rfl, Nat.le_of_ble_eq_true rfl⟩, rfl, (hts _ (List.mem_cons_of_mem _ (ak_mem (k := 36) (by decide +kernel : ak_nth wd_tbl 36 = some (.instanceMethod y_K_init)))))⟩ ⟨fun a U g mk q => by obtain ⟨q0, q1, qP, qK, qD⟩ := q; exact ⟨q0, q1, qP, va_K.moved (u := U) (U := U.calling g mk a) (Vm.Alike.refl U.vm) qK, qD⟩, fun U hU hW => ⟨rfl, by rw [hU], by rw [hU]; exact hPc, va_K.moved hW.alike hKc, hDc.weaken (fun _ _ _ _ => trivial)⟩⟩ rfl rfl hl.1 rfl (lv_room (Nat.le_of_ble_eq_true rfl)) d_L_init_9 ⟨Nat.le_of_ble_eq_true rfl, Nat.le_of_ble_eq_true rfl⟩) hS (fun q _ h => hFc q h) hFc (fun uK t H1 locs ht hvm hw hB hz1 hk1 hS => ?_)
  obtain ⟨hP1, hK1, hD1⟩ := hB
  rw [ht] at hP1
  have hK1 := va_K.moved hvm.symm hK1
  obtain ⟨hP, hD⟩ := va_join (wc := w0_K qK) (wr := [(h0, .inr (0, [.null, .null, .null, .null]))]) (w1 := w1_K qK uK) hP hD [1] [0] rfl rfl (by decide) (by decide) hk1 hFc hP1 hD1
  have hK := hK.app hK1
  generalize H1 = H at hP hS ⊢
  have hP : va_P D cl_all [(h0, .inr (0, [.null, .null, .null, .null])), (qK, .inr (1, [.int 0, .ref (uK.1 1), .ref (uK.1 2), .ref (uK.1 3)])), (uK.1 1, .inl (uK.2 1, 16, .inl (fun _ => 0))), (uK.1 2, .inl (uK.2 2, 16, .inl (fun _ => 0))), (uK.1 3, .inl (uK.2 3, 16, .inl (fun _ => 0)))] H := hP
  have hD : va_D A [(h0, .inr (0, [.null, .null, .null, .null])), (qK, .inr (1, [.int 0, .ref (uK.1 1), .ref (uK.1 2), .ref (uK.1 3)])), (uK.1 1, .inl (uK.2 1, 16, .inl (fun _ => 0))), (uK.1 2, .inl (uK.2 2, 16, .inl (fun _ => 0))), (uK.1 3, .inl (uK.2 3, 16, .inl (fun _ => 0)))] := hD
  have hK : va_K D cl_all [(uK.2 1, .int), (uK.2 2, .int), (uK.2 3, .int)] s := hK
  refine W.widen (k := 4) (n := 52) (Nat.le_of_ble_eq_true rfl) (Nat.le_of_ble_eq_true rfl) ?_
  refine va_putF (D := D) (ci := 0) (v := .ref qK) (ty := .object "LogicalPairs$Kinds") (C := "LogicalPairs") (T := F_L) (N := 4) hx hb hts (fun w h => List.mem_cons_of_mem _ (in_L w h)) t_L tk_L nm_L hown hK hP hD hS 0 rfl rfl 0 (by decide) (hts _ (List.mem_cons_of_mem _ (ak_mem (k := 144) (by decide +kernel : ak_nth wd_tbl 144 = some (.fieldLink "LogicalPairs" 10 "LogicalPairs" "kinds" "LLogicalPairs$Kinds;"))))) (fun _ h9 => h9) rfl hin rfl (by decide +kernel) rfl rfl (Nat.le_of_ble_eq_true rfl) d_L_init_12 (fun H locs hP hD hS => ?_)
  have hP : va_P D cl_all [(h0, .inr (0, [.ref qK, .null, .null, .null])), (qK, .inr (1, [.int 0, .ref (uK.1 1), .ref (uK.1 2), .ref (uK.1 3)])), (uK.1 1, .inl (uK.2 1, 16, .inl (fun _ => 0))), (uK.1 2, .inl (uK.2 2, 16, .inl (fun _ => 0))), (uK.1 3, .inl (uK.2 3, 16, .inl (fun _ => 0)))] H := hP
  have hD : va_D A [(h0, .inr (0, [.ref qK, .null, .null, .null])), (qK, .inr (1, [.int 0, .ref (uK.1 1), .ref (uK.1 2), .ref (uK.1 3)])), (uK.1 1, .inl (uK.2 1, 16, .inl (fun _ => 0))), (uK.1 2, .inl (uK.2 2, 16, .inl (fun _ => 0))), (uK.1 3, .inl (uK.2 3, 16, .inl (fun _ => 0)))] := hD
  refine lv_aload_n hx hb d_L_init_15 rfl (lv_at hl 0 rfl) ?_
  refine va_new (ci := 2) (fs := [.int 0, .null, .null, .null, .null, .null, .null, .null, .null]) (C := "LogicalPairs$Segments") (T := F_S) (N := 9) hx hb hts (fun w h => List.mem_cons_of_mem _ (in_S w h)) t_S tk_S hown (hts _ (List.mem_cons_of_mem _ (ak_mem (k := 58) (by decide +kernel : ak_nth wd_tbl 58 = some (.classLink "LogicalPairs" 16 "LogicalPairs$Segments"))))) (hts _ (List.mem_cons_of_mem _ (ak_mem (k := 59) (by decide +kernel : ak_nth wd_tbl 59 = some (.instantiable "LogicalPairs$Segments" 9))))) (hts _ (List.mem_cons_of_mem _ (ak_mem (k := 22) (by decide +kernel : ak_nth wd_tbl 22 = some (.initialized "LogicalPairs$Segments"))))) hK hP hD hS hA rfl (fun j hj => by rcases (show j = 0 ∨ j = 1 ∨ j = 2 ∨ j = 3 ∨ j = 4 ∨ j = 5 ∨ j = 6 ∨ j = 7 ∨ j = 8 by omega) with rfl | rfl | rfl | rfl | rfl | rfl | rfl | rfl | rfl <;> rfl) (Nat.le_of_ble_eq_true rfl) (Nat.le_of_ble_eq_true rfl) d_L_init_16 (fun qS H hP hD hS => ?_)
  have hP : va_P D cl_all [(h0, .inr (0, [.ref qK, .null, .null, .null])), (qK, .inr (1, [.int 0, .ref (uK.1 1), .ref (uK.1 2), .ref (uK.1 3)])), (uK.1 1, .inl (uK.2 1, 16, .inl (fun _ => 0))), (uK.1 2, .inl (uK.2 2, 16, .inl (fun _ => 0))), (uK.1 3, .inl (uK.2 3, 16, .inl (fun _ => 0))), (qS, .inr (2, [.int 0, .null, .null, .null, .null, .null, .null, .null, .null]))] H := hP
  have hD : va_D A [(h0, .inr (0, [.ref qK, .null, .null, .null])), (qK, .inr (1, [.int 0, .ref (uK.1 1), .ref (uK.1 2), .ref (uK.1 3)])), (uK.1 1, .inl (uK.2 1, 16, .inl (fun _ => 0))), (uK.1 2, .inl (uK.2 2, 16, .inl (fun _ => 0))), (uK.1 3, .inl (uK.2 3, 16, .inl (fun _ => 0))), (qS, .inr (2, [.int 0, .null, .null, .null, .null, .null, .null, .null, .null]))] := hD
  refine W.widen (k := 5) (n := 61) (Nat.le_of_ble_eq_true rfl) (Nat.le_of_ble_eq_true rfl) ?_
  refine lv_dup hx hb d_L_init_19 rfl ?_
  have hPc : va_P D cl_all (w0_S qS) H := hP.sub (ws' := [(qS, .inr (2, [.int 0, .null, .null, .null, .null, .null, .null, .null, .null]))]) [5] rfl
  have hDc : va_D A (w0_S qS) := hD.sub (ws' := [(qS, .inr (2, [.int 0, .null, .null, .null, .null, .null, .null, .null, .null]))]) [5] (by decide) rfl
  have hKc : va_K D cl_all [] s := hK.sub (tys' := []) [] rfl
  have hFc := va_free (wc := w0_S qS) hD hS hA [5] rfl
  refine va_callv (va_runIN (As := []) (rest := [.ref qS, .ref h0]) ⟨hx, hb, hml, hown, hts⟩ (c_S_init l D qS H.size) ⟨va_cnB 0 hts (goodL (by decide +kernel : ak_nth wd_tbl 61 = some (.code y_S_init prog_5_method_1_code 1 none))) rfl rfl rfl hN2 (hts _ (List.mem_cons_of_mem _ (ak_mem (k := 22) (by decide +kernel : ak_nth wd_tbl 22 = some (.initialized "LogicalPairs$Segments"))))) (by decide +kernel) ⟨Nat.le_of_ble_eq_true rfl, Nat.le_of_ble_eq_true rfl⟩, rfl, (hts _ (List.mem_cons_of_mem _ (ak_mem (k := 60) (by decide +kernel : ak_nth wd_tbl 60 = some (.instanceMethod y_S_init)))))⟩ ⟨fun a U g mk q => by obtain ⟨q0, q1, qP, qK, qD⟩ := q; exact ⟨q0, q1, qP, va_K.moved (u := U) (U := U.calling g mk a) (Vm.Alike.refl U.vm) qK, qD⟩, fun U hU hW => ⟨rfl, by rw [hU], by rw [hU]; exact hPc, va_K.moved hW.alike hKc, hDc.weaken (fun _ _ _ _ => trivial)⟩⟩ rfl rfl hl.1 rfl (lv_room (Nat.le_of_ble_eq_true rfl)) d_L_init_20 ⟨Nat.le_of_ble_eq_true rfl, Nat.le_of_ble_eq_true rfl⟩) hS (fun q _ h => hFc q h) hFc (fun uS t H1 locs ht hvm hw hB hz1 hk1 hS => ?_)
  obtain ⟨hP1, hK1, hD1⟩ := hB
  rw [ht] at hP1
  have hK1 := va_K.moved hvm.symm hK1
  obtain ⟨hP, hD⟩ := va_join (wc := w0_S qS) (wr := [(h0, .inr (0, [.ref qK, .null, .null, .null])), (qK, .inr (1, [.int 0, .ref (uK.1 1), .ref (uK.1 2), .ref (uK.1 3)])), (uK.1 1, .inl (uK.2 1, 16, .inl (fun _ => 0))), (uK.1 2, .inl (uK.2 2, 16, .inl (fun _ => 0))), (uK.1 3, .inl (uK.2 3, 16, .inl (fun _ => 0)))]) (w1 := w1_S qS uS) hP hD [5] [0, 1, 2, 3, 4] rfl rfl (by decide) (by decide) hk1 hFc hP1 hD1
  have hK := hK.app hK1
  generalize H1 = H at hP hS ⊢
  have hP : va_P D cl_all [(h0, .inr (0, [.ref qK, .null, .null, .null])), (qK, .inr (1, [.int 0, .ref (uK.1 1), .ref (uK.1 2), .ref (uK.1 3)])), (uK.1 1, .inl (uK.2 1, 16, .inl (fun _ => 0))), (uK.1 2, .inl (uK.2 2, 16, .inl (fun _ => 0))), (uK.1 3, .inl (uK.2 3, 16, .inl (fun _ => 0))), (qS, .inr (2, [.int 0, .ref (uS.1 1), .ref (uS.1 2), .ref (uS.1 3), .ref (uS.1 4), .ref (uS.1 5), .ref (uS.1 6), .ref (uS.1 7), .ref (uS.1 8)])), (uS.1 1, .inl (uS.2 1, 251, .inl (fun _ => 0))), (uS.1 2, .inl (uS.2 2, 251, .inl (fun _ => 0))), (uS.1 3, .inl (uS.2 3, 251, .inr (.inl (fun _ => 0)))), (uS.1 4, .inl (uS.2 4, 251, .inl (fun _ => 0))), (uS.1 5, .inl (uS.2 5, 251, .inl (fun _ => 0))), (uS.1 6, .inl (uS.2 6, 251, .inl (fun _ => 0))), (uS.1 7, .inl (uS.2 7, 753, .inl (fun _ => 0))), (uS.1 8, .inl (uS.2 8, 250, .inl (fun _ => 0)))] H := hP
  have hD : va_D A [(h0, .inr (0, [.ref qK, .null, .null, .null])), (qK, .inr (1, [.int 0, .ref (uK.1 1), .ref (uK.1 2), .ref (uK.1 3)])), (uK.1 1, .inl (uK.2 1, 16, .inl (fun _ => 0))), (uK.1 2, .inl (uK.2 2, 16, .inl (fun _ => 0))), (uK.1 3, .inl (uK.2 3, 16, .inl (fun _ => 0))), (qS, .inr (2, [.int 0, .ref (uS.1 1), .ref (uS.1 2), .ref (uS.1 3), .ref (uS.1 4), .ref (uS.1 5), .ref (uS.1 6), .ref (uS.1 7), .ref (uS.1 8)])), (uS.1 1, .inl (uS.2 1, 251, .inl (fun _ => 0))), (uS.1 2, .inl (uS.2 2, 251, .inl (fun _ => 0))), (uS.1 3, .inl (uS.2 3, 251, .inr (.inl (fun _ => 0)))), (uS.1 4, .inl (uS.2 4, 251, .inl (fun _ => 0))), (uS.1 5, .inl (uS.2 5, 251, .inl (fun _ => 0))), (uS.1 6, .inl (uS.2 6, 251, .inl (fun _ => 0))), (uS.1 7, .inl (uS.2 7, 753, .inl (fun _ => 0))), (uS.1 8, .inl (uS.2 8, 250, .inl (fun _ => 0)))] := hD
  have hK : va_K D cl_all [(uK.2 1, .int), (uK.2 2, .int), (uK.2 3, .int), (uS.2 1, .int), (uS.2 2, .int), (uS.2 3, .long), (uS.2 4, .int), (uS.2 5, .int), (uS.2 6, .int), (uS.2 7, .int), (uS.2 8, .int)] s := hK
  refine W.widen (k := 13) (n := 2570) (Nat.le_of_ble_eq_true rfl) (Nat.le_of_ble_eq_true rfl) ?_
  refine va_putF (D := D) (ci := 0) (v := .ref qS) (ty := .object "LogicalPairs$Segments") (C := "LogicalPairs") (T := F_L) (N := 4) hx hb hts (fun w h => List.mem_cons_of_mem _ (in_L w h)) t_L tk_L nm_L hown hK hP hD hS 0 rfl rfl 1 (by decide) (hts _ (List.mem_cons_of_mem _ (ak_mem (k := 145) (by decide +kernel : ak_nth wd_tbl 145 = some (.fieldLink "LogicalPairs" 19 "LogicalPairs" "segments" "LLogicalPairs$Segments;"))))) (fun _ h9 => h9) rfl hin rfl (by decide +kernel) rfl rfl (Nat.le_of_ble_eq_true rfl) d_L_init_23 (fun H locs hP hD hS => ?_)
  have hP : va_P D cl_all [(h0, .inr (0, [.ref qK, .ref qS, .null, .null])), (qK, .inr (1, [.int 0, .ref (uK.1 1), .ref (uK.1 2), .ref (uK.1 3)])), (uK.1 1, .inl (uK.2 1, 16, .inl (fun _ => 0))), (uK.1 2, .inl (uK.2 2, 16, .inl (fun _ => 0))), (uK.1 3, .inl (uK.2 3, 16, .inl (fun _ => 0))), (qS, .inr (2, [.int 0, .ref (uS.1 1), .ref (uS.1 2), .ref (uS.1 3), .ref (uS.1 4), .ref (uS.1 5), .ref (uS.1 6), .ref (uS.1 7), .ref (uS.1 8)])), (uS.1 1, .inl (uS.2 1, 251, .inl (fun _ => 0))), (uS.1 2, .inl (uS.2 2, 251, .inl (fun _ => 0))), (uS.1 3, .inl (uS.2 3, 251, .inr (.inl (fun _ => 0)))), (uS.1 4, .inl (uS.2 4, 251, .inl (fun _ => 0))), (uS.1 5, .inl (uS.2 5, 251, .inl (fun _ => 0))), (uS.1 6, .inl (uS.2 6, 251, .inl (fun _ => 0))), (uS.1 7, .inl (uS.2 7, 753, .inl (fun _ => 0))), (uS.1 8, .inl (uS.2 8, 250, .inl (fun _ => 0)))] H := hP
  have hD : va_D A [(h0, .inr (0, [.ref qK, .ref qS, .null, .null])), (qK, .inr (1, [.int 0, .ref (uK.1 1), .ref (uK.1 2), .ref (uK.1 3)])), (uK.1 1, .inl (uK.2 1, 16, .inl (fun _ => 0))), (uK.1 2, .inl (uK.2 2, 16, .inl (fun _ => 0))), (uK.1 3, .inl (uK.2 3, 16, .inl (fun _ => 0))), (qS, .inr (2, [.int 0, .ref (uS.1 1), .ref (uS.1 2), .ref (uS.1 3), .ref (uS.1 4), .ref (uS.1 5), .ref (uS.1 6), .ref (uS.1 7), .ref (uS.1 8)])), (uS.1 1, .inl (uS.2 1, 251, .inl (fun _ => 0))), (uS.1 2, .inl (uS.2 2, 251, .inl (fun _ => 0))), (uS.1 3, .inl (uS.2 3, 251, .inr (.inl (fun _ => 0)))), (uS.1 4, .inl (uS.2 4, 251, .inl (fun _ => 0))), (uS.1 5, .inl (uS.2 5, 251, .inl (fun _ => 0))), (uS.1 6, .inl (uS.2 6, 251, .inl (fun _ => 0))), (uS.1 7, .inl (uS.2 7, 753, .inl (fun _ => 0))), (uS.1 8, .inl (uS.2 8, 250, .inl (fun _ => 0)))] := hD
  refine lv_aload_n hx hb d_L_init_26 rfl (lv_at hl 0 rfl) ?_
  refine va_new (ci := 3) (fs := [.int 0, .null, .null]) (C := "LogicalPairs$Indexes") (T := F_X) (N := 3) hx hb hts (fun w h => List.mem_cons_of_mem _ (in_X w h)) t_X tk_X hown (hts _ (List.mem_cons_of_mem _ (ak_mem (k := 102) (by decide +kernel : ak_nth wd_tbl 102 = some (.classLink "LogicalPairs" 23 "LogicalPairs$Indexes"))))) (hts _ (List.mem_cons_of_mem _ (ak_mem (k := 103) (by decide +kernel : ak_nth wd_tbl 103 = some (.instantiable "LogicalPairs$Indexes" 3))))) (hts _ (List.mem_cons_of_mem _ (ak_mem (k := 23) (by decide +kernel : ak_nth wd_tbl 23 = some (.initialized "LogicalPairs$Indexes"))))) hK hP hD hS hA rfl (fun j hj => by rcases (show j = 0 ∨ j = 1 ∨ j = 2 by omega) with rfl | rfl | rfl <;> rfl) (Nat.le_of_ble_eq_true rfl) (Nat.le_of_ble_eq_true rfl) d_L_init_27 (fun qX H hP hD hS => ?_)
  have hP : va_P D cl_all [(h0, .inr (0, [.ref qK, .ref qS, .null, .null])), (qK, .inr (1, [.int 0, .ref (uK.1 1), .ref (uK.1 2), .ref (uK.1 3)])), (uK.1 1, .inl (uK.2 1, 16, .inl (fun _ => 0))), (uK.1 2, .inl (uK.2 2, 16, .inl (fun _ => 0))), (uK.1 3, .inl (uK.2 3, 16, .inl (fun _ => 0))), (qS, .inr (2, [.int 0, .ref (uS.1 1), .ref (uS.1 2), .ref (uS.1 3), .ref (uS.1 4), .ref (uS.1 5), .ref (uS.1 6), .ref (uS.1 7), .ref (uS.1 8)])), (uS.1 1, .inl (uS.2 1, 251, .inl (fun _ => 0))), (uS.1 2, .inl (uS.2 2, 251, .inl (fun _ => 0))), (uS.1 3, .inl (uS.2 3, 251, .inr (.inl (fun _ => 0)))), (uS.1 4, .inl (uS.2 4, 251, .inl (fun _ => 0))), (uS.1 5, .inl (uS.2 5, 251, .inl (fun _ => 0))), (uS.1 6, .inl (uS.2 6, 251, .inl (fun _ => 0))), (uS.1 7, .inl (uS.2 7, 753, .inl (fun _ => 0))), (uS.1 8, .inl (uS.2 8, 250, .inl (fun _ => 0))), (qX, .inr (3, [.int 0, .null, .null]))] H := hP
  have hD : va_D A [(h0, .inr (0, [.ref qK, .ref qS, .null, .null])), (qK, .inr (1, [.int 0, .ref (uK.1 1), .ref (uK.1 2), .ref (uK.1 3)])), (uK.1 1, .inl (uK.2 1, 16, .inl (fun _ => 0))), (uK.1 2, .inl (uK.2 2, 16, .inl (fun _ => 0))), (uK.1 3, .inl (uK.2 3, 16, .inl (fun _ => 0))), (qS, .inr (2, [.int 0, .ref (uS.1 1), .ref (uS.1 2), .ref (uS.1 3), .ref (uS.1 4), .ref (uS.1 5), .ref (uS.1 6), .ref (uS.1 7), .ref (uS.1 8)])), (uS.1 1, .inl (uS.2 1, 251, .inl (fun _ => 0))), (uS.1 2, .inl (uS.2 2, 251, .inl (fun _ => 0))), (uS.1 3, .inl (uS.2 3, 251, .inr (.inl (fun _ => 0)))), (uS.1 4, .inl (uS.2 4, 251, .inl (fun _ => 0))), (uS.1 5, .inl (uS.2 5, 251, .inl (fun _ => 0))), (uS.1 6, .inl (uS.2 6, 251, .inl (fun _ => 0))), (uS.1 7, .inl (uS.2 7, 753, .inl (fun _ => 0))), (uS.1 8, .inl (uS.2 8, 250, .inl (fun _ => 0))), (qX, .inr (3, [.int 0, .null, .null]))] := hD
  refine W.widen (k := 14) (n := 2573) (Nat.le_of_ble_eq_true rfl) (Nat.le_of_ble_eq_true rfl) ?_
  refine lv_dup hx hb d_L_init_30 rfl ?_
  have hPc : va_P D cl_all (w0_X qX) H := hP.sub (ws' := [(qX, .inr (3, [.int 0, .null, .null]))]) [14] rfl
  have hDc : va_D A (w0_X qX) := hD.sub (ws' := [(qX, .inr (3, [.int 0, .null, .null]))]) [14] (by decide) rfl
  have hKc : va_K D cl_all [] s := hK.sub (tys' := []) [] rfl
  have hFc := va_free (wc := w0_X qX) hD hS hA [14] rfl
  refine va_callv (va_runIN (As := []) (rest := [.ref qX, .ref h0]) ⟨hx, hb, hml, hown, hts⟩ (c_X_init l D qX H.size) ⟨va_cnB 0 hts (goodL (by decide +kernel : ak_nth wd_tbl 105 = some (.code y_X_init prog_3_method_1_code 1 none))) rfl rfl rfl hN3 (hts _ (List.mem_cons_of_mem _ (ak_mem (k := 23) (by decide +kernel : ak_nth wd_tbl 23 = some (.initialized "LogicalPairs$Indexes"))))) (by decide +kernel) ⟨Nat.le_of_ble_eq_true rfl, Nat.le_of_ble_eq_true rfl⟩, rfl, (hts _ (List.mem_cons_of_mem _ (ak_mem (k := 104) (by decide +kernel : ak_nth wd_tbl 104 = some (.instanceMethod y_X_init)))))⟩ ⟨fun a U g mk q => by obtain ⟨q0, q1, qP, qK, qD⟩ := q; exact ⟨q0, q1, qP, va_K.moved (u := U) (U := U.calling g mk a) (Vm.Alike.refl U.vm) qK, qD⟩, fun U hU hW => ⟨rfl, by rw [hU], by rw [hU]; exact hPc, va_K.moved hW.alike hKc, hDc.weaken (fun _ _ _ _ => trivial)⟩⟩ rfl rfl hl.1 rfl (lv_room (Nat.le_of_ble_eq_true rfl)) d_L_init_31 ⟨Nat.le_of_ble_eq_true rfl, Nat.le_of_ble_eq_true rfl⟩) hS (fun q _ h => hFc q h) hFc (fun uX t H1 locs ht hvm hw hB hz1 hk1 hS => ?_)
  obtain ⟨hP1, hK1, hD1⟩ := hB
  rw [ht] at hP1
  have hK1 := va_K.moved hvm.symm hK1
  obtain ⟨hP, hD⟩ := va_join (wc := w0_X qX) (wr := [(h0, .inr (0, [.ref qK, .ref qS, .null, .null])), (qK, .inr (1, [.int 0, .ref (uK.1 1), .ref (uK.1 2), .ref (uK.1 3)])), (uK.1 1, .inl (uK.2 1, 16, .inl (fun _ => 0))), (uK.1 2, .inl (uK.2 2, 16, .inl (fun _ => 0))), (uK.1 3, .inl (uK.2 3, 16, .inl (fun _ => 0))), (qS, .inr (2, [.int 0, .ref (uS.1 1), .ref (uS.1 2), .ref (uS.1 3), .ref (uS.1 4), .ref (uS.1 5), .ref (uS.1 6), .ref (uS.1 7), .ref (uS.1 8)])), (uS.1 1, .inl (uS.2 1, 251, .inl (fun _ => 0))), (uS.1 2, .inl (uS.2 2, 251, .inl (fun _ => 0))), (uS.1 3, .inl (uS.2 3, 251, .inr (.inl (fun _ => 0)))), (uS.1 4, .inl (uS.2 4, 251, .inl (fun _ => 0))), (uS.1 5, .inl (uS.2 5, 251, .inl (fun _ => 0))), (uS.1 6, .inl (uS.2 6, 251, .inl (fun _ => 0))), (uS.1 7, .inl (uS.2 7, 753, .inl (fun _ => 0))), (uS.1 8, .inl (uS.2 8, 250, .inl (fun _ => 0)))]) (w1 := w1_X qX uX) hP hD [14] [0, 1, 2, 3, 4, 5, 6, 7, 8, 9, 10, 11, 12, 13] rfl rfl (by decide) (by decide) hk1 hFc hP1 hD1
  have hK := hK.app hK1
  generalize H1 = H at hP hS ⊢
  have hP : va_P D cl_all [(h0, .inr (0, [.ref qK, .ref qS, .null, .null])), (qK, .inr (1, [.int 0, .ref (uK.1 1), .ref (uK.1 2), .ref (uK.1 3)])), (uK.1 1, .inl (uK.2 1, 16, .inl (fun _ => 0))), (uK.1 2, .inl (uK.2 2, 16, .inl (fun _ => 0))), (uK.1 3, .inl (uK.2 3, 16, .inl (fun _ => 0))), (qS, .inr (2, [.int 0, .ref (uS.1 1), .ref (uS.1 2), .ref (uS.1 3), .ref (uS.1 4), .ref (uS.1 5), .ref (uS.1 6), .ref (uS.1 7), .ref (uS.1 8)])), (uS.1 1, .inl (uS.2 1, 251, .inl (fun _ => 0))), (uS.1 2, .inl (uS.2 2, 251, .inl (fun _ => 0))), (uS.1 3, .inl (uS.2 3, 251, .inr (.inl (fun _ => 0)))), (uS.1 4, .inl (uS.2 4, 251, .inl (fun _ => 0))), (uS.1 5, .inl (uS.2 5, 251, .inl (fun _ => 0))), (uS.1 6, .inl (uS.2 6, 251, .inl (fun _ => 0))), (uS.1 7, .inl (uS.2 7, 753, .inl (fun _ => 0))), (uS.1 8, .inl (uS.2 8, 250, .inl (fun _ => 0))), (qX, .inr (3, [.int 0, .ref (uX.1 1), .ref (uX.1 2)])), (uX.1 1, .inl (uX.2 1, 11, .inl (fun _ => 0))), (uX.1 2, .inl (uX.2 2, 11, .inl (fun _ => 0)))] H := hP
  have hD : va_D A [(h0, .inr (0, [.ref qK, .ref qS, .null, .null])), (qK, .inr (1, [.int 0, .ref (uK.1 1), .ref (uK.1 2), .ref (uK.1 3)])), (uK.1 1, .inl (uK.2 1, 16, .inl (fun _ => 0))), (uK.1 2, .inl (uK.2 2, 16, .inl (fun _ => 0))), (uK.1 3, .inl (uK.2 3, 16, .inl (fun _ => 0))), (qS, .inr (2, [.int 0, .ref (uS.1 1), .ref (uS.1 2), .ref (uS.1 3), .ref (uS.1 4), .ref (uS.1 5), .ref (uS.1 6), .ref (uS.1 7), .ref (uS.1 8)])), (uS.1 1, .inl (uS.2 1, 251, .inl (fun _ => 0))), (uS.1 2, .inl (uS.2 2, 251, .inl (fun _ => 0))), (uS.1 3, .inl (uS.2 3, 251, .inr (.inl (fun _ => 0)))), (uS.1 4, .inl (uS.2 4, 251, .inl (fun _ => 0))), (uS.1 5, .inl (uS.2 5, 251, .inl (fun _ => 0))), (uS.1 6, .inl (uS.2 6, 251, .inl (fun _ => 0))), (uS.1 7, .inl (uS.2 7, 753, .inl (fun _ => 0))), (uS.1 8, .inl (uS.2 8, 250, .inl (fun _ => 0))), (qX, .inr (3, [.int 0, .ref (uX.1 1), .ref (uX.1 2)])), (uX.1 1, .inl (uX.2 1, 11, .inl (fun _ => 0))), (uX.1 2, .inl (uX.2 2, 11, .inl (fun _ => 0)))] := hD
  have hK : va_K D cl_all [(uK.2 1, .int), (uK.2 2, .int), (uK.2 3, .int), (uS.2 1, .int), (uS.2 2, .int), (uS.2 3, .long), (uS.2 4, .int), (uS.2 5, .int), (uS.2 6, .int), (uS.2 7, .int), (uS.2 8, .int), (uX.2 1, .int), (uX.2 2, .boolean)] s := hK
  refine W.widen (k := 16) (n := 2595) (Nat.le_of_ble_eq_true rfl) (Nat.le_of_ble_eq_true rfl) ?_
  refine va_putF (D := D) (ci := 0) (v := .ref qX) (ty := .object "LogicalPairs$Indexes") (C := "LogicalPairs") (T := F_L) (N := 4) hx hb hts (fun w h => List.mem_cons_of_mem _ (in_L w h)) t_L tk_L nm_L hown hK hP hD hS 0 rfl rfl 2 (by decide) (hts _ (List.mem_cons_of_mem _ (ak_mem (k := 146) (by decide +kernel : ak_nth wd_tbl 146 = some (.fieldLink "LogicalPairs" 26 "LogicalPairs" "indexes" "LLogicalPairs$Indexes;"))))) (fun _ h9 => h9) rfl hin rfl (by decide +kernel) rfl rfl (Nat.le_of_ble_eq_true rfl) d_L_init_34 (fun H locs hP hD hS => ?_)
  have hP : va_P D cl_all [(h0, .inr (0, [.ref qK, .ref qS, .ref qX, .null])), (qK, .inr (1, [.int 0, .ref (uK.1 1), .ref (uK.1 2), .ref (uK.1 3)])), (uK.1 1, .inl (uK.2 1, 16, .inl (fun _ => 0))), (uK.1 2, .inl (uK.2 2, 16, .inl (fun _ => 0))), (uK.1 3, .inl (uK.2 3, 16, .inl (fun _ => 0))), (qS, .inr (2, [.int 0, .ref (uS.1 1), .ref (uS.1 2), .ref (uS.1 3), .ref (uS.1 4), .ref (uS.1 5), .ref (uS.1 6), .ref (uS.1 7), .ref (uS.1 8)])), (uS.1 1, .inl (uS.2 1, 251, .inl (fun _ => 0))), (uS.1 2, .inl (uS.2 2, 251, .inl (fun _ => 0))), (uS.1 3, .inl (uS.2 3, 251, .inr (.inl (fun _ => 0)))), (uS.1 4, .inl (uS.2 4, 251, .inl (fun _ => 0))), (uS.1 5, .inl (uS.2 5, 251, .inl (fun _ => 0))), (uS.1 6, .inl (uS.2 6, 251, .inl (fun _ => 0))), (uS.1 7, .inl (uS.2 7, 753, .inl (fun _ => 0))), (uS.1 8, .inl (uS.2 8, 250, .inl (fun _ => 0))), (qX, .inr (3, [.int 0, .ref (uX.1 1), .ref (uX.1 2)])), (uX.1 1, .inl (uX.2 1, 11, .inl (fun _ => 0))), (uX.1 2, .inl (uX.2 2, 11, .inl (fun _ => 0)))] H := hP
  have hD : va_D A [(h0, .inr (0, [.ref qK, .ref qS, .ref qX, .null])), (qK, .inr (1, [.int 0, .ref (uK.1 1), .ref (uK.1 2), .ref (uK.1 3)])), (uK.1 1, .inl (uK.2 1, 16, .inl (fun _ => 0))), (uK.1 2, .inl (uK.2 2, 16, .inl (fun _ => 0))), (uK.1 3, .inl (uK.2 3, 16, .inl (fun _ => 0))), (qS, .inr (2, [.int 0, .ref (uS.1 1), .ref (uS.1 2), .ref (uS.1 3), .ref (uS.1 4), .ref (uS.1 5), .ref (uS.1 6), .ref (uS.1 7), .ref (uS.1 8)])), (uS.1 1, .inl (uS.2 1, 251, .inl (fun _ => 0))), (uS.1 2, .inl (uS.2 2, 251, .inl (fun _ => 0))), (uS.1 3, .inl (uS.2 3, 251, .inr (.inl (fun _ => 0)))), (uS.1 4, .inl (uS.2 4, 251, .inl (fun _ => 0))), (uS.1 5, .inl (uS.2 5, 251, .inl (fun _ => 0))), (uS.1 6, .inl (uS.2 6, 251, .inl (fun _ => 0))), (uS.1 7, .inl (uS.2 7, 753, .inl (fun _ => 0))), (uS.1 8, .inl (uS.2 8, 250, .inl (fun _ => 0))), (qX, .inr (3, [.int 0, .ref (uX.1 1), .ref (uX.1 2)])), (uX.1 1, .inl (uX.2 1, 11, .inl (fun _ => 0))), (uX.1 2, .inl (uX.2 2, 11, .inl (fun _ => 0)))] := hD
  refine lv_aload_n hx hb d_L_init_37 rfl (lv_at hl 0 rfl) ?_
  refine va_new (ci := 4) (fs := [.null, .null, .null, .null, .int 0]) (C := "LogicalPairs$Deletion") (T := F_D) (N := 5) hx hb hts (fun w h => List.mem_cons_of_mem _ (in_D w h)) t_D tk_D hown (hts _ (List.mem_cons_of_mem _ (ak_mem (k := 121) (by decide +kernel : ak_nth wd_tbl 121 = some (.classLink "LogicalPairs" 30 "LogicalPairs$Deletion"))))) (hts _ (List.mem_cons_of_mem _ (ak_mem (k := 122) (by decide +kernel : ak_nth wd_tbl 122 = some (.instantiable "LogicalPairs$Deletion" 5))))) (hts _ (List.mem_cons_of_mem _ (ak_mem (k := 24) (by decide +kernel : ak_nth wd_tbl 24 = some (.initialized "LogicalPairs$Deletion"))))) hK hP hD hS hA rfl (fun j hj => by rcases (show j = 0 ∨ j = 1 ∨ j = 2 ∨ j = 3 ∨ j = 4 by omega) with rfl | rfl | rfl | rfl | rfl <;> rfl) (Nat.le_of_ble_eq_true rfl) (Nat.le_of_ble_eq_true rfl) d_L_init_38 (fun qD H hP hD hS => ?_)
  have hP : va_P D cl_all [(h0, .inr (0, [.ref qK, .ref qS, .ref qX, .null])), (qK, .inr (1, [.int 0, .ref (uK.1 1), .ref (uK.1 2), .ref (uK.1 3)])), (uK.1 1, .inl (uK.2 1, 16, .inl (fun _ => 0))), (uK.1 2, .inl (uK.2 2, 16, .inl (fun _ => 0))), (uK.1 3, .inl (uK.2 3, 16, .inl (fun _ => 0))), (qS, .inr (2, [.int 0, .ref (uS.1 1), .ref (uS.1 2), .ref (uS.1 3), .ref (uS.1 4), .ref (uS.1 5), .ref (uS.1 6), .ref (uS.1 7), .ref (uS.1 8)])), (uS.1 1, .inl (uS.2 1, 251, .inl (fun _ => 0))), (uS.1 2, .inl (uS.2 2, 251, .inl (fun _ => 0))), (uS.1 3, .inl (uS.2 3, 251, .inr (.inl (fun _ => 0)))), (uS.1 4, .inl (uS.2 4, 251, .inl (fun _ => 0))), (uS.1 5, .inl (uS.2 5, 251, .inl (fun _ => 0))), (uS.1 6, .inl (uS.2 6, 251, .inl (fun _ => 0))), (uS.1 7, .inl (uS.2 7, 753, .inl (fun _ => 0))), (uS.1 8, .inl (uS.2 8, 250, .inl (fun _ => 0))), (qX, .inr (3, [.int 0, .ref (uX.1 1), .ref (uX.1 2)])), (uX.1 1, .inl (uX.2 1, 11, .inl (fun _ => 0))), (uX.1 2, .inl (uX.2 2, 11, .inl (fun _ => 0))), (qD, .inr (4, [.null, .null, .null, .null, .int 0]))] H := hP
  have hD : va_D A [(h0, .inr (0, [.ref qK, .ref qS, .ref qX, .null])), (qK, .inr (1, [.int 0, .ref (uK.1 1), .ref (uK.1 2), .ref (uK.1 3)])), (uK.1 1, .inl (uK.2 1, 16, .inl (fun _ => 0))), (uK.1 2, .inl (uK.2 2, 16, .inl (fun _ => 0))), (uK.1 3, .inl (uK.2 3, 16, .inl (fun _ => 0))), (qS, .inr (2, [.int 0, .ref (uS.1 1), .ref (uS.1 2), .ref (uS.1 3), .ref (uS.1 4), .ref (uS.1 5), .ref (uS.1 6), .ref (uS.1 7), .ref (uS.1 8)])), (uS.1 1, .inl (uS.2 1, 251, .inl (fun _ => 0))), (uS.1 2, .inl (uS.2 2, 251, .inl (fun _ => 0))), (uS.1 3, .inl (uS.2 3, 251, .inr (.inl (fun _ => 0)))), (uS.1 4, .inl (uS.2 4, 251, .inl (fun _ => 0))), (uS.1 5, .inl (uS.2 5, 251, .inl (fun _ => 0))), (uS.1 6, .inl (uS.2 6, 251, .inl (fun _ => 0))), (uS.1 7, .inl (uS.2 7, 753, .inl (fun _ => 0))), (uS.1 8, .inl (uS.2 8, 250, .inl (fun _ => 0))), (qX, .inr (3, [.int 0, .ref (uX.1 1), .ref (uX.1 2)])), (uX.1 1, .inl (uX.2 1, 11, .inl (fun _ => 0))), (uX.1 2, .inl (uX.2 2, 11, .inl (fun _ => 0))), (qD, .inr (4, [.null, .null, .null, .null, .int 0]))] := hD
  refine W.widen (k := 17) (n := 2600) (Nat.le_of_ble_eq_true rfl) (Nat.le_of_ble_eq_true rfl) ?_
  refine lv_dup hx hb d_L_init_41 rfl ?_
  refine lv_aload_n hx hb d_L_init_42 rfl (lv_at hl 0 rfl) ?_
  refine va_get (D := D) (ci := 0) (C := "LogicalPairs") (T := F_L) (N := 4) hx hb hts (fun w h => List.mem_cons_of_mem _ (in_L w h)) hown hK hP 0 rfl rfl 0 (by decide) (hts _ (List.mem_cons_of_mem _ (ak_mem (k := 144) (by decide +kernel : ak_nth wd_tbl 144 = some (.fieldLink "LogicalPairs" 10 "LogicalPairs" "kinds" "LLogicalPairs$Kinds;"))))) (fun _ h9 => h9) rfl d_L_init_43 ?_
  refine lv_aload_n hx hb d_L_init_46 rfl (lv_at hl 0 rfl) ?_
  refine va_get (D := D) (ci := 0) (C := "LogicalPairs") (T := F_L) (N := 4) hx hb hts (fun w h => List.mem_cons_of_mem _ (in_L w h)) hown hK hP 0 rfl rfl 1 (by decide) (hts _ (List.mem_cons_of_mem _ (ak_mem (k := 145) (by decide +kernel : ak_nth wd_tbl 145 = some (.fieldLink "LogicalPairs" 19 "LogicalPairs" "segments" "LLogicalPairs$Segments;"))))) (fun _ h9 => h9) rfl d_L_init_47 ?_
  have hPc : va_P D cl_all (w0_D qD) H := hP.sub (ws' := [(qD, .inr (4, [.null, .null, .null, .null, .int 0]))]) [17] rfl
  have hDc : va_D A (w0_D qD) := hD.sub (ws' := [(qD, .inr (4, [.null, .null, .null, .null, .int 0]))]) [17] (by decide) rfl
  have hKc : va_K D cl_all [] s := hK.sub (tys' := []) [] rfl
  have hFc := va_free (wc := w0_D qD) hD hS hA [17] rfl
  refine va_callv (va_runI (As := [.ref qK, .ref qS]) (rest := [.ref qD, .ref h0]) ⟨hx, hb, hml, hown, hts⟩ (c_D_init l D qD qK qS H.size) (cwI 2 hts (goodL (by decide +kernel : ak_nth wd_tbl 125 = some (.code y_D_init prog_2_method_1_code 3 none))) rfl rfl rfl (hts _ (List.mem_cons_of_mem _ (ak_mem (k := 24) (by decide +kernel : ak_nth wd_tbl 24 = some (.initialized "LogicalPairs$Deletion"))))) (hts _ (List.mem_cons_of_mem _ (ak_mem (k := 123) (by decide +kernel : ak_nth wd_tbl 123 = some (.methodLink "LogicalPairs" 32 y_D_init))))) (hts _ (List.mem_cons_of_mem _ (ak_mem (k := 124) (by decide +kernel : ak_nth wd_tbl 124 = some (.instanceMethod y_D_init))))) rfl (by decide +kernel) ⟨Nat.le_of_ble_eq_true rfl, Nat.le_of_ble_eq_true rfl⟩) ⟨fun a U g mk q => by obtain ⟨q0, q1, qP, qK, qD⟩ := q; exact ⟨q0, q1, qP, va_K.moved (u := U) (U := U.calling g mk a) (Vm.Alike.refl U.vm) qK, qD⟩, fun U hU hW => ⟨rfl, by rw [hU], by rw [hU]; exact hPc, va_K.moved hW.alike hKc, hDc.weaken (fun _ _ _ _ => trivial)⟩⟩ rfl rfl hl.1 rfl (lv_room (Nat.le_of_ble_eq_true rfl)) d_L_init_50 ⟨Nat.le_of_ble_eq_true rfl, Nat.le_of_ble_eq_true rfl⟩) hS (fun q _ h => hFc q h) hFc (fun uD t H1 locs ht hvm hw hB hz1 hk1 hS => ?_)
  obtain ⟨hP1, hK1, hD1⟩ := hB
  rw [ht] at hP1
  have hK1 := va_K.moved hvm.symm hK1
  obtain ⟨hP, hD⟩ := va_join (wc := w0_D qD) (wr := [(h0, .inr (0, [.ref qK, .ref qS, .ref qX, .null])), (qK, .inr (1, [.int 0, .ref (uK.1 1), .ref (uK.1 2), .ref (uK.1 3)])), (uK.1 1, .inl (uK.2 1, 16, .inl (fun _ => 0))), (uK.1 2, .inl (uK.2 2, 16, .inl (fun _ => 0))), (uK.1 3, .inl (uK.2 3, 16, .inl (fun _ => 0))), (qS, .inr (2, [.int 0, .ref (uS.1 1), .ref (uS.1 2), .ref (uS.1 3), .ref (uS.1 4), .ref (uS.1 5), .ref (uS.1 6), .ref (uS.1 7), .ref (uS.1 8)])), (uS.1 1, .inl (uS.2 1, 251, .inl (fun _ => 0))), (uS.1 2, .inl (uS.2 2, 251, .inl (fun _ => 0))), (uS.1 3, .inl (uS.2 3, 251, .inr (.inl (fun _ => 0)))), (uS.1 4, .inl (uS.2 4, 251, .inl (fun _ => 0))), (uS.1 5, .inl (uS.2 5, 251, .inl (fun _ => 0))), (uS.1 6, .inl (uS.2 6, 251, .inl (fun _ => 0))), (uS.1 7, .inl (uS.2 7, 753, .inl (fun _ => 0))), (uS.1 8, .inl (uS.2 8, 250, .inl (fun _ => 0))), (qX, .inr (3, [.int 0, .ref (uX.1 1), .ref (uX.1 2)])), (uX.1 1, .inl (uX.2 1, 11, .inl (fun _ => 0))), (uX.1 2, .inl (uX.2 2, 11, .inl (fun _ => 0)))]) (w1 := w1_D qD qK qS uD) hP hD [17] [0, 1, 2, 3, 4, 5, 6, 7, 8, 9, 10, 11, 12, 13, 14, 15, 16] rfl rfl (by decide) (by decide) hk1 hFc hP1 hD1
  have hK := hK.app hK1
  generalize H1 = H at hP hS ⊢
  have hP : va_P D cl_all [(h0, .inr (0, [.ref qK, .ref qS, .ref qX, .null])), (qK, .inr (1, [.int 0, .ref (uK.1 1), .ref (uK.1 2), .ref (uK.1 3)])), (uK.1 1, .inl (uK.2 1, 16, .inl (fun _ => 0))), (uK.1 2, .inl (uK.2 2, 16, .inl (fun _ => 0))), (uK.1 3, .inl (uK.2 3, 16, .inl (fun _ => 0))), (qS, .inr (2, [.int 0, .ref (uS.1 1), .ref (uS.1 2), .ref (uS.1 3), .ref (uS.1 4), .ref (uS.1 5), .ref (uS.1 6), .ref (uS.1 7), .ref (uS.1 8)])), (uS.1 1, .inl (uS.2 1, 251, .inl (fun _ => 0))), (uS.1 2, .inl (uS.2 2, 251, .inl (fun _ => 0))), (uS.1 3, .inl (uS.2 3, 251, .inr (.inl (fun _ => 0)))), (uS.1 4, .inl (uS.2 4, 251, .inl (fun _ => 0))), (uS.1 5, .inl (uS.2 5, 251, .inl (fun _ => 0))), (uS.1 6, .inl (uS.2 6, 251, .inl (fun _ => 0))), (uS.1 7, .inl (uS.2 7, 753, .inl (fun _ => 0))), (uS.1 8, .inl (uS.2 8, 250, .inl (fun _ => 0))), (qX, .inr (3, [.int 0, .ref (uX.1 1), .ref (uX.1 2)])), (uX.1 1, .inl (uX.2 1, 11, .inl (fun _ => 0))), (uX.1 2, .inl (uX.2 2, 11, .inl (fun _ => 0))), (qD, .inr (4, [.ref qK, .ref qS, .ref (uD.1 1), .ref (uD.1 2), .int 0])), (uD.1 1, .inl (uD.2 1, 251, .inl (fun _ => 0))), (uD.1 2, .inl (uD.2 2, 250, .inl (fun _ => 0)))] H := hP
  have hD : va_D A [(h0, .inr (0, [.ref qK, .ref qS, .ref qX, .null])), (qK, .inr (1, [.int 0, .ref (uK.1 1), .ref (uK.1 2), .ref (uK.1 3)])), (uK.1 1, .inl (uK.2 1, 16, .inl (fun _ => 0))), (uK.1 2, .inl (uK.2 2, 16, .inl (fun _ => 0))), (uK.1 3, .inl (uK.2 3, 16, .inl (fun _ => 0))), (qS, .inr (2, [.int 0, .ref (uS.1 1), .ref (uS.1 2), .ref (uS.1 3), .ref (uS.1 4), .ref (uS.1 5), .ref (uS.1 6), .ref (uS.1 7), .ref (uS.1 8)])), (uS.1 1, .inl (uS.2 1, 251, .inl (fun _ => 0))), (uS.1 2, .inl (uS.2 2, 251, .inl (fun _ => 0))), (uS.1 3, .inl (uS.2 3, 251, .inr (.inl (fun _ => 0)))), (uS.1 4, .inl (uS.2 4, 251, .inl (fun _ => 0))), (uS.1 5, .inl (uS.2 5, 251, .inl (fun _ => 0))), (uS.1 6, .inl (uS.2 6, 251, .inl (fun _ => 0))), (uS.1 7, .inl (uS.2 7, 753, .inl (fun _ => 0))), (uS.1 8, .inl (uS.2 8, 250, .inl (fun _ => 0))), (qX, .inr (3, [.int 0, .ref (uX.1 1), .ref (uX.1 2)])), (uX.1 1, .inl (uX.2 1, 11, .inl (fun _ => 0))), (uX.1 2, .inl (uX.2 2, 11, .inl (fun _ => 0))), (qD, .inr (4, [.ref qK, .ref qS, .ref (uD.1 1), .ref (uD.1 2), .int 0])), (uD.1 1, .inl (uD.2 1, 251, .inl (fun _ => 0))), (uD.1 2, .inl (uD.2 2, 250, .inl (fun _ => 0)))] := hD
  have hK : va_K D cl_all [(uK.2 1, .int), (uK.2 2, .int), (uK.2 3, .int), (uS.2 1, .int), (uS.2 2, .int), (uS.2 3, .long), (uS.2 4, .int), (uS.2 5, .int), (uS.2 6, .int), (uS.2 7, .int), (uS.2 8, .int), (uX.2 1, .int), (uX.2 2, .boolean), (uD.2 1, .boolean), (uD.2 2, .int)] s := hK
  refine W.widen (k := 19) (n := 3101) (Nat.le_of_ble_eq_true rfl) (Nat.le_of_ble_eq_true rfl) ?_
  refine va_putF (D := D) (ci := 0) (v := .ref qD) (ty := .object "LogicalPairs$Deletion") (C := "LogicalPairs") (T := F_L) (N := 4) hx hb hts (fun w h => List.mem_cons_of_mem _ (in_L w h)) t_L tk_L nm_L hown hK hP hD hS 0 rfl rfl 3 (by decide) (hts _ (List.mem_cons_of_mem _ (ak_mem (k := 147) (by decide +kernel : ak_nth wd_tbl 147 = some (.fieldLink "LogicalPairs" 35 "LogicalPairs" "deletion" "LLogicalPairs$Deletion;"))))) (fun _ h9 => h9) rfl hin rfl (by decide +kernel) rfl rfl (Nat.le_of_ble_eq_true rfl) d_L_init_53 (fun H locs hP hD hS => ?_)
  have hP : va_P D cl_all [(h0, .inr (0, [.ref qK, .ref qS, .ref qX, .ref qD])), (qK, .inr (1, [.int 0, .ref (uK.1 1), .ref (uK.1 2), .ref (uK.1 3)])), (uK.1 1, .inl (uK.2 1, 16, .inl (fun _ => 0))), (uK.1 2, .inl (uK.2 2, 16, .inl (fun _ => 0))), (uK.1 3, .inl (uK.2 3, 16, .inl (fun _ => 0))), (qS, .inr (2, [.int 0, .ref (uS.1 1), .ref (uS.1 2), .ref (uS.1 3), .ref (uS.1 4), .ref (uS.1 5), .ref (uS.1 6), .ref (uS.1 7), .ref (uS.1 8)])), (uS.1 1, .inl (uS.2 1, 251, .inl (fun _ => 0))), (uS.1 2, .inl (uS.2 2, 251, .inl (fun _ => 0))), (uS.1 3, .inl (uS.2 3, 251, .inr (.inl (fun _ => 0)))), (uS.1 4, .inl (uS.2 4, 251, .inl (fun _ => 0))), (uS.1 5, .inl (uS.2 5, 251, .inl (fun _ => 0))), (uS.1 6, .inl (uS.2 6, 251, .inl (fun _ => 0))), (uS.1 7, .inl (uS.2 7, 753, .inl (fun _ => 0))), (uS.1 8, .inl (uS.2 8, 250, .inl (fun _ => 0))), (qX, .inr (3, [.int 0, .ref (uX.1 1), .ref (uX.1 2)])), (uX.1 1, .inl (uX.2 1, 11, .inl (fun _ => 0))), (uX.1 2, .inl (uX.2 2, 11, .inl (fun _ => 0))), (qD, .inr (4, [.ref qK, .ref qS, .ref (uD.1 1), .ref (uD.1 2), .int 0])), (uD.1 1, .inl (uD.2 1, 251, .inl (fun _ => 0))), (uD.1 2, .inl (uD.2 2, 250, .inl (fun _ => 0)))] H := hP
  have hD : va_D A [(h0, .inr (0, [.ref qK, .ref qS, .ref qX, .ref qD])), (qK, .inr (1, [.int 0, .ref (uK.1 1), .ref (uK.1 2), .ref (uK.1 3)])), (uK.1 1, .inl (uK.2 1, 16, .inl (fun _ => 0))), (uK.1 2, .inl (uK.2 2, 16, .inl (fun _ => 0))), (uK.1 3, .inl (uK.2 3, 16, .inl (fun _ => 0))), (qS, .inr (2, [.int 0, .ref (uS.1 1), .ref (uS.1 2), .ref (uS.1 3), .ref (uS.1 4), .ref (uS.1 5), .ref (uS.1 6), .ref (uS.1 7), .ref (uS.1 8)])), (uS.1 1, .inl (uS.2 1, 251, .inl (fun _ => 0))), (uS.1 2, .inl (uS.2 2, 251, .inl (fun _ => 0))), (uS.1 3, .inl (uS.2 3, 251, .inr (.inl (fun _ => 0)))), (uS.1 4, .inl (uS.2 4, 251, .inl (fun _ => 0))), (uS.1 5, .inl (uS.2 5, 251, .inl (fun _ => 0))), (uS.1 6, .inl (uS.2 6, 251, .inl (fun _ => 0))), (uS.1 7, .inl (uS.2 7, 753, .inl (fun _ => 0))), (uS.1 8, .inl (uS.2 8, 250, .inl (fun _ => 0))), (qX, .inr (3, [.int 0, .ref (uX.1 1), .ref (uX.1 2)])), (uX.1 1, .inl (uX.2 1, 11, .inl (fun _ => 0))), (uX.1 2, .inl (uX.2 2, 11, .inl (fun _ => 0))), (qD, .inr (4, [.ref qK, .ref qS, .ref (uD.1 1), .ref (uD.1 2), .int 0])), (uD.1 1, .inl (uD.2 1, 251, .inl (fun _ => 0))), (uD.1 2, .inl (uD.2 2, 250, .inl (fun _ => 0)))] := hD
  obtain ⟨ad, had⟩ : ∃ ad : Nat → Nat, ad = (fun k => match k with | 0 => h0 | 1 => qK | 2 => qS | 3 => qX | 4 => qD | 5 => uK.1 1 | 6 => uK.1 2 | 7 => uK.1 3 | 8 => uS.1 1 | 9 => uS.1 2 | 10 => uS.1 3 | 11 => uS.1 4 | 12 => uS.1 5 | 13 => uS.1 6 | 14 => uS.1 7 | 15 => uS.1 8 | 16 => uX.1 1 | 17 => uX.1 2 | 18 => uD.1 1 | _ => uD.1 2) := ⟨_, rfl⟩
  obtain ⟨tyc, htyc⟩ : ∃ tyc : Nat → ClassId, tyc = (fun k => match k with | 5 => uK.2 1 | 6 => uK.2 2 | 7 => uK.2 3 | 8 => uS.2 1 | 9 => uS.2 2 | 10 => uS.2 3 | 11 => uS.2 4 | 12 => uS.2 5 | 13 => uS.2 6 | 14 => uS.2 7 | 15 => uS.2 8 | 16 => uX.2 1 | 17 => uX.2 2 | 18 => uD.2 1 | _ => uD.2 2) := ⟨_, rfl⟩
  have hP9 : va_P D cl_all (ak_W ad tyc z0 0 lay_C) H := by subst had htyc; exact hP.sub [0, 1, 5, 14, 17, 2, 3, 4, 6, 7, 8, 9, 10, 11, 12, 13, 15, 16, 18, 19] rfl
  have hD9 : va_D A (ak_W ad tyc z0 0 lay_C) := by subst had htyc; exact hD.sub [0, 1, 5, 14, 17, 2, 3, 4, 6, 7, 8, 9, 10, 11, 12, 13, 15, 16, 18, 19] (by decide) rfl
  have hK9 : ak_K D cl_all lay_C tyc s := by
    subst htyc
    refine ⟨hK.sub (tys' := []) [] rfl, fun k ty n h => ?_⟩
    match k, h with
    | 0, h => cases h
    | 1, h => cases h
    | 2, h => cases h
    | 3, h => cases h
    | 4, h => cases h
    | 5, h => cases h; exact hK.2 0 _ rfl
    | 6, h => cases h; exact hK.2 1 _ rfl
    | 7, h => cases h; exact hK.2 2 _ rfl
    | 8, h => cases h; exact hK.2 3 _ rfl
    | 9, h => cases h; exact hK.2 4 _ rfl
    | 10, h => cases h; exact hK.2 5 _ rfl
    | 11, h => cases h; exact hK.2 6 _ rfl
    | 12, h => cases h; exact hK.2 7 _ rfl
    | 13, h => cases h; exact hK.2 8 _ rfl
    | 14, h => cases h; exact hK.2 9 _ rfl
    | 15, h => cases h; exact hK.2 10 _ rfl
    | 16, h => cases h; exact hK.2 11 _ rfl
    | 17, h => cases h; exact hK.2 12 _ rfl
    | 18, h => cases h; exact hK.2 13 _ rfl
    | 19, h => cases h; exact hK.2 14 _ rfl
    | k + 20, h => cases h
  exact W.vret hx hb hr (fun t ht hW => ⟨⟨(ad, tyc), rfl, by subst had; rfl, by rw [ht]; exact hP9, hK9.moved hW.alike, hD9⟩, hS.F ht⟩) hS.2.2 d_L_init_56
end
section
/-! the invariants are kept by each step of the mathematical state; the beginning -/
theorem AI_kind {a : ab_T} (hA : AI a) (x : Int32) : AI (g_kind a x) := by
  rw [g_kind]
  split
  · rename_i h
    have hx : x.toNatClampNeg ≤ 15 := by
      rcases h.1 with rfl | h1
      · decide
      · obtain ⟨k, k1, k2, rfl⟩ := iK_of hA h1
        have := hA.1.1
        rw [q_cl (by omega)]; omega
    have hn := h.2
    obtain ⟨c1, c2, c3, c4, c5, c6, c7, c8, c9, c10⟩ := hA
    refine ⟨⟨?_, c1.2.1, c1.2.2⟩, fun k hk => ?_, fun j hj => ?_, fun j j1 j2 => ?_, fun j hj hz => ?_, fun j j1 j2 => ?_, ?_, fun k k1 k2 => ?_, fun j hj => ?_, fun j j1 j2 => ?_⟩
    · show (if 0 = 0 then a.1 0 + 1 else a.1 0) ≤ 15
      rw [if_pos rfl]; omega
    · rw [af_s, af_o (by decide), af_o (by decide), an_2]
      obtain ⟨d1, d2, d3⟩ := c2 k hk
      refine ⟨?_, d2, d3⟩
      split
      · exact hx
      · exact d1
    · rw [af_o (by decide), af_o (by decide), af_o (by decide), af_o (by decide), an_2]; exact c3 j hj
    · rw [af_o (by decide), an_2]; exact c4 j j1 j2
    · rw [af_o (by decide), an_2] at hz; rw [af_o (by decide), an_2]; exact c5 j hj hz
    · rw [af_o (by decide), an_2]; exact c6 j j1 j2
    · rw [af_o (by decide), an_2]; exact c7
    · have k1 : (if 0 = 0 then a.1 0 + 1 else a.1 0) < k := k1
      rw [if_pos rfl] at k1
      rw [af_o (by decide), af_o (by decide), an_2]; exact c8 k (by omega) k2
    · rw [af_o (by decide), af_o (by decide), an_2]; exact c9 j hj
    · rw [af_o (by decide), af_o (by decide), af_s, af_o (by decide), an_2, af_1]
      obtain ⟨d1, d2⟩ := c10 j j1 j2
      refine ⟨?_, fun z => ?_⟩
      · show a.2.1 3 j ≤ (if 0 = 0 then a.1 0 + 1 else a.1 0)
        rw [if_pos rfl]; omega
      · rw [if_neg (by omega)]; exact d2 z
  · exact hA
theorem AI_parent {a : ab_T} (hA : AI a) (k o r : Int32) : AI (g_parent a k o r) := by
  rw [g_parent]
  split
  · rename_i h
    rw [f_parent] at h
    split at h
    · exact absurd h (by decide)
    · rename_i h1
      have h1 := Classical.not_not.mp h1
      split at h
      · exact absurd h (by decide)
      · rename_i h2
        obtain ⟨k', k1, k2, rfl⟩ := iK_of hA h1.1
        obtain ⟨o', o1, o2, rfl⟩ := iK_of hA h1.2
        have hr : r.toNatClampNeg ≤ 2 := by
          have h0 : ¬ r < 0 := fun q => h2 (Or.inl q)
          obtain ⟨j, hj, rfl⟩ := nI_of h0
          have h3 : ¬ (2 : Int32) < nI j := fun q => h2 (Or.inr q)
          rw [n_2, q_lt (by omega) hj] at h3
          rw [q_cl hj]; omega
        have hn := hA.1
        rw [q_cl (by omega), q_cl (by omega)]
        obtain ⟨c1, c2, c3, c4, c5, c6, c7, c8, c9, c10⟩ := hA
        refine ⟨c1, fun j hj => ?_, fun j hj => ?_, fun j j1 j2 => ?_, fun j hj hz => ?_, fun j j1 j2 => ?_, ?_, fun j j1 j2 => ?_, fun j hj => ?_, fun j j1 j2 => ?_⟩
        · rw [af_o (by decide), af_o (by decide), af_o (by decide), af_s, af_s, af_o (by decide)]
          obtain ⟨d1, d2, d3⟩ := c2 j hj
          refine ⟨d1, ?_, ?_⟩
          · split <;> omega
          · split <;> omega
        · rw [af_o (by decide), af_o (by decide), af_o (by decide), af_o (by decide), af_o (by decide), af_o (by decide), af_o (by decide), af_o (by decide)]; exact c3 j hj
        · rw [af_o (by decide), af_o (by decide)]; exact c4 j j1 j2
        · rw [af_o (by decide), af_o (by decide)] at hz; rw [af_o (by decide), af_o (by decide)]; exact c5 j hj hz
        · rw [af_o (by decide), af_o (by decide)]; exact c6 j j1 j2
        · rw [af_o (by decide), af_o (by decide)]; exact c7
        · have j1 : a.1 0 < j := j1
          rw [af_o (by decide), af_s, af_s, af_o (by decide), if_neg (by omega), if_neg (by omega)]; exact c8 j j1 j2
        · rw [af_o (by decide), af_o (by decide), af_o (by decide), af_o (by decide)]; exact c9 j hj
        · rw [af_o (by decide), af_o (by decide), af_o (by decide), af_o (by decide), af_o (by decide), af_o (by decide), af_o (by decide), af_o (by decide)]; exact c10 j j1 j2
  · exact hA
theorem AI_segment {a : ab_T} (hA : AI a) (k u : Int32) (y : Int64) : AI (g_segment a k u y) := by
  rw [g_segment]
  by_cases h : iK a k ∧ a_fit a k u ∧ ¬ a_dup a k u y ∧ a.1 1 < 250
  · rw [ci_t h]
    obtain ⟨h1, h2, h3, h4⟩ := h
    obtain ⟨k', k1, k2, rfl⟩ := iK_of hA h1
    have hn := hA.1
    obtain ⟨u', u1, rfl, u3⟩ := fit_of hA (k := k') (by omega) h2
    rw [q_cl (by omega), q_cl (by omega)]
    exact AI_right (AI_new hA h4 k1 k2 u1 u3)
  · rw [ci_f h]; exact hA
theorem AI_rel {a : ab_T} (hA : AI a) (i o : Int32) : AI (g_relate a i o) := by
  rw [g_relate]
  split
  · rename_i h
    rw [f_relate] at h
    split at h
    · exact absurd h (by decide)
    · rename_i h1
      have h1 := Classical.not_not.mp h1
      split at h
      · exact absurd h (by decide)
      · split at h
        · exact absurd h (by decide)
        · rename_i h3
          obtain ⟨i', i1, i2, rfl⟩ := iS_of hA h1.1
          obtain ⟨o', o1, o2, rfl⟩ := iS_of hA h1.2
          have hn := hA.1
          rw [q_cl (by omega)] at h3
          rw [q_cl (by omega), q_cl (by omega)]
          exact AI_right (AI_right (AI_relate hA i1 i2 (Classical.not_not.mp (fun q => h3 (Or.inl q))) o2))
  · exact hA
theorem AI_delete {a : ab_T} (hA : AI a) (x : Int32) : AI (g_delete a x) := by
  rw [g_delete]
  by_cases h : iS a x ∧ a.2.1 5 x.toNatClampNeg = 1 ∧ ¬ a_bar a (a_gB a x.toNatClampNeg)
  · rw [ci_t h]
    exact AI_del hA (fun j hj => ⟨(a_gB_t.mp hj).1, (a_gB_t.mp hj).2.1⟩)
  · rw [ci_f h]; exact hA
theorem b_1 (b : Int32) : (b &&& 1).toNatClampNeg ≤ 1 := by
  obtain ⟨j, hj, h⟩ := and1 b
  rw [h, q_cl (by omega)]; omega
theorem AI_index {a : ab_T} (hA : AI a) (k b : Int32) : AI (g_index a k b) := by
  rw [g_index]
  split
  · rename_i h
    obtain ⟨h1, h2⟩ := h
    obtain ⟨k', k1, k2, rfl⟩ := iK_of hA h1
    have hn := hA.1
    have hb := b_1 b
    rw [q_cl (by omega)]
    obtain ⟨c1, c2, c3, c4, c5, c6, c7, c8, c9, c10⟩ := hA
    refine ⟨⟨c1.1, c1.2.1, ?_⟩, fun j hj => ?_, fun j hj => ?_, fun j j1 j2 => ?_, fun j hj hz => ?_, fun j j1 j2 => ?_, ?_, fun j j1 j2 => ?_, fun j hj => ?_, fun j j1 j2 => ?_⟩
    · show (if 2 = 2 then a.1 2 + 1 else a.1 2) ≤ 10
      rw [if_pos rfl]; omega
    · rw [af_o (by decide), af_o (by decide), af_o (by decide), af_o (by decide), af_o (by decide), af_o (by decide), an_2]; exact c2 j hj
    · rw [af_o (by decide), af_o (by decide), af_o (by decide), af_o (by decide), af_o (by decide), af_o (by decide), af_o (by decide), af_o (by decide), an_2]; exact c3 j hj
    · rw [af_o (by decide), af_o (by decide), an_2]; exact c4 j j1 j2
    · rw [af_o (by decide), af_o (by decide), an_2] at hz; rw [af_o (by decide), af_o (by decide), an_2]; exact c5 j hj hz
    · rw [af_o (by decide), af_o (by decide), an_2]; exact c6 j j1 j2
    · rw [af_o (by decide), af_o (by decide), an_2]; exact c7
    · rw [af_o (by decide), af_o (by decide), af_o (by decide), af_o (by decide), an_2]; exact c8 j j1 j2
    · rw [af_o (by decide), af_s, af_s, af_o (by decide), an_2]
      obtain ⟨d1, d2⟩ := c9 j hj
      refine ⟨?_, ?_⟩
      · split <;> omega
      · split <;> omega
    · rw [af_o (by decide), af_o (by decide), af_o (by decide), af_o (by decide), af_o (by decide), af_o (by decide), af_o (by decide), af_o (by decide), an_2]; exact c10 j j1 j2
  · exact hA
theorem AI_poke {a : ab_T} (hA : AI a) (i p t : Int32) : AI (g_poke a i p t) := by
  rw [g_poke]
  split
  · exact hA
  · exact hA
def a0 : ab_T := (fun _ => 0, fun _ _ => 0, fun _ => 0, fun _ => 0)
theorem AI_0 : AI a0 := by
  refine ⟨⟨Nat.zero_le _, Nat.zero_le _, Nat.zero_le _⟩, fun k _ => ⟨Nat.zero_le _, Nat.zero_le _, Nat.zero_le _⟩, fun i _ => ⟨Nat.zero_le _, Nat.zero_le _, Nat.zero_le _, Nat.zero_le _⟩, fun i h1 h2 => ?_, fun i _ h => absurd rfl h, fun _ _ _ => rfl, rfl, fun _ _ _ => ⟨rfl, rfl⟩, fun _ _ => ⟨Nat.zero_le _, Nat.zero_le _⟩, fun i h1 h2 => ?_⟩
  · have : i ≤ 0 := h2
    omega
  · have : i ≤ 0 := h2
    omega
theorem RC_0 : RC z0 a0 := by
  refine ⟨⟨rfl, rfl, rfl⟩, fun _ _ => ⟨rfl, rfl, rfl⟩, fun _ _ => ⟨rfl, rfl, rfl, rfl, rfl⟩, fun _ _ _ => rfl, fun i p h1 h2 => ?_, fun _ _ => ⟨rfl, rfl⟩, fun _ => 0, fun j h => ?_, fun i h1 h2 => ?_, fun i j _ h => ?_⟩
  · have : i ≤ 0 := h2
    omega
  · have : j < 0 := h
    omega
  · have : i ≤ 0 := h2
    omega
  · have : j < 0 := h
    omega
theorem RM_0 : RM z0 a0 := by
  refine ⟨⟨rfl, rfl, rfl⟩, fun _ _ => ⟨rfl, rfl, rfl⟩, fun _ _ => ⟨rfl, rfl, rfl, rfl⟩, fun i h1 h2 => ?_, fun i p h1 h2 => ?_, fun _ _ => ⟨rfl, rfl⟩⟩
  · have : i ≤ 0 := h2
    omega
  · have : i ≤ 0 := h2
    omega
end
section
/-! a contract over a part of a larger world -/
def ak_shx (off : Nat) (x : ak_C) : ak_C := match x with
  | .inl (ci, fs) => .inl (ci, fs.map (fun o => o.map (fun q => off + q)))
  | .inr y => .inr y
def ak_shv (off : Nat) (v : Value) : Value := match v with
  | .ref k => .ref (off + k)
  | w => w
def ak_dn (off : Nat) (s : ak_S) : ak_S := (fun k => s.1 (off + k), fun k => s.2 (off + k))
def ak_up (off n : Nat) (s t : ak_S) : ak_S := (fun k => if off ≤ k ∧ k < off + n then t.1 (k - off) else s.1 k, fun k => if off ≤ k ∧ k < off + n then t.2 (k - off) else s.2 k)
theorem ak_v_sh {ad : Nat → Nat} {off : Nat} (v : Value) : ak_v ad (ak_shv off v) = ak_v (fun k => ad (off + k)) v := by cases v <;> rfl
theorem ak_fs_sh {ad : Nat → Nat} {off : Nat} {g : Nat → Int32} : ∀ (fs : List (Option Nat)) (f : Nat), ak_fs ad g f (fs.map (fun o => o.map (fun q => off + q))) = ak_fs (fun k => ad (off + k)) g f fs
  | [], _ => rfl
  | none :: r, f => by
    show Value.int (g f) :: ak_fs ad g (f + 1) (r.map (fun o => o.map (fun q => off + q))) = Value.int (g f) :: ak_fs (fun k => ad (off + k)) g (f + 1) r
    rw [ak_fs_sh r (f + 1)]
  | some q :: r, f => by
    show Value.ref (ad (off + q)) :: ak_fs ad g (f + 1) (r.map (fun o => o.map (fun q => off + q))) = Value.ref (ad (off + q)) :: ak_fs (fun k => ad (off + k)) g (f + 1) r
    rw [ak_fs_sh r (f + 1)]
theorem ak_e_sh {ad : Nat → Nat} {tyc : Nat → ClassId} {s : ak_S} {off k : Nat} (x : ak_C) : ak_e ad tyc s (off + k) (ak_shx off x) = ak_e (fun k => ad (off + k)) (fun k => tyc (off + k)) (ak_dn off s) k x := by
  obtain ⟨ci, fs⟩ | ⟨ty, n⟩ := x
  · show (Sum.inr (ci, ak_fs ad (s.1 (off + k)) 0 (fs.map (fun o => o.map (fun q => off + q)))) : va_E) = Sum.inr (ci, ak_fs (fun k => ad (off + k)) (s.1 (off + k)) 0 fs)
    rw [ak_fs_sh]
  · cases ty <;> rfl
theorem ak_e_cong {ad : Nat → Nat} {tyc : Nat → ClassId} {s t : ak_S} {k : Nat} (h1 : s.1 k = t.1 k) (h2 : s.2 k = t.2 k) (x : ak_C) : ak_e ad tyc s k x = ak_e ad tyc t k x := by
  obtain ⟨ci, fs⟩ | ⟨ty, n⟩ := x
  · simp only [ak_e, h1]
  · cases ty <;> simp only [ak_e, h1, h2]
theorem ak_nth_some {α : Type} : ∀ {l : List α} {k : Nat}, k < l.length → ∃ x, ak_nth l k = some x
  | [], _, h => by simp at h
  | a :: _, 0, _ => ⟨a, rfl⟩
  | _ :: l, k + 1, h => ak_nth_some (l := l) (k := k) (by simpa using h)
def ak_lift (off n : Nat) (pt : ak_P) : ak_P := fun vs s Qp => ∃ vs0 : List Value, vs = vs0.map (ak_shv off) ∧ pt vs0 (ak_dn off s) (fun r t => Qp (r.map (ak_shv off)) (ak_up off n s t))
set_option maxHeartbeats 1000000 in
theorem ak_lifts {l : Launch} {cl : List vw_C} {lay lay' : List ak_C} {off : Nat} {y : MethodName} {ws : List Cond} {rm : Room} {pt : ak_P} (hC : ak_Ctr l cl lay y ws rm pt) (hsub : ∀ k x, ak_nth lay k = some x → ak_nth lay' (off + k) = some (ak_shx off x)) : ak_Ctr l cl lay' y ws rm (ak_lift off lay.length pt) := by
  intro D ad tyc sz vs s Qp hinj hpt
  obtain ⟨vs0, rfl, hpt⟩ := hpt
  have hlt : ∀ k, k < lay.length → off + k < lay'.length := fun k hk => by
    obtain ⟨x, hx⟩ := ak_nth_some hk
    exact ak_nth_lt (hsub k x hx)
  have hinj1 : ak_Inj lay (fun k => ad (off + k)) := fun i j hi hj h => by
    have := hinj (off + i) (off + j) (hlt i hi) (hlt j hj) h
    omega
  have hM := hC D (fun k => ad (off + k)) (fun k => tyc (off + k)) sz vs0 (ak_dn off s) _ hinj1 hpt
  have hav : (vs0.map (ak_shv off)).map (ak_v ad) = vs0.map (ak_v (fun k => ad (off + k))) := by
    rw [List.map_map]
    congr 1
    funext v
    exact ak_v_sh v
  intro p e ha hc hk st m args below hf happ hP hT
  obtain ⟨hargs, hsz, hP, hK⟩ := hP
  have hP1 : va_P D cl (ak_W (fun k => ad (off + k)) (fun k => tyc (off + k)) (ak_dn off s) 0 lay) st.heap := by
    intro k q hq
    rw [ak_W_at, Nat.zero_add] at hq
    cases hx : ak_nth lay k with
    | none => rw [hx] at hq; cases hq
    | some x =>
      rw [hx] at hq
      have hq : (ad (off + k), ak_e (fun k => ad (off + k)) (fun k => tyc (off + k)) (ak_dn off s) k x) = q := Option.some.inj hq
      rw [← hq, ← ak_e_sh]
      exact hP (off + k) _ (ak_W_at0 (hsub k x hx))
  have hK1 : ak_K D cl lay (fun k => tyc (off + k)) st := ⟨hK.1, fun k ty n hk => hK.2 (off + k) ty n (hsub k _ hk)⟩
  obtain ⟨n, o, h1, h2, h3, ⟨⟨r, s', ho, hq, hP', hK'⟩, hF⟩, L, hfe, hL⟩ := hM p e ha hc hk st m args below hf happ ⟨by rw [hargs, hav], hsz, hP1, hK1⟩ hT
  have hmono : ∀ q, ak_A lay (fun k => ad (off + k)) sz q → ak_A lay' ad sz q := fun q h => by
    rcases h with ⟨k, hk, rfl⟩ | h
    · exact Or.inl ⟨off + k, hlt k hk, rfl⟩
    · exact Or.inr h
  refine ⟨n, o, h1, h2, h3, ⟨⟨r.map (ak_shv off), ak_up off lay.length s s', ?_, hq, ?_, hK.moved hfe.2.1.alike⟩, hF.1, fun q q1 q2 => hF.2 q q1 (fun z => q2 (hmono q z))⟩, L, hfe, fun q hq => hmono _ (hL q hq)⟩
  · rw [ho, Option.map_map]
    congr 2
    funext v
    exact (ak_v_sh v).symm
  · intro j q hq
    rw [ak_W_at, Nat.zero_add] at hq
    cases hx : ak_nth lay' j with
    | none => rw [hx] at hq; cases hq
    | some x' =>
      rw [hx] at hq
      have hq : (ad j, ak_e ad tyc (ak_up off lay.length s s') j x') = q := Option.some.inj hq
      rw [← hq]
      by_cases hj : off ≤ j ∧ j < off + lay.length
      · obtain ⟨k, rfl⟩ : ∃ k, j = off + k := ⟨j - off, by omega⟩
        obtain ⟨x, hxk⟩ := ak_nth_some (l := lay) (k := k) (by omega)
        have hx2 := hsub k x hxk
        rw [hx] at hx2
        have hx2 := Option.some.inj hx2
        subst hx2
        rw [ak_e_sh, ak_e_cong (t := s') (by show (if off ≤ off + k ∧ off + k < off + lay.length then s'.1 (off + k - off) else s.1 (off + k)) = _; rw [if_pos hj, Nat.add_sub_cancel_left]) (by show (if off ≤ off + k ∧ off + k < off + lay.length then s'.2 (off + k - off) else s.2 (off + k)) = _; rw [if_pos hj, Nat.add_sub_cancel_left])]
        exact hP' k _ (ak_W_at0 hxk)
      · rw [ak_e_cong (t := s) (by show (if off ≤ j ∧ j < off + lay.length then s'.1 (j - off) else s.1 j) = _; rw [if_neg hj]) (by show (if off ≤ j ∧ j < off + lay.length then s'.2 (j - off) else s.2 j) = _; rw [if_neg hj])]
        have h0 := hP j _ (ak_W_at0 hx)
        refine h0.kept (hF.2 (ad j) h0.lt (fun z => ?_))
        rcases z with ⟨k, hk, hz⟩ | z
        · have := hinj j (off + k) (ak_nth_lt hx) (hlt k hk) hz
          omega
        · have := h0.lt
          have h9 : ad j < st.heap.size := h0.lt
          omega
end
