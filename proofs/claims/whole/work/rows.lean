section
-- ===== PART A: goes FIRST, ahead of the names: the tables' words, and 'selects' of the private methods out of them =====
/-- a private method of a class that the tables say can be made, by its rows of tables_1 -/
def lw_okq (q : MethodName × Nat) : Prop := (q.1.cls ≠ "java/lang/invoke/MethodHandle" ∧ q.1.cls ≠ "java/lang/invoke/VarHandle") ∧ Cond.instantiable q.1.cls q.2 ∈ tables_1 ∧ Cond.privateMethod q.1 ∈ tables_1 ∧ Cond.instanceMethod q.1 ∈ tables_1
theorem lw_p0 : lw_okq (⟨"LogicalPairs", "mayBeUnder", "(II)Z"⟩, 4) := ⟨⟨by decide +kernel, by decide +kernel⟩, List.mem_of_getElem? (i := 8) (by decide +kernel), List.mem_of_getElem? (i := 166) (by decide +kernel), List.mem_of_getElem? (i := 167) (by decide +kernel)⟩
theorem lw_p1 : lw_okq (⟨"LogicalPairs$Segments", "truth", "(II)I"⟩, 9) := ⟨⟨by decide +kernel, by decide +kernel⟩, List.mem_of_getElem? (i := 41) (by decide +kernel), List.mem_of_getElem? (i := 194) (by decide +kernel), List.mem_of_getElem? (i := 195) (by decide +kernel)⟩
theorem lw_p2 : lw_okq (⟨"LogicalPairs$Segments", "putByKey", "(I)V"⟩, 9) := ⟨⟨by decide +kernel, by decide +kernel⟩, List.mem_of_getElem? (i := 41) (by decide +kernel), List.mem_of_getElem? (i := 198) (by decide +kernel), List.mem_of_getElem? (i := 199) (by decide +kernel)⟩
theorem lw_p3 : lw_okq (⟨"LogicalPairs$Deletion", "add", "(I)V"⟩, 5) := ⟨⟨by decide +kernel, by decide +kernel⟩, List.mem_of_getElem? (i := 106) (by decide +kernel), List.mem_of_getElem? (i := 219) (by decide +kernel), List.mem_of_getElem? (i := 220) (by decide +kernel)⟩
theorem lw_p4 : lw_okq (⟨"LogicalPairs$Deletion", "addThoseTakenBy", "(I)V"⟩, 5) := ⟨⟨by decide +kernel, by decide +kernel⟩, List.mem_of_getElem? (i := 106) (by decide +kernel), List.mem_of_getElem? (i := 223) (by decide +kernel), List.mem_of_getElem? (i := 224) (by decide +kernel)⟩
theorem lw_p5 : lw_okq (⟨"LogicalPairs$Deletion", "isRelatedByRule", "(III)Z"⟩, 5) := ⟨⟨by decide +kernel, by decide +kernel⟩, List.mem_of_getElem? (i := 106) (by decide +kernel), List.mem_of_getElem? (i := 227) (by decide +kernel), List.mem_of_getElem? (i := 228) (by decide +kernel)⟩
theorem lw_p6 : lw_okq (⟨"LogicalPairs", "physicalChild", "(II)I"⟩, 4) := ⟨⟨by decide +kernel, by decide +kernel⟩, List.mem_of_getElem? (i := 8) (by decide +kernel), List.mem_of_getElem? (i := 260) (by decide +kernel), List.mem_of_getElem? (i := 261) (by decide +kernel)⟩
theorem lw_p7 : lw_okq (⟨"LogicalPairs", "isIn", "(II)Z"⟩, 4) := ⟨⟨by decide +kernel, by decide +kernel⟩, List.mem_of_getElem? (i := 8) (by decide +kernel), List.mem_of_getElem? (i := 289) (by decide +kernel), List.mem_of_getElem? (i := 290) (by decide +kernel)⟩
theorem lw_p8 : lw_okq (⟨"LogicalPairsModel", "isKind", "(I)Z"⟩, 17) := ⟨⟨by decide +kernel, by decide +kernel⟩, List.mem_of_getElem? (i := 325) (by decide +kernel), List.mem_of_getElem? (i := 387) (by decide +kernel), List.mem_of_getElem? (i := 388) (by decide +kernel)⟩
theorem lw_p9 : lw_okq (⟨"LogicalPairsModel", "isThere", "(I)Z"⟩, 17) := ⟨⟨by decide +kernel, by decide +kernel⟩, List.mem_of_getElem? (i := 325) (by decide +kernel), List.mem_of_getElem? (i := 399) (by decide +kernel), List.mem_of_getElem? (i := 400) (by decide +kernel)⟩
theorem lw_p10 : lw_okq (⟨"LogicalPairsModel", "isSegment", "(I)Z"⟩, 17) := ⟨⟨by decide +kernel, by decide +kernel⟩, List.mem_of_getElem? (i := 325) (by decide +kernel), List.mem_of_getElem? (i := 403) (by decide +kernel), List.mem_of_getElem? (i := 404) (by decide +kernel)⟩
theorem lw_p11 : lw_okq (⟨"LogicalPairsModel", "right", "(I)V"⟩, 17) := ⟨⟨by decide +kernel, by decide +kernel⟩, List.mem_of_getElem? (i := 325) (by decide +kernel), List.mem_of_getElem? (i := 407) (by decide +kernel), List.mem_of_getElem? (i := 408) (by decide +kernel)⟩
theorem lw_p12 : lw_okq (⟨"LogicalPairsModel", "truth", "(II)I"⟩, 17) := ⟨⟨by decide +kernel, by decide +kernel⟩, List.mem_of_getElem? (i := 325) (by decide +kernel), List.mem_of_getElem? (i := 411) (by decide +kernel), List.mem_of_getElem? (i := 412) (by decide +kernel)⟩
theorem lw_p13 : lw_okq (⟨"LogicalPairsModel", "countOf", "(I)I"⟩, 17) := ⟨⟨by decide +kernel, by decide +kernel⟩, List.mem_of_getElem? (i := 325) (by decide +kernel), List.mem_of_getElem? (i := 415) (by decide +kernel), List.mem_of_getElem? (i := 416) (by decide +kernel)⟩
theorem lw_p14 : lw_okq (⟨"LogicalPairsModel", "spread", "()Z"⟩, 17) := ⟨⟨by decide +kernel, by decide +kernel⟩, List.mem_of_getElem? (i := 325) (by decide +kernel), List.mem_of_getElem? (i := 427) (by decide +kernel), List.mem_of_getElem? (i := 428) (by decide +kernel)⟩
theorem lw_p15 : lw_okq (⟨"LogicalPairsModel", "isChild", "(III)Z"⟩, 17) := ⟨⟨by decide +kernel, by decide +kernel⟩, List.mem_of_getElem? (i := 325) (by decide +kernel), List.mem_of_getElem? (i := 439) (by decide +kernel), List.mem_of_getElem? (i := 440) (by decide +kernel)⟩
def lw_privs_1 : List (MethodName × Nat) := [(⟨"LogicalPairs", "mayBeUnder", "(II)Z"⟩, 4), (⟨"LogicalPairs$Segments", "truth", "(II)I"⟩, 9), (⟨"LogicalPairs$Segments", "putByKey", "(I)V"⟩, 9), (⟨"LogicalPairs$Deletion", "add", "(I)V"⟩, 5), (⟨"LogicalPairs$Deletion", "addThoseTakenBy", "(I)V"⟩, 5), (⟨"LogicalPairs$Deletion", "isRelatedByRule", "(III)Z"⟩, 5), (⟨"LogicalPairs", "physicalChild", "(II)I"⟩, 4), (⟨"LogicalPairs", "isIn", "(II)Z"⟩, 4), (⟨"LogicalPairsModel", "isKind", "(I)Z"⟩, 17), (⟨"LogicalPairsModel", "isThere", "(I)Z"⟩, 17), (⟨"LogicalPairsModel", "isSegment", "(I)Z"⟩, 17), (⟨"LogicalPairsModel", "right", "(I)V"⟩, 17), (⟨"LogicalPairsModel", "truth", "(II)I"⟩, 17), (⟨"LogicalPairsModel", "countOf", "(I)I"⟩, 17), (⟨"LogicalPairsModel", "spread", "()Z"⟩, 17), (⟨"LogicalPairsModel", "isChild", "(III)Z"⟩, 17)]
theorem lw_r1 : ∀ q ∈ lw_privs_1, lw_okq q := List.forall_mem_cons.mpr ⟨lw_p0, List.forall_mem_cons.mpr ⟨lw_p1, List.forall_mem_cons.mpr ⟨lw_p2, List.forall_mem_cons.mpr ⟨lw_p3, List.forall_mem_cons.mpr ⟨lw_p4, List.forall_mem_cons.mpr ⟨lw_p5, List.forall_mem_cons.mpr ⟨lw_p6, List.forall_mem_cons.mpr ⟨lw_p7, List.forall_mem_cons.mpr ⟨lw_p8, List.forall_mem_cons.mpr ⟨lw_p9, List.forall_mem_cons.mpr ⟨lw_p10, List.forall_mem_cons.mpr ⟨lw_p11, List.forall_mem_cons.mpr ⟨lw_p12, List.forall_mem_cons.mpr ⟨lw_p13, List.forall_mem_cons.mpr ⟨lw_p14, List.forall_mem_cons.mpr ⟨lw_p15, fun _ h => absurd h List.not_mem_nil⟩⟩⟩⟩⟩⟩⟩⟩⟩⟩⟩⟩⟩⟩⟩⟩
theorem lw_p16 : lw_okq (⟨"LogicalPairsModel", "isAhead", "(III)Z"⟩, 17) := ⟨⟨by decide +kernel, by decide +kernel⟩, List.mem_of_getElem? (i := 325) (by decide +kernel), List.mem_of_getElem? (i := 443) (by decide +kernel), List.mem_of_getElem? (i := 444) (by decide +kernel)⟩
theorem lw_p17 : lw_okq (⟨"LogicalPairsModel", "isIn", "(II)Z"⟩, 17) := ⟨⟨by decide +kernel, by decide +kernel⟩, List.mem_of_getElem? (i := 325) (by decide +kernel), List.mem_of_getElem? (i := 459) (by decide +kernel), List.mem_of_getElem? (i := 460) (by decide +kernel)⟩
theorem lw_p18 : lw_okq (⟨"LogicalPairsModel", "isBroken", "(II)Z"⟩, 17) := ⟨⟨by decide +kernel, by decide +kernel⟩, List.mem_of_getElem? (i := 325) (by decide +kernel), List.mem_of_getElem? (i := 471) (by decide +kernel), List.mem_of_getElem? (i := 472) (by decide +kernel)⟩
def lw_privs_2 : List (MethodName × Nat) := [(⟨"LogicalPairsModel", "isAhead", "(III)Z"⟩, 17), (⟨"LogicalPairsModel", "isIn", "(II)Z"⟩, 17), (⟨"LogicalPairsModel", "isBroken", "(II)Z"⟩, 17)]
theorem lw_r2 : ∀ q ∈ lw_privs_2, lw_okq q := List.forall_mem_cons.mpr ⟨lw_p16, List.forall_mem_cons.mpr ⟨lw_p17, List.forall_mem_cons.mpr ⟨lw_p18, fun _ h => absurd h List.not_mem_nil⟩⟩⟩
def lw_privs : List (MethodName × Nat) := lw_privs_1 ++ (lw_privs_2)
def lw_tbl : List Cond := k2_sels lw_privs ++ tables_1
theorem lw_privs_ok : ∀ q ∈ lw_privs, lw_okq q := by
  show ∀ q ∈ lw_privs_1 ++ (lw_privs_2), lw_okq q
  exact List.forall_mem_append.mpr ⟨lw_r1, lw_r2⟩
end
section
/-! names, laid by program (wip/whole/gen.py) -/
def wd_tbl : List Cond := lw_tbl.filter goodWord
theorem wd_in : ∀ w ∈ wd_tbl, w ∈ lw_tbl := fun w h => (List.mem_filter.mp h).1
theorem wd_good : ∀ w ∈ wd_tbl, goodWord w = true := fun w h => (List.mem_filter.mp h).2
def F_L : u_T := fun k => match k with
  | 0 => ("LogicalPairs", "kinds", "LLogicalPairs$Kinds;", true)
  | 1 => ("LogicalPairs", "segments", "LLogicalPairs$Segments;", true)
  | 2 => ("LogicalPairs", "indexes", "LLogicalPairs$Indexes;", true)
  | _ => ("LogicalPairs", "deletion", "LLogicalPairs$Deletion;", true)
def t_L : Nat → FieldType := fun k => match k with
  | 0 => .object "LogicalPairs$Kinds"
  | 1 => .object "LogicalPairs$Segments"
  | 2 => .object "LogicalPairs$Indexes"
  | _ => .object "LogicalPairs$Deletion"
theorem nm_L : ∀ a, a < 4 → ∀ b, b < 4 → a ≠ b → (F_L a).2.1 ≠ (F_L b).2.1 := by decide +kernel
theorem tk_L : ∀ k, k < 4 → parseFieldDescriptor (F_L k).2.2.1 = some (t_L k) := by decide +kernel
theorem in_L : ∀ w ∈ u_ws "LogicalPairs" F_L 4, w ∈ wd_tbl := by decide +kernel
def F_K : u_T := fun k => match k with
  | 0 => ("LogicalPairs$Kinds", "size", "I", false)
  | 1 => ("LogicalPairs$Kinds", "above", "[I", true)
  | 2 => ("LogicalPairs$Kinds", "logicalParent", "[I", true)
  | _ => ("LogicalPairs$Kinds", "rule", "[I", true)
def t_K : Nat → FieldType := fun k => match k with
  | 0 => .int
  | 1 => .array .int
  | 2 => .array .int
  | _ => .array .int
theorem nm_K : ∀ a, a < 4 → ∀ b, b < 4 → a ≠ b → (F_K a).2.1 ≠ (F_K b).2.1 := by decide +kernel
theorem tk_K : ∀ k, k < 4 → parseFieldDescriptor (F_K k).2.2.1 = some (t_K k) := by decide +kernel
theorem in_K : ∀ w ∈ u_ws "LogicalPairs$Kinds" F_K 4, w ∈ wd_tbl := by decide +kernel
def F_S : u_T := fun k => match k with
  | 0 => ("LogicalPairs$Segments", "size", "I", false)
  | 1 => ("LogicalPairs$Segments", "kindOf", "[I", true)
  | 2 => ("LogicalPairs$Segments", "aboveOf", "[I", true)
  | 3 => ("LogicalPairs$Segments", "keyOf", "[J", true)
  | 4 => ("LogicalPairs$Segments", "state", "[I", true)
  | 5 => ("LogicalPairs$Segments", "relatedTo", "[I", true)
  | 6 => ("LogicalPairs$Segments", "counted", "[I", true)
  | 7 => ("LogicalPairs$Segments", "said", "[I", true)
  | _ => ("LogicalPairs$Segments", "byKey", "[I", true)
def t_S : Nat → FieldType := fun k => match k with
  | 0 => .int
  | 1 => .array .int
  | 2 => .array .int
  | 3 => .array .long
  | 4 => .array .int
  | 5 => .array .int
  | 6 => .array .int
  | 7 => .array .int
  | _ => .array .int
theorem nm_S : ∀ a, a < 9 → ∀ b, b < 9 → a ≠ b → (F_S a).2.1 ≠ (F_S b).2.1 := by decide +kernel
theorem tk_S : ∀ k, k < 9 → parseFieldDescriptor (F_S k).2.2.1 = some (t_S k) := by decide +kernel
theorem in_S : ∀ w ∈ u_ws "LogicalPairs$Segments" F_S 9, w ∈ wd_tbl := by decide +kernel
def F_X : u_T := fun k => match k with
  | 0 => ("LogicalPairs$Indexes", "size", "I", false)
  | 1 => ("LogicalPairs$Indexes", "kindOf", "[I", true)
  | _ => ("LogicalPairs$Indexes", "sparse", "[Z", true)
def t_X : Nat → FieldType := fun k => match k with
  | 0 => .int
  | 1 => .array .int
  | _ => .array .boolean
theorem nm_X : ∀ a, a < 3 → ∀ b, b < 3 → a ≠ b → (F_X a).2.1 ≠ (F_X b).2.1 := by decide +kernel
theorem tk_X : ∀ k, k < 3 → parseFieldDescriptor (F_X k).2.2.1 = some (t_X k) := by decide +kernel
theorem in_X : ∀ w ∈ u_ws "LogicalPairs$Indexes" F_X 3, w ∈ wd_tbl := by decide +kernel
def F_D : u_T := fun k => match k with
  | 0 => ("LogicalPairs$Deletion", "kinds", "LLogicalPairs$Kinds;", true)
  | 1 => ("LogicalPairs$Deletion", "segments", "LLogicalPairs$Segments;", true)
  | 2 => ("LogicalPairs$Deletion", "goes", "[Z", true)
  | 3 => ("LogicalPairs$Deletion", "going", "[I", true)
  | _ => ("LogicalPairs$Deletion", "size", "I", false)
def t_D : Nat → FieldType := fun k => match k with
  | 0 => .object "LogicalPairs$Kinds"
  | 1 => .object "LogicalPairs$Segments"
  | 2 => .array .boolean
  | 3 => .array .int
  | _ => .int
theorem nm_D : ∀ a, a < 5 → ∀ b, b < 5 → a ≠ b → (F_D a).2.1 ≠ (F_D b).2.1 := by decide +kernel
theorem tk_D : ∀ k, k < 5 → parseFieldDescriptor (F_D k).2.2.1 = some (t_D k) := by decide +kernel
theorem in_D : ∀ w ∈ u_ws "LogicalPairs$Deletion" F_D 5, w ∈ wd_tbl := by decide +kernel
def F_M : u_T := fun k => match k with
  | 0 => ("LogicalPairsModel", "code", "I", false)
  | 1 => ("LogicalPairsModel", "kinds", "I", false)
  | 2 => ("LogicalPairsModel", "segments", "I", false)
  | 3 => ("LogicalPairsModel", "indexes", "I", false)
  | 4 => ("LogicalPairsModel", "aboves", "[I", true)
  | 5 => ("LogicalPairsModel", "parents", "[I", true)
  | 6 => ("LogicalPairsModel", "rules", "[I", true)
  | 7 => ("LogicalPairsModel", "of", "[I", true)
  | 8 => ("LogicalPairsModel", "unders", "[I", true)
  | 9 => ("LogicalPairsModel", "states", "[I", true)
  | 10 => ("LogicalPairsModel", "related", "[I", true)
  | 11 => ("LogicalPairsModel", "pointers", "[I", true)
  | 12 => ("LogicalPairsModel", "keys", "[J", true)
  | 13 => ("LogicalPairsModel", "goes", "[Z", true)
  | 14 => ("LogicalPairsModel", "changed", "[Z", true)
  | 15 => ("LogicalPairsModel", "indexKinds", "[I", true)
  | _ => ("LogicalPairsModel", "sparse", "[Z", true)
def t_M : Nat → FieldType := fun k => match k with
  | 0 => .int
  | 1 => .int
  | 2 => .int
  | 3 => .int
  | 4 => .array .int
  | 5 => .array .int
  | 6 => .array .int
  | 7 => .array .int
  | 8 => .array .int
  | 9 => .array .int
  | 10 => .array .int
  | 11 => .array .int
  | 12 => .array .long
  | 13 => .array .boolean
  | 14 => .array .boolean
  | 15 => .array .int
  | _ => .array .boolean
theorem nm_M : ∀ a, a < 17 → ∀ b, b < 17 → a ≠ b → (F_M a).2.1 ≠ (F_M b).2.1 := by decide +kernel
theorem tk_M : ∀ k, k < 17 → parseFieldDescriptor (F_M k).2.2.1 = some (t_M k) := by decide +kernel
theorem in_M : ∀ w ∈ u_ws "LogicalPairsModel" F_M 17, w ∈ wd_tbl := by decide +kernel
def cl_all : List vw_C := [("LogicalPairs", F_L, 4), ("LogicalPairs$Kinds", F_K, 4), ("LogicalPairs$Segments", F_S, 9), ("LogicalPairs$Indexes", F_X, 3), ("LogicalPairs$Deletion", F_D, 5), ("LogicalPairsModel", F_M, 17)]
def y_L_init : MethodName := ⟨"LogicalPairs", "<init>", "()V"⟩
def y_L_kind : MethodName := ⟨"LogicalPairs", "kind", "(I)I"⟩
def y_L_parent : MethodName := ⟨"LogicalPairs", "parent", "(III)I"⟩
def y_L_segment : MethodName := ⟨"LogicalPairs", "segment", "(IIJ)I"⟩
def y_L_mayBeUnder : MethodName := ⟨"LogicalPairs", "mayBeUnder", "(II)Z"⟩
def y_L_relate : MethodName := ⟨"LogicalPairs", "relate", "(II)I"⟩
def y_L_delete : MethodName := ⟨"LogicalPairs", "delete", "(I)I"⟩
def y_L_there : MethodName := ⟨"LogicalPairs", "there", "(II)Z"⟩
def y_L_child : MethodName := ⟨"LogicalPairs", "child", "(III)I"⟩
def y_L_physicalChild : MethodName := ⟨"LogicalPairs", "physicalChild", "(II)I"⟩
def y_L_count : MethodName := ⟨"LogicalPairs", "count", "(I)I"⟩
def y_L_index : MethodName := ⟨"LogicalPairs", "index", "(IZ)I"⟩
def y_L_entry : MethodName := ⟨"LogicalPairs", "entry", "(II)I"⟩
def y_L_isIn : MethodName := ⟨"LogicalPairs", "isIn", "(II)Z"⟩
def y_L_poke : MethodName := ⟨"LogicalPairs", "poke", "(III)I"⟩
def y_L_check : MethodName := ⟨"LogicalPairs", "check", "()I"⟩
def y_L_broken : MethodName := ⟨"LogicalPairs", "broken", "(I)I"⟩
def y_L_told : MethodName := ⟨"LogicalPairs", "told", "(I)I"⟩
def y_M_init : MethodName := ⟨"LogicalPairsModel", "<init>", "()V"⟩
def y_M_isKind : MethodName := ⟨"LogicalPairsModel", "isKind", "(I)Z"⟩
def y_M_isSegment : MethodName := ⟨"LogicalPairsModel", "isSegment", "(I)Z"⟩
def y_M_isThere : MethodName := ⟨"LogicalPairsModel", "isThere", "(I)Z"⟩
def y_M_kind : MethodName := ⟨"LogicalPairsModel", "kind", "(I)I"⟩
def y_M_parent : MethodName := ⟨"LogicalPairsModel", "parent", "(III)I"⟩
def y_M_countOf : MethodName := ⟨"LogicalPairsModel", "countOf", "(I)I"⟩
def y_M_truth : MethodName := ⟨"LogicalPairsModel", "truth", "(II)I"⟩
def y_M_right : MethodName := ⟨"LogicalPairsModel", "right", "(I)V"⟩
def y_M_segment : MethodName := ⟨"LogicalPairsModel", "segment", "(IIJ)I"⟩
def y_M_relate : MethodName := ⟨"LogicalPairsModel", "relate", "(II)I"⟩
def y_M_spread : MethodName := ⟨"LogicalPairsModel", "spread", "()Z"⟩
def y_M_delete : MethodName := ⟨"LogicalPairsModel", "delete", "(I)I"⟩
def y_M_there : MethodName := ⟨"LogicalPairsModel", "there", "(II)Z"⟩
def y_M_isAhead : MethodName := ⟨"LogicalPairsModel", "isAhead", "(III)Z"⟩
def y_M_isChild : MethodName := ⟨"LogicalPairsModel", "isChild", "(III)Z"⟩
def y_M_child : MethodName := ⟨"LogicalPairsModel", "child", "(III)I"⟩
def y_M_count : MethodName := ⟨"LogicalPairsModel", "count", "(I)I"⟩
def y_M_index : MethodName := ⟨"LogicalPairsModel", "index", "(IZ)I"⟩
def y_M_isIn : MethodName := ⟨"LogicalPairsModel", "isIn", "(II)Z"⟩
def y_M_entry : MethodName := ⟨"LogicalPairsModel", "entry", "(II)I"⟩
def y_M_poke : MethodName := ⟨"LogicalPairsModel", "poke", "(III)I"⟩
def y_M_isBroken : MethodName := ⟨"LogicalPairsModel", "isBroken", "(II)Z"⟩
def y_M_check : MethodName := ⟨"LogicalPairsModel", "check", "()I"⟩
def y_M_broken : MethodName := ⟨"LogicalPairsModel", "broken", "(I)I"⟩
def y_M_told : MethodName := ⟨"LogicalPairsModel", "told", "(I)I"⟩
def y_D_init : MethodName := ⟨"LogicalPairs$Deletion", "<init>", "(LLogicalPairs$Kinds;LLogicalPairs$Segments;)V"⟩
def y_D_gather : MethodName := ⟨"LogicalPairs$Deletion", "gather", "(I)V"⟩
def y_D_addThoseTakenBy : MethodName := ⟨"LogicalPairs$Deletion", "addThoseTakenBy", "(I)V"⟩
def y_D_add : MethodName := ⟨"LogicalPairs$Deletion", "add", "(I)V"⟩
def y_D_isRelatedByRule : MethodName := ⟨"LogicalPairs$Deletion", "isRelatedByRule", "(III)Z"⟩
def y_D_isBarred : MethodName := ⟨"LogicalPairs$Deletion", "isBarred", "()Z"⟩
def y_D_carryOut : MethodName := ⟨"LogicalPairs$Deletion", "carryOut", "()V"⟩
def y_X_init : MethodName := ⟨"LogicalPairs$Indexes", "<init>", "()V"⟩
def y_X_has : MethodName := ⟨"LogicalPairs$Indexes", "has", "(I)Z"⟩
def y_X_add : MethodName := ⟨"LogicalPairs$Indexes", "add", "(IZ)I"⟩
def y_K_init : MethodName := ⟨"LogicalPairs$Kinds", "<init>", "()V"⟩
def y_K_has : MethodName := ⟨"LogicalPairs$Kinds", "has", "(I)Z"⟩
def y_K_add : MethodName := ⟨"LogicalPairs$Kinds", "add", "(I)I"⟩
def y_S_init : MethodName := ⟨"LogicalPairs$Segments", "<init>", "()V"⟩
def y_S_has : MethodName := ⟨"LogicalPairs$Segments", "has", "(I)Z"⟩
def y_S_is : MethodName := ⟨"LogicalPairs$Segments", "is", "(II)Z"⟩
def y_S_isOneUnder : MethodName := ⟨"LogicalPairs$Segments", "isOneUnder", "(III)Z"⟩
def y_S_wereOf : MethodName := ⟨"LogicalPairs$Segments", "wereOf", "(I)Z"⟩
def y_S_hasKey : MethodName := ⟨"LogicalPairs$Segments", "hasKey", "(IIJ)Z"⟩
def y_S_add : MethodName := ⟨"LogicalPairs$Segments", "add", "(IIJ)I"⟩
def y_S_putByKey : MethodName := ⟨"LogicalPairs$Segments", "putByKey", "(I)V"⟩
def y_S_logicalChild : MethodName := ⟨"LogicalPairs$Segments", "logicalChild", "(II)I"⟩
def y_S_join : MethodName := ⟨"LogicalPairs$Segments", "join", "(II)V"⟩
def y_S_part : MethodName := ⟨"LogicalPairs$Segments", "part", "(I)V"⟩
def y_S_truth : MethodName := ⟨"LogicalPairs$Segments", "truth", "(II)I"⟩
def y_S_setRight : MethodName := ⟨"LogicalPairs$Segments", "setRight", "(I)V"⟩
def y_S_say : MethodName := ⟨"LogicalPairs$Segments", "say", "(III)I"⟩
def y_S_wrongPointers : MethodName := ⟨"LogicalPairs$Segments", "wrongPointers", "(I)I"⟩
def y_S_takeAway : MethodName := ⟨"LogicalPairs$Segments", "takeAway", "(I)V"⟩
def y_S_dropThoseWithoutCount : MethodName := ⟨"LogicalPairs$Segments", "dropThoseWithoutCount", "()V"⟩
def y_S_howMany : MethodName := ⟨"LogicalPairs$Segments", "howMany", "(I)I"⟩
def y_S_relations : MethodName := ⟨"LogicalPairs$Segments", "relations", "()I"⟩
end
section
/-! THE ABSTRACT MACHINE: a method's blocks as lists of instructions, run over a world whose cells have places; what a run needs is a formula ('ak_ev'); a formula that holds gives the machine's run ('ak_sound'). -/
abbrev ak_S : Type := (Nat → Nat → Int32) × (Nat → Nat → Int64)
abbrev ak_C : Type := (Nat × List (Option Nat)) ⊕ (FieldType × Nat)
abbrev ak_I : Type := Nat × Jvm.ClassFile.Instr × Nat × Nat × Int32 × List (Int32 × Nat)
abbrev ak_Ls : Type := List (Option Value)
abbrev ak_P : Type := List Value → ak_S → (Option Value → ak_S → Prop) → Prop
abbrev ak_KK : Type := Nat → ak_Ls → List Value → ak_S → Prop
def ak_nth {α : Type} : List α → Nat → Option α
  | [], _ => none
  | a :: _, 0 => some a
  | _ :: l, n + 1 => ak_nth l n
def ak_set {α : Type} : List α → Nat → α → List α
  | [], _, _ => []
  | _ :: l, 0, v => v :: l
  | a :: l, n + 1, v => a :: ak_set l n v
theorem ak_nth_lt {α : Type} : ∀ {l : List α} {k : Nat} {x : α}, ak_nth l k = some x → k < l.length
  | [], _, _, h => by cases h
  | _ :: _, 0, _, _ => Nat.succ_pos _
  | _ :: l, k + 1, _, h => Nat.succ_lt_succ (ak_nth_lt (l := l) (k := k) h)
theorem ak_nth_get {α : Type} : ∀ (l : List α) (k : Nat), ak_nth l k = l[k]?
  | [], _ => rfl
  | _ :: _, 0 => rfl
  | _ :: l, k + 1 => by rw [List.getElem?_cons_succ]; exact ak_nth_get l k
theorem ak_nth_set {α : Type} : ∀ (l : List α) (i j : Nat) (v : α), ak_nth (ak_set l i v) j = if j = i then (if i < l.length then some v else none) else ak_nth l j
  | [], i, j, v => by simp [ak_set, ak_nth]
  | a :: l, 0, 0, v => by simp [ak_set, ak_nth]
  | a :: l, 0, j + 1, v => by simp [ak_set, ak_nth]
  | a :: l, i + 1, 0, v => by simp [ak_set, ak_nth]
  | a :: l, i + 1, j + 1, v => by simp [ak_set, ak_nth, ak_nth_set l i j v]
/-- an abstract value: a reference is a place -/
def ak_v (ad : Nat → Nat) (v : Value) : Value := match v with
  | .ref k => .ref (ad k)
  | w => w
theorem ak_v_cat (ad : Nat → Nat) (v : Value) : (ak_v ad v).category = v.category := by cases v <;> rfl
def ak_p1 (s : ak_S) (k j : Nat) (x : Int32) : ak_S := (fun k' => if k' = k then upd (s.1 k) j x else s.1 k', s.2)
def ak_p2 (s : ak_S) (k j : Nat) (x : Int64) : ak_S := (s.1, fun k' => if k' = k then vp_updL (s.2 k) j x else s.2 k')
/-! the world -/
def ak_fs (ad : Nat → Nat) (g : Nat → Int32) : Nat → List (Option Nat) → List Value
  | _, [] => []
  | f, some q :: r => Value.ref (ad q) :: ak_fs ad g (f + 1) r
  | f, none :: r => Value.int (g f) :: ak_fs ad g (f + 1) r
def ak_e (ad : Nat → Nat) (tyc : Nat → ClassId) (s : ak_S) (k : Nat) (x : ak_C) : va_E := match x with
  | .inl (ci, fs) => .inr (ci, ak_fs ad (s.1 k) 0 fs)
  | .inr (.long, n) => .inl (tyc k, n, .inr (.inl (s.2 k)))
  | .inr (_, n) => .inl (tyc k, n, .inl (s.1 k))
def ak_W (ad : Nat → Nat) (tyc : Nat → ClassId) (s : ak_S) : Nat → List ak_C → va_W
  | _, [] => []
  | k, x :: r => (ad k, ak_e ad tyc s k x) :: ak_W ad tyc s (k + 1) r
theorem ak_W_at {ad : Nat → Nat} {tyc : Nat → ClassId} {s : ak_S} : ∀ (lay : List ak_C) (k0 k : Nat), (ak_W ad tyc s k0 lay)[k]? = (ak_nth lay k).map (fun x => (ad (k0 + k), ak_e ad tyc s (k0 + k) x))
  | [], _, _ => by simp [ak_W, ak_nth]
  | x :: r, k0, 0 => by simp [ak_W, ak_nth]
  | x :: r, k0, k + 1 => by
    rw [ak_W, List.getElem?_cons_succ, ak_W_at r (k0 + 1) k, show k0 + 1 + k = k0 + (k + 1) by omega]
    rfl
theorem ak_W_at0 {ad : Nat → Nat} {tyc : Nat → ClassId} {s : ak_S} {lay : List ak_C} {k : Nat} {x : ak_C} (h : ak_nth lay k = some x) : (ak_W ad tyc s 0 lay)[k]? = some (ad k, ak_e ad tyc s k x) := by
  rw [ak_W_at, h, Nat.zero_add]; rfl
theorem ak_W_len {ad : Nat → Nat} {tyc : Nat → ClassId} {s : ak_S} : ∀ (lay : List ak_C) (k0 : Nat), (ak_W ad tyc s k0 lay).length = lay.length
  | [], _ => rfl
  | _ :: r, k0 => by rw [ak_W, List.length_cons, ak_W_len r (k0 + 1), List.length_cons]
theorem ak_W_inv {ad : Nat → Nat} {tyc : Nat → ClassId} {s : ak_S} {lay : List ak_C} {k : Nat} {q : Nat × va_E} (h : (ak_W ad tyc s 0 lay)[k]? = some q) : k < lay.length ∧ q.1 = ad k := by
  rw [ak_W_at, Nat.zero_add] at h
  cases hx : ak_nth lay k with
  | none => rw [hx] at h; cases h
  | some x => rw [hx] at h; cases h; exact ⟨ak_nth_lt hx, rfl⟩
def ak_Inj (lay : List ak_C) (ad : Nat → Nat) : Prop := ∀ i j, i < lay.length → j < lay.length → ad i = ad j → i = j
theorem ak_D {lay : List ak_C} {ad : Nat → Nat} {tyc : Nat → ClassId} {s : ak_S} {A : Nat → Prop} (hi : ak_Inj lay ad) (hA : ∀ k, k < lay.length → A (ad k)) : va_D A (ak_W ad tyc s 0 lay) := by
  refine ⟨fun i j p q h1 h2 h3 => ?_, fun k q h => ?_⟩
  · obtain ⟨a1, a2⟩ := ak_W_inv h1
    obtain ⟨b1, b2⟩ := ak_W_inv h2
    exact hi i j a1 b1 (by rw [← a2, ← b2]; exact h3)
  · obtain ⟨a1, a2⟩ := ak_W_inv h
    rw [a2]; exact hA k a1
theorem ak_W_set {lay : List ak_C} {ad : Nat → Nat} {tyc : Nat → ClassId} {s s' : ak_S} {k : Nat} {x : ak_C} {e' : va_E} (hk : ak_nth lay k = some x) (h1 : ak_e ad tyc s' k x = e') (h2 : ∀ j y, j ≠ k → ak_e ad tyc s' j y = ak_e ad tyc s j y) : (ak_W ad tyc s 0 lay).set k (ad k, e') = ak_W ad tyc s' 0 lay := by
  apply List.ext_getElem?
  intro j
  rw [List.getElem?_set, ak_W_at, ak_W_at, ak_W_len, Nat.zero_add]
  by_cases hj : k = j
  · subst hj
    rw [if_pos rfl, if_pos (ak_nth_lt hk), hk, ← h1]
    rfl
  · rw [if_neg hj]
    cases ak_nth lay j with
    | none => rfl
    | some y =>
      show some (ad j, ak_e ad tyc s j y) = some (ad j, ak_e ad tyc s' j y)
      rw [h2 j y (Ne.symm hj)]
theorem ak_fs_at {ad : Nat → Nat} {g : Nat → Int32} : ∀ (fs : List (Option Nat)) (f0 f : Nat), (ak_fs ad g f0 fs)[f]? = (ak_nth fs f).map (fun o => match o with | some q => Value.ref (ad q) | none => Value.int (g (f0 + f)))
  | [], _, _ => by simp [ak_fs, ak_nth]
  | some q :: r, f0, 0 => by simp [ak_fs, ak_nth]
  | none :: r, f0, 0 => by simp [ak_fs, ak_nth]
  | some q :: r, f0, f + 1 => by
    rw [ak_fs, List.getElem?_cons_succ, ak_fs_at r (f0 + 1) f, show f0 + 1 + f = f0 + (f + 1) by omega]
    rfl
  | none :: r, f0, f + 1 => by
    rw [ak_fs, List.getElem?_cons_succ, ak_fs_at r (f0 + 1) f, show f0 + 1 + f = f0 + (f + 1) by omega]
    rfl
theorem ak_fs_len {ad : Nat → Nat} {g : Nat → Int32} : ∀ (fs : List (Option Nat)) (f0 : Nat), (ak_fs ad g f0 fs).length = fs.length
  | [], _ => rfl
  | some _ :: r, f0 => by rw [ak_fs, List.length_cons, ak_fs_len r (f0 + 1), List.length_cons]
  | none :: r, f0 => by rw [ak_fs, List.length_cons, ak_fs_len r (f0 + 1), List.length_cons]
theorem ak_fs_set {ad : Nat → Nat} {g : Nat → Int32} {x : Int32} {fs : List (Option Nat)} {f : Nat} (h : ak_nth fs f = some none) : (ak_fs ad g 0 fs).set f (.int x) = ak_fs ad (upd g f x) 0 fs := by
  apply List.ext_getElem?
  intro j
  rw [List.getElem?_set, ak_fs_at, ak_fs_at, ak_fs_len, Nat.zero_add]
  by_cases hj : f = j
  · subst hj
    rw [if_pos rfl, if_pos (ak_nth_lt h), h]
    simp [upd]
  · rw [if_neg hj]
    cases ak_nth fs j with
    | none => rfl
    | some o => cases o with
      | some q => rfl
      | none => simp [upd, Ne.symm hj]
/-! the tables -/
def ak_K (D : va_G) (cl : List vw_C) (lay : List ak_C) (tyc : Nat → ClassId) (U : State) : Prop := va_K D cl [] U ∧ ∀ k ty n, ak_nth lay k = some (.inr (ty, n)) → ArrOfT U (tyc k) ty ∧ va_RA U (tyc k) ty
theorem ak_K.moved {D : va_G} {cl : List vw_C} {lay : List ak_C} {tyc : Nat → ClassId} {u U : State} (hvm : u.vm.Alike U.vm) (h : ak_K D cl lay tyc u) : ak_K D cl lay tyc U :=
  ⟨va_K.moved hvm h.1, fun k ty n hk => ⟨arrOfT_moved hvm (h.2 k ty n hk).1, (h.2 k ty n hk).2.moved hvm⟩⟩
theorem ak_K.one {D : va_G} {cl : List vw_C} {lay : List ak_C} {tyc : Nat → ClassId} {U : State} {k n : Nat} {ty : FieldType} (h : ak_K D cl lay tyc U) (hk : ak_nth lay k = some (.inr (ty, n))) : va_K D cl [(tyc k, ty)] U :=
  ⟨h.1.1, fun j q hj => by
    cases j with
    | zero => cases hj; exact h.2 k ty n hk
    | succ j => simp at hj⟩
/-! the locals -/
def ak_LH (ad : Nat → Nat) (lsA : Array Slot) (nL : Nat) (ls : ak_Ls) : Prop := lsA.size = nL ∧ lv_wf lsA ∧ ∀ i v, ak_nth ls i = some (some v) → lsA[i]? = some (.val (ak_v ad v))
def ak_ps (ad : Nat → Nat) : Nat → ak_Ls → List (Nat × Value)
  | _, [] => []
  | i, none :: r => ak_ps ad (i + 1) r
  | i, some v :: r => (i, ak_v ad v) :: ak_ps ad (i + 1) r
theorem ak_ps_of {ad : Nat → Nat} : ∀ (ls : ak_Ls) (i j : Nat) (v : Value), ak_nth ls j = some (some v) → (i + j, ak_v ad v) ∈ ak_ps ad i ls
  | [], _, _, _, h => by cases h
  | none :: r, i, 0, v, h => by simp [ak_nth] at h
  | some u :: r, i, 0, v, h => by
    simp only [ak_nth, Option.some.injEq] at h
    subst h
    exact List.mem_cons_self
  | none :: r, i, j + 1, v, h => by
    have := ak_ps_of (ad := ad) r (i + 1) j v h
    rw [show i + 1 + j = i + (j + 1) by omega] at this
    exact this
  | some u :: r, i, j + 1, v, h => by
    have := ak_ps_of (ad := ad) r (i + 1) j v h
    rw [show i + 1 + j = i + (j + 1) by omega] at this
    exact List.mem_cons_of_mem _ this
theorem ak_ps_in {ad : Nat → Nat} : ∀ (ls : ak_Ls) (i : Nat) (q : Nat × Value), q ∈ ak_ps ad i ls → ∃ j v, ak_nth ls j = some (some v) ∧ q = (i + j, ak_v ad v)
  | [], _, _, h => by cases h
  | none :: r, i, q, h => by
    obtain ⟨j, v, h1, h2⟩ := ak_ps_in r (i + 1) q h
    exact ⟨j + 1, v, h1, by rw [h2, show i + 1 + j = i + (j + 1) by omega]⟩
  | some u :: r, i, q, h => by
    rcases List.mem_cons.mp h with h | h
    · exact ⟨0, u, rfl, h⟩
    · obtain ⟨j, v, h1, h2⟩ := ak_ps_in r (i + 1) q h
      exact ⟨j + 1, v, h1, by rw [h2, show i + 1 + j = i + (j + 1) by omega]⟩
theorem ak_LH.has {ad : Nat → Nat} {lsA : Array Slot} {nL : Nat} {ls : ak_Ls} (h : ak_LH ad lsA nL ls) : lv_has lsA nL (ak_ps ad 0 ls) := by
  refine ⟨h.1, h.2.1, fun q hq => ?_⟩
  obtain ⟨j, v, h1, h2⟩ := ak_ps_in ls 0 q hq
  rw [h2, Nat.zero_add]
  exact h.2.2 j v h1
/-- no long begins in the place before -/
def ak_ok1 (ls : ak_Ls) (i : Nat) : Prop := match i with
  | 0 => True
  | n + 1 => match ak_nth ls n with
    | some (some (.long _)) => False
    | some (some (.double _)) => False
    | _ => True
theorem ak_ok1_spec {ls : ak_Ls} {i j : Nat} {v : Value} (h : ak_ok1 ls i) (hj : ak_nth ls j = some (some v)) (hi : j + 1 = i) : ¬ v.category = 2 := by
  subst hi
  simp only [ak_ok1, hj] at h
  cases v <;> simp [Value.category] at h ⊢
theorem ak_LH.of1 {ad : Nat → Nat} {ls' : Array Slot} {nL i : Nat} {ls : ak_Ls} {u : Value} (hok : ak_ok1 ls i) (h : lv_has ls' nL ((i, ak_v ad u) :: (ak_ps ad 0 ls).filter (fun q => !(q.1 == i) && !(q.1 + 1 == i && q.2.category == 2)))) : ak_LH ad ls' nL (ak_set ls i (some u)) := by
  refine ⟨h.1, h.2.1, fun j v hj => ?_⟩
  rw [ak_nth_set] at hj
  by_cases e : j = i
  · rw [if_pos e] at hj
    split at hj
    · simp only [Option.some.injEq] at hj
      subst hj; subst e
      exact h.2.2 _ List.mem_cons_self
    · cases hj
  · rw [if_neg e] at hj
    have h1 := ak_ps_of (ad := ad) ls 0 j v hj
    rw [Nat.zero_add] at h1
    refine h.2.2 (j, ak_v ad v) (List.mem_cons_of_mem _ (List.mem_filter.mpr ⟨h1, ?_⟩))
    have h2 : ¬ (j + 1 = i ∧ (ak_v ad v).category = 2) := fun q => ak_ok1_spec hok hj q.1 (by rw [← ak_v_cat ad]; exact q.2)
    simp only [Bool.and_eq_true, Bool.not_eq_true', beq_eq_false_iff_ne, ne_eq, Bool.and_eq_false_iff]
    refine ⟨e, ?_⟩
    by_cases q : j + 1 = i
    · exact Or.inr (fun z => h2 ⟨q, z⟩)
    · exact Or.inl q
theorem ak_LH.of2 {ad : Nat → Nat} {ls' : Array Slot} {nL i : Nat} {ls : ak_Ls} {u : Value} (hok : ak_ok1 ls i) (h : lv_has ls' nL ((i, ak_v ad u) :: (ak_ps ad 0 ls).filter (fun q => !(q.1 == i) && (!(q.1 == i + 1) && !(q.1 + 1 == i && q.2.category == 2))))) : ak_LH ad ls' nL (ak_set (ak_set ls i (some u)) (i + 1) none) := by
  refine ⟨h.1, h.2.1, fun j v hj => ?_⟩
  rw [ak_nth_set] at hj
  by_cases e1 : j = i + 1
  · rw [if_pos e1] at hj
    split at hj <;> simp at hj
  · rw [if_neg e1, ak_nth_set] at hj
    by_cases e : j = i
    · rw [if_pos e] at hj
      split at hj
      · simp only [Option.some.injEq] at hj
        subst hj; subst e
        exact h.2.2 _ List.mem_cons_self
      · cases hj
    · rw [if_neg e] at hj
      have h1 := ak_ps_of (ad := ad) ls 0 j v hj
      rw [Nat.zero_add] at h1
      refine h.2.2 (j, ak_v ad v) (List.mem_cons_of_mem _ (List.mem_filter.mpr ⟨h1, ?_⟩))
      have h2 : ¬ (j + 1 = i ∧ (ak_v ad v).category = 2) := fun q => ak_ok1_spec hok hj q.1 (by rw [← ak_v_cat ad]; exact q.2)
      simp only [Bool.and_eq_true, Bool.not_eq_true', beq_eq_false_iff_ne, ne_eq, Bool.and_eq_false_iff]
      refine ⟨e, e1, ?_⟩
      by_cases q : j + 1 = i
      · exact Or.inr (fun z => h2 ⟨q, z⟩)
      · exact Or.inl q
end
section
/-! what a run of a block needs -/
def ak_b1 (c : Jvm.ClassFile.Cond) (x : Int32) (T F : Prop) : Prop := match c with
  | .eq => (x = 0 → T) ∧ (¬ x = 0 → F)
  | .ne => (¬ x = 0 → T) ∧ (x = 0 → F)
  | .lt => (x < 0 → T) ∧ (¬ x < 0 → F)
  | .ge => (0 ≤ x → T) ∧ (¬ 0 ≤ x → F)
  | .gt => (0 < x → T) ∧ (¬ 0 < x → F)
  | .le => (x ≤ 0 → T) ∧ (¬ x ≤ 0 → F)
def ak_b2 (c : Jvm.ClassFile.Cond) (x y : Int32) (T F : Prop) : Prop := match c with
  | .eq => (x = y → T) ∧ (¬ x = y → F)
  | .ne => (¬ x = y → T) ∧ (x = y → F)
  | .lt => (x < y → T) ∧ (¬ x < y → F)
  | .ge => (y ≤ x → T) ∧ (¬ y ≤ x → F)
  | .gt => (y < x → T) ∧ (¬ y < x → F)
  | .le => (x ≤ y → T) ∧ (¬ x ≤ y → F)
def ak_jp (Kc J : ak_KK) (b : Nat) : ak_KK := match b with
  | 0 => Kc
  | _ => J
/-- a receiver's class, by its place -/
def ak_rc (lay : List ak_C) (vs : List Value) (ci : Nat) : Prop := match vs with
  | .ref k :: _ => (match ak_nth lay k with
    | some (.inl (d, _)) => d = ci
    | _ => False)
  | _ => False
def ak_sw (x : Int32) (K : Nat → Prop) (d : Nat) : List (Int32 × Nat) → Prop
  | [] => K d
  | (k, t) :: r => (x = k → K t) ∧ (¬ x = k → ak_sw x K d r)
section AKE
variable (lay : List ak_C) (cs : Nat → ak_P) (rt : Option Value → ak_S → Prop) (Kc J : ak_KK)
def ak_st (go : ak_Ls → List Value → ak_S → Prop) (x : ak_I) (ls : ak_Ls) (st : List Value) (s : ak_S) : Prop := match x with
  | (pc, i, a, b, v, ts) => match i with
    | .nop => J pc ls st s
    | .iconst _ => go ls (.int v :: st) s
    | .bipush _ => go ls (.int v :: st) s
    | .sipush _ => go ls (.int v :: st) s
    | .lconst _ => go ls (.long v.toInt64 :: st) s
    | .iload _ => (match ak_nth ls a with | some (some (.int x)) => go ls (.int x :: st) s | _ => False)
    | .iload_n _ => (match ak_nth ls a with | some (some (.int x)) => go ls (.int x :: st) s | _ => False)
    | .lload _ => (match ak_nth ls a with | some (some (.long x)) => go ls (.long x :: st) s | _ => False)
    | .lload_n _ => (match ak_nth ls a with | some (some (.long x)) => go ls (.long x :: st) s | _ => False)
    | .aload _ => (match ak_nth ls a with | some (some (.ref x)) => go ls (.ref x :: st) s | _ => False)
    | .aload_n _ => (match ak_nth ls a with | some (some (.ref x)) => go ls (.ref x :: st) s | _ => False)
    | .istore _ => (match st with | .int x :: r => ak_ok1 ls a ∧ go (ak_set ls a (some (.int x))) r s | _ => False)
    | .istore_n _ => (match st with | .int x :: r => ak_ok1 ls a ∧ go (ak_set ls a (some (.int x))) r s | _ => False)
    | .lstore _ => (match st with | .long x :: r => ak_ok1 ls a ∧ go (ak_set (ak_set ls a (some (.long x))) (a + 1) none) r s | _ => False)
    | .lstore_n _ => (match st with | .long x :: r => ak_ok1 ls a ∧ go (ak_set (ak_set ls a (some (.long x))) (a + 1) none) r s | _ => False)
    | .astore _ => (match st with | .ref x :: r => ak_ok1 ls a ∧ go (ak_set ls a (some (.ref x))) r s | _ => False)
    | .astore_n _ => (match st with | .ref x :: r => ak_ok1 ls a ∧ go (ak_set ls a (some (.ref x))) r s | _ => False)
    | .iinc _ _ => (match ak_nth ls a with | some (some (.int x)) => ak_ok1 ls a ∧ go (ak_set ls a (some (.int (x + v)))) st s | _ => False)
    | .iadd => (match st with | .int y :: .int x :: r => go ls (.int (x + y) :: r) s | _ => False)
    | .isub => (match st with | .int y :: .int x :: r => go ls (.int (x - y) :: r) s | _ => False)
    | .imul => (match st with | .int y :: .int x :: r => go ls (.int (x * y) :: r) s | _ => False)
    | .iand => (match st with | .int y :: .int x :: r => go ls (.int (x &&& y) :: r) s | _ => False)
    | .lcmp => (match st with | .long y :: .long x :: r => go ls (.int (lg_cmp x y) :: r) s | _ => False)
    | .dup => (match st with | .int x :: r => go ls (.int x :: .int x :: r) s | .ref x :: r => go ls (.ref x :: .ref x :: r) s | _ => False)
    | .pop => (match st with | .int _ :: r => go ls r s | .ref _ :: r => go ls r s | _ => False)
    | .dup_x1 => (match st with | .int x :: .int y :: r => go ls (.int x :: .int y :: .int x :: r) s | .int x :: .ref y :: r => go ls (.int x :: .ref y :: .int x :: r) s | _ => False)
    | .dup_x2 => (match st with | .int x :: .int y :: .ref z :: r => go ls (.int x :: .int y :: .ref z :: .int x :: r) s | _ => False)
    | .dup2 => (match st with | .int x :: .ref y :: r => go ls (.int x :: .ref y :: .int x :: .ref y :: r) s | .int x :: .int y :: r => go ls (.int x :: .int y :: .int x :: .int y :: r) s | _ => False)
    | .getfield _ => (match st with
      | .ref k :: r => (match ak_nth lay k with
        | some (.inl (ci, fs)) => ci = a ∧ (match ak_nth fs b with
          | some (some q) => go ls (.ref q :: r) s
          | some none => go ls (.int (s.1 k b) :: r) s
          | none => False)
        | _ => False)
      | _ => False)
    | .putfield _ => (match st with
      | .int x :: .ref k :: r => (match ak_nth lay k with
        | some (.inl (ci, fs)) => ci = a ∧ (match ak_nth fs b with
          | some none => go ls r (ak_p1 s k b x)
          | _ => False)
        | _ => False)
      | _ => False)
    | .iaload => (match st with
      | .int i :: .ref k :: r => (match ak_nth lay k with
        | some (.inr (.int, n)) => vp_in i n ∧ go ls (.int (s.1 k i.toNatClampNeg) :: r) s
        | _ => False)
      | _ => False)
    | .baload => (match st with
      | .int i :: .ref k :: r => (match ak_nth lay k with
        | some (.inr (.boolean, n)) => vp_in i n ∧ go ls (.int (s.1 k i.toNatClampNeg) :: r) s
        | _ => False)
      | _ => False)
    | .laload => (match st with
      | .int i :: .ref k :: r => (match ak_nth lay k with
        | some (.inr (.long, n)) => vp_in i n ∧ go ls (.long (s.2 k i.toNatClampNeg) :: r) s
        | _ => False)
      | _ => False)
    | .iastore => (match st with
      | .int x :: .int i :: .ref k :: r => (match ak_nth lay k with
        | some (.inr (.int, n)) => vp_in i n ∧ go ls r (ak_p1 s k i.toNatClampNeg x)
        | _ => False)
      | _ => False)
    | .bastore => (match st with
      | .int x :: .int i :: .ref k :: r => (match ak_nth lay k with
        | some (.inr (.boolean, n)) => vp_in i n ∧ go ls r (ak_p1 s k i.toNatClampNeg (x &&& 1))
        | _ => False)
      | _ => False)
    | .lastore => (match st with
      | .long x :: .int i :: .ref k :: r => (match ak_nth lay k with
        | some (.inr (.long, n)) => vp_in i n ∧ go ls r (ak_p2 s k i.toNatClampNeg x)
        | _ => False)
      | _ => False)
    | .arraylength => (match st with
      | .ref k :: r => (match ak_nth lay k with
        | some (.inr (_, n)) => go ls (.int (nI n) :: r) s
        | _ => False)
      | _ => False)
    | .ifCond c _ => (match st with | .int x :: r => ak_b1 c x (ak_jp Kc J b a ls r s) (go ls r s) | _ => False)
    | .if_icmp c _ => (match st with | .int y :: .int x :: r => ak_b2 c x y (ak_jp Kc J b a ls r s) (go ls r s) | _ => False)
    | .goto _ => ak_jp Kc J b a ls st s
    | .tableswitch _ _ _ _ => (match st with | .int x :: r => ak_sw x (fun t => Kc t ls r s) a ts | _ => False)
    | .ireturn => (match st with
      | [.int x] => (match b with | 0 => rt (some (.int x)) s | _ => (x = 0 ∨ x = 1) ∧ rt (some (.int x)) s)
      | _ => False)
    | .return_ => (match st with | [] => rt none s | _ => False)
    | .invokevirtual _ => b + 1 ≤ st.length ∧ (((st.drop (b + 1)).map fun v => v.category).sum ≤ 8) ∧ (match ts with
      | [(_, ci)] => ak_rc lay (st.take (b + 1)).reverse ci ∧ cs a (st.take (b + 1)).reverse s (fun r s' => go ls (r.toList ++ st.drop (b + 1)) s')
      | _ => False)
    | .invokestatic _ => b ≤ st.length ∧ (((st.drop b).map fun v => v.category).sum ≤ 8) ∧ cs a (st.take b).reverse s (fun r s' => go ls (r.toList ++ st.drop b) s')
    | _ => False
def ak_ev : List ak_I → ak_Ls → List Value → ak_S → Prop
  | [], _, _, _ => False
  | x :: is, ls, st, s => ak_st lay cs rt Kc J (ak_ev is) x ls st s
end AKE
def ak_find (bl : List (Nat × List ak_I)) (pc : Nat) : List ak_I := match bl with
  | [] => []
  | (k, is) :: r => if k = pc then is else ak_find r pc
/-- n jumps, then (and at the cuts) J -/
def ak_run (lay : List ak_C) (cs : Nat → ak_P) (rt : Option Value → ak_S → Prop) (J : ak_KK) (bl : List (Nat × List ak_I)) : Nat → ak_KK
  | 0 => J
  | n + 1 => fun pc ls st s => ak_ev lay cs rt (ak_run lay cs rt J bl n) J (ak_find bl pc) ls st s
/-! the table of a method's instructions is as the bytes say -/
def ak_len : Jvm.ClassFile.Instr → Nat
  | .bipush _ => 2
  | .sipush _ => 3
  | .iload _ => 2
  | .lload _ => 2
  | .aload _ => 2
  | .istore _ => 2
  | .lstore _ => 2
  | .astore _ => 2
  | .iinc _ _ => 3
  | .getfield _ => 3
  | .putfield _ => 3
  | .ifCond _ _ => 3
  | .if_icmp _ _ => 3
  | .goto _ => 3
  | .invokevirtual _ => 3
  | .invokestatic _ => 3
  | _ => 1
def ak_dec (cc : ByteArray) (pc : Nat) (i : Jvm.ClassFile.Instr) : Bool := decide (decode cc pc = .ok (i, ak_len i))
/-- a switch's table -/
def ak_swok (pc : Nat) : Int → List Int → List (Int32 × Nat) → Bool
  | _, [], [] => true
  | lo, o :: os, (k, t) :: r => decide (k.toInt = lo) && decide ((pc : Int) + o = (t : Int)) && ak_swok pc (lo + 1) os r
  | _, _, _ => false
def ak_ok (cc : ByteArray) (Ts : List Cond) (own : String) (cl : List vw_C) (nL : Nat) (rty : Option FieldType) (reg : List (Nat × Nat × Nat)) (x : ak_I) : Bool := match x with
  | (pc, i, a, b, v, ts) => match i with
    | .nop => true
    | .iconst n => ak_dec cc pc i && decide (Int32.ofInt n = v)
    | .bipush n => ak_dec cc pc i && decide ((Int8.ofInt n).toInt32 = v)
    | .sipush n => ak_dec cc pc i && decide ((Int16.ofInt n).toInt32 = v)
    | .lconst n => ak_dec cc pc i && decide (Int64.ofNat (n : Nat) = v.toInt64)
    | .iload n => ak_dec cc pc i && decide (n = a)
    | .iload_n n => ak_dec cc pc i && decide ((n : Nat) = a)
    | .lload n => ak_dec cc pc i && decide (n = a)
    | .lload_n n => ak_dec cc pc i && decide ((n : Nat) = a)
    | .aload n => ak_dec cc pc i && decide (n = a)
    | .aload_n n => ak_dec cc pc i && decide ((n : Nat) = a)
    | .istore n => ak_dec cc pc i && decide (n = a) && decide (a < nL)
    | .istore_n n => ak_dec cc pc i && decide ((n : Nat) = a) && decide (a < nL)
    | .lstore n => ak_dec cc pc i && decide (n = a) && decide (a + 1 < nL)
    | .lstore_n n => ak_dec cc pc i && decide ((n : Nat) = a) && decide (a + 1 < nL)
    | .astore n => ak_dec cc pc i && decide (n = a) && decide (a < nL)
    | .astore_n n => ak_dec cc pc i && decide ((n : Nat) = a) && decide (a < nL)
    | .iinc n k => ak_dec cc pc i && decide (n = a) && decide (Int32.ofInt k = v) && decide (a < nL)
    | .getfield n => ak_dec cc pc i && (match cl[a]?, ts with
      | some (_, T, N), [(_, w)] => decide (b < N) && decide (ak_nth Ts w = some (Cond.fieldLink own n (T b).1 (T b).2.1 (T b).2.2.1))
      | _, _ => false)
    | .putfield n => ak_dec cc pc i && (match cl[a]?, ts with
      | some (_, T, N), [(_, w)] => decide (b < N) && decide ((T b).2.2.2 = false) && decide (parseFieldDescriptor (T b).2.2.1 = some .int) && decide (ak_nth Ts w = some (Cond.fieldLink own n (T b).1 (T b).2.1 (T b).2.2.1))
      | _, _ => false)
    | .ifCond _ o => ak_dec cc pc i && decide ((pc : Int) + o = (a : Int))
    | .if_icmp _ o => ak_dec cc pc i && decide ((pc : Int) + o = (a : Int))
    | .goto o => ak_dec cc pc i && decide ((pc : Int) + o = (a : Int))
    | .tableswitch d lo hi offs => (match decode cc pc with | .ok (j, _) => decide (j = i) | _ => false) && decide ((pc : Int) + d = (a : Int)) && decide (lo + offs.size = hi + 1) && ak_swok pc lo offs.toList ts
    | .ireturn => ak_dec cc pc i && (match b with | 0 => decide (rty = some .int) | _ => decide (rty = some .boolean))
    | .return_ => ak_dec cc pc i && decide (rty = none)
    | .invokevirtual n => ak_dec cc pc i && (match ts with | [(_, ci)] => decide (ak_nth reg a = some (n, b, ci)) | _ => false)
    | .invokestatic n => ak_dec cc pc i && decide (ak_nth reg a = some (n, b, 1000))
    | _ => ak_dec cc pc i
def ak_okB (cc : ByteArray) (Ts : List Cond) (own : String) (cl : List vw_C) (nL : Nat) (rty : Option FieldType) (reg : List (Nat × Nat × Nat)) : Nat → List ak_I → Bool
  | _, [] => true
  | pc, x :: r => decide (x.1 = pc) && ak_ok cc Ts own cl nL rty reg x && ak_okB cc Ts own cl nL rty reg (pc + ak_len x.2.1) r
def ak_okM (cc : ByteArray) (Ts : List Cond) (own : String) (cl : List vw_C) (nL : Nat) (rty : Option FieldType) (reg : List (Nat × Nat × Nat)) (bl : List (Nat × List ak_I)) : Bool := bl.all (fun q => ak_okB cc Ts own cl nL rty reg q.1 q.2)
end
section
/-! a formula that holds gives the machine's run -/
theorem ak_e_p1 {ad : Nat → Nat} {tyc : Nat → ClassId} {s : ak_S} {k i j : Nat} {x : Int32} (y : ak_C) (h : j ≠ k) : ak_e ad tyc (ak_p1 s k i x) j y = ak_e ad tyc s j y := by
  obtain ⟨ci, fs⟩ | ⟨ty, n⟩ := y
  · simp [ak_e, ak_p1, h]
  · cases ty <;> simp [ak_e, ak_p1, h]
theorem ak_e_p2 {ad : Nat → Nat} {tyc : Nat → ClassId} {s : ak_S} {k i j : Nat} {x : Int64} (y : ak_C) (h : j ≠ k) : ak_e ad tyc (ak_p2 s k i x) j y = ak_e ad tyc s j y := by
  obtain ⟨ci, fs⟩ | ⟨ty, n⟩ := y
  · simp [ak_e, ak_p2]
  · cases ty <;> simp [ak_e, ak_p2, h]
theorem ak_mem {α : Type} {l : List α} {k : Nat} {x : α} (h : ak_nth l k = some x) : x ∈ l := List.mem_of_getElem? (by rw [← ak_nth_get]; exact h)
theorem ak_sw_spec {x : Int32} {K : Nat → Prop} {d pc : Nat} : ∀ (ts : List (Int32 × Nat)) (lo : Int) (offs : List Int), ak_swok pc lo offs ts = true → ak_sw x K d ts →
    (∃ (j : Nat) (off : Int) (t : Nat), offs[j]? = some off ∧ (pc : Int) + off = (t : Int) ∧ x.toInt = lo + j ∧ K t) ∨ ((∀ j : Nat, j < offs.length → x.toInt ≠ lo + j) ∧ K d)
  | [], lo, [], _, h => Or.inr ⟨fun j hj => by simp at hj, h⟩
  | [], lo, o :: os, hk, _ => by simp [ak_swok] at hk
  | (k, t) :: r, lo, [], hk, _ => by simp [ak_swok] at hk
  | (k, t) :: r, lo, o :: os, hk, h => by
    simp only [ak_swok, Bool.and_eq_true, decide_eq_true_eq] at hk
    obtain ⟨⟨h1, h2⟩, h3⟩ := hk
    by_cases hx : x = k
    · exact Or.inl ⟨0, o, t, rfl, h2, by rw [hx, h1]; simp, h.1 hx⟩
    · rcases ak_sw_spec r (lo + 1) os h3 (h.2 hx) with ⟨j, off, t', q1, q2, q3, q4⟩ | ⟨q1, q2⟩
      · exact Or.inl ⟨j + 1, off, t', by simpa using q1, q2, by rw [q3]; push_cast; omega, q4⟩
      · refine Or.inr ⟨fun j hj => ?_, q2⟩
        cases j with
        | zero => exact fun e => hx (Int32.toInt_inj.mp (by rw [h1, e]; simp))
        | succ j =>
          have := q1 j (by simpa using hj)
          intro e
          exact this (by rw [e]; push_cast; omega)
def ak_J (p : Program) (l : Launch) (e : Env) (R : Room) (s0 : State) (m : MethodId) (args : Array Value) (below : List Frame) (meth : Method) (c : Code) (cells slots : Nat) (Q : State → Prop) (D : va_G) (cl : List vw_C) (lay : List ak_C) (ad : Nat → Nat) (tyc : Nat → ClassId) (A : Nat → Prop) (H0 : Heap) (nL : Nat) : ak_KK := fun pc ls st s =>
  ∀ (H : Heap) (locs : List Loc) (lsA : Array Slot), va_P D cl (ak_W ad tyc s 0 lay) H → va_S A H0 H locs → ak_LH ad lsA nL ls → W p l e R s0 m args below meth c H locs cells slots Q (F0 m pc lsA (st.map (ak_v ad)))
/-- what holds of the classes' tables -/
def ak_CL (cl : List vw_C) (Ts : List Cond) : Prop := ∀ q ∈ cl, (∃ ty : Nat → FieldType, ∀ k, k < q.2.2 → parseFieldDescriptor (q.2.1 k).2.2.1 = some (ty k)) ∧ (∀ a, a < q.2.2 → ∀ b, b < q.2.2 → a ≠ b → (q.2.1 a).2.1 ≠ (q.2.1 b).2.1) ∧ ∀ w ∈ u_ws q.1 q.2.1 q.2.2, w ∈ Ts
def ak_G (p : Program) (s0 : State) (m : MethodId) (args : Array Value) (c : Code) (cc : ByteArray) (Ts : List Cond) (own : String) (D : va_G) (cl : List vw_C) (lay : List ak_C) (ad : Nat → Nat) (tyc : Nat → ClassId) (A : Nat → Prop) : Prop :=
  p.tables.exec = Jvm.exec ∧ c.code = cc ∧ (∀ w ∈ Ts, w.before args s0 = true) ∧ s0.vm.findClass own = some m.cls ∧ ak_K D cl lay tyc s0 ∧ ak_Inj lay ad ∧ (∀ k, k < lay.length → A (ad k)) ∧ ak_CL cl Ts
set_option maxHeartbeats 4000000 in
set_option maxRecDepth 100000 in
theorem ak_st_sound {p : Program} {l : Launch} {e : Env} {R : Room} {s0 : State} {m : MethodId} {args : Array Value} {below : List Frame} {meth : Method} {c : Code} {cells slots : Nat} {Q : State → Prop} {D : va_G} {cl : List vw_C} {lay : List ak_C} {ad : Nat → Nat} {tyc : Nat → ClassId} {A : Nat → Prop} {H0 : Heap} {nL : Nat} {cc : ByteArray} {Ts : List Cond} {own : String} {rty : Option FieldType} {reg : List (Nat × Nat × Nat)} {cs : Nat → ak_P} {rt : Option Value → ak_S → Prop} {Kc J : ak_KK}
    (AJ : ak_KK) (hAJ : AJ = ak_J p l e R s0 m args below meth c cells slots Q D cl lay ad tyc A H0 nL) (g : ak_G p s0 m args c cc Ts own D cl lay ad tyc A)
    (hKc : ∀ pc ls st s, Kc pc ls st s → AJ pc ls st s) (hJ : ∀ pc ls st s, J pc ls st s → AJ pc ls st s)
    (hri : ∀ pc ls x s, decode cc pc = .ok (.ireturn, 1) → (rty = some .int ∨ (rty = some .boolean ∧ (x = 0 ∨ x = 1))) → rt (some (.int x)) s → AJ pc ls [.int x] s)
    (hrv : ∀ pc ls s, decode cc pc = .ok (.return_, 1) → rty = none → rt none s → AJ pc ls [] s)
    (hcv : ∀ a n b ci, ak_nth reg a = some (n, b, ci) → ∀ pc ls (vs rest : List Value) s Qp, decode cc pc = .ok (.invokevirtual n, 3) → vs.length = b + 1 → ak_rc lay vs ci → (rest.map fun v => v.category).sum ≤ 8 → cs a vs s Qp → (∀ r s', Qp r s' → AJ (pc + 3) ls (r.toList ++ rest) s') → AJ pc ls (vs.reverse ++ rest) s)
    (hct : ∀ a n b, ak_nth reg a = some (n, b, 1000) → ∀ pc ls (vs rest : List Value) s Qp, decode cc pc = .ok (.invokestatic n, 3) → vs.length = b → (rest.map fun v => v.category).sum ≤ 8 → cs a vs s Qp → (∀ r s', Qp r s' → AJ (pc + 3) ls (r.toList ++ rest) s') → AJ pc ls (vs.reverse ++ rest) s)
    {go : ak_Ls → List Value → ak_S → Prop} {x : ak_I} (hok : ak_ok cc Ts own cl nL rty reg x = true) (hgo : ∀ ls st s, go ls st s → AJ (x.1 + ak_len x.2.1) ls st s) {ls : ak_Ls} {st : List Value} {s : ak_S} (h : ak_st lay cs rt Kc J go x ls st s) : AJ x.1 ls st s := by
  subst hAJ
  obtain ⟨hx, hb, hts, hown, hK, hinj, hAd, hCL⟩ := g
  obtain ⟨pc, i, a, b, v, ts⟩ := x
  have hD : ∀ s : ak_S, va_D A (ak_W ad tyc s 0 lay) := fun s => ak_D hinj hAd
  have hjp : ∀ {b a : Nat} {ls : ak_Ls} {st : List Value} {s : ak_S}, ak_jp Kc J b a ls st s → ak_J p l e R s0 m args below meth c cells slots Q D cl lay ad tyc A H0 nL a ls st s := by
    intro b a ls st s h
    cases b with
    | zero => exact hKc _ _ _ _ h
    | succ b => exact hJ _ _ _ _ h
  dsimp only at hgo ⊢
  cases i
  case nop => exact hJ _ _ _ _ h
  case iconst n =>
    simp only [ak_ok, ak_dec, Bool.and_eq_true, decide_eq_true_eq] at hok
    simp only [ak_st] at h
    intro H locs lsA hP hS hl
    exact lv_iconst hx hb hok.1 hok.2 (hgo _ _ _ h H locs lsA hP hS hl)
  case bipush n =>
    simp only [ak_ok, ak_dec, Bool.and_eq_true, decide_eq_true_eq] at hok
    simp only [ak_st] at h
    intro H locs lsA hP hS hl
    exact lv_bipush hx hb hok.1 hok.2 (hgo _ _ _ h H locs lsA hP hS hl)
  case sipush n =>
    simp only [ak_ok, ak_dec, Bool.and_eq_true, decide_eq_true_eq] at hok
    simp only [ak_st] at h
    intro H locs lsA hP hS hl
    exact lv_sipush hx hb hok.1 hok.2 (hgo _ _ _ h H locs lsA hP hS hl)
  case lconst n =>
    simp only [ak_ok, ak_dec, Bool.and_eq_true, decide_eq_true_eq] at hok
    simp only [ak_st] at h
    intro H locs lsA hP hS hl
    exact lv_lconst hx hb hok.1 hok.2 (hgo _ _ _ h H locs lsA hP hS hl)
  case iload n =>
    simp only [ak_ok, ak_dec, Bool.and_eq_true, decide_eq_true_eq] at hok
    simp only [ak_st] at h
    split at h
    · rename_i x heq
      intro H locs lsA hP hS hl
      obtain ⟨hd, rfl⟩ := hok
      exact lv_iload hx hb hd (hl.2.2 _ _ heq) (hgo _ _ _ h H locs lsA hP hS hl)
    · exact h.elim
  case iload_n n =>
    simp only [ak_ok, ak_dec, Bool.and_eq_true, decide_eq_true_eq] at hok
    simp only [ak_st] at h
    split at h
    · rename_i x heq
      intro H locs lsA hP hS hl
      exact lv_iload_n hx hb hok.1 hok.2 (hl.2.2 _ _ heq) (hgo _ _ _ h H locs lsA hP hS hl)
    · exact h.elim
  case lload n =>
    simp only [ak_ok, ak_dec, Bool.and_eq_true, decide_eq_true_eq] at hok
    simp only [ak_st] at h
    split at h
    · rename_i x heq
      intro H locs lsA hP hS hl
      obtain ⟨hd, rfl⟩ := hok
      exact lv_lload hx hb hd (hl.2.2 _ _ heq) (hgo _ _ _ h H locs lsA hP hS hl)
    · exact h.elim
  case lload_n n =>
    simp only [ak_ok, ak_dec, Bool.and_eq_true, decide_eq_true_eq] at hok
    simp only [ak_st] at h
    split at h
    · rename_i x heq
      intro H locs lsA hP hS hl
      exact lv_lload_n hx hb hok.1 hok.2 (hl.2.2 _ _ heq) (hgo _ _ _ h H locs lsA hP hS hl)
    · exact h.elim
  case aload n =>
    simp only [ak_ok, ak_dec, Bool.and_eq_true, decide_eq_true_eq] at hok
    simp only [ak_st] at h
    split at h
    · rename_i x heq
      intro H locs lsA hP hS hl
      obtain ⟨hd, rfl⟩ := hok
      exact lv_aload hx hb hd (hl.2.2 _ _ heq) (hgo _ _ _ h H locs lsA hP hS hl)
    · exact h.elim
  case aload_n n =>
    simp only [ak_ok, ak_dec, Bool.and_eq_true, decide_eq_true_eq] at hok
    simp only [ak_st] at h
    split at h
    · rename_i x heq
      intro H locs lsA hP hS hl
      exact lv_aload_n hx hb hok.1 hok.2 (hl.2.2 _ _ heq) (hgo _ _ _ h H locs lsA hP hS hl)
    · exact h.elim
  case istore n =>
    simp only [ak_ok, ak_dec, Bool.and_eq_true, decide_eq_true_eq] at hok
    simp only [ak_st] at h
    split at h
    · rename_i x r
      intro H locs lsA hP hS hl
      obtain ⟨⟨hd, rfl⟩, hn⟩ := hok
      exact lv_istore hx hb hd hl.has hn rfl (fun ls' h' => hgo _ _ _ h.2 H locs ls' hP hS (ak_LH.of1 (u := .int x) h.1 h'))
    · exact h.elim
  case istore_n n =>
    simp only [ak_ok, ak_dec, Bool.and_eq_true, decide_eq_true_eq] at hok
    simp only [ak_st] at h
    split at h
    · rename_i x r
      intro H locs lsA hP hS hl
      obtain ⟨⟨hd, hi⟩, hn⟩ := hok
      exact lv_istore_n hx hb hd hi hl.has hn rfl (fun ls' h' => hgo _ _ _ h.2 H locs ls' hP hS (ak_LH.of1 (u := .int x) h.1 h'))
    · exact h.elim
  case astore n =>
    simp only [ak_ok, ak_dec, Bool.and_eq_true, decide_eq_true_eq] at hok
    simp only [ak_st] at h
    split at h
    · rename_i x r
      intro H locs lsA hP hS hl
      obtain ⟨⟨hd, rfl⟩, hn⟩ := hok
      exact lv_astore hx hb hd hl.has hn rfl (fun ls' h' => hgo _ _ _ h.2 H locs ls' hP hS (ak_LH.of1 (u := .ref x) h.1 h'))
    · exact h.elim
  case astore_n n =>
    simp only [ak_ok, ak_dec, Bool.and_eq_true, decide_eq_true_eq] at hok
    simp only [ak_st] at h
    split at h
    · rename_i x r
      intro H locs lsA hP hS hl
      obtain ⟨⟨hd, hi⟩, hn⟩ := hok
      exact lv_astore_n hx hb hd hi hl.has hn rfl (fun ls' h' => hgo _ _ _ h.2 H locs ls' hP hS (ak_LH.of1 (u := .ref x) h.1 h'))
    · exact h.elim
  case lstore n =>
    simp only [ak_ok, ak_dec, Bool.and_eq_true, decide_eq_true_eq] at hok
    simp only [ak_st] at h
    split at h
    · rename_i x r
      intro H locs lsA hP hS hl
      obtain ⟨⟨hd, rfl⟩, hn⟩ := hok
      exact lv_lstore hx hb hd hl.has hn rfl (fun ls' h' => hgo _ _ _ h.2 H locs ls' hP hS (ak_LH.of2 (u := .long x) h.1 h'))
    · exact h.elim
  case lstore_n n =>
    simp only [ak_ok, ak_dec, Bool.and_eq_true, decide_eq_true_eq] at hok
    simp only [ak_st] at h
    split at h
    · rename_i x r
      intro H locs lsA hP hS hl
      obtain ⟨⟨hd, hi⟩, hn⟩ := hok
      exact lv_lstore_n hx hb hd hi hl.has hn rfl (fun ls' h' => hgo _ _ _ h.2 H locs ls' hP hS (ak_LH.of2 (u := .long x) h.1 h'))
    · exact h.elim
  case iinc n k0 =>
    simp only [ak_ok, ak_dec, Bool.and_eq_true, decide_eq_true_eq] at hok
    simp only [ak_st] at h
    split at h
    · rename_i x heq
      intro H locs lsA hP hS hl
      obtain ⟨⟨⟨hd, rfl⟩, hv⟩, hn⟩ := hok
      have hm := ak_ps_of (ad := ad) ls 0 _ _ heq
      rw [Nat.zero_add] at hm
      obtain ⟨k, hk⟩ := List.mem_iff_getElem?.mp hm
      exact lv_iinc hx hb hd hl.has hk (by rw [hv]) hn rfl (fun ls' h' => hgo _ _ _ h.2 H locs ls' hP hS (ak_LH.of1 (u := .int (x + v)) h.1 h'))
    · exact h.elim
  case iadd =>
    simp only [ak_ok, ak_dec, Bool.and_eq_true, decide_eq_true_eq] at hok
    simp only [ak_st] at h
    split at h
    · intro H locs lsA hP hS hl
      exact lv_iadd hx hb hok (hgo _ _ _ h H locs lsA hP hS hl)
    · exact h.elim
  case isub =>
    simp only [ak_ok, ak_dec, Bool.and_eq_true, decide_eq_true_eq] at hok
    simp only [ak_st] at h
    split at h
    · intro H locs lsA hP hS hl
      exact lv_isub hx hb hok (hgo _ _ _ h H locs lsA hP hS hl)
    · exact h.elim
  case imul =>
    simp only [ak_ok, ak_dec, Bool.and_eq_true, decide_eq_true_eq] at hok
    simp only [ak_st] at h
    split at h
    · intro H locs lsA hP hS hl
      exact lv_imul hx hb hok (hgo _ _ _ h H locs lsA hP hS hl)
    · exact h.elim
  case iand =>
    simp only [ak_ok, ak_dec, Bool.and_eq_true, decide_eq_true_eq] at hok
    simp only [ak_st] at h
    split at h
    · intro H locs lsA hP hS hl
      exact lv_iand hx hb hok (hgo _ _ _ h H locs lsA hP hS hl)
    · exact h.elim
  case lcmp =>
    simp only [ak_ok, ak_dec, Bool.and_eq_true, decide_eq_true_eq] at hok
    simp only [ak_st] at h
    split at h
    · intro H locs lsA hP hS hl
      exact W.lcmp hx hb hok (hgo _ _ _ h H locs lsA hP hS hl)
    · exact h.elim
  case dup =>
    simp only [ak_ok, ak_dec, Bool.and_eq_true, decide_eq_true_eq] at hok
    simp only [ak_st] at h
    split at h
    · intro H locs lsA hP hS hl
      exact lv_dup hx hb hok rfl (hgo _ _ _ h H locs lsA hP hS hl)
    · intro H locs lsA hP hS hl
      exact lv_dup hx hb hok rfl (hgo _ _ _ h H locs lsA hP hS hl)
    · exact h.elim
  case pop =>
    simp only [ak_ok, ak_dec, Bool.and_eq_true, decide_eq_true_eq] at hok
    simp only [ak_st] at h
    split at h
    · rename_i x r
      intro H locs lsA hP hS hl
      exact lv_pop (va := .int x) hx hb hok rfl (hgo _ _ _ h H locs lsA hP hS hl)
    · rename_i x r
      intro H locs lsA hP hS hl
      exact lv_pop (va := .ref (ad x)) hx hb hok rfl (hgo _ _ _ h H locs lsA hP hS hl)
    · exact h.elim
  case dup_x1 =>
    simp only [ak_ok, ak_dec, Bool.and_eq_true, decide_eq_true_eq] at hok
    simp only [ak_st] at h
    split at h
    · intro H locs lsA hP hS hl
      exact lv_dup_x1 hx hb hok rfl rfl (hgo _ _ _ h H locs lsA hP hS hl)
    · intro H locs lsA hP hS hl
      exact lv_dup_x1 hx hb hok rfl rfl (hgo _ _ _ h H locs lsA hP hS hl)
    · exact h.elim
  case dup_x2 =>
    simp only [ak_ok, ak_dec, Bool.and_eq_true, decide_eq_true_eq] at hok
    simp only [ak_st] at h
    split at h
    · intro H locs lsA hP hS hl
      exact lv_dup_x2 hx hb hok rfl rfl rfl (hgo _ _ _ h H locs lsA hP hS hl)
    · exact h.elim
  case dup2 =>
    simp only [ak_ok, ak_dec, Bool.and_eq_true, decide_eq_true_eq] at hok
    simp only [ak_st] at h
    split at h
    · intro H locs lsA hP hS hl
      exact lv_dup2_11 hx hb hok rfl rfl (hgo _ _ _ h H locs lsA hP hS hl)
    · intro H locs lsA hP hS hl
      exact lv_dup2_11 hx hb hok rfl rfl (hgo _ _ _ h H locs lsA hP hS hl)
    · exact h.elim
  case getfield n =>
    simp only [ak_ok, ak_dec, Bool.and_eq_true, decide_eq_true_eq] at hok
    obtain ⟨hd, hok⟩ := hok
    simp only [ak_st] at h
    split at hok
    · rename_i C T N z w hc
      simp only [Bool.and_eq_true, decide_eq_true_eq] at hok
      obtain ⟨hbN, hlk⟩ := hok
      split at h
      · rename_i k r
        split at h
        · rename_i ci fs hlay
          obtain ⟨rfl, h⟩ := h
          have hin := (hCL _ (List.mem_of_getElem? hc)).2.2
          have he := ak_W_at0 (ad := ad) (tyc := tyc) (s := s) hlay
          split at h
          · rename_i q hf
            intro H locs lsA hP hS hl
            exact va_get hx hb hts hin hown hK.1 hP k he hc b hbN (hts _ (ak_mem hlk)) (fun _ h9 => h9) (by rw [ak_fs_at, hf]; rfl) hd (hgo _ _ _ h H locs lsA hP hS hl)
          · rename_i hf
            intro H locs lsA hP hS hl
            exact va_get (v := .int (s.1 k b)) hx hb hts hin hown hK.1 hP k he hc b hbN (hts _ (ak_mem hlk)) (fun _ h9 => h9) (by rw [ak_fs_at, hf, Nat.zero_add]; rfl) hd (hgo _ _ _ h H locs lsA hP hS hl)
          · exact h.elim
        · exact h.elim
      · exact h.elim
    · cases hok
  case putfield n =>
    simp only [ak_ok, ak_dec, Bool.and_eq_true, decide_eq_true_eq] at hok
    obtain ⟨hd, hok⟩ := hok
    simp only [ak_st] at h
    split at hok
    · rename_i C T N z w hc
      simp only [Bool.and_eq_true, decide_eq_true_eq] at hok
      obtain ⟨⟨⟨hbN, hfin⟩, hty⟩, hlk⟩ := hok
      split at h
      · rename_i x k r
        split at h
        · rename_i ci fs hlay
          obtain ⟨rfl, h⟩ := h
          obtain ⟨⟨ty0, hty0⟩, hnm, hin⟩ := hCL _ (List.mem_of_getElem? hc)
          have he := ak_W_at0 (ad := ad) (tyc := tyc) (s := s) hlay
          split at h
          · rename_i hf
            intro H locs lsA hP hS hl
            refine va_put (ty := .int) (v := .int x) hx hb hts hin ty0 hty0 hnm hown hK.1 hP (hD s) hS k he hc b hbN (hts _ (ak_mem hlk)) (fun _ h9 => h9) hfin hty rfl rfl (by rw [ak_fs_len]; exact ak_nth_lt hf) hd (fun H1 locs1 hP1 _ hS1 => ?_)
            rw [ak_W_set (s' := ak_p1 s k b x) hlay (by rw [ak_fs_set hf]; simp [ak_e, ak_p1]) (fun j y hj => ak_e_p1 y hj)] at hP1
            exact hgo _ _ _ h H1 locs1 lsA hP1 hS1 hl
          · exact h.elim
        · exact h.elim
      · exact h.elim
    · cases hok
  case iaload =>
    simp only [ak_ok, ak_dec, decide_eq_true_eq] at hok
    simp only [ak_st] at h
    split at h
    · rename_i i k r
      split at h
      · rename_i n hlay
        intro H locs lsA hP hS hl
        exact va_iald hx hb (hK.one hlay) hP k 0 (ak_W_at0 hlay) rfl h.1 hok (hgo _ _ _ h.2 H locs lsA hP hS hl)
      · exact h.elim
    · exact h.elim
  case baload =>
    simp only [ak_ok, ak_dec, decide_eq_true_eq] at hok
    simp only [ak_st] at h
    split at h
    · rename_i i k r
      split at h
      · rename_i n hlay
        intro H locs lsA hP hS hl
        exact va_zald hx hb (hK.one hlay) hP k 0 (ak_W_at0 hlay) rfl h.1 hok (hgo _ _ _ h.2 H locs lsA hP hS hl)
      · exact h.elim
    · exact h.elim
  case laload =>
    simp only [ak_ok, ak_dec, decide_eq_true_eq] at hok
    simp only [ak_st] at h
    split at h
    · rename_i i k r
      split at h
      · rename_i n hlay
        intro H locs lsA hP hS hl
        exact va_lald hx hb (hK.one hlay) hP k 0 (ak_W_at0 hlay) rfl h.1 hok (hgo _ _ _ h.2 H locs lsA hP hS hl)
      · exact h.elim
    · exact h.elim
  case iastore =>
    simp only [ak_ok, ak_dec, decide_eq_true_eq] at hok
    simp only [ak_st] at h
    split at h
    · rename_i x i k r
      split at h
      · rename_i n hlay
        intro H locs lsA hP hS hl
        refine va_iast hx hb (hK.one hlay) hP (hD s) hS k 0 (ak_W_at0 hlay) rfl h.1 hok (fun H1 locs1 hP1 _ hS1 => ?_)
        rw [ak_W_set (s' := ak_p1 s k i.toNatClampNeg x) hlay (by simp [ak_e, ak_p1]) (fun j y hj => ak_e_p1 y hj)] at hP1
        exact hgo _ _ _ h.2 H1 locs1 lsA hP1 hS1 hl
      · exact h.elim
    · exact h.elim
  case bastore =>
    simp only [ak_ok, ak_dec, decide_eq_true_eq] at hok
    simp only [ak_st] at h
    split at h
    · rename_i x i k r
      split at h
      · rename_i n hlay
        intro H locs lsA hP hS hl
        refine va_zast hx hb (hK.one hlay) hP (hD s) hS k 0 (ak_W_at0 hlay) rfl h.1 hok (fun H1 locs1 hP1 _ hS1 => ?_)
        rw [ak_W_set (s' := ak_p1 s k i.toNatClampNeg (x &&& 1)) hlay (by simp [ak_e, ak_p1]; try rfl) (fun j y hj => ak_e_p1 y hj)] at hP1
        exact hgo _ _ _ h.2 H1 locs1 lsA hP1 hS1 hl
      · exact h.elim
    · exact h.elim
  case lastore =>
    simp only [ak_ok, ak_dec, decide_eq_true_eq] at hok
    simp only [ak_st] at h
    split at h
    · rename_i x i k r
      split at h
      · rename_i n hlay
        intro H locs lsA hP hS hl
        refine va_last hx hb (hK.one hlay) hP (hD s) hS k 0 (ak_W_at0 hlay) rfl h.1 hok (fun H1 locs1 hP1 _ hS1 => ?_)
        rw [ak_W_set (s' := ak_p2 s k i.toNatClampNeg x) hlay (by simp [ak_e, ak_p2]) (fun j y hj => ak_e_p2 y hj)] at hP1
        exact hgo _ _ _ h.2 H1 locs1 lsA hP1 hS1 hl
      · exact h.elim
    · exact h.elim
  case arraylength =>
    simp only [ak_ok, ak_dec, decide_eq_true_eq] at hok
    simp only [ak_st] at h
    split at h
    · rename_i k r
      split at h
      · rename_i ty n hlay
        intro H locs lsA hP hS hl
        have hz : ∃ z : vp_A, ak_e ad tyc s k (.inr (ty, n)) = .inl (tyc k, z) ∧ z.1 = n := by cases ty <;> exact ⟨_, rfl, rfl⟩
        obtain ⟨z, hz1, hz2⟩ := hz
        have he := ak_W_at0 (ad := ad) (tyc := tyc) (s := s) hlay
        rw [hz1] at he
        exact va_alen hx hb (hK.one hlay) hP k 0 he rfl (by rw [hz2]; rfl) hok (hgo _ _ _ h H locs lsA hP hS hl)
      · exact h.elim
    · exact h.elim
  case ifCond c0 o =>
    simp only [ak_ok, ak_dec, Bool.and_eq_true, decide_eq_true_eq] at hok
    simp only [ak_st] at h
    obtain ⟨hd, ht⟩ := hok
    split at h
    · cases c0
      · intro H locs lsA hP hS hl
        exact lv_if_eq hx hb hd ht (fun q => hjp (h.1 q) H locs lsA hP hS hl) (fun q => hgo _ _ _ (h.2 q) H locs lsA hP hS hl)
      · intro H locs lsA hP hS hl
        exact lv_if_ne hx hb hd ht (fun q => hjp (h.1 q) H locs lsA hP hS hl) (fun q => hgo _ _ _ (h.2 q) H locs lsA hP hS hl)
      · intro H locs lsA hP hS hl
        exact lv_if_lt hx hb hd ht (fun q => hjp (h.1 q) H locs lsA hP hS hl) (fun q => hgo _ _ _ (h.2 q) H locs lsA hP hS hl)
      · intro H locs lsA hP hS hl
        exact lv_if_ge hx hb hd ht (fun q => hjp (h.1 q) H locs lsA hP hS hl) (fun q => hgo _ _ _ (h.2 q) H locs lsA hP hS hl)
      · intro H locs lsA hP hS hl
        exact lv_if_gt hx hb hd ht (fun q => hjp (h.1 q) H locs lsA hP hS hl) (fun q => hgo _ _ _ (h.2 q) H locs lsA hP hS hl)
      · intro H locs lsA hP hS hl
        exact lv_if_le hx hb hd ht (fun q => hjp (h.1 q) H locs lsA hP hS hl) (fun q => hgo _ _ _ (h.2 q) H locs lsA hP hS hl)
    · exact h.elim
  case if_icmp c0 o =>
    simp only [ak_ok, ak_dec, Bool.and_eq_true, decide_eq_true_eq] at hok
    simp only [ak_st] at h
    obtain ⟨hd, ht⟩ := hok
    split at h
    · cases c0
      · intro H locs lsA hP hS hl
        exact lv_icmp_eq hx hb hd ht (fun q => hjp (h.1 q) H locs lsA hP hS hl) (fun q => hgo _ _ _ (h.2 q) H locs lsA hP hS hl)
      · intro H locs lsA hP hS hl
        exact lv_icmp_ne hx hb hd ht (fun q => hjp (h.1 q) H locs lsA hP hS hl) (fun q => hgo _ _ _ (h.2 q) H locs lsA hP hS hl)
      · intro H locs lsA hP hS hl
        exact lv_icmp_lt hx hb hd ht (fun q => hjp (h.1 q) H locs lsA hP hS hl) (fun q => hgo _ _ _ (h.2 q) H locs lsA hP hS hl)
      · intro H locs lsA hP hS hl
        exact lv_icmp_ge hx hb hd ht (fun q => hjp (h.1 q) H locs lsA hP hS hl) (fun q => hgo _ _ _ (h.2 q) H locs lsA hP hS hl)
      · intro H locs lsA hP hS hl
        exact lv_icmp_gt hx hb hd ht (fun q => hjp (h.1 q) H locs lsA hP hS hl) (fun q => hgo _ _ _ (h.2 q) H locs lsA hP hS hl)
      · intro H locs lsA hP hS hl
        exact lv_icmp_le hx hb hd ht (fun q => hjp (h.1 q) H locs lsA hP hS hl) (fun q => hgo _ _ _ (h.2 q) H locs lsA hP hS hl)
    · exact h.elim
  case goto o =>
    simp only [ak_ok, ak_dec, Bool.and_eq_true, decide_eq_true_eq] at hok
    simp only [ak_st] at h
    intro H locs lsA hP hS hl
    exact lv_goto hx hb hok.1 hok.2 (hjp h H locs lsA hP hS hl)
  case tableswitch d lo hi offs =>
    simp only [ak_ok, Bool.and_eq_true, decide_eq_true_eq] at hok
    obtain ⟨⟨⟨hd, hdf⟩, hsz⟩, hsw⟩ := hok
    simp only [ak_st] at h
    split at hd
    · rename_i j len hdec
      simp only [decide_eq_true_eq] at hd
      subst hd
      split at h
      · rename_i x r
        intro H locs lsA hP hS hl
        rcases ak_sw_spec ts lo offs.toList hsw h with ⟨j, off, t, q1, q2, q3, q4⟩ | ⟨q1, q2⟩
        · have hj : j < offs.size := by
            have := (List.getElem?_eq_some_iff.mp q1).1
            simpa using this
          refine lv_tableIn hx hb hdec (by omega) (by omega) (off := off) ?_ q2 (hKc _ _ _ _ q4 H locs lsA hP hS hl)
          rw [show (x.toInt - lo).toNat = j by omega, ← Array.getElem?_toList]
          exact q1
        · refine lv_tableOut hx hb hdec ?_ hdf (hKc _ _ _ _ q2 H locs lsA hP hS hl)
          by_cases z1 : x.toInt < lo
          · exact Or.inl z1
          · by_cases z2 : hi < x.toInt
            · exact Or.inr z2
            · exact absurd (by omega) (q1 (x.toInt - lo).toNat (by simp; omega))
      · exact h.elim
    · cases hd
  case ireturn =>
    simp only [ak_ok, ak_dec, Bool.and_eq_true, decide_eq_true_eq] at hok
    simp only [ak_st] at h
    split at h
    · cases b with
      | zero =>
        simp only [decide_eq_true_eq] at hok
        exact hri _ _ _ _ hok.1 (Or.inl hok.2) h
      | succ b =>
        simp only [decide_eq_true_eq] at hok
        exact hri _ _ _ _ hok.1 (Or.inr ⟨hok.2, h.1⟩) h.2
    · exact h.elim
  case return_ =>
    simp only [ak_ok, ak_dec, Bool.and_eq_true, decide_eq_true_eq] at hok
    simp only [ak_st] at h
    split at h
    · exact hrv _ _ _ hok.1 hok.2 h
    · exact h.elim
  case invokevirtual n =>
    simp only [ak_ok, ak_dec, Bool.and_eq_true, decide_eq_true_eq] at hok
    obtain ⟨hd, hok⟩ := hok
    simp only [ak_st] at h
    obtain ⟨h1, h2, h3⟩ := h
    split at hok
    · rename_i z ci
      simp only [decide_eq_true_eq] at hok
      have hq := hcv _ _ _ _ hok pc ls (st.take (b + 1)).reverse (st.drop (b + 1)) s _ hd (by simp; omega) h3.1 h2 h3.2 (fun r s' hr => hgo _ _ _ hr)
      rw [List.reverse_reverse, List.take_append_drop] at hq
      exact hq
    · cases hok
  case invokestatic n =>
    simp only [ak_ok, ak_dec, Bool.and_eq_true, decide_eq_true_eq] at hok
    obtain ⟨hd, hok⟩ := hok
    simp only [ak_st] at h
    obtain ⟨h1, h2, h3⟩ := h
    have hq := hct _ _ _ hok pc ls (st.take b).reverse (st.drop b) s _ hd (by simp; omega) h2 h3 (fun r s' hr => hgo _ _ _ hr)
    rw [List.reverse_reverse, List.take_append_drop] at hq
    exact hq
  all_goals exact h.elim
end
section
/-! contracts: what a method does to the world, as a transformer of formulas -/
def ak_A (lay : List ak_C) (ad : Nat → Nat) (sz : Nat) : Nat → Prop := fun q => (∃ k, k < lay.length ∧ q = ad k) ∨ sz ≤ q
def ak_Q (D : va_G) (cl : List vw_C) (lay : List ak_C) (ad : Nat → Nat) (tyc : Nat → ClassId) (sz : Nat) (Qp : Option Value → ak_S → Prop) : Array Value → State → Outcome → State → Prop := fun _ st oc t =>
  (∃ (r : Option Value) (s' : ak_S), oc = .returned (r.map (ak_v ad)) ∧ Qp r s' ∧ va_P D cl (ak_W ad tyc s' 0 lay) t.heap ∧ ak_K D cl lay tyc t) ∧ va_F (ak_A lay ad sz) st t
def ak_B (D : va_G) (cl : List vw_C) (lay : List ak_C) (ad : Nat → Nat) (tyc : Nat → ClassId) (sz : Nat) (s : ak_S) : State → Prop := fun U => U.heap.size = sz ∧ va_P D cl (ak_W ad tyc s 0 lay) U.heap ∧ ak_K D cl lay tyc U
def ak_Ctr (l : Launch) (cl : List vw_C) (lay : List ak_C) (y : MethodName) (ws : List Cond) (rm : Room) (pt : ak_P) : Prop :=
  ∀ (D : va_G) (ad : Nat → Nat) (tyc : Nat → ClassId) (sz : Nat) (vs : List Value) (s : ak_S) (Qp : Option Value → ak_S → Prop), ak_Inj lay ad → pt vs s Qp →
    Met l y ws rm (va_Pc (vs.map (ak_v ad)) (ak_B D cl lay ad tyc sz s)) (ak_Q D cl lay ad tyc sz Qp) 0 0 (ak_A lay ad sz)
theorem ak_blind {D : va_G} {cl : List vw_C} {lay : List ak_C} {ad : Nat → Nat} {tyc : Nat → ClassId} {sz : Nat} {s : ak_S} {av : List Value} : FrameBlind (va_Pc av (ak_B D cl lay ad tyc sz s)) :=
  fun a U g mk q => by
    obtain ⟨q0, q1, qP, qK⟩ := q
    exact ⟨q0, q1, qP, ak_K.moved (u := U) (U := U.calling g mk a) (Vm.Alike.refl U.vm) qK⟩
section AKC
variable {p : Program} {l : Launch} {e : Env} {R : Room} {s0 : State} {m : MethodId} {args : Array Value} {below : List Frame} {meth : Method} {c : Code} {cells slots : Nat} {Q : State → Prop} {D : va_G} {cl : List vw_C} {lay : List ak_C} {ad : Nat → Nat} {tyc : Nat → ClassId} {A : Nat → Prop} {H0 : Heap} {nL : Nat} {cc : ByteArray} {Ts : List Cond} {own : String}
theorem ak_go {H : Heap} {locs : List Loc} {pc : Nat} {lsA : Array Slot} {rest st0 : List Value} {a : Array Value} {Qp : Option Value → ak_S → Prop}
    (hr : va_Run p l e R s0 m args below meth c H locs cells slots 0 0 (F0 m pc lsA st0) rest (ak_Q D cl lay ad tyc H.size Qp a) (ak_A lay ad H.size)) (hS : va_S A H0 H locs) (hF : ∀ q, ak_A lay ad H.size q → A q)
    (kk : ∀ (r : Option Value) (s' : ak_S) (H1 : Heap) (locs1 : List Loc), Qp r s' → va_P D cl (ak_W ad tyc s' 0 lay) H1 → va_S A H0 H1 locs1 → W p l e R s0 m args below meth c H1 locs1 cells slots Q (F0 m (pc + 3) lsA ((r.map (ak_v ad)).toList ++ rest))) :
    W p l e R s0 m args below meth c H locs cells slots Q (F0 m pc lsA st0) := by
  intro T hT X
  obtain ⟨v, st₀, t, T', L, h0, X', hL, e1, e2, ⟨⟨r, s', hv, hq, hP, hK⟩, hz, hk⟩, st⟩ := hr T hT X
  cases hv
  rw [h0] at hz hk
  obtain ⟨t2, a1, b1⟩ := kk r s' T'.heap (locs ++ L) hq (by rw [e1]; exact hP)
    ⟨Nat.le_trans hS.1 (by rw [e1]; exact hz), fun q h1 h2 => by rw [e1, hk q (Nat.lt_of_lt_of_le h1 hS.1) (fun z => h2 (hF q z))]; exact hS.2.1 q h1 h2, fun q hq => by
      rcases List.mem_append.mp hq with h | h
      · exact hS.2.2 q h
      · exact hF _ (hL q h)⟩ T' rfl X'
  exact ⟨t2, st t2 a1, b1⟩
theorem ak_hF (hA : ∀ q, H0.size ≤ q → A q) (hAd : ∀ k, k < lay.length → A (ad k)) {H : Heap} {locs : List Loc} (hS : va_S A H0 H locs) : ∀ q, ak_A lay ad H.size q → A q := by
  intro q h
  rcases h with ⟨k, h1, rfl⟩ | h
  · exact hAd k h1
  · exact hA q (Nat.le_trans hS.1 h)
theorem ak_back (r : Option Value) (rest : List Value) : (r.toList ++ rest).map (ak_v ad) = (r.map (ak_v ad)).toList ++ rest.map (ak_v ad) := by cases r <;> simp
theorem ak_cats (rest : List Value) : ((rest.map (ak_v ad)).map fun v => v.category) = rest.map fun v => v.category := by
  rw [List.map_map]
  congr 1
  funext v
  exact ak_v_cat ad v
set_option maxHeartbeats 1000000 in
theorem ak_hcv (g : ak_G p s0 m args c cc Ts own D cl lay ad tyc A) (hml : c.maxLocals = nL) (hA : ∀ q, H0.size ≤ q → A q) (hcr : cells ≤ R.cells ∧ slots ≤ R.slots) {y : MethodName} {wsC : List Cond} {rmC : Room} {pt : ak_P} {n b ci mL : Nat} {bytes : ByteArray} {ret : Option FieldType} {q : vw_C} (hci : cl[ci]? = some q)
    (C0 : ak_Ctr l cl lay y wsC rmC pt) (cw : CallW R s0 args own q.1 n y bytes mL ret wsC rmC 0 0 b) (pc : Nat) (ls : ak_Ls) (vs rest : List Value) (s : ak_S) (Qp : Option Value → ak_S → Prop) (hd : decode cc pc = .ok (.invokevirtual n, 3)) (hlen : vs.length = b + 1) (hrc : ak_rc lay vs ci) (hsum : (rest.map fun v => v.category).sum ≤ 8) (hpt : pt vs s Qp)
    (hk : ∀ r s', Qp r s' → ak_J p l e R s0 m args below meth c cells slots Q D cl lay ad tyc A H0 nL (pc + 3) ls (r.toList ++ rest) s') : ak_J p l e R s0 m args below meth c cells slots Q D cl lay ad tyc A H0 nL pc ls (vs.reverse ++ rest) s := by
  obtain ⟨hx, hb, hts, hown, hK, hinj, hAd, hCL⟩ := g
  intro H locs lsA hP hS hl
  unfold ak_rc at hrc
  split at hrc
  · rename_i k As
    split at hrc
    · rename_i d fs hlay
      subst hrc
      have hrun := va_runV (p := p) (l := l) (e := e) (R := R) (s := s0) (m := m) (args := args) (below := below) (meth := meth) (c := c) (H := H) (locs := locs) (cells := cells) (slots := slots) (As := As.map (ak_v ad)) (rest := rest.map (ak_v ad)) (b := ad k) (g := F0 m pc lsA (((Value.ref k :: As).reverse ++ rest).map (ak_v ad))) (n := b) ⟨hx, hb, hml, hown, hts⟩ (C0 D ad tyc H.size (.ref k :: As) s Qp hinj hpt) cw
        ⟨ak_blind, va_recv hK.1 hP hci (ak_W_at0 hlay), fun U hU hW => ⟨rfl, by rw [hU], by rw [hU]; exact hP, hK.moved hW.alike⟩⟩ rfl (by simpa using hlen) hl.1 (by simp [ak_v]) (lv_room (by rw [ak_cats]; exact hsum)) hd ⟨by omega, by omega⟩
      refine ak_go hrun hS (ak_hF hA hAd hS) (fun r s' H1 locs1 hq hP1 hS1 => ?_)
      have hz := hk r s' hq H1 locs1 lsA hP1 hS1 hl
      rw [ak_back] at hz
      exact hz
    · exact hrc.elim
  · exact hrc.elim
set_option maxHeartbeats 1000000 in
theorem ak_hct (g : ak_G p s0 m args c cc Ts own D cl lay ad tyc A) (hml : c.maxLocals = nL) (hA : ∀ q, H0.size ≤ q → A q) (hcr : cells ≤ R.cells ∧ slots ≤ R.slots) {y : MethodName} {wsC : List Cond} {rmC : Room} {pt : ak_P} {n b mL : Nat} {bytes : ByteArray} {ret : Option FieldType}
    (C0 : ak_Ctr l cl lay y wsC rmC pt) (cw : CallB R s0 args own n y bytes mL ret wsC rmC 0 0 b ∧ (Cond.static y).before args s0 = true) (pc : Nat) (ls : ak_Ls) (vs rest : List Value) (s : ak_S) (Qp : Option Value → ak_S → Prop) (hd : decode cc pc = .ok (.invokestatic n, 3)) (hlen : vs.length = b) (hsum : (rest.map fun v => v.category).sum ≤ 8) (hpt : pt vs s Qp)
    (hk : ∀ r s', Qp r s' → ak_J p l e R s0 m args below meth c cells slots Q D cl lay ad tyc A H0 nL (pc + 3) ls (r.toList ++ rest) s') : ak_J p l e R s0 m args below meth c cells slots Q D cl lay ad tyc A H0 nL pc ls (vs.reverse ++ rest) s := by
  obtain ⟨hx, hb, hts, hown, hK, hinj, hAd, hCL⟩ := g
  intro H locs lsA hP hS hl
  have hrun := va_runS (p := p) (l := l) (e := e) (R := R) (s := s0) (m := m) (args := args) (below := below) (meth := meth) (c := c) (H := H) (locs := locs) (cells := cells) (slots := slots) (As := vs.map (ak_v ad)) (rest := rest.map (ak_v ad)) (g := F0 m pc lsA ((vs.reverse ++ rest).map (ak_v ad))) (n := b) ⟨hx, hb, hml, hown, hts⟩ (C0 D ad tyc H.size vs s Qp hinj hpt) cw
    ⟨ak_blind, fun U hU hW => ⟨rfl, by rw [hU], by rw [hU]; exact hP, hK.moved hW.alike⟩⟩ rfl (by simpa using hlen) hl.1 (by simp) (lv_room (by rw [ak_cats]; exact hsum)) hd ⟨by omega, by omega⟩
  refine ak_go hrun hS (ak_hF hA hAd hS) (fun r s' H1 locs1 hq hP1 hS1 => ?_)
  have hz := hk r s' hq H1 locs1 lsA hP1 hS1 hl
  rw [ak_back] at hz
  exact hz
end AKC
/-! the entry -/
def ak_la : List Value → ak_Ls
  | [] => []
  | v :: r => match v with
    | .long x => some (.long x) :: none :: ak_la r
    | .double x => some (.double x) :: none :: ak_la r
    | w => some w :: ak_la r
def ak_pad : Nat → ak_Ls → ak_Ls
  | 0, l => l
  | n + 1, [] => none :: ak_pad n []
  | n + 1, a :: r => a :: ak_pad n r
theorem ak_pad_nth {v : Value} : ∀ (n : Nat) (l : ak_Ls) (j : Nat), ak_nth (ak_pad n l) j = some (some v) → ak_nth l j = some (some v)
  | 0, _, _, h => h
  | n + 1, [], 0, h => by simp [ak_pad, ak_nth] at h
  | n + 1, [], j + 1, h => by
    have := ak_pad_nth n [] j h
    simp [ak_nth] at this
  | n + 1, a :: r, 0, h => h
  | n + 1, a :: r, j + 1, h => ak_pad_nth n r j h
theorem ak_la_mem {ad : Nat → Nat} {v : Value} : ∀ (vs : List Value) (i j : Nat), ak_nth (ak_la vs) j = some (some v) → (i + j, ak_v ad v) ∈ lv_args i (vs.map (ak_v ad))
  | [], _, _, h => by simp [ak_la, ak_nth] at h
  | u :: r, i, j, h => by
    have one : ak_v ad u = ak_v ad u → (ak_v ad u).category = 1 → ak_nth (some u :: ak_la r) j = some (some v) → (i + j, ak_v ad v) ∈ lv_args i ((u :: r).map (ak_v ad)) := by
      intro _ hc h
      rw [List.map_cons, lv_args, if_neg (by rw [hc]; decide)]
      match j, h with
      | 0, h =>
        simp only [ak_nth, Option.some.injEq] at h
        subst h
        exact List.mem_cons_self
      | j' + 1, h =>
        have := ak_la_mem (ad := ad) r (i + 1) j' h
        rw [show i + 1 + j' = i + (j' + 1) by omega] at this
        exact List.mem_cons_of_mem _ this
    cases u with
    | long x =>
      match j, h with
      | 0, h =>
        simp only [ak_la, ak_nth, Option.some.injEq] at h
        subst h
        exact List.mem_cons_self
      | 1, h => simp [ak_la, ak_nth] at h
      | j' + 2, h =>
        have := ak_la_mem (ad := ad) r (i + 2) j' h
        rw [show i + 2 + j' = i + (j' + 2) by omega] at this
        rw [List.map_cons, lv_args, if_pos (show (ak_v ad (Value.long x)).category = 2 from rfl)]
        exact List.mem_cons_of_mem _ this
    | double x =>
      match j, h with
      | 0, h =>
        simp only [ak_la, ak_nth, Option.some.injEq] at h
        subst h
        exact List.mem_cons_self
      | 1, h => simp [ak_la, ak_nth] at h
      | j' + 2, h =>
        have := ak_la_mem (ad := ad) r (i + 2) j' h
        rw [show i + 2 + j' = i + (j' + 2) by omega] at this
        rw [List.map_cons, lv_args, if_pos (show (ak_v ad (Value.double x)).category = 2 from rfl)]
        exact List.mem_cons_of_mem _ this
    | int x => exact one rfl rfl h
    | float x => exact one rfl rfl h
    | null => exact one rfl rfl h
    | ref x => exact one rfl rfl h
    | retAddr x => exact one rfl rfl h
theorem ak_sl_len {ad : Nat → Nat} : ∀ (vs : List Value), (lg_sl (vs.map (ak_v ad))).length = (ak_la vs).length
  | [] => rfl
  | u :: r => by
    have ih := ak_sl_len (ad := ad) r
    cases u <;> simp [lg_sl, ak_la, ak_v, Value.category] at ih ⊢ <;> omega
/-- a method's formula -/
def ak_VC (lay : List ak_C) (cs : Nat → ak_P) (bl : List (Nat × List ak_I)) (nL : Nat) (pt : ak_P) : Prop :=
  ∀ (vs : List Value) (s : ak_S) (Qp : Option Value → ak_S → Prop), pt vs s Qp → (ak_la vs).length ≤ nL ∧ ∀ J : ak_KK, (∀ n pc ls st s, ak_run lay cs Qp J bl n pc ls st s → J pc ls st s) → J 0 (ak_pad nL (ak_la vs)) [] s
/-- a callee -/
def ak_CC (l : Launch) (cl : List vw_C) (lay : List ak_C) (ws : List Cond) (own : String) (R : Room) (pt : ak_P) (n b ci : Nat) : Prop :=
  ∃ (y : MethodName) (wsC : List Cond) (rmC : Room) (bytes : ByteArray) (mL : Nat) (ret : Option FieldType), ak_Ctr l cl lay y wsC rmC pt ∧
    ((∃ q : vw_C, cl[ci]? = some q ∧ ∀ (s0 : State) (args : Array Value), (∀ w ∈ ws, w.before args s0 = true) → CallW R s0 args own q.1 n y bytes mL ret wsC rmC 0 0 b) ∨
     (ci = 1000 ∧ ∀ (s0 : State) (args : Array Value), (∀ w ∈ ws, w.before args s0 = true) → CallB R s0 args own n y bytes mL ret wsC rmC 0 0 b ∧ (Cond.static y).before args s0 = true))
theorem ak_find_ok {cc : ByteArray} {Ts : List Cond} {own : String} {cl : List vw_C} {nL : Nat} {rty : Option FieldType} {reg : List (Nat × Nat × Nat)} {bl : List (Nat × List ak_I)} (h : ak_okM cc Ts own cl nL rty reg bl = true) (pc : Nat) : ak_okB cc Ts own cl nL rty reg pc (ak_find bl pc) = true := by
  induction bl with
  | nil => rfl
  | cons q r ih =>
    obtain ⟨k, is⟩ := q
    simp only [ak_okM, List.all_cons, Bool.and_eq_true] at h
    simp only [ak_find]
    split
    · rename_i e
      subst e
      exact h.1
    · exact ih (by simp only [ak_okM]; exact h.2)
set_option maxHeartbeats 1000000 in
theorem ak_met {l : Launch} {cl : List vw_C} {lay : List ak_C} {y : MethodName} {ws ws' : List Cond} {rm : Room} {cc : ByteArray} {maxL : Nat} {rty : Option FieldType} {pt : ak_P} {bl : List (Nat × List ak_I)} {cs : Nat → ak_P} {reg : List (Nat × Nat × Nat)}
    (hy : plainName y.cls = true) (hw : ws = Cond.code y cc maxL rty :: ws') (hCL : ak_CL cl ws) (hno : cl[1000]? = none) (hok : ak_okM cc ws y.cls cl maxL rty reg bl = true)
    (hcc : ∀ a n b ci, ak_nth reg a = some (n, b, ci) → ak_CC l cl lay ws y.cls rm (cs a) n b ci)
    (hvc : ak_VC lay cs bl maxL pt) : ak_Ctr l cl lay y ws rm pt := by
  intro D ad tyc sz vs σ Qp hinj hpt
  obtain ⟨hlen, hvc⟩ := hvc vs σ Qp hpt
  refine Met.ofW (cc := cc) (maxL := maxL) (ret := rty) hy hw ?_
  intro p e s m args below meth c s₁ B hml hv
  obtain ⟨rfl, hsz, hP, hK⟩ := hv
  have hx := B.exec
  have hb := B.bytes
  have hr := B.returns
  have hts := atoms_spec (ws := ws) B.pre
  have hown : s.vm.findClass y.cls = some m.cls := findClass_of_methodNamed B.named
  have hlocks := B.notSynchronized
  subst hsz
  have hAd : ∀ k, k < lay.length → ak_A lay ad s.heap.size (ad k) := fun k hk => Or.inl ⟨k, hk, rfl⟩
  have hA : ∀ q, s.heap.size ≤ q → ak_A lay ad s.heap.size q := fun q h => Or.inr h
  have g : ak_G p s m (vs.map (ak_v ad)).toArray c cc ws y.cls D cl lay ad tyc (ak_A lay ad s.heap.size) := ⟨hx, hb, hts, hown, hK, hinj, hAd, hCL⟩
  obtain ⟨AJ, hAJ⟩ : ∃ AJ : ak_KK, AJ = ak_J p l e (headSpec ws rm).room s m (vs.map (ak_v ad)).toArray below meth c 0 0 (MQ below (ak_Q D cl lay ad tyc s.heap.size Qp) (vs.map (ak_v ad)).toArray s 0 0 (ak_A lay ad s.heap.size)) D cl lay ad tyc (ak_A lay ad s.heap.size) s.heap maxL := ⟨_, rfl⟩
  have hri : ∀ pc ls x s', decode cc pc = .ok (.ireturn, 1) → (rty = some .int ∨ (rty = some .boolean ∧ (x = 0 ∨ x = 1))) → Qp (some (.int x)) s' → AJ pc ls [.int x] s' := by
    intro pc ls x s' hd ht hq
    subst hAJ
    intro H locs lsA hP hS hl
    rcases ht with ht | ⟨ht, hx01⟩
    · exact W.zret (ty := .int) hx hb (hr.trans ht) rfl (fun t ht hW => ⟨⟨some (.int x), s', rfl, hq, by rw [ht]; exact hP, hK.moved hW.alike⟩, hS.F ht⟩) hS.2.2 hd
    · exact W.zret (ty := .boolean) hx hb (hr.trans ht) (by rcases hx01 with rfl | rfl <;> rfl) (fun t ht hW => ⟨⟨some (.int x), s', rfl, hq, by rw [ht]; exact hP, hK.moved hW.alike⟩, hS.F ht⟩) hS.2.2 hd
  have hrv : ∀ pc ls s', decode cc pc = .ok (.return_, 1) → rty = none → Qp none s' → AJ pc ls [] s' := by
    intro pc ls s' hd ht hq
    subst hAJ
    intro H locs lsA hP hS hl
    exact W.vret hx hb (hr.trans ht) (fun t ht hW => ⟨⟨none, s', rfl, hq, by rw [ht]; exact hP, hK.moved hW.alike⟩, hS.F ht⟩) hS.2.2 hd
  have hcv : ∀ a n b ci, ak_nth reg a = some (n, b, ci) → ∀ pc ls (vs rest : List Value) s Qp, decode cc pc = .ok (.invokevirtual n, 3) → vs.length = b + 1 → ak_rc lay vs ci → (rest.map fun v => v.category).sum ≤ 8 → cs a vs s Qp → (∀ r s', Qp r s' → AJ (pc + 3) ls (r.toList ++ rest) s') → AJ pc ls (vs.reverse ++ rest) s := by
    intro a n b ci hreg pc ls vs' rest s' Qp' h1 h2 h3 h4 h5 h6
    obtain ⟨yC, wsC, rmC, bytes, mL, ret, hC, hcw⟩ := hcc a n b ci hreg
    rcases hcw with ⟨q, hq, hcw⟩ | ⟨hci, hcw⟩
    · subst hAJ
      exact ak_hcv g hml hA ⟨Nat.zero_le _, Nat.zero_le _⟩ hq hC (hcw s _ hts) pc ls vs' rest s' Qp' h1 h2 h3 h4 h5 h6
    · exfalso
      subst hci
      unfold ak_rc at h3
      split at h3
      · split at h3
        · rename_i d fs hlay
          subst h3
          have hP0 := hP _ _ (ak_W_at0 hlay)
          obtain ⟨r9, h9, _⟩ := hP0
          rw [hno] at h9
          cases h9
        · exact h3
      · exact h3
  have hct : ∀ a n b, ak_nth reg a = some (n, b, 1000) → ∀ pc ls (vs rest : List Value) s Qp, decode cc pc = .ok (.invokestatic n, 3) → vs.length = b → (rest.map fun v => v.category).sum ≤ 8 → cs a vs s Qp → (∀ r s', Qp r s' → AJ (pc + 3) ls (r.toList ++ rest) s') → AJ pc ls (vs.reverse ++ rest) s := by
    intro a n b hreg pc ls vs' rest s' Qp' h1 h2 h4 h5 h6
    obtain ⟨yC, wsC, rmC, bytes, mL, ret, hC, hcw⟩ := hcc a n b 1000 hreg
    rcases hcw with ⟨q, hq, hcw⟩ | ⟨hci, hcw⟩
    · rw [hno] at hq
      cases hq
    · subst hAJ
      exact ak_hct g hml hA ⟨Nat.zero_le _, Nat.zero_le _⟩ hC (hcw s _ hts) pc ls vs' rest s' Qp' h1 h2 h4 h5 h6
  have hblk : ∀ (Kc : ak_KK), (∀ pc ls st s, Kc pc ls st s → AJ pc ls st s) → ∀ (is : List ak_I) (pc : Nat), ak_okB cc ws y.cls cl maxL rty reg pc is = true → ∀ ls st s, ak_ev lay cs Qp Kc AJ is ls st s → AJ pc ls st s := by
    intro Kc hKc is
    induction is with
    | nil => intro pc _ ls st s h; exact h.elim
    | cons x r ih =>
      intro pc hok ls st s h
      simp only [ak_okB, Bool.and_eq_true, decide_eq_true_eq] at hok
      obtain ⟨⟨rfl, h1⟩, h2⟩ := hok
      exact ak_st_sound AJ hAJ g hKc (fun _ _ _ _ h => h) hri hrv hcv hct h1 (fun ls st s h => ih _ h2 ls st s h) h
  have hrun : ∀ n pc ls st s, ak_run lay cs Qp AJ bl n pc ls st s → AJ pc ls st s := by
    intro n
    induction n with
    | zero => intro pc ls st s h; exact h
    | succ n ih => intro pc ls st s h; exact hblk _ ih _ pc (ak_find_ok hok pc) ls st s h
  have h0 := hvc AJ hrun
  rw [lg_entry_eq]
  have hl := lv_entry (vs.map (ak_v ad)) (n := maxL) (by rw [ak_sl_len]; exact hlen)
  subst hAJ
  refine h0 s.heap [] _ hP va_S.rf ⟨hl.1, hl.2.1, fun i v hi => ?_⟩
  have hi := ak_la_mem (ad := ad) vs 0 i (ak_pad_nth _ _ _ hi)
  rw [Nat.zero_add] at hi
  exact hl.2.2 _ hi
end
