/-! constructors, laid by program (wip/whole/gen2.py) -/
abbrev co_U : Type := (Nat → Nat) × (Nat → ClassId)
def z0 : ak_S := (fun _ _ => 0, fun _ _ => 0)
theorem d_K_init_0 : decode prog_4_method_1_code 0 = .ok (.aload_n 0, 1) := by decide +kernel
theorem d_K_init_1 : decode prog_4_method_1_code 1 = .ok (.invokespecial 3, 3) := by decide +kernel
theorem d_K_init_4 : decode prog_4_method_1_code 4 = .ok (.aload_n 0, 1) := by decide +kernel
theorem d_K_init_5 : decode prog_4_method_1_code 5 = .ok (.bipush 16, 2) := by decide +kernel
theorem d_K_init_7 : decode prog_4_method_1_code 7 = .ok (.newarray .int, 2) := by decide +kernel
theorem d_K_init_9 : decode prog_4_method_1_code 9 = .ok (.putfield 9, 3) := by decide +kernel
theorem d_K_init_12 : decode prog_4_method_1_code 12 = .ok (.aload_n 0, 1) := by decide +kernel
theorem d_K_init_13 : decode prog_4_method_1_code 13 = .ok (.bipush 16, 2) := by decide +kernel
theorem d_K_init_15 : decode prog_4_method_1_code 15 = .ok (.newarray .int, 2) := by decide +kernel
theorem d_K_init_17 : decode prog_4_method_1_code 17 = .ok (.putfield 15, 3) := by decide +kernel
theorem d_K_init_20 : decode prog_4_method_1_code 20 = .ok (.aload_n 0, 1) := by decide +kernel
theorem d_K_init_21 : decode prog_4_method_1_code 21 = .ok (.bipush 16, 2) := by decide +kernel
theorem d_K_init_23 : decode prog_4_method_1_code 23 = .ok (.newarray .int, 2) := by decide +kernel
theorem d_K_init_25 : decode prog_4_method_1_code 25 = .ok (.putfield 18, 3) := by decide +kernel
theorem d_K_init_28 : decode prog_4_method_1_code 28 = .ok (.return_, 1) := by decide +kernel
def ws_K_init : List Cond := .code y_K_init prog_4_method_1_code 1 none :: wd_tbl
def rm_K_init : Room := { frames := 1, cells := 3, slots := 48, locals := 12 }
def w0_K (h0 : Nat) : va_W := [(h0, .inr (1, [.int 0, .null, .null, .null]))]
def w1_K (h0 : Nat) (u : co_U) : va_W := [(h0, .inr (1, [.int 0, .ref (u.1 1), .ref (u.1 2), .ref (u.1 3)])), (u.1 1, .inl (u.2 1, 16, .inl (fun _ => 0))), (u.1 2, .inl (u.2 2, 16, .inl (fun _ => 0))), (u.1 3, .inl (u.2 3, 16, .inl (fun _ => 0)))]
def ty_K (u : co_U) : List (ClassId × FieldType) := [(u.2 1, .int), (u.2 2, .int), (u.2 3, .int)]
def pc_K (D : va_G) (h0 sz : Nat) : State → Prop := fun U => U.heap.size = sz ∧ va_P D cl_all (w0_K h0) U.heap ∧ va_K D cl_all [] U ∧ va_D (fun _ => True) (w0_K h0)
def pq_K (D : va_G) (h0 sz : Nat) (u : co_U) : State → Prop := fun U => va_P D cl_all (w1_K h0 u) U.heap ∧ va_K D cl_all (ty_K u) U ∧ va_D (va_A (w0_K h0) sz) (w1_K h0 u)
set_option maxHeartbeats 4000000 in
set_option maxRecDepth 100000 in
theorem c_K_init (l : Launch) (D : va_G) (h0 sz : Nat) : Met l y_K_init ws_K_init rm_K_init (va_Pc [.ref h0] (pc_K D h0 sz)) (va_Qv (fun _ : co_U => True) (pq_K D h0 sz) (va_A (w0_K h0) sz)) 3 48 (va_A (w0_K h0) sz) := by
  refine Met.ofW (cc := prog_4_method_1_code) (maxL := 1) (ret := none) (by decide) rfl ?_
  intro p e s m args below meth c s₁ B hml hv
  obtain ⟨rfl, hsz, hP, hK, hD0⟩ := hv
  have hx := B.exec
  have hb := B.bytes
  have hr := B.returns
  have hts := atoms_spec (ws := ws_K_init) B.pre
  have hown : s.vm.findClass "LogicalPairs$Kinds" = some m.cls := findClass_of_methodNamed B.named
  have hlocks := B.notSynchronized
  have hin : meth.name = "<init>" := (name_of_methodNamed B.named B.method).1
  subst hsz
  have hD := hD0.self (sz := s.heap.size)
  generalize hAe : va_A (w0_K h0) s.heap.size = A at hD ⊢
  have hA : ∀ q : Nat, s.heap.size ≤ q → A q := fun q h => by rw [← hAe]; exact Or.inr h
  have hS : va_S A s.heap s.heap [] := va_S.rf
  have hl := lv_entry ([.ref h0]) (n := 1) (Nat.le_of_ble_eq_true rfl)
  rw [lg_entry_eq]
  generalize (lg_sl ([.ref h0]) ++ List.replicate (1 - (lg_sl ([.ref h0])).length) Slot.unset).toArray = ls at hl ⊢
  have hl : lv_has ls 1 [(0, .ref h0)] := hl
  refine lv_aload_n hx hb d_K_init_0 rfl (lv_at hl 0 rfl) ?_
  refine W.objInit hx hb hown (hts _ (List.mem_cons_of_mem _ (ak_mem (k := 38) (by decide +kernel : ak_nth wd_tbl 38 = some (.methodLink "LogicalPairs$Kinds" 3 objectInit))))) (hts _ (List.mem_cons_of_mem _ (ak_mem (k := 32) (by decide +kernel : ak_nth wd_tbl 32 = some (.instanceMethod objectInit))))) (hts _ (List.mem_cons_of_mem _ (ak_mem (k := 33) (by decide +kernel : ak_nth wd_tbl 33 = some (.code objectInit object_method_1_code 1 none))))) rfl (by rw [hml]; exact hl.1) rfl d_K_init_1 (Nat.le_of_ble_eq_true rfl) (Nat.le_of_ble_eq_true rfl) ?_
  refine W.eq (g2 := F0 m 4 ls []) rfl ?_
  unfold pq_K
  rw [hAe]
  have hP : va_P D cl_all [(h0, .inr (1, [.int 0, .null, .null, .null]))] s.heap := hP
  have hD : va_D A [(h0, .inr (1, [.int 0, .null, .null, .null]))] := hD
  refine lv_aload_n hx hb d_K_init_4 rfl (lv_at hl 0 rfl) ?_
  refine lv_bipush (v := 16) hx hb d_K_init_5 (by decide) ?_
  refine va_newa (atype := .int) (ty := .int) (N' := 16) (a0 := (16, .inl (fun _ => 0))) hx hb (hts _ (List.mem_cons_of_mem _ (ak_mem (k := 57) (by decide +kernel : ak_nth wd_tbl 57 = some (.arrayClass .int))))) rfl hK hP hD hS hA (fun _ => rfl) (by decide) (by decide) (by decide) (Nat.le_of_ble_eq_true rfl) (Nat.le_of_ble_eq_true rfl) d_K_init_7 (fun q1 c1 H hK hP hD hS => ?_)
  have hP : va_P D cl_all [(h0, .inr (1, [.int 0, .null, .null, .null])), (q1, .inl (c1, 16, .inl (fun _ => 0)))] H := hP
  have hD : va_D A [(h0, .inr (1, [.int 0, .null, .null, .null])), (q1, .inl (c1, 16, .inl (fun _ => 0)))] := hD
  have hK : va_K D cl_all [(c1, .int)] s := hK
  refine W.widen (k := 1) (n := 16) (Nat.le_of_ble_eq_true rfl) (Nat.le_of_ble_eq_true rfl) ?_
  refine va_putF (D := D) (ci := 1) (v := .ref q1) (ty := .array .int) (C := "LogicalPairs$Kinds") (T := F_K) (N := 4) hx hb hts (fun w h => List.mem_cons_of_mem _ (in_K w h)) t_K tk_K nm_K hown hK hP hD hS 0 rfl rfl 1 (by decide) (hts _ (List.mem_cons_of_mem _ (ak_mem (k := 41) (by decide +kernel : ak_nth wd_tbl 41 = some (.fieldLink "LogicalPairs$Kinds" 9 "LogicalPairs$Kinds" "above" "[I"))))) (fun _ h9 => h9) rfl hin rfl (by decide +kernel) rfl rfl (Nat.le_of_ble_eq_true rfl) d_K_init_9 (fun H locs hP hD hS => ?_)
  have hP : va_P D cl_all [(h0, .inr (1, [.int 0, .ref q1, .null, .null])), (q1, .inl (c1, 16, .inl (fun _ => 0)))] H := hP
  have hD : va_D A [(h0, .inr (1, [.int 0, .ref q1, .null, .null])), (q1, .inl (c1, 16, .inl (fun _ => 0)))] := hD
  refine lv_aload_n hx hb d_K_init_12 rfl (lv_at hl 0 rfl) ?_
  refine lv_bipush (v := 16) hx hb d_K_init_13 (by decide) ?_
  refine va_newa (atype := .int) (ty := .int) (N' := 16) (a0 := (16, .inl (fun _ => 0))) hx hb (hts _ (List.mem_cons_of_mem _ (ak_mem (k := 57) (by decide +kernel : ak_nth wd_tbl 57 = some (.arrayClass .int))))) rfl hK hP hD hS hA (fun _ => rfl) (by decide) (by decide) (by decide) (Nat.le_of_ble_eq_true rfl) (Nat.le_of_ble_eq_true rfl) d_K_init_15 (fun q2 c2 H hK hP hD hS => ?_)
  have hP : va_P D cl_all [(h0, .inr (1, [.int 0, .ref q1, .null, .null])), (q1, .inl (c1, 16, .inl (fun _ => 0))), (q2, .inl (c2, 16, .inl (fun _ => 0)))] H := hP
  have hD : va_D A [(h0, .inr (1, [.int 0, .ref q1, .null, .null])), (q1, .inl (c1, 16, .inl (fun _ => 0))), (q2, .inl (c2, 16, .inl (fun _ => 0)))] := hD
  have hK : va_K D cl_all [(c1, .int), (c2, .int)] s := hK
  refine W.widen (k := 2) (n := 32) (Nat.le_of_ble_eq_true rfl) (Nat.le_of_ble_eq_true rfl) ?_
  refine va_putF (D := D) (ci := 1) (v := .ref q2) (ty := .array .int) (C := "LogicalPairs$Kinds") (T := F_K) (N := 4) hx hb hts (fun w h => List.mem_cons_of_mem _ (in_K w h)) t_K tk_K nm_K hown hK hP hD hS 0 rfl rfl 2 (by decide) (hts _ (List.mem_cons_of_mem _ (ak_mem (k := 43) (by decide +kernel : ak_nth wd_tbl 43 = some (.fieldLink "LogicalPairs$Kinds" 15 "LogicalPairs$Kinds" "logicalParent" "[I"))))) (fun _ h9 => h9) rfl hin rfl (by decide +kernel) rfl rfl (Nat.le_of_ble_eq_true rfl) d_K_init_17 (fun H locs hP hD hS => ?_)
  have hP : va_P D cl_all [(h0, .inr (1, [.int 0, .ref q1, .ref q2, .null])), (q1, .inl (c1, 16, .inl (fun _ => 0))), (q2, .inl (c2, 16, .inl (fun _ => 0)))] H := hP
  have hD : va_D A [(h0, .inr (1, [.int 0, .ref q1, .ref q2, .null])), (q1, .inl (c1, 16, .inl (fun _ => 0))), (q2, .inl (c2, 16, .inl (fun _ => 0)))] := hD
  refine lv_aload_n hx hb d_K_init_20 rfl (lv_at hl 0 rfl) ?_
  refine lv_bipush (v := 16) hx hb d_K_init_21 (by decide) ?_
  refine va_newa (atype := .int) (ty := .int) (N' := 16) (a0 := (16, .inl (fun _ => 0))) hx hb (hts _ (List.mem_cons_of_mem _ (ak_mem (k := 57) (by decide +kernel : ak_nth wd_tbl 57 = some (.arrayClass .int))))) rfl hK hP hD hS hA (fun _ => rfl) (by decide) (by decide) (by decide) (Nat.le_of_ble_eq_true rfl) (Nat.le_of_ble_eq_true rfl) d_K_init_23 (fun q3 c3 H hK hP hD hS => ?_)
  have hP : va_P D cl_all [(h0, .inr (1, [.int 0, .ref q1, .ref q2, .null])), (q1, .inl (c1, 16, .inl (fun _ => 0))), (q2, .inl (c2, 16, .inl (fun _ => 0))), (q3, .inl (c3, 16, .inl (fun _ => 0)))] H := hP
  have hD : va_D A [(h0, .inr (1, [.int 0, .ref q1, .ref q2, .null])), (q1, .inl (c1, 16, .inl (fun _ => 0))), (q2, .inl (c2, 16, .inl (fun _ => 0))), (q3, .inl (c3, 16, .inl (fun _ => 0)))] := hD
  have hK : va_K D cl_all [(c1, .int), (c2, .int), (c3, .int)] s := hK
  refine W.widen (k := 3) (n := 48) (Nat.le_of_ble_eq_true rfl) (Nat.le_of_ble_eq_true rfl) ?_
  refine va_putF (D := D) (ci := 1) (v := .ref q3) (ty := .array .int) (C := "LogicalPairs$Kinds") (T := F_K) (N := 4) hx hb hts (fun w h => List.mem_cons_of_mem _ (in_K w h)) t_K tk_K nm_K hown hK hP hD hS 0 rfl rfl 3 (by decide) (hts _ (List.mem_cons_of_mem _ (ak_mem (k := 45) (by decide +kernel : ak_nth wd_tbl 45 = some (.fieldLink "LogicalPairs$Kinds" 18 "LogicalPairs$Kinds" "rule" "[I"))))) (fun _ h9 => h9) rfl hin rfl (by decide +kernel) rfl rfl (Nat.le_of_ble_eq_true rfl) d_K_init_25 (fun H locs hP hD hS => ?_)
  have hP : va_P D cl_all [(h0, .inr (1, [.int 0, .ref q1, .ref q2, .ref q3])), (q1, .inl (c1, 16, .inl (fun _ => 0))), (q2, .inl (c2, 16, .inl (fun _ => 0))), (q3, .inl (c3, 16, .inl (fun _ => 0)))] H := hP
  have hD : va_D A [(h0, .inr (1, [.int 0, .ref q1, .ref q2, .ref q3])), (q1, .inl (c1, 16, .inl (fun _ => 0))), (q2, .inl (c2, 16, .inl (fun _ => 0))), (q3, .inl (c3, 16, .inl (fun _ => 0)))] := hD
  exact W.vret hx hb hr (fun t ht hW => ⟨⟨(fun k => match k with | 1 => q1 | 2 => q2 | _ => q3, fun k => match k with | 1 => c1 | 2 => c2 | _ => c3), rfl, trivial, by rw [ht]; exact hP, va_K.moved hW.alike hK, hD⟩, hS.F ht⟩) hS.2.2 d_K_init_28
theorem d_X_init_0 : decode prog_3_method_1_code 0 = .ok (.aload_n 0, 1) := by decide +kernel
theorem d_X_init_1 : decode prog_3_method_1_code 1 = .ok (.invokespecial 3, 3) := by decide +kernel
theorem d_X_init_4 : decode prog_3_method_1_code 4 = .ok (.aload_n 0, 1) := by decide +kernel
theorem d_X_init_5 : decode prog_3_method_1_code 5 = .ok (.bipush 11, 2) := by decide +kernel
theorem d_X_init_7 : decode prog_3_method_1_code 7 = .ok (.newarray .int, 2) := by decide +kernel
theorem d_X_init_9 : decode prog_3_method_1_code 9 = .ok (.putfield 9, 3) := by decide +kernel
theorem d_X_init_12 : decode prog_3_method_1_code 12 = .ok (.aload_n 0, 1) := by decide +kernel
theorem d_X_init_13 : decode prog_3_method_1_code 13 = .ok (.bipush 11, 2) := by decide +kernel
theorem d_X_init_15 : decode prog_3_method_1_code 15 = .ok (.newarray .boolean, 2) := by decide +kernel
theorem d_X_init_17 : decode prog_3_method_1_code 17 = .ok (.putfield 15, 3) := by decide +kernel
theorem d_X_init_20 : decode prog_3_method_1_code 20 = .ok (.return_, 1) := by decide +kernel
def ws_X_init : List Cond := .code y_X_init prog_3_method_1_code 1 none :: wd_tbl
def rm_X_init : Room := { frames := 1, cells := 2, slots := 22, locals := 12 }
def w0_X (h0 : Nat) : va_W := [(h0, .inr (3, [.int 0, .null, .null]))]
def w1_X (h0 : Nat) (u : co_U) : va_W := [(h0, .inr (3, [.int 0, .ref (u.1 1), .ref (u.1 2)])), (u.1 1, .inl (u.2 1, 11, .inl (fun _ => 0))), (u.1 2, .inl (u.2 2, 11, .inl (fun _ => 0)))]
def ty_X (u : co_U) : List (ClassId × FieldType) := [(u.2 1, .int), (u.2 2, .boolean)]
def pc_X (D : va_G) (h0 sz : Nat) : State → Prop := fun U => U.heap.size = sz ∧ va_P D cl_all (w0_X h0) U.heap ∧ va_K D cl_all [] U ∧ va_D (fun _ => True) (w0_X h0)
def pq_X (D : va_G) (h0 sz : Nat) (u : co_U) : State → Prop := fun U => va_P D cl_all (w1_X h0 u) U.heap ∧ va_K D cl_all (ty_X u) U ∧ va_D (va_A (w0_X h0) sz) (w1_X h0 u)
set_option maxHeartbeats 4000000 in
set_option maxRecDepth 100000 in
theorem c_X_init (l : Launch) (D : va_G) (h0 sz : Nat) : Met l y_X_init ws_X_init rm_X_init (va_Pc [.ref h0] (pc_X D h0 sz)) (va_Qv (fun _ : co_U => True) (pq_X D h0 sz) (va_A (w0_X h0) sz)) 2 22 (va_A (w0_X h0) sz) := by
  refine Met.ofW (cc := prog_3_method_1_code) (maxL := 1) (ret := none) (by decide) rfl ?_
  intro p e s m args below meth c s₁ B hml hv
  obtain ⟨rfl, hsz, hP, hK, hD0⟩ := hv
  have hx := B.exec
  have hb := B.bytes
  have hr := B.returns
  have hts := atoms_spec (ws := ws_X_init) B.pre
  have hown : s.vm.findClass "LogicalPairs$Indexes" = some m.cls := findClass_of_methodNamed B.named
  have hlocks := B.notSynchronized
  have hin : meth.name = "<init>" := (name_of_methodNamed B.named B.method).1
  subst hsz
  have hD := hD0.self (sz := s.heap.size)
  generalize hAe : va_A (w0_X h0) s.heap.size = A at hD ⊢
  have hA : ∀ q : Nat, s.heap.size ≤ q → A q := fun q h => by rw [← hAe]; exact Or.inr h
  have hS : va_S A s.heap s.heap [] := va_S.rf
  have hl := lv_entry ([.ref h0]) (n := 1) (Nat.le_of_ble_eq_true rfl)
  rw [lg_entry_eq]
  generalize (lg_sl ([.ref h0]) ++ List.replicate (1 - (lg_sl ([.ref h0])).length) Slot.unset).toArray = ls at hl ⊢
  have hl : lv_has ls 1 [(0, .ref h0)] := hl
  refine lv_aload_n hx hb d_X_init_0 rfl (lv_at hl 0 rfl) ?_
  refine W.objInit hx hb hown (hts _ (List.mem_cons_of_mem _ (ak_mem (k := 106) (by decide +kernel : ak_nth wd_tbl 106 = some (.methodLink "LogicalPairs$Indexes" 3 objectInit))))) (hts _ (List.mem_cons_of_mem _ (ak_mem (k := 32) (by decide +kernel : ak_nth wd_tbl 32 = some (.instanceMethod objectInit))))) (hts _ (List.mem_cons_of_mem _ (ak_mem (k := 33) (by decide +kernel : ak_nth wd_tbl 33 = some (.code objectInit object_method_1_code 1 none))))) rfl (by rw [hml]; exact hl.1) rfl d_X_init_1 (Nat.le_of_ble_eq_true rfl) (Nat.le_of_ble_eq_true rfl) ?_
  refine W.eq (g2 := F0 m 4 ls []) rfl ?_
  unfold pq_X
  rw [hAe]
  have hP : va_P D cl_all [(h0, .inr (3, [.int 0, .null, .null]))] s.heap := hP
  have hD : va_D A [(h0, .inr (3, [.int 0, .null, .null]))] := hD
  refine lv_aload_n hx hb d_X_init_4 rfl (lv_at hl 0 rfl) ?_
  refine lv_bipush (v := 11) hx hb d_X_init_5 (by decide) ?_
  refine va_newa (atype := .int) (ty := .int) (N' := 11) (a0 := (11, .inl (fun _ => 0))) hx hb (hts _ (List.mem_cons_of_mem _ (ak_mem (k := 57) (by decide +kernel : ak_nth wd_tbl 57 = some (.arrayClass .int))))) rfl hK hP hD hS hA (fun _ => rfl) (by decide) (by decide) (by decide) (Nat.le_of_ble_eq_true rfl) (Nat.le_of_ble_eq_true rfl) d_X_init_7 (fun q1 c1 H hK hP hD hS => ?_)
  have hP : va_P D cl_all [(h0, .inr (3, [.int 0, .null, .null])), (q1, .inl (c1, 11, .inl (fun _ => 0)))] H := hP
  have hD : va_D A [(h0, .inr (3, [.int 0, .null, .null])), (q1, .inl (c1, 11, .inl (fun _ => 0)))] := hD
  have hK : va_K D cl_all [(c1, .int)] s := hK
  refine W.widen (k := 1) (n := 11) (Nat.le_of_ble_eq_true rfl) (Nat.le_of_ble_eq_true rfl) ?_
  refine va_putF (D := D) (ci := 3) (v := .ref q1) (ty := .array .int) (C := "LogicalPairs$Indexes") (T := F_X) (N := 3) hx hb hts (fun w h => List.mem_cons_of_mem _ (in_X w h)) t_X tk_X nm_X hown hK hP hD hS 0 rfl rfl 1 (by decide) (hts _ (List.mem_cons_of_mem _ (ak_mem (k := 109) (by decide +kernel : ak_nth wd_tbl 109 = some (.fieldLink "LogicalPairs$Indexes" 9 "LogicalPairs$Indexes" "kindOf" "[I"))))) (fun _ h9 => h9) rfl hin rfl (by decide +kernel) rfl rfl (Nat.le_of_ble_eq_true rfl) d_X_init_9 (fun H locs hP hD hS => ?_)
  have hP : va_P D cl_all [(h0, .inr (3, [.int 0, .ref q1, .null])), (q1, .inl (c1, 11, .inl (fun _ => 0)))] H := hP
  have hD : va_D A [(h0, .inr (3, [.int 0, .ref q1, .null])), (q1, .inl (c1, 11, .inl (fun _ => 0)))] := hD
  refine lv_aload_n hx hb d_X_init_12 rfl (lv_at hl 0 rfl) ?_
  refine lv_bipush (v := 11) hx hb d_X_init_13 (by decide) ?_
  refine va_newa (atype := .boolean) (ty := .boolean) (N' := 11) (a0 := (11, .inl (fun _ => 0))) hx hb (hts _ (List.mem_cons_of_mem _ (ak_mem (k := 120) (by decide +kernel : ak_nth wd_tbl 120 = some (.arrayClass .boolean))))) rfl hK hP hD hS hA (fun _ => rfl) (by decide) (by decide) (by decide) (Nat.le_of_ble_eq_true rfl) (Nat.le_of_ble_eq_true rfl) d_X_init_15 (fun q2 c2 H hK hP hD hS => ?_)
  have hP : va_P D cl_all [(h0, .inr (3, [.int 0, .ref q1, .null])), (q1, .inl (c1, 11, .inl (fun _ => 0))), (q2, .inl (c2, 11, .inl (fun _ => 0)))] H := hP
  have hD : va_D A [(h0, .inr (3, [.int 0, .ref q1, .null])), (q1, .inl (c1, 11, .inl (fun _ => 0))), (q2, .inl (c2, 11, .inl (fun _ => 0)))] := hD
  have hK : va_K D cl_all [(c1, .int), (c2, .boolean)] s := hK
  refine W.widen (k := 2) (n := 22) (Nat.le_of_ble_eq_true rfl) (Nat.le_of_ble_eq_true rfl) ?_
  refine va_putF (D := D) (ci := 3) (v := .ref q2) (ty := .array .boolean) (C := "LogicalPairs$Indexes") (T := F_X) (N := 3) hx hb hts (fun w h => List.mem_cons_of_mem _ (in_X w h)) t_X tk_X nm_X hown hK hP hD hS 0 rfl rfl 2 (by decide) (hts _ (List.mem_cons_of_mem _ (ak_mem (k := 111) (by decide +kernel : ak_nth wd_tbl 111 = some (.fieldLink "LogicalPairs$Indexes" 15 "LogicalPairs$Indexes" "sparse" "[Z"))))) (fun _ h9 => h9) rfl hin rfl (by decide +kernel) rfl rfl (Nat.le_of_ble_eq_true rfl) d_X_init_17 (fun H locs hP hD hS => ?_)
  have hP : va_P D cl_all [(h0, .inr (3, [.int 0, .ref q1, .ref q2])), (q1, .inl (c1, 11, .inl (fun _ => 0))), (q2, .inl (c2, 11, .inl (fun _ => 0)))] H := hP
  have hD : va_D A [(h0, .inr (3, [.int 0, .ref q1, .ref q2])), (q1, .inl (c1, 11, .inl (fun _ => 0))), (q2, .inl (c2, 11, .inl (fun _ => 0)))] := hD
  exact W.vret hx hb hr (fun t ht hW => ⟨⟨(fun k => match k with | 1 => q1 | _ => q2, fun k => match k with | 1 => c1 | _ => c2), rfl, trivial, by rw [ht]; exact hP, va_K.moved hW.alike hK, hD⟩, hS.F ht⟩) hS.2.2 d_X_init_20
theorem d_D_init_0 : decode prog_2_method_1_code 0 = .ok (.aload_n 0, 1) := by decide +kernel
theorem d_D_init_1 : decode prog_2_method_1_code 1 = .ok (.invokespecial 3, 3) := by decide +kernel
theorem d_D_init_4 : decode prog_2_method_1_code 4 = .ok (.aload_n 0, 1) := by decide +kernel
theorem d_D_init_5 : decode prog_2_method_1_code 5 = .ok (.sipush 251, 3) := by decide +kernel
theorem d_D_init_8 : decode prog_2_method_1_code 8 = .ok (.newarray .boolean, 2) := by decide +kernel
theorem d_D_init_10 : decode prog_2_method_1_code 10 = .ok (.putfield 9, 3) := by decide +kernel
theorem d_D_init_13 : decode prog_2_method_1_code 13 = .ok (.aload_n 0, 1) := by decide +kernel
theorem d_D_init_14 : decode prog_2_method_1_code 14 = .ok (.sipush 250, 3) := by decide +kernel
theorem d_D_init_17 : decode prog_2_method_1_code 17 = .ok (.newarray .int, 2) := by decide +kernel
theorem d_D_init_19 : decode prog_2_method_1_code 19 = .ok (.putfield 15, 3) := by decide +kernel
theorem d_D_init_22 : decode prog_2_method_1_code 22 = .ok (.aload_n 0, 1) := by decide +kernel
theorem d_D_init_23 : decode prog_2_method_1_code 23 = .ok (.aload_n 1, 1) := by decide +kernel
theorem d_D_init_24 : decode prog_2_method_1_code 24 = .ok (.putfield 19, 3) := by decide +kernel
theorem d_D_init_27 : decode prog_2_method_1_code 27 = .ok (.aload_n 0, 1) := by decide +kernel
theorem d_D_init_28 : decode prog_2_method_1_code 28 = .ok (.aload_n 2, 1) := by decide +kernel
theorem d_D_init_29 : decode prog_2_method_1_code 29 = .ok (.putfield 23, 3) := by decide +kernel
theorem d_D_init_32 : decode prog_2_method_1_code 32 = .ok (.return_, 1) := by decide +kernel
def ws_D_init : List Cond := .code y_D_init prog_2_method_1_code 3 none :: wd_tbl
def rm_D_init : Room := { frames := 1, cells := 2, slots := 501, locals := 12 }
def w0_D (h0 : Nat) : va_W := [(h0, .inr (4, [.null, .null, .null, .null, .int 0]))]
def w1_D (h0 hk hs : Nat) (u : co_U) : va_W := [(h0, .inr (4, [.ref hk, .ref hs, .ref (u.1 1), .ref (u.1 2), .int 0])), (u.1 1, .inl (u.2 1, 251, .inl (fun _ => 0))), (u.1 2, .inl (u.2 2, 250, .inl (fun _ => 0)))]
def ty_D (u : co_U) : List (ClassId × FieldType) := [(u.2 1, .boolean), (u.2 2, .int)]
def pc_D (D : va_G) (h0 sz : Nat) : State → Prop := fun U => U.heap.size = sz ∧ va_P D cl_all (w0_D h0) U.heap ∧ va_K D cl_all [] U ∧ va_D (fun _ => True) (w0_D h0)
def pq_D (D : va_G) (h0 hk hs sz : Nat) (u : co_U) : State → Prop := fun U => va_P D cl_all (w1_D h0 hk hs u) U.heap ∧ va_K D cl_all (ty_D u) U ∧ va_D (va_A (w0_D h0) sz) (w1_D h0 hk hs u)
set_option maxHeartbeats 4000000 in
set_option maxRecDepth 100000 in
theorem c_D_init (l : Launch) (D : va_G) (h0 hk hs sz : Nat) : Met l y_D_init ws_D_init rm_D_init (va_Pc [.ref h0, .ref hk, .ref hs] (pc_D D h0 sz)) (va_Qv (fun _ : co_U => True) (pq_D D h0 hk hs sz) (va_A (w0_D h0) sz)) 2 501 (va_A (w0_D h0) sz) := by
  refine Met.ofW (cc := prog_2_method_1_code) (maxL := 3) (ret := none) (by decide) rfl ?_
  intro p e s m args below meth c s₁ B hml hv
  obtain ⟨rfl, hsz, hP, hK, hD0⟩ := hv
  have hx := B.exec
  have hb := B.bytes
  have hr := B.returns
  have hts := atoms_spec (ws := ws_D_init) B.pre
  have hown : s.vm.findClass "LogicalPairs$Deletion" = some m.cls := findClass_of_methodNamed B.named
  have hlocks := B.notSynchronized
  have hin : meth.name = "<init>" := (name_of_methodNamed B.named B.method).1
  subst hsz
  have hD := hD0.self (sz := s.heap.size)
  generalize hAe : va_A (w0_D h0) s.heap.size = A at hD ⊢
  have hA : ∀ q : Nat, s.heap.size ≤ q → A q := fun q h => by rw [← hAe]; exact Or.inr h
  have hS : va_S A s.heap s.heap [] := va_S.rf
  have hl := lv_entry ([.ref h0, .ref hk, .ref hs]) (n := 3) (Nat.le_of_ble_eq_true rfl)
  rw [lg_entry_eq]
  generalize (lg_sl ([.ref h0, .ref hk, .ref hs]) ++ List.replicate (3 - (lg_sl ([.ref h0, .ref hk, .ref hs])).length) Slot.unset).toArray = ls at hl ⊢
  have hl : lv_has ls 3 [(0, .ref h0), (1, .ref hk), (2, .ref hs)] := hl
  refine lv_aload_n hx hb d_D_init_0 rfl (lv_at hl 0 rfl) ?_
  refine W.objInit hx hb hown (hts _ (List.mem_cons_of_mem _ (ak_mem (k := 126) (by decide +kernel : ak_nth wd_tbl 126 = some (.methodLink "LogicalPairs$Deletion" 3 objectInit))))) (hts _ (List.mem_cons_of_mem _ (ak_mem (k := 32) (by decide +kernel : ak_nth wd_tbl 32 = some (.instanceMethod objectInit))))) (hts _ (List.mem_cons_of_mem _ (ak_mem (k := 33) (by decide +kernel : ak_nth wd_tbl 33 = some (.code objectInit object_method_1_code 1 none))))) rfl (by rw [hml]; exact hl.1) rfl d_D_init_1 (Nat.le_of_ble_eq_true rfl) (Nat.le_of_ble_eq_true rfl) ?_
  refine W.eq (g2 := F0 m 4 ls []) rfl ?_
  unfold pq_D
  rw [hAe]
  have hP : va_P D cl_all [(h0, .inr (4, [.null, .null, .null, .null, .int 0]))] s.heap := hP
  have hD : va_D A [(h0, .inr (4, [.null, .null, .null, .null, .int 0]))] := hD
  refine lv_aload_n hx hb d_D_init_4 rfl (lv_at hl 0 rfl) ?_
  refine lv_sipush (v := 251) hx hb d_D_init_5 (by decide) ?_
  refine va_newa (atype := .boolean) (ty := .boolean) (N' := 251) (a0 := (251, .inl (fun _ => 0))) hx hb (hts _ (List.mem_cons_of_mem _ (ak_mem (k := 120) (by decide +kernel : ak_nth wd_tbl 120 = some (.arrayClass .boolean))))) rfl hK hP hD hS hA (fun _ => rfl) (by decide) (by decide) (by decide) (Nat.le_of_ble_eq_true rfl) (Nat.le_of_ble_eq_true rfl) d_D_init_8 (fun q1 c1 H hK hP hD hS => ?_)
  have hP : va_P D cl_all [(h0, .inr (4, [.null, .null, .null, .null, .int 0])), (q1, .inl (c1, 251, .inl (fun _ => 0)))] H := hP
  have hD : va_D A [(h0, .inr (4, [.null, .null, .null, .null, .int 0])), (q1, .inl (c1, 251, .inl (fun _ => 0)))] := hD
  have hK : va_K D cl_all [(c1, .boolean)] s := hK
  refine W.widen (k := 1) (n := 251) (Nat.le_of_ble_eq_true rfl) (Nat.le_of_ble_eq_true rfl) ?_
  refine va_putF (D := D) (ci := 4) (v := .ref q1) (ty := .array .boolean) (C := "LogicalPairs$Deletion") (T := F_D) (N := 5) hx hb hts (fun w h => List.mem_cons_of_mem _ (in_D w h)) t_D tk_D nm_D hown hK hP hD hS 0 rfl rfl 2 (by decide) (hts _ (List.mem_cons_of_mem _ (ak_mem (k := 129) (by decide +kernel : ak_nth wd_tbl 129 = some (.fieldLink "LogicalPairs$Deletion" 9 "LogicalPairs$Deletion" "goes" "[Z"))))) (fun _ h9 => h9) rfl hin rfl (by decide +kernel) rfl rfl (Nat.le_of_ble_eq_true rfl) d_D_init_10 (fun H locs hP hD hS => ?_)
  have hP : va_P D cl_all [(h0, .inr (4, [.null, .null, .ref q1, .null, .int 0])), (q1, .inl (c1, 251, .inl (fun _ => 0)))] H := hP
  have hD : va_D A [(h0, .inr (4, [.null, .null, .ref q1, .null, .int 0])), (q1, .inl (c1, 251, .inl (fun _ => 0)))] := hD
  refine lv_aload_n hx hb d_D_init_13 rfl (lv_at hl 0 rfl) ?_
  refine lv_sipush (v := 250) hx hb d_D_init_14 (by decide) ?_
  refine va_newa (atype := .int) (ty := .int) (N' := 250) (a0 := (250, .inl (fun _ => 0))) hx hb (hts _ (List.mem_cons_of_mem _ (ak_mem (k := 57) (by decide +kernel : ak_nth wd_tbl 57 = some (.arrayClass .int))))) rfl hK hP hD hS hA (fun _ => rfl) (by decide) (by decide) (by decide) (Nat.le_of_ble_eq_true rfl) (Nat.le_of_ble_eq_true rfl) d_D_init_17 (fun q2 c2 H hK hP hD hS => ?_)
  have hP : va_P D cl_all [(h0, .inr (4, [.null, .null, .ref q1, .null, .int 0])), (q1, .inl (c1, 251, .inl (fun _ => 0))), (q2, .inl (c2, 250, .inl (fun _ => 0)))] H := hP
  have hD : va_D A [(h0, .inr (4, [.null, .null, .ref q1, .null, .int 0])), (q1, .inl (c1, 251, .inl (fun _ => 0))), (q2, .inl (c2, 250, .inl (fun _ => 0)))] := hD
  have hK : va_K D cl_all [(c1, .boolean), (c2, .int)] s := hK
  refine W.widen (k := 2) (n := 501) (Nat.le_of_ble_eq_true rfl) (Nat.le_of_ble_eq_true rfl) ?_
  refine va_putF (D := D) (ci := 4) (v := .ref q2) (ty := .array .int) (C := "LogicalPairs$Deletion") (T := F_D) (N := 5) hx hb hts (fun w h => List.mem_cons_of_mem _ (in_D w h)) t_D tk_D nm_D hown hK hP hD hS 0 rfl rfl 3 (by decide) (hts _ (List.mem_cons_of_mem _ (ak_mem (k := 130) (by decide +kernel : ak_nth wd_tbl 130 = some (.fieldLink "LogicalPairs$Deletion" 15 "LogicalPairs$Deletion" "going" "[I"))))) (fun _ h9 => h9) rfl hin rfl (by decide +kernel) rfl rfl (Nat.le_of_ble_eq_true rfl) d_D_init_19 (fun H locs hP hD hS => ?_)
  have hP : va_P D cl_all [(h0, .inr (4, [.null, .null, .ref q1, .ref q2, .int 0])), (q1, .inl (c1, 251, .inl (fun _ => 0))), (q2, .inl (c2, 250, .inl (fun _ => 0)))] H := hP
  have hD : va_D A [(h0, .inr (4, [.null, .null, .ref q1, .ref q2, .int 0])), (q1, .inl (c1, 251, .inl (fun _ => 0))), (q2, .inl (c2, 250, .inl (fun _ => 0)))] := hD
  refine lv_aload_n hx hb d_D_init_22 rfl (lv_at hl 0 rfl) ?_
  refine lv_aload_n hx hb d_D_init_23 rfl (lv_at hl 1 rfl) ?_
  refine va_putF (D := D) (ci := 4) (v := .ref hk) (ty := .object "LogicalPairs$Kinds") (C := "LogicalPairs$Deletion") (T := F_D) (N := 5) hx hb hts (fun w h => List.mem_cons_of_mem _ (in_D w h)) t_D tk_D nm_D hown hK hP hD hS 0 rfl rfl 0 (by decide) (hts _ (List.mem_cons_of_mem _ (ak_mem (k := 127) (by decide +kernel : ak_nth wd_tbl 127 = some (.fieldLink "LogicalPairs$Deletion" 19 "LogicalPairs$Deletion" "kinds" "LLogicalPairs$Kinds;"))))) (fun _ h9 => h9) rfl hin rfl (by decide +kernel) rfl rfl (Nat.le_of_ble_eq_true rfl) d_D_init_24 (fun H locs hP hD hS => ?_)
  have hP : va_P D cl_all [(h0, .inr (4, [.ref hk, .null, .ref q1, .ref q2, .int 0])), (q1, .inl (c1, 251, .inl (fun _ => 0))), (q2, .inl (c2, 250, .inl (fun _ => 0)))] H := hP
  have hD : va_D A [(h0, .inr (4, [.ref hk, .null, .ref q1, .ref q2, .int 0])), (q1, .inl (c1, 251, .inl (fun _ => 0))), (q2, .inl (c2, 250, .inl (fun _ => 0)))] := hD
  refine lv_aload_n hx hb d_D_init_27 rfl (lv_at hl 0 rfl) ?_
  refine lv_aload_n hx hb d_D_init_28 rfl (lv_at hl 2 rfl) ?_
  refine va_putF (D := D) (ci := 4) (v := .ref hs) (ty := .object "LogicalPairs$Segments") (C := "LogicalPairs$Deletion") (T := F_D) (N := 5) hx hb hts (fun w h => List.mem_cons_of_mem _ (in_D w h)) t_D tk_D nm_D hown hK hP hD hS 0 rfl rfl 1 (by decide) (hts _ (List.mem_cons_of_mem _ (ak_mem (k := 128) (by decide +kernel : ak_nth wd_tbl 128 = some (.fieldLink "LogicalPairs$Deletion" 23 "LogicalPairs$Deletion" "segments" "LLogicalPairs$Segments;"))))) (fun _ h9 => h9) rfl hin rfl (by decide +kernel) rfl rfl (Nat.le_of_ble_eq_true rfl) d_D_init_29 (fun H locs hP hD hS => ?_)
  have hP : va_P D cl_all [(h0, .inr (4, [.ref hk, .ref hs, .ref q1, .ref q2, .int 0])), (q1, .inl (c1, 251, .inl (fun _ => 0))), (q2, .inl (c2, 250, .inl (fun _ => 0)))] H := hP
  have hD : va_D A [(h0, .inr (4, [.ref hk, .ref hs, .ref q1, .ref q2, .int 0])), (q1, .inl (c1, 251, .inl (fun _ => 0))), (q2, .inl (c2, 250, .inl (fun _ => 0)))] := hD
  exact W.vret hx hb hr (fun t ht hW => ⟨⟨(fun k => match k with | 1 => q1 | _ => q2, fun k => match k with | 1 => c1 | _ => c2), rfl, trivial, by rw [ht]; exact hP, va_K.moved hW.alike hK, hD⟩, hS.F ht⟩) hS.2.2 d_D_init_32
