/-! constructors, laid by program (wip/whole/gen2.py) -/
theorem d_S_init_0 : decode prog_5_method_1_code 0 = .ok (.aload_n 0, 1) := by decide +kernel
theorem d_S_init_1 : decode prog_5_method_1_code 1 = .ok (.invokespecial 3, 3) := by decide +kernel
theorem d_S_init_4 : decode prog_5_method_1_code 4 = .ok (.aload_n 0, 1) := by decide +kernel
theorem d_S_init_5 : decode prog_5_method_1_code 5 = .ok (.sipush 251, 3) := by decide +kernel
theorem d_S_init_8 : decode prog_5_method_1_code 8 = .ok (.newarray .int, 2) := by decide +kernel
theorem d_S_init_10 : decode prog_5_method_1_code 10 = .ok (.putfield 9, 3) := by decide +kernel
theorem d_S_init_13 : decode prog_5_method_1_code 13 = .ok (.aload_n 0, 1) := by decide +kernel
theorem d_S_init_14 : decode prog_5_method_1_code 14 = .ok (.sipush 251, 3) := by decide +kernel
theorem d_S_init_17 : decode prog_5_method_1_code 17 = .ok (.newarray .int, 2) := by decide +kernel
theorem d_S_init_19 : decode prog_5_method_1_code 19 = .ok (.putfield 15, 3) := by decide +kernel
theorem d_S_init_22 : decode prog_5_method_1_code 22 = .ok (.aload_n 0, 1) := by decide +kernel
theorem d_S_init_23 : decode prog_5_method_1_code 23 = .ok (.sipush 251, 3) := by decide +kernel
theorem d_S_init_26 : decode prog_5_method_1_code 26 = .ok (.newarray .long, 2) := by decide +kernel
theorem d_S_init_28 : decode prog_5_method_1_code 28 = .ok (.putfield 18, 3) := by decide +kernel
theorem d_S_init_31 : decode prog_5_method_1_code 31 = .ok (.aload_n 0, 1) := by decide +kernel
theorem d_S_init_32 : decode prog_5_method_1_code 32 = .ok (.sipush 251, 3) := by decide +kernel
theorem d_S_init_35 : decode prog_5_method_1_code 35 = .ok (.newarray .int, 2) := by decide +kernel
theorem d_S_init_37 : decode prog_5_method_1_code 37 = .ok (.putfield 22, 3) := by decide +kernel
theorem d_S_init_40 : decode prog_5_method_1_code 40 = .ok (.aload_n 0, 1) := by decide +kernel
theorem d_S_init_41 : decode prog_5_method_1_code 41 = .ok (.sipush 251, 3) := by decide +kernel
theorem d_S_init_44 : decode prog_5_method_1_code 44 = .ok (.newarray .int, 2) := by decide +kernel
theorem d_S_init_46 : decode prog_5_method_1_code 46 = .ok (.putfield 25, 3) := by decide +kernel
theorem d_S_init_49 : decode prog_5_method_1_code 49 = .ok (.aload_n 0, 1) := by decide +kernel
theorem d_S_init_50 : decode prog_5_method_1_code 50 = .ok (.sipush 251, 3) := by decide +kernel
theorem d_S_init_53 : decode prog_5_method_1_code 53 = .ok (.newarray .int, 2) := by decide +kernel
theorem d_S_init_55 : decode prog_5_method_1_code 55 = .ok (.putfield 28, 3) := by decide +kernel
theorem d_S_init_58 : decode prog_5_method_1_code 58 = .ok (.aload_n 0, 1) := by decide +kernel
theorem d_S_init_59 : decode prog_5_method_1_code 59 = .ok (.sipush 753, 3) := by decide +kernel
theorem d_S_init_62 : decode prog_5_method_1_code 62 = .ok (.newarray .int, 2) := by decide +kernel
theorem d_S_init_64 : decode prog_5_method_1_code 64 = .ok (.putfield 31, 3) := by decide +kernel
theorem d_S_init_67 : decode prog_5_method_1_code 67 = .ok (.aload_n 0, 1) := by decide +kernel
theorem d_S_init_68 : decode prog_5_method_1_code 68 = .ok (.sipush 250, 3) := by decide +kernel
theorem d_S_init_71 : decode prog_5_method_1_code 71 = .ok (.newarray .int, 2) := by decide +kernel
theorem d_S_init_73 : decode prog_5_method_1_code 73 = .ok (.putfield 34, 3) := by decide +kernel
theorem d_S_init_76 : decode prog_5_method_1_code 76 = .ok (.return_, 1) := by decide +kernel
def ws_S_init : List Cond := .code y_S_init prog_5_method_1_code 1 none :: wd_tbl
def rm_S_init : Room := { frames := 1, cells := 8, slots := 2509, locals := 12 }
def w0_S (h0 : Nat) : va_W := [(h0, .inr (2, [.int 0, .null, .null, .null, .null, .null, .null, .null, .null]))]
def w1_S (h0 : Nat) (u : co_U) : va_W := [(h0, .inr (2, [.int 0, .ref (u.1 1), .ref (u.1 2), .ref (u.1 3), .ref (u.1 4), .ref (u.1 5), .ref (u.1 6), .ref (u.1 7), .ref (u.1 8)])), (u.1 1, .inl (u.2 1, 251, .inl (fun _ => 0))), (u.1 2, .inl (u.2 2, 251, .inl (fun _ => 0))), (u.1 3, .inl (u.2 3, 251, .inr (.inl (fun _ => 0)))), (u.1 4, .inl (u.2 4, 251, .inl (fun _ => 0))), (u.1 5, .inl (u.2 5, 251, .inl (fun _ => 0))), (u.1 6, .inl (u.2 6, 251, .inl (fun _ => 0))), (u.1 7, .inl (u.2 7, 753, .inl (fun _ => 0))), (u.1 8, .inl (u.2 8, 250, .inl (fun _ => 0)))]
def ty_S (u : co_U) : List (ClassId × FieldType) := [(u.2 1, .int), (u.2 2, .int), (u.2 3, .long), (u.2 4, .int), (u.2 5, .int), (u.2 6, .int), (u.2 7, .int), (u.2 8, .int)]
def pc_S (D : va_G) (h0 sz : Nat) : State → Prop := fun U => U.heap.size = sz ∧ va_P D cl_all (w0_S h0) U.heap ∧ va_K D cl_all [] U ∧ va_D (fun _ => True) (w0_S h0)
def pq_S (D : va_G) (h0 sz : Nat) (u : co_U) : State → Prop := fun U => va_P D cl_all (w1_S h0 u) U.heap ∧ va_K D cl_all (ty_S u) U ∧ va_D (va_A (w0_S h0) sz) (w1_S h0 u)
set_option maxHeartbeats 4000000 in
set_option maxRecDepth 100000 in
theorem c_S_init (l : Launch) (D : va_G) (h0 sz : Nat) : Met l y_S_init ws_S_init rm_S_init (va_Pc [.ref h0] (pc_S D h0 sz)) (va_Qv (fun _ : co_U => True) (pq_S D h0 sz) (va_A (w0_S h0) sz)) 8 2509 (va_A (w0_S h0) sz) := by
  refine Met.ofW (cc := prog_5_method_1_code) (maxL := 1) (ret := none) (by decide) rfl ?_
  intro p e s m args below meth c s₁ B hml hv
  obtain ⟨rfl, hsz, hP, hK, hD0⟩ := hv
  have hx := B.exec
  have hb := B.bytes
  have hr := B.returns
  have hts := atoms_spec (ws := ws_S_init) B.pre
  have hown : s.vm.findClass "LogicalPairs$Segments" = some m.cls := findClass_of_methodNamed B.named
  have hlocks := B.notSynchronized
  have hin : meth.name = "<init>" := (name_of_methodNamed B.named B.method).1
  subst hsz
  have hD := hD0.self (sz := s.heap.size)
  generalize hAe : va_A (w0_S h0) s.heap.size = A at hD ⊢
  have hA : ∀ q : Nat, s.heap.size ≤ q → A q := fun q h => by rw [← hAe]; exact Or.inr h
  have hS : va_S A s.heap s.heap [] := va_S.rf
  have hl := lv_entry ([.ref h0]) (n := 1) (Nat.le_of_ble_eq_true rfl)
  rw [lg_entry_eq]
  generalize (lg_sl ([.ref h0]) ++ List.replicate (1 - (lg_sl ([.ref h0])).length) Slot.unset).toArray = ls at hl ⊢
  have hl : lv_has ls 1 [(0, .ref h0)] := hl
  refine lv_aload_n hx hb d_S_init_0 rfl (lv_at hl 0 rfl) ?_
  refine W.objInit hx hb hown (hts _ (List.mem_cons_of_mem _ (ak_mem (k := 62) (by decide +kernel : ak_nth wd_tbl 62 = some (.methodLink "LogicalPairs$Segments" 3 objectInit))))) (hts _ (List.mem_cons_of_mem _ (ak_mem (k := 32) (by decide +kernel : ak_nth wd_tbl 32 = some (.instanceMethod objectInit))))) (hts _ (List.mem_cons_of_mem _ (ak_mem (k := 33) (by decide +kernel : ak_nth wd_tbl 33 = some (.code objectInit object_method_1_code 1 none))))) rfl (by rw [hml]; exact hl.1) rfl d_S_init_1 (Nat.le_of_ble_eq_true rfl) (Nat.le_of_ble_eq_true rfl) ?_
  refine W.eq (g2 := F0 m 4 ls []) rfl ?_
  unfold pq_S
  rw [hAe]
  have hP : va_P D cl_all [(h0, .inr (2, [.int 0, .null, .null, .null, .null, .null, .null, .null, .null]))] s.heap := hP
  have hD : va_D A [(h0, .inr (2, [.int 0, .null, .null, .null, .null, .null, .null, .null, .null]))] := hD
  refine lv_aload_n hx hb d_S_init_4 rfl (lv_at hl 0 rfl) ?_
  refine lv_sipush (v := 251) hx hb d_S_init_5 (by decide) ?_
  refine va_newa (atype := .int) (ty := .int) (N' := 251) (a0 := (251, .inl (fun _ => 0))) hx hb (hts _ (List.mem_cons_of_mem _ (ak_mem (k := 57) (by decide +kernel : ak_nth wd_tbl 57 = some (.arrayClass .int))))) rfl hK hP hD hS hA (fun _ => rfl) (by decide) (by decide) (by decide) (Nat.le_of_ble_eq_true rfl) (Nat.le_of_ble_eq_true rfl) d_S_init_8 (fun q1 c1 H hK hP hD hS => ?_)
  have hP : va_P D cl_all [(h0, .inr (2, [.int 0, .null, .null, .null, .null, .null, .null, .null, .null])), (q1, .inl (c1, 251, .inl (fun _ => 0)))] H := hP
  have hD : va_D A [(h0, .inr (2, [.int 0, .null, .null, .null, .null, .null, .null, .null, .null])), (q1, .inl (c1, 251, .inl (fun _ => 0)))] := hD
  have hK : va_K D cl_all [(c1, .int)] s := hK
  refine W.widen (k := 1) (n := 251) (Nat.le_of_ble_eq_true rfl) (Nat.le_of_ble_eq_true rfl) ?_
  refine va_putF (D := D) (ci := 2) (v := .ref q1) (ty := .array .int) (C := "LogicalPairs$Segments") (T := F_S) (N := 9) hx hb hts (fun w h => List.mem_cons_of_mem _ (in_S w h)) t_S tk_S nm_S hown hK hP hD hS 0 rfl rfl 1 (by decide) (hts _ (List.mem_cons_of_mem _ (ak_mem (k := 66) (by decide +kernel : ak_nth wd_tbl 66 = some (.fieldLink "LogicalPairs$Segments" 9 "LogicalPairs$Segments" "kindOf" "[I"))))) (fun _ h9 => h9) rfl hin rfl (by decide +kernel) rfl rfl (Nat.le_of_ble_eq_true rfl) d_S_init_10 (fun H locs hP hD hS => ?_)
  have hP : va_P D cl_all [(h0, .inr (2, [.int 0, .ref q1, .null, .null, .null, .null, .null, .null, .null])), (q1, .inl (c1, 251, .inl (fun _ => 0)))] H := hP
  have hD : va_D A [(h0, .inr (2, [.int 0, .ref q1, .null, .null, .null, .null, .null, .null, .null])), (q1, .inl (c1, 251, .inl (fun _ => 0)))] := hD
  refine lv_aload_n hx hb d_S_init_13 rfl (lv_at hl 0 rfl) ?_
  refine lv_sipush (v := 251) hx hb d_S_init_14 (by decide) ?_
  refine va_newa (atype := .int) (ty := .int) (N' := 251) (a0 := (251, .inl (fun _ => 0))) hx hb (hts _ (List.mem_cons_of_mem _ (ak_mem (k := 57) (by decide +kernel : ak_nth wd_tbl 57 = some (.arrayClass .int))))) rfl hK hP hD hS hA (fun _ => rfl) (by decide) (by decide) (by decide) (Nat.le_of_ble_eq_true rfl) (Nat.le_of_ble_eq_true rfl) d_S_init_17 (fun q2 c2 H hK hP hD hS => ?_)
  have hP : va_P D cl_all [(h0, .inr (2, [.int 0, .ref q1, .null, .null, .null, .null, .null, .null, .null])), (q1, .inl (c1, 251, .inl (fun _ => 0))), (q2, .inl (c2, 251, .inl (fun _ => 0)))] H := hP
  have hD : va_D A [(h0, .inr (2, [.int 0, .ref q1, .null, .null, .null, .null, .null, .null, .null])), (q1, .inl (c1, 251, .inl (fun _ => 0))), (q2, .inl (c2, 251, .inl (fun _ => 0)))] := hD
  have hK : va_K D cl_all [(c1, .int), (c2, .int)] s := hK
  refine W.widen (k := 2) (n := 502) (Nat.le_of_ble_eq_true rfl) (Nat.le_of_ble_eq_true rfl) ?_
  refine va_putF (D := D) (ci := 2) (v := .ref q2) (ty := .array .int) (C := "LogicalPairs$Segments") (T := F_S) (N := 9) hx hb hts (fun w h => List.mem_cons_of_mem _ (in_S w h)) t_S tk_S nm_S hown hK hP hD hS 0 rfl rfl 2 (by decide) (hts _ (List.mem_cons_of_mem _ (ak_mem (k := 69) (by decide +kernel : ak_nth wd_tbl 69 = some (.fieldLink "LogicalPairs$Segments" 15 "LogicalPairs$Segments" "aboveOf" "[I"))))) (fun _ h9 => h9) rfl hin rfl (by decide +kernel) rfl rfl (Nat.le_of_ble_eq_true rfl) d_S_init_19 (fun H locs hP hD hS => ?_)
  have hP : va_P D cl_all [(h0, .inr (2, [.int 0, .ref q1, .ref q2, .null, .null, .null, .null, .null, .null])), (q1, .inl (c1, 251, .inl (fun _ => 0))), (q2, .inl (c2, 251, .inl (fun _ => 0)))] H := hP
  have hD : va_D A [(h0, .inr (2, [.int 0, .ref q1, .ref q2, .null, .null, .null, .null, .null, .null])), (q1, .inl (c1, 251, .inl (fun _ => 0))), (q2, .inl (c2, 251, .inl (fun _ => 0)))] := hD
  refine lv_aload_n hx hb d_S_init_22 rfl (lv_at hl 0 rfl) ?_
  refine lv_sipush (v := 251) hx hb d_S_init_23 (by decide) ?_
  refine va_newa (atype := .long) (ty := .long) (N' := 251) (a0 := (251, .inr (.inl (fun _ => 0)))) hx hb (hts _ (List.mem_cons_of_mem _ (ak_mem (k := 101) (by decide +kernel : ak_nth wd_tbl 101 = some (.arrayClass .long))))) rfl hK hP hD hS hA (fun _ => rfl) (by decide) (by decide) (by decide) (Nat.le_of_ble_eq_true rfl) (Nat.le_of_ble_eq_true rfl) d_S_init_26 (fun q3 c3 H hK hP hD hS => ?_)
  have hP : va_P D cl_all [(h0, .inr (2, [.int 0, .ref q1, .ref q2, .null, .null, .null, .null, .null, .null])), (q1, .inl (c1, 251, .inl (fun _ => 0))), (q2, .inl (c2, 251, .inl (fun _ => 0))), (q3, .inl (c3, 251, .inr (.inl (fun _ => 0))))] H := hP
  have hD : va_D A [(h0, .inr (2, [.int 0, .ref q1, .ref q2, .null, .null, .null, .null, .null, .null])), (q1, .inl (c1, 251, .inl (fun _ => 0))), (q2, .inl (c2, 251, .inl (fun _ => 0))), (q3, .inl (c3, 251, .inr (.inl (fun _ => 0))))] := hD
  have hK : va_K D cl_all [(c1, .int), (c2, .int), (c3, .long)] s := hK
  refine W.widen (k := 3) (n := 753) (Nat.le_of_ble_eq_true rfl) (Nat.le_of_ble_eq_true rfl) ?_
  refine va_putF (D := D) (ci := 2) (v := .ref q3) (ty := .array .long) (C := "LogicalPairs$Segments") (T := F_S) (N := 9) hx hb hts (fun w h => List.mem_cons_of_mem _ (in_S w h)) t_S tk_S nm_S hown hK hP hD hS 0 rfl rfl 3 (by decide) (hts _ (List.mem_cons_of_mem _ (ak_mem (k := 71) (by decide +kernel : ak_nth wd_tbl 71 = some (.fieldLink "LogicalPairs$Segments" 18 "LogicalPairs$Segments" "keyOf" "[J"))))) (fun _ h9 => h9) rfl hin rfl (by decide +kernel) rfl rfl (Nat.le_of_ble_eq_true rfl) d_S_init_28 (fun H locs hP hD hS => ?_)
  have hP : va_P D cl_all [(h0, .inr (2, [.int 0, .ref q1, .ref q2, .ref q3, .null, .null, .null, .null, .null])), (q1, .inl (c1, 251, .inl (fun _ => 0))), (q2, .inl (c2, 251, .inl (fun _ => 0))), (q3, .inl (c3, 251, .inr (.inl (fun _ => 0))))] H := hP
  have hD : va_D A [(h0, .inr (2, [.int 0, .ref q1, .ref q2, .ref q3, .null, .null, .null, .null, .null])), (q1, .inl (c1, 251, .inl (fun _ => 0))), (q2, .inl (c2, 251, .inl (fun _ => 0))), (q3, .inl (c3, 251, .inr (.inl (fun _ => 0))))] := hD
  refine lv_aload_n hx hb d_S_init_31 rfl (lv_at hl 0 rfl) ?_
  refine lv_sipush (v := 251) hx hb d_S_init_32 (by decide) ?_
  refine va_newa (atype := .int) (ty := .int) (N' := 251) (a0 := (251, .inl (fun _ => 0))) hx hb (hts _ (List.mem_cons_of_mem _ (ak_mem (k := 57) (by decide +kernel : ak_nth wd_tbl 57 = some (.arrayClass .int))))) rfl hK hP hD hS hA (fun _ => rfl) (by decide) (by decide) (by decide) (Nat.le_of_ble_eq_true rfl) (Nat.le_of_ble_eq_true rfl) d_S_init_35 (fun q4 c4 H hK hP hD hS => ?_)
  have hP : va_P D cl_all [(h0, .inr (2, [.int 0, .ref q1, .ref q2, .ref q3, .null, .null, .null, .null, .null])), (q1, .inl (c1, 251, .inl (fun _ => 0))), (q2, .inl (c2, 251, .inl (fun _ => 0))), (q3, .inl (c3, 251, .inr (.inl (fun _ => 0)))), (q4, .inl (c4, 251, .inl (fun _ => 0)))] H := hP
  have hD : va_D A [(h0, .inr (2, [.int 0, .ref q1, .ref q2, .ref q3, .null, .null, .null, .null, .null])), (q1, .inl (c1, 251, .inl (fun _ => 0))), (q2, .inl (c2, 251, .inl (fun _ => 0))), (q3, .inl (c3, 251, .inr (.inl (fun _ => 0)))), (q4, .inl (c4, 251, .inl (fun _ => 0)))] := hD
  have hK : va_K D cl_all [(c1, .int), (c2, .int), (c3, .long), (c4, .int)] s := hK
  refine W.widen (k := 4) (n := 1004) (Nat.le_of_ble_eq_true rfl) (Nat.le_of_ble_eq_true rfl) ?_
  refine va_putF (D := D) (ci := 2) (v := .ref q4) (ty := .array .int) (C := "LogicalPairs$Segments") (T := F_S) (N := 9) hx hb hts (fun w h => List.mem_cons_of_mem _ (in_S w h)) t_S tk_S nm_S hown hK hP hD hS 0 rfl rfl 4 (by decide) (hts _ (List.mem_cons_of_mem _ (ak_mem (k := 73) (by decide +kernel : ak_nth wd_tbl 73 = some (.fieldLink "LogicalPairs$Segments" 22 "LogicalPairs$Segments" "state" "[I"))))) (fun _ h9 => h9) rfl hin rfl (by decide +kernel) rfl rfl (Nat.le_of_ble_eq_true rfl) d_S_init_37 (fun H locs hP hD hS => ?_)
  have hP : va_P D cl_all [(h0, .inr (2, [.int 0, .ref q1, .ref q2, .ref q3, .ref q4, .null, .null, .null, .null])), (q1, .inl (c1, 251, .inl (fun _ => 0))), (q2, .inl (c2, 251, .inl (fun _ => 0))), (q3, .inl (c3, 251, .inr (.inl (fun _ => 0)))), (q4, .inl (c4, 251, .inl (fun _ => 0)))] H := hP
  have hD : va_D A [(h0, .inr (2, [.int 0, .ref q1, .ref q2, .ref q3, .ref q4, .null, .null, .null, .null])), (q1, .inl (c1, 251, .inl (fun _ => 0))), (q2, .inl (c2, 251, .inl (fun _ => 0))), (q3, .inl (c3, 251, .inr (.inl (fun _ => 0)))), (q4, .inl (c4, 251, .inl (fun _ => 0)))] := hD
  refine lv_aload_n hx hb d_S_init_40 rfl (lv_at hl 0 rfl) ?_
  refine lv_sipush (v := 251) hx hb d_S_init_41 (by decide) ?_
  refine va_newa (atype := .int) (ty := .int) (N' := 251) (a0 := (251, .inl (fun _ => 0))) hx hb (hts _ (List.mem_cons_of_mem _ (ak_mem (k := 57) (by decide +kernel : ak_nth wd_tbl 57 = some (.arrayClass .int))))) rfl hK hP hD hS hA (fun _ => rfl) (by decide) (by decide) (by decide) (Nat.le_of_ble_eq_true rfl) (Nat.le_of_ble_eq_true rfl) d_S_init_44 (fun q5 c5 H hK hP hD hS => ?_)
  have hP : va_P D cl_all [(h0, .inr (2, [.int 0, .ref q1, .ref q2, .ref q3, .ref q4, .null, .null, .null, .null])), (q1, .inl (c1, 251, .inl (fun _ => 0))), (q2, .inl (c2, 251, .inl (fun _ => 0))), (q3, .inl (c3, 251, .inr (.inl (fun _ => 0)))), (q4, .inl (c4, 251, .inl (fun _ => 0))), (q5, .inl (c5, 251, .inl (fun _ => 0)))] H := hP
  have hD : va_D A [(h0, .inr (2, [.int 0, .ref q1, .ref q2, .ref q3, .ref q4, .null, .null, .null, .null])), (q1, .inl (c1, 251, .inl (fun _ => 0))), (q2, .inl (c2, 251, .inl (fun _ => 0))), (q3, .inl (c3, 251, .inr (.inl (fun _ => 0)))), (q4, .inl (c4, 251, .inl (fun _ => 0))), (q5, .inl (c5, 251, .inl (fun _ => 0)))] := hD
  have hK : va_K D cl_all [(c1, .int), (c2, .int), (c3, .long), (c4, .int), (c5, .int)] s := hK
  refine W.widen (k := 5) (n := 1255) (Nat.le_of_ble_eq_true rfl) (Nat.le_of_ble_eq_true rfl) ?_
  refine va_putF (D := D) (ci := 2) (v := .ref q5) (ty := .array .int) (C := "LogicalPairs$Segments") (T := F_S) (N := 9) hx hb hts (fun w h => List.mem_cons_of_mem _ (in_S w h)) t_S tk_S nm_S hown hK hP hD hS 0 rfl rfl 5 (by decide) (hts _ (List.mem_cons_of_mem _ (ak_mem (k := 74) (by decide +kernel : ak_nth wd_tbl 74 = some (.fieldLink "LogicalPairs$Segments" 25 "LogicalPairs$Segments" "relatedTo" "[I"))))) (fun _ h9 => h9) rfl hin rfl (by decide +kernel) rfl rfl (Nat.le_of_ble_eq_true rfl) d_S_init_46 (fun H locs hP hD hS => ?_)
  have hP : va_P D cl_all [(h0, .inr (2, [.int 0, .ref q1, .ref q2, .ref q3, .ref q4, .ref q5, .null, .null, .null])), (q1, .inl (c1, 251, .inl (fun _ => 0))), (q2, .inl (c2, 251, .inl (fun _ => 0))), (q3, .inl (c3, 251, .inr (.inl (fun _ => 0)))), (q4, .inl (c4, 251, .inl (fun _ => 0))), (q5, .inl (c5, 251, .inl (fun _ => 0)))] H := hP
  have hD : va_D A [(h0, .inr (2, [.int 0, .ref q1, .ref q2, .ref q3, .ref q4, .ref q5, .null, .null, .null])), (q1, .inl (c1, 251, .inl (fun _ => 0))), (q2, .inl (c2, 251, .inl (fun _ => 0))), (q3, .inl (c3, 251, .inr (.inl (fun _ => 0)))), (q4, .inl (c4, 251, .inl (fun _ => 0))), (q5, .inl (c5, 251, .inl (fun _ => 0)))] := hD
  refine lv_aload_n hx hb d_S_init_49 rfl (lv_at hl 0 rfl) ?_
  refine lv_sipush (v := 251) hx hb d_S_init_50 (by decide) ?_
  refine va_newa (atype := .int) (ty := .int) (N' := 251) (a0 := (251, .inl (fun _ => 0))) hx hb (hts _ (List.mem_cons_of_mem _ (ak_mem (k := 57) (by decide +kernel : ak_nth wd_tbl 57 = some (.arrayClass .int))))) rfl hK hP hD hS hA (fun _ => rfl) (by decide) (by decide) (by decide) (Nat.le_of_ble_eq_true rfl) (Nat.le_of_ble_eq_true rfl) d_S_init_53 (fun q6 c6 H hK hP hD hS => ?_)
  have hP : va_P D cl_all [(h0, .inr (2, [.int 0, .ref q1, .ref q2, .ref q3, .ref q4, .ref q5, .null, .null, .null])), (q1, .inl (c1, 251, .inl (fun _ => 0))), (q2, .inl (c2, 251, .inl (fun _ => 0))), (q3, .inl (c3, 251, .inr (.inl (fun _ => 0)))), (q4, .inl (c4, 251, .inl (fun _ => 0))), (q5, .inl (c5, 251, .inl (fun _ => 0))), (q6, .inl (c6, 251, .inl (fun _ => 0)))] H := hP
  have hD : va_D A [(h0, .inr (2, [.int 0, .ref q1, .ref q2, .ref q3, .ref q4, .ref q5, .null, .null, .null])), (q1, .inl (c1, 251, .inl (fun _ => 0))), (q2, .inl (c2, 251, .inl (fun _ => 0))), (q3, .inl (c3, 251, .inr (.inl (fun _ => 0)))), (q4, .inl (c4, 251, .inl (fun _ => 0))), (q5, .inl (c5, 251, .inl (fun _ => 0))), (q6, .inl (c6, 251, .inl (fun _ => 0)))] := hD
  have hK : va_K D cl_all [(c1, .int), (c2, .int), (c3, .long), (c4, .int), (c5, .int), (c6, .int)] s := hK
  refine W.widen (k := 6) (n := 1506) (Nat.le_of_ble_eq_true rfl) (Nat.le_of_ble_eq_true rfl) ?_
  refine va_putF (D := D) (ci := 2) (v := .ref q6) (ty := .array .int) (C := "LogicalPairs$Segments") (T := F_S) (N := 9) hx hb hts (fun w h => List.mem_cons_of_mem _ (in_S w h)) t_S tk_S nm_S hown hK hP hD hS 0 rfl rfl 6 (by decide) (hts _ (List.mem_cons_of_mem _ (ak_mem (k := 77) (by decide +kernel : ak_nth wd_tbl 77 = some (.fieldLink "LogicalPairs$Segments" 28 "LogicalPairs$Segments" "counted" "[I"))))) (fun _ h9 => h9) rfl hin rfl (by decide +kernel) rfl rfl (Nat.le_of_ble_eq_true rfl) d_S_init_55 (fun H locs hP hD hS => ?_)
  have hP : va_P D cl_all [(h0, .inr (2, [.int 0, .ref q1, .ref q2, .ref q3, .ref q4, .ref q5, .ref q6, .null, .null])), (q1, .inl (c1, 251, .inl (fun _ => 0))), (q2, .inl (c2, 251, .inl (fun _ => 0))), (q3, .inl (c3, 251, .inr (.inl (fun _ => 0)))), (q4, .inl (c4, 251, .inl (fun _ => 0))), (q5, .inl (c5, 251, .inl (fun _ => 0))), (q6, .inl (c6, 251, .inl (fun _ => 0)))] H := hP
  have hD : va_D A [(h0, .inr (2, [.int 0, .ref q1, .ref q2, .ref q3, .ref q4, .ref q5, .ref q6, .null, .null])), (q1, .inl (c1, 251, .inl (fun _ => 0))), (q2, .inl (c2, 251, .inl (fun _ => 0))), (q3, .inl (c3, 251, .inr (.inl (fun _ => 0)))), (q4, .inl (c4, 251, .inl (fun _ => 0))), (q5, .inl (c5, 251, .inl (fun _ => 0))), (q6, .inl (c6, 251, .inl (fun _ => 0)))] := hD
  refine lv_aload_n hx hb d_S_init_58 rfl (lv_at hl 0 rfl) ?_
  refine lv_sipush (v := 753) hx hb d_S_init_59 (by decide) ?_
  refine va_newa (atype := .int) (ty := .int) (N' := 753) (a0 := (753, .inl (fun _ => 0))) hx hb (hts _ (List.mem_cons_of_mem _ (ak_mem (k := 57) (by decide +kernel : ak_nth wd_tbl 57 = some (.arrayClass .int))))) rfl hK hP hD hS hA (fun _ => rfl) (by decide) (by decide) (by decide) (Nat.le_of_ble_eq_true rfl) (Nat.le_of_ble_eq_true rfl) d_S_init_62 (fun q7 c7 H hK hP hD hS => ?_)
  have hP : va_P D cl_all [(h0, .inr (2, [.int 0, .ref q1, .ref q2, .ref q3, .ref q4, .ref q5, .ref q6, .null, .null])), (q1, .inl (c1, 251, .inl (fun _ => 0))), (q2, .inl (c2, 251, .inl (fun _ => 0))), (q3, .inl (c3, 251, .inr (.inl (fun _ => 0)))), (q4, .inl (c4, 251, .inl (fun _ => 0))), (q5, .inl (c5, 251, .inl (fun _ => 0))), (q6, .inl (c6, 251, .inl (fun _ => 0))), (q7, .inl (c7, 753, .inl (fun _ => 0)))] H := hP
  have hD : va_D A [(h0, .inr (2, [.int 0, .ref q1, .ref q2, .ref q3, .ref q4, .ref q5, .ref q6, .null, .null])), (q1, .inl (c1, 251, .inl (fun _ => 0))), (q2, .inl (c2, 251, .inl (fun _ => 0))), (q3, .inl (c3, 251, .inr (.inl (fun _ => 0)))), (q4, .inl (c4, 251, .inl (fun _ => 0))), (q5, .inl (c5, 251, .inl (fun _ => 0))), (q6, .inl (c6, 251, .inl (fun _ => 0))), (q7, .inl (c7, 753, .inl (fun _ => 0)))] := hD
  have hK : va_K D cl_all [(c1, .int), (c2, .int), (c3, .long), (c4, .int), (c5, .int), (c6, .int), (c7, .int)] s := hK
  refine W.widen (k := 7) (n := 2259) (Nat.le_of_ble_eq_true rfl) (Nat.le_of_ble_eq_true rfl) ?_
  refine va_putF (D := D) (ci := 2) (v := .ref q7) (ty := .array .int) (C := "LogicalPairs$Segments") (T := F_S) (N := 9) hx hb hts (fun w h => List.mem_cons_of_mem _ (in_S w h)) t_S tk_S nm_S hown hK hP hD hS 0 rfl rfl 7 (by decide) (hts _ (List.mem_cons_of_mem _ (ak_mem (k := 79) (by decide +kernel : ak_nth wd_tbl 79 = some (.fieldLink "LogicalPairs$Segments" 31 "LogicalPairs$Segments" "said" "[I"))))) (fun _ h9 => h9) rfl hin rfl (by decide +kernel) rfl rfl (Nat.le_of_ble_eq_true rfl) d_S_init_64 (fun H locs hP hD hS => ?_)
  have hP : va_P D cl_all [(h0, .inr (2, [.int 0, .ref q1, .ref q2, .ref q3, .ref q4, .ref q5, .ref q6, .ref q7, .null])), (q1, .inl (c1, 251, .inl (fun _ => 0))), (q2, .inl (c2, 251, .inl (fun _ => 0))), (q3, .inl (c3, 251, .inr (.inl (fun _ => 0)))), (q4, .inl (c4, 251, .inl (fun _ => 0))), (q5, .inl (c5, 251, .inl (fun _ => 0))), (q6, .inl (c6, 251, .inl (fun _ => 0))), (q7, .inl (c7, 753, .inl (fun _ => 0)))] H := hP
  have hD : va_D A [(h0, .inr (2, [.int 0, .ref q1, .ref q2, .ref q3, .ref q4, .ref q5, .ref q6, .ref q7, .null])), (q1, .inl (c1, 251, .inl (fun _ => 0))), (q2, .inl (c2, 251, .inl (fun _ => 0))), (q3, .inl (c3, 251, .inr (.inl (fun _ => 0)))), (q4, .inl (c4, 251, .inl (fun _ => 0))), (q5, .inl (c5, 251, .inl (fun _ => 0))), (q6, .inl (c6, 251, .inl (fun _ => 0))), (q7, .inl (c7, 753, .inl (fun _ => 0)))] := hD
  refine lv_aload_n hx hb d_S_init_67 rfl (lv_at hl 0 rfl) ?_
  refine lv_sipush (v := 250) hx hb d_S_init_68 (by decide) ?_
  refine va_newa (atype := .int) (ty := .int) (N' := 250) (a0 := (250, .inl (fun _ => 0))) hx hb (hts _ (List.mem_cons_of_mem _ (ak_mem (k := 57) (by decide +kernel : ak_nth wd_tbl 57 = some (.arrayClass .int))))) rfl hK hP hD hS hA (fun _ => rfl) (by decide) (by decide) (by decide) (Nat.le_of_ble_eq_true rfl) (Nat.le_of_ble_eq_true rfl) d_S_init_71 (fun q8 c8 H hK hP hD hS => ?_)
  have hP : va_P D cl_all [(h0, .inr (2, [.int 0, .ref q1, .ref q2, .ref q3, .ref q4, .ref q5, .ref q6, .ref q7, .null])), (q1, .inl (c1, 251, .inl (fun _ => 0))), (q2, .inl (c2, 251, .inl (fun _ => 0))), (q3, .inl (c3, 251, .inr (.inl (fun _ => 0)))), (q4, .inl (c4, 251, .inl (fun _ => 0))), (q5, .inl (c5, 251, .inl (fun _ => 0))), (q6, .inl (c6, 251, .inl (fun _ => 0))), (q7, .inl (c7, 753, .inl (fun _ => 0))), (q8, .inl (c8, 250, .inl (fun _ => 0)))] H := hP
  have hD : va_D A [(h0, .inr (2, [.int 0, .ref q1, .ref q2, .ref q3, .ref q4, .ref q5, .ref q6, .ref q7, .null])), (q1, .inl (c1, 251, .inl (fun _ => 0))), (q2, .inl (c2, 251, .inl (fun _ => 0))), (q3, .inl (c3, 251, .inr (.inl (fun _ => 0)))), (q4, .inl (c4, 251, .inl (fun _ => 0))), (q5, .inl (c5, 251, .inl (fun _ => 0))), (q6, .inl (c6, 251, .inl (fun _ => 0))), (q7, .inl (c7, 753, .inl (fun _ => 0))), (q8, .inl (c8, 250, .inl (fun _ => 0)))] := hD
  have hK : va_K D cl_all [(c1, .int), (c2, .int), (c3, .long), (c4, .int), (c5, .int), (c6, .int), (c7, .int), (c8, .int)] s := hK
  refine W.widen (k := 8) (n := 2509) (Nat.le_of_ble_eq_true rfl) (Nat.le_of_ble_eq_true rfl) ?_
  refine va_putF (D := D) (ci := 2) (v := .ref q8) (ty := .array .int) (C := "LogicalPairs$Segments") (T := F_S) (N := 9) hx hb hts (fun w h => List.mem_cons_of_mem _ (in_S w h)) t_S tk_S nm_S hown hK hP hD hS 0 rfl rfl 8 (by decide) (hts _ (List.mem_cons_of_mem _ (ak_mem (k := 80) (by decide +kernel : ak_nth wd_tbl 80 = some (.fieldLink "LogicalPairs$Segments" 34 "LogicalPairs$Segments" "byKey" "[I"))))) (fun _ h9 => h9) rfl hin rfl (by decide +kernel) rfl rfl (Nat.le_of_ble_eq_true rfl) d_S_init_73 (fun H locs hP hD hS => ?_)
  have hP : va_P D cl_all [(h0, .inr (2, [.int 0, .ref q1, .ref q2, .ref q3, .ref q4, .ref q5, .ref q6, .ref q7, .ref q8])), (q1, .inl (c1, 251, .inl (fun _ => 0))), (q2, .inl (c2, 251, .inl (fun _ => 0))), (q3, .inl (c3, 251, .inr (.inl (fun _ => 0)))), (q4, .inl (c4, 251, .inl (fun _ => 0))), (q5, .inl (c5, 251, .inl (fun _ => 0))), (q6, .inl (c6, 251, .inl (fun _ => 0))), (q7, .inl (c7, 753, .inl (fun _ => 0))), (q8, .inl (c8, 250, .inl (fun _ => 0)))] H := hP
  have hD : va_D A [(h0, .inr (2, [.int 0, .ref q1, .ref q2, .ref q3, .ref q4, .ref q5, .ref q6, .ref q7, .ref q8])), (q1, .inl (c1, 251, .inl (fun _ => 0))), (q2, .inl (c2, 251, .inl (fun _ => 0))), (q3, .inl (c3, 251, .inr (.inl (fun _ => 0)))), (q4, .inl (c4, 251, .inl (fun _ => 0))), (q5, .inl (c5, 251, .inl (fun _ => 0))), (q6, .inl (c6, 251, .inl (fun _ => 0))), (q7, .inl (c7, 753, .inl (fun _ => 0))), (q8, .inl (c8, 250, .inl (fun _ => 0)))] := hD
  exact W.vret hx hb hr (fun t ht hW => ⟨⟨(fun k => match k with | 1 => q1 | 2 => q2 | 3 => q3 | 4 => q4 | 5 => q5 | 6 => q6 | 7 => q7 | _ => q8, fun k => match k with | 1 => c1 | 2 => c2 | 3 => c3 | 4 => c4 | 5 => c5 | 6 => c6 | 7 => c7 | _ => c8), rfl, trivial, by rw [ht]; exact hP, va_K.moved hW.alike hK, hD⟩, hS.F ht⟩) hS.2.2 d_S_init_76
