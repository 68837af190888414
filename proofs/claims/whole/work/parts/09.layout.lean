/-! the two worlds; a callee's certificate -/
def lay_C : List ak_C := [.inl (0, [some 1, some 2, some 3, some 4]), .inl (1, [none, some 5, some 6, some 7]), .inl (2, [none, some 8, some 9, some 10, some 11, some 12, some 13, some 14, some 15]), .inl (3, [none, some 16, some 17]), .inl (4, [some 1, some 2, some 18, some 19, none]),
  .inr (.int, 16), .inr (.int, 16), .inr (.int, 16), .inr (.int, 251), .inr (.int, 251), .inr (.long, 251), .inr (.int, 251), .inr (.int, 251), .inr (.int, 251), .inr (.int, 753), .inr (.int, 250), .inr (.int, 11), .inr (.boolean, 11), .inr (.boolean, 251), .inr (.int, 250)]
def lay_M : List ak_C := [.inl (5, [none, none, none, none, some 1, some 2, some 3, some 4, some 5, some 6, some 7, some 8, some 9, some 10, some 11, some 12, some 13]),
  .inr (.int, 16), .inr (.int, 16), .inr (.int, 16), .inr (.int, 251), .inr (.int, 251), .inr (.int, 251), .inr (.int, 251), .inr (.int, 753), .inr (.long, 251), .inr (.boolean, 251), .inr (.boolean, 251), .inr (.int, 11), .inr (.boolean, 11)]
theorem cl_ok (c : Cond) : ak_CL cl_all (c :: wd_tbl) := by
  intro q hq
  simp only [cl_all, List.mem_cons, List.not_mem_nil, or_false] at hq
  rcases hq with rfl | rfl | rfl | rfl | rfl | rfl
  · exact ⟨⟨t_L, tk_L⟩, nm_L, fun w h => List.mem_cons_of_mem _ (in_L w h)⟩
  · exact ⟨⟨t_K, tk_K⟩, nm_K, fun w h => List.mem_cons_of_mem _ (in_K w h)⟩
  · exact ⟨⟨t_S, tk_S⟩, nm_S, fun w h => List.mem_cons_of_mem _ (in_S w h)⟩
  · exact ⟨⟨t_X, tk_X⟩, nm_X, fun w h => List.mem_cons_of_mem _ (in_X w h)⟩
  · exact ⟨⟨t_D, tk_D⟩, nm_D, fun w h => List.mem_cons_of_mem _ (in_D w h)⟩
  · exact ⟨⟨t_M, tk_M⟩, nm_M, fun w h => List.mem_cons_of_mem _ (in_M w h)⟩
theorem ak_ccV {l : Launch} {lay : List ak_C} {y : MethodName} {bytes : ByteArray} {mL : Nat} {ret : Option FieldType} {rmC R : Room} {pt : ak_P} {own : String} {c0 : Cond} {n b ci : Nat} {q : vw_C} (C0 : ak_Ctr l cl_all lay y (.code y bytes mL ret :: wd_tbl) rmC pt) (hq : cl_all[ci]? = some q) (p1 p2 p3 p4 p5 : Nat)
    (hp : ak_nth wd_tbl p1 = some (.methodLink own n y) ∧ ak_nth wd_tbl p2 = some (.instanceMethod y) ∧ ak_nth wd_tbl p3 = some (.selects q.1 y y) ∧ ak_nth wd_tbl p4 = some (.initialized q.1) ∧ ak_nth wd_tbl p5 = some (.code y bytes mL ret)) (hz : rmC.cells = 0 ∧ rmC.slots = 0)
    (hd : y.cls = q.1 ∧ y.cls ≠ "java/lang/invoke/MethodHandle" ∧ y.cls ≠ "java/lang/invoke/VarHandle" ∧ (parseMethodDescriptor y.desc).map (fun d => d.parameters.length) = some b) (hR : rmC.frames + 1 ≤ R.frames ∧ 8 + (mL + 11) + rmC.locals ≤ R.locals) : ak_CC l cl_all lay (c0 :: wd_tbl) own R pt n b ci := by
  refine ⟨y, _, rmC, bytes, mL, ret, C0, Or.inl ⟨q, hq, fun s0 args ht => cwV b ht ?_ rfl hz.1 hz.2 hd hR⟩⟩
  intro w hw
  have hin : w ∈ wd_tbl := by
    unfold wsV at hw
    simp only [List.mem_append, List.mem_cons, List.not_mem_nil, or_false] at hw
    rcases hw with (rfl | rfl | rfl | rfl) | rfl | h
    · exact ak_mem hp.1
    · exact ak_mem hp.2.1
    · exact ak_mem hp.2.2.1
    · exact ak_mem hp.2.2.2.1
    · exact ak_mem hp.2.2.2.2
    · exact h
  exact ⟨List.mem_cons_of_mem _ hin, good_of_word (wd_good w hin)⟩
