/-! contracts of Kinds, Indexes and the leaves of Segments -/
def pt_K_has : ak_P := fun vs s Q => match vs with
  | [.ref 1, .int k] => Q (some (.int (if 1 ≤ k ∧ k ≤ s.1 1 0 then 1 else 0))) s
  | _ => False
def cs_K_has : Nat → ak_P := fun _ _ _ _ => False
theorem vc_K_has : ak_VC lay_C cs_K_has bl_K_has 2 pt_K_has := by
  intro vs s Q h
  unfold pt_K_has at h
  split at h
  · rename_i k
    refine ⟨Nat.le_refl 2, fun J hJ => hJ 3 _ _ _ _ ?_⟩
    simp only [Nat.reduceAdd, Nat.reduceLeDiff, Nat.zero_le, true_or, or_true, run_s, e_nop, e_iconst, e_bipush, e_sipush, e_lconst, e_iload, e_iload_n, e_lload, e_lload_n, e_aload, e_aload_n, e_istore, e_istore_n, e_iinc, e_iadd, e_isub, e_imul, e_lcmp, e_dupI, e_dupR, e_dup2, e_getfield, e_putfield, e_iaload, e_baload, e_laload, e_iastore, e_bastore, e_lastore, e_if, e_icmp, e_goto, e_tsw, e_ireturn0, e_ireturn1, e_return, e_call0, e_call1, e_call2, e_call3, lI_e, lL_e, lR_e, ak_nth, ak_set, ak_ok1, ak_jp, ak_b1, ak_b2, ak_sw, ak_la, ak_pad, true_and, and_true, List.map_cons, List.map_nil, List.sum_cons, List.sum_nil, Value.category, Option.toList_some, Option.toList_none, List.cons_append, List.nil_append, gC_0_0, gC_0_1, gC_0_2, gC_0_3, rC_0, gC_1_0, pC_1_0, gC_1_1, gC_1_2, gC_1_3, rC_1, gC_2_0, pC_2_0, gC_2_1, gC_2_2, gC_2_3, gC_2_4, gC_2_5, gC_2_6, gC_2_7, gC_2_8, rC_2, gC_3_0, pC_3_0, gC_3_1, gC_3_2, rC_3, gC_4_0, gC_4_1, gC_4_2, gC_4_3, gC_4_4, pC_4_4, rC_4, kC_5, kC_6, kC_7, kC_8, kC_9, kC_10, kC_11, kC_12, kC_13, kC_14, kC_15, kC_16, kC_17, kC_18, kC_19, fd_K_has_0, fd_K_has_17, fd_K_has_18, bk_K_has_0, bk_K_has_17, bk_K_has_18]
    refine ⟨fun h1 => ?_, fun h1 => ⟨fun h2 => ?_, fun h2 => ?_⟩⟩ <;> grind
  · exact h.elim
set_option maxRecDepth 20000 in
theorem ct_K_has (l : Launch) : ak_Ctr l cl_all lay_C y_K_has ws_K_has rm_K_has pt_K_has := by
  refine ak_met (cs := cs_K_has) (reg := rg_K_has) (bl := bl_K_has) (by decide +kernel) rfl (cl_ok _) rfl ok_K_has ?_ vc_K_has
  intro a n b ci h
  match a, h with
  | k + 0, h => cases h
def pt_S_has : ak_P := fun vs s Q => match vs with
  | [.ref 2, .int k] => Q (some (.int (if 1 ≤ k ∧ k ≤ s.1 2 0 then 1 else 0))) s
  | _ => False
def cs_S_has : Nat → ak_P := fun _ _ _ _ => False
theorem vc_S_has : ak_VC lay_C cs_S_has bl_S_has 2 pt_S_has := by
  intro vs s Q h
  unfold pt_S_has at h
  split at h
  · rename_i k
    refine ⟨Nat.le_refl 2, fun J hJ => hJ 3 _ _ _ _ ?_⟩
    simp only [Nat.reduceAdd, Nat.reduceLeDiff, Nat.zero_le, true_or, or_true, run_s, e_nop, e_iconst, e_bipush, e_sipush, e_lconst, e_iload, e_iload_n, e_lload, e_lload_n, e_aload, e_aload_n, e_istore, e_istore_n, e_iinc, e_iadd, e_isub, e_imul, e_lcmp, e_dupI, e_dupR, e_dup2, e_getfield, e_putfield, e_iaload, e_baload, e_laload, e_iastore, e_bastore, e_lastore, e_if, e_icmp, e_goto, e_tsw, e_ireturn0, e_ireturn1, e_return, e_call0, e_call1, e_call2, e_call3, lI_e, lL_e, lR_e, ak_nth, ak_set, ak_ok1, ak_jp, ak_b1, ak_b2, ak_sw, ak_la, ak_pad, true_and, and_true, List.map_cons, List.map_nil, List.sum_cons, List.sum_nil, Value.category, Option.toList_some, Option.toList_none, List.cons_append, List.nil_append, gC_0_0, gC_0_1, gC_0_2, gC_0_3, rC_0, gC_1_0, pC_1_0, gC_1_1, gC_1_2, gC_1_3, rC_1, gC_2_0, pC_2_0, gC_2_1, gC_2_2, gC_2_3, gC_2_4, gC_2_5, gC_2_6, gC_2_7, gC_2_8, rC_2, gC_3_0, pC_3_0, gC_3_1, gC_3_2, rC_3, gC_4_0, gC_4_1, gC_4_2, gC_4_3, gC_4_4, pC_4_4, rC_4, kC_5, kC_6, kC_7, kC_8, kC_9, kC_10, kC_11, kC_12, kC_13, kC_14, kC_15, kC_16, kC_17, kC_18, kC_19, fd_S_has_0, fd_S_has_17, fd_S_has_18, bk_S_has_0, bk_S_has_17, bk_S_has_18]
    refine ⟨fun h1 => ?_, fun h1 => ⟨fun h2 => ?_, fun h2 => ?_⟩⟩ <;> grind
  · exact h.elim
set_option maxRecDepth 20000 in
theorem ct_S_has (l : Launch) : ak_Ctr l cl_all lay_C y_S_has ws_S_has rm_S_has pt_S_has := by
  refine ak_met (cs := cs_S_has) (reg := rg_S_has) (bl := bl_S_has) (by decide +kernel) rfl (cl_ok _) rfl ok_S_has ?_ vc_S_has
  intro a n b ci h
  match a, h with
  | k + 0, h => cases h
def pt_X_has : ak_P := fun vs s Q => match vs with
  | [.ref 3, .int k] => Q (some (.int (if 1 ≤ k ∧ k ≤ s.1 3 0 then 1 else 0))) s
  | _ => False
def cs_X_has : Nat → ak_P := fun _ _ _ _ => False
theorem vc_X_has : ak_VC lay_C cs_X_has bl_X_has 2 pt_X_has := by
  intro vs s Q h
  unfold pt_X_has at h
  split at h
  · rename_i k
    refine ⟨Nat.le_refl 2, fun J hJ => hJ 3 _ _ _ _ ?_⟩
    simp only [Nat.reduceAdd, Nat.reduceLeDiff, Nat.zero_le, true_or, or_true, run_s, e_nop, e_iconst, e_bipush, e_sipush, e_lconst, e_iload, e_iload_n, e_lload, e_lload_n, e_aload, e_aload_n, e_istore, e_istore_n, e_iinc, e_iadd, e_isub, e_imul, e_lcmp, e_dupI, e_dupR, e_dup2, e_getfield, e_putfield, e_iaload, e_baload, e_laload, e_iastore, e_bastore, e_lastore, e_if, e_icmp, e_goto, e_tsw, e_ireturn0, e_ireturn1, e_return, e_call0, e_call1, e_call2, e_call3, lI_e, lL_e, lR_e, ak_nth, ak_set, ak_ok1, ak_jp, ak_b1, ak_b2, ak_sw, ak_la, ak_pad, true_and, and_true, List.map_cons, List.map_nil, List.sum_cons, List.sum_nil, Value.category, Option.toList_some, Option.toList_none, List.cons_append, List.nil_append, gC_0_0, gC_0_1, gC_0_2, gC_0_3, rC_0, gC_1_0, pC_1_0, gC_1_1, gC_1_2, gC_1_3, rC_1, gC_2_0, pC_2_0, gC_2_1, gC_2_2, gC_2_3, gC_2_4, gC_2_5, gC_2_6, gC_2_7, gC_2_8, rC_2, gC_3_0, pC_3_0, gC_3_1, gC_3_2, rC_3, gC_4_0, gC_4_1, gC_4_2, gC_4_3, gC_4_4, pC_4_4, rC_4, kC_5, kC_6, kC_7, kC_8, kC_9, kC_10, kC_11, kC_12, kC_13, kC_14, kC_15, kC_16, kC_17, kC_18, kC_19, fd_X_has_0, fd_X_has_17, fd_X_has_18, bk_X_has_0, bk_X_has_17, bk_X_has_18]
    refine ⟨fun h1 => ?_, fun h1 => ⟨fun h2 => ?_, fun h2 => ?_⟩⟩ <;> grind
  · exact h.elim
set_option maxRecDepth 20000 in
theorem ct_X_has (l : Launch) : ak_Ctr l cl_all lay_C y_X_has ws_X_has rm_X_has pt_X_has := by
  refine ak_met (cs := cs_X_has) (reg := rg_X_has) (bl := bl_X_has) (by decide +kernel) rfl (cl_ok _) rfl ok_X_has ?_ vc_X_has
  intro a n b ci h
  match a, h with
  | k + 0, h => cases h
/-- there is room for one more, or not -/
def pt_K_add : ak_P := fun vs s Q => match vs with
  | [.ref 1, .int u] => ∃ n : Nat, n ≤ 15 ∧ s.1 1 0 = nI n ∧ (n = 15 → Q (some (.int (-1))) s) ∧ (n < 15 → Q (some (.int (nI (n + 1)))) (ak_p1 (ak_p1 s 1 0 (nI (n + 1))) 5 (n + 1) u))
  | _ => False
def cs_K_add : Nat → ak_P := fun _ _ _ _ => False
theorem vc_K_add : ak_VC lay_C cs_K_add bl_K_add 2 pt_K_add := by
  intro vs s Q h
  unfold pt_K_add at h
  split at h
  · rename_i u
    obtain ⟨n, hn, hs, h1, h2⟩ := h
    refine ⟨Nat.le_refl 2, fun J hJ => hJ 3 _ _ _ _ ?_⟩
    simp only [Nat.reduceAdd, Nat.reduceLeDiff, Nat.zero_le, true_or, or_true, run_s, e_nop, e_iconst, e_bipush, e_sipush, e_lconst, e_iload, e_iload_n, e_lload, e_lload_n, e_aload, e_aload_n, e_istore, e_istore_n, e_iinc, e_iadd, e_isub, e_imul, e_lcmp, e_dupI, e_dupR, e_dup2, e_getfield, e_putfield, e_iaload, e_baload, e_laload, e_iastore, e_bastore, e_lastore, e_if, e_icmp, e_goto, e_tsw, e_ireturn0, e_ireturn1, e_return, e_call0, e_call1, e_call2, e_call3, lI_e, lL_e, lR_e, ak_nth, ak_set, ak_ok1, ak_jp, ak_b1, ak_b2, ak_sw, ak_la, ak_pad, true_and, and_true, List.map_cons, List.map_nil, List.sum_cons, List.sum_nil, Value.category, Option.toList_some, Option.toList_none, List.cons_append, List.nil_append, gC_0_0, gC_0_1, gC_0_2, gC_0_3, rC_0, gC_1_0, pC_1_0, gC_1_1, gC_1_2, gC_1_3, rC_1, gC_2_0, pC_2_0, gC_2_1, gC_2_2, gC_2_3, gC_2_4, gC_2_5, gC_2_6, gC_2_7, gC_2_8, rC_2, gC_3_0, pC_3_0, gC_3_1, gC_3_2, rC_3, gC_4_0, gC_4_1, gC_4_2, gC_4_3, gC_4_4, pC_4_4, rC_4, kC_5, kC_6, kC_7, kC_8, kC_9, kC_10, kC_11, kC_12, kC_13, kC_14, kC_15, kC_16, kC_17, kC_18, kC_19, fd_K_add_0, fd_K_add_11, bk_K_add_0, bk_K_add_11, p1_s, p1_o, if_true, hs, nI_1, ne_eq, Nat.reduceEqDiff, not_false_eq_true]
    rw [n_15, q_lt (by omega) (by omega)]
    refine ⟨fun h3 => ?_, fun h3 => h1 (by omega)⟩
    rw [q_cl (by omega)]
    exact ⟨q_in (by omega) (by omega), h2 h3⟩
  · exact h.elim
set_option maxRecDepth 20000 in
theorem ct_K_add (l : Launch) : ak_Ctr l cl_all lay_C y_K_add ws_K_add rm_K_add pt_K_add := by
  refine ak_met (cs := cs_K_add) (reg := rg_K_add) (bl := bl_K_add) (by decide +kernel) rfl (cl_ok _) rfl ok_K_add ?_ vc_K_add
  intro a n b ci h
  match a, h with
  | k + 0, h => cases h
def pt_X_add : ak_P := fun vs s Q => match vs with
  | [.ref 3, .int u, .int b] => ∃ n : Nat, n ≤ 10 ∧ s.1 3 0 = nI n ∧ (n = 10 → Q (some (.int (-1))) s) ∧ (n < 10 → Q (some (.int (nI (n + 1)))) (ak_p1 (ak_p1 (ak_p1 s 3 0 (nI (n + 1))) 16 (n + 1) u) 17 (n + 1) (b &&& 1)))
  | _ => False
def cs_X_add : Nat → ak_P := fun _ _ _ _ => False
theorem vc_X_add : ak_VC lay_C cs_X_add bl_X_add 3 pt_X_add := by
  intro vs s Q h
  unfold pt_X_add at h
  split at h
  · rename_i u b
    obtain ⟨n, hn, hs, h1, h2⟩ := h
    refine ⟨Nat.le_refl 3, fun J hJ => hJ 3 _ _ _ _ ?_⟩
    simp only [Nat.reduceAdd, Nat.reduceLeDiff, Nat.zero_le, true_or, or_true, run_s, e_nop, e_iconst, e_bipush, e_sipush, e_lconst, e_iload, e_iload_n, e_lload, e_lload_n, e_aload, e_aload_n, e_istore, e_istore_n, e_iinc, e_iadd, e_isub, e_imul, e_lcmp, e_dupI, e_dupR, e_dup2, e_getfield, e_putfield, e_iaload, e_baload, e_laload, e_iastore, e_bastore, e_lastore, e_if, e_icmp, e_goto, e_tsw, e_ireturn0, e_ireturn1, e_return, e_call0, e_call1, e_call2, e_call3, lI_e, lL_e, lR_e, ak_nth, ak_set, ak_ok1, ak_jp, ak_b1, ak_b2, ak_sw, ak_la, ak_pad, true_and, and_true, List.map_cons, List.map_nil, List.sum_cons, List.sum_nil, Value.category, Option.toList_some, Option.toList_none, List.cons_append, List.nil_append, gC_0_0, gC_0_1, gC_0_2, gC_0_3, rC_0, gC_1_0, pC_1_0, gC_1_1, gC_1_2, gC_1_3, rC_1, gC_2_0, pC_2_0, gC_2_1, gC_2_2, gC_2_3, gC_2_4, gC_2_5, gC_2_6, gC_2_7, gC_2_8, rC_2, gC_3_0, pC_3_0, gC_3_1, gC_3_2, rC_3, gC_4_0, gC_4_1, gC_4_2, gC_4_3, gC_4_4, pC_4_4, rC_4, kC_5, kC_6, kC_7, kC_8, kC_9, kC_10, kC_11, kC_12, kC_13, kC_14, kC_15, kC_16, kC_17, kC_18, kC_19, fd_X_add_0, fd_X_add_11, bk_X_add_0, bk_X_add_11, p1_s, p1_o, if_true, hs, nI_1, ne_eq, Nat.reduceEqDiff, not_false_eq_true]
    rw [n_10, q_lt (by omega) (by omega)]
    refine ⟨fun h3 => ?_, fun h3 => h1 (by omega)⟩
    rw [q_cl (by omega)]
    exact ⟨q_in (by omega) (by omega), q_in (by omega) (by omega), h2 h3⟩
  · exact h.elim
set_option maxRecDepth 20000 in
theorem ct_X_add (l : Launch) : ak_Ctr l cl_all lay_C y_X_add ws_X_add rm_X_add pt_X_add := by
  refine ak_met (cs := cs_X_add) (reg := rg_X_add) (bl := bl_X_add) (by decide +kernel) rfl (cl_ok _) rfl ok_X_add ?_ vc_X_add
  intro a n b ci h
  match a, h with
  | k + 0, h => cases h
def pt_S_is : ak_P := fun vs s Q => match vs with
  | [.ref 2, .int i, .int w] => ∃ n : Nat, n ≤ 250 ∧ s.1 2 0 = nI n ∧ Q (some (.int (if (1 ≤ i ∧ i ≤ nI n) ∧ s.1 11 i.toNatClampNeg = w then 1 else 0))) s
  | _ => False
def cs_S_is : Nat → ak_P := fun a => match a with
  | _ => pt_S_has
theorem vc_S_is : ak_VC lay_C cs_S_is bl_S_is 3 pt_S_is := by
  intro vs s Q h
  unfold pt_S_is at h
  split at h
  · rename_i i w
    obtain ⟨n, hn, hs, h⟩ := h
    refine ⟨Nat.le_refl 3, fun J hJ => hJ 4 _ _ _ _ ?_⟩
    simp only [Nat.reduceAdd, Nat.reduceLeDiff, Nat.zero_le, true_or, or_true, run_s, e_nop, e_iconst, e_bipush, e_sipush, e_lconst, e_iload, e_iload_n, e_lload, e_lload_n, e_aload, e_aload_n, e_istore, e_istore_n, e_iinc, e_iadd, e_isub, e_imul, e_lcmp, e_dupI, e_dupR, e_dup2, e_getfield, e_putfield, e_iaload, e_baload, e_laload, e_iastore, e_bastore, e_lastore, e_if, e_icmp, e_goto, e_tsw, e_ireturn0, e_ireturn1, e_return, e_call0, e_call1, e_call2, e_call3, lI_e, lL_e, lR_e, ak_nth, ak_set, ak_ok1, ak_jp, ak_b1, ak_b2, ak_sw, ak_la, ak_pad, true_and, and_true, List.map_cons, List.map_nil, List.sum_cons, List.sum_nil, Value.category, Option.toList_some, Option.toList_none, List.cons_append, List.nil_append, gC_0_0, gC_0_1, gC_0_2, gC_0_3, rC_0, gC_1_0, pC_1_0, gC_1_1, gC_1_2, gC_1_3, rC_1, gC_2_0, pC_2_0, gC_2_1, gC_2_2, gC_2_3, gC_2_4, gC_2_5, gC_2_6, gC_2_7, gC_2_8, rC_2, gC_3_0, pC_3_0, gC_3_1, gC_3_2, rC_3, gC_4_0, gC_4_1, gC_4_2, gC_4_3, gC_4_4, pC_4_4, rC_4, kC_5, kC_6, kC_7, kC_8, kC_9, kC_10, kC_11, kC_12, kC_13, kC_14, kC_15, kC_16, kC_17, kC_18, kC_19, fd_S_is_0, fd_S_is_22, fd_S_is_23, bk_S_is_0, bk_S_is_22, bk_S_is_23, cs_S_is, pt_S_has, hs]
    rcases n_case i (n := n) (by omega) with ⟨j, h1, h2, rfl⟩ | hx
    · have hb := n_in h1 h2 (by omega)
      rw [if_pos hb]
      rw [q_cl (by omega)] at h ⊢
      simp only [hb, true_and] at h
      refine ⟨fun e => absurd e (by decide), fun _ => ⟨q_in (by omega) (by omega), fun e => ?_, fun e => ?_⟩⟩ <;> grind
    · rw [if_neg hx]
      refine ⟨fun _ => ?_, fun e => absurd rfl e⟩
      grind
  · exact h.elim
set_option maxRecDepth 20000 in
theorem ct_S_is (l : Launch) : ak_Ctr l cl_all lay_C y_S_is ws_S_is rm_S_is pt_S_is := by
  refine ak_met (cs := cs_S_is) (reg := rg_S_is) (bl := bl_S_is) (by decide +kernel) rfl (cl_ok _) rfl ok_S_is ?_ vc_S_is
  intro a n b ci h
  match a, h with
  | 0, h =>
    cases h
    exact ak_ccV (ct_S_has l) rfl 188 189 190 22 191 (by decide +kernel) ⟨rfl, rfl⟩ (by decide +kernel) (by decide +kernel)
  | k + 1, h => cases h
def pt_S_isOneUnder : ak_P := fun vs s Q => match vs with
  | [.ref 2, .int i, .int k, .int u] => vp_in i 251 ∧ Q (some (.int (if s.1 11 i.toNatClampNeg = 1 ∧ s.1 8 i.toNatClampNeg = k ∧ s.1 9 i.toNatClampNeg = u then 1 else 0))) s
  | _ => False
def cs_S_isOneUnder : Nat → ak_P := fun _ _ _ _ => False
theorem vc_S_isOneUnder : ak_VC lay_C cs_S_isOneUnder bl_S_isOneUnder 4 pt_S_isOneUnder := by
  intro vs s Q h
  unfold pt_S_isOneUnder at h
  split at h
  · rename_i i k u
    obtain ⟨hi, h⟩ := h
    refine ⟨Nat.le_refl 4, fun J hJ => hJ 4 _ _ _ _ ?_⟩
    simp only [Nat.reduceAdd, Nat.reduceLeDiff, Nat.zero_le, true_or, or_true, run_s, e_nop, e_iconst, e_bipush, e_sipush, e_lconst, e_iload, e_iload_n, e_lload, e_lload_n, e_aload, e_aload_n, e_istore, e_istore_n, e_iinc, e_iadd, e_isub, e_imul, e_lcmp, e_dupI, e_dupR, e_dup2, e_getfield, e_putfield, e_iaload, e_baload, e_laload, e_iastore, e_bastore, e_lastore, e_if, e_icmp, e_goto, e_tsw, e_ireturn0, e_ireturn1, e_return, e_call0, e_call1, e_call2, e_call3, lI_e, lL_e, lR_e, ak_nth, ak_set, ak_ok1, ak_jp, ak_b1, ak_b2, ak_sw, ak_la, ak_pad, true_and, and_true, List.map_cons, List.map_nil, List.sum_cons, List.sum_nil, Value.category, Option.toList_some, Option.toList_none, List.cons_append, List.nil_append, gC_0_0, gC_0_1, gC_0_2, gC_0_3, rC_0, gC_1_0, pC_1_0, gC_1_1, gC_1_2, gC_1_3, rC_1, gC_2_0, pC_2_0, gC_2_1, gC_2_2, gC_2_3, gC_2_4, gC_2_5, gC_2_6, gC_2_7, gC_2_8, rC_2, gC_3_0, pC_3_0, gC_3_1, gC_3_2, rC_3, gC_4_0, gC_4_1, gC_4_2, gC_4_3, gC_4_4, pC_4_4, rC_4, kC_5, kC_6, kC_7, kC_8, kC_9, kC_10, kC_11, kC_12, kC_13, kC_14, kC_15, kC_16, kC_17, kC_18, kC_19, fd_S_isOneUnder_0, fd_S_isOneUnder_34, fd_S_isOneUnder_35, bk_S_isOneUnder_0, bk_S_isOneUnder_34, bk_S_isOneUnder_35, hi]
    grind
  · exact h.elim
set_option maxRecDepth 20000 in
theorem ct_S_isOneUnder (l : Launch) : ak_Ctr l cl_all lay_C y_S_isOneUnder ws_S_isOneUnder rm_S_isOneUnder pt_S_isOneUnder := by
  refine ak_met (cs := cs_S_isOneUnder) (reg := rg_S_isOneUnder) (bl := bl_S_isOneUnder) (by decide +kernel) rfl (cl_ok _) rfl ok_S_isOneUnder ?_ vc_S_isOneUnder
  intro a n b ci h
  match a, h with
  | k + 0, h => cases h
def pt_S_truth : ak_P := fun vs s Q => match vs with
  | [.ref 2, .int i, .int p] => vp_in i 251 ∧ Q (some (.int (if p = 0 then s.1 9 i.toNatClampNeg else if p = 1 then s.1 12 i.toNatClampNeg else s.1 13 i.toNatClampNeg))) s
  | _ => False
def cs_S_truth : Nat → ak_P := fun _ _ _ _ => False
theorem vc_S_truth : ak_VC lay_C cs_S_truth bl_S_truth 3 pt_S_truth := by
  intro vs s Q h
  unfold pt_S_truth at h
  split at h
  · rename_i i p
    obtain ⟨hi, h⟩ := h
    refine ⟨Nat.le_refl 3, fun J hJ => hJ 4 _ _ _ _ ?_⟩
    simp only [Nat.reduceAdd, Nat.reduceLeDiff, Nat.zero_le, true_or, or_true, run_s, e_nop, e_iconst, e_bipush, e_sipush, e_lconst, e_iload, e_iload_n, e_lload, e_lload_n, e_aload, e_aload_n, e_istore, e_istore_n, e_iinc, e_iadd, e_isub, e_imul, e_lcmp, e_dupI, e_dupR, e_dup2, e_getfield, e_putfield, e_iaload, e_baload, e_laload, e_iastore, e_bastore, e_lastore, e_if, e_icmp, e_goto, e_tsw, e_ireturn0, e_ireturn1, e_return, e_call0, e_call1, e_call2, e_call3, lI_e, lL_e, lR_e, ak_nth, ak_set, ak_ok1, ak_jp, ak_b1, ak_b2, ak_sw, ak_la, ak_pad, true_and, and_true, List.map_cons, List.map_nil, List.sum_cons, List.sum_nil, Value.category, Option.toList_some, Option.toList_none, List.cons_append, List.nil_append, gC_0_0, gC_0_1, gC_0_2, gC_0_3, rC_0, gC_1_0, pC_1_0, gC_1_1, gC_1_2, gC_1_3, rC_1, gC_2_0, pC_2_0, gC_2_1, gC_2_2, gC_2_3, gC_2_4, gC_2_5, gC_2_6, gC_2_7, gC_2_8, rC_2, gC_3_0, pC_3_0, gC_3_1, gC_3_2, rC_3, gC_4_0, gC_4_1, gC_4_2, gC_4_3, gC_4_4, pC_4_4, rC_4, kC_5, kC_6, kC_7, kC_8, kC_9, kC_10, kC_11, kC_12, kC_13, kC_14, kC_15, kC_16, kC_17, kC_18, kC_19, fd_S_truth_0, fd_S_truth_11, fd_S_truth_25, fd_S_truth_31, bk_S_truth_0, bk_S_truth_11, bk_S_truth_25, bk_S_truth_31, hi]
    grind
  · exact h.elim
set_option maxRecDepth 20000 in
theorem ct_S_truth (l : Launch) : ak_Ctr l cl_all lay_C y_S_truth ws_S_truth rm_S_truth pt_S_truth := by
  refine ak_met (cs := cs_S_truth) (reg := rg_S_truth) (bl := bl_S_truth) (by decide +kernel) rfl (cl_ok _) rfl ok_S_truth ?_ vc_S_truth
  intro a n b ci h
  match a, h with
  | k + 0, h => cases h
def pt_S_say : ak_P := fun vs s Q => match vs with
  | [.ref 2, .int i, .int p, .int t] => ∃ a b : Nat, a ≤ 250 ∧ b < 3 ∧ i = nI a ∧ p = nI b ∧ Q (some (.int (s.1 14 (3 * a + b)))) (ak_p1 s 14 (3 * a + b) t)
  | _ => False
def cs_S_say : Nat → ak_P := fun _ _ _ _ => False
theorem vc_S_say : ak_VC lay_C cs_S_say bl_S_say 5 pt_S_say := by
  intro vs s Q h
  unfold pt_S_say at h
  split at h
  · rename_i i p t
    obtain ⟨a, b, ha, hb, rfl, rfl, h⟩ := h
    refine ⟨Nat.le_of_ble_eq_true rfl, fun J hJ => hJ 4 _ _ _ _ ?_⟩
    simp only [Nat.reduceAdd, Nat.reduceLeDiff, Nat.zero_le, true_or, or_true, run_s, e_nop, e_iconst, e_bipush, e_sipush, e_lconst, e_iload, e_iload_n, e_lload, e_lload_n, e_aload, e_aload_n, e_istore, e_istore_n, e_iinc, e_iadd, e_isub, e_imul, e_lcmp, e_dupI, e_dupR, e_dup2, e_getfield, e_putfield, e_iaload, e_baload, e_laload, e_iastore, e_bastore, e_lastore, e_if, e_icmp, e_goto, e_tsw, e_ireturn0, e_ireturn1, e_return, e_call0, e_call1, e_call2, e_call3, lI_e, lL_e, lR_e, ak_nth, ak_set, ak_ok1, ak_jp, ak_b1, ak_b2, ak_sw, ak_la, ak_pad, true_and, and_true, List.map_cons, List.map_nil, List.sum_cons, List.sum_nil, Value.category, Option.toList_some, Option.toList_none, List.cons_append, List.nil_append, gC_0_0, gC_0_1, gC_0_2, gC_0_3, rC_0, gC_1_0, pC_1_0, gC_1_1, gC_1_2, gC_1_3, rC_1, gC_2_0, pC_2_0, gC_2_1, gC_2_2, gC_2_3, gC_2_4, gC_2_5, gC_2_6, gC_2_7, gC_2_8, rC_2, gC_3_0, pC_3_0, gC_3_1, gC_3_2, rC_3, gC_4_0, gC_4_1, gC_4_2, gC_4_3, gC_4_4, pC_4_4, rC_4, kC_5, kC_6, kC_7, kC_8, kC_9, kC_10, kC_11, kC_12, kC_13, kC_14, kC_15, kC_16, kC_17, kC_18, kC_19, fd_S_say_0, bk_S_say_0]
    rw [n_3, pk_mul, nI_add, q_cl (by omega), show a * 3 + b = 3 * a + b by omega]
    exact ⟨q_in (by omega) (by omega), q_in (by omega) (by omega), h⟩
  · exact h.elim
set_option maxRecDepth 20000 in
theorem ct_S_say (l : Launch) : ak_Ctr l cl_all lay_C y_S_say ws_S_say rm_S_say pt_S_say := by
  refine ak_met (cs := cs_S_say) (reg := rg_S_say) (bl := bl_S_say) (by decide +kernel) rfl (cl_ok _) rfl ok_S_say ?_ vc_S_say
  intro a n b ci h
  match a, h with
  | k + 0, h => cases h
