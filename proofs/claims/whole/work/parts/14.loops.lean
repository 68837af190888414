/-! loops over the segments -/
def cn (p : Nat → Bool) : Nat → Nat
  | 0 => 0
  | n + 1 => cn p n + (if p (n + 1) = true then 1 else 0)
theorem cn_le (p : Nat → Bool) : ∀ n, cn p n ≤ n
  | 0 => Nat.le_refl 0
  | n + 1 => by
    have := cn_le p n
    rw [cn]
    split <;> omega
def pt_S_howMany : ak_P := fun vs s Q => match vs with
  | [.ref 2, .int w] => ∃ n : Nat, n ≤ 250 ∧ s.1 2 0 = nI n ∧ Q (some (.int (nI (cn (fun j => decide (s.1 11 j = w)) n)))) s
  | _ => False
def cs_S_howMany : Nat → ak_P := fun _ _ _ _ => False
theorem vc_S_howMany : ak_VC lay_C cs_S_howMany bl_S_howMany 4 pt_S_howMany := by
  intro vs s Q h
  unfold pt_S_howMany at h
  split at h
  · rename_i w
    obtain ⟨n, hn, hs, h⟩ := h
    refine ⟨Nat.le_of_ble_eq_true rfl, fun J hJ => ?_⟩
    have loop : ∀ d i, i + d = n → J 4 [some (.ref 2), some (.int w), some (.int (nI (cn (fun j => decide (s.1 11 j = w)) i))), some (.int (nI (i + 1)))] [] s := by
      intro d
      induction d with
      | zero =>
        intro i hi
        refine hJ 3 _ _ _ _ ?_
        simp only [Nat.reduceAdd, Nat.reduceLeDiff, Nat.zero_le, true_or, or_true, run_s, e_nop, e_iconst, e_bipush, e_sipush, e_lconst, e_iload, e_iload_n, e_lload, e_lload_n, e_aload, e_aload_n, e_istore, e_istore_n, e_iinc, e_iadd, e_isub, e_imul, e_lcmp, e_dupI, e_dupR, e_dup2, e_getfield, e_putfield, e_iaload, e_baload, e_laload, e_iastore, e_bastore, e_lastore, e_if, e_icmp, e_goto, e_tsw, e_ireturn0, e_ireturn1, e_return, e_call0, e_call1, e_call2, e_call3, lI_e, lL_e, lR_e, ak_nth, ak_set, ak_ok1, ak_jp, ak_b1, ak_b2, ak_sw, ak_la, ak_pad, true_and, and_true, List.map_cons, List.map_nil, List.sum_cons, List.sum_nil, Value.category, Option.toList_some, Option.toList_none, List.cons_append, List.nil_append, gC_0_0, gC_0_1, gC_0_2, gC_0_3, rC_0, gC_1_0, pC_1_0, gC_1_1, gC_1_2, gC_1_3, rC_1, gC_2_0, pC_2_0, gC_2_1, gC_2_2, gC_2_3, gC_2_4, gC_2_5, gC_2_6, gC_2_7, gC_2_8, rC_2, gC_3_0, pC_3_0, gC_3_1, gC_3_2, rC_3, gC_4_0, gC_4_1, gC_4_2, gC_4_3, gC_4_4, pC_4_4, rC_4, kC_5, kC_6, kC_7, kC_8, kC_9, kC_10, kC_11, kC_12, kC_13, kC_14, kC_15, kC_16, kC_17, kC_18, kC_19, fd_S_howMany_0, fd_S_howMany_4, fd_S_howMany_25, fd_S_howMany_31, bk_S_howMany_0, bk_S_howMany_4, bk_S_howMany_25, bk_S_howMany_31, hs]
        rw [q_lt (by omega) (by omega)]
        refine ⟨fun _ => ?_, fun q => absurd (by omega) q⟩
        have e : i = n := by omega
        rw [e]
        exact h
      | succ d ih =>
        intro i hi
        refine hJ 3 _ _ _ _ ?_
        simp only [Nat.reduceAdd, Nat.reduceLeDiff, Nat.zero_le, true_or, or_true, run_s, e_nop, e_iconst, e_bipush, e_sipush, e_lconst, e_iload, e_iload_n, e_lload, e_lload_n, e_aload, e_aload_n, e_istore, e_istore_n, e_iinc, e_iadd, e_isub, e_imul, e_lcmp, e_dupI, e_dupR, e_dup2, e_getfield, e_putfield, e_iaload, e_baload, e_laload, e_iastore, e_bastore, e_lastore, e_if, e_icmp, e_goto, e_tsw, e_ireturn0, e_ireturn1, e_return, e_call0, e_call1, e_call2, e_call3, lI_e, lL_e, lR_e, ak_nth, ak_set, ak_ok1, ak_jp, ak_b1, ak_b2, ak_sw, ak_la, ak_pad, true_and, and_true, List.map_cons, List.map_nil, List.sum_cons, List.sum_nil, Value.category, Option.toList_some, Option.toList_none, List.cons_append, List.nil_append, gC_0_0, gC_0_1, gC_0_2, gC_0_3, rC_0, gC_1_0, pC_1_0, gC_1_1, gC_1_2, gC_1_3, rC_1, gC_2_0, pC_2_0, gC_2_1, gC_2_2, gC_2_3, gC_2_4, gC_2_5, gC_2_6, gC_2_7, gC_2_8, rC_2, gC_3_0, pC_3_0, gC_3_1, gC_3_2, rC_3, gC_4_0, gC_4_1, gC_4_2, gC_4_3, gC_4_4, pC_4_4, rC_4, kC_5, kC_6, kC_7, kC_8, kC_9, kC_10, kC_11, kC_12, kC_13, kC_14, kC_15, kC_16, kC_17, kC_18, kC_19, fd_S_howMany_0, fd_S_howMany_4, fd_S_howMany_25, fd_S_howMany_31, bk_S_howMany_0, bk_S_howMany_4, bk_S_howMany_25, bk_S_howMany_31, hs, nI_1]
        rw [q_lt (by omega) (by omega), q_cl (by omega)]
        refine ⟨fun q => absurd q (by omega), fun _ => ⟨q_in (by omega) (by omega), fun q => ?_, fun q => ?_⟩⟩
        · have := ih (i + 1) (by omega)
          simpa [cn, q] using this
        · have := ih (i + 1) (by omega)
          simpa [cn, q] using this
    refine hJ 3 _ _ _ _ ?_
    simp only [Nat.reduceAdd, Nat.reduceLeDiff, Nat.zero_le, true_or, or_true, run_s, e_nop, e_iconst, e_bipush, e_sipush, e_lconst, e_iload, e_iload_n, e_lload, e_lload_n, e_aload, e_aload_n, e_istore, e_istore_n, e_iinc, e_iadd, e_isub, e_imul, e_lcmp, e_dupI, e_dupR, e_dup2, e_getfield, e_putfield, e_iaload, e_baload, e_laload, e_iastore, e_bastore, e_lastore, e_if, e_icmp, e_goto, e_tsw, e_ireturn0, e_ireturn1, e_return, e_call0, e_call1, e_call2, e_call3, lI_e, lL_e, lR_e, ak_nth, ak_set, ak_ok1, ak_jp, ak_b1, ak_b2, ak_sw, ak_la, ak_pad, true_and, and_true, List.map_cons, List.map_nil, List.sum_cons, List.sum_nil, Value.category, Option.toList_some, Option.toList_none, List.cons_append, List.nil_append, gC_0_0, gC_0_1, gC_0_2, gC_0_3, rC_0, gC_1_0, pC_1_0, gC_1_1, gC_1_2, gC_1_3, rC_1, gC_2_0, pC_2_0, gC_2_1, gC_2_2, gC_2_3, gC_2_4, gC_2_5, gC_2_6, gC_2_7, gC_2_8, rC_2, gC_3_0, pC_3_0, gC_3_1, gC_3_2, rC_3, gC_4_0, gC_4_1, gC_4_2, gC_4_3, gC_4_4, pC_4_4, rC_4, kC_5, kC_6, kC_7, kC_8, kC_9, kC_10, kC_11, kC_12, kC_13, kC_14, kC_15, kC_16, kC_17, kC_18, kC_19, fd_S_howMany_0, fd_S_howMany_4, fd_S_howMany_25, fd_S_howMany_31, bk_S_howMany_0, bk_S_howMany_4, bk_S_howMany_25, bk_S_howMany_31]
    exact loop n 0 (by omega)
  · exact h.elim
set_option maxRecDepth 20000 in
theorem ct_S_howMany (l : Launch) : ak_Ctr l cl_all lay_C y_S_howMany ws_S_howMany rm_S_howMany pt_S_howMany := by
  refine ak_met (cs := cs_S_howMany) (reg := rg_S_howMany) (bl := bl_S_howMany) (by decide +kernel) rfl (cl_ok _) rfl ok_S_howMany ?_ vc_S_howMany
  intro a n b ci h
  match a, h with
  | k + 0, h => cases h
def pt_S_relations : ak_P := fun vs s Q => match vs with
  | [.ref 2] => ∃ n : Nat, n ≤ 250 ∧ s.1 2 0 = nI n ∧ Q (some (.int (nI (cn (fun j => decide (¬ s.1 12 j = 0)) n)))) s
  | _ => False
def cs_S_relations : Nat → ak_P := fun _ _ _ _ => False
theorem vc_S_relations : ak_VC lay_C cs_S_relations bl_S_relations 3 pt_S_relations := by
  intro vs s Q h
  unfold pt_S_relations at h
  split at h
  · obtain ⟨n, hn, hs, h⟩ := h
    refine ⟨Nat.le_of_ble_eq_true rfl, fun J hJ => ?_⟩
    have loop : ∀ d i, i + d = n → J 4 [some (.ref 2), some (.int (nI (cn (fun j => decide (¬ s.1 12 j = 0)) i))), some (.int (nI (i + 1)))] [] s := by
      intro d
      induction d with
      | zero =>
        intro i hi
        refine hJ 3 _ _ _ _ ?_
        simp only [Nat.reduceAdd, Nat.reduceLeDiff, Nat.zero_le, true_or, or_true, run_s, e_nop, e_iconst, e_bipush, e_sipush, e_lconst, e_iload, e_iload_n, e_lload, e_lload_n, e_aload, e_aload_n, e_istore, e_istore_n, e_iinc, e_iadd, e_isub, e_imul, e_lcmp, e_dupI, e_dupR, e_dup2, e_getfield, e_putfield, e_iaload, e_baload, e_laload, e_iastore, e_bastore, e_lastore, e_if, e_icmp, e_goto, e_tsw, e_ireturn0, e_ireturn1, e_return, e_call0, e_call1, e_call2, e_call3, lI_e, lL_e, lR_e, ak_nth, ak_set, ak_ok1, ak_jp, ak_b1, ak_b2, ak_sw, ak_la, ak_pad, true_and, and_true, List.map_cons, List.map_nil, List.sum_cons, List.sum_nil, Value.category, Option.toList_some, Option.toList_none, List.cons_append, List.nil_append, gC_0_0, gC_0_1, gC_0_2, gC_0_3, rC_0, gC_1_0, pC_1_0, gC_1_1, gC_1_2, gC_1_3, rC_1, gC_2_0, pC_2_0, gC_2_1, gC_2_2, gC_2_3, gC_2_4, gC_2_5, gC_2_6, gC_2_7, gC_2_8, rC_2, gC_3_0, pC_3_0, gC_3_1, gC_3_2, rC_3, gC_4_0, gC_4_1, gC_4_2, gC_4_3, gC_4_4, pC_4_4, rC_4, kC_5, kC_6, kC_7, kC_8, kC_9, kC_10, kC_11, kC_12, kC_13, kC_14, kC_15, kC_16, kC_17, kC_18, kC_19, fd_S_relations_0, fd_S_relations_4, fd_S_relations_24, fd_S_relations_30, bk_S_relations_0, bk_S_relations_4, bk_S_relations_24, bk_S_relations_30, hs]
        rw [q_lt (by omega) (by omega)]
        refine ⟨fun _ => ?_, fun q => absurd (by omega) q⟩
        have e : i = n := by omega
        rw [e]
        exact h
      | succ d ih =>
        intro i hi
        refine hJ 3 _ _ _ _ ?_
        simp only [Nat.reduceAdd, Nat.reduceLeDiff, Nat.zero_le, true_or, or_true, run_s, e_nop, e_iconst, e_bipush, e_sipush, e_lconst, e_iload, e_iload_n, e_lload, e_lload_n, e_aload, e_aload_n, e_istore, e_istore_n, e_iinc, e_iadd, e_isub, e_imul, e_lcmp, e_dupI, e_dupR, e_dup2, e_getfield, e_putfield, e_iaload, e_baload, e_laload, e_iastore, e_bastore, e_lastore, e_if, e_icmp, e_goto, e_tsw, e_ireturn0, e_ireturn1, e_return, e_call0, e_call1, e_call2, e_call3, lI_e, lL_e, lR_e, ak_nth, ak_set, ak_ok1, ak_jp, ak_b1, ak_b2, ak_sw, ak_la, ak_pad, true_and, and_true, List.map_cons, List.map_nil, List.sum_cons, List.sum_nil, Value.category, Option.toList_some, Option.toList_none, List.cons_append, List.nil_append, gC_0_0, gC_0_1, gC_0_2, gC_0_3, rC_0, gC_1_0, pC_1_0, gC_1_1, gC_1_2, gC_1_3, rC_1, gC_2_0, pC_2_0, gC_2_1, gC_2_2, gC_2_3, gC_2_4, gC_2_5, gC_2_6, gC_2_7, gC_2_8, rC_2, gC_3_0, pC_3_0, gC_3_1, gC_3_2, rC_3, gC_4_0, gC_4_1, gC_4_2, gC_4_3, gC_4_4, pC_4_4, rC_4, kC_5, kC_6, kC_7, kC_8, kC_9, kC_10, kC_11, kC_12, kC_13, kC_14, kC_15, kC_16, kC_17, kC_18, kC_19, fd_S_relations_0, fd_S_relations_4, fd_S_relations_24, fd_S_relations_30, bk_S_relations_0, bk_S_relations_4, bk_S_relations_24, bk_S_relations_30, hs, nI_1]
        rw [q_lt (by omega) (by omega), q_cl (by omega)]
        refine ⟨fun q => absurd q (by omega), fun _ => ⟨q_in (by omega) (by omega), fun q => ?_, fun q => ?_⟩⟩
        · have := ih (i + 1) (by omega)
          simpa [cn, q] using this
        · have := ih (i + 1) (by omega)
          simpa [cn, q] using this
    refine hJ 3 _ _ _ _ ?_
    simp only [Nat.reduceAdd, Nat.reduceLeDiff, Nat.zero_le, true_or, or_true, run_s, e_nop, e_iconst, e_bipush, e_sipush, e_lconst, e_iload, e_iload_n, e_lload, e_lload_n, e_aload, e_aload_n, e_istore, e_istore_n, e_iinc, e_iadd, e_isub, e_imul, e_lcmp, e_dupI, e_dupR, e_dup2, e_getfield, e_putfield, e_iaload, e_baload, e_laload, e_iastore, e_bastore, e_lastore, e_if, e_icmp, e_goto, e_tsw, e_ireturn0, e_ireturn1, e_return, e_call0, e_call1, e_call2, e_call3, lI_e, lL_e, lR_e, ak_nth, ak_set, ak_ok1, ak_jp, ak_b1, ak_b2, ak_sw, ak_la, ak_pad, true_and, and_true, List.map_cons, List.map_nil, List.sum_cons, List.sum_nil, Value.category, Option.toList_some, Option.toList_none, List.cons_append, List.nil_append, gC_0_0, gC_0_1, gC_0_2, gC_0_3, rC_0, gC_1_0, pC_1_0, gC_1_1, gC_1_2, gC_1_3, rC_1, gC_2_0, pC_2_0, gC_2_1, gC_2_2, gC_2_3, gC_2_4, gC_2_5, gC_2_6, gC_2_7, gC_2_8, rC_2, gC_3_0, pC_3_0, gC_3_1, gC_3_2, rC_3, gC_4_0, gC_4_1, gC_4_2, gC_4_3, gC_4_4, pC_4_4, rC_4, kC_5, kC_6, kC_7, kC_8, kC_9, kC_10, kC_11, kC_12, kC_13, kC_14, kC_15, kC_16, kC_17, kC_18, kC_19, fd_S_relations_0, fd_S_relations_4, fd_S_relations_24, fd_S_relations_30, bk_S_relations_0, bk_S_relations_4, bk_S_relations_24, bk_S_relations_30]
    exact loop n 0 (by omega)
  · exact h.elim
set_option maxRecDepth 20000 in
theorem ct_S_relations (l : Launch) : ak_Ctr l cl_all lay_C y_S_relations ws_S_relations rm_S_relations pt_S_relations := by
  refine ak_met (cs := cs_S_relations) (reg := rg_S_relations) (bl := bl_S_relations) (by decide +kernel) rfl (cl_ok _) rfl ok_S_relations ?_ vc_S_relations
  intro a n b ci h
  match a, h with
  | k + 0, h => cases h
def pt_S_wereOf : ak_P := fun vs s Q => match vs with
  | [.ref 2, .int k] => ∃ n : Nat, n ≤ 250 ∧ s.1 2 0 = nI n ∧ ((∃ i, 1 ≤ i ∧ i ≤ n ∧ s.1 8 i = k) → Q (some (.int 1)) s) ∧ ((∀ i, 1 ≤ i → i ≤ n → ¬ s.1 8 i = k) → Q (some (.int 0)) s)
  | _ => False
def cs_S_wereOf : Nat → ak_P := fun _ _ _ _ => False
theorem vc_S_wereOf : ak_VC lay_C cs_S_wereOf bl_S_wereOf 3 pt_S_wereOf := by
  intro vs s Q h
  unfold pt_S_wereOf at h
  split at h
  · rename_i k
    obtain ⟨n, hn, hs, hy, hno⟩ := h
    refine ⟨Nat.le_of_ble_eq_true rfl, fun J hJ => ?_⟩
    have loop : ∀ d i, i + d = n → (∀ j, 1 ≤ j → j ≤ i → ¬ s.1 8 j = k) → J 2 [some (.ref 2), some (.int k), some (.int (nI (i + 1)))] [] s := by
      intro d
      induction d with
      | zero =>
        intro i hi hq
        refine hJ 3 _ _ _ _ ?_
        simp only [Nat.reduceAdd, Nat.reduceLeDiff, Nat.zero_le, true_or, or_true, run_s, e_nop, e_iconst, e_bipush, e_sipush, e_lconst, e_iload, e_iload_n, e_lload, e_lload_n, e_aload, e_aload_n, e_istore, e_istore_n, e_iinc, e_iadd, e_isub, e_imul, e_lcmp, e_dupI, e_dupR, e_dup2, e_getfield, e_putfield, e_iaload, e_baload, e_laload, e_iastore, e_bastore, e_lastore, e_if, e_icmp, e_goto, e_tsw, e_ireturn0, e_ireturn1, e_return, e_call0, e_call1, e_call2, e_call3, lI_e, lL_e, lR_e, ak_nth, ak_set, ak_ok1, ak_jp, ak_b1, ak_b2, ak_sw, ak_la, ak_pad, true_and, and_true, List.map_cons, List.map_nil, List.sum_cons, List.sum_nil, Value.category, Option.toList_some, Option.toList_none, List.cons_append, List.nil_append, gC_0_0, gC_0_1, gC_0_2, gC_0_3, rC_0, gC_1_0, pC_1_0, gC_1_1, gC_1_2, gC_1_3, rC_1, gC_2_0, pC_2_0, gC_2_1, gC_2_2, gC_2_3, gC_2_4, gC_2_5, gC_2_6, gC_2_7, gC_2_8, rC_2, gC_3_0, pC_3_0, gC_3_1, gC_3_2, rC_3, gC_4_0, gC_4_1, gC_4_2, gC_4_3, gC_4_4, pC_4_4, rC_4, kC_5, kC_6, kC_7, kC_8, kC_9, kC_10, kC_11, kC_12, kC_13, kC_14, kC_15, kC_16, kC_17, kC_18, kC_19, fd_S_wereOf_0, fd_S_wereOf_2, fd_S_wereOf_22, fd_S_wereOf_28, bk_S_wereOf_0, bk_S_wereOf_2, bk_S_wereOf_22, bk_S_wereOf_28, hs]
        rw [q_lt (by omega) (by omega)]
        refine ⟨fun _ => hno ?_, fun q => absurd (by omega) q⟩
        intro j h1 h2
        exact hq j h1 (by omega)
      | succ d ih =>
        intro i hi hq
        refine hJ 3 _ _ _ _ ?_
        simp only [Nat.reduceAdd, Nat.reduceLeDiff, Nat.zero_le, true_or, or_true, run_s, e_nop, e_iconst, e_bipush, e_sipush, e_lconst, e_iload, e_iload_n, e_lload, e_lload_n, e_aload, e_aload_n, e_istore, e_istore_n, e_iinc, e_iadd, e_isub, e_imul, e_lcmp, e_dupI, e_dupR, e_dup2, e_getfield, e_putfield, e_iaload, e_baload, e_laload, e_iastore, e_bastore, e_lastore, e_if, e_icmp, e_goto, e_tsw, e_ireturn0, e_ireturn1, e_return, e_call0, e_call1, e_call2, e_call3, lI_e, lL_e, lR_e, ak_nth, ak_set, ak_ok1, ak_jp, ak_b1, ak_b2, ak_sw, ak_la, ak_pad, true_and, and_true, List.map_cons, List.map_nil, List.sum_cons, List.sum_nil, Value.category, Option.toList_some, Option.toList_none, List.cons_append, List.nil_append, gC_0_0, gC_0_1, gC_0_2, gC_0_3, rC_0, gC_1_0, pC_1_0, gC_1_1, gC_1_2, gC_1_3, rC_1, gC_2_0, pC_2_0, gC_2_1, gC_2_2, gC_2_3, gC_2_4, gC_2_5, gC_2_6, gC_2_7, gC_2_8, rC_2, gC_3_0, pC_3_0, gC_3_1, gC_3_2, rC_3, gC_4_0, gC_4_1, gC_4_2, gC_4_3, gC_4_4, pC_4_4, rC_4, kC_5, kC_6, kC_7, kC_8, kC_9, kC_10, kC_11, kC_12, kC_13, kC_14, kC_15, kC_16, kC_17, kC_18, kC_19, fd_S_wereOf_0, fd_S_wereOf_2, fd_S_wereOf_22, fd_S_wereOf_28, bk_S_wereOf_0, bk_S_wereOf_2, bk_S_wereOf_22, bk_S_wereOf_28, hs, nI_1]
        rw [q_lt (by omega) (by omega), q_cl (by omega)]
        refine ⟨fun q => absurd q (by omega), fun _ => ⟨q_in (by omega) (by omega), fun q => ?_, fun q => hy ⟨i + 1, by omega, by omega, q⟩⟩⟩
        refine ih (i + 1) (by omega) (fun j h1 h2 => ?_)
        by_cases e : j = i + 1
        · rw [e]; exact q
        · exact hq j h1 (by omega)
    refine hJ 3 _ _ _ _ ?_
    simp only [Nat.reduceAdd, Nat.reduceLeDiff, Nat.zero_le, true_or, or_true, run_s, e_nop, e_iconst, e_bipush, e_sipush, e_lconst, e_iload, e_iload_n, e_lload, e_lload_n, e_aload, e_aload_n, e_istore, e_istore_n, e_iinc, e_iadd, e_isub, e_imul, e_lcmp, e_dupI, e_dupR, e_dup2, e_getfield, e_putfield, e_iaload, e_baload, e_laload, e_iastore, e_bastore, e_lastore, e_if, e_icmp, e_goto, e_tsw, e_ireturn0, e_ireturn1, e_return, e_call0, e_call1, e_call2, e_call3, lI_e, lL_e, lR_e, ak_nth, ak_set, ak_ok1, ak_jp, ak_b1, ak_b2, ak_sw, ak_la, ak_pad, true_and, and_true, List.map_cons, List.map_nil, List.sum_cons, List.sum_nil, Value.category, Option.toList_some, Option.toList_none, List.cons_append, List.nil_append, gC_0_0, gC_0_1, gC_0_2, gC_0_3, rC_0, gC_1_0, pC_1_0, gC_1_1, gC_1_2, gC_1_3, rC_1, gC_2_0, pC_2_0, gC_2_1, gC_2_2, gC_2_3, gC_2_4, gC_2_5, gC_2_6, gC_2_7, gC_2_8, rC_2, gC_3_0, pC_3_0, gC_3_1, gC_3_2, rC_3, gC_4_0, gC_4_1, gC_4_2, gC_4_3, gC_4_4, pC_4_4, rC_4, kC_5, kC_6, kC_7, kC_8, kC_9, kC_10, kC_11, kC_12, kC_13, kC_14, kC_15, kC_16, kC_17, kC_18, kC_19, fd_S_wereOf_0, fd_S_wereOf_2, fd_S_wereOf_22, fd_S_wereOf_28, bk_S_wereOf_0, bk_S_wereOf_2, bk_S_wereOf_22, bk_S_wereOf_28]
    exact loop n 0 (by omega) (fun j h1 h2 => absurd h2 (by omega))
  · exact h.elim
set_option maxRecDepth 20000 in
theorem ct_S_wereOf (l : Launch) : ak_Ctr l cl_all lay_C y_S_wereOf ws_S_wereOf rm_S_wereOf pt_S_wereOf := by
  refine ak_met (cs := cs_S_wereOf) (reg := rg_S_wereOf) (bl := bl_S_wereOf) (by decide +kernel) rfl (cl_ok _) rfl ok_S_wereOf ?_ vc_S_wereOf
  intro a n b ci h
  match a, h with
  | k + 0, h => cases h
def pt_S_hasKey : ak_P := fun vs s Q => match vs with
  | [.ref 2, .int k, .int u, .long y] => ∃ n : Nat, n ≤ 250 ∧ s.1 2 0 = nI n ∧ ((∃ i, 1 ≤ i ∧ i ≤ n ∧ s.2 10 i = y ∧ s.1 11 i = 1 ∧ s.1 8 i = k ∧ s.1 9 i = u) → Q (some (.int 1)) s) ∧ ((∀ i, 1 ≤ i → i ≤ n → ¬ (s.2 10 i = y ∧ s.1 11 i = 1 ∧ s.1 8 i = k ∧ s.1 9 i = u)) → Q (some (.int 0)) s)
  | _ => False
def cs_S_hasKey : Nat → ak_P := fun a => match a with
  | _ => pt_S_isOneUnder
theorem vc_S_hasKey : ak_VC lay_C cs_S_hasKey bl_S_hasKey 6 pt_S_hasKey := by
  intro vs s Q h
  unfold pt_S_hasKey at h
  split at h
  · rename_i k u y
    obtain ⟨n, hn, hs, hy, hno⟩ := h
    refine ⟨Nat.le_of_ble_eq_true rfl, fun J hJ => ?_⟩
    have loop : ∀ d i, i + d = n → (∀ j, 1 ≤ j → j ≤ i → ¬ (s.2 10 j = y ∧ s.1 11 j = 1 ∧ s.1 8 j = k ∧ s.1 9 j = u)) → J 3 [some (.ref 2), some (.int k), some (.int u), some (.long y), none, some (.int (nI (i + 1)))] [] s := by
      intro d
      induction d with
      | zero =>
        intro i hi hq
        refine hJ 3 _ _ _ _ ?_
        simp only [Nat.reduceAdd, Nat.reduceLeDiff, Nat.zero_le, true_or, or_true, run_s, e_nop, e_iconst, e_bipush, e_sipush, e_lconst, e_iload, e_iload_n, e_lload, e_lload_n, e_aload, e_aload_n, e_istore, e_istore_n, e_iinc, e_iadd, e_isub, e_imul, e_lcmp, e_dupI, e_dupR, e_dup2, e_getfield, e_putfield, e_iaload, e_baload, e_laload, e_iastore, e_bastore, e_lastore, e_if, e_icmp, e_goto, e_tsw, e_ireturn0, e_ireturn1, e_return, e_call0, e_call1, e_call2, e_call3, lI_e, lL_e, lR_e, ak_nth, ak_set, ak_ok1, ak_jp, ak_b1, ak_b2, ak_sw, ak_la, ak_pad, true_and, and_true, List.map_cons, List.map_nil, List.sum_cons, List.sum_nil, Value.category, Option.toList_some, Option.toList_none, List.cons_append, List.nil_append, gC_0_0, gC_0_1, gC_0_2, gC_0_3, rC_0, gC_1_0, pC_1_0, gC_1_1, gC_1_2, gC_1_3, rC_1, gC_2_0, pC_2_0, gC_2_1, gC_2_2, gC_2_3, gC_2_4, gC_2_5, gC_2_6, gC_2_7, gC_2_8, rC_2, gC_3_0, pC_3_0, gC_3_1, gC_3_2, rC_3, gC_4_0, gC_4_1, gC_4_2, gC_4_3, gC_4_4, pC_4_4, rC_4, kC_5, kC_6, kC_7, kC_8, kC_9, kC_10, kC_11, kC_12, kC_13, kC_14, kC_15, kC_16, kC_17, kC_18, kC_19, fd_S_hasKey_0, fd_S_hasKey_3, fd_S_hasKey_37, fd_S_hasKey_43, bk_S_hasKey_0, bk_S_hasKey_3, bk_S_hasKey_37, bk_S_hasKey_43, cs_S_hasKey, hs, pt_S_isOneUnder]
        rw [q_lt (by omega) (by omega)]
        refine ⟨fun _ => hno ?_, fun q => absurd (by omega) q⟩
        intro j h1 h2
        exact hq j h1 (by omega)
      | succ d ih =>
        intro i hi hq
        refine hJ 3 _ _ _ _ ?_
        simp only [Nat.reduceAdd, Nat.reduceLeDiff, Nat.zero_le, true_or, or_true, run_s, e_nop, e_iconst, e_bipush, e_sipush, e_lconst, e_iload, e_iload_n, e_lload, e_lload_n, e_aload, e_aload_n, e_istore, e_istore_n, e_iinc, e_iadd, e_isub, e_imul, e_lcmp, e_dupI, e_dupR, e_dup2, e_getfield, e_putfield, e_iaload, e_baload, e_laload, e_iastore, e_bastore, e_lastore, e_if, e_icmp, e_goto, e_tsw, e_ireturn0, e_ireturn1, e_return, e_call0, e_call1, e_call2, e_call3, lI_e, lL_e, lR_e, ak_nth, ak_set, ak_ok1, ak_jp, ak_b1, ak_b2, ak_sw, ak_la, ak_pad, true_and, and_true, List.map_cons, List.map_nil, List.sum_cons, List.sum_nil, Value.category, Option.toList_some, Option.toList_none, List.cons_append, List.nil_append, gC_0_0, gC_0_1, gC_0_2, gC_0_3, rC_0, gC_1_0, pC_1_0, gC_1_1, gC_1_2, gC_1_3, rC_1, gC_2_0, pC_2_0, gC_2_1, gC_2_2, gC_2_3, gC_2_4, gC_2_5, gC_2_6, gC_2_7, gC_2_8, rC_2, gC_3_0, pC_3_0, gC_3_1, gC_3_2, rC_3, gC_4_0, gC_4_1, gC_4_2, gC_4_3, gC_4_4, pC_4_4, rC_4, kC_5, kC_6, kC_7, kC_8, kC_9, kC_10, kC_11, kC_12, kC_13, kC_14, kC_15, kC_16, kC_17, kC_18, kC_19, fd_S_hasKey_0, fd_S_hasKey_3, fd_S_hasKey_37, fd_S_hasKey_43, bk_S_hasKey_0, bk_S_hasKey_3, bk_S_hasKey_37, bk_S_hasKey_43, cs_S_hasKey, hs, nI_1, pt_S_isOneUnder]
        rw [q_lt (by omega) (by omega), q_cl (by omega)]
        refine ⟨fun q => absurd q (by omega), fun _ => ⟨q_in (by omega) (by omega), fun q => ?_, fun q => ⟨q_in (by omega) (by omega), fun q2 => ?_, fun q2 => ?_⟩⟩⟩
        · rw [lg_cmp_eq] at q
          refine ih (i + 1) (by omega) (fun j h1 h2 => ?_)
          by_cases e : j = i + 1
          · rw [e]; exact fun z => q z.1
          · exact hq j h1 (by omega)
        · refine ih (i + 1) (by omega) (fun j h1 h2 => ?_)
          by_cases e : j = i + 1
          · rw [e]
            intro z
            rw [if_pos z.2] at q2
            exact absurd q2 (by decide)
          · exact hq j h1 (by omega)
        · rw [lg_cmp_eq] at q
          refine hy ⟨i + 1, by omega, by omega, q, ?_⟩
          by_cases e : s.1 11 (i + 1) = 1 ∧ s.1 8 (i + 1) = k ∧ s.1 9 (i + 1) = u
          · exact e
          · rw [if_neg e] at q2
            exact absurd rfl q2
    refine hJ 3 _ _ _ _ ?_
    simp only [Nat.reduceAdd, Nat.reduceLeDiff, Nat.zero_le, true_or, or_true, run_s, e_nop, e_iconst, e_bipush, e_sipush, e_lconst, e_iload, e_iload_n, e_lload, e_lload_n, e_aload, e_aload_n, e_istore, e_istore_n, e_iinc, e_iadd, e_isub, e_imul, e_lcmp, e_dupI, e_dupR, e_dup2, e_getfield, e_putfield, e_iaload, e_baload, e_laload, e_iastore, e_bastore, e_lastore, e_if, e_icmp, e_goto, e_tsw, e_ireturn0, e_ireturn1, e_return, e_call0, e_call1, e_call2, e_call3, lI_e, lL_e, lR_e, ak_nth, ak_set, ak_ok1, ak_jp, ak_b1, ak_b2, ak_sw, ak_la, ak_pad, true_and, and_true, List.map_cons, List.map_nil, List.sum_cons, List.sum_nil, Value.category, Option.toList_some, Option.toList_none, List.cons_append, List.nil_append, gC_0_0, gC_0_1, gC_0_2, gC_0_3, rC_0, gC_1_0, pC_1_0, gC_1_1, gC_1_2, gC_1_3, rC_1, gC_2_0, pC_2_0, gC_2_1, gC_2_2, gC_2_3, gC_2_4, gC_2_5, gC_2_6, gC_2_7, gC_2_8, rC_2, gC_3_0, pC_3_0, gC_3_1, gC_3_2, rC_3, gC_4_0, gC_4_1, gC_4_2, gC_4_3, gC_4_4, pC_4_4, rC_4, kC_5, kC_6, kC_7, kC_8, kC_9, kC_10, kC_11, kC_12, kC_13, kC_14, kC_15, kC_16, kC_17, kC_18, kC_19, fd_S_hasKey_0, fd_S_hasKey_3, fd_S_hasKey_37, fd_S_hasKey_43, bk_S_hasKey_0, bk_S_hasKey_3, bk_S_hasKey_37, bk_S_hasKey_43, cs_S_hasKey]
    exact loop n 0 (by omega) (fun j h1 h2 => absurd h2 (by omega))
  · exact h.elim
set_option maxRecDepth 20000 in
theorem ct_S_hasKey (l : Launch) : ak_Ctr l cl_all lay_C y_S_hasKey ws_S_hasKey rm_S_hasKey pt_S_hasKey := by
  refine ak_met (cs := cs_S_hasKey) (reg := rg_S_hasKey) (bl := bl_S_hasKey) (by decide +kernel) rfl (cl_ok _) rfl ok_S_hasKey ?_ vc_S_hasKey
  intro a n b ci h
  match a, h with
  | 0, h =>
    cases h
    exact ak_ccV (ct_S_isOneUnder l) rfl 196 197 198 22 199 (by decide +kernel) ⟨rfl, rfl⟩ (by decide +kernel) (by decide +kernel)
  | k + 1, h => cases h
