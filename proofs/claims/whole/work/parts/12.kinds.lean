/-! contracts of Kinds, Indexes and the leaves of Segments -/
def pt_K_has : ak_P := fun vs s Q => match vs with
  | [.ref 1, .int k] => Q (some (.int (if 1 ≤ k ∧ k ≤ s.1 1 0 then 1 else 0))) s
  | _ => False
def cs_K_has : Nat → ak_P := fun _ _ _ _ => False
theorem vc_K_has : ak_VC lay_C cs_K_has bl_K_has 2 pt_K_has := by
  intro vs s Q h
  unfold pt_K_has at h
  split at h
  · rename_i k
    refine ⟨Nat.le_refl 2, fun J hJ => hJ 3 _ _ _ _ ?_⟩
    simp only [run_s, e_nop, e_iconst, e_bipush, e_sipush, e_lconst, e_iload, e_iload_n, e_lload, e_lload_n, e_aload, e_aload_n, e_istore, e_istore_n, e_iinc, e_iadd, e_isub, e_imul, e_lcmp, e_dupI, e_dupR, e_dup2, e_getfield, e_putfield, e_iaload, e_baload, e_laload, e_iastore, e_bastore, e_lastore, e_if, e_icmp, e_goto, e_tsw, e_ireturn0, e_ireturn1, e_return, e_call0, e_call1, e_call2, e_call3, lI_e, lL_e, lR_e, ak_nth, ak_set, ak_ok1, ak_jp, ak_b1, ak_b2, ak_sw, ak_la, ak_pad, true_and, and_true, List.map_cons, List.map_nil, List.sum_cons, List.sum_nil, Value.category, Option.toList_some, Option.toList_none, List.cons_append, List.nil_append, gC_0_0, gC_0_1, gC_0_2, gC_0_3, rC_0, gC_1_0, pC_1_0, gC_1_1, gC_1_2, gC_1_3, rC_1, gC_2_0, pC_2_0, gC_2_1, gC_2_2, gC_2_3, gC_2_4, gC_2_5, gC_2_6, gC_2_7, gC_2_8, rC_2, gC_3_0, pC_3_0, gC_3_1, gC_3_2, rC_3, gC_4_0, gC_4_1, gC_4_2, gC_4_3, gC_4_4, pC_4_4, rC_4, kC_5, kC_6, kC_7, kC_8, kC_9, kC_10, kC_11, kC_12, kC_13, kC_14, kC_15, kC_16, kC_17, kC_18, kC_19, fd_K_has_0, fd_K_has_17, fd_K_has_18, bk_K_has_0, bk_K_has_17, bk_K_has_18]
    trace_state
    sorry
  · exact h.elim
set_option maxRecDepth 20000 in
theorem ct_K_has (l : Launch) : ak_Ctr l cl_all lay_C y_K_has ws_K_has rm_K_has pt_K_has := by
  refine ak_met (cs := cs_K_has) (reg := rg_K_has) (bl := bl_K_has) (by decide +kernel) rfl (cl_ok _) rfl ok_K_has ?_ vc_K_has
  intro a n b ci h
  match a, h with
  | k + 0, h => cases h
