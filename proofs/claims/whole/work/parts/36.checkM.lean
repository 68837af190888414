/-! the reference's check, broken, told -/
def a_brB (a : ab_T) (i p : Nat) : Bool := decide (a.2.1 5 i ≠ 0 ∧ ¬ a.2.2.2 (3 * i + p) = nI (a_tr a i p))
theorem a_wr_br (a : ab_T) (i : Nat) : a_wr a i = cn (fun p => a_brB a i (p - 1)) 3 := by
  unfold a_wr
  split
  · rename_i z
    rw [cn_0]
    intro p _ _
    simp [a_brB, z]
  · rename_i z
    refine cn_congr (fun p _ _ => ?_)
    simp [a_brB, z]
def pt_M_isBroken : ak_P := fun vs t Q => match vs with
  | [.ref 0, .int x, .int y] => ∃ (a : ab_T) (i p : Nat), AI a ∧ RM t a ∧ x = nI i ∧ y = nI p ∧ 1 ≤ i ∧ i ≤ a.1 1 ∧ p < 3 ∧ (a_brB a i p = true → Q (some (.int 1)) t) ∧ (a_brB a i p = false → Q (some (.int 0)) t)
  | _ => False
def cs_M_isBroken : Nat → ak_P := fun a => match a with
  | _ => pt_M_truth
theorem vc_M_isBroken : ak_VC lay_M cs_M_isBroken bl_M_isBroken 3 pt_M_isBroken := by
  intro vs t Q h
  unfold pt_M_isBroken at h
  split at h
  · rename_i x y
    obtain ⟨a, i, p, hA, hR, rfl, rfl, hi1, hi2, hp, hy, hno⟩ := h
    have hn := hA.1
    refine ⟨Nat.le_of_ble_eq_true rfl, fun J hJ => hJ 4 _ _ _ _ ?_⟩
    simp only [Nat.reduceAdd, Nat.reduceLeDiff, Nat.zero_le, true_or, or_true, run_s, e_nop, e_iconst, e_bipush, e_sipush, e_lconst, e_iload, e_iload_n, e_lload, e_lload_n, e_aload, e_aload_n, e_istore, e_istore_n, e_iinc, e_iadd, e_isub, e_imul, e_lcmp, e_dupI, e_dupR, e_dup2, e_getfield, e_putfield, e_iaload, e_baload, e_laload, e_iastore, e_bastore, e_lastore, e_if, e_icmp, e_goto, e_tsw, e_ireturn0, e_ireturn1, e_return, e_call0, e_call1, e_call2, e_call3, lI_e, lL_e, lR_e, ak_nth, ak_set, ak_ok1, ak_jp, ak_b1, ak_b2, ak_sw, ak_la, ak_pad, true_and, and_true, List.map_cons, List.map_nil, List.sum_cons, List.sum_nil, Value.category, Option.toList_some, Option.toList_none, List.cons_append, List.nil_append, gM_0_0, pM_0_0, gM_0_1, pM_0_1, gM_0_2, pM_0_2, gM_0_3, pM_0_3, gM_0_4, gM_0_5, gM_0_6, gM_0_7, gM_0_8, gM_0_9, gM_0_10, gM_0_11, gM_0_12, gM_0_13, gM_0_14, gM_0_15, gM_0_16, rM_0, kM_1, kM_2, kM_3, kM_4, kM_5, kM_6, kM_7, kM_8, kM_9, kM_10, kM_11, kM_12, kM_13, fd_M_isBroken_0, fd_M_isBroken_33, fd_M_isBroken_34, bk_M_isBroken_0, bk_M_isBroken_33, bk_M_isBroken_34, cs_M_isBroken, pt_M_truth]
    simp only [a_brB, decide_eq_true_eq, decide_eq_false_iff_not] at hy hno
    rw [n_3, pk_mul, nI_add, q_cl (a := 3 * i + p) (by omega), q_cl (by omega), ← n_3, (stM hA hR hi1 hi2).2.2]
    refine ⟨q_in (by omega) (by omega), fun q => hno (fun z => z.1 q), fun q => ⟨q_in (by omega) (by omega), a.1 1, i, p, by omega, hR.1.2.1, by omega, rfl, by omega, rfl, ?_⟩⟩
    rw [m_tr_a hA hR hi1 hi2, hR.2.2.2.2.1 i p hi1 hi2 q hp]
    exact ⟨fun z => hno (fun w => w.2 z), fun z => hy ⟨q, z⟩⟩
  · exact h.elim
set_option maxRecDepth 20000 in
theorem ct_M_isBroken (l : Launch) : ak_Ctr l cl_all lay_M y_M_isBroken ws_M_isBroken rm_M_isBroken pt_M_isBroken := by
  refine ak_met (cs := cs_M_isBroken) (reg := rg_M_isBroken) (bl := bl_M_isBroken) (by decide +kernel) rfl (cl_ok _) rfl ok_M_isBroken ?_ vc_M_isBroken
  intro a n b ci h
  match a, h with
  | 0, h =>
    cases h
    exact ak_ccV (ct_M_truth l) rfl 414 415 12 25 416 (by decide +kernel) ⟨rfl, rfl⟩ (by decide +kernel) (by decide +kernel)
  | k + 1, h => cases h
def pt_M_check : ak_P := fun vs t Q => match vs with
  | [.ref 0] => ∃ a, AI a ∧ RM t a ∧ ∀ t', RM t' a → Q (some (.int (f_check a))) t'
  | _ => False
def cs_M_check : Nat → ak_P := fun a => match a with
  | _ => pt_M_isBroken
theorem vc_M_check : ak_VC lay_M cs_M_check bl_M_check 4 pt_M_check := by
  intro vs t Q h
  unfold pt_M_check at h
  split at h
  · obtain ⟨a, hA, hR, h⟩ := h
    have hn := hA.1
    have hR0 := RM_c hR
    refine ⟨Nat.le_of_ble_eq_true rfl, fun J hJ => ?_⟩
    obtain ⟨t0, ht0⟩ : ∃ t0, t0 = ak_p1 t 0 0 0 := ⟨_, rfl⟩
    rw [← ht0] at hR0
    have h := h t0 hR0
    have outer : ∀ d i (o : Option Value), i + d = a.1 1 → J 9 [some (.ref 0), some (.int (nI (sm (a_wr a) i))), some (.int (nI (i + 1))), o] [] t0 := by
      intro d
      induction d with
      | zero =>
        intro i o hi
        have e : i = a.1 1 := by omega
        subst e
        refine hJ 3 _ _ _ _ ?_
        simp only [Nat.reduceAdd, Nat.reduceLeDiff, Nat.zero_le, true_or, or_true, run_s, e_nop, e_iconst, e_bipush, e_sipush, e_lconst, e_iload, e_iload_n, e_lload, e_lload_n, e_aload, e_aload_n, e_istore, e_istore_n, e_iinc, e_iadd, e_isub, e_imul, e_lcmp, e_dupI, e_dupR, e_dup2, e_getfield, e_putfield, e_iaload, e_baload, e_laload, e_iastore, e_bastore, e_lastore, e_if, e_icmp, e_goto, e_tsw, e_ireturn0, e_ireturn1, e_return, e_call0, e_call1, e_call2, e_call3, lI_e, lL_e, lR_e, ak_nth, ak_set, ak_ok1, ak_jp, ak_b1, ak_b2, ak_sw, ak_la, ak_pad, true_and, and_true, List.map_cons, List.map_nil, List.sum_cons, List.sum_nil, Value.category, Option.toList_some, Option.toList_none, List.cons_append, List.nil_append, gM_0_0, pM_0_0, gM_0_1, pM_0_1, gM_0_2, pM_0_2, gM_0_3, pM_0_3, gM_0_4, gM_0_5, gM_0_6, gM_0_7, gM_0_8, gM_0_9, gM_0_10, gM_0_11, gM_0_12, gM_0_13, gM_0_14, gM_0_15, gM_0_16, rM_0, kM_1, kM_2, kM_3, kM_4, kM_5, kM_6, kM_7, kM_8, kM_9, kM_10, kM_11, kM_12, kM_13, fd_M_check_0, fd_M_check_9, fd_M_check_19, fd_M_check_38, fd_M_check_39, fd_M_check_47, fd_M_check_53, bk_M_check_0, bk_M_check_9, bk_M_check_19, bk_M_check_38, bk_M_check_39, bk_M_check_47, bk_M_check_53, cs_M_check]
        rw [hR0.1.2.1, q_lt (by omega) (by omega)]
        exact ⟨fun _ => h, fun q => absurd (by omega) q⟩
      | succ d ih =>
        intro i o hi
        have inner : ∀ d2 p, p + d2 = 3 → J 19 [some (.ref 0), some (.int (nI (sm (a_wr a) i + cn (fun p => a_brB a (i + 1) (p - 1)) p))), some (.int (nI (i + 1))), some (.int (nI p))] [] t0 := by
          intro d2
          induction d2 with
          | zero =>
            intro p hp
            have e : p = 3 := by omega
            subst e
            refine hJ 3 _ _ _ _ ?_
            simp only [Nat.reduceAdd, Nat.reduceLeDiff, Nat.zero_le, true_or, or_true, run_s, e_nop, e_iconst, e_bipush, e_sipush, e_lconst, e_iload, e_iload_n, e_lload, e_lload_n, e_aload, e_aload_n, e_istore, e_istore_n, e_iinc, e_iadd, e_isub, e_imul, e_lcmp, e_dupI, e_dupR, e_dup2, e_getfield, e_putfield, e_iaload, e_baload, e_laload, e_iastore, e_bastore, e_lastore, e_if, e_icmp, e_goto, e_tsw, e_ireturn0, e_ireturn1, e_return, e_call0, e_call1, e_call2, e_call3, lI_e, lL_e, lR_e, ak_nth, ak_set, ak_ok1, ak_jp, ak_b1, ak_b2, ak_sw, ak_la, ak_pad, true_and, and_true, List.map_cons, List.map_nil, List.sum_cons, List.sum_nil, Value.category, Option.toList_some, Option.toList_none, List.cons_append, List.nil_append, gM_0_0, pM_0_0, gM_0_1, pM_0_1, gM_0_2, pM_0_2, gM_0_3, pM_0_3, gM_0_4, gM_0_5, gM_0_6, gM_0_7, gM_0_8, gM_0_9, gM_0_10, gM_0_11, gM_0_12, gM_0_13, gM_0_14, gM_0_15, gM_0_16, rM_0, kM_1, kM_2, kM_3, kM_4, kM_5, kM_6, kM_7, kM_8, kM_9, kM_10, kM_11, kM_12, kM_13, fd_M_check_0, fd_M_check_9, fd_M_check_19, fd_M_check_38, fd_M_check_39, fd_M_check_47, fd_M_check_53, bk_M_check_0, bk_M_check_9, bk_M_check_19, bk_M_check_38, bk_M_check_39, bk_M_check_47, bk_M_check_53, cs_M_check, nI_1]
            refine ⟨fun _ => ?_, fun q => absurd (by decide) q⟩
            have := ih (i + 1) (some (.int (nI 3))) (by omega)
            rw [sm, a_wr_br] at this
            exact this
          | succ d2 ih2 =>
            intro p hp
            have hh := ih2 (p + 1) (by omega)
            refine hJ 4 _ _ _ _ ?_
            simp only [Nat.reduceAdd, Nat.reduceLeDiff, Nat.zero_le, true_or, or_true, run_s, e_nop, e_iconst, e_bipush, e_sipush, e_lconst, e_iload, e_iload_n, e_lload, e_lload_n, e_aload, e_aload_n, e_istore, e_istore_n, e_iinc, e_iadd, e_isub, e_imul, e_lcmp, e_dupI, e_dupR, e_dup2, e_getfield, e_putfield, e_iaload, e_baload, e_laload, e_iastore, e_bastore, e_lastore, e_if, e_icmp, e_goto, e_tsw, e_ireturn0, e_ireturn1, e_return, e_call0, e_call1, e_call2, e_call3, lI_e, lL_e, lR_e, ak_nth, ak_set, ak_ok1, ak_jp, ak_b1, ak_b2, ak_sw, ak_la, ak_pad, true_and, and_true, List.map_cons, List.map_nil, List.sum_cons, List.sum_nil, Value.category, Option.toList_some, Option.toList_none, List.cons_append, List.nil_append, gM_0_0, pM_0_0, gM_0_1, pM_0_1, gM_0_2, pM_0_2, gM_0_3, pM_0_3, gM_0_4, gM_0_5, gM_0_6, gM_0_7, gM_0_8, gM_0_9, gM_0_10, gM_0_11, gM_0_12, gM_0_13, gM_0_14, gM_0_15, gM_0_16, rM_0, kM_1, kM_2, kM_3, kM_4, kM_5, kM_6, kM_7, kM_8, kM_9, kM_10, kM_11, kM_12, kM_13, fd_M_check_0, fd_M_check_9, fd_M_check_19, fd_M_check_38, fd_M_check_39, fd_M_check_47, fd_M_check_53, bk_M_check_0, bk_M_check_9, bk_M_check_19, bk_M_check_38, bk_M_check_39, bk_M_check_47, bk_M_check_53, cs_M_check, pt_M_isBroken, nI_1]
            simp only [bt0, Classical.not_not, i10, false_implies, not_false_eq_true, true_implies, not_true_eq_false, true_and, and_true, false_and, and_false, imp_self]
            rw [n_3, q_le (by omega) (by omega)]
            have e0 : ∀ z : Nat, nI z + 0 = nI z := fun z => by rw [n_0, nI_add]; rfl
            rw [e0]
            refine ⟨fun q => absurd q (by omega), fun _ => ⟨a, i + 1, p, hA, hR0, rfl, rfl, by omega, by omega, by omega, fun q => ?_, fun q => ?_⟩⟩
            · rw [cn] at hh
              rw [show p + 1 - 1 = p by omega, if_pos q] at hh
              exact hh
            · rw [cn] at hh
              rw [show p + 1 - 1 = p by omega, q, if_neg (by decide)] at hh
              exact hh
        refine hJ 3 _ _ _ _ ?_
        simp only [Nat.reduceAdd, Nat.reduceLeDiff, Nat.zero_le, true_or, or_true, run_s, e_nop, e_iconst, e_bipush, e_sipush, e_lconst, e_iload, e_iload_n, e_lload, e_lload_n, e_aload, e_aload_n, e_istore, e_istore_n, e_iinc, e_iadd, e_isub, e_imul, e_lcmp, e_dupI, e_dupR, e_dup2, e_getfield, e_putfield, e_iaload, e_baload, e_laload, e_iastore, e_bastore, e_lastore, e_if, e_icmp, e_goto, e_tsw, e_ireturn0, e_ireturn1, e_return, e_call0, e_call1, e_call2, e_call3, lI_e, lL_e, lR_e, ak_nth, ak_set, ak_ok1, ak_jp, ak_b1, ak_b2, ak_sw, ak_la, ak_pad, true_and, and_true, List.map_cons, List.map_nil, List.sum_cons, List.sum_nil, Value.category, Option.toList_some, Option.toList_none, List.cons_append, List.nil_append, gM_0_0, pM_0_0, gM_0_1, pM_0_1, gM_0_2, pM_0_2, gM_0_3, pM_0_3, gM_0_4, gM_0_5, gM_0_6, gM_0_7, gM_0_8, gM_0_9, gM_0_10, gM_0_11, gM_0_12, gM_0_13, gM_0_14, gM_0_15, gM_0_16, rM_0, kM_1, kM_2, kM_3, kM_4, kM_5, kM_6, kM_7, kM_8, kM_9, kM_10, kM_11, kM_12, kM_13, fd_M_check_0, fd_M_check_9, fd_M_check_19, fd_M_check_38, fd_M_check_39, fd_M_check_47, fd_M_check_53, bk_M_check_0, bk_M_check_9, bk_M_check_19, bk_M_check_38, bk_M_check_39, bk_M_check_47, bk_M_check_53, cs_M_check]
        rw [hR0.1.2.1, q_lt (by omega) (by omega)]
        refine ⟨fun q => absurd q (by omega), fun _ => ?_⟩
        exact inner 3 0 (by omega)
    refine hJ 3 _ _ _ _ ?_
    simp only [Nat.reduceAdd, Nat.reduceLeDiff, Nat.zero_le, true_or, or_true, run_s, e_nop, e_iconst, e_bipush, e_sipush, e_lconst, e_iload, e_iload_n, e_lload, e_lload_n, e_aload, e_aload_n, e_istore, e_istore_n, e_iinc, e_iadd, e_isub, e_imul, e_lcmp, e_dupI, e_dupR, e_dup2, e_getfield, e_putfield, e_iaload, e_baload, e_laload, e_iastore, e_bastore, e_lastore, e_if, e_icmp, e_goto, e_tsw, e_ireturn0, e_ireturn1, e_return, e_call0, e_call1, e_call2, e_call3, lI_e, lL_e, lR_e, ak_nth, ak_set, ak_ok1, ak_jp, ak_b1, ak_b2, ak_sw, ak_la, ak_pad, true_and, and_true, List.map_cons, List.map_nil, List.sum_cons, List.sum_nil, Value.category, Option.toList_some, Option.toList_none, List.cons_append, List.nil_append, gM_0_0, pM_0_0, gM_0_1, pM_0_1, gM_0_2, pM_0_2, gM_0_3, pM_0_3, gM_0_4, gM_0_5, gM_0_6, gM_0_7, gM_0_8, gM_0_9, gM_0_10, gM_0_11, gM_0_12, gM_0_13, gM_0_14, gM_0_15, gM_0_16, rM_0, kM_1, kM_2, kM_3, kM_4, kM_5, kM_6, kM_7, kM_8, kM_9, kM_10, kM_11, kM_12, kM_13, fd_M_check_0, fd_M_check_9, fd_M_check_19, fd_M_check_38, fd_M_check_39, fd_M_check_47, fd_M_check_53, bk_M_check_0, bk_M_check_9, bk_M_check_19, bk_M_check_38, bk_M_check_39, bk_M_check_47, bk_M_check_53, cs_M_check]
    rw [← ht0]
    exact outer (a.1 1) 0 none (by omega)
  · exact h.elim
set_option maxRecDepth 20000 in
theorem ct_M_check (l : Launch) : ak_Ctr l cl_all lay_M y_M_check ws_M_check rm_M_check pt_M_check := by
  refine ak_met (cs := cs_M_check) (reg := rg_M_check) (bl := bl_M_check) (by decide +kernel) rfl (cl_ok _) rfl ok_M_check ?_ vc_M_check
  intro a n b ci h
  match a, h with
  | 0, h =>
    cases h
    exact ak_ccV (ct_M_isBroken l) rfl 468 469 18 25 470 (by decide +kernel) ⟨rfl, rfl⟩ (by decide +kernel) (by decide +kernel)
  | k + 1, h => cases h
def pt_M_broken : ak_P := fun vs t Q => match vs with
  | [.ref 0, .int x] => ∃ a, AI a ∧ RM t a ∧ ∀ t', RM t' a → Q (some (.int (f_broken a x))) t'
  | _ => False
def cs_M_broken : Nat → ak_P := fun a => match a with
  | _ => pt_M_isBroken
theorem vc_M_broken : ak_VC lay_M cs_M_broken bl_M_broken 5 pt_M_broken := by
  intro vs t Q h
  unfold pt_M_broken at h
  split at h
  · rename_i x
    obtain ⟨a, hA, hR, h⟩ := h
    have hn := hA.1
    have hR0 := RM_c hR
    refine ⟨Nat.le_of_ble_eq_true rfl, fun J hJ => ?_⟩
    obtain ⟨t0, ht0⟩ : ∃ t0, t0 = ak_p1 t 0 0 0 := ⟨_, rfl⟩
    rw [← ht0] at hR0
    have h := h t0 hR0
    unfold f_broken at h
    have hsm : ∀ i, i ≤ a.1 1 → sm (a_wr a) i ≤ 750 := fun i hi => by
      have := sm_le (a_wr_le a) i
      omega
    have outer : ∀ d i (o : Option Value), i + d = a.1 1 → (x < 0 ∨ ∃ x' : Nat, x' < 2147483648 ∧ x = nI x' ∧ sm (a_wr a) i ≤ x') → J 9 [some (.ref 0), some (.int x), some (.int (nI (sm (a_wr a) i))), some (.int (nI (i + 1))), o] [] t0 := by
      intro d
      induction d with
      | zero =>
        intro i o hi hx
        have e : i = a.1 1 := by omega
        subst e
        refine hJ 3 _ _ _ _ ?_
        simp only [Nat.reduceAdd, Nat.reduceLeDiff, Nat.zero_le, true_or, or_true, run_s, e_nop, e_iconst, e_bipush, e_sipush, e_lconst, e_iload, e_iload_n, e_lload, e_lload_n, e_aload, e_aload_n, e_istore, e_istore_n, e_iinc, e_iadd, e_isub, e_imul, e_lcmp, e_dupI, e_dupR, e_dup2, e_getfield, e_putfield, e_iaload, e_baload, e_laload, e_iastore, e_bastore, e_lastore, e_if, e_icmp, e_goto, e_tsw, e_ireturn0, e_ireturn1, e_return, e_call0, e_call1, e_call2, e_call3, lI_e, lL_e, lR_e, ak_nth, ak_set, ak_ok1, ak_jp, ak_b1, ak_b2, ak_sw, ak_la, ak_pad, true_and, and_true, List.map_cons, List.map_nil, List.sum_cons, List.sum_nil, Value.category, Option.toList_some, Option.toList_none, List.cons_append, List.nil_append, gM_0_0, pM_0_0, gM_0_1, pM_0_1, gM_0_2, pM_0_2, gM_0_3, pM_0_3, gM_0_4, gM_0_5, gM_0_6, gM_0_7, gM_0_8, gM_0_9, gM_0_10, gM_0_11, gM_0_12, gM_0_13, gM_0_14, gM_0_15, gM_0_16, rM_0, kM_1, kM_2, kM_3, kM_4, kM_5, kM_6, kM_7, kM_8, kM_9, kM_10, kM_11, kM_12, kM_13, fd_M_broken_0, fd_M_broken_9, fd_M_broken_20, fd_M_broken_39, fd_M_broken_46, fd_M_broken_49, fd_M_broken_55, fd_M_broken_61, bk_M_broken_0, bk_M_broken_9, bk_M_broken_20, bk_M_broken_39, bk_M_broken_46, bk_M_broken_49, bk_M_broken_55, bk_M_broken_61, cs_M_broken]
        rw [hR0.1.2.1, q_lt (by omega) (by omega)]
        refine ⟨fun _ => ?_, fun q => absurd (by omega) q⟩
        rcases hx with hx | ⟨x', hx1, rfl, hx2⟩
        · rw [if_pos hx] at h; exact h
        · rw [if_neg (nI_pos hx1), q_cl hx1, bk_f_0 hx2] at h; exact h
      | succ d ih =>
        intro i o hi hx
        have inner : ∀ d2 p, p + d2 = 3 → (x < 0 ∨ ∃ x' : Nat, x' < 2147483648 ∧ x = nI x' ∧ sm (a_wr a) i + cn (fun p => a_brB a (i + 1) (p - 1)) p ≤ x') → J 20 [some (.ref 0), some (.int x), some (.int (nI (sm (a_wr a) i + cn (fun p => a_brB a (i + 1) (p - 1)) p))), some (.int (nI (i + 1))), some (.int (nI p))] [] t0 := by
          intro d2
          induction d2 with
          | zero =>
            intro p hp hx
            have e : p = 3 := by omega
            subst e
            refine hJ 3 _ _ _ _ ?_
            simp only [Nat.reduceAdd, Nat.reduceLeDiff, Nat.zero_le, true_or, or_true, run_s, e_nop, e_iconst, e_bipush, e_sipush, e_lconst, e_iload, e_iload_n, e_lload, e_lload_n, e_aload, e_aload_n, e_istore, e_istore_n, e_iinc, e_iadd, e_isub, e_imul, e_lcmp, e_dupI, e_dupR, e_dup2, e_getfield, e_putfield, e_iaload, e_baload, e_laload, e_iastore, e_bastore, e_lastore, e_if, e_icmp, e_goto, e_tsw, e_ireturn0, e_ireturn1, e_return, e_call0, e_call1, e_call2, e_call3, lI_e, lL_e, lR_e, ak_nth, ak_set, ak_ok1, ak_jp, ak_b1, ak_b2, ak_sw, ak_la, ak_pad, true_and, and_true, List.map_cons, List.map_nil, List.sum_cons, List.sum_nil, Value.category, Option.toList_some, Option.toList_none, List.cons_append, List.nil_append, gM_0_0, pM_0_0, gM_0_1, pM_0_1, gM_0_2, pM_0_2, gM_0_3, pM_0_3, gM_0_4, gM_0_5, gM_0_6, gM_0_7, gM_0_8, gM_0_9, gM_0_10, gM_0_11, gM_0_12, gM_0_13, gM_0_14, gM_0_15, gM_0_16, rM_0, kM_1, kM_2, kM_3, kM_4, kM_5, kM_6, kM_7, kM_8, kM_9, kM_10, kM_11, kM_12, kM_13, fd_M_broken_0, fd_M_broken_9, fd_M_broken_20, fd_M_broken_39, fd_M_broken_46, fd_M_broken_49, fd_M_broken_55, fd_M_broken_61, bk_M_broken_0, bk_M_broken_9, bk_M_broken_20, bk_M_broken_39, bk_M_broken_46, bk_M_broken_49, bk_M_broken_55, bk_M_broken_61, cs_M_broken, nI_1]
            refine ⟨fun _ => ?_, fun q => absurd (by decide) q⟩
            have := ih (i + 1) (some (.int (nI 3))) (by omega) (by rw [sm, a_wr_br]; exact hx)
            rw [sm, a_wr_br] at this
            exact this
          | succ d2 ih2 =>
            intro p hp hx
            have hh := ih2 (p + 1) (by omega)
            have hle := cn_le (fun p => a_brB a (i + 1) (p - 1)) p
            have hs0 := hsm i (by omega)
            refine hJ 4 _ _ _ _ ?_
            simp only [Nat.reduceAdd, Nat.reduceLeDiff, Nat.zero_le, true_or, or_true, run_s, e_nop, e_iconst, e_bipush, e_sipush, e_lconst, e_iload, e_iload_n, e_lload, e_lload_n, e_aload, e_aload_n, e_istore, e_istore_n, e_iinc, e_iadd, e_isub, e_imul, e_lcmp, e_dupI, e_dupR, e_dup2, e_getfield, e_putfield, e_iaload, e_baload, e_laload, e_iastore, e_bastore, e_lastore, e_if, e_icmp, e_goto, e_tsw, e_ireturn0, e_ireturn1, e_return, e_call0, e_call1, e_call2, e_call3, lI_e, lL_e, lR_e, ak_nth, ak_set, ak_ok1, ak_jp, ak_b1, ak_b2, ak_sw, ak_la, ak_pad, true_and, and_true, List.map_cons, List.map_nil, List.sum_cons, List.sum_nil, Value.category, Option.toList_some, Option.toList_none, List.cons_append, List.nil_append, gM_0_0, pM_0_0, gM_0_1, pM_0_1, gM_0_2, pM_0_2, gM_0_3, pM_0_3, gM_0_4, gM_0_5, gM_0_6, gM_0_7, gM_0_8, gM_0_9, gM_0_10, gM_0_11, gM_0_12, gM_0_13, gM_0_14, gM_0_15, gM_0_16, rM_0, kM_1, kM_2, kM_3, kM_4, kM_5, kM_6, kM_7, kM_8, kM_9, kM_10, kM_11, kM_12, kM_13, fd_M_broken_0, fd_M_broken_9, fd_M_broken_20, fd_M_broken_39, fd_M_broken_46, fd_M_broken_49, fd_M_broken_55, fd_M_broken_61, bk_M_broken_0, bk_M_broken_9, bk_M_broken_20, bk_M_broken_39, bk_M_broken_46, bk_M_broken_49, bk_M_broken_55, bk_M_broken_61, cs_M_broken, pt_M_isBroken, nI_1]
            simp only [bt0, Classical.not_not, i10, false_implies, not_false_eq_true, true_implies, not_true_eq_false, true_and, and_true, false_and, and_false, imp_self]
            rw [n_3, q_le (by omega) (by omega)]
            refine ⟨fun q => absurd q (by omega), fun _ => ⟨a, i + 1, p, hA, hR0, rfl, rfl, by omega, by omega, by omega, fun q => ⟨fun q2 => ?_, fun q2 => ?_⟩, fun q => ?_⟩⟩
            · rw [cn, show p + 1 - 1 = p by omega, if_pos q] at hh
              refine hh ?_
              rcases hx with hx | ⟨x', hx1, rfl, hx2⟩
              · exact Or.inl hx
              · refine Or.inr ⟨x', hx1, rfl, ?_⟩
                rw [q_eq (by omega) hx1] at q2
                omega
            · rcases hx with hx | ⟨x', hx1, rfl, hx2⟩
              · rw [← q2] at hx
                exact absurd hx (nI_pos (by omega))
              · rw [q_eq (by omega) hx1] at q2
                have hlt : x' < sm (a_wr a) (i + 1) := by
                  rw [sm, a_wr_br]
                  have hm : cn (fun p => a_brB a (i + 1) (p - 1)) (p + 1) ≤ cn (fun p => a_brB a (i + 1) (p - 1)) 3 := by
                    rcases (by omega : p = 0 ∨ p = 1 ∨ p = 2) with rfl | rfl | rfl
                    · simp only [cn]; omega
                    · simp only [cn]; omega
                    · exact Nat.le_refl _
                  rw [cn, show p + 1 - 1 = p by omega, if_pos q] at hm
                  omega
                rw [if_neg (nI_pos hx1), q_cl hx1, bk_f_at (k := i) (by omega) hlt (by omega)] at h
                exact h
            · rw [cn, show p + 1 - 1 = p by omega, q, if_neg (by decide)] at hh
              exact hh hx
        refine hJ 3 _ _ _ _ ?_
        simp only [Nat.reduceAdd, Nat.reduceLeDiff, Nat.zero_le, true_or, or_true, run_s, e_nop, e_iconst, e_bipush, e_sipush, e_lconst, e_iload, e_iload_n, e_lload, e_lload_n, e_aload, e_aload_n, e_istore, e_istore_n, e_iinc, e_iadd, e_isub, e_imul, e_lcmp, e_dupI, e_dupR, e_dup2, e_getfield, e_putfield, e_iaload, e_baload, e_laload, e_iastore, e_bastore, e_lastore, e_if, e_icmp, e_goto, e_tsw, e_ireturn0, e_ireturn1, e_return, e_call0, e_call1, e_call2, e_call3, lI_e, lL_e, lR_e, ak_nth, ak_set, ak_ok1, ak_jp, ak_b1, ak_b2, ak_sw, ak_la, ak_pad, true_and, and_true, List.map_cons, List.map_nil, List.sum_cons, List.sum_nil, Value.category, Option.toList_some, Option.toList_none, List.cons_append, List.nil_append, gM_0_0, pM_0_0, gM_0_1, pM_0_1, gM_0_2, pM_0_2, gM_0_3, pM_0_3, gM_0_4, gM_0_5, gM_0_6, gM_0_7, gM_0_8, gM_0_9, gM_0_10, gM_0_11, gM_0_12, gM_0_13, gM_0_14, gM_0_15, gM_0_16, rM_0, kM_1, kM_2, kM_3, kM_4, kM_5, kM_6, kM_7, kM_8, kM_9, kM_10, kM_11, kM_12, kM_13, fd_M_broken_0, fd_M_broken_9, fd_M_broken_20, fd_M_broken_39, fd_M_broken_46, fd_M_broken_49, fd_M_broken_55, fd_M_broken_61, bk_M_broken_0, bk_M_broken_9, bk_M_broken_20, bk_M_broken_39, bk_M_broken_46, bk_M_broken_49, bk_M_broken_55, bk_M_broken_61, cs_M_broken]
        rw [hR0.1.2.1, q_lt (by omega) (by omega)]
        refine ⟨fun q => absurd q (by omega), fun _ => ?_⟩
        exact inner 3 0 (by omega) (by simpa [cn] using hx)
    refine hJ 3 _ _ _ _ ?_
    simp only [Nat.reduceAdd, Nat.reduceLeDiff, Nat.zero_le, true_or, or_true, run_s, e_nop, e_iconst, e_bipush, e_sipush, e_lconst, e_iload, e_iload_n, e_lload, e_lload_n, e_aload, e_aload_n, e_istore, e_istore_n, e_iinc, e_iadd, e_isub, e_imul, e_lcmp, e_dupI, e_dupR, e_dup2, e_getfield, e_putfield, e_iaload, e_baload, e_laload, e_iastore, e_bastore, e_lastore, e_if, e_icmp, e_goto, e_tsw, e_ireturn0, e_ireturn1, e_return, e_call0, e_call1, e_call2, e_call3, lI_e, lL_e, lR_e, ak_nth, ak_set, ak_ok1, ak_jp, ak_b1, ak_b2, ak_sw, ak_la, ak_pad, true_and, and_true, List.map_cons, List.map_nil, List.sum_cons, List.sum_nil, Value.category, Option.toList_some, Option.toList_none, List.cons_append, List.nil_append, gM_0_0, pM_0_0, gM_0_1, pM_0_1, gM_0_2, pM_0_2, gM_0_3, pM_0_3, gM_0_4, gM_0_5, gM_0_6, gM_0_7, gM_0_8, gM_0_9, gM_0_10, gM_0_11, gM_0_12, gM_0_13, gM_0_14, gM_0_15, gM_0_16, rM_0, kM_1, kM_2, kM_3, kM_4, kM_5, kM_6, kM_7, kM_8, kM_9, kM_10, kM_11, kM_12, kM_13, fd_M_broken_0, fd_M_broken_9, fd_M_broken_20, fd_M_broken_39, fd_M_broken_46, fd_M_broken_49, fd_M_broken_55, fd_M_broken_61, bk_M_broken_0, bk_M_broken_9, bk_M_broken_20, bk_M_broken_39, bk_M_broken_46, bk_M_broken_49, bk_M_broken_55, bk_M_broken_61, cs_M_broken]
    rw [← ht0]
    refine outer (a.1 1) 0 none (by omega) ?_
    by_cases hx : x < 0
    · exact Or.inl hx
    · obtain ⟨x', hx1, hx2⟩ := nI_of hx
      exact Or.inr ⟨x', hx1, hx2, by simp [sm]⟩
  · exact h.elim
set_option maxRecDepth 20000 in
theorem ct_M_broken (l : Launch) : ak_Ctr l cl_all lay_M y_M_broken ws_M_broken rm_M_broken pt_M_broken := by
  refine ak_met (cs := cs_M_broken) (reg := rg_M_broken) (bl := bl_M_broken) (by decide +kernel) rfl (cl_ok _) rfl ok_M_broken ?_ vc_M_broken
  intro a n b ci h
  match a, h with
  | 0, h =>
    cases h
    exact ak_ccV (ct_M_isBroken l) rfl 468 469 18 25 470 (by decide +kernel) ⟨rfl, rfl⟩ (by decide +kernel) (by decide +kernel)
  | k + 1, h => cases h
def pt_M_told : ak_P := fun vs t Q => match vs with
  | [.ref 0, .int w] => ∃ a, AI a ∧ RM t a ∧ ∀ t', RM t' a → Q (some (.int (f_told a w))) t'
  | _ => False
def cs_M_told : Nat → ak_P := fun _ _ _ _ => False
theorem vc_M_told : ak_VC lay_M cs_M_told bl_M_told 6 pt_M_told := by
  intro vs t Q h
  unfold pt_M_told at h
  split at h
  · rename_i w
    obtain ⟨a, hA, hR, h⟩ := h
    have hn := hA.1
    have hR0 := RM_c hR
    refine ⟨Nat.le_of_ble_eq_true rfl, fun J hJ => ?_⟩
    obtain ⟨t0, ht0⟩ : ∃ t0, t0 = ak_p1 t 0 0 0 := ⟨_, rfl⟩
    rw [← ht0] at hR0
    have h := h t0 hR0
    unfold f_told at h
    have loop : ∀ d i, i + d = a.1 1 → J 15 [some (.ref 0), some (.int w), some (.int (nI (cn (fun i => decide (a.2.1 5 i = 1)) i))), some (.int (nI (cn (fun i => decide (a.2.1 5 i = 2)) i))), some (.int (nI (cn (fun i => decide (a.2.1 6 i ≠ 0)) i))), some (.int (nI (i + 1)))] [] t0 := by
      intro d
      induction d with
      | zero =>
        intro i hi
        have e : i = a.1 1 := by omega
        subst e
        refine hJ 4 _ _ _ _ ?_
        simp only [Nat.reduceAdd, Nat.reduceLeDiff, Nat.zero_le, true_or, or_true, run_s, e_nop, e_iconst, e_bipush, e_sipush, e_lconst, e_iload, e_iload_n, e_lload, e_lload_n, e_aload, e_aload_n, e_istore, e_istore_n, e_iinc, e_iadd, e_isub, e_imul, e_lcmp, e_dupI, e_dupR, e_dup2, e_getfield, e_putfield, e_iaload, e_baload, e_laload, e_iastore, e_bastore, e_lastore, e_if, e_icmp, e_goto, e_tsw, e_ireturn0, e_ireturn1, e_return, e_call0, e_call1, e_call2, e_call3, lI_e, lL_e, lR_e, ak_nth, ak_set, ak_ok1, ak_jp, ak_b1, ak_b2, ak_sw, ak_la, ak_pad, true_and, and_true, List.map_cons, List.map_nil, List.sum_cons, List.sum_nil, Value.category, Option.toList_some, Option.toList_none, List.cons_append, List.nil_append, gM_0_0, pM_0_0, gM_0_1, pM_0_1, gM_0_2, pM_0_2, gM_0_3, pM_0_3, gM_0_4, gM_0_5, gM_0_6, gM_0_7, gM_0_8, gM_0_9, gM_0_10, gM_0_11, gM_0_12, gM_0_13, gM_0_14, gM_0_15, gM_0_16, rM_0, kM_1, kM_2, kM_3, kM_4, kM_5, kM_6, kM_7, kM_8, kM_9, kM_10, kM_11, kM_12, kM_13, fd_M_told_0, fd_M_told_15, fd_M_told_40, fd_M_told_41, fd_M_told_59, fd_M_told_60, fd_M_told_78, fd_M_told_79, fd_M_told_88, fd_M_told_128, fd_M_told_133, fd_M_told_138, fd_M_told_140, fd_M_told_142, fd_M_told_145, fd_M_told_150, bk_M_told_0, bk_M_told_15, bk_M_told_40, bk_M_told_41, bk_M_told_59, bk_M_told_60, bk_M_told_78, bk_M_told_79, bk_M_told_88, bk_M_told_128, bk_M_told_133, bk_M_told_138, bk_M_told_140, bk_M_told_142, bk_M_told_145, bk_M_told_150]
        rw [hR0.1.1, hR0.1.2.1, hR0.1.2.2, q_lt (by omega) (by omega)]
        refine ⟨fun _ => ⟨fun q => ?_, fun q0 => ⟨fun q => ?_, fun q1 => ⟨fun q => ?_, fun q2 => ⟨fun q => ?_, fun q3 => ⟨fun q => ?_, fun q4 => ⟨fun q => ?_, fun q5 => ?_⟩⟩⟩⟩⟩⟩, fun q => absurd (by omega) q⟩
        · rw [if_pos q] at h; exact h
        · rw [if_neg q0, if_pos q] at h; exact h
        · rw [if_neg q0, if_neg q1, if_pos q] at h; exact h
        · rw [if_neg q0, if_neg q1, if_neg q2, if_pos q] at h; exact h
        · rw [if_neg q0, if_neg q1, if_neg q2, if_neg q3, if_pos q] at h; exact h
        · rw [if_neg q0, if_neg q1, if_neg q2, if_neg q3, if_neg q4, if_pos q] at h; exact h
        · rw [if_neg q0, if_neg q1, if_neg q2, if_neg q3, if_neg q4, if_neg q5] at h; exact h
      | succ d ih =>
        intro i hi
        have hh := ih (i + 1) (by omega)
        obtain ⟨s1, s2, _⟩ := stM hA hR0 (show 1 ≤ i + 1 by omega) (by omega)
        have r := (hR0.2.2.1 (i + 1) (by omega)).2.2.2
        have rb := (hA.2.2.1 (i + 1) (by omega)).2.2.2
        have er : nI (a.2.1 6 (i + 1)) = 0 ↔ a.2.1 6 (i + 1) = 0 := by rw [n_0]; exact nI_eq (by omega) (by omega)
        have e0 : ∀ z : Nat, nI z + 0 = nI z := fun z => by rw [n_0, nI_add]; rfl
        refine hJ 8 _ _ _ _ ?_
        simp only [Nat.reduceAdd, Nat.reduceLeDiff, Nat.zero_le, true_or, or_true, run_s, e_nop, e_iconst, e_bipush, e_sipush, e_lconst, e_iload, e_iload_n, e_lload, e_lload_n, e_aload, e_aload_n, e_istore, e_istore_n, e_iinc, e_iadd, e_isub, e_imul, e_lcmp, e_dupI, e_dupR, e_dup2, e_getfield, e_putfield, e_iaload, e_baload, e_laload, e_iastore, e_bastore, e_lastore, e_if, e_icmp, e_goto, e_tsw, e_ireturn0, e_ireturn1, e_return, e_call0, e_call1, e_call2, e_call3, lI_e, lL_e, lR_e, ak_nth, ak_set, ak_ok1, ak_jp, ak_b1, ak_b2, ak_sw, ak_la, ak_pad, true_and, and_true, List.map_cons, List.map_nil, List.sum_cons, List.sum_nil, Value.category, Option.toList_some, Option.toList_none, List.cons_append, List.nil_append, gM_0_0, pM_0_0, gM_0_1, pM_0_1, gM_0_2, pM_0_2, gM_0_3, pM_0_3, gM_0_4, gM_0_5, gM_0_6, gM_0_7, gM_0_8, gM_0_9, gM_0_10, gM_0_11, gM_0_12, gM_0_13, gM_0_14, gM_0_15, gM_0_16, rM_0, kM_1, kM_2, kM_3, kM_4, kM_5, kM_6, kM_7, kM_8, kM_9, kM_10, kM_11, kM_12, kM_13, fd_M_told_0, fd_M_told_15, fd_M_told_40, fd_M_told_41, fd_M_told_59, fd_M_told_60, fd_M_told_78, fd_M_told_79, fd_M_told_88, fd_M_told_128, fd_M_told_133, fd_M_told_138, fd_M_told_140, fd_M_told_142, fd_M_told_145, fd_M_told_150, bk_M_told_0, bk_M_told_15, bk_M_told_40, bk_M_told_41, bk_M_told_59, bk_M_told_60, bk_M_told_78, bk_M_told_79, bk_M_told_88, bk_M_told_128, bk_M_told_133, bk_M_told_138, bk_M_told_140, bk_M_told_142, bk_M_told_145, bk_M_told_150, nI_1]
        rw [hR0.1.2.1, q_lt (by omega) (by omega), q_cl (a := i + 1) (by omega), s1, s2, r, er]
        simp only [e0]
        refine ⟨fun q => absurd q (by omega), fun _ => ⟨q_in (by omega) (by omega), fun q1 => ⟨q_in (by omega) (by omega), fun q2 => ⟨q_in (by omega) (by omega), fun q3 => ?_, fun q3 => ?_⟩, fun q2 => ⟨q_in (by omega) (by omega), fun q3 => ?_, fun q3 => ?_⟩⟩, fun q1 => ⟨q_in (by omega) (by omega), fun q2 => ⟨q_in (by omega) (by omega), fun q3 => ?_, fun q3 => ?_⟩, fun q2 => ⟨q_in (by omega) (by omega), fun q3 => ?_, fun q3 => ?_⟩⟩⟩⟩ <;> first | (exfalso; omega) | simpa [cn, q1, q2, q3] using hh
    refine hJ 3 _ _ _ _ ?_
    simp only [Nat.reduceAdd, Nat.reduceLeDiff, Nat.zero_le, true_or, or_true, run_s, e_nop, e_iconst, e_bipush, e_sipush, e_lconst, e_iload, e_iload_n, e_lload, e_lload_n, e_aload, e_aload_n, e_istore, e_istore_n, e_iinc, e_iadd, e_isub, e_imul, e_lcmp, e_dupI, e_dupR, e_dup2, e_getfield, e_putfield, e_iaload, e_baload, e_laload, e_iastore, e_bastore, e_lastore, e_if, e_icmp, e_goto, e_tsw, e_ireturn0, e_ireturn1, e_return, e_call0, e_call1, e_call2, e_call3, lI_e, lL_e, lR_e, ak_nth, ak_set, ak_ok1, ak_jp, ak_b1, ak_b2, ak_sw, ak_la, ak_pad, true_and, and_true, List.map_cons, List.map_nil, List.sum_cons, List.sum_nil, Value.category, Option.toList_some, Option.toList_none, List.cons_append, List.nil_append, gM_0_0, pM_0_0, gM_0_1, pM_0_1, gM_0_2, pM_0_2, gM_0_3, pM_0_3, gM_0_4, gM_0_5, gM_0_6, gM_0_7, gM_0_8, gM_0_9, gM_0_10, gM_0_11, gM_0_12, gM_0_13, gM_0_14, gM_0_15, gM_0_16, rM_0, kM_1, kM_2, kM_3, kM_4, kM_5, kM_6, kM_7, kM_8, kM_9, kM_10, kM_11, kM_12, kM_13, fd_M_told_0, fd_M_told_15, fd_M_told_40, fd_M_told_41, fd_M_told_59, fd_M_told_60, fd_M_told_78, fd_M_told_79, fd_M_told_88, fd_M_told_128, fd_M_told_133, fd_M_told_138, fd_M_told_140, fd_M_told_142, fd_M_told_145, fd_M_told_150, bk_M_told_0, bk_M_told_15, bk_M_told_40, bk_M_told_41, bk_M_told_59, bk_M_told_60, bk_M_told_78, bk_M_told_79, bk_M_told_88, bk_M_told_128, bk_M_told_133, bk_M_told_138, bk_M_told_140, bk_M_told_142, bk_M_told_145, bk_M_told_150]
    rw [← ht0]
    exact loop (a.1 1) 0 (by omega)
  · exact h.elim
set_option maxRecDepth 20000 in
theorem ct_M_told (l : Launch) : ak_Ctr l cl_all lay_M y_M_told ws_M_told rm_M_told pt_M_told := by
  refine ak_met (cs := cs_M_told) (reg := rg_M_told) (bl := bl_M_told) (by decide +kernel) rfl (cl_ok _) rfl ok_M_told ?_ vc_M_told
  intro a n b ci h
  match a, h with
  | k + 0, h => cases h
