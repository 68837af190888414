/-! the reference: its leaves -/
theorem pos1 {k : Int32} : (0 < k) = (1 ≤ k) := by
  have h0 : (0 : Int32).toInt = 0 := by decide
  have h1 : (1 : Int32).toInt = 1 := by decide
  rw [Int32.lt_iff_toInt_lt, Int32.le_iff_toInt_le, h0, h1]
  exact propext (by omega)
theorem npos1 {k : Int32} : (k ≤ 0) = ¬ (1 ≤ k) := by
  rw [← pos1]
  exact propext ⟨fun h => Int32.not_lt.mpr h, fun h => Int32.not_lt.mp h⟩
def pt_M_isKind : ak_P := fun vs t Q => match vs with
  | [.ref 0, .int k] => Q (some (.int (if 1 ≤ k ∧ k ≤ t.1 0 1 then 1 else 0))) t
  | _ => False
def cs_M_isKind : Nat → ak_P := fun _ _ _ _ => False
theorem vc_M_isKind : ak_VC lay_M cs_M_isKind bl_M_isKind 2 pt_M_isKind := by
  intro vs t Q h
  unfold pt_M_isKind at h
  split at h
  · rename_i k
    refine ⟨Nat.le_refl 2, fun J hJ => hJ 3 _ _ _ _ ?_⟩
    simp only [Nat.reduceAdd, Nat.reduceLeDiff, Nat.zero_le, true_or, or_true, run_s, e_nop, e_iconst, e_bipush, e_sipush, e_lconst, e_iload, e_iload_n, e_lload, e_lload_n, e_aload, e_aload_n, e_istore, e_istore_n, e_iinc, e_iadd, e_isub, e_imul, e_lcmp, e_dupI, e_dupR, e_dup2, e_getfield, e_putfield, e_iaload, e_baload, e_laload, e_iastore, e_bastore, e_lastore, e_if, e_icmp, e_goto, e_tsw, e_ireturn0, e_ireturn1, e_return, e_call0, e_call1, e_call2, e_call3, lI_e, lL_e, lR_e, ak_nth, ak_set, ak_ok1, ak_jp, ak_b1, ak_b2, ak_sw, ak_la, ak_pad, true_and, and_true, List.map_cons, List.map_nil, List.sum_cons, List.sum_nil, Value.category, Option.toList_some, Option.toList_none, List.cons_append, List.nil_append, gM_0_0, pM_0_0, gM_0_1, pM_0_1, gM_0_2, pM_0_2, gM_0_3, pM_0_3, gM_0_4, gM_0_5, gM_0_6, gM_0_7, gM_0_8, gM_0_9, gM_0_10, gM_0_11, gM_0_12, gM_0_13, gM_0_14, gM_0_15, gM_0_16, rM_0, kM_1, kM_2, kM_3, kM_4, kM_5, kM_6, kM_7, kM_8, kM_9, kM_10, kM_11, kM_12, kM_13, fd_M_isKind_0, fd_M_isKind_16, fd_M_isKind_17, bk_M_isKind_0, bk_M_isKind_16, bk_M_isKind_17]
    rw [npos1]
    refine ⟨fun h1 => ?_, fun h1 => ⟨fun h2 => ?_, fun h2 => ?_⟩⟩ <;> grind
  · exact h.elim
set_option maxRecDepth 20000 in
theorem ct_M_isKind (l : Launch) : ak_Ctr l cl_all lay_M y_M_isKind ws_M_isKind rm_M_isKind pt_M_isKind := by
  refine ak_met (cs := cs_M_isKind) (reg := rg_M_isKind) (bl := bl_M_isKind) (by decide +kernel) rfl (cl_ok _) rfl ok_M_isKind ?_ vc_M_isKind
  intro a n b ci h
  match a, h with
  | k + 0, h => cases h
def pt_M_isSegment : ak_P := fun vs t Q => match vs with
  | [.ref 0, .int k] => Q (some (.int (if 1 ≤ k ∧ k ≤ t.1 0 2 then 1 else 0))) t
  | _ => False
def cs_M_isSegment : Nat → ak_P := fun _ _ _ _ => False
theorem vc_M_isSegment : ak_VC lay_M cs_M_isSegment bl_M_isSegment 2 pt_M_isSegment := by
  intro vs t Q h
  unfold pt_M_isSegment at h
  split at h
  · rename_i k
    refine ⟨Nat.le_refl 2, fun J hJ => hJ 3 _ _ _ _ ?_⟩
    simp only [Nat.reduceAdd, Nat.reduceLeDiff, Nat.zero_le, true_or, or_true, run_s, e_nop, e_iconst, e_bipush, e_sipush, e_lconst, e_iload, e_iload_n, e_lload, e_lload_n, e_aload, e_aload_n, e_istore, e_istore_n, e_iinc, e_iadd, e_isub, e_imul, e_lcmp, e_dupI, e_dupR, e_dup2, e_getfield, e_putfield, e_iaload, e_baload, e_laload, e_iastore, e_bastore, e_lastore, e_if, e_icmp, e_goto, e_tsw, e_ireturn0, e_ireturn1, e_return, e_call0, e_call1, e_call2, e_call3, lI_e, lL_e, lR_e, ak_nth, ak_set, ak_ok1, ak_jp, ak_b1, ak_b2, ak_sw, ak_la, ak_pad, true_and, and_true, List.map_cons, List.map_nil, List.sum_cons, List.sum_nil, Value.category, Option.toList_some, Option.toList_none, List.cons_append, List.nil_append, gM_0_0, pM_0_0, gM_0_1, pM_0_1, gM_0_2, pM_0_2, gM_0_3, pM_0_3, gM_0_4, gM_0_5, gM_0_6, gM_0_7, gM_0_8, gM_0_9, gM_0_10, gM_0_11, gM_0_12, gM_0_13, gM_0_14, gM_0_15, gM_0_16, rM_0, kM_1, kM_2, kM_3, kM_4, kM_5, kM_6, kM_7, kM_8, kM_9, kM_10, kM_11, kM_12, kM_13, fd_M_isSegment_0, fd_M_isSegment_16, fd_M_isSegment_17, bk_M_isSegment_0, bk_M_isSegment_16, bk_M_isSegment_17]
    rw [npos1]
    refine ⟨fun h1 => ?_, fun h1 => ⟨fun h2 => ?_, fun h2 => ?_⟩⟩ <;> grind
  · exact h.elim
set_option maxRecDepth 20000 in
theorem ct_M_isSegment (l : Launch) : ak_Ctr l cl_all lay_M y_M_isSegment ws_M_isSegment rm_M_isSegment pt_M_isSegment := by
  refine ak_met (cs := cs_M_isSegment) (reg := rg_M_isSegment) (bl := bl_M_isSegment) (by decide +kernel) rfl (cl_ok _) rfl ok_M_isSegment ?_ vc_M_isSegment
  intro a n b ci h
  match a, h with
  | k + 0, h => cases h
def pt_M_isThere : ak_P := fun vs t Q => match vs with
  | [.ref 0, .int i] => ∃ n : Nat, n ≤ 250 ∧ t.1 0 2 = nI n ∧ Q (some (.int (if (1 ≤ i ∧ i ≤ nI n) ∧ t.1 6 i.toNatClampNeg = 1 then 1 else 0))) t
  | _ => False
def cs_M_isThere : Nat → ak_P := fun a => match a with
  | _ => pt_M_isSegment
theorem vc_M_isThere : ak_VC lay_M cs_M_isThere bl_M_isThere 2 pt_M_isThere := by
  intro vs t Q h
  unfold pt_M_isThere at h
  split at h
  · rename_i i
    obtain ⟨n, hn, hs, h⟩ := h
    refine ⟨Nat.le_refl 2, fun J hJ => hJ 4 _ _ _ _ ?_⟩
    simp only [Nat.reduceAdd, Nat.reduceLeDiff, Nat.zero_le, true_or, or_true, run_s, e_nop, e_iconst, e_bipush, e_sipush, e_lconst, e_iload, e_iload_n, e_lload, e_lload_n, e_aload, e_aload_n, e_istore, e_istore_n, e_iinc, e_iadd, e_isub, e_imul, e_lcmp, e_dupI, e_dupR, e_dup2, e_getfield, e_putfield, e_iaload, e_baload, e_laload, e_iastore, e_bastore, e_lastore, e_if, e_icmp, e_goto, e_tsw, e_ireturn0, e_ireturn1, e_return, e_call0, e_call1, e_call2, e_call3, lI_e, lL_e, lR_e, ak_nth, ak_set, ak_ok1, ak_jp, ak_b1, ak_b2, ak_sw, ak_la, ak_pad, true_and, and_true, List.map_cons, List.map_nil, List.sum_cons, List.sum_nil, Value.category, Option.toList_some, Option.toList_none, List.cons_append, List.nil_append, gM_0_0, pM_0_0, gM_0_1, pM_0_1, gM_0_2, pM_0_2, gM_0_3, pM_0_3, gM_0_4, gM_0_5, gM_0_6, gM_0_7, gM_0_8, gM_0_9, gM_0_10, gM_0_11, gM_0_12, gM_0_13, gM_0_14, gM_0_15, gM_0_16, rM_0, kM_1, kM_2, kM_3, kM_4, kM_5, kM_6, kM_7, kM_8, kM_9, kM_10, kM_11, kM_12, kM_13, fd_M_isThere_0, fd_M_isThere_22, fd_M_isThere_23, bk_M_isThere_0, bk_M_isThere_22, bk_M_isThere_23, cs_M_isThere, pt_M_isSegment, hs]
    rcases n_case i (n := n) (by omega) with ⟨j, h1, h2, rfl⟩ | hx
    · have hb := n_in h1 h2 (by omega)
      rw [if_pos hb]
      rw [q_cl (by omega)] at h ⊢
      simp only [hb, true_and] at h
      refine ⟨fun e => absurd e (by decide), fun _ => ⟨q_in (by omega) (by omega), fun e => ?_, fun e => ?_⟩⟩ <;> grind
    · rw [if_neg hx]
      refine ⟨fun _ => ?_, fun e => absurd rfl e⟩
      grind
  · exact h.elim
set_option maxRecDepth 20000 in
theorem ct_M_isThere (l : Launch) : ak_Ctr l cl_all lay_M y_M_isThere ws_M_isThere rm_M_isThere pt_M_isThere := by
  refine ak_met (cs := cs_M_isThere) (reg := rg_M_isThere) (bl := bl_M_isThere) (by decide +kernel) rfl (cl_ok _) rfl ok_M_isThere ?_ vc_M_isThere
  intro a n b ci h
  match a, h with
  | 0, h =>
    cases h
    exact ak_ccV (ct_M_isSegment l) rfl 408 409 10 25 410 (by decide +kernel) ⟨rfl, rfl⟩ (by decide +kernel) (by decide +kernel)
  | k + 1, h => cases h
def m_cnt (t : ak_S) (n : Nat) (x : Int32) : Nat := cn (fun r => decide (t.1 6 r = 1 ∧ t.1 7 r = x)) n
def pt_M_countOf : ak_P := fun vs t Q => match vs with
  | [.ref 0, .int x] => ∃ n : Nat, n ≤ 250 ∧ t.1 0 2 = nI n ∧ Q (some (.int (nI (m_cnt t n x)))) t
  | _ => False
def cs_M_countOf : Nat → ak_P := fun _ _ _ _ => False
theorem vc_M_countOf : ak_VC lay_M cs_M_countOf bl_M_countOf 4 pt_M_countOf := by
  intro vs t Q h
  unfold pt_M_countOf at h
  split at h
  · rename_i x
    obtain ⟨n, hn, hs, h⟩ := h
    refine ⟨Nat.le_of_ble_eq_true rfl, fun J hJ => ?_⟩
    have loop : ∀ d i, i + d = n → J 4 [some (.ref 0), some (.int x), some (.int (nI (m_cnt t i x))), some (.int (nI (i + 1)))] [] t := by
      intro d
      induction d with
      | zero =>
        intro i hi
        refine hJ 3 _ _ _ _ ?_
        simp only [Nat.reduceAdd, Nat.reduceLeDiff, Nat.zero_le, true_or, or_true, run_s, e_nop, e_iconst, e_bipush, e_sipush, e_lconst, e_iload, e_iload_n, e_lload, e_lload_n, e_aload, e_aload_n, e_istore, e_istore_n, e_iinc, e_iadd, e_isub, e_imul, e_lcmp, e_dupI, e_dupR, e_dup2, e_getfield, e_putfield, e_iaload, e_baload, e_laload, e_iastore, e_bastore, e_lastore, e_if, e_icmp, e_goto, e_tsw, e_ireturn0, e_ireturn1, e_return, e_call0, e_call1, e_call2, e_call3, lI_e, lL_e, lR_e, ak_nth, ak_set, ak_ok1, ak_jp, ak_b1, ak_b2, ak_sw, ak_la, ak_pad, true_and, and_true, List.map_cons, List.map_nil, List.sum_cons, List.sum_nil, Value.category, Option.toList_some, Option.toList_none, List.cons_append, List.nil_append, gM_0_0, pM_0_0, gM_0_1, pM_0_1, gM_0_2, pM_0_2, gM_0_3, pM_0_3, gM_0_4, gM_0_5, gM_0_6, gM_0_7, gM_0_8, gM_0_9, gM_0_10, gM_0_11, gM_0_12, gM_0_13, gM_0_14, gM_0_15, gM_0_16, rM_0, kM_1, kM_2, kM_3, kM_4, kM_5, kM_6, kM_7, kM_8, kM_9, kM_10, kM_11, kM_12, kM_13, fd_M_countOf_0, fd_M_countOf_4, fd_M_countOf_37, fd_M_countOf_38, fd_M_countOf_46, bk_M_countOf_0, bk_M_countOf_4, bk_M_countOf_37, bk_M_countOf_38, bk_M_countOf_46, hs]
        rw [q_lt (by omega) (by omega)]
        refine ⟨fun _ => ?_, fun q => absurd (by omega) q⟩
        have e : i = n := by omega
        rw [e]
        exact h
      | succ d ih =>
        intro i hi
        have hh := ih (i + 1) (by omega)
        refine hJ 4 _ _ _ _ ?_
        simp only [Nat.reduceAdd, Nat.reduceLeDiff, Nat.zero_le, true_or, or_true, run_s, e_nop, e_iconst, e_bipush, e_sipush, e_lconst, e_iload, e_iload_n, e_lload, e_lload_n, e_aload, e_aload_n, e_istore, e_istore_n, e_iinc, e_iadd, e_isub, e_imul, e_lcmp, e_dupI, e_dupR, e_dup2, e_getfield, e_putfield, e_iaload, e_baload, e_laload, e_iastore, e_bastore, e_lastore, e_if, e_icmp, e_goto, e_tsw, e_ireturn0, e_ireturn1, e_return, e_call0, e_call1, e_call2, e_call3, lI_e, lL_e, lR_e, ak_nth, ak_set, ak_ok1, ak_jp, ak_b1, ak_b2, ak_sw, ak_la, ak_pad, true_and, and_true, List.map_cons, List.map_nil, List.sum_cons, List.sum_nil, Value.category, Option.toList_some, Option.toList_none, List.cons_append, List.nil_append, gM_0_0, pM_0_0, gM_0_1, pM_0_1, gM_0_2, pM_0_2, gM_0_3, pM_0_3, gM_0_4, gM_0_5, gM_0_6, gM_0_7, gM_0_8, gM_0_9, gM_0_10, gM_0_11, gM_0_12, gM_0_13, gM_0_14, gM_0_15, gM_0_16, rM_0, kM_1, kM_2, kM_3, kM_4, kM_5, kM_6, kM_7, kM_8, kM_9, kM_10, kM_11, kM_12, kM_13, fd_M_countOf_0, fd_M_countOf_4, fd_M_countOf_37, fd_M_countOf_38, fd_M_countOf_46, bk_M_countOf_0, bk_M_countOf_4, bk_M_countOf_37, bk_M_countOf_38, bk_M_countOf_46, hs, nI_1]
        rw [q_lt (by omega) (by omega), q_cl (by omega)]
        have e0 : nI (m_cnt t i x) + 0 = nI (m_cnt t i x) := by rw [n_0, nI_add]; rfl
        rw [e0]
        refine ⟨fun q => absurd q (by omega), fun _ => ⟨q_in (by omega) (by omega), fun q => ?_, fun q => ⟨q_in (by omega) (by omega), fun q2 => ?_, fun q2 => ?_⟩⟩⟩
        · simpa [m_cnt, cn, q] using hh
        · simpa [m_cnt, cn, q, q2] using hh
        · simpa [m_cnt, cn, q, q2] using hh
    refine hJ 3 _ _ _ _ ?_
    simp only [Nat.reduceAdd, Nat.reduceLeDiff, Nat.zero_le, true_or, or_true, run_s, e_nop, e_iconst, e_bipush, e_sipush, e_lconst, e_iload, e_iload_n, e_lload, e_lload_n, e_aload, e_aload_n, e_istore, e_istore_n, e_iinc, e_iadd, e_isub, e_imul, e_lcmp, e_dupI, e_dupR, e_dup2, e_getfield, e_putfield, e_iaload, e_baload, e_laload, e_iastore, e_bastore, e_lastore, e_if, e_icmp, e_goto, e_tsw, e_ireturn0, e_ireturn1, e_return, e_call0, e_call1, e_call2, e_call3, lI_e, lL_e, lR_e, ak_nth, ak_set, ak_ok1, ak_jp, ak_b1, ak_b2, ak_sw, ak_la, ak_pad, true_and, and_true, List.map_cons, List.map_nil, List.sum_cons, List.sum_nil, Value.category, Option.toList_some, Option.toList_none, List.cons_append, List.nil_append, gM_0_0, pM_0_0, gM_0_1, pM_0_1, gM_0_2, pM_0_2, gM_0_3, pM_0_3, gM_0_4, gM_0_5, gM_0_6, gM_0_7, gM_0_8, gM_0_9, gM_0_10, gM_0_11, gM_0_12, gM_0_13, gM_0_14, gM_0_15, gM_0_16, rM_0, kM_1, kM_2, kM_3, kM_4, kM_5, kM_6, kM_7, kM_8, kM_9, kM_10, kM_11, kM_12, kM_13, fd_M_countOf_0, fd_M_countOf_4, fd_M_countOf_37, fd_M_countOf_38, fd_M_countOf_46, bk_M_countOf_0, bk_M_countOf_4, bk_M_countOf_37, bk_M_countOf_38, bk_M_countOf_46]
    exact loop n 0 (by omega)
  · exact h.elim
set_option maxRecDepth 20000 in
theorem ct_M_countOf (l : Launch) : ak_Ctr l cl_all lay_M y_M_countOf ws_M_countOf rm_M_countOf pt_M_countOf := by
  refine ak_met (cs := cs_M_countOf) (reg := rg_M_countOf) (bl := bl_M_countOf) (by decide +kernel) rfl (cl_ok _) rfl ok_M_countOf ?_ vc_M_countOf
  intro a n b ci h
  match a, h with
  | k + 0, h => cases h
def m_tr (t : ak_S) (n i p : Nat) : Int32 := if p = 0 then (if t.1 6 i = 1 then t.1 5 i else 0) else if p = 1 then t.1 7 i else nI (m_cnt t n (nI i))
def pt_M_truth : ak_P := fun vs t Q => match vs with
  | [.ref 0, .int x, .int y] => ∃ n i p : Nat, n ≤ 250 ∧ t.1 0 2 = nI n ∧ i ≤ 250 ∧ x = nI i ∧ p < 2147483648 ∧ y = nI p ∧ Q (some (.int (m_tr t n i p))) t
  | _ => False
def cs_M_truth : Nat → ak_P := fun a => match a with
  | _ => pt_M_countOf
theorem vc_M_truth : ak_VC lay_M cs_M_truth bl_M_truth 3 pt_M_truth := by
  intro vs t Q h
  unfold pt_M_truth at h
  split at h
  · rename_i x y
    obtain ⟨n, i, p, hn, hs, hi, rfl, hp, rfl, h⟩ := h
    refine ⟨Nat.le_of_ble_eq_true rfl, fun J hJ => hJ 4 _ _ _ _ ?_⟩
    simp only [Nat.reduceAdd, Nat.reduceLeDiff, Nat.zero_le, true_or, or_true, run_s, e_nop, e_iconst, e_bipush, e_sipush, e_lconst, e_iload, e_iload_n, e_lload, e_lload_n, e_aload, e_aload_n, e_istore, e_istore_n, e_iinc, e_iadd, e_isub, e_imul, e_lcmp, e_dupI, e_dupR, e_dup2, e_getfield, e_putfield, e_iaload, e_baload, e_laload, e_iastore, e_bastore, e_lastore, e_if, e_icmp, e_goto, e_tsw, e_ireturn0, e_ireturn1, e_return, e_call0, e_call1, e_call2, e_call3, lI_e, lL_e, lR_e, ak_nth, ak_set, ak_ok1, ak_jp, ak_b1, ak_b2, ak_sw, ak_la, ak_pad, true_and, and_true, List.map_cons, List.map_nil, List.sum_cons, List.sum_nil, Value.category, Option.toList_some, Option.toList_none, List.cons_append, List.nil_append, gM_0_0, pM_0_0, gM_0_1, pM_0_1, gM_0_2, pM_0_2, gM_0_3, pM_0_3, gM_0_4, gM_0_5, gM_0_6, gM_0_7, gM_0_8, gM_0_9, gM_0_10, gM_0_11, gM_0_12, gM_0_13, gM_0_14, gM_0_15, gM_0_16, rM_0, kM_1, kM_2, kM_3, kM_4, kM_5, kM_6, kM_7, kM_8, kM_9, kM_10, kM_11, kM_12, kM_13, fd_M_truth_0, fd_M_truth_23, fd_M_truth_27, fd_M_truth_41, fd_M_truth_46, bk_M_truth_0, bk_M_truth_23, bk_M_truth_27, bk_M_truth_41, bk_M_truth_46, cs_M_truth, pt_M_countOf, hs]
    unfold m_tr at h
    have e0 : nI p = 0 ↔ p = 0 := by rw [n_0]; exact nI_eq hp (by omega)
    have e1 : nI p = 1 ↔ p = 1 := by rw [n_1]; exact nI_eq hp (by omega)
    rw [q_cl (by omega), e0, e1]
    refine ⟨fun q => ?_, fun q => ⟨q_in (by omega) (by omega), fun q2 => ?_, fun q2 => ⟨q_in (by omega) (by omega), ?_⟩⟩⟩
    · rw [if_neg q] at h
      refine ⟨fun q2 => ⟨n, hn, rfl, ?_⟩, fun q2 => ⟨q_in (by omega) (by omega), ?_⟩⟩
      · rw [if_neg q2] at h; exact h
      · rw [if_pos q2] at h; exact h
    · rw [if_pos q, if_neg q2] at h; exact h
    · rw [if_pos q, if_pos q2] at h; exact h
  · exact h.elim
set_option maxRecDepth 20000 in
theorem ct_M_truth (l : Launch) : ak_Ctr l cl_all lay_M y_M_truth ws_M_truth rm_M_truth pt_M_truth := by
  refine ak_met (cs := cs_M_truth) (reg := rg_M_truth) (bl := bl_M_truth) (by decide +kernel) rfl (cl_ok _) rfl ok_M_truth ?_ vc_M_truth
  intro a n b ci h
  match a, h with
  | 0, h =>
    cases h
    exact ak_ccV (ct_M_countOf l) rfl 417 418 13 25 419 (by decide +kernel) ⟨rfl, rfl⟩ (by decide +kernel) (by decide +kernel)
  | k + 1, h => cases h
def m_right (t : ak_S) (n i : Nat) : ak_S := ak_p1 (ak_p1 (ak_p1 t 8 (3 * i) (m_tr t n i 0)) 8 (3 * i + 1) (m_tr t n i 1)) 8 (3 * i + 2) (m_tr t n i 2)
theorem m_tr_p {t : ak_S} {n i j p : Nat} {x : Int32} : m_tr (ak_p1 t 8 j x) n i p = m_tr t n i p := by
  unfold m_tr m_cnt
  rw [p1_o (by decide), p1_o (by decide), p1_o (by decide)]
  simp only [p1_o (show (6 : Nat) ≠ 8 by decide), p1_o (show (7 : Nat) ≠ 8 by decide)]
def pt_M_right : ak_P := fun vs t Q => match vs with
  | [.ref 0, .int x] => ∃ n i : Nat, n ≤ 250 ∧ t.1 0 2 = nI n ∧ i ≤ 250 ∧ x = nI i ∧ Q none (m_right t n i)
  | _ => False
def cs_M_right : Nat → ak_P := fun a => match a with
  | _ => pt_M_truth
theorem vc_M_right : ak_VC lay_M cs_M_right bl_M_right 3 pt_M_right := by
  intro vs t Q h
  unfold pt_M_right at h
  split at h
  · rename_i x
    obtain ⟨n, i, hn, hs, hi, rfl, h⟩ := h
    refine ⟨Nat.le_of_ble_eq_true rfl, fun J hJ => ?_⟩
    have step : ∀ (p : Nat) (t : ak_S), t.1 0 2 = nI n → p < 3 → J 2 [some (.ref 0), some (.int (nI i)), some (.int (nI (p + 1)))] [] (ak_p1 t 8 (3 * i + p) (m_tr t n i p)) → J 2 [some (.ref 0), some (.int (nI i)), some (.int (nI p))] [] t := by
      intro p t hs hp hj
      refine hJ 2 _ _ _ _ ?_
      simp only [Nat.reduceAdd, Nat.reduceLeDiff, Nat.zero_le, true_or, or_true, run_s, e_nop, e_iconst, e_bipush, e_sipush, e_lconst, e_iload, e_iload_n, e_lload, e_lload_n, e_aload, e_aload_n, e_istore, e_istore_n, e_iinc, e_iadd, e_isub, e_imul, e_lcmp, e_dupI, e_dupR, e_dup2, e_getfield, e_putfield, e_iaload, e_baload, e_laload, e_iastore, e_bastore, e_lastore, e_if, e_icmp, e_goto, e_tsw, e_ireturn0, e_ireturn1, e_return, e_call0, e_call1, e_call2, e_call3, lI_e, lL_e, lR_e, ak_nth, ak_set, ak_ok1, ak_jp, ak_b1, ak_b2, ak_sw, ak_la, ak_pad, true_and, and_true, List.map_cons, List.map_nil, List.sum_cons, List.sum_nil, Value.category, Option.toList_some, Option.toList_none, List.cons_append, List.nil_append, gM_0_0, pM_0_0, gM_0_1, pM_0_1, gM_0_2, pM_0_2, gM_0_3, pM_0_3, gM_0_4, gM_0_5, gM_0_6, gM_0_7, gM_0_8, gM_0_9, gM_0_10, gM_0_11, gM_0_12, gM_0_13, gM_0_14, gM_0_15, gM_0_16, rM_0, kM_1, kM_2, kM_3, kM_4, kM_5, kM_6, kM_7, kM_8, kM_9, kM_10, kM_11, kM_12, kM_13, fd_M_right_0, fd_M_right_2, fd_M_right_29, bk_M_right_0, bk_M_right_2, bk_M_right_29, cs_M_right, pt_M_truth, nI_1]
      rw [n_3, q_le (by omega) (by omega), pk_mul, nI_add, q_cl (by omega)]
      exact ⟨fun q => absurd q (by omega), fun _ => ⟨n, i, p, hn, hs, hi, rfl, by omega, rfl, q_in (by omega) (by omega), hj⟩⟩
    refine hJ 2 _ _ _ _ ?_
    simp only [Nat.reduceAdd, Nat.reduceLeDiff, Nat.zero_le, true_or, or_true, run_s, e_nop, e_iconst, e_bipush, e_sipush, e_lconst, e_iload, e_iload_n, e_lload, e_lload_n, e_aload, e_aload_n, e_istore, e_istore_n, e_iinc, e_iadd, e_isub, e_imul, e_lcmp, e_dupI, e_dupR, e_dup2, e_getfield, e_putfield, e_iaload, e_baload, e_laload, e_iastore, e_bastore, e_lastore, e_if, e_icmp, e_goto, e_tsw, e_ireturn0, e_ireturn1, e_return, e_call0, e_call1, e_call2, e_call3, lI_e, lL_e, lR_e, ak_nth, ak_set, ak_ok1, ak_jp, ak_b1, ak_b2, ak_sw, ak_la, ak_pad, true_and, and_true, List.map_cons, List.map_nil, List.sum_cons, List.sum_nil, Value.category, Option.toList_some, Option.toList_none, List.cons_append, List.nil_append, gM_0_0, pM_0_0, gM_0_1, pM_0_1, gM_0_2, pM_0_2, gM_0_3, pM_0_3, gM_0_4, gM_0_5, gM_0_6, gM_0_7, gM_0_8, gM_0_9, gM_0_10, gM_0_11, gM_0_12, gM_0_13, gM_0_14, gM_0_15, gM_0_16, rM_0, kM_1, kM_2, kM_3, kM_4, kM_5, kM_6, kM_7, kM_8, kM_9, kM_10, kM_11, kM_12, kM_13, fd_M_right_0, fd_M_right_2, fd_M_right_29, bk_M_right_0, bk_M_right_2, bk_M_right_29, cs_M_right]
    refine step 0 t hs (by omega) (step 1 _ (by rw [p1_o (by decide)]; exact hs) (by omega) (step 2 _ (by rw [p1_o (by decide), p1_o (by decide)]; exact hs) (by omega) ?_))
    refine hJ 2 _ _ _ _ ?_
    simp only [Nat.reduceAdd, Nat.reduceLeDiff, Nat.zero_le, true_or, or_true, run_s, e_nop, e_iconst, e_bipush, e_sipush, e_lconst, e_iload, e_iload_n, e_lload, e_lload_n, e_aload, e_aload_n, e_istore, e_istore_n, e_iinc, e_iadd, e_isub, e_imul, e_lcmp, e_dupI, e_dupR, e_dup2, e_getfield, e_putfield, e_iaload, e_baload, e_laload, e_iastore, e_bastore, e_lastore, e_if, e_icmp, e_goto, e_tsw, e_ireturn0, e_ireturn1, e_return, e_call0, e_call1, e_call2, e_call3, lI_e, lL_e, lR_e, ak_nth, ak_set, ak_ok1, ak_jp, ak_b1, ak_b2, ak_sw, ak_la, ak_pad, true_and, and_true, List.map_cons, List.map_nil, List.sum_cons, List.sum_nil, Value.category, Option.toList_some, Option.toList_none, List.cons_append, List.nil_append, gM_0_0, pM_0_0, gM_0_1, pM_0_1, gM_0_2, pM_0_2, gM_0_3, pM_0_3, gM_0_4, gM_0_5, gM_0_6, gM_0_7, gM_0_8, gM_0_9, gM_0_10, gM_0_11, gM_0_12, gM_0_13, gM_0_14, gM_0_15, gM_0_16, rM_0, kM_1, kM_2, kM_3, kM_4, kM_5, kM_6, kM_7, kM_8, kM_9, kM_10, kM_11, kM_12, kM_13, fd_M_right_0, fd_M_right_2, fd_M_right_29, bk_M_right_0, bk_M_right_2, bk_M_right_29, cs_M_right]
    refine ⟨fun _ => ?_, fun q => absurd (by decide) q⟩
    rw [m_tr_p, m_tr_p, m_tr_p]
    exact h
  · exact h.elim
set_option maxRecDepth 20000 in
theorem ct_M_right (l : Launch) : ak_Ctr l cl_all lay_M y_M_right ws_M_right rm_M_right pt_M_right := by
  refine ak_met (cs := cs_M_right) (reg := rg_M_right) (bl := bl_M_right) (by decide +kernel) rfl (cl_ok _) rfl ok_M_right ?_ vc_M_right
  intro a n b ci h
  match a, h with
  | 0, h =>
    cases h
    exact ak_ccV (ct_M_truth l) rfl 414 415 12 25 416 (by decide +kernel) ⟨rfl, rfl⟩ (by decide +kernel) (by decide +kernel)
  | k + 1, h => cases h
