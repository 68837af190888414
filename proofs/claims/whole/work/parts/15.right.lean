/-! setting a segment's pointers right; the rest of Segments but for the order -/
def c_tr (s : ak_S) (i p : Nat) : Int32 := if p = 0 then s.1 9 i else if p = 1 then s.1 12 i else s.1 13 i
def c_right (s : ak_S) (i : Nat) : ak_S := ak_p1 (ak_p1 (ak_p1 s 14 (3 * i) (s.1 9 i)) 14 (3 * i + 1) (s.1 12 i)) 14 (3 * i + 2) (s.1 13 i)
theorem c_tr_e (s : ak_S) (i : Nat) {p : Nat} (hp : p < 2147483648) : (if nI p = 0 then s.1 9 i else if nI p = 1 then s.1 12 i else s.1 13 i) = c_tr s i p := by
  have e0 : nI p = 0 ↔ p = 0 := by rw [n_0]; exact nI_eq hp (by omega)
  have e1 : nI p = 1 ↔ p = 1 := by rw [n_1]; exact nI_eq hp (by omega)
  simp only [e0, e1, c_tr]
def pt_S_setRight : ak_P := fun vs s Q => match vs with
  | [.ref 2, .int x] => ∃ i : Nat, i ≤ 250 ∧ x = nI i ∧ Q none (c_right s i)
  | _ => False
def cs_S_setRight : Nat → ak_P := fun a => match a with
  | _ => pt_S_truth
theorem vc_S_setRight : ak_VC lay_C cs_S_setRight bl_S_setRight 3 pt_S_setRight := by
  intro vs s Q h
  unfold pt_S_setRight at h
  split at h
  · rename_i x
    obtain ⟨i, hi, rfl, h⟩ := h
    refine ⟨Nat.le_of_ble_eq_true rfl, fun J hJ => ?_⟩
    have step : ∀ (p : Nat) (s : ak_S), p < 3 → J 2 [some (.ref 2), some (.int (nI i)), some (.int (nI (p + 1)))] [] (ak_p1 s 14 (3 * i + p) (c_tr s i p)) → J 2 [some (.ref 2), some (.int (nI i)), some (.int (nI p))] [] s := by
      intro p s hp hj
      refine hJ 2 _ _ _ _ ?_
      simp only [Nat.reduceAdd, Nat.reduceLeDiff, Nat.zero_le, true_or, or_true, run_s, e_nop, e_iconst, e_bipush, e_sipush, e_lconst, e_iload, e_iload_n, e_lload, e_lload_n, e_aload, e_aload_n, e_istore, e_istore_n, e_iinc, e_iadd, e_isub, e_imul, e_lcmp, e_dupI, e_dupR, e_dup2, e_getfield, e_putfield, e_iaload, e_baload, e_laload, e_iastore, e_bastore, e_lastore, e_if, e_icmp, e_goto, e_tsw, e_ireturn0, e_ireturn1, e_return, e_call0, e_call1, e_call2, e_call3, lI_e, lL_e, lR_e, ak_nth, ak_set, ak_ok1, ak_jp, ak_b1, ak_b2, ak_sw, ak_la, ak_pad, true_and, and_true, List.map_cons, List.map_nil, List.sum_cons, List.sum_nil, Value.category, Option.toList_some, Option.toList_none, List.cons_append, List.nil_append, gC_0_0, gC_0_1, gC_0_2, gC_0_3, rC_0, gC_1_0, pC_1_0, gC_1_1, gC_1_2, gC_1_3, rC_1, gC_2_0, pC_2_0, gC_2_1, gC_2_2, gC_2_3, gC_2_4, gC_2_5, gC_2_6, gC_2_7, gC_2_8, rC_2, gC_3_0, pC_3_0, gC_3_1, gC_3_2, rC_3, gC_4_0, gC_4_1, gC_4_2, gC_4_3, gC_4_4, pC_4_4, rC_4, kC_5, kC_6, kC_7, kC_8, kC_9, kC_10, kC_11, kC_12, kC_13, kC_14, kC_15, kC_16, kC_17, kC_18, kC_19, fd_S_setRight_0, fd_S_setRight_2, fd_S_setRight_29, bk_S_setRight_0, bk_S_setRight_2, bk_S_setRight_29, cs_S_setRight, pt_S_truth, nI_1]
      rw [n_3, q_le (by omega) (by omega), pk_mul, nI_add, q_cl (by omega), q_cl (by omega), c_tr_e s i (by omega), show i * 3 + p = 3 * i + p by omega]
      exact ⟨fun q => absurd q (by omega), fun _ => ⟨q_in (by omega) (by omega), q_in (by omega) (by omega), hj⟩⟩
    refine hJ 2 _ _ _ _ ?_
    simp only [Nat.reduceAdd, Nat.reduceLeDiff, Nat.zero_le, true_or, or_true, run_s, e_nop, e_iconst, e_bipush, e_sipush, e_lconst, e_iload, e_iload_n, e_lload, e_lload_n, e_aload, e_aload_n, e_istore, e_istore_n, e_iinc, e_iadd, e_isub, e_imul, e_lcmp, e_dupI, e_dupR, e_dup2, e_getfield, e_putfield, e_iaload, e_baload, e_laload, e_iastore, e_bastore, e_lastore, e_if, e_icmp, e_goto, e_tsw, e_ireturn0, e_ireturn1, e_return, e_call0, e_call1, e_call2, e_call3, lI_e, lL_e, lR_e, ak_nth, ak_set, ak_ok1, ak_jp, ak_b1, ak_b2, ak_sw, ak_la, ak_pad, true_and, and_true, List.map_cons, List.map_nil, List.sum_cons, List.sum_nil, Value.category, Option.toList_some, Option.toList_none, List.cons_append, List.nil_append, gC_0_0, gC_0_1, gC_0_2, gC_0_3, rC_0, gC_1_0, pC_1_0, gC_1_1, gC_1_2, gC_1_3, rC_1, gC_2_0, pC_2_0, gC_2_1, gC_2_2, gC_2_3, gC_2_4, gC_2_5, gC_2_6, gC_2_7, gC_2_8, rC_2, gC_3_0, pC_3_0, gC_3_1, gC_3_2, rC_3, gC_4_0, gC_4_1, gC_4_2, gC_4_3, gC_4_4, pC_4_4, rC_4, kC_5, kC_6, kC_7, kC_8, kC_9, kC_10, kC_11, kC_12, kC_13, kC_14, kC_15, kC_16, kC_17, kC_18, kC_19, fd_S_setRight_0, fd_S_setRight_2, fd_S_setRight_29, bk_S_setRight_0, bk_S_setRight_2, bk_S_setRight_29, cs_S_setRight, pt_S_truth]
    refine step 0 s (by omega) (step 1 _ (by omega) (step 2 _ (by omega) ?_))
    refine hJ 2 _ _ _ _ ?_
    simp only [Nat.reduceAdd, Nat.reduceLeDiff, Nat.zero_le, true_or, or_true, run_s, e_nop, e_iconst, e_bipush, e_sipush, e_lconst, e_iload, e_iload_n, e_lload, e_lload_n, e_aload, e_aload_n, e_istore, e_istore_n, e_iinc, e_iadd, e_isub, e_imul, e_lcmp, e_dupI, e_dupR, e_dup2, e_getfield, e_putfield, e_iaload, e_baload, e_laload, e_iastore, e_bastore, e_lastore, e_if, e_icmp, e_goto, e_tsw, e_ireturn0, e_ireturn1, e_return, e_call0, e_call1, e_call2, e_call3, lI_e, lL_e, lR_e, ak_nth, ak_set, ak_ok1, ak_jp, ak_b1, ak_b2, ak_sw, ak_la, ak_pad, true_and, and_true, List.map_cons, List.map_nil, List.sum_cons, List.sum_nil, Value.category, Option.toList_some, Option.toList_none, List.cons_append, List.nil_append, gC_0_0, gC_0_1, gC_0_2, gC_0_3, rC_0, gC_1_0, pC_1_0, gC_1_1, gC_1_2, gC_1_3, rC_1, gC_2_0, pC_2_0, gC_2_1, gC_2_2, gC_2_3, gC_2_4, gC_2_5, gC_2_6, gC_2_7, gC_2_8, rC_2, gC_3_0, pC_3_0, gC_3_1, gC_3_2, rC_3, gC_4_0, gC_4_1, gC_4_2, gC_4_3, gC_4_4, pC_4_4, rC_4, kC_5, kC_6, kC_7, kC_8, kC_9, kC_10, kC_11, kC_12, kC_13, kC_14, kC_15, kC_16, kC_17, kC_18, kC_19, fd_S_setRight_0, fd_S_setRight_2, fd_S_setRight_29, bk_S_setRight_0, bk_S_setRight_2, bk_S_setRight_29, cs_S_setRight, pt_S_truth]
    refine ⟨fun _ => ?_, fun q => absurd (by decide) q⟩
    have e : ak_p1 (ak_p1 (ak_p1 s 14 (3 * i + 0) (c_tr s i 0)) 14 (3 * i + 1) (c_tr (ak_p1 s 14 (3 * i + 0) (c_tr s i 0)) i 1)) 14 (3 * i + 2) (c_tr (ak_p1 (ak_p1 s 14 (3 * i + 0) (c_tr s i 0)) 14 (3 * i + 1) (c_tr (ak_p1 s 14 (3 * i + 0) (c_tr s i 0)) i 1)) i 2) = c_right s i := by
      simp [c_right, c_tr, p1_o]
    rw [e]
    exact h
  · exact h.elim
set_option maxRecDepth 20000 in
theorem ct_S_setRight (l : Launch) : ak_Ctr l cl_all lay_C y_S_setRight ws_S_setRight rm_S_setRight pt_S_setRight := by
  refine ak_met (cs := cs_S_setRight) (reg := rg_S_setRight) (bl := bl_S_setRight) (by decide +kernel) rfl (cl_ok _) rfl ok_S_setRight ?_ vc_S_setRight
  intro a n b ci h
  match a, h with
  | 0, h =>
    cases h
    exact ak_ccV (ct_S_truth l) rfl 208 209 1 22 210 (by decide +kernel) ⟨rfl, rfl⟩ (by decide +kernel) (by decide +kernel)
  | k + 1, h => cases h
def c_join (s : ak_S) (i o : Nat) : ak_S := c_right (c_right (ak_p1 (ak_p1 s 12 i (nI o)) 13 o (s.1 13 o + 1)) i) o
def pt_S_join : ak_P := fun vs s Q => match vs with
  | [.ref 2, .int x, .int y] => ∃ i o : Nat, i ≤ 250 ∧ o ≤ 250 ∧ x = nI i ∧ y = nI o ∧ Q none (c_join s i o)
  | _ => False
def cs_S_join : Nat → ak_P := fun a => match a with
  | _ => pt_S_setRight
theorem vc_S_join : ak_VC lay_C cs_S_join bl_S_join 3 pt_S_join := by
  intro vs s Q h
  unfold pt_S_join at h
  split at h
  · rename_i x y
    obtain ⟨i, o, hi, ho, rfl, rfl, h⟩ := h
    refine ⟨Nat.le_of_ble_eq_true rfl, fun J hJ => hJ 3 _ _ _ _ ?_⟩
    simp only [Nat.reduceAdd, Nat.reduceLeDiff, Nat.zero_le, true_or, or_true, run_s, e_nop, e_iconst, e_bipush, e_sipush, e_lconst, e_iload, e_iload_n, e_lload, e_lload_n, e_aload, e_aload_n, e_istore, e_istore_n, e_iinc, e_iadd, e_isub, e_imul, e_lcmp, e_dupI, e_dupR, e_dup2, e_getfield, e_putfield, e_iaload, e_baload, e_laload, e_iastore, e_bastore, e_lastore, e_if, e_icmp, e_goto, e_tsw, e_ireturn0, e_ireturn1, e_return, e_call0, e_call1, e_call2, e_call3, lI_e, lL_e, lR_e, ak_nth, ak_set, ak_ok1, ak_jp, ak_b1, ak_b2, ak_sw, ak_la, ak_pad, true_and, and_true, List.map_cons, List.map_nil, List.sum_cons, List.sum_nil, Value.category, Option.toList_some, Option.toList_none, List.cons_append, List.nil_append, gC_0_0, gC_0_1, gC_0_2, gC_0_3, rC_0, gC_1_0, pC_1_0, gC_1_1, gC_1_2, gC_1_3, rC_1, gC_2_0, pC_2_0, gC_2_1, gC_2_2, gC_2_3, gC_2_4, gC_2_5, gC_2_6, gC_2_7, gC_2_8, rC_2, gC_3_0, pC_3_0, gC_3_1, gC_3_2, rC_3, gC_4_0, gC_4_1, gC_4_2, gC_4_3, gC_4_4, pC_4_4, rC_4, kC_5, kC_6, kC_7, kC_8, kC_9, kC_10, kC_11, kC_12, kC_13, kC_14, kC_15, kC_16, kC_17, kC_18, kC_19, fd_S_join_0, bk_S_join_0, cs_S_join, pt_S_setRight]
    rw [q_cl (by omega), q_cl (by omega), p1_o (by decide)]
    exact ⟨q_in (by omega) (by omega), q_in (by omega) (by omega), q_in (by omega) (by omega), i, hi, rfl, o, ho, rfl, h⟩
  · exact h.elim
set_option maxRecDepth 20000 in
theorem ct_S_join (l : Launch) : ak_Ctr l cl_all lay_C y_S_join ws_S_join rm_S_join pt_S_join := by
  refine ak_met (cs := cs_S_join) (reg := rg_S_join) (bl := bl_S_join) (by decide +kernel) rfl (cl_ok _) rfl ok_S_join ?_ vc_S_join
  intro a n b ci h
  match a, h with
  | 0, h =>
    cases h
    exact ak_ccV (ct_S_setRight l) rfl 204 205 206 22 207 (by decide +kernel) ⟨rfl, rfl⟩ (by decide +kernel) (by decide +kernel)
  | k + 1, h => cases h
def c_part (s : ak_S) (i : Nat) : ak_S := if s.1 12 i = 0 then s else c_right (ak_p1 (ak_p1 s 12 i 0) 13 (s.1 12 i).toNatClampNeg (s.1 13 (s.1 12 i).toNatClampNeg - 1)) (s.1 12 i).toNatClampNeg
def pt_S_part : ak_P := fun vs s Q => match vs with
  | [.ref 2, .int x] => ∃ i o : Nat, i ≤ 250 ∧ o ≤ 250 ∧ x = nI i ∧ s.1 12 i = nI o ∧ Q none (c_part s i)
  | _ => False
def cs_S_part : Nat → ak_P := fun a => match a with
  | _ => pt_S_setRight
theorem vc_S_part : ak_VC lay_C cs_S_part bl_S_part 3 pt_S_part := by
  intro vs s Q h
  unfold pt_S_part at h
  split at h
  · rename_i x
    obtain ⟨i, o, hi, ho, rfl, hr, h⟩ := h
    refine ⟨Nat.le_of_ble_eq_true rfl, fun J hJ => hJ 3 _ _ _ _ ?_⟩
    simp only [Nat.reduceAdd, Nat.reduceLeDiff, Nat.zero_le, true_or, or_true, run_s, e_nop, e_iconst, e_bipush, e_sipush, e_lconst, e_iload, e_iload_n, e_lload, e_lload_n, e_aload, e_aload_n, e_istore, e_istore_n, e_iinc, e_iadd, e_isub, e_imul, e_lcmp, e_dupI, e_dupR, e_dup2, e_getfield, e_putfield, e_iaload, e_baload, e_laload, e_iastore, e_bastore, e_lastore, e_if, e_icmp, e_goto, e_tsw, e_ireturn0, e_ireturn1, e_return, e_call0, e_call1, e_call2, e_call3, lI_e, lL_e, lR_e, ak_nth, ak_set, ak_ok1, ak_jp, ak_b1, ak_b2, ak_sw, ak_la, ak_pad, true_and, and_true, List.map_cons, List.map_nil, List.sum_cons, List.sum_nil, Value.category, Option.toList_some, Option.toList_none, List.cons_append, List.nil_append, gC_0_0, gC_0_1, gC_0_2, gC_0_3, rC_0, gC_1_0, pC_1_0, gC_1_1, gC_1_2, gC_1_3, rC_1, gC_2_0, pC_2_0, gC_2_1, gC_2_2, gC_2_3, gC_2_4, gC_2_5, gC_2_6, gC_2_7, gC_2_8, rC_2, gC_3_0, pC_3_0, gC_3_1, gC_3_2, rC_3, gC_4_0, gC_4_1, gC_4_2, gC_4_3, gC_4_4, pC_4_4, rC_4, kC_5, kC_6, kC_7, kC_8, kC_9, kC_10, kC_11, kC_12, kC_13, kC_14, kC_15, kC_16, kC_17, kC_18, kC_19, fd_S_part_0, fd_S_part_12, bk_S_part_0, bk_S_part_12, cs_S_part, pt_S_setRight]
    rw [q_cl (by omega), hr, q_cl (by omega), p1_o (by decide)]
    unfold c_part at h
    rw [hr, q_cl (by omega)] at h
    refine ⟨q_in (by omega) (by omega), fun q => ?_, fun q => ?_⟩
    · rw [if_neg q] at h
      exact ⟨q_in (by omega) (by omega), q_in (by omega) (by omega), q_in (by omega) (by omega), o, ho, rfl, h⟩
    · rw [if_pos q] at h
      exact h
  · exact h.elim
set_option maxRecDepth 20000 in
theorem ct_S_part (l : Launch) : ak_Ctr l cl_all lay_C y_S_part ws_S_part rm_S_part pt_S_part := by
  refine ak_met (cs := cs_S_part) (reg := rg_S_part) (bl := bl_S_part) (by decide +kernel) rfl (cl_ok _) rfl ok_S_part ?_ vc_S_part
  intro a n b ci h
  match a, h with
  | 0, h =>
    cases h
    exact ak_ccV (ct_S_setRight l) rfl 204 205 206 22 207 (by decide +kernel) ⟨rfl, rfl⟩ (by decide +kernel) (by decide +kernel)
  | k + 1, h => cases h
def c_take (s : ak_S) (i : Nat) : ak_S := c_part (ak_p1 (ak_p1 s 11 i 2) 9 i 0) i
def pt_S_takeAway : ak_P := fun vs s Q => match vs with
  | [.ref 2, .int x] => ∃ i o : Nat, i ≤ 250 ∧ o ≤ 250 ∧ x = nI i ∧ s.1 12 i = nI o ∧ Q none (c_take s i)
  | _ => False
def cs_S_takeAway : Nat → ak_P := fun a => match a with
  | _ => pt_S_part
theorem vc_S_takeAway : ak_VC lay_C cs_S_takeAway bl_S_takeAway 2 pt_S_takeAway := by
  intro vs s Q h
  unfold pt_S_takeAway at h
  split at h
  · rename_i x
    obtain ⟨i, o, hi, ho, rfl, hr, h⟩ := h
    refine ⟨Nat.le_of_ble_eq_true rfl, fun J hJ => hJ 3 _ _ _ _ ?_⟩
    simp only [Nat.reduceAdd, Nat.reduceLeDiff, Nat.zero_le, true_or, or_true, run_s, e_nop, e_iconst, e_bipush, e_sipush, e_lconst, e_iload, e_iload_n, e_lload, e_lload_n, e_aload, e_aload_n, e_istore, e_istore_n, e_iinc, e_iadd, e_isub, e_imul, e_lcmp, e_dupI, e_dupR, e_dup2, e_getfield, e_putfield, e_iaload, e_baload, e_laload, e_iastore, e_bastore, e_lastore, e_if, e_icmp, e_goto, e_tsw, e_ireturn0, e_ireturn1, e_return, e_call0, e_call1, e_call2, e_call3, lI_e, lL_e, lR_e, ak_nth, ak_set, ak_ok1, ak_jp, ak_b1, ak_b2, ak_sw, ak_la, ak_pad, true_and, and_true, List.map_cons, List.map_nil, List.sum_cons, List.sum_nil, Value.category, Option.toList_some, Option.toList_none, List.cons_append, List.nil_append, gC_0_0, gC_0_1, gC_0_2, gC_0_3, rC_0, gC_1_0, pC_1_0, gC_1_1, gC_1_2, gC_1_3, rC_1, gC_2_0, pC_2_0, gC_2_1, gC_2_2, gC_2_3, gC_2_4, gC_2_5, gC_2_6, gC_2_7, gC_2_8, rC_2, gC_3_0, pC_3_0, gC_3_1, gC_3_2, rC_3, gC_4_0, gC_4_1, gC_4_2, gC_4_3, gC_4_4, pC_4_4, rC_4, kC_5, kC_6, kC_7, kC_8, kC_9, kC_10, kC_11, kC_12, kC_13, kC_14, kC_15, kC_16, kC_17, kC_18, kC_19, fd_S_takeAway_0, bk_S_takeAway_0, cs_S_takeAway, pt_S_part]
    rw [q_cl (by omega)]
    exact ⟨q_in (by omega) (by omega), q_in (by omega) (by omega), i, o, hi, ho, rfl, by rw [p1_o (by decide), p1_o (by decide)]; exact hr, h⟩
  · exact h.elim
set_option maxRecDepth 20000 in
theorem ct_S_takeAway (l : Launch) : ak_Ctr l cl_all lay_C y_S_takeAway ws_S_takeAway rm_S_takeAway pt_S_takeAway := by
  refine ak_met (cs := cs_S_takeAway) (reg := rg_S_takeAway) (bl := bl_S_takeAway) (by decide +kernel) rfl (cl_ok _) rfl ok_S_takeAway ?_ vc_S_takeAway
  intro a n b ci h
  match a, h with
  | 0, h =>
    cases h
    exact ak_ccV (ct_S_part l) rfl 252 253 254 22 255 (by decide +kernel) ⟨rfl, rfl⟩ (by decide +kernel) (by decide +kernel)
  | k + 1, h => cases h
def pt_S_wrongPointers : ak_P := fun vs s Q => match vs with
  | [.ref 2, .int x] => ∃ i : Nat, i ≤ 250 ∧ x = nI i ∧ Q (some (.int (nI (if s.1 11 i = 0 then 0 else cn (fun p => decide (¬ s.1 14 (3 * i + (p - 1)) = c_tr s i (p - 1))) 3)))) s
  | _ => False
def cs_S_wrongPointers : Nat → ak_P := fun a => match a with
  | _ => pt_S_truth
theorem vc_S_wrongPointers : ak_VC lay_C cs_S_wrongPointers bl_S_wrongPointers 4 pt_S_wrongPointers := by
  intro vs s Q h
  unfold pt_S_wrongPointers at h
  split at h
  · rename_i x
    obtain ⟨i, hi, rfl, h⟩ := h
    refine ⟨Nat.le_of_ble_eq_true rfl, fun J hJ => ?_⟩
    have loop : ∀ d p, p + d = 3 → s.1 11 i ≠ 0 → J 15 [some (.ref 2), some (.int (nI i)), some (.int (nI (cn (fun p => decide (¬ s.1 14 (3 * i + (p - 1)) = c_tr s i (p - 1))) p))), some (.int (nI p))] [] s := by
      intro d
      induction d with
      | zero =>
        intro p hp h0
        have e : p = 3 := by omega
        subst e
        refine hJ 2 _ _ _ _ ?_
        simp only [Nat.reduceAdd, Nat.reduceLeDiff, Nat.zero_le, true_or, or_true, run_s, e_nop, e_iconst, e_bipush, e_sipush, e_lconst, e_iload, e_iload_n, e_lload, e_lload_n, e_aload, e_aload_n, e_istore, e_istore_n, e_iinc, e_iadd, e_isub, e_imul, e_lcmp, e_dupI, e_dupR, e_dup2, e_getfield, e_putfield, e_iaload, e_baload, e_laload, e_iastore, e_bastore, e_lastore, e_if, e_icmp, e_goto, e_tsw, e_ireturn0, e_ireturn1, e_return, e_call0, e_call1, e_call2, e_call3, lI_e, lL_e, lR_e, ak_nth, ak_set, ak_ok1, ak_jp, ak_b1, ak_b2, ak_sw, ak_la, ak_pad, true_and, and_true, List.map_cons, List.map_nil, List.sum_cons, List.sum_nil, Value.category, Option.toList_some, Option.toList_none, List.cons_append, List.nil_append, gC_0_0, gC_0_1, gC_0_2, gC_0_3, rC_0, gC_1_0, pC_1_0, gC_1_1, gC_1_2, gC_1_3, rC_1, gC_2_0, pC_2_0, gC_2_1, gC_2_2, gC_2_3, gC_2_4, gC_2_5, gC_2_6, gC_2_7, gC_2_8, rC_2, gC_3_0, pC_3_0, gC_3_1, gC_3_2, rC_3, gC_4_0, gC_4_1, gC_4_2, gC_4_3, gC_4_4, pC_4_4, rC_4, kC_5, kC_6, kC_7, kC_8, kC_9, kC_10, kC_11, kC_12, kC_13, kC_14, kC_15, kC_16, kC_17, kC_18, kC_19, fd_S_wrongPointers_0, fd_S_wrongPointers_11, fd_S_wrongPointers_15, fd_S_wrongPointers_42, fd_S_wrongPointers_48, bk_S_wrongPointers_0, bk_S_wrongPointers_11, bk_S_wrongPointers_15, bk_S_wrongPointers_42, bk_S_wrongPointers_48, cs_S_wrongPointers, pt_S_truth]
        rw [if_neg h0] at h
        exact ⟨fun _ => h, fun q => absurd (by decide) q⟩
      | succ d ih =>
        intro p hp h0
        refine hJ 3 _ _ _ _ ?_
        simp only [Nat.reduceAdd, Nat.reduceLeDiff, Nat.zero_le, true_or, or_true, run_s, e_nop, e_iconst, e_bipush, e_sipush, e_lconst, e_iload, e_iload_n, e_lload, e_lload_n, e_aload, e_aload_n, e_istore, e_istore_n, e_iinc, e_iadd, e_isub, e_imul, e_lcmp, e_dupI, e_dupR, e_dup2, e_getfield, e_putfield, e_iaload, e_baload, e_laload, e_iastore, e_bastore, e_lastore, e_if, e_icmp, e_goto, e_tsw, e_ireturn0, e_ireturn1, e_return, e_call0, e_call1, e_call2, e_call3, lI_e, lL_e, lR_e, ak_nth, ak_set, ak_ok1, ak_jp, ak_b1, ak_b2, ak_sw, ak_la, ak_pad, true_and, and_true, List.map_cons, List.map_nil, List.sum_cons, List.sum_nil, Value.category, Option.toList_some, Option.toList_none, List.cons_append, List.nil_append, gC_0_0, gC_0_1, gC_0_2, gC_0_3, rC_0, gC_1_0, pC_1_0, gC_1_1, gC_1_2, gC_1_3, rC_1, gC_2_0, pC_2_0, gC_2_1, gC_2_2, gC_2_3, gC_2_4, gC_2_5, gC_2_6, gC_2_7, gC_2_8, rC_2, gC_3_0, pC_3_0, gC_3_1, gC_3_2, rC_3, gC_4_0, gC_4_1, gC_4_2, gC_4_3, gC_4_4, pC_4_4, rC_4, kC_5, kC_6, kC_7, kC_8, kC_9, kC_10, kC_11, kC_12, kC_13, kC_14, kC_15, kC_16, kC_17, kC_18, kC_19, fd_S_wrongPointers_0, fd_S_wrongPointers_11, fd_S_wrongPointers_15, fd_S_wrongPointers_42, fd_S_wrongPointers_48, bk_S_wrongPointers_0, bk_S_wrongPointers_11, bk_S_wrongPointers_15, bk_S_wrongPointers_42, bk_S_wrongPointers_48, cs_S_wrongPointers, pt_S_truth, nI_1]
        rw [n_3, q_le (by omega) (by omega), pk_mul, nI_add, q_cl (by omega), q_cl (by omega), c_tr_e s i (by omega), show i * 3 + p = 3 * i + p by omega]
        have hh := ih (p + 1) (by omega) h0
        refine ⟨fun q => absurd q (by omega), fun _ => ⟨q_in (by omega) (by omega), q_in (by omega) (by omega), fun q => ?_, fun q => ?_⟩⟩
        · simpa [cn, q] using hh
        · simpa [cn, q] using hh
    refine hJ 3 _ _ _ _ ?_
    simp only [Nat.reduceAdd, Nat.reduceLeDiff, Nat.zero_le, true_or, or_true, run_s, e_nop, e_iconst, e_bipush, e_sipush, e_lconst, e_iload, e_iload_n, e_lload, e_lload_n, e_aload, e_aload_n, e_istore, e_istore_n, e_iinc, e_iadd, e_isub, e_imul, e_lcmp, e_dupI, e_dupR, e_dup2, e_getfield, e_putfield, e_iaload, e_baload, e_laload, e_iastore, e_bastore, e_lastore, e_if, e_icmp, e_goto, e_tsw, e_ireturn0, e_ireturn1, e_return, e_call0, e_call1, e_call2, e_call3, lI_e, lL_e, lR_e, ak_nth, ak_set, ak_ok1, ak_jp, ak_b1, ak_b2, ak_sw, ak_la, ak_pad, true_and, and_true, List.map_cons, List.map_nil, List.sum_cons, List.sum_nil, Value.category, Option.toList_some, Option.toList_none, List.cons_append, List.nil_append, gC_0_0, gC_0_1, gC_0_2, gC_0_3, rC_0, gC_1_0, pC_1_0, gC_1_1, gC_1_2, gC_1_3, rC_1, gC_2_0, pC_2_0, gC_2_1, gC_2_2, gC_2_3, gC_2_4, gC_2_5, gC_2_6, gC_2_7, gC_2_8, rC_2, gC_3_0, pC_3_0, gC_3_1, gC_3_2, rC_3, gC_4_0, gC_4_1, gC_4_2, gC_4_3, gC_4_4, pC_4_4, rC_4, kC_5, kC_6, kC_7, kC_8, kC_9, kC_10, kC_11, kC_12, kC_13, kC_14, kC_15, kC_16, kC_17, kC_18, kC_19, fd_S_wrongPointers_0, fd_S_wrongPointers_11, fd_S_wrongPointers_15, fd_S_wrongPointers_42, fd_S_wrongPointers_48, bk_S_wrongPointers_0, bk_S_wrongPointers_11, bk_S_wrongPointers_15, bk_S_wrongPointers_42, bk_S_wrongPointers_48, cs_S_wrongPointers]
    rw [q_cl (by omega)]
    refine ⟨q_in (by omega) (by omega), fun q => ?_, fun q => ?_⟩
    · exact loop 3 0 (by omega) q
    · rw [if_pos q] at h
      exact h
  · exact h.elim
set_option maxRecDepth 20000 in
theorem ct_S_wrongPointers (l : Launch) : ak_Ctr l cl_all lay_C y_S_wrongPointers ws_S_wrongPointers rm_S_wrongPointers pt_S_wrongPointers := by
  refine ak_met (cs := cs_S_wrongPointers) (reg := rg_S_wrongPointers) (bl := bl_S_wrongPointers) (by decide +kernel) rfl (cl_ok _) rfl ok_S_wrongPointers ?_ vc_S_wrongPointers
  intro a n b ci h
  match a, h with
  | 0, h =>
    cases h
    exact ak_ccV (ct_S_truth l) rfl 208 209 1 22 210 (by decide +kernel) ⟨rfl, rfl⟩ (by decide +kernel) (by decide +kernel)
  | k + 1, h => cases h
