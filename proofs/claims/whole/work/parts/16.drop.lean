/-! those without a count are dropped -/
def c_drop (s : ak_S) (n : Nat) : ak_S := (fun k => if k = 11 then (fun i => if 1 ≤ i ∧ i ≤ n ∧ s.1 11 i = 2 ∧ s.1 13 i = 0 then 0 else s.1 11 i) else s.1 k, s.2)
theorem c_drop_0 (s : ak_S) : c_drop s 0 = s := by
  have : (fun k => if k = 11 then (fun i => if 1 ≤ i ∧ i ≤ 0 ∧ s.1 11 i = 2 ∧ s.1 13 i = 0 then 0 else s.1 11 i) else s.1 k) = s.1 := by
    funext k i
    by_cases hk : k = 11
    · subst hk
      rw [if_pos rfl, if_neg (by omega)]
    · rw [if_neg hk]
  unfold c_drop
  rw [this]
theorem c_drop_s (s : ak_S) (n : Nat) : c_drop s (n + 1) = if s.1 11 (n + 1) = 2 ∧ s.1 13 (n + 1) = 0 then ak_p1 (c_drop s n) 11 (n + 1) 0 else c_drop s n := by
  split
  · rename_i h
    apply Prod.ext
    · funext k i
      by_cases hk : k = 11
      · subst hk
        simp only [c_drop, ak_p1, if_true, upd]
        by_cases hi : i = n + 1
        · subst hi
          rw [if_pos ⟨by omega, by omega, h.1, h.2⟩, if_pos rfl]
        · rw [if_neg hi]
          by_cases hc : 1 ≤ i ∧ i ≤ n ∧ s.1 11 i = 2 ∧ s.1 13 i = 0
          · rw [if_pos hc, if_pos ⟨hc.1, by omega, hc.2.2⟩]
          · rw [if_neg hc, if_neg (fun q => hc ⟨q.1, by omega, q.2.2⟩)]
      · simp [c_drop, ak_p1, hk]
    · rfl
  · rename_i h
    apply Prod.ext
    · funext k i
      by_cases hk : k = 11
      · subst hk
        simp only [c_drop, if_true]
        by_cases hi : i = n + 1
        · subst hi
          rw [if_neg (fun q => h q.2.2), if_neg (fun q => h q.2.2)]
        · by_cases hc : 1 ≤ i ∧ i ≤ n ∧ s.1 11 i = 2 ∧ s.1 13 i = 0
          · rw [if_pos hc, if_pos ⟨hc.1, by omega, hc.2.2⟩]
          · rw [if_neg hc, if_neg (fun q => hc ⟨q.1, by omega, q.2.2⟩)]
      · simp [c_drop, hk]
    · rfl
theorem c_drop_o {s : ak_S} {n k : Nat} (h : k ≠ 11) (i : Nat) : (c_drop s n).1 k i = s.1 k i := by simp [c_drop, h]
theorem c_drop_in {s : ak_S} {n i : Nat} (h : n < i) : (c_drop s n).1 11 i = s.1 11 i := by
  simp only [c_drop, if_true]
  rw [if_neg (by omega)]
def pt_S_dropThoseWithoutCount : ak_P := fun vs s Q => match vs with
  | [.ref 2] => ∃ n : Nat, n ≤ 250 ∧ s.1 2 0 = nI n ∧ Q none (c_drop s n)
  | _ => False
def cs_S_dropThoseWithoutCount : Nat → ak_P := fun _ _ _ _ => False
theorem vc_S_dropThoseWithoutCount : ak_VC lay_C cs_S_dropThoseWithoutCount bl_S_dropThoseWithoutCount 2 pt_S_dropThoseWithoutCount := by
  intro vs s Q h
  unfold pt_S_dropThoseWithoutCount at h
  split at h
  · obtain ⟨n, hn, hs, h⟩ := h
    refine ⟨Nat.le_of_ble_eq_true rfl, fun J hJ => ?_⟩
    have loop : ∀ d i, i + d = n → J 2 [some (.ref 2), some (.int (nI (i + 1)))] [] (c_drop s i) := by
      intro d
      induction d with
      | zero =>
        intro i hi
        refine hJ 3 _ _ _ _ ?_
        simp only [Nat.reduceAdd, Nat.reduceLeDiff, Nat.zero_le, true_or, or_true, run_s, e_nop, e_iconst, e_bipush, e_sipush, e_lconst, e_iload, e_iload_n, e_lload, e_lload_n, e_aload, e_aload_n, e_istore, e_istore_n, e_iinc, e_iadd, e_isub, e_imul, e_lcmp, e_dupI, e_dupR, e_dup2, e_getfield, e_putfield, e_iaload, e_baload, e_laload, e_iastore, e_bastore, e_lastore, e_if, e_icmp, e_goto, e_tsw, e_ireturn0, e_ireturn1, e_return, e_call0, e_call1, e_call2, e_call3, lI_e, lL_e, lR_e, ak_nth, ak_set, ak_ok1, ak_jp, ak_b1, ak_b2, ak_sw, ak_la, ak_pad, true_and, and_true, List.map_cons, List.map_nil, List.sum_cons, List.sum_nil, Value.category, Option.toList_some, Option.toList_none, List.cons_append, List.nil_append, gC_0_0, gC_0_1, gC_0_2, gC_0_3, rC_0, gC_1_0, pC_1_0, gC_1_1, gC_1_2, gC_1_3, rC_1, gC_2_0, pC_2_0, gC_2_1, gC_2_2, gC_2_3, gC_2_4, gC_2_5, gC_2_6, gC_2_7, gC_2_8, rC_2, gC_3_0, pC_3_0, gC_3_1, gC_3_2, rC_3, gC_4_0, gC_4_1, gC_4_2, gC_4_3, gC_4_4, pC_4_4, rC_4, kC_5, kC_6, kC_7, kC_8, kC_9, kC_10, kC_11, kC_12, kC_13, kC_14, kC_15, kC_16, kC_17, kC_18, kC_19, fd_S_dropThoseWithoutCount_0, fd_S_dropThoseWithoutCount_2, fd_S_dropThoseWithoutCount_36, fd_S_dropThoseWithoutCount_42, bk_S_dropThoseWithoutCount_0, bk_S_dropThoseWithoutCount_2, bk_S_dropThoseWithoutCount_36, bk_S_dropThoseWithoutCount_42]
        rw [c_drop_o (by decide), hs, q_lt (by omega) (by omega)]
        refine ⟨fun _ => ?_, fun q => absurd (by omega) q⟩
        have e : i = n := by omega
        rw [e]
        exact h
      | succ d ih =>
        intro i hi
        refine hJ 3 _ _ _ _ ?_
        simp only [Nat.reduceAdd, Nat.reduceLeDiff, Nat.zero_le, true_or, or_true, run_s, e_nop, e_iconst, e_bipush, e_sipush, e_lconst, e_iload, e_iload_n, e_lload, e_lload_n, e_aload, e_aload_n, e_istore, e_istore_n, e_iinc, e_iadd, e_isub, e_imul, e_lcmp, e_dupI, e_dupR, e_dup2, e_getfield, e_putfield, e_iaload, e_baload, e_laload, e_iastore, e_bastore, e_lastore, e_if, e_icmp, e_goto, e_tsw, e_ireturn0, e_ireturn1, e_return, e_call0, e_call1, e_call2, e_call3, lI_e, lL_e, lR_e, ak_nth, ak_set, ak_ok1, ak_jp, ak_b1, ak_b2, ak_sw, ak_la, ak_pad, true_and, and_true, List.map_cons, List.map_nil, List.sum_cons, List.sum_nil, Value.category, Option.toList_some, Option.toList_none, List.cons_append, List.nil_append, gC_0_0, gC_0_1, gC_0_2, gC_0_3, rC_0, gC_1_0, pC_1_0, gC_1_1, gC_1_2, gC_1_3, rC_1, gC_2_0, pC_2_0, gC_2_1, gC_2_2, gC_2_3, gC_2_4, gC_2_5, gC_2_6, gC_2_7, gC_2_8, rC_2, gC_3_0, pC_3_0, gC_3_1, gC_3_2, rC_3, gC_4_0, gC_4_1, gC_4_2, gC_4_3, gC_4_4, pC_4_4, rC_4, kC_5, kC_6, kC_7, kC_8, kC_9, kC_10, kC_11, kC_12, kC_13, kC_14, kC_15, kC_16, kC_17, kC_18, kC_19, fd_S_dropThoseWithoutCount_0, fd_S_dropThoseWithoutCount_2, fd_S_dropThoseWithoutCount_36, fd_S_dropThoseWithoutCount_42, bk_S_dropThoseWithoutCount_0, bk_S_dropThoseWithoutCount_2, bk_S_dropThoseWithoutCount_36, bk_S_dropThoseWithoutCount_42, nI_1]
        rw [c_drop_o (by decide), hs, q_lt (by omega) (by omega), q_cl (by omega), c_drop_in (s := s) (n := i) (i := i + 1) (by omega), c_drop_o (k := 13) (by decide)]
        have hh := ih (i + 1) (by omega)
        rw [c_drop_s] at hh
        refine ⟨fun q => absurd q (by omega), fun _ => ⟨q_in (by omega) (by omega), fun q => ?_, fun q => ⟨q_in (by omega) (by omega), fun q2 => ?_, fun q2 => ⟨q_in (by omega) (by omega), ?_⟩⟩⟩⟩
        · rw [if_neg (fun z => q z.1)] at hh
          exact hh
        · rw [if_neg (fun z => q2 z.2)] at hh
          exact hh
        · rw [if_pos ⟨q, q2⟩] at hh
          exact hh
    refine hJ 3 _ _ _ _ ?_
    simp only [Nat.reduceAdd, Nat.reduceLeDiff, Nat.zero_le, true_or, or_true, run_s, e_nop, e_iconst, e_bipush, e_sipush, e_lconst, e_iload, e_iload_n, e_lload, e_lload_n, e_aload, e_aload_n, e_istore, e_istore_n, e_iinc, e_iadd, e_isub, e_imul, e_lcmp, e_dupI, e_dupR, e_dup2, e_getfield, e_putfield, e_iaload, e_baload, e_laload, e_iastore, e_bastore, e_lastore, e_if, e_icmp, e_goto, e_tsw, e_ireturn0, e_ireturn1, e_return, e_call0, e_call1, e_call2, e_call3, lI_e, lL_e, lR_e, ak_nth, ak_set, ak_ok1, ak_jp, ak_b1, ak_b2, ak_sw, ak_la, ak_pad, true_and, and_true, List.map_cons, List.map_nil, List.sum_cons, List.sum_nil, Value.category, Option.toList_some, Option.toList_none, List.cons_append, List.nil_append, gC_0_0, gC_0_1, gC_0_2, gC_0_3, rC_0, gC_1_0, pC_1_0, gC_1_1, gC_1_2, gC_1_3, rC_1, gC_2_0, pC_2_0, gC_2_1, gC_2_2, gC_2_3, gC_2_4, gC_2_5, gC_2_6, gC_2_7, gC_2_8, rC_2, gC_3_0, pC_3_0, gC_3_1, gC_3_2, rC_3, gC_4_0, gC_4_1, gC_4_2, gC_4_3, gC_4_4, pC_4_4, rC_4, kC_5, kC_6, kC_7, kC_8, kC_9, kC_10, kC_11, kC_12, kC_13, kC_14, kC_15, kC_16, kC_17, kC_18, kC_19, fd_S_dropThoseWithoutCount_0, fd_S_dropThoseWithoutCount_2, fd_S_dropThoseWithoutCount_36, fd_S_dropThoseWithoutCount_42, bk_S_dropThoseWithoutCount_0, bk_S_dropThoseWithoutCount_2, bk_S_dropThoseWithoutCount_36, bk_S_dropThoseWithoutCount_42]
    have := loop n 0 (by omega)
    rw [c_drop_0] at this
    exact this
  · exact h.elim
set_option maxRecDepth 20000 in
theorem ct_S_dropThoseWithoutCount (l : Launch) : ak_Ctr l cl_all lay_C y_S_dropThoseWithoutCount ws_S_dropThoseWithoutCount rm_S_dropThoseWithoutCount pt_S_dropThoseWithoutCount := by
  refine ak_met (cs := cs_S_dropThoseWithoutCount) (reg := rg_S_dropThoseWithoutCount) (bl := bl_S_dropThoseWithoutCount) (by decide +kernel) rfl (cl_ok _) rfl ok_S_dropThoseWithoutCount ?_ vc_S_dropThoseWithoutCount
  intro a n b ci h
  match a, h with
  | k + 0, h => cases h
