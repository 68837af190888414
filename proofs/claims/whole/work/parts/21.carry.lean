/-! what bars; carrying a deletion out -/
def pt_D_isBarred : ak_P := fun vs s Q => match vs with
  | [.ref 4] => ∃ n : Nat, n ≤ 250 ∧ s.1 2 0 = nI n ∧ (∀ j, 1 ≤ j → j ≤ n → ∃ c, c < 16 ∧ s.1 8 j = nI c) ∧ (∀ j, 1 ≤ j → j ≤ n → ∃ o, o ≤ 250 ∧ s.1 12 j = nI o) ∧
      ((∃ j, 1 ≤ j ∧ j ≤ n ∧ s.1 18 j = 0 ∧ ¬ s.1 18 (s.1 12 j).toNatClampNeg = 0 ∧ s.1 7 (s.1 8 j).toNatClampNeg = 0) → Q (some (.int 1)) s) ∧ ((∀ j, 1 ≤ j → j ≤ n → ¬ (s.1 18 j = 0 ∧ ¬ s.1 18 (s.1 12 j).toNatClampNeg = 0 ∧ s.1 7 (s.1 8 j).toNatClampNeg = 0)) → Q (some (.int 0)) s)
  | _ => False
def cs_D_isBarred : Nat → ak_P := fun a => match a with
  | _ => pt_D_isRelatedByRule
theorem vc_D_isBarred : ak_VC lay_C cs_D_isBarred bl_D_isBarred 3 pt_D_isBarred := by
  intro vs s Q h
  unfold pt_D_isBarred at h
  split at h
  · obtain ⟨n, hn, hs, hk, hr, hy, hno⟩ := h
    refine ⟨Nat.le_of_ble_eq_true rfl, fun J hJ => ?_⟩
    have loop : ∀ d i (o : Option Value), i + d = n → (∀ j, 1 ≤ j → j ≤ i → ¬ (s.1 18 j = 0 ∧ ¬ s.1 18 (s.1 12 j).toNatClampNeg = 0 ∧ s.1 7 (s.1 8 j).toNatClampNeg = 0)) → J 2 [some (.ref 4), some (.int (nI (i + 1))), o] [] s := by
      intro d
      induction d with
      | zero =>
        intro i o hi hq
        refine hJ 3 _ _ _ _ ?_
        simp only [Nat.reduceAdd, Nat.reduceLeDiff, Nat.zero_le, true_or, or_true, run_s, e_nop, e_iconst, e_bipush, e_sipush, e_lconst, e_iload, e_iload_n, e_lload, e_lload_n, e_aload, e_aload_n, e_istore, e_istore_n, e_iinc, e_iadd, e_isub, e_imul, e_lcmp, e_dupI, e_dupR, e_dup2, e_getfield, e_putfield, e_iaload, e_baload, e_laload, e_iastore, e_bastore, e_lastore, e_if, e_icmp, e_goto, e_tsw, e_ireturn0, e_ireturn1, e_return, e_call0, e_call1, e_call2, e_call3, lI_e, lL_e, lR_e, ak_nth, ak_set, ak_ok1, ak_jp, ak_b1, ak_b2, ak_sw, ak_la, ak_pad, true_and, and_true, List.map_cons, List.map_nil, List.sum_cons, List.sum_nil, Value.category, Option.toList_some, Option.toList_none, List.cons_append, List.nil_append, gC_0_0, gC_0_1, gC_0_2, gC_0_3, rC_0, gC_1_0, pC_1_0, gC_1_1, gC_1_2, gC_1_3, rC_1, gC_2_0, pC_2_0, gC_2_1, gC_2_2, gC_2_3, gC_2_4, gC_2_5, gC_2_6, gC_2_7, gC_2_8, rC_2, gC_3_0, pC_3_0, gC_3_1, gC_3_2, rC_3, gC_4_0, gC_4_1, gC_4_2, gC_4_3, gC_4_4, pC_4_4, rC_4, kC_5, kC_6, kC_7, kC_8, kC_9, kC_10, kC_11, kC_12, kC_13, kC_14, kC_15, kC_16, kC_17, kC_18, kC_19, fd_D_isBarred_0, fd_D_isBarred_2, fd_D_isBarred_53, fd_D_isBarred_59, bk_D_isBarred_0, bk_D_isBarred_2, bk_D_isBarred_53, bk_D_isBarred_59, cs_D_isBarred, hs]
        rw [q_lt (by omega) (by omega)]
        refine ⟨fun _ => hno ?_, fun q => absurd (by omega) q⟩
        intro j h1 h2
        exact hq j h1 (by omega)
      | succ d ih =>
        intro i o hi hq
        obtain ⟨c, hc, hkc⟩ := hk (i + 1) (by omega) (by omega)
        obtain ⟨r, hr1, hr2⟩ := hr (i + 1) (by omega) (by omega)
        have go : ¬ (s.1 18 (i + 1) = 0 ∧ ¬ s.1 18 (s.1 12 (i + 1)).toNatClampNeg = 0 ∧ s.1 7 (s.1 8 (i + 1)).toNatClampNeg = 0) → J 2 [some (.ref 4), some (.int (nI (i + 1 + 1))), some (.int (s.1 12 (i + 1)))] [] s := by
          intro z
          refine ih (i + 1) _ (by omega) (fun j h1 h2 => ?_)
          by_cases e : j = i + 1
          · rw [e]; exact z
          · exact hq j h1 (by omega)
        refine hJ 3 _ _ _ _ ?_
        simp only [Nat.reduceAdd, Nat.reduceLeDiff, Nat.zero_le, true_or, or_true, run_s, e_nop, e_iconst, e_bipush, e_sipush, e_lconst, e_iload, e_iload_n, e_lload, e_lload_n, e_aload, e_aload_n, e_istore, e_istore_n, e_iinc, e_iadd, e_isub, e_imul, e_lcmp, e_dupI, e_dupR, e_dup2, e_getfield, e_putfield, e_iaload, e_baload, e_laload, e_iastore, e_bastore, e_lastore, e_if, e_icmp, e_goto, e_tsw, e_ireturn0, e_ireturn1, e_return, e_call0, e_call1, e_call2, e_call3, lI_e, lL_e, lR_e, ak_nth, ak_set, ak_ok1, ak_jp, ak_b1, ak_b2, ak_sw, ak_la, ak_pad, true_and, and_true, List.map_cons, List.map_nil, List.sum_cons, List.sum_nil, Value.category, Option.toList_some, Option.toList_none, List.cons_append, List.nil_append, gC_0_0, gC_0_1, gC_0_2, gC_0_3, rC_0, gC_1_0, pC_1_0, gC_1_1, gC_1_2, gC_1_3, rC_1, gC_2_0, pC_2_0, gC_2_1, gC_2_2, gC_2_3, gC_2_4, gC_2_5, gC_2_6, gC_2_7, gC_2_8, rC_2, gC_3_0, pC_3_0, gC_3_1, gC_3_2, rC_3, gC_4_0, gC_4_1, gC_4_2, gC_4_3, gC_4_4, pC_4_4, rC_4, kC_5, kC_6, kC_7, kC_8, kC_9, kC_10, kC_11, kC_12, kC_13, kC_14, kC_15, kC_16, kC_17, kC_18, kC_19, fd_D_isBarred_0, fd_D_isBarred_2, fd_D_isBarred_53, fd_D_isBarred_59, bk_D_isBarred_0, bk_D_isBarred_2, bk_D_isBarred_53, bk_D_isBarred_59, cs_D_isBarred, hs, nI_1, pt_D_isRelatedByRule]
        rw [q_lt (by omega) (by omega), q_cl (by omega), hr2, q_cl (by omega)]
        rw [hr2, q_cl (by omega), hkc, q_cl (by omega)] at go
        refine ⟨fun q => absurd q (by omega), fun _ => ⟨q_in (by omega) (by omega), q_in (by omega) (by omega), fun q => go (fun z => q z.1), fun q => ⟨q_in (by omega) (by omega), fun q2 => go (fun z => z.2.1 q2), fun q2 => ⟨i + 1, c, by omega, hc, rfl, hkc, fun q3 => go (fun z => ?_), fun q3 => hy ⟨i + 1, by omega, by omega, q, ?_, ?_⟩⟩⟩⟩⟩
        · rw [if_pos ⟨hr2, z.2.2⟩] at q3
          exact absurd q3 (by decide)
        · rw [hr2, q_cl (by omega)]; exact q2
        · rw [hkc, q_cl (by omega)]
          by_cases z : s.1 7 c = 0
          · exact z
          · rw [if_neg (fun y => z y.2)] at q3
            exact absurd rfl q3
    refine hJ 3 _ _ _ _ ?_
    simp only [Nat.reduceAdd, Nat.reduceLeDiff, Nat.zero_le, true_or, or_true, run_s, e_nop, e_iconst, e_bipush, e_sipush, e_lconst, e_iload, e_iload_n, e_lload, e_lload_n, e_aload, e_aload_n, e_istore, e_istore_n, e_iinc, e_iadd, e_isub, e_imul, e_lcmp, e_dupI, e_dupR, e_dup2, e_getfield, e_putfield, e_iaload, e_baload, e_laload, e_iastore, e_bastore, e_lastore, e_if, e_icmp, e_goto, e_tsw, e_ireturn0, e_ireturn1, e_return, e_call0, e_call1, e_call2, e_call3, lI_e, lL_e, lR_e, ak_nth, ak_set, ak_ok1, ak_jp, ak_b1, ak_b2, ak_sw, ak_la, ak_pad, true_and, and_true, List.map_cons, List.map_nil, List.sum_cons, List.sum_nil, Value.category, Option.toList_some, Option.toList_none, List.cons_append, List.nil_append, gC_0_0, gC_0_1, gC_0_2, gC_0_3, rC_0, gC_1_0, pC_1_0, gC_1_1, gC_1_2, gC_1_3, rC_1, gC_2_0, pC_2_0, gC_2_1, gC_2_2, gC_2_3, gC_2_4, gC_2_5, gC_2_6, gC_2_7, gC_2_8, rC_2, gC_3_0, pC_3_0, gC_3_1, gC_3_2, rC_3, gC_4_0, gC_4_1, gC_4_2, gC_4_3, gC_4_4, pC_4_4, rC_4, kC_5, kC_6, kC_7, kC_8, kC_9, kC_10, kC_11, kC_12, kC_13, kC_14, kC_15, kC_16, kC_17, kC_18, kC_19, fd_D_isBarred_0, fd_D_isBarred_2, fd_D_isBarred_53, fd_D_isBarred_59, bk_D_isBarred_0, bk_D_isBarred_2, bk_D_isBarred_53, bk_D_isBarred_59, cs_D_isBarred]
    exact loop n 0 _ (by omega) (fun j h1 h2 => absurd h2 (by omega))
  · exact h.elim
set_option maxRecDepth 20000 in
theorem ct_D_isBarred (l : Launch) : ak_Ctr l cl_all lay_C y_D_isBarred ws_D_isBarred rm_D_isBarred pt_D_isBarred := by
  refine ak_met (cs := cs_D_isBarred) (reg := rg_D_isBarred) (bl := bl_D_isBarred) (by decide +kernel) rfl (cl_ok _) rfl ok_D_isBarred ?_ vc_D_isBarred
  intro a n b ci h
  match a, h with
  | 0, h =>
    cases h
    exact ak_ccV (ct_D_isRelatedByRule l) rfl 237 238 5 24 239 (by decide +kernel) ⟨rfl, rfl⟩ (by decide +kernel) (by decide +kernel)
  | k + 1, h => cases h
theorem c_part_o {s : ak_S} {i k j : Nat} (h1 : k ≠ 12) (h2 : k ≠ 13) (h3 : k ≠ 14) : (c_part s i).1 k j = s.1 k j := by
  unfold c_part
  split
  · rfl
  · rw [c_right_o h3, p1_o h2, p1_o h1]
theorem c_take_o {s : ak_S} {i k j : Nat} (h1 : k ≠ 12) (h2 : k ≠ 13) (h3 : k ≠ 14) (h4 : k ≠ 11) (h5 : k ≠ 9) : (c_take s i).1 k j = s.1 k j := by rw [c_take, c_part_o h1 h2 h3, p1_o h5, p1_o h4]
theorem c_take_12 {s : ak_S} {i j : Nat} : (c_take s i).1 12 j = if j = i then 0 else s.1 12 j := by
  unfold c_take c_part
  rw [show (ak_p1 (ak_p1 s 11 i 2) 9 i 0).1 12 i = s.1 12 i by rw [p1_o (by decide), p1_o (by decide)]]
  split
  · rename_i h
    rw [p1_o (by decide), p1_o (by decide)]
    by_cases e : j = i
    · rw [if_pos e, e, h]
    · rw [if_neg e]
  · rw [c_right_o (by decide), p1_o (by decide), p1_s]
    by_cases e : j = i
    · rw [if_pos e, if_pos e]
    · rw [if_neg e, if_neg e, p1_o (by decide), p1_o (by decide)]
def c_takes (s : ak_S) : Nat → ak_S
  | 0 => s
  | m + 1 => c_take (c_takes s m) (s.1 19 m).toNatClampNeg
def c_rights (s : ak_S) : Nat → ak_S
  | 0 => s
  | m + 1 => c_right (c_rights s m) (s.1 19 m).toNatClampNeg
theorem c_takes_o {s : ak_S} {m k j : Nat} (h1 : k ≠ 12) (h2 : k ≠ 13) (h3 : k ≠ 14) (h4 : k ≠ 11) (h5 : k ≠ 9) : (c_takes s m).1 k j = s.1 k j := by
  induction m with
  | zero => rfl
  | succ m ih => rw [c_takes, c_take_o h1 h2 h3 h4 h5, ih]
theorem c_rights_o {s : ak_S} {m k j : Nat} (h3 : k ≠ 14) : (c_rights s m).1 k j = s.1 k j := by
  induction m with
  | zero => rfl
  | succ m ih => rw [c_rights, c_right_o h3, ih]
theorem c_takes_12 {s : ak_S} {m j : Nat} : (c_takes s m).1 12 j = 0 ∨ (c_takes s m).1 12 j = s.1 12 j := by
  induction m with
  | zero => exact Or.inr rfl
  | succ m ih =>
    rw [c_takes, c_take_12]
    split
    · exact Or.inl rfl
    · exact ih
def pt_D_carryOut : ak_P := fun vs s Q => match vs with
  | [.ref 4] => ∃ n m : Nat, n ≤ 250 ∧ m ≤ 250 ∧ s.1 2 0 = nI n ∧ s.1 4 4 = nI m ∧ (∀ p, p < m → ∃ e, e ≤ 250 ∧ s.1 19 p = nI e) ∧ (∀ j, j ≤ 250 → ∃ o, o ≤ 250 ∧ s.1 12 j = nI o) ∧ Q none (c_drop (c_rights (c_takes s m) m) n)
  | _ => False
def cs_D_carryOut : Nat → ak_P := fun a => match a with
  | 0 => pt_S_takeAway
  | 1 => pt_S_setRight
  | _ => pt_S_dropThoseWithoutCount
theorem vc_D_carryOut : ak_VC lay_C cs_D_carryOut bl_D_carryOut 2 pt_D_carryOut := by
  intro vs s Q h
  unfold pt_D_carryOut at h
  split at h
  · obtain ⟨n, m, hn, hm, hs, hsm, hg, hr, h⟩ := h
    refine ⟨Nat.le_of_ble_eq_true rfl, fun J hJ => ?_⟩
    have loop2 : ∀ d p, p + d = m → J 31 [some (.ref 4), some (.int (nI p))] [] (c_rights (c_takes s m) p) := by
      intro d
      induction d with
      | zero =>
        intro p hp
        have e : p = m := by omega
        subst e
        refine hJ 3 _ _ _ _ ?_
        simp only [Nat.reduceAdd, Nat.reduceLeDiff, Nat.zero_le, true_or, or_true, run_s, e_nop, e_iconst, e_bipush, e_sipush, e_lconst, e_iload, e_iload_n, e_lload, e_lload_n, e_aload, e_aload_n, e_istore, e_istore_n, e_iinc, e_iadd, e_isub, e_imul, e_lcmp, e_dupI, e_dupR, e_dup2, e_getfield, e_putfield, e_iaload, e_baload, e_laload, e_iastore, e_bastore, e_lastore, e_if, e_icmp, e_goto, e_tsw, e_ireturn0, e_ireturn1, e_return, e_call0, e_call1, e_call2, e_call3, lI_e, lL_e, lR_e, ak_nth, ak_set, ak_ok1, ak_jp, ak_b1, ak_b2, ak_sw, ak_la, ak_pad, true_and, and_true, List.map_cons, List.map_nil, List.sum_cons, List.sum_nil, Value.category, Option.toList_some, Option.toList_none, List.cons_append, List.nil_append, gC_0_0, gC_0_1, gC_0_2, gC_0_3, rC_0, gC_1_0, pC_1_0, gC_1_1, gC_1_2, gC_1_3, rC_1, gC_2_0, pC_2_0, gC_2_1, gC_2_2, gC_2_3, gC_2_4, gC_2_5, gC_2_6, gC_2_7, gC_2_8, rC_2, gC_3_0, pC_3_0, gC_3_1, gC_3_2, rC_3, gC_4_0, gC_4_1, gC_4_2, gC_4_3, gC_4_4, pC_4_4, rC_4, kC_5, kC_6, kC_7, kC_8, kC_9, kC_10, kC_11, kC_12, kC_13, kC_14, kC_15, kC_16, kC_17, kC_18, kC_19, fd_D_carryOut_0, fd_D_carryOut_2, fd_D_carryOut_29, fd_D_carryOut_31, fd_D_carryOut_58, bk_D_carryOut_0, bk_D_carryOut_2, bk_D_carryOut_29, bk_D_carryOut_31, bk_D_carryOut_58, cs_D_carryOut, pt_S_dropThoseWithoutCount]
        rw [c_rights_o (by decide), c_takes_o (by decide) (by decide) (by decide) (by decide) (by decide), hsm, q_le (by omega) (by omega)]
        refine ⟨fun _ => ⟨n, hn, ?_, h⟩, fun q => absurd (by omega) q⟩
        rw [c_rights_o (by decide), c_takes_o (by decide) (by decide) (by decide) (by decide) (by decide), hs]
      | succ d ih =>
        intro p hp
        obtain ⟨e, he1, he2⟩ := hg p (by omega)
        refine hJ 3 _ _ _ _ ?_
        simp only [Nat.reduceAdd, Nat.reduceLeDiff, Nat.zero_le, true_or, or_true, run_s, e_nop, e_iconst, e_bipush, e_sipush, e_lconst, e_iload, e_iload_n, e_lload, e_lload_n, e_aload, e_aload_n, e_istore, e_istore_n, e_iinc, e_iadd, e_isub, e_imul, e_lcmp, e_dupI, e_dupR, e_dup2, e_getfield, e_putfield, e_iaload, e_baload, e_laload, e_iastore, e_bastore, e_lastore, e_if, e_icmp, e_goto, e_tsw, e_ireturn0, e_ireturn1, e_return, e_call0, e_call1, e_call2, e_call3, lI_e, lL_e, lR_e, ak_nth, ak_set, ak_ok1, ak_jp, ak_b1, ak_b2, ak_sw, ak_la, ak_pad, true_and, and_true, List.map_cons, List.map_nil, List.sum_cons, List.sum_nil, Value.category, Option.toList_some, Option.toList_none, List.cons_append, List.nil_append, gC_0_0, gC_0_1, gC_0_2, gC_0_3, rC_0, gC_1_0, pC_1_0, gC_1_1, gC_1_2, gC_1_3, rC_1, gC_2_0, pC_2_0, gC_2_1, gC_2_2, gC_2_3, gC_2_4, gC_2_5, gC_2_6, gC_2_7, gC_2_8, rC_2, gC_3_0, pC_3_0, gC_3_1, gC_3_2, rC_3, gC_4_0, gC_4_1, gC_4_2, gC_4_3, gC_4_4, pC_4_4, rC_4, kC_5, kC_6, kC_7, kC_8, kC_9, kC_10, kC_11, kC_12, kC_13, kC_14, kC_15, kC_16, kC_17, kC_18, kC_19, fd_D_carryOut_0, fd_D_carryOut_2, fd_D_carryOut_29, fd_D_carryOut_31, fd_D_carryOut_58, bk_D_carryOut_0, bk_D_carryOut_2, bk_D_carryOut_29, bk_D_carryOut_31, bk_D_carryOut_58, cs_D_carryOut, pt_S_setRight, nI_1]
        have e19 : (c_rights (c_takes s m) p).1 19 p = nI e := by rw [c_rights_o (by decide), c_takes_o (by decide) (by decide) (by decide) (by decide) (by decide), he2]
        rw [c_rights_o (k := 4) (by decide), c_takes_o (by decide) (by decide) (by decide) (by decide) (by decide), hsm, q_le (by omega) (by omega), q_cl (by omega), e19]
        refine ⟨fun q => absurd q (by omega), fun _ => ⟨q_in (by omega) (by omega), e, he1, rfl, ?_⟩⟩
        have hh := ih (p + 1) (by omega)
        rw [c_rights, c_takes_o (k := 19) (by decide) (by decide) (by decide) (by decide) (by decide), he2, q_cl (by omega)] at hh
        exact hh
    have loop1 : ∀ d p, p + d = m → J 2 [some (.ref 4), some (.int (nI p))] [] (c_takes s p) := by
      intro d
      induction d with
      | zero =>
        intro p hp
        have e : p = m := by omega
        subst e
        refine hJ 3 _ _ _ _ ?_
        simp only [Nat.reduceAdd, Nat.reduceLeDiff, Nat.zero_le, true_or, or_true, run_s, e_nop, e_iconst, e_bipush, e_sipush, e_lconst, e_iload, e_iload_n, e_lload, e_lload_n, e_aload, e_aload_n, e_istore, e_istore_n, e_iinc, e_iadd, e_isub, e_imul, e_lcmp, e_dupI, e_dupR, e_dup2, e_getfield, e_putfield, e_iaload, e_baload, e_laload, e_iastore, e_bastore, e_lastore, e_if, e_icmp, e_goto, e_tsw, e_ireturn0, e_ireturn1, e_return, e_call0, e_call1, e_call2, e_call3, lI_e, lL_e, lR_e, ak_nth, ak_set, ak_ok1, ak_jp, ak_b1, ak_b2, ak_sw, ak_la, ak_pad, true_and, and_true, List.map_cons, List.map_nil, List.sum_cons, List.sum_nil, Value.category, Option.toList_some, Option.toList_none, List.cons_append, List.nil_append, gC_0_0, gC_0_1, gC_0_2, gC_0_3, rC_0, gC_1_0, pC_1_0, gC_1_1, gC_1_2, gC_1_3, rC_1, gC_2_0, pC_2_0, gC_2_1, gC_2_2, gC_2_3, gC_2_4, gC_2_5, gC_2_6, gC_2_7, gC_2_8, rC_2, gC_3_0, pC_3_0, gC_3_1, gC_3_2, rC_3, gC_4_0, gC_4_1, gC_4_2, gC_4_3, gC_4_4, pC_4_4, rC_4, kC_5, kC_6, kC_7, kC_8, kC_9, kC_10, kC_11, kC_12, kC_13, kC_14, kC_15, kC_16, kC_17, kC_18, kC_19, fd_D_carryOut_0, fd_D_carryOut_2, fd_D_carryOut_29, fd_D_carryOut_31, fd_D_carryOut_58, bk_D_carryOut_0, bk_D_carryOut_2, bk_D_carryOut_29, bk_D_carryOut_31, bk_D_carryOut_58, cs_D_carryOut]
        rw [c_takes_o (by decide) (by decide) (by decide) (by decide) (by decide), hsm, q_le (by omega) (by omega)]
        refine ⟨fun _ => ?_, fun q => absurd (by omega) q⟩
        exact loop2 p 0 (by omega)
      | succ d ih =>
        intro p hp
        obtain ⟨e, he1, he2⟩ := hg p (by omega)
        refine hJ 3 _ _ _ _ ?_
        simp only [Nat.reduceAdd, Nat.reduceLeDiff, Nat.zero_le, true_or, or_true, run_s, e_nop, e_iconst, e_bipush, e_sipush, e_lconst, e_iload, e_iload_n, e_lload, e_lload_n, e_aload, e_aload_n, e_istore, e_istore_n, e_iinc, e_iadd, e_isub, e_imul, e_lcmp, e_dupI, e_dupR, e_dup2, e_getfield, e_putfield, e_iaload, e_baload, e_laload, e_iastore, e_bastore, e_lastore, e_if, e_icmp, e_goto, e_tsw, e_ireturn0, e_ireturn1, e_return, e_call0, e_call1, e_call2, e_call3, lI_e, lL_e, lR_e, ak_nth, ak_set, ak_ok1, ak_jp, ak_b1, ak_b2, ak_sw, ak_la, ak_pad, true_and, and_true, List.map_cons, List.map_nil, List.sum_cons, List.sum_nil, Value.category, Option.toList_some, Option.toList_none, List.cons_append, List.nil_append, gC_0_0, gC_0_1, gC_0_2, gC_0_3, rC_0, gC_1_0, pC_1_0, gC_1_1, gC_1_2, gC_1_3, rC_1, gC_2_0, pC_2_0, gC_2_1, gC_2_2, gC_2_3, gC_2_4, gC_2_5, gC_2_6, gC_2_7, gC_2_8, rC_2, gC_3_0, pC_3_0, gC_3_1, gC_3_2, rC_3, gC_4_0, gC_4_1, gC_4_2, gC_4_3, gC_4_4, pC_4_4, rC_4, kC_5, kC_6, kC_7, kC_8, kC_9, kC_10, kC_11, kC_12, kC_13, kC_14, kC_15, kC_16, kC_17, kC_18, kC_19, fd_D_carryOut_0, fd_D_carryOut_2, fd_D_carryOut_29, fd_D_carryOut_31, fd_D_carryOut_58, bk_D_carryOut_0, bk_D_carryOut_2, bk_D_carryOut_29, bk_D_carryOut_31, bk_D_carryOut_58, cs_D_carryOut, pt_S_takeAway, nI_1]
        have e19 : (c_takes s p).1 19 p = nI e := by rw [c_takes_o (by decide) (by decide) (by decide) (by decide) (by decide), he2]
        rw [c_takes_o (k := 4) (by decide) (by decide) (by decide) (by decide) (by decide), hsm, q_le (by omega) (by omega), q_cl (by omega), e19]
        refine ⟨fun q => absurd q (by omega), fun _ => ⟨q_in (by omega) (by omega), ?_⟩⟩
        have hh := ih (p + 1) (by omega)
        rw [c_takes, he2, q_cl (by omega)] at hh
        have ho : ∃ o, o ≤ 250 ∧ (c_takes s p).1 12 e = nI o := by
          rcases c_takes_12 (s := s) (m := p) (j := e) with z | z
          · exact ⟨0, by omega, z⟩
          · rw [z]; exact hr e he1
        obtain ⟨o, ho1, ho2⟩ := ho
        exact ⟨e, o, he1, ho1, rfl, ho2, hh⟩
    refine hJ 3 _ _ _ _ ?_
    simp only [Nat.reduceAdd, Nat.reduceLeDiff, Nat.zero_le, true_or, or_true, run_s, e_nop, e_iconst, e_bipush, e_sipush, e_lconst, e_iload, e_iload_n, e_lload, e_lload_n, e_aload, e_aload_n, e_istore, e_istore_n, e_iinc, e_iadd, e_isub, e_imul, e_lcmp, e_dupI, e_dupR, e_dup2, e_getfield, e_putfield, e_iaload, e_baload, e_laload, e_iastore, e_bastore, e_lastore, e_if, e_icmp, e_goto, e_tsw, e_ireturn0, e_ireturn1, e_return, e_call0, e_call1, e_call2, e_call3, lI_e, lL_e, lR_e, ak_nth, ak_set, ak_ok1, ak_jp, ak_b1, ak_b2, ak_sw, ak_la, ak_pad, true_and, and_true, List.map_cons, List.map_nil, List.sum_cons, List.sum_nil, Value.category, Option.toList_some, Option.toList_none, List.cons_append, List.nil_append, gC_0_0, gC_0_1, gC_0_2, gC_0_3, rC_0, gC_1_0, pC_1_0, gC_1_1, gC_1_2, gC_1_3, rC_1, gC_2_0, pC_2_0, gC_2_1, gC_2_2, gC_2_3, gC_2_4, gC_2_5, gC_2_6, gC_2_7, gC_2_8, rC_2, gC_3_0, pC_3_0, gC_3_1, gC_3_2, rC_3, gC_4_0, gC_4_1, gC_4_2, gC_4_3, gC_4_4, pC_4_4, rC_4, kC_5, kC_6, kC_7, kC_8, kC_9, kC_10, kC_11, kC_12, kC_13, kC_14, kC_15, kC_16, kC_17, kC_18, kC_19, fd_D_carryOut_0, fd_D_carryOut_2, fd_D_carryOut_29, fd_D_carryOut_31, fd_D_carryOut_58, bk_D_carryOut_0, bk_D_carryOut_2, bk_D_carryOut_29, bk_D_carryOut_31, bk_D_carryOut_58, cs_D_carryOut]
    exact loop1 m 0 (by omega)
  · exact h.elim
set_option maxRecDepth 20000 in
theorem ct_D_carryOut (l : Launch) : ak_Ctr l cl_all lay_C y_D_carryOut ws_D_carryOut rm_D_carryOut pt_D_carryOut := by
  refine ak_met (cs := cs_D_carryOut) (reg := rg_D_carryOut) (bl := bl_D_carryOut) (by decide +kernel) rfl (cl_ok _) rfl ok_D_carryOut ?_ vc_D_carryOut
  intro a n b ci h
  match a, h with
  | 0, h =>
    cases h
    exact ak_ccV (ct_S_takeAway l) rfl 248 249 250 22 251 (by decide +kernel) ⟨rfl, rfl⟩ (by decide +kernel) (by decide +kernel)
  | 1, h =>
    cases h
    exact ak_ccV (ct_S_setRight l) rfl 256 205 206 22 207 (by decide +kernel) ⟨rfl, rfl⟩ (by decide +kernel) (by decide +kernel)
  | 2, h =>
    cases h
    exact ak_ccV (ct_S_dropThoseWithoutCount l) rfl 257 258 259 22 260 (by decide +kernel) ⟨rfl, rfl⟩ (by decide +kernel) (by decide +kernel)
  | k + 3, h => cases h
