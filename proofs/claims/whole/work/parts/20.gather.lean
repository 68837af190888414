/-! gathering: the worklist -/
def pt_D_addThoseTakenBy : ak_P := fun vs S Q => match vs with
  | [.ref 4, .int x] => ∃ (s : ak_S) (n a m t : Nat) (gs gg : Nat → Int32), S = c_D s gs gg (nI m) ∧ n ≤ 250 ∧ s.1 2 0 = nI n ∧ (∀ j, 1 ≤ j → j ≤ n → ∃ c, c < 16 ∧ s.1 8 j = nI c) ∧ x = nI t ∧ t ≤ 250 ∧ DI s n a gs gg m ∧ gs t = 1 ∧
      ∀ (gs' gg' : Nat → Int32) (m' : Nat), DI s n a gs' gg' m' → (∀ j, j ≤ 250 → gs j = 1 → gs' j = 1) → (∀ p, p < m → gg' p = gg p) → m ≤ m' → (∀ j, 1 ≤ j → j ≤ n → tk s t j → gs' j = 1) → Q none (c_D s gs' gg' (nI m'))
  | _ => False
def cs_D_addThoseTakenBy : Nat → ak_P := fun a => match a with
  | 0 => pt_D_isRelatedByRule
  | _ => pt_D_add
theorem vc_D_addThoseTakenBy : ak_VC lay_C cs_D_addThoseTakenBy bl_D_addThoseTakenBy 3 pt_D_addThoseTakenBy := by
  intro vs S Q h
  unfold pt_D_addThoseTakenBy at h
  split at h
  · rename_i x
    obtain ⟨s, n, a, m, t, gs, gg, rfl, hn, hs, hk, rfl, ht, hDI, hgt, h⟩ := h
    refine ⟨Nat.le_of_ble_eq_true rfl, fun J hJ => ?_⟩
    have htn := hDI.2.2.1 t ht hgt
    have loop : ∀ d i (gs1 gg1 : Nat → Int32) (m1 : Nat), i + d = n → DI s n a gs1 gg1 m1 → (∀ j, j ≤ 250 → gs j = 1 → gs1 j = 1) → (∀ p, p < m → gg1 p = gg p) → m ≤ m1 → (∀ j, 1 ≤ j → j ≤ i → tk s t j → gs1 j = 1) →
        J 2 [some (.ref 4), some (.int (nI t)), some (.int (nI (i + 1)))] [] (c_D s gs1 gg1 (nI m1)) := by
      intro d
      induction d with
      | zero =>
        intro i gs1 gg1 m1 hi hD hmo hpr hmm hcl
        refine hJ 3 _ _ _ _ ?_
        simp only [Nat.reduceAdd, Nat.reduceLeDiff, Nat.zero_le, true_or, or_true, run_s, e_nop, e_iconst, e_bipush, e_sipush, e_lconst, e_iload, e_iload_n, e_lload, e_lload_n, e_aload, e_aload_n, e_istore, e_istore_n, e_iinc, e_iadd, e_isub, e_imul, e_lcmp, e_dupI, e_dupR, e_dup2, e_getfield, e_putfield, e_iaload, e_baload, e_laload, e_iastore, e_bastore, e_lastore, e_if, e_icmp, e_goto, e_tsw, e_ireturn0, e_ireturn1, e_return, e_call0, e_call1, e_call2, e_call3, lI_e, lL_e, lR_e, ak_nth, ak_set, ak_ok1, ak_jp, ak_b1, ak_b2, ak_sw, ak_la, ak_pad, true_and, and_true, List.map_cons, List.map_nil, List.sum_cons, List.sum_nil, Value.category, Option.toList_some, Option.toList_none, List.cons_append, List.nil_append, gC_0_0, gC_0_1, gC_0_2, gC_0_3, rC_0, gC_1_0, pC_1_0, gC_1_1, gC_1_2, gC_1_3, rC_1, gC_2_0, pC_2_0, gC_2_1, gC_2_2, gC_2_3, gC_2_4, gC_2_5, gC_2_6, gC_2_7, gC_2_8, rC_2, gC_3_0, pC_3_0, gC_3_1, gC_3_2, rC_3, gC_4_0, gC_4_1, gC_4_2, gC_4_3, gC_4_4, pC_4_4, rC_4, kC_5, kC_6, kC_7, kC_8, kC_9, kC_10, kC_11, kC_12, kC_13, kC_14, kC_15, kC_16, kC_17, kC_18, kC_19, fd_D_addThoseTakenBy_0, fd_D_addThoseTakenBy_2, fd_D_addThoseTakenBy_36, fd_D_addThoseTakenBy_41, fd_D_addThoseTakenBy_47, bk_D_addThoseTakenBy_0, bk_D_addThoseTakenBy_2, bk_D_addThoseTakenBy_36, bk_D_addThoseTakenBy_41, bk_D_addThoseTakenBy_47, cs_D_addThoseTakenBy, c_D_o, hs, ne_eq, Nat.reduceEqDiff, not_false_eq_true]
        rw [q_lt (by omega) (by omega)]
        have e : i = n := by omega
        subst e
        exact ⟨fun _ => h gs1 gg1 m1 hD hmo hpr hmm hcl, fun q => absurd (by omega) q⟩
      | succ d ih =>
        intro i gs1 gg1 m1 hi hD hmo hpr hmm hcl
        have hadd : tk s t (i + 1) → pt_D_add [.ref 4, .int (nI (i + 1))] (c_D s gs1 gg1 (nI m1)) (fun r s' => J 2 [some (.ref 4), some (.int (nI t)), some (.int (nI (i + 1 + 1)))] (r.toList ++ []) s') := by
          intro htk
          refine ⟨i + 1, m1, by omega, ?_, rfl, c_D_4, ?_, ?_⟩
          · have := cn_le (fun j => decide (gs1 j = 1)) n
            have := hD.1
            omega
          · rw [c_D_18]
            intro q
            have hg1 : gs1 (i + 1) = 1 := by
              rcases hD.2.1 (i + 1) (by omega) with z | z
              · exfalso
                rcases q with q | q
                · exact q z
                · have := (DI_add hn hD (by omega) (by omega) z (rch_step (hDI.2.2.1 t ht hgt).2.2 (by omega) (by omega) htk)).1
                  omega
              · exact z
            refine ih (i + 1) gs1 gg1 m1 (by omega) hD hmo hpr hmm (fun j h1 h2 h3 => ?_)
            by_cases e : j = i + 1
            · rw [e]; exact hg1
            · exact hcl j h1 (by omega) h3
          · rw [c_D_18, c_D_p18, c_D_p19, c_D_p4]
            intro q _
            have hD2 := (DI_add hn hD (by omega) (by omega) q (rch_step (hDI.2.2.1 t ht hgt).2.2 (by omega) (by omega) htk)).2
            refine ih (i + 1) _ _ (m1 + 1) (by omega) hD2 (fun j h1 h2 => ?_) (fun p hp => ?_) (by omega) (fun j h1 h2 h3 => ?_)
            · by_cases e : j = i + 1
              · simp [upd, e]
              · simp only [upd, e, if_false]; exact hmo j h1 h2
            · simp only [upd, show p ≠ m1 by omega, if_false]
              exact hpr p hp
            · by_cases e : j = i + 1
              · simp [upd, e]
              · simp only [upd, e, if_false]; exact hcl j h1 (by omega) h3
        obtain ⟨c, hc, hkc⟩ := hk (i + 1) (by omega) (by omega)
        refine hJ 4 _ _ _ _ ?_
        simp only [Nat.reduceAdd, Nat.reduceLeDiff, Nat.zero_le, true_or, or_true, run_s, e_nop, e_iconst, e_bipush, e_sipush, e_lconst, e_iload, e_iload_n, e_lload, e_lload_n, e_aload, e_aload_n, e_istore, e_istore_n, e_iinc, e_iadd, e_isub, e_imul, e_lcmp, e_dupI, e_dupR, e_dup2, e_getfield, e_putfield, e_iaload, e_baload, e_laload, e_iastore, e_bastore, e_lastore, e_if, e_icmp, e_goto, e_tsw, e_ireturn0, e_ireturn1, e_return, e_call0, e_call1, e_call2, e_call3, lI_e, lL_e, lR_e, ak_nth, ak_set, ak_ok1, ak_jp, ak_b1, ak_b2, ak_sw, ak_la, ak_pad, true_and, and_true, List.map_cons, List.map_nil, List.sum_cons, List.sum_nil, Value.category, Option.toList_some, Option.toList_none, List.cons_append, List.nil_append, gC_0_0, gC_0_1, gC_0_2, gC_0_3, rC_0, gC_1_0, pC_1_0, gC_1_1, gC_1_2, gC_1_3, rC_1, gC_2_0, pC_2_0, gC_2_1, gC_2_2, gC_2_3, gC_2_4, gC_2_5, gC_2_6, gC_2_7, gC_2_8, rC_2, gC_3_0, pC_3_0, gC_3_1, gC_3_2, rC_3, gC_4_0, gC_4_1, gC_4_2, gC_4_3, gC_4_4, pC_4_4, rC_4, kC_5, kC_6, kC_7, kC_8, kC_9, kC_10, kC_11, kC_12, kC_13, kC_14, kC_15, kC_16, kC_17, kC_18, kC_19, fd_D_addThoseTakenBy_0, fd_D_addThoseTakenBy_2, fd_D_addThoseTakenBy_36, fd_D_addThoseTakenBy_41, fd_D_addThoseTakenBy_47, bk_D_addThoseTakenBy_0, bk_D_addThoseTakenBy_2, bk_D_addThoseTakenBy_36, bk_D_addThoseTakenBy_41, bk_D_addThoseTakenBy_47, cs_D_addThoseTakenBy, c_D_o, hs, ne_eq, Nat.reduceEqDiff, not_false_eq_true, nI_1, pt_D_isRelatedByRule]
        rw [q_lt (by omega) (by omega), q_cl (by omega)]
        refine ⟨fun q => absurd q (by omega), fun _ => ⟨q_in (by omega) (by omega), fun q => ?_, fun q => ?_⟩⟩
        · exact hadd (Or.inl q)
        · refine ⟨i + 1, c, by omega, hc, rfl, hkc, fun q2 => ?_, fun q2 => ?_⟩
          · refine ih (i + 1) gs1 gg1 m1 (by omega) hD hmo hpr hmm (fun j h1 h2 h3 => ?_)
            by_cases e : j = i + 1
            · exfalso
              subst e
              rcases h3 with z | z
              · exact q z
              · rw [hkc, q_cl (by omega)] at z
                rw [if_pos z] at q2
                exact absurd q2 (by decide)
            · exact hcl j h1 (by omega) h3
          · refine hadd (Or.inr ?_)
            rw [hkc, q_cl (by omega)]
            by_cases z : s.1 12 (i + 1) = nI t ∧ s.1 7 c = 2
            · exact z
            · rw [if_neg z] at q2
              exact absurd rfl q2
    refine hJ 3 _ _ _ _ ?_
    simp only [Nat.reduceAdd, Nat.reduceLeDiff, Nat.zero_le, true_or, or_true, run_s, e_nop, e_iconst, e_bipush, e_sipush, e_lconst, e_iload, e_iload_n, e_lload, e_lload_n, e_aload, e_aload_n, e_istore, e_istore_n, e_iinc, e_iadd, e_isub, e_imul, e_lcmp, e_dupI, e_dupR, e_dup2, e_getfield, e_putfield, e_iaload, e_baload, e_laload, e_iastore, e_bastore, e_lastore, e_if, e_icmp, e_goto, e_tsw, e_ireturn0, e_ireturn1, e_return, e_call0, e_call1, e_call2, e_call3, lI_e, lL_e, lR_e, ak_nth, ak_set, ak_ok1, ak_jp, ak_b1, ak_b2, ak_sw, ak_la, ak_pad, true_and, and_true, List.map_cons, List.map_nil, List.sum_cons, List.sum_nil, Value.category, Option.toList_some, Option.toList_none, List.cons_append, List.nil_append, gC_0_0, gC_0_1, gC_0_2, gC_0_3, rC_0, gC_1_0, pC_1_0, gC_1_1, gC_1_2, gC_1_3, rC_1, gC_2_0, pC_2_0, gC_2_1, gC_2_2, gC_2_3, gC_2_4, gC_2_5, gC_2_6, gC_2_7, gC_2_8, rC_2, gC_3_0, pC_3_0, gC_3_1, gC_3_2, rC_3, gC_4_0, gC_4_1, gC_4_2, gC_4_3, gC_4_4, pC_4_4, rC_4, kC_5, kC_6, kC_7, kC_8, kC_9, kC_10, kC_11, kC_12, kC_13, kC_14, kC_15, kC_16, kC_17, kC_18, kC_19, fd_D_addThoseTakenBy_0, fd_D_addThoseTakenBy_2, fd_D_addThoseTakenBy_36, fd_D_addThoseTakenBy_41, fd_D_addThoseTakenBy_47, bk_D_addThoseTakenBy_0, bk_D_addThoseTakenBy_2, bk_D_addThoseTakenBy_36, bk_D_addThoseTakenBy_41, bk_D_addThoseTakenBy_47, cs_D_addThoseTakenBy]
    exact loop n 0 gs gg m (by omega) hDI (fun _ _ h => h) (fun _ _ => rfl) (Nat.le_refl m) (fun j h1 h2 => absurd h2 (by omega))
  · exact h.elim
set_option maxRecDepth 20000 in
theorem ct_D_addThoseTakenBy (l : Launch) : ak_Ctr l cl_all lay_C y_D_addThoseTakenBy ws_D_addThoseTakenBy rm_D_addThoseTakenBy pt_D_addThoseTakenBy := by
  refine ak_met (cs := cs_D_addThoseTakenBy) (reg := rg_D_addThoseTakenBy) (bl := bl_D_addThoseTakenBy) (by decide +kernel) rfl (cl_ok _) rfl ok_D_addThoseTakenBy ?_ vc_D_addThoseTakenBy
  intro a n b ci h
  match a, h with
  | 0, h =>
    cases h
    exact ak_ccV (ct_D_isRelatedByRule l) rfl 237 238 5 24 239 (by decide +kernel) ⟨rfl, rfl⟩ (by decide +kernel) (by decide +kernel)
  | 1, h =>
    cases h
    exact ak_ccV (ct_D_add l) rfl 231 232 3 24 233 (by decide +kernel) ⟨rfl, rfl⟩ (by decide +kernel) (by decide +kernel)
  | k + 2, h => cases h
def pt_D_gather : ak_P := fun vs s Q => match vs with
  | [.ref 4, .int x] => ∃ (n a : Nat), n ≤ 250 ∧ s.1 2 0 = nI n ∧ (∀ j, 1 ≤ j → j ≤ n → ∃ c, c < 16 ∧ s.1 8 j = nI c) ∧ x = nI a ∧ 1 ≤ a ∧ a ≤ n ∧
      ∀ (gs' gg' : Nat → Int32) (m' : Nat), DI s n a gs' gg' m' → (∀ j, j ≤ 250 → (gs' j = 1 ↔ (1 ≤ j ∧ j ≤ n ∧ rch s n a j))) → Q none (c_D s gs' gg' (nI m'))
  | _ => False
def cs_D_gather : Nat → ak_P := fun a => match a with
  | 0 => pt_D_add
  | _ => pt_D_addThoseTakenBy
theorem vc_D_gather : ak_VC lay_C cs_D_gather bl_D_gather 3 pt_D_gather := by
  intro vs s Q h
  unfold pt_D_gather at h
  split at h
  · rename_i x
    obtain ⟨n, a, hn, hs, hk, rfl, ha1, ha2, h⟩ := h
    refine ⟨Nat.le_of_ble_eq_true rfl, fun J hJ => ?_⟩
    have main : ∀ d p (gs gg : Nat → Int32) (m : Nat) , p + d = 250 → DI s n a gs gg m → gs a = 1 → (∀ q e, q < p → q < m → gg q = nI e → e ≤ 250 → ∀ j, 1 ≤ j → j ≤ n → tk s e j → gs j = 1) → J 34 [some (.ref 4), some (.int (nI a)), some (.int (nI p))] [] (c_D s gs gg (nI m)) := by
      have fin : ∀ (p : Nat) (gs gg : Nat → Int32) (m : Nat), DI s n a gs gg m → gs a = 1 → m ≤ p → (∀ q e, q < p → q < m → gg q = nI e → e ≤ 250 → ∀ j, 1 ≤ j → j ≤ n → tk s e j → gs j = 1) → Q none (c_D s gs gg (nI m)) := by
        intro p gs gg m hD hga hmp hcl
        refine h gs gg m hD (fun j hj => ⟨fun q => hD.2.2.1 j hj q, fun q => ?_⟩)
        have := q.2.2 (fun e => e ≤ n ∧ gs e = 1) ⟨ha2, hga⟩ (fun x j hx h1 h2 h3 => ?_)
        · exact this.2
        · obtain ⟨p', b1, b2⟩ := hD.2.2.2.2 x (by omega) hx.2
          exact ⟨h2, hcl p' x (by omega) b1 b2 (by omega) j h1 h2 h3⟩
      intro d
      induction d with
      | zero =>
        intro p gs gg m hp hD hga hcl
        have hmn := cn_le (fun j => decide (gs j = 1)) n
        have := hD.1
        have e : p = 250 := by omega
        subst e
        refine hJ 3 _ _ _ _ ?_
        simp only [Nat.reduceAdd, Nat.reduceLeDiff, Nat.zero_le, true_or, or_true, run_s, e_nop, e_iconst, e_bipush, e_sipush, e_lconst, e_iload, e_iload_n, e_lload, e_lload_n, e_aload, e_aload_n, e_istore, e_istore_n, e_iinc, e_iadd, e_isub, e_imul, e_lcmp, e_dupI, e_dupR, e_dup2, e_getfield, e_putfield, e_iaload, e_baload, e_laload, e_iastore, e_bastore, e_lastore, e_if, e_icmp, e_goto, e_tsw, e_ireturn0, e_ireturn1, e_return, e_call0, e_call1, e_call2, e_call3, lI_e, lL_e, lR_e, ak_nth, ak_set, ak_ok1, ak_jp, ak_b1, ak_b2, ak_sw, ak_la, ak_pad, true_and, and_true, List.map_cons, List.map_nil, List.sum_cons, List.sum_nil, Value.category, Option.toList_some, Option.toList_none, List.cons_append, List.nil_append, gC_0_0, gC_0_1, gC_0_2, gC_0_3, rC_0, gC_1_0, pC_1_0, gC_1_1, gC_1_2, gC_1_3, rC_1, gC_2_0, pC_2_0, gC_2_1, gC_2_2, gC_2_3, gC_2_4, gC_2_5, gC_2_6, gC_2_7, gC_2_8, rC_2, gC_3_0, pC_3_0, gC_3_1, gC_3_2, rC_3, gC_4_0, gC_4_1, gC_4_2, gC_4_3, gC_4_4, pC_4_4, rC_4, kC_5, kC_6, kC_7, kC_8, kC_9, kC_10, kC_11, kC_12, kC_13, kC_14, kC_15, kC_16, kC_17, kC_18, kC_19, fd_D_gather_0, fd_D_gather_2, fd_D_gather_22, fd_D_gather_34, fd_D_gather_65, bk_D_gather_0, bk_D_gather_2, bk_D_gather_22, bk_D_gather_34, bk_D_gather_65, cs_D_gather, c_D_o, c_D_4, hs, ne_eq, Nat.reduceEqDiff, not_false_eq_true]
        rw [n_250, q_le (by omega) (by omega), q_le (by omega) (by omega)]
        exact ⟨fun _ => fin 250 gs gg m hD hga (by omega) hcl, fun _ => ⟨fun _ => fin 250 gs gg m hD hga (by omega) hcl, fun q => absurd (by omega) q⟩⟩
      | succ d ih =>
        intro p gs gg m hp hD hga hcl
        have hmn := cn_le (fun j => decide (gs j = 1)) n
        have hme := hD.1
        refine hJ 3 _ _ _ _ ?_
        simp only [Nat.reduceAdd, Nat.reduceLeDiff, Nat.zero_le, true_or, or_true, run_s, e_nop, e_iconst, e_bipush, e_sipush, e_lconst, e_iload, e_iload_n, e_lload, e_lload_n, e_aload, e_aload_n, e_istore, e_istore_n, e_iinc, e_iadd, e_isub, e_imul, e_lcmp, e_dupI, e_dupR, e_dup2, e_getfield, e_putfield, e_iaload, e_baload, e_laload, e_iastore, e_bastore, e_lastore, e_if, e_icmp, e_goto, e_tsw, e_ireturn0, e_ireturn1, e_return, e_call0, e_call1, e_call2, e_call3, lI_e, lL_e, lR_e, ak_nth, ak_set, ak_ok1, ak_jp, ak_b1, ak_b2, ak_sw, ak_la, ak_pad, true_and, and_true, List.map_cons, List.map_nil, List.sum_cons, List.sum_nil, Value.category, Option.toList_some, Option.toList_none, List.cons_append, List.nil_append, gC_0_0, gC_0_1, gC_0_2, gC_0_3, rC_0, gC_1_0, pC_1_0, gC_1_1, gC_1_2, gC_1_3, rC_1, gC_2_0, pC_2_0, gC_2_1, gC_2_2, gC_2_3, gC_2_4, gC_2_5, gC_2_6, gC_2_7, gC_2_8, rC_2, gC_3_0, pC_3_0, gC_3_1, gC_3_2, rC_3, gC_4_0, gC_4_1, gC_4_2, gC_4_3, gC_4_4, pC_4_4, rC_4, kC_5, kC_6, kC_7, kC_8, kC_9, kC_10, kC_11, kC_12, kC_13, kC_14, kC_15, kC_16, kC_17, kC_18, kC_19, fd_D_gather_0, fd_D_gather_2, fd_D_gather_22, fd_D_gather_34, fd_D_gather_65, bk_D_gather_0, bk_D_gather_2, bk_D_gather_22, bk_D_gather_34, bk_D_gather_65, cs_D_gather, c_D_o, c_D_4, c_D_19, hs, ne_eq, Nat.reduceEqDiff, not_false_eq_true, nI_1]
        rw [n_250, q_le (by omega) (by omega), q_le (by omega) (by omega), q_cl (by omega)]
        refine ⟨fun q => fin p gs gg m hD hga q hcl, fun q => ⟨fun q2 => absurd q2 (by omega), fun _ => ⟨q_in (by omega) (by omega), ?_⟩⟩⟩
        obtain ⟨e, b1, b2, b3, b4⟩ := hD.2.2.2.1 p (by omega)
        refine ⟨s, n, a, m, e, gs, gg, rfl, hn, hs, hk, b3, by omega, hD, b4, fun gs' gg' m' hD' hmo hpr hmm htk => ?_⟩
        refine ih (p + 1) gs' gg' m' (by omega) hD' (hmo a (by omega) hga) (fun q' e' h1 h2 h3 h4 j h5 h6 h7 => ?_)
        by_cases e1 : q' = p
        · subst e1
          rw [hpr q' (by omega), b3] at h3
          have : e = e' := (nI_eq (by omega) (by omega)).mp h3
          subst this
          exact htk j h5 h6 h7
        · exact hmo j (by omega) (hcl q' e' (by omega) (by omega) (by rw [← hpr q' (by omega)]; exact h3) h4 j h5 h6 h7)
    have clear : ∀ d i, i + d = 251 → J 2 [some (.ref 4), some (.int (nI a)), some (.int (nI i))] [] (c_D s (fun j => if j < i then 0 else s.1 18 j) (s.1 19) (s.1 4 4)) := by
      intro d
      induction d with
      | zero =>
        intro i hi
        have e : i = 251 := by omega
        subst e
        refine hJ 3 _ _ _ _ ?_
        simp only [Nat.reduceAdd, Nat.reduceLeDiff, Nat.zero_le, true_or, or_true, run_s, e_nop, e_iconst, e_bipush, e_sipush, e_lconst, e_iload, e_iload_n, e_lload, e_lload_n, e_aload, e_aload_n, e_istore, e_istore_n, e_iinc, e_iadd, e_isub, e_imul, e_lcmp, e_dupI, e_dupR, e_dup2, e_getfield, e_putfield, e_iaload, e_baload, e_laload, e_iastore, e_bastore, e_lastore, e_if, e_icmp, e_goto, e_tsw, e_ireturn0, e_ireturn1, e_return, e_call0, e_call1, e_call2, e_call3, lI_e, lL_e, lR_e, ak_nth, ak_set, ak_ok1, ak_jp, ak_b1, ak_b2, ak_sw, ak_la, ak_pad, true_and, and_true, List.map_cons, List.map_nil, List.sum_cons, List.sum_nil, Value.category, Option.toList_some, Option.toList_none, List.cons_append, List.nil_append, gC_0_0, gC_0_1, gC_0_2, gC_0_3, rC_0, gC_1_0, pC_1_0, gC_1_1, gC_1_2, gC_1_3, rC_1, gC_2_0, pC_2_0, gC_2_1, gC_2_2, gC_2_3, gC_2_4, gC_2_5, gC_2_6, gC_2_7, gC_2_8, rC_2, gC_3_0, pC_3_0, gC_3_1, gC_3_2, rC_3, gC_4_0, gC_4_1, gC_4_2, gC_4_3, gC_4_4, pC_4_4, rC_4, kC_5, kC_6, kC_7, kC_8, kC_9, kC_10, kC_11, kC_12, kC_13, kC_14, kC_15, kC_16, kC_17, kC_18, kC_19, fd_D_gather_0, fd_D_gather_2, fd_D_gather_22, fd_D_gather_34, fd_D_gather_65, bk_D_gather_0, bk_D_gather_2, bk_D_gather_22, bk_D_gather_34, bk_D_gather_65, cs_D_gather, c_D_p4]
        refine ⟨fun _ => ⟨a, 0, by omega, by omega, rfl, c_D_4, fun q => ?_, fun q _ => ?_⟩, fun q => absurd (by decide) q⟩
        · exfalso
          rw [c_D_18, if_pos (by omega)] at q
          rcases q with q | q
          · exact q rfl
          · omega
        · rw [c_D_p18, c_D_p19, c_D_p4]
          have h0 : DI s n a (fun j => if j < 251 then 0 else s.1 18 j) (s.1 19) 0 := by
            refine ⟨?_, fun j hj => Or.inl (if_pos (by omega)), fun j hj q => ?_, fun p hp => absurd hp (by omega), fun e he q => ?_⟩
            · have : ∀ k, k ≤ 250 → cn (fun j => decide ((if j < 251 then (0 : Int32) else s.1 18 j) = 1)) k = 0 := by
                intro k
                induction k with
                | zero => intro _; rfl
                | succ k ih =>
                  intro hk
                  rw [cn, ih (by omega)]
                  simp [show k + 1 < 251 by omega]
              exact (this n hn).symm
            · dsimp only at q
              rw [if_pos (by omega)] at q
              exact absurd q (by decide)
            · dsimp only at q
              rw [if_pos (by omega)] at q
              exact absurd q (by decide)
          have h1 := (DI_add hn h0 ha1 ha2 (if_pos (by omega)) rch_self).2
          exact main 250 0 _ _ 1 (by omega) h1 (by simp [upd]) (fun q e h1 => absurd h1 (by omega))
      | succ d ih =>
        intro i hi
        refine hJ 3 _ _ _ _ ?_
        simp only [Nat.reduceAdd, Nat.reduceLeDiff, Nat.zero_le, true_or, or_true, run_s, e_nop, e_iconst, e_bipush, e_sipush, e_lconst, e_iload, e_iload_n, e_lload, e_lload_n, e_aload, e_aload_n, e_istore, e_istore_n, e_iinc, e_iadd, e_isub, e_imul, e_lcmp, e_dupI, e_dupR, e_dup2, e_getfield, e_putfield, e_iaload, e_baload, e_laload, e_iastore, e_bastore, e_lastore, e_if, e_icmp, e_goto, e_tsw, e_ireturn0, e_ireturn1, e_return, e_call0, e_call1, e_call2, e_call3, lI_e, lL_e, lR_e, ak_nth, ak_set, ak_ok1, ak_jp, ak_b1, ak_b2, ak_sw, ak_la, ak_pad, true_and, and_true, List.map_cons, List.map_nil, List.sum_cons, List.sum_nil, Value.category, Option.toList_some, Option.toList_none, List.cons_append, List.nil_append, gC_0_0, gC_0_1, gC_0_2, gC_0_3, rC_0, gC_1_0, pC_1_0, gC_1_1, gC_1_2, gC_1_3, rC_1, gC_2_0, pC_2_0, gC_2_1, gC_2_2, gC_2_3, gC_2_4, gC_2_5, gC_2_6, gC_2_7, gC_2_8, rC_2, gC_3_0, pC_3_0, gC_3_1, gC_3_2, rC_3, gC_4_0, gC_4_1, gC_4_2, gC_4_3, gC_4_4, pC_4_4, rC_4, kC_5, kC_6, kC_7, kC_8, kC_9, kC_10, kC_11, kC_12, kC_13, kC_14, kC_15, kC_16, kC_17, kC_18, kC_19, fd_D_gather_0, fd_D_gather_2, fd_D_gather_22, fd_D_gather_34, fd_D_gather_65, bk_D_gather_0, bk_D_gather_2, bk_D_gather_22, bk_D_gather_34, bk_D_gather_65, cs_D_gather, c_D_p4, c_D_p18, nI_1]
        rw [n_250, q_lt (by omega) (by omega), q_cl (by omega)]
        refine ⟨fun q => absurd q (by omega), fun _ => ⟨q_in (by omega) (by omega), ?_⟩⟩
        have hh := ih (i + 1) (by omega)
        have e : upd (fun j => if j < i then 0 else s.1 18 j) i (0 &&& 1) = (fun j => if j < i + 1 then 0 else s.1 18 j) := by
          funext j
          by_cases e1 : j = i
          · subst e1
            simp [upd]
          · simp only [upd, e1, if_false]
            by_cases e2 : j < i
            · rw [if_pos e2, if_pos (by omega)]
            · rw [if_neg e2, if_neg (by omega)]
        rw [e]
        exact hh
    refine hJ 3 _ _ _ _ ?_
    simp only [Nat.reduceAdd, Nat.reduceLeDiff, Nat.zero_le, true_or, or_true, run_s, e_nop, e_iconst, e_bipush, e_sipush, e_lconst, e_iload, e_iload_n, e_lload, e_lload_n, e_aload, e_aload_n, e_istore, e_istore_n, e_iinc, e_iadd, e_isub, e_imul, e_lcmp, e_dupI, e_dupR, e_dup2, e_getfield, e_putfield, e_iaload, e_baload, e_laload, e_iastore, e_bastore, e_lastore, e_if, e_icmp, e_goto, e_tsw, e_ireturn0, e_ireturn1, e_return, e_call0, e_call1, e_call2, e_call3, lI_e, lL_e, lR_e, ak_nth, ak_set, ak_ok1, ak_jp, ak_b1, ak_b2, ak_sw, ak_la, ak_pad, true_and, and_true, List.map_cons, List.map_nil, List.sum_cons, List.sum_nil, Value.category, Option.toList_some, Option.toList_none, List.cons_append, List.nil_append, gC_0_0, gC_0_1, gC_0_2, gC_0_3, rC_0, gC_1_0, pC_1_0, gC_1_1, gC_1_2, gC_1_3, rC_1, gC_2_0, pC_2_0, gC_2_1, gC_2_2, gC_2_3, gC_2_4, gC_2_5, gC_2_6, gC_2_7, gC_2_8, rC_2, gC_3_0, pC_3_0, gC_3_1, gC_3_2, rC_3, gC_4_0, gC_4_1, gC_4_2, gC_4_3, gC_4_4, pC_4_4, rC_4, kC_5, kC_6, kC_7, kC_8, kC_9, kC_10, kC_11, kC_12, kC_13, kC_14, kC_15, kC_16, kC_17, kC_18, kC_19, fd_D_gather_0, fd_D_gather_2, fd_D_gather_22, fd_D_gather_34, fd_D_gather_65, bk_D_gather_0, bk_D_gather_2, bk_D_gather_22, bk_D_gather_34, bk_D_gather_65, cs_D_gather]
    have := clear 251 0 (by omega)
    have e : c_D s (fun j => if j < 0 then 0 else s.1 18 j) (s.1 19) (s.1 4 4) = s := by
      have : (fun j => if j < 0 then (0 : Int32) else s.1 18 j) = s.1 18 := by
        funext j
        rw [if_neg (by omega)]
      rw [this]
      exact c_D_self s
    rw [e] at this
    exact this
  · exact h.elim
set_option maxRecDepth 20000 in
theorem ct_D_gather (l : Launch) : ak_Ctr l cl_all lay_C y_D_gather ws_D_gather rm_D_gather pt_D_gather := by
  refine ak_met (cs := cs_D_gather) (reg := rg_D_gather) (bl := bl_D_gather) (by decide +kernel) rfl (cl_ok _) rfl ok_D_gather ?_ vc_D_gather
  intro a n b ci h
  match a, h with
  | 0, h =>
    cases h
    exact ak_ccV (ct_D_add l) rfl 231 232 3 24 233 (by decide +kernel) ⟨rfl, rfl⟩ (by decide +kernel) (by decide +kernel)
  | 1, h =>
    cases h
    exact ak_ccV (ct_D_addThoseTakenBy l) rfl 234 235 4 24 236 (by decide +kernel) ⟨rfl, rfl⟩ (by decide +kernel) (by decide +kernel)
  | k + 2, h => cases h
