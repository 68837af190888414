/-! the reference's kind, parent, there, count, index, poke -/
theorem RM_c {t : ak_S} {a : ab_T} (hR : RM t a) : RM (ak_p1 t 0 0 0) a := by
  obtain ⟨⟨h1, h2, h3⟩, hk, hs, hst, hp, hx⟩ := hR
  refine ⟨⟨by simp [p1_s, h1], by simp [p1_s, h2], by simp [p1_s, h3]⟩, fun k hk' => ?_, fun i hi => ?_, fun i b1 b2 => ?_, fun i p b1 b2 b3 b4 => ?_, fun j hj => ?_⟩
  · simpa [p1_o] using hk k hk'
  · obtain ⟨d1, d2, d3, d4⟩ := hs i hi
    exact ⟨by rw [p1_o (by decide)]; exact d1, by rw [p1_o (by decide)]; exact d2, d3, by rw [p1_o (by decide)]; exact d4⟩
  · rw [p1_o (by decide)]; exact hst i b1 b2
  · rw [p1_o (by decide)]; exact hp i p b1 b2 b3 b4
  · simpa [p1_o] using hx j hj
theorem RM_kind {t : ak_S} {a : ab_T} {k : Nat} (hR : RM t a) : RM (ak_p1 (ak_p1 t 0 1 (nI (a.1 0 + 1))) 1 (a.1 0 + 1) (nI k)) (a_f (a_n a 0 (a.1 0 + 1)) 0 (a.1 0 + 1) k) := by
  obtain ⟨⟨h1, h2, h3⟩, hk, hs, hst, hp, hx⟩ := hR
  refine ⟨⟨?_, ?_, ?_⟩, fun k' hk' => ?_, fun i hi => ?_, fun i b1 b2 => ?_, fun i p b1 b2 b3 b4 => ?_, fun j hj => ?_⟩
  · rw [p1_o (by decide), p1_s, if_pos rfl]; rfl
  · rw [p1_o (by decide), p1_s, if_neg (by decide), h2]; rfl
  · rw [p1_o (by decide), p1_s, if_neg (by decide), h3]; rfl
  · obtain ⟨q1, q2, q3⟩ := hk k' hk'
    refine ⟨?_, ?_, ?_⟩
    · rw [p1_s, af_s]
      split
      · rfl
      · rw [p1_o (by decide), q1]; rfl
    · rw [p1_o (by decide), p1_o (by decide), af_o (by decide), q2]; rfl
    · rw [p1_o (by decide), p1_o (by decide), af_o (by decide), q3]; rfl
  · obtain ⟨d1, d2, d3, d4⟩ := hs i hi
    refine ⟨?_, ?_, ?_, ?_⟩
    · rw [p1_o (by decide), p1_o (by decide), af_o (by decide), d1]; rfl
    · rw [p1_o (by decide), p1_o (by decide), af_o (by decide), d2]; rfl
    · exact d3
    · rw [p1_o (by decide), p1_o (by decide), af_o (by decide), d4]; rfl
  · rw [p1_o (by decide), p1_o (by decide), af_o (by decide)]
    exact hst i b1 b2
  · rw [p1_o (by decide), p1_o (by decide)]
    exact hp i p b1 b2 (by rw [af_o (by decide)] at b3; exact b3) b4
  · rw [p1_o (by decide), p1_o (by decide), p1_o (by decide), p1_o (by decide), af_o (by decide), af_o (by decide)]
    exact hx j hj
def pt_M_kind : ak_P := fun vs t Q => match vs with
  | [.ref 0, .int x] => ∃ a, AI a ∧ RM t a ∧ ∀ t', RM t' (g_kind a x) → Q (some (.int (f_kind a x))) t'
  | _ => False
def cs_M_kind : Nat → ak_P := fun a => match a with
  | _ => pt_M_isKind
theorem vc_M_kind : ak_VC lay_M cs_M_kind bl_M_kind 2 pt_M_kind := by
  intro vs t Q h
  unfold pt_M_kind at h
  split at h
  · rename_i x
    obtain ⟨a, hA, hR, h⟩ := h
    have hn := hA.1
    have hR0 := RM_c hR
    refine ⟨Nat.le_of_ble_eq_true rfl, fun J hJ => hJ 4 _ _ _ _ ?_⟩
    simp only [Nat.reduceAdd, Nat.reduceLeDiff, Nat.zero_le, true_or, or_true, run_s, e_nop, e_iconst, e_bipush, e_sipush, e_lconst, e_iload, e_iload_n, e_lload, e_lload_n, e_aload, e_aload_n, e_istore, e_istore_n, e_iinc, e_iadd, e_isub, e_imul, e_lcmp, e_dupI, e_dupR, e_dup2, e_getfield, e_putfield, e_iaload, e_baload, e_laload, e_iastore, e_bastore, e_lastore, e_if, e_icmp, e_goto, e_tsw, e_ireturn0, e_ireturn1, e_return, e_call0, e_call1, e_call2, e_call3, lI_e, lL_e, lR_e, ak_nth, ak_set, ak_ok1, ak_jp, ak_b1, ak_b2, ak_sw, ak_la, ak_pad, true_and, and_true, List.map_cons, List.map_nil, List.sum_cons, List.sum_nil, Value.category, Option.toList_some, Option.toList_none, List.cons_append, List.nil_append, gM_0_0, pM_0_0, gM_0_1, pM_0_1, gM_0_2, pM_0_2, gM_0_3, pM_0_3, gM_0_4, gM_0_5, gM_0_6, gM_0_7, gM_0_8, gM_0_9, gM_0_10, gM_0_11, gM_0_12, gM_0_13, gM_0_14, gM_0_15, gM_0_16, rM_0, kM_1, kM_2, kM_3, kM_4, kM_5, kM_6, kM_7, kM_8, kM_9, kM_10, kM_11, kM_12, kM_13, fd_M_kind_0, fd_M_kind_20, fd_M_kind_31, bk_M_kind_0, bk_M_kind_20, bk_M_kind_31, cs_M_kind, pt_M_isKind]
    simp only [bt0, Classical.not_not, i10, false_implies, not_false_eq_true, true_implies, not_true_eq_false, true_and, and_true, false_and, and_false, imp_self]
    generalize ak_p1 t 0 0 0 = t0 at hR0 ⊢
    have e15 : nI (a.1 0) = 15 ↔ a.1 0 = 15 := by rw [n_15]; exact nI_eq (by omega) (by omega)
    rw [hR0.1.1, e15, nI_1]
    have add : x = 0 ∨ iK a x → (¬ a.1 0 = 15 → vp_in ((ak_p1 t0 0 1 (nI (a.1 0 + 1))).1 0 1) 16 ∧ Q (some (Value.int ((ak_p1 (ak_p1 t0 0 1 (nI (a.1 0 + 1))) 1 ((ak_p1 t0 0 1 (nI (a.1 0 + 1))).1 0 1).toNatClampNeg x).1 0 1))) (ak_p1 (ak_p1 t0 0 1 (nI (a.1 0 + 1))) 1 ((ak_p1 t0 0 1 (nI (a.1 0 + 1))).1 0 1).toNatClampNeg x)) ∧ (a.1 0 = 15 → Q (some (Value.int (-1))) t0) := by
      intro hx
      refine ⟨fun e => ?_, fun e => ?_⟩
      · have hk : ∃ k, k ≤ a.1 0 ∧ x = nI k := by
          rcases hx with hx | hx
          · exact ⟨0, by omega, hx⟩
          · obtain ⟨k, _, h2, h3⟩ := iK_of hA hx
            exact ⟨k, h2, h3⟩
        obtain ⟨k, hk1, hk2⟩ := hk
        rw [p1_s, if_pos rfl, q_cl (by omega), p1_o (by decide), p1_s, if_pos rfl]
        refine ⟨q_in (by omega) (by omega), ?_⟩
        have := h (ak_p1 (ak_p1 t0 0 1 (nI (a.1 0 + 1))) 1 (a.1 0 + 1) x) (by
          rw [g_kind, if_pos ⟨hx, by omega⟩, hk2, q_cl (by omega)]
          exact RM_kind hR0)
        rw [f_kind, if_pos hx, if_neg e] at this
        exact this
      · have := h t0 (by rw [g_kind, if_neg (fun q => by omega)]; exact hR0)
        rw [f_kind, if_pos hx, if_pos e] at this
        exact this
    refine ⟨fun q => add (Or.inl q), fun q => ⟨fun q2 => add (Or.inr q2), fun q2 => ?_⟩⟩
    have := h t0 (by rw [g_kind, if_neg (fun y => y.1.elim q q2)]; exact hR0)
    rw [f_kind, if_neg (fun y => y.elim q q2)] at this
    exact this
  · exact h.elim
set_option maxRecDepth 20000 in
theorem ct_M_kind (l : Launch) : ak_Ctr l cl_all lay_M y_M_kind ws_M_kind rm_M_kind pt_M_kind := by
  refine ak_met (cs := cs_M_kind) (reg := rg_M_kind) (bl := bl_M_kind) (by decide +kernel) rfl (cl_ok _) rfl ok_M_kind ?_ vc_M_kind
  intro a n b ci h
  match a, h with
  | 0, h =>
    cases h
    exact ak_ccV (ct_M_isKind l) rfl 394 395 8 25 396 (by decide +kernel) ⟨rfl, rfl⟩ (by decide +kernel) (by decide +kernel)
  | k + 1, h => cases h
theorem RM_parent {t : ak_S} {a : ab_T} {k o r : Nat} (hR : RM t a) : RM (ak_p1 (ak_p1 t 2 k (nI o)) 3 k (nI r)) (a_f (a_f a 1 k o) 2 k r) := by
  obtain ⟨⟨h1, h2, h3⟩, hk, hs, hst, hp, hx⟩ := hR
  refine ⟨⟨?_, ?_, ?_⟩, fun k' hk' => ?_, fun i hi => ?_, fun i b1 b2 => ?_, fun i p b1 b2 b3 b4 => ?_, fun j hj => ?_⟩
  · rw [p1_o (by decide), p1_o (by decide), h1]; rfl
  · rw [p1_o (by decide), p1_o (by decide), h2]; rfl
  · rw [p1_o (by decide), p1_o (by decide), h3]; rfl
  · obtain ⟨q1, q2, q3⟩ := hk k' hk'
    refine ⟨?_, ?_, ?_⟩
    · rw [p1_o (by decide), p1_o (by decide), af_o (by decide), af_o (by decide), q1]
    · rw [p1_o (by decide), p1_s, af_o (by decide), af_s]
      split
      · rfl
      · exact q2
    · rw [p1_s, af_s]
      split
      · rfl
      · rw [p1_o (by decide), af_o (by decide), q3]
  · obtain ⟨d1, d2, d3, d4⟩ := hs i hi
    refine ⟨?_, ?_, ?_, ?_⟩
    · rw [p1_o (by decide), p1_o (by decide), af_o (by decide), af_o (by decide), d1]
    · rw [p1_o (by decide), p1_o (by decide), af_o (by decide), af_o (by decide), d2]
    · exact d3
    · rw [p1_o (by decide), p1_o (by decide), af_o (by decide), af_o (by decide), d4]
  · rw [p1_o (by decide), p1_o (by decide), af_o (by decide), af_o (by decide)]
    exact hst i b1 b2
  · rw [p1_o (by decide), p1_o (by decide)]
    exact hp i p b1 b2 (by rw [af_o (by decide), af_o (by decide)] at b3; exact b3) b4
  · rw [p1_o (by decide), p1_o (by decide), p1_o (by decide), p1_o (by decide), af_o (by decide), af_o (by decide), af_o (by decide), af_o (by decide)]
    exact hx j hj
def pt_M_parent : ak_P := fun vs t Q => match vs with
  | [.ref 0, .int k, .int o, .int r] => ∃ a, AI a ∧ RM t a ∧ ∀ t', RM t' (g_parent a k o r) → Q (some (.int (f_parent a k o r))) t'
  | _ => False
def cs_M_parent : Nat → ak_P := fun a => match a with
  | _ => pt_M_isKind
theorem vc_M_parent : ak_VC lay_M cs_M_parent bl_M_parent 5 pt_M_parent := by
  intro vs t Q h
  unfold pt_M_parent at h
  split at h
  · rename_i k o r
    obtain ⟨a, hA, hR, h⟩ := h
    have hn := hA.1
    have hR0 := RM_c hR
    refine ⟨Nat.le_of_ble_eq_true rfl, fun J hJ => ?_⟩
    obtain ⟨t0, ht0⟩ : ∃ t0, t0 = ak_p1 t 0 0 0 := ⟨_, rfl⟩
    rw [← ht0] at hR0
    have same : ∀ v : Int32, v ≠ 1 → f_parent a k o r = v → Q (some (.int v)) t0 := by
      intro v hv e
      have := h t0 (by rw [g_parent, e, if_neg hv]; exact hR0)
      rw [e] at this
      exact this
    have loop : iK a k → iK a o → ¬ (r < 0 ∨ 2 < r) → ∀ d i, i + d = a.1 1 → (∀ j, 1 ≤ j → j ≤ i → ¬ nI (a.2.1 3 j) = k) → J 39 [some (.ref 0), some (.int k), some (.int o), some (.int r), some (.int (nI (i + 1)))] [] t0 := by
      intro hk ho hr d
      obtain ⟨k', hk1, hk2, rfl⟩ := iK_of hA hk
      obtain ⟨o', ho1, ho2, rfl⟩ := iK_of hA ho
      induction d with
      | zero =>
        intro i hi hq
        have e : i = a.1 1 := by omega
        subst e
        refine hJ 4 _ _ _ _ ?_
        simp only [Nat.reduceAdd, Nat.reduceLeDiff, Nat.zero_le, true_or, or_true, run_s, e_nop, e_iconst, e_bipush, e_sipush, e_lconst, e_iload, e_iload_n, e_lload, e_lload_n, e_aload, e_aload_n, e_istore, e_istore_n, e_iinc, e_iadd, e_isub, e_imul, e_lcmp, e_dupI, e_dupR, e_dup2, e_getfield, e_putfield, e_iaload, e_baload, e_laload, e_iastore, e_bastore, e_lastore, e_if, e_icmp, e_goto, e_tsw, e_ireturn0, e_ireturn1, e_return, e_call0, e_call1, e_call2, e_call3, lI_e, lL_e, lR_e, ak_nth, ak_set, ak_ok1, ak_jp, ak_b1, ak_b2, ak_sw, ak_la, ak_pad, true_and, and_true, List.map_cons, List.map_nil, List.sum_cons, List.sum_nil, Value.category, Option.toList_some, Option.toList_none, List.cons_append, List.nil_append, gM_0_0, pM_0_0, gM_0_1, pM_0_1, gM_0_2, pM_0_2, gM_0_3, pM_0_3, gM_0_4, gM_0_5, gM_0_6, gM_0_7, gM_0_8, gM_0_9, gM_0_10, gM_0_11, gM_0_12, gM_0_13, gM_0_14, gM_0_15, gM_0_16, rM_0, kM_1, kM_2, kM_3, kM_4, kM_5, kM_6, kM_7, kM_8, kM_9, kM_10, kM_11, kM_12, kM_13, fd_M_parent_0, fd_M_parent_21, fd_M_parent_24, fd_M_parent_33, fd_M_parent_36, fd_M_parent_39, fd_M_parent_62, fd_M_parent_68, fd_M_parent_79, bk_M_parent_0, bk_M_parent_21, bk_M_parent_24, bk_M_parent_33, bk_M_parent_36, bk_M_parent_39, bk_M_parent_62, bk_M_parent_68, bk_M_parent_79, cs_M_parent]
        rw [hR0.1.2.1, q_lt (by omega) (by omega), q_cl (by omega), (hR0.2.1 k' (by omega)).2.1]
        have hb := (hA.2.1 k' (by omega)).2.1
        have hz : ¬ cn (fun i => decide (nI (a.2.1 3 i) = nI k')) (a.1 1) ≠ 0 := by
          intro y
          obtain ⟨j, b1, b2, b3⟩ := cn_ex.mp y
          rw [decide_eq_true_eq] at b3
          exact hq j b1 b2 b3
        have f0 : f_parent a (nI k') (nI o') r = if a.2.1 1 k' ≠ 0 then 0 else 1 := by rw [f_parent, if_neg (fun y => y ⟨hk, ho⟩), if_neg hr, if_neg hz, q_cl (by omega)]
        refine ⟨fun _ => ⟨q_in (by omega) (by omega), fun y => ⟨q_in (by omega) (by omega), q_in (by omega) (by omega), ?_⟩, fun y => ?_⟩, fun q => absurd (by omega) q⟩
        · rw [n_0, q_eq (by omega) (by omega)] at y
          obtain ⟨r', hr'⟩ : ∃ r' : Nat, r' < 2147483648 ∧ r = nI r' := nI_of (fun w => hr (Or.inl w))
          have z : f_parent a (nI k') (nI o') r = 1 := by rw [f0, if_neg (fun w => w y)]
          have := h (ak_p1 (ak_p1 t0 2 k' (nI o')) 3 k' r) (by
            rw [g_parent, z, if_pos rfl, q_cl (by omega), q_cl (by omega), hr'.2, q_cl hr'.1]
            exact RM_parent hR0)
          rw [z] at this
          exact this
        · rw [n_0, q_eq (by omega) (by omega)] at y
          exact same 0 (by decide) (by rw [f0, if_pos y])
      | succ d ih =>
        intro i hi hq
        refine hJ 4 _ _ _ _ ?_
        simp only [Nat.reduceAdd, Nat.reduceLeDiff, Nat.zero_le, true_or, or_true, run_s, e_nop, e_iconst, e_bipush, e_sipush, e_lconst, e_iload, e_iload_n, e_lload, e_lload_n, e_aload, e_aload_n, e_istore, e_istore_n, e_iinc, e_iadd, e_isub, e_imul, e_lcmp, e_dupI, e_dupR, e_dup2, e_getfield, e_putfield, e_iaload, e_baload, e_laload, e_iastore, e_bastore, e_lastore, e_if, e_icmp, e_goto, e_tsw, e_ireturn0, e_ireturn1, e_return, e_call0, e_call1, e_call2, e_call3, lI_e, lL_e, lR_e, ak_nth, ak_set, ak_ok1, ak_jp, ak_b1, ak_b2, ak_sw, ak_la, ak_pad, true_and, and_true, List.map_cons, List.map_nil, List.sum_cons, List.sum_nil, Value.category, Option.toList_some, Option.toList_none, List.cons_append, List.nil_append, gM_0_0, pM_0_0, gM_0_1, pM_0_1, gM_0_2, pM_0_2, gM_0_3, pM_0_3, gM_0_4, gM_0_5, gM_0_6, gM_0_7, gM_0_8, gM_0_9, gM_0_10, gM_0_11, gM_0_12, gM_0_13, gM_0_14, gM_0_15, gM_0_16, rM_0, kM_1, kM_2, kM_3, kM_4, kM_5, kM_6, kM_7, kM_8, kM_9, kM_10, kM_11, kM_12, kM_13, fd_M_parent_0, fd_M_parent_21, fd_M_parent_24, fd_M_parent_33, fd_M_parent_36, fd_M_parent_39, fd_M_parent_62, fd_M_parent_68, fd_M_parent_79, bk_M_parent_0, bk_M_parent_21, bk_M_parent_24, bk_M_parent_33, bk_M_parent_36, bk_M_parent_39, bk_M_parent_62, bk_M_parent_68, bk_M_parent_79, cs_M_parent, nI_1]
        rw [hR0.1.2.1, q_lt (by omega) (by omega), q_cl (a := i + 1) (by omega), (hR0.2.2.1 (i + 1) (by omega)).1]
        refine ⟨fun q => absurd q (by omega), fun _ => ⟨q_in (by omega) (by omega), fun q => ?_, fun q => ?_⟩⟩
        · refine ih (i + 1) (by omega) (fun j h1 h2 => ?_)
          by_cases e : j = i + 1
          · rw [e]; exact q
          · exact hq j h1 (by omega)
        · refine same (-5) (by decide) ?_
          rw [f_parent, if_neg (fun y => y ⟨hk, ho⟩), if_neg hr, if_pos]
          exact cn_ex.mpr ⟨i + 1, by omega, by omega, by rw [decide_eq_true_eq]; exact q⟩
    refine hJ 6 _ _ _ _ ?_
    simp only [Nat.reduceAdd, Nat.reduceLeDiff, Nat.zero_le, true_or, or_true, run_s, e_nop, e_iconst, e_bipush, e_sipush, e_lconst, e_iload, e_iload_n, e_lload, e_lload_n, e_aload, e_aload_n, e_istore, e_istore_n, e_iinc, e_iadd, e_isub, e_imul, e_lcmp, e_dupI, e_dupR, e_dup2, e_getfield, e_putfield, e_iaload, e_baload, e_laload, e_iastore, e_bastore, e_lastore, e_if, e_icmp, e_goto, e_tsw, e_ireturn0, e_ireturn1, e_return, e_call0, e_call1, e_call2, e_call3, lI_e, lL_e, lR_e, ak_nth, ak_set, ak_ok1, ak_jp, ak_b1, ak_b2, ak_sw, ak_la, ak_pad, true_and, and_true, List.map_cons, List.map_nil, List.sum_cons, List.sum_nil, Value.category, Option.toList_some, Option.toList_none, List.cons_append, List.nil_append, gM_0_0, pM_0_0, gM_0_1, pM_0_1, gM_0_2, pM_0_2, gM_0_3, pM_0_3, gM_0_4, gM_0_5, gM_0_6, gM_0_7, gM_0_8, gM_0_9, gM_0_10, gM_0_11, gM_0_12, gM_0_13, gM_0_14, gM_0_15, gM_0_16, rM_0, kM_1, kM_2, kM_3, kM_4, kM_5, kM_6, kM_7, kM_8, kM_9, kM_10, kM_11, kM_12, kM_13, fd_M_parent_0, fd_M_parent_21, fd_M_parent_24, fd_M_parent_33, fd_M_parent_36, fd_M_parent_39, fd_M_parent_62, fd_M_parent_68, fd_M_parent_79, bk_M_parent_0, bk_M_parent_21, bk_M_parent_24, bk_M_parent_33, bk_M_parent_36, bk_M_parent_39, bk_M_parent_62, bk_M_parent_68, bk_M_parent_79, cs_M_parent, pt_M_isKind]
    simp only [bt0, Classical.not_not, i10, false_implies, not_false_eq_true, true_implies, not_true_eq_false, true_and, and_true, false_and, and_false, imp_self]
    rw [← ht0, hR0.1.1]
    refine ⟨fun q => same _ (by decide) (by rw [f_parent, if_pos (fun y => q y.1)]), fun q => ⟨fun q2 => ⟨fun q3 => same _ (by decide) ?_, fun q3 => ⟨fun q4 => ?_, fun q4 => same _ (by decide) ?_⟩⟩, fun q2 => same _ (by decide) (by rw [f_parent, if_pos (fun y => q2 y.2)])⟩⟩
    · rw [f_parent, if_neg (fun y => y ⟨q, q2⟩), if_pos (Or.inl q3)]
    · have := loop q q2 (by grind) (a.1 1) 0 (by omega) (fun j h1 h2 => absurd h2 (by omega))
      exact this
    · rw [f_parent, if_neg (fun y => y ⟨q, q2⟩), if_pos (Or.inr (by grind))]
  · exact h.elim
set_option maxRecDepth 20000 in
theorem ct_M_parent (l : Launch) : ak_Ctr l cl_all lay_M y_M_parent ws_M_parent rm_M_parent pt_M_parent := by
  refine ak_met (cs := cs_M_parent) (reg := rg_M_parent) (bl := bl_M_parent) (by decide +kernel) rfl (cl_ok _) rfl ok_M_parent ?_ vc_M_parent
  intro a n b ci h
  match a, h with
  | 0, h =>
    cases h
    exact ak_ccV (ct_M_isKind l) rfl 394 395 8 25 396 (by decide +kernel) ⟨rfl, rfl⟩ (by decide +kernel) (by decide +kernel)
  | k + 1, h => cases h
