/-! the reference's there, count, index, poke -/
theorem stM {t : ak_S} {a : ab_T} (hA : AI a) (hR : RM t a) {i : Nat} (h1 : 1 ≤ i) (h2 : i ≤ a.1 1) : (t.1 6 i = 1 ↔ a.2.1 5 i = 1) ∧ (t.1 6 i = 2 ↔ a.2.1 5 i = 2) ∧ (t.1 6 i = 3 ↔ a.2.1 5 i = 0) := by
  have hn := hA.1
  have hb := (hA.2.2.1 i (by omega)).2.2.1
  rw [hR.2.2.2.1 i h1 h2]
  rcases (by omega : a.2.1 5 i = 0 ∨ a.2.1 5 i = 1 ∨ a.2.1 5 i = 2) with z | z | z
  · rw [z]; decide
  · rw [z]; decide
  · rw [z]; decide
theorem m_cnt_a {t : ak_S} {a : ab_T} (hA : AI a) (hR : RM t a) {i : Nat} (h1 : 1 ≤ i) (h2 : i ≤ 250) : m_cnt t (a.1 1) (nI i) = ac a i := by
  have hn := hA.1
  refine cn_congr (fun j j1 j2 => ?_)
  rw [decide_eq_decide, (hR.2.2.1 j (by omega)).2.2.2]
  have hb := (hA.2.2.1 j (by omega)).2.2.2
  rw [nI_eq (by omega) (by omega), (stM hA hR j1 j2).1]
  exact ⟨fun z => z.2, fun z => ⟨(hA.2.2.2.2.1 j (by omega) (by omega)).2.2, z⟩⟩
theorem m_tr_a {t : ak_S} {a : ab_T} (hA : AI a) (hR : RM t a) {i p : Nat} (h1 : 1 ≤ i) (h2 : i ≤ a.1 1) : m_tr t (a.1 1) i p = nI (a_tr a i p) := by
  have hn := hA.1
  unfold m_tr a_tr
  obtain ⟨_, d2, _, d4⟩ := hR.2.2.1 i (by omega)
  rw [m_cnt_a hA hR h1 (by omega), d2, d4]
  have e := (stM hA hR h1 h2).1
  by_cases z : a.2.1 5 i = 1
  · rw [if_pos (e.mpr z), if_pos z]
    split
    · rfl
    · split <;> rfl
  · rw [if_neg (fun w => z (e.mp w)), if_neg z]
    split
    · rfl
    · split <;> rfl
def pt_M_there : ak_P := fun vs t Q => match vs with
  | [.ref 0, .int i, .int d] => ∃ a, AI a ∧ RM t a ∧ ∀ t', RM t' a → Q (some (.int (f_there a i d))) t'
  | _ => False
def cs_M_there : Nat → ak_P := fun a => match a with
  | _ => pt_M_isSegment
theorem vc_M_there : ak_VC lay_M cs_M_there bl_M_there 3 pt_M_there := by
  intro vs t Q h
  unfold pt_M_there at h
  split at h
  · rename_i i d
    obtain ⟨a, hA, hR, h⟩ := h
    have hn := hA.1
    have hR0 := RM_c hR
    refine ⟨Nat.le_of_ble_eq_true rfl, fun J hJ => hJ 6 _ _ _ _ ?_⟩
    simp only [Nat.reduceAdd, Nat.reduceLeDiff, Nat.zero_le, true_or, or_true, run_s, e_nop, e_iconst, e_bipush, e_sipush, e_lconst, e_iload, e_iload_n, e_lload, e_lload_n, e_aload, e_aload_n, e_istore, e_istore_n, e_iinc, e_iadd, e_isub, e_imul, e_lcmp, e_dupI, e_dupR, e_dup2, e_getfield, e_putfield, e_iaload, e_baload, e_laload, e_iastore, e_bastore, e_lastore, e_if, e_icmp, e_goto, e_tsw, e_ireturn0, e_ireturn1, e_return, e_call0, e_call1, e_call2, e_call3, lI_e, lL_e, lR_e, ak_nth, ak_set, ak_ok1, ak_jp, ak_b1, ak_b2, ak_sw, ak_la, ak_pad, true_and, and_true, List.map_cons, List.map_nil, List.sum_cons, List.sum_nil, Value.category, Option.toList_some, Option.toList_none, List.cons_append, List.nil_append, gM_0_0, pM_0_0, gM_0_1, pM_0_1, gM_0_2, pM_0_2, gM_0_3, pM_0_3, gM_0_4, gM_0_5, gM_0_6, gM_0_7, gM_0_8, gM_0_9, gM_0_10, gM_0_11, gM_0_12, gM_0_13, gM_0_14, gM_0_15, gM_0_16, rM_0, kM_1, kM_2, kM_3, kM_4, kM_5, kM_6, kM_7, kM_8, kM_9, kM_10, kM_11, kM_12, kM_13, fd_M_there_0, fd_M_there_27, fd_M_there_42, fd_M_there_46, fd_M_there_47, bk_M_there_0, bk_M_there_27, bk_M_there_42, bk_M_there_46, bk_M_there_47, cs_M_there, pt_M_isSegment]
    simp only [bt0, Classical.not_not, i10, false_implies, not_false_eq_true, true_implies, not_true_eq_false, true_and, and_true, false_and, and_false, imp_self]
    generalize ak_p1 t 0 0 0 = t0 at hR0 ⊢
    have h := h t0 hR0
    rw [hR0.1.2.1]
    unfold f_there at h
    have key : iS a i → vp_in i 251 ∧ (t0.1 6 i.toNatClampNeg = 1 ↔ a.2.1 5 i.toNatClampNeg = 1) ∧ (t0.1 6 i.toNatClampNeg = 2 ↔ a.2.1 5 i.toNatClampNeg = 2) := by
      intro hi
      obtain ⟨i', hi1, hi2, rfl⟩ := iS_of hA hi
      rw [q_cl (by omega)]
      obtain ⟨z1, z2, _⟩ := stM hA hR0 hi1 hi2
      exact ⟨q_in (by omega) (by omega), z1, z2⟩
    by_cases hi : iS a i
    · obtain ⟨k1, k2, k3⟩ := key hi
      simp only [hi, true_and, not_true_eq_false, false_implies, true_implies, k1, k2, k3] at h ⊢
      grind
    · rw [if_neg (fun z => hi z.1)] at h
      refine ⟨fun _ => h, fun z => absurd z hi⟩
  · exact h.elim
set_option maxRecDepth 20000 in
theorem ct_M_there (l : Launch) : ak_Ctr l cl_all lay_M y_M_there ws_M_there rm_M_there pt_M_there := by
  refine ak_met (cs := cs_M_there) (reg := rg_M_there) (bl := bl_M_there) (by decide +kernel) rfl (cl_ok _) rfl ok_M_there ?_ vc_M_there
  intro a n b ci h
  match a, h with
  | 0, h =>
    cases h
    exact ak_ccV (ct_M_isSegment l) rfl 408 409 10 25 410 (by decide +kernel) ⟨rfl, rfl⟩ (by decide +kernel) (by decide +kernel)
  | k + 1, h => cases h
def pt_M_count : ak_P := fun vs t Q => match vs with
  | [.ref 0, .int i] => ∃ a, AI a ∧ RM t a ∧ ∀ t', RM t' a → Q (some (.int (f_count a i))) t'
  | _ => False
def cs_M_count : Nat → ak_P := fun a => match a with
  | 0 => pt_M_isSegment
  | _ => pt_M_countOf
theorem vc_M_count : ak_VC lay_M cs_M_count bl_M_count 2 pt_M_count := by
  intro vs t Q h
  unfold pt_M_count at h
  split at h
  · rename_i i
    obtain ⟨a, hA, hR, h⟩ := h
    have hn := hA.1
    have hR0 := RM_c hR
    refine ⟨Nat.le_of_ble_eq_true rfl, fun J hJ => hJ 6 _ _ _ _ ?_⟩
    simp only [Nat.reduceAdd, Nat.reduceLeDiff, Nat.zero_le, true_or, or_true, run_s, e_nop, e_iconst, e_bipush, e_sipush, e_lconst, e_iload, e_iload_n, e_lload, e_lload_n, e_aload, e_aload_n, e_istore, e_istore_n, e_iinc, e_iadd, e_isub, e_imul, e_lcmp, e_dupI, e_dupR, e_dup2, e_getfield, e_putfield, e_iaload, e_baload, e_laload, e_iastore, e_bastore, e_lastore, e_if, e_icmp, e_goto, e_tsw, e_ireturn0, e_ireturn1, e_return, e_call0, e_call1, e_call2, e_call3, lI_e, lL_e, lR_e, ak_nth, ak_set, ak_ok1, ak_jp, ak_b1, ak_b2, ak_sw, ak_la, ak_pad, true_and, and_true, List.map_cons, List.map_nil, List.sum_cons, List.sum_nil, Value.category, Option.toList_some, Option.toList_none, List.cons_append, List.nil_append, gM_0_0, pM_0_0, gM_0_1, pM_0_1, gM_0_2, pM_0_2, gM_0_3, pM_0_3, gM_0_4, gM_0_5, gM_0_6, gM_0_7, gM_0_8, gM_0_9, gM_0_10, gM_0_11, gM_0_12, gM_0_13, gM_0_14, gM_0_15, gM_0_16, rM_0, kM_1, kM_2, kM_3, kM_4, kM_5, kM_6, kM_7, kM_8, kM_9, kM_10, kM_11, kM_12, kM_13, fd_M_count_0, fd_M_count_21, fd_M_count_23, bk_M_count_0, bk_M_count_21, bk_M_count_23, cs_M_count, pt_M_isSegment, pt_M_countOf]
    simp only [bt0, Classical.not_not, i10, false_implies, not_false_eq_true, true_implies, not_true_eq_false, true_and, and_true, false_and, and_false, imp_self]
    generalize ak_p1 t 0 0 0 = t0 at hR0 ⊢
    have h := h t0 hR0
    rw [hR0.1.2.1]
    unfold f_count at h
    refine ⟨fun q => ?_, fun q => ⟨a.1 1, by omega, rfl, ?_⟩⟩
    · rw [if_neg q] at h
      exact h
    · rw [if_pos q] at h
      obtain ⟨i', hi1, hi2, rfl⟩ := iS_of hA q
      rw [q_cl (by omega)] at h
      rw [m_cnt_a hA hR0 hi1 (by omega)]
      exact h
  · exact h.elim
set_option maxRecDepth 20000 in
theorem ct_M_count (l : Launch) : ak_Ctr l cl_all lay_M y_M_count ws_M_count rm_M_count pt_M_count := by
  refine ak_met (cs := cs_M_count) (reg := rg_M_count) (bl := bl_M_count) (by decide +kernel) rfl (cl_ok _) rfl ok_M_count ?_ vc_M_count
  intro a n b ci h
  match a, h with
  | 0, h =>
    cases h
    exact ak_ccV (ct_M_isSegment l) rfl 408 409 10 25 410 (by decide +kernel) ⟨rfl, rfl⟩ (by decide +kernel) (by decide +kernel)
  | 1, h =>
    cases h
    exact ak_ccV (ct_M_countOf l) rfl 417 418 13 25 419 (by decide +kernel) ⟨rfl, rfl⟩ (by decide +kernel) (by decide +kernel)
  | k + 2, h => cases h
theorem RM_index {t : ak_S} {a : ab_T} {k j : Nat} (hR : RM t a) : RM (ak_p1 (ak_p1 (ak_p1 t 0 3 (nI (a.1 2 + 1))) 12 (a.1 2 + 1) (nI k)) 13 (a.1 2 + 1) (nI j)) (a_f (a_f (a_n a 2 (a.1 2 + 1)) 7 (a.1 2 + 1) k) 8 (a.1 2 + 1) j) := by
  obtain ⟨⟨h1, h2, h3⟩, hk, hs, hst, hp, hx⟩ := hR
  refine ⟨⟨?_, ?_, ?_⟩, fun k' hk' => ?_, fun i hi => ?_, fun i b1 b2 => ?_, fun i p b1 b2 b3 b4 => ?_, fun j' hj => ?_⟩
  · rw [p1_o (by decide), p1_o (by decide), p1_s, if_neg (by decide), h1]; rfl
  · rw [p1_o (by decide), p1_o (by decide), p1_s, if_neg (by decide), h2]; rfl
  · rw [p1_o (by decide), p1_o (by decide), p1_s, if_pos rfl]; rfl
  · simpa [p1_o, af_o, an_2] using hk k' hk'
  · obtain ⟨d1, d2, d3, d4⟩ := hs i hi
    refine ⟨?_, ?_, d3, ?_⟩
    · simp [p1_o, af_o, an_2, d1]
    · simp [p1_o, af_o, an_2, d2]
    · simp [p1_o, af_o, an_2, d4]
  · rw [p1_o (by decide), p1_o (by decide), p1_o (by decide), af_o (by decide), af_o (by decide)]
    exact hst i b1 b2
  · rw [p1_o (by decide), p1_o (by decide), p1_o (by decide)]
    exact hp i p b1 b2 (by rw [af_o (by decide), af_o (by decide)] at b3; exact b3) b4
  · obtain ⟨q1, q2⟩ := hx j' hj
    refine ⟨?_, ?_⟩
    · rw [p1_o (by decide), p1_s, af_o (by decide), af_s]
      split
      · rfl
      · rw [p1_o (by decide), q1]; rfl
    · rw [p1_s, af_s]
      split
      · rfl
      · rw [p1_o (by decide), p1_o (by decide), q2, af_o (by decide)]; rfl
def pt_M_index : ak_P := fun vs t Q => match vs with
  | [.ref 0, .int k, .int b] => ∃ a, AI a ∧ RM t a ∧ ∀ t', RM t' (g_index a k b) → Q (some (.int (f_index a k b))) t'
  | _ => False
def cs_M_index : Nat → ak_P := fun a => match a with
  | _ => pt_M_isKind
theorem vc_M_index : ak_VC lay_M cs_M_index bl_M_index 3 pt_M_index := by
  intro vs t Q h
  unfold pt_M_index at h
  split at h
  · rename_i k b
    obtain ⟨a, hA, hR, h⟩ := h
    have hn := hA.1
    have hR0 := RM_c hR
    refine ⟨Nat.le_of_ble_eq_true rfl, fun J hJ => hJ 6 _ _ _ _ ?_⟩
    simp only [Nat.reduceAdd, Nat.reduceLeDiff, Nat.zero_le, true_or, or_true, run_s, e_nop, e_iconst, e_bipush, e_sipush, e_lconst, e_iload, e_iload_n, e_lload, e_lload_n, e_aload, e_aload_n, e_istore, e_istore_n, e_iinc, e_iadd, e_isub, e_imul, e_lcmp, e_dupI, e_dupR, e_dup2, e_getfield, e_putfield, e_iaload, e_baload, e_laload, e_iastore, e_bastore, e_lastore, e_if, e_icmp, e_goto, e_tsw, e_ireturn0, e_ireturn1, e_return, e_call0, e_call1, e_call2, e_call3, lI_e, lL_e, lR_e, ak_nth, ak_set, ak_ok1, ak_jp, ak_b1, ak_b2, ak_sw, ak_la, ak_pad, true_and, and_true, List.map_cons, List.map_nil, List.sum_cons, List.sum_nil, Value.category, Option.toList_some, Option.toList_none, List.cons_append, List.nil_append, gM_0_0, pM_0_0, gM_0_1, pM_0_1, gM_0_2, pM_0_2, gM_0_3, pM_0_3, gM_0_4, gM_0_5, gM_0_6, gM_0_7, gM_0_8, gM_0_9, gM_0_10, gM_0_11, gM_0_12, gM_0_13, gM_0_14, gM_0_15, gM_0_16, rM_0, kM_1, kM_2, kM_3, kM_4, kM_5, kM_6, kM_7, kM_8, kM_9, kM_10, kM_11, kM_12, kM_13, fd_M_index_0, fd_M_index_16, fd_M_index_27, bk_M_index_0, bk_M_index_16, bk_M_index_27, cs_M_index, pt_M_isKind]
    simp only [bt0, Classical.not_not, i10, false_implies, not_false_eq_true, true_implies, not_true_eq_false, true_and, and_true, false_and, and_false, imp_self]
    generalize ak_p1 t 0 0 0 = t0 at hR0 ⊢
    have e10 : nI (a.1 2) = 10 ↔ a.1 2 = 10 := by rw [n_10]; exact nI_eq (by omega) (by omega)
    rw [hR0.1.1, hR0.1.2.2, e10, nI_1]
    refine ⟨fun q => ⟨fun e => ?_, fun e => ?_⟩, fun q => ?_⟩
    · obtain ⟨k', hk1, hk2, rfl⟩ := iK_of hA q
      obtain ⟨j, hj1, hj2⟩ := and1 b
      rw [hj2, p1_s, if_pos rfl, p1_o (by decide), p1_s, if_pos rfl, p1_o (by decide), p1_o (by decide), p1_s, if_pos rfl, q_cl (by omega)]
      refine ⟨q_in (by omega) (by omega), q_in (by omega) (by omega), ?_⟩
      have := h (ak_p1 (ak_p1 (ak_p1 t0 0 3 (nI (a.1 2 + 1))) 12 (a.1 2 + 1) (nI k')) 13 (a.1 2 + 1) (nI j)) (by
        rw [g_index, if_pos ⟨q, by omega⟩, q_cl (by omega), hj2, q_cl (by omega)]
        exact RM_index hR0)
      rw [f_index, if_pos q, if_neg e] at this
      exact this
    · have := h t0 (by rw [g_index, if_neg (fun z => by omega)]; exact hR0)
      rw [f_index, if_pos q, if_pos e] at this
      exact this
    · have := h t0 (by rw [g_index, if_neg (fun z => q z.1)]; exact hR0)
      rw [f_index, if_neg q] at this
      exact this
  · exact h.elim
set_option maxRecDepth 20000 in
theorem ct_M_index (l : Launch) : ak_Ctr l cl_all lay_M y_M_index ws_M_index rm_M_index pt_M_index := by
  refine ak_met (cs := cs_M_index) (reg := rg_M_index) (bl := bl_M_index) (by decide +kernel) rfl (cl_ok _) rfl ok_M_index ?_ vc_M_index
  intro a n b ci h
  match a, h with
  | 0, h =>
    cases h
    exact ak_ccV (ct_M_isKind l) rfl 394 395 8 25 396 (by decide +kernel) ⟨rfl, rfl⟩ (by decide +kernel) (by decide +kernel)
  | k + 1, h => cases h
theorem RM_poke {t : ak_S} {a : ab_T} {j : Nat} {x : Int32} (hR : RM t a) : RM (ak_p1 t 8 j x) (a_p a j x) := by
  obtain ⟨⟨h1, h2, h3⟩, hk, hs, hst, hp, hx⟩ := hR
  refine ⟨⟨?_, ?_, ?_⟩, fun k' hk' => ?_, fun i hi => ?_, fun i b1 b2 => ?_, fun i p b1 b2 b3 b4 => ?_, fun j' hj => ?_⟩
  · rw [p1_o (by decide), h1]; rfl
  · rw [p1_o (by decide), h2]; rfl
  · rw [p1_o (by decide), h3]; rfl
  · rw [p1_o (by decide), p1_o (by decide), p1_o (by decide)]; exact hk k' hk'
  · rw [p1_o (by decide), p1_o (by decide), p1_o (by decide)]; exact hs i hi
  · rw [p1_o (by decide)]; exact hst i b1 b2
  · rw [p1_s, ap_s, hp i p b1 b2 b3 b4]
  · rw [p1_o (by decide), p1_o (by decide)]; exact hx j' hj
def pt_M_poke : ak_P := fun vs t Q => match vs with
  | [.ref 0, .int i, .int p, .int x] => ∃ a, AI a ∧ RM t a ∧ ∀ t', RM t' (g_poke a i p x) → Q (some (.int (f_poke a i p x))) t'
  | _ => False
def cs_M_poke : Nat → ak_P := fun a => match a with
  | _ => pt_M_isSegment
theorem vc_M_poke : ak_VC lay_M cs_M_poke bl_M_poke 5 pt_M_poke := by
  intro vs t Q h
  unfold pt_M_poke at h
  split at h
  · rename_i i p x
    obtain ⟨a, hA, hR, h⟩ := h
    have hn := hA.1
    have hR0 := RM_c hR
    refine ⟨Nat.le_of_ble_eq_true rfl, fun J hJ => hJ 6 _ _ _ _ ?_⟩
    simp only [Nat.reduceAdd, Nat.reduceLeDiff, Nat.zero_le, true_or, or_true, run_s, e_nop, e_iconst, e_bipush, e_sipush, e_lconst, e_iload, e_iload_n, e_lload, e_lload_n, e_aload, e_aload_n, e_istore, e_istore_n, e_iinc, e_iadd, e_isub, e_imul, e_lcmp, e_dupI, e_dupR, e_dup2, e_getfield, e_putfield, e_iaload, e_baload, e_laload, e_iastore, e_bastore, e_lastore, e_if, e_icmp, e_goto, e_tsw, e_ireturn0, e_ireturn1, e_return, e_call0, e_call1, e_call2, e_call3, lI_e, lL_e, lR_e, ak_nth, ak_set, ak_ok1, ak_jp, ak_b1, ak_b2, ak_sw, ak_la, ak_pad, true_and, and_true, List.map_cons, List.map_nil, List.sum_cons, List.sum_nil, Value.category, Option.toList_some, Option.toList_none, List.cons_append, List.nil_append, gM_0_0, pM_0_0, gM_0_1, pM_0_1, gM_0_2, pM_0_2, gM_0_3, pM_0_3, gM_0_4, gM_0_5, gM_0_6, gM_0_7, gM_0_8, gM_0_9, gM_0_10, gM_0_11, gM_0_12, gM_0_13, gM_0_14, gM_0_15, gM_0_16, rM_0, kM_1, kM_2, kM_3, kM_4, kM_5, kM_6, kM_7, kM_8, kM_9, kM_10, kM_11, kM_12, kM_13, fd_M_poke_0, fd_M_poke_16, fd_M_poke_25, fd_M_poke_28, fd_M_poke_41, bk_M_poke_0, bk_M_poke_16, bk_M_poke_25, bk_M_poke_28, bk_M_poke_41, cs_M_poke, pt_M_isSegment]
    simp only [bt0, Classical.not_not, i10, false_implies, not_false_eq_true, true_implies, not_true_eq_false, true_and, and_true, false_and, and_false, imp_self]
    generalize ak_p1 t 0 0 0 = t0 at hR0 ⊢
    rw [hR0.1.2.1]
    have same : ∀ v : Int32, f_poke a i p x = v → g_poke a i p x = a → Q (some (.int v)) t0 := by
      intro v e e2
      have := h t0 (by rw [e2]; exact hR0)
      rw [e] at this
      exact this
    refine ⟨fun q => ⟨fun q2 => same _ ?_ ?_, fun q2 => ⟨fun q3 => ?_, fun q3 => same _ ?_ ?_⟩⟩, fun q => same _ ?_ ?_⟩
    · rw [f_poke, if_neg (fun z => z q), if_pos (Or.inl q2)]
    · rw [g_poke, if_neg (fun z => z.2.1 (Or.inl q2))]
    · obtain ⟨i', hi1, hi2, rfl⟩ := iS_of hA q
      obtain ⟨p', hp1, rfl⟩ := nI_of q2
      rw [n_2, q_le (by omega) (by omega)] at q3
      obtain ⟨_, _, s3⟩ := stM hA hR0 hi1 hi2
      have hp : ¬ (nI p' < 0 ∨ 2 < nI p') := by
        rintro (z | z)
        · exact q2 z
        · rw [n_2, q_lt (by omega) (by omega)] at z
          omega
      rw [q_cl (by omega), s3, n_3, pk_mul, nI_add, q_cl (by omega)]
      refine ⟨q_in (by omega) (by omega), fun q4 => ⟨q_in (by omega) (by omega), q_in (by omega) (by omega), ?_⟩, fun q4 => same _ ?_ ?_⟩
      · have := h (ak_p1 t0 8 (3 * i' + p') x) (by
          rw [g_poke, q_cl (by omega), q_cl (by omega), if_pos ⟨q, hp, q4⟩]
          exact RM_poke hR0)
        rw [f_poke, if_neg (fun z => z q), if_neg hp, q_cl (by omega), q_cl (by omega), if_neg q4] at this
        rw [hR0.2.2.2.2.1 i' p' hi1 hi2 q4 (by omega)]
        exact this
      · rw [f_poke, if_neg (fun z => z q), if_neg hp, q_cl (by omega), if_pos q4]
      · rw [g_poke, q_cl (by omega), if_neg (fun z => z.2.2 q4)]
    · rw [f_poke, if_neg (fun z => z q), if_pos (Or.inr (by grind))]
    · rw [g_poke, if_neg (fun z => z.2.1 (Or.inr (by grind)))]
    · rw [f_poke, if_pos q]
    · rw [g_poke, if_neg (fun z => q z.1)]
  · exact h.elim
set_option maxRecDepth 20000 in
theorem ct_M_poke (l : Launch) : ak_Ctr l cl_all lay_M y_M_poke ws_M_poke rm_M_poke pt_M_poke := by
  refine ak_met (cs := cs_M_poke) (reg := rg_M_poke) (bl := bl_M_poke) (by decide +kernel) rfl (cl_ok _) rfl ok_M_poke ?_ vc_M_poke
  intro a n b ci h
  match a, h with
  | 0, h =>
    cases h
    exact ak_ccV (ct_M_isSegment l) rfl 408 409 10 25 410 (by decide +kernel) ⟨rfl, rfl⟩ (by decide +kernel) (by decide +kernel)
  | k + 1, h => cases h
