/-! the class's kind and parent -/
theorem RC_kind {s : ak_S} {a : ab_T} {k : Nat} (hR : RC s a) (hk : k ≤ a.1 0) : RC (ak_p1 (ak_p1 s 1 0 (nI (a.1 0 + 1))) 5 (a.1 0 + 1) (nI k)) (a_f (a_n a 0 (a.1 0 + 1)) 0 (a.1 0 + 1) k) := by
  obtain ⟨⟨h1, h2, h3⟩, hk, hs, hc, hp, hx, hb⟩ := hR
  refine ⟨⟨?_, ?_, ?_⟩, fun k' hk' => ?_, fun i hi => ?_, fun i h1 h2 => ?_, fun i p h1 h2 h3 h4 => ?_, fun j hj => ?_, ?_⟩
  · simp [p1_s, p1_o, af_1, an_1]
  · simp [p1_o, af_1, an_1, h2]
  · simp [p1_o, af_1, an_1, h3]
  · obtain ⟨q1, q2, q3⟩ := hk k' hk'
    refine ⟨?_, ?_, ?_⟩
    · rw [p1_s, af_s]
      split
      · rfl
      · rw [p1_o (by decide), q1]; rfl
    · rw [p1_o (by decide), p1_o (by decide), af_o (by decide), q2]; rfl
    · rw [p1_o (by decide), p1_o (by decide), af_o (by decide), q3]; rfl
  · simpa [p1_o, p1_2, af_o, af_2, an_2] using hs i hi
  · simpa [p1_o, ac, af_o, af_1, an_1, an_2] using hc i h1 h2
  · simpa [p1_o, af_2, an_2] using hp i p h1 h2 (by simpa [af_o, an_2] using h3) h4
  · simpa [p1_o, af_o, an_2] using hx j hj
  · simpa [BK, p1_o, af_1, an_1, a_lt, af_2, an_2] using hb
def pt_L_kind : ak_P := fun vs s Q => match vs with
  | [.ref 0, .int x] => ∃ a, AI a ∧ RC s a ∧ ∀ s', RC s' (g_kind a x) → Q (some (.int (f_kind a x))) s'
  | _ => False
def cs_L_kind : Nat → ak_P := fun a => match a with
  | 0 => pt_K_has
  | _ => pt_K_add
theorem vc_L_kind : ak_VC lay_C cs_L_kind bl_L_kind 2 pt_L_kind := by
  intro vs s Q h
  unfold pt_L_kind at h
  split at h
  · rename_i x
    obtain ⟨a, hA, hR, h⟩ := h
    refine ⟨Nat.le_of_ble_eq_true rfl, fun J hJ => hJ 3 _ _ _ _ ?_⟩
    simp only [Nat.reduceAdd, Nat.reduceLeDiff, Nat.zero_le, true_or, or_true, run_s, e_nop, e_iconst, e_bipush, e_sipush, e_lconst, e_iload, e_iload_n, e_lload, e_lload_n, e_aload, e_aload_n, e_istore, e_istore_n, e_iinc, e_iadd, e_isub, e_imul, e_lcmp, e_dupI, e_dupR, e_dup2, e_getfield, e_putfield, e_iaload, e_baload, e_laload, e_iastore, e_bastore, e_lastore, e_if, e_icmp, e_goto, e_tsw, e_ireturn0, e_ireturn1, e_return, e_call0, e_call1, e_call2, e_call3, lI_e, lL_e, lR_e, ak_nth, ak_set, ak_ok1, ak_jp, ak_b1, ak_b2, ak_sw, ak_la, ak_pad, true_and, and_true, List.map_cons, List.map_nil, List.sum_cons, List.sum_nil, Value.category, Option.toList_some, Option.toList_none, List.cons_append, List.nil_append, gC_0_0, gC_0_1, gC_0_2, gC_0_3, rC_0, gC_1_0, pC_1_0, gC_1_1, gC_1_2, gC_1_3, rC_1, gC_2_0, pC_2_0, gC_2_1, gC_2_2, gC_2_3, gC_2_4, gC_2_5, gC_2_6, gC_2_7, gC_2_8, rC_2, gC_3_0, pC_3_0, gC_3_1, gC_3_2, rC_3, gC_4_0, gC_4_1, gC_4_2, gC_4_3, gC_4_4, pC_4_4, rC_4, kC_5, kC_6, kC_7, kC_8, kC_9, kC_10, kC_11, kC_12, kC_13, kC_14, kC_15, kC_16, kC_17, kC_18, kC_19, fd_L_kind_0, fd_L_kind_18, bk_L_kind_0, bk_L_kind_18, cs_L_kind, pt_K_has, pt_K_add]
    have hn := hA.1.1
    have e0 := hR.1.1
    rw [e0]
    have add : x = 0 ∨ iK a x → ∃ n, n ≤ 15 ∧ nI (a.1 0) = nI n ∧ (n = 15 → Q (some (Value.int (-1))) s) ∧ (n < 15 → Q (some (Value.int (nI (n + 1)))) (ak_p1 (ak_p1 s 1 0 (nI (n + 1))) 5 (n + 1) x)) := by
      intro hx
      refine ⟨a.1 0, hn, rfl, fun e => ?_, fun e => ?_⟩
      · have := h s (by rw [g_kind, if_neg (fun q => by omega)]; exact hR)
        rw [f_kind, if_pos hx, if_pos e] at this
        exact this
      · have hk : ∃ k, k ≤ a.1 0 ∧ x = nI k := by
          rcases hx with hx | hx
          · exact ⟨0, by omega, hx⟩
          · obtain ⟨k, _, h2, h3⟩ := iK_of hA hx
            exact ⟨k, h2, h3⟩
        obtain ⟨k, hk1, hk2⟩ := hk
        have := h (ak_p1 (ak_p1 s 1 0 (nI (a.1 0 + 1))) 5 (a.1 0 + 1) x) (by
          rw [g_kind, if_pos ⟨hx, e⟩, hk2, q_cl (by omega)]
          exact RC_kind hR hk1)
        rw [f_kind, if_pos hx, if_neg (by omega)] at this
        exact this
    refine ⟨fun q => add (Or.inl q), fun q => ⟨fun q2 => add (Or.inr ?_), fun q2 => ?_⟩⟩
    · by_cases z : iK a x
      · exact z
      · rw [if_neg z] at q2
        exact absurd rfl q2
    · have z : ¬ iK a x := fun z => by
        rw [if_pos z] at q2
        exact absurd q2 (by decide)
      have := h s (by rw [g_kind, if_neg (fun y => y.1.elim q z)]; exact hR)
      rw [f_kind, if_neg (fun y => y.elim q z)] at this
      exact this
  · exact h.elim
set_option maxRecDepth 20000 in
theorem ct_L_kind (l : Launch) : ak_Ctr l cl_all lay_C y_L_kind ws_L_kind rm_L_kind pt_L_kind := by
  refine ak_met (cs := cs_L_kind) (reg := rg_L_kind) (bl := bl_L_kind) (by decide +kernel) rfl (cl_ok _) rfl ok_L_kind ?_ vc_L_kind
  intro a n b ci h
  match a, h with
  | 0, h =>
    cases h
    exact ak_ccV (ct_K_has l) rfl 161 162 163 21 164 (by decide +kernel) ⟨rfl, rfl⟩ (by decide +kernel) (by decide +kernel)
  | 1, h =>
    cases h
    exact ak_ccV (ct_K_add l) rfl 165 166 167 21 168 (by decide +kernel) ⟨rfl, rfl⟩ (by decide +kernel) (by decide +kernel)
  | k + 2, h => cases h
theorem RC_parent {s : ak_S} {a : ab_T} {k o r : Nat} (hR : RC s a) : RC (ak_p1 (ak_p1 s 6 k (nI o)) 7 k (nI r)) (a_f (a_f a 1 k o) 2 k r) := by
  obtain ⟨⟨h1, h2, h3⟩, hk, hs, hc, hp, hx, hb⟩ := hR
  refine ⟨⟨?_, ?_, ?_⟩, fun k' hk' => ?_, fun i hi => ?_, fun i h1 h2 => ?_, fun i p h1 h2 h3 h4 => ?_, fun j hj => ?_, ?_⟩
  · simp [p1_o, af_1, h1]
  · simp [p1_o, af_1, h2]
  · simp [p1_o, af_1, h3]
  · obtain ⟨q1, q2, q3⟩ := hk k' hk'
    refine ⟨?_, ?_, ?_⟩
    · simp [p1_o, af_o, q1]
    · rw [p1_o (by decide), p1_s, af_o (by decide), af_s]
      split
      · rfl
      · exact q2
    · rw [p1_s, af_s]
      split
      · rfl
      · rw [p1_o (by decide), af_o (by decide), q3]
  · simpa [p1_o, p1_2, af_o, af_2] using hs i hi
  · simpa [p1_o, ac, af_o, af_1] using hc i h1 h2
  · simpa [p1_o, af_2] using hp i p h1 h2 (by simpa [af_o] using h3) h4
  · simpa [p1_o, af_o] using hx j hj
  · simpa [BK, p1_o, af_1, a_lt, af_2] using hb
def pt_L_parent : ak_P := fun vs s Q => match vs with
  | [.ref 0, .int k, .int o, .int r] => ∃ a, AI a ∧ RC s a ∧ ∀ s', RC s' (g_parent a k o r) → Q (some (.int (f_parent a k o r))) s'
  | _ => False
def cs_L_parent : Nat → ak_P := fun a => match a with
  | 0 => pt_K_has
  | _ => pt_S_wereOf
theorem vc_L_parent : ak_VC lay_C cs_L_parent bl_L_parent 4 pt_L_parent := by
  intro vs s Q h
  unfold pt_L_parent at h
  split at h
  · rename_i k o r
    obtain ⟨a, hA, hR, h⟩ := h
    refine ⟨Nat.le_of_ble_eq_true rfl, fun J hJ => hJ 6 _ _ _ _ ?_⟩
    simp only [Nat.reduceAdd, Nat.reduceLeDiff, Nat.zero_le, true_or, or_true, run_s, e_nop, e_iconst, e_bipush, e_sipush, e_lconst, e_iload, e_iload_n, e_lload, e_lload_n, e_aload, e_aload_n, e_istore, e_istore_n, e_iinc, e_iadd, e_isub, e_imul, e_lcmp, e_dupI, e_dupR, e_dup2, e_getfield, e_putfield, e_iaload, e_baload, e_laload, e_iastore, e_bastore, e_lastore, e_if, e_icmp, e_goto, e_tsw, e_ireturn0, e_ireturn1, e_return, e_call0, e_call1, e_call2, e_call3, lI_e, lL_e, lR_e, ak_nth, ak_set, ak_ok1, ak_jp, ak_b1, ak_b2, ak_sw, ak_la, ak_pad, true_and, and_true, List.map_cons, List.map_nil, List.sum_cons, List.sum_nil, Value.category, Option.toList_some, Option.toList_none, List.cons_append, List.nil_append, gC_0_0, gC_0_1, gC_0_2, gC_0_3, rC_0, gC_1_0, pC_1_0, gC_1_1, gC_1_2, gC_1_3, rC_1, gC_2_0, pC_2_0, gC_2_1, gC_2_2, gC_2_3, gC_2_4, gC_2_5, gC_2_6, gC_2_7, gC_2_8, rC_2, gC_3_0, pC_3_0, gC_3_1, gC_3_2, rC_3, gC_4_0, gC_4_1, gC_4_2, gC_4_3, gC_4_4, pC_4_4, rC_4, kC_5, kC_6, kC_7, kC_8, kC_9, kC_10, kC_11, kC_12, kC_13, kC_14, kC_15, kC_16, kC_17, kC_18, kC_19, fd_L_parent_0, fd_L_parent_22, fd_L_parent_25, fd_L_parent_34, fd_L_parent_37, fd_L_parent_51, fd_L_parent_65, bk_L_parent_0, bk_L_parent_22, bk_L_parent_25, bk_L_parent_34, bk_L_parent_37, bk_L_parent_51, bk_L_parent_65, cs_L_parent, pt_K_has, pt_S_wereOf]
    have hn := hA.1.1
    have e0 := hR.1.1
    rw [e0]
    simp only [bt0, Classical.not_not, i10, false_implies, not_false_eq_true, true_implies, not_true_eq_false, true_and, and_true]
    refine ⟨fun q => ?_, fun q => ⟨fun q2 => ⟨fun q3 => ?_, fun q3 => ⟨fun q4 => ?_, fun q4 => ?_⟩⟩, fun q2 => ?_⟩⟩
    · have z : ¬ (iK a k ∧ iK a o) := fun y => q y.1
      have := h s (by rw [g_parent, f_parent, if_pos z, if_neg (by decide)]; exact hR)
      rw [f_parent, if_pos z] at this
      exact this
    · have z : f_parent a k o r = -4 := by rw [f_parent, if_neg (fun y => y ⟨q, q2⟩), if_pos (Or.inl q3)]
      have := h s (by rw [g_parent, z, if_neg (by decide)]; exact hR)
      rw [z] at this
      exact this
    · obtain ⟨k', hk1, hk2, rfl⟩ := iK_of hA q
      obtain ⟨o', ho1, ho2, rfl⟩ := iK_of hA q2
      have h4 : ¬ (r < 0 ∨ 2 < r) := by grind
      refine ⟨a.1 1, hA.1.2.1, hR.1.2.1, fun ⟨i, b1, b2, b3⟩ => ?_, fun b => ?_⟩
      · have z : f_parent a (nI k') (nI o') r = -5 := by
          rw [f_parent, if_neg (fun y => y ⟨q, q2⟩), if_neg h4, if_pos]
          exact cn_ex.mpr ⟨i, b1, b2, by rw [decide_eq_true_eq, ← b3]; exact ((hR.2.2.1 i (by have := hA.1.2.1; omega)).1).symm⟩
        have := h s (by rw [g_parent, z, if_neg (by decide)]; exact hR)
        rw [z] at this
        exact this
      · have hz : ¬ cn (fun i => decide (nI (a.2.1 3 i) = nI k')) (a.1 1) ≠ 0 := by
          intro y
          obtain ⟨i, b1, b2, b3⟩ := cn_ex.mp y
          rw [decide_eq_true_eq] at b3
          refine b i b1 b2 ?_
          rw [(hR.2.2.1 i (by have := hA.1.2.1; omega)).1, b3]
        rw [q_cl (by omega), (hR.2.1 k' (by omega)).2.1]
        have hb := (hA.2.1 k' (by omega)).2.1
        refine ⟨q_in (by omega) (by omega), fun y => ⟨q_in (by omega) (by omega), q_in (by omega) (by omega), ?_⟩, fun y => ?_⟩
        · rw [n_0, q_eq (by omega) (by omega)] at y
          obtain ⟨r', hr⟩ : ∃ r' : Nat, r' < 2147483648 ∧ r = nI r' := nI_of (fun w => h4 (Or.inl w))
          have z : f_parent a (nI k') (nI o') r = 1 := by
            rw [f_parent, if_neg (fun y => y ⟨q, q2⟩), if_neg h4, if_neg hz, q_cl (by omega), if_neg (fun w => w y)]
          have := h (ak_p1 (ak_p1 s 6 k' (nI o')) 7 k' r) (by
            rw [g_parent, z, if_pos rfl, q_cl (by omega), q_cl (by omega), hr.2, q_cl hr.1]
            exact RC_parent hR)
          rw [z] at this
          exact this
        · rw [n_0, q_eq (by omega) (by omega)] at y
          have z : f_parent a (nI k') (nI o') r = 0 := by
            rw [f_parent, if_neg (fun y => y ⟨q, q2⟩), if_neg h4, if_neg hz, q_cl (by omega), if_pos y]
          have := h s (by rw [g_parent, z, if_neg (by decide)]; exact hR)
          rw [z] at this
          exact this
    · have z : f_parent a k o r = -4 := by rw [f_parent, if_neg (fun y => y ⟨q, q2⟩), if_pos (Or.inr (by grind))]
      have := h s (by rw [g_parent, z, if_neg (by decide)]; exact hR)
      rw [z] at this
      exact this
    · have z : ¬ (iK a k ∧ iK a o) := fun y => q2 y.2
      have := h s (by rw [g_parent, f_parent, if_pos z, if_neg (by decide)]; exact hR)
      rw [f_parent, if_pos z] at this
      exact this
  · exact h.elim
set_option maxRecDepth 20000 in
theorem ct_L_parent (l : Launch) : ak_Ctr l cl_all lay_C y_L_parent ws_L_parent rm_L_parent pt_L_parent := by
  refine ak_met (cs := cs_L_parent) (reg := rg_L_parent) (bl := bl_L_parent) (by decide +kernel) rfl (cl_ok _) rfl ok_L_parent ?_ vc_L_parent
  intro a n b ci h
  match a, h with
  | 0, h =>
    cases h
    exact ak_ccV (ct_K_has l) rfl 161 162 163 21 164 (by decide +kernel) ⟨rfl, rfl⟩ (by decide +kernel) (by decide +kernel)
  | 1, h =>
    cases h
    exact ak_ccV (ct_S_wereOf l) rfl 173 174 175 22 176 (by decide +kernel) ⟨rfl, rfl⟩ (by decide +kernel) (by decide +kernel)
  | k + 2, h => cases h
