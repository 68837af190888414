/-! the class's relate, there, count, index, poke -/
def f_relate (a : ab_T) (i o : Int32) : Int32 := if ¬ (iS a i ∧ iS a o) then -2 else if a.2.1 1 (a.2.1 3 i.toNatClampNeg) = 0 ∨ a.2.1 3 o.toNatClampNeg ≠ a.2.1 1 (a.2.1 3 i.toNatClampNeg) ∨ i = o then -4 else if a.2.1 5 i.toNatClampNeg ≠ 1 ∨ a.2.1 5 o.toNatClampNeg = 0 ∨ a.2.1 6 i.toNatClampNeg ≠ 0 then -5 else 1
def g_relate (a : ab_T) (i o : Int32) : ab_T := if f_relate a i o = 1 then a_right (a_right (a_f a 6 i.toNatClampNeg o.toNatClampNeg) i.toNatClampNeg) o.toNatClampNeg else a
theorem ac_join {a : ab_T} {i o j : Nat} (h1 : 1 ≤ i) (h2 : i ≤ a.1 1) (h0 : a.2.1 6 i = 0) (hj : 1 ≤ j) : ac (a_f a 6 i o) j = if j = o then ac a j + 1 else ac a j := by
  unfold ac
  rw [af_1]
  split
  · rename_i e
    subst e
    refine cn_add (e := i) h1 h2 ?_ ?_ ?_
    · rw [h0]; simp; omega
    · rw [af_s, if_pos rfl]; simp
    · intro k _ _ hk
      rw [af_s, if_neg hk]
  · rename_i e
    refine cn_congr (fun k _ _ => ?_)
    rw [af_s]
    by_cases hk : k = i
    · rw [if_pos hk, hk, h0]
      have : ¬ o = j := fun z => e z.symm
      simp [this]
      omega
    · rw [if_neg hk]
theorem RC_join {s : ak_S} {a : ab_T} {i o : Nat} (hA : AI a) (hR : RC s a) (h1 : 1 ≤ i) (h2 : i ≤ a.1 1) (h3 : 1 ≤ o) (h4 : o ≤ a.1 1) (h0 : a.2.1 6 i = 0) : RC (c_join s i o) (a_right (a_right (a_f a 6 i o) i) o) := by
  have hn := hA.1
  have hR1 : RCx (ak_p1 (ak_p1 s 12 i (nI o)) 13 o (s.1 13 o + 1)) (a_f a 6 i o) (fun _ => False) := by
    obtain ⟨⟨q1, q2, q3⟩, hk, hs, hc, hp, hx, hb⟩ := hR
    refine ⟨⟨?_, ?_, ?_⟩, fun k hk' => ?_, fun j hj => ?_, fun j b1 b2 => ?_, fun j p b1 b2 b3 b4 _ => ?_, fun j hj => ?_, ?_⟩
    · simp [p1_o, af_1, q1]
    · simp [p1_o, af_1, q2]
    · simp [p1_o, af_1, q3]
    · simpa [p1_o, af_o] using hk k hk'
    · obtain ⟨z1, z2, z3, z4, z5⟩ := hs j hj
      refine ⟨?_, ?_, ?_, ?_, ?_⟩
      · simp [p1_o, af_o, z1]
      · simp [p1_o, af_o, z2]
      · rw [p1_2, p1_2, af_2, z3]
      · simp [p1_o, af_o, z4]
      · rw [p1_o (by decide), p1_s, af_s]
        split
        · rfl
        · exact z5
    · rw [p1_s, ac_join h1 h2 h0 b1]
      split
      · rename_i e
        rw [e, hc o h3 (by omega), nI_1]
      · rw [p1_o (by decide), hc j b1 b2]
    · rw [p1_o (by decide), p1_o (by decide), af_2]
      exact hp j p b1 b2 (by simpa [af_o] using b3) b4
    · simpa [p1_o, af_o] using hx j hj
    · obtain ⟨bk, c1, c2, c3⟩ := hb
      refine ⟨bk, fun j hj => ?_, c2, c3⟩
      rw [p1_o (by decide), p1_o (by decide)]
      exact c1 j hj
  exact RC_of (RCx_right (RCx_right hR1 h1 (by omega)) h3 (by omega)) (fun _ _ _ _ z => z.1.1)
def pt_L_relate : ak_P := fun vs s Q => match vs with
  | [.ref 0, .int i, .int o] => ∃ a, AI a ∧ RC s a ∧ ∀ s', RC s' (g_relate a i o) → Q (some (.int (f_relate a i o))) s'
  | _ => False
def cs_L_relate : Nat → ak_P := fun a => match a with
  | 0 => pt_S_has
  | 1 => pt_S_is
  | _ => pt_S_join
theorem vc_L_relate : ak_VC lay_C cs_L_relate bl_L_relate 3 pt_L_relate := by
  intro vs s Q h
  unfold pt_L_relate at h
  split at h
  · rename_i i o
    obtain ⟨a, hA, hR, h⟩ := h
    refine ⟨Nat.le_of_ble_eq_true rfl, fun J hJ => hJ 6 _ _ _ _ ?_⟩
    simp only [Nat.reduceAdd, Nat.reduceLeDiff, Nat.zero_le, true_or, or_true, run_s, e_nop, e_iconst, e_bipush, e_sipush, e_lconst, e_iload, e_iload_n, e_lload, e_lload_n, e_aload, e_aload_n, e_istore, e_istore_n, e_iinc, e_iadd, e_isub, e_imul, e_lcmp, e_dupI, e_dupR, e_dup2, e_getfield, e_putfield, e_iaload, e_baload, e_laload, e_iastore, e_bastore, e_lastore, e_if, e_icmp, e_goto, e_tsw, e_ireturn0, e_ireturn1, e_return, e_call0, e_call1, e_call2, e_call3, lI_e, lL_e, lR_e, ak_nth, ak_set, ak_ok1, ak_jp, ak_b1, ak_b2, ak_sw, ak_la, ak_pad, true_and, and_true, List.map_cons, List.map_nil, List.sum_cons, List.sum_nil, Value.category, Option.toList_some, Option.toList_none, List.cons_append, List.nil_append, gC_0_0, gC_0_1, gC_0_2, gC_0_3, rC_0, gC_1_0, pC_1_0, gC_1_1, gC_1_2, gC_1_3, rC_1, gC_2_0, pC_2_0, gC_2_1, gC_2_2, gC_2_3, gC_2_4, gC_2_5, gC_2_6, gC_2_7, gC_2_8, rC_2, gC_3_0, pC_3_0, gC_3_1, gC_3_2, rC_3, gC_4_0, gC_4_1, gC_4_2, gC_4_3, gC_4_4, pC_4_4, rC_4, kC_5, kC_6, kC_7, kC_8, kC_9, kC_10, kC_11, kC_12, kC_13, kC_14, kC_15, kC_16, kC_17, kC_18, kC_19, fd_L_relate_0, fd_L_relate_22, fd_L_relate_25, fd_L_relate_59, fd_L_relate_62, fd_L_relate_98, fd_L_relate_101, bk_L_relate_0, bk_L_relate_22, bk_L_relate_25, bk_L_relate_59, bk_L_relate_62, bk_L_relate_98, bk_L_relate_101, cs_L_relate, pt_S_has, pt_S_is, pt_S_join]
    simp only [bt0, Classical.not_not, i10, false_implies, not_false_eq_true, true_implies, not_true_eq_false, true_and, and_true, false_and, and_false, imp_self]
    rw [hR.1.2.1]
    have hn := hA.1
    have same : ∀ v : Int32, v ≠ 1 → f_relate a i o = v → Q (some (.int v)) s := by
      intro v hv e
      have := h s (by rw [g_relate, e, if_neg hv]; exact hR)
      rw [e] at this
      exact this
    refine ⟨fun q => same _ (by decide) (by rw [f_relate, if_pos (fun y => q y.1)]), fun q => ⟨fun q2 => ⟨fun q3 => same _ (by decide) ?_, fun q3 => ?_⟩, fun q2 => same _ (by decide) (by rw [f_relate, if_pos (fun y => q2 y.2)])⟩⟩
    · rw [f_relate, if_neg (fun y => y ⟨q, q2⟩), if_pos (Or.inr (Or.inr q3))]
    · obtain ⟨i', hi1, hi2, rfl⟩ := iS_of hA q
      obtain ⟨o', ho1, ho2, rfl⟩ := iS_of hA q2
      rw [q_cl (by omega), q_cl (by omega)]
      obtain ⟨b1, _, _, b4, b5⟩ := hR.2.2.1 i' (by omega)
      obtain ⟨c1, _, _, c4, c5⟩ := hR.2.2.1 o' (by omega)
      obtain ⟨d1, _, d3, d4⟩ := hA.2.2.1 i' (by omega)
      obtain ⟨e1, _, e3, e4⟩ := hA.2.2.1 o' (by omega)
      have hlp := (hR.2.1 (a.2.1 3 i') (by omega)).2.1
      have hlb := (hA.2.1 (a.2.1 3 i') (by omega)).2.1
      have hko := hA.2.2.2.1 o' ho1 ho2
      rw [b1, q_cl (by omega), hlp, c1, b4, c4, b5, q_eq (by omega) (by omega)]
      have r1 : f_relate a (nI i') (nI o') = if a.2.1 1 (a.2.1 3 i') = 0 ∨ a.2.1 3 o' ≠ a.2.1 1 (a.2.1 3 i') ∨ nI i' = nI o' then -4 else if a.2.1 5 i' ≠ 1 ∨ a.2.1 5 o' = 0 ∨ a.2.1 6 i' ≠ 0 then -5 else 1 := by
        rw [f_relate, if_neg (fun y => y ⟨q, q2⟩), q_cl (by omega), q_cl (by omega)]
      refine ⟨q_in (by omega) (by omega), q_in (by omega) (by omega), q_in (by omega) (by omega), fun q4 => ?_, fun q4 => same _ (by decide) ?_⟩
      · have z4 : ¬ (a.2.1 1 (a.2.1 3 i') = 0 ∨ a.2.1 3 o' ≠ a.2.1 1 (a.2.1 3 i') ∨ nI i' = nI o') := by
          rintro (z | z | z)
          · omega
          · exact z q4.symm
          · exact q3 z
        rw [if_neg z4] at r1
        refine ⟨a.1 1, by omega, rfl, fun q5 => same _ (by decide) ?_, fun q5 => ⟨a.1 1, by omega, rfl, fun q6 => same _ (by decide) ?_, fun q6 => ⟨q_in (by omega) (by omega), fun q7 => ?_, fun q7 => same _ (by decide) ?_⟩⟩⟩
        · rw [r1, if_pos (Or.inl (fun z => q5 ⟨q, by rw [z]; rfl⟩))]
        · have := q6.2
          rw [n_0, q_eq (by omega) (by omega)] at this
          rw [r1, if_pos (Or.inr (Or.inl this))]
        · have s1 := q5.2
          rw [n_1, q_eq (by omega) (by omega)] at s1
          have s2 : a.2.1 5 o' ≠ 0 := fun z => q6 ⟨q2, by rw [z]; rfl⟩
          rw [n_0, q_eq (by omega) (by omega)] at q7
          have r2 : f_relate a (nI i') (nI o') = 1 := by
            rw [r1, if_neg]
            rintro (z | z | z)
            · exact z s1
            · exact s2 z
            · exact z q7
          refine ⟨i', o', by omega, by omega, rfl, rfl, ?_⟩
          have := h (c_join s i' o') (by
            rw [g_relate, r2, if_pos rfl, q_cl (by omega), q_cl (by omega)]
            exact RC_join hA hR hi1 hi2 ho1 ho2 q7)
          rw [r2] at this
          exact this
        · rw [n_0, q_eq (by omega) (by omega)] at q7
          rw [r1, if_pos (Or.inr (Or.inr q7))]
      · rw [r1, if_pos (Or.inr (Or.inl (fun z => q4 z.symm)))]
  · exact h.elim
set_option maxRecDepth 20000 in
theorem ct_L_relate (l : Launch) : ak_Ctr l cl_all lay_C y_L_relate ws_L_relate rm_L_relate pt_L_relate := by
  refine ak_met (cs := cs_L_relate) (reg := rg_L_relate) (bl := bl_L_relate) (by decide +kernel) rfl (cl_ok _) rfl ok_L_relate ?_ vc_L_relate
  intro a n b ci h
  match a, h with
  | 0, h =>
    cases h
    exact ak_ccV (ct_S_has l) rfl 218 189 190 22 191 (by decide +kernel) ⟨rfl, rfl⟩ (by decide +kernel) (by decide +kernel)
  | 1, h =>
    cases h
    exact ak_ccV (ct_S_is l) rfl 184 185 186 22 187 (by decide +kernel) ⟨rfl, rfl⟩ (by decide +kernel) (by decide +kernel)
  | 2, h =>
    cases h
    exact ak_ccV (ct_S_join l) rfl 219 220 221 22 222 (by decide +kernel) ⟨rfl, rfl⟩ (by decide +kernel) (by decide +kernel)
  | k + 3, h => cases h
def f_there (a : ab_T) (i d : Int32) : Int32 := if iS a i ∧ ((d = 0 ∧ a.2.1 5 i.toNatClampNeg = 1) ∨ (d = 1 ∧ a.2.1 5 i.toNatClampNeg = 2)) then 1 else 0
def pt_L_there : ak_P := fun vs s Q => match vs with
  | [.ref 0, .int i, .int d] => ∃ a, AI a ∧ RC s a ∧ Q (some (.int (f_there a i d))) s
  | _ => False
def cs_L_there : Nat → ak_P := fun a => match a with
  | _ => pt_S_is
theorem vc_L_there : ak_VC lay_C cs_L_there bl_L_there 3 pt_L_there := by
  intro vs s Q h
  unfold pt_L_there at h
  split at h
  · rename_i i d
    obtain ⟨a, hA, hR, h⟩ := h
    refine ⟨Nat.le_of_ble_eq_true rfl, fun J hJ => hJ 6 _ _ _ _ ?_⟩
    simp only [Nat.reduceAdd, Nat.reduceLeDiff, Nat.zero_le, true_or, or_true, run_s, e_nop, e_iconst, e_bipush, e_sipush, e_lconst, e_iload, e_iload_n, e_lload, e_lload_n, e_aload, e_aload_n, e_istore, e_istore_n, e_iinc, e_iadd, e_isub, e_imul, e_lcmp, e_dupI, e_dupR, e_dup2, e_getfield, e_putfield, e_iaload, e_baload, e_laload, e_iastore, e_bastore, e_lastore, e_if, e_icmp, e_goto, e_tsw, e_ireturn0, e_ireturn1, e_return, e_call0, e_call1, e_call2, e_call3, lI_e, lL_e, lR_e, ak_nth, ak_set, ak_ok1, ak_jp, ak_b1, ak_b2, ak_sw, ak_la, ak_pad, true_and, and_true, List.map_cons, List.map_nil, List.sum_cons, List.sum_nil, Value.category, Option.toList_some, Option.toList_none, List.cons_append, List.nil_append, gC_0_0, gC_0_1, gC_0_2, gC_0_3, rC_0, gC_1_0, pC_1_0, gC_1_1, gC_1_2, gC_1_3, rC_1, gC_2_0, pC_2_0, gC_2_1, gC_2_2, gC_2_3, gC_2_4, gC_2_5, gC_2_6, gC_2_7, gC_2_8, rC_2, gC_3_0, pC_3_0, gC_3_1, gC_3_2, rC_3, gC_4_0, gC_4_1, gC_4_2, gC_4_3, gC_4_4, pC_4_4, rC_4, kC_5, kC_6, kC_7, kC_8, kC_9, kC_10, kC_11, kC_12, kC_13, kC_14, kC_15, kC_16, kC_17, kC_18, kC_19, fd_L_there_0, fd_L_there_14, fd_L_there_35, fd_L_there_36, bk_L_there_0, bk_L_there_14, bk_L_there_35, bk_L_there_36, cs_L_there, pt_S_is]
    simp only [bt0, Classical.not_not, i10, false_implies, not_false_eq_true, true_implies, not_true_eq_false, true_and, and_true, false_and, and_false, imp_self]
    have hn := hA.1
    rw [hR.1.2.1]
    have key : ∀ w : Nat, w ≤ 2 → iS a i → (s.1 11 i.toNatClampNeg = nI w ↔ a.2.1 5 i.toNatClampNeg = w) := by
      intro w hw hi
      obtain ⟨i', hi1, hi2, rfl⟩ := iS_of hA hi
      rw [q_cl (by omega), (hR.2.2.1 i' (by omega)).2.2.2.1]
      have := (hA.2.2.1 i' (by omega)).2.2.1
      exact nI_eq (by omega) (by omega)
    have k1 := key 1 (by omega)
    have k2 := key 2 (by omega)
    rw [← n_1] at k1
    rw [← n_2] at k2
    unfold f_there at h
    refine ⟨fun q => ⟨fun q2 => ?_, fun q2 => ⟨a.1 1, hn.2.1, rfl, fun q3 => ?_, fun q3 => ?_⟩⟩, fun q => ⟨a.1 1, hn.2.1, rfl, ?_, ?_⟩⟩
    · rw [if_neg] at h
      · exact h
      · rintro ⟨_, z | z⟩
        · exact q z.1
        · exact q2 z.1
    · rw [if_neg] at h
      · exact h
      · rintro ⟨z0, z | z⟩
        · exact q z.1
        · exact q3 ⟨z0, (k2 z0).mpr z.2⟩
    · rw [if_pos ⟨q3.1, Or.inr ⟨q2, (k2 q3.1).mp q3.2⟩⟩] at h
      exact h
    · rw [bt1]
      exact (Classical.em _).symm
    · by_cases z : iS a i ∧ s.1 11 i.toNatClampNeg = 1
      · rw [if_pos z]
        rw [if_pos ⟨z.1, Or.inl ⟨q, (k1 z.1).mp z.2⟩⟩] at h
        exact h
      · rw [if_neg z]
        rw [if_neg] at h
        · exact h
        · rintro ⟨z0, y | y⟩
          · exact z ⟨z0, (k1 z0).mpr y.2⟩
          · rw [q] at y
            exact absurd y.1 (by decide)
  · exact h.elim
set_option maxRecDepth 20000 in
theorem ct_L_there (l : Launch) : ak_Ctr l cl_all lay_C y_L_there ws_L_there rm_L_there pt_L_there := by
  refine ak_met (cs := cs_L_there) (reg := rg_L_there) (bl := bl_L_there) (by decide +kernel) rfl (cl_ok _) rfl ok_L_there ?_ vc_L_there
  intro a n b ci h
  match a, h with
  | 0, h =>
    cases h
    exact ak_ccV (ct_S_is l) rfl 184 185 186 22 187 (by decide +kernel) ⟨rfl, rfl⟩ (by decide +kernel) (by decide +kernel)
  | k + 1, h => cases h
def f_count (a : ab_T) (i : Int32) : Int32 := if iS a i then nI (ac a i.toNatClampNeg) else -2
def pt_L_count : ak_P := fun vs s Q => match vs with
  | [.ref 0, .int i] => ∃ a, AI a ∧ RC s a ∧ Q (some (.int (f_count a i))) s
  | _ => False
def cs_L_count : Nat → ak_P := fun a => match a with
  | _ => pt_S_has
theorem vc_L_count : ak_VC lay_C cs_L_count bl_L_count 2 pt_L_count := by
  intro vs s Q h
  unfold pt_L_count at h
  split at h
  · rename_i i
    obtain ⟨a, hA, hR, h⟩ := h
    refine ⟨Nat.le_of_ble_eq_true rfl, fun J hJ => hJ 4 _ _ _ _ ?_⟩
    simp only [Nat.reduceAdd, Nat.reduceLeDiff, Nat.zero_le, true_or, or_true, run_s, e_nop, e_iconst, e_bipush, e_sipush, e_lconst, e_iload, e_iload_n, e_lload, e_lload_n, e_aload, e_aload_n, e_istore, e_istore_n, e_iinc, e_iadd, e_isub, e_imul, e_lcmp, e_dupI, e_dupR, e_dup2, e_getfield, e_putfield, e_iaload, e_baload, e_laload, e_iastore, e_bastore, e_lastore, e_if, e_icmp, e_goto, e_tsw, e_ireturn0, e_ireturn1, e_return, e_call0, e_call1, e_call2, e_call3, lI_e, lL_e, lR_e, ak_nth, ak_set, ak_ok1, ak_jp, ak_b1, ak_b2, ak_sw, ak_la, ak_pad, true_and, and_true, List.map_cons, List.map_nil, List.sum_cons, List.sum_nil, Value.category, Option.toList_some, Option.toList_none, List.cons_append, List.nil_append, gC_0_0, gC_0_1, gC_0_2, gC_0_3, rC_0, gC_1_0, pC_1_0, gC_1_1, gC_1_2, gC_1_3, rC_1, gC_2_0, pC_2_0, gC_2_1, gC_2_2, gC_2_3, gC_2_4, gC_2_5, gC_2_6, gC_2_7, gC_2_8, rC_2, gC_3_0, pC_3_0, gC_3_1, gC_3_2, rC_3, gC_4_0, gC_4_1, gC_4_2, gC_4_3, gC_4_4, pC_4_4, rC_4, kC_5, kC_6, kC_7, kC_8, kC_9, kC_10, kC_11, kC_12, kC_13, kC_14, kC_15, kC_16, kC_17, kC_18, kC_19, fd_L_count_0, fd_L_count_23, fd_L_count_25, bk_L_count_0, bk_L_count_23, bk_L_count_25, cs_L_count, pt_S_has]
    simp only [bt0, Classical.not_not, i10, false_implies, not_false_eq_true, true_implies, not_true_eq_false, true_and, and_true, false_and, and_false, imp_self]
    have hn := hA.1
    rw [hR.1.2.1]
    unfold f_count at h
    refine ⟨fun q => ?_, fun q => ?_⟩
    · rw [if_neg q] at h
      exact h
    · rw [if_pos q] at h
      obtain ⟨i', hi1, hi2, rfl⟩ := iS_of hA q
      rw [q_cl (by omega)] at h ⊢
      rw [hR.2.2.2.1 i' hi1 (by omega)]
      exact ⟨q_in (by omega) (by omega), h⟩
  · exact h.elim
set_option maxRecDepth 20000 in
theorem ct_L_count (l : Launch) : ak_Ctr l cl_all lay_C y_L_count ws_L_count rm_L_count pt_L_count := by
  refine ak_met (cs := cs_L_count) (reg := rg_L_count) (bl := bl_L_count) (by decide +kernel) rfl (cl_ok _) rfl ok_L_count ?_ vc_L_count
  intro a n b ci h
  match a, h with
  | 0, h =>
    cases h
    exact ak_ccV (ct_S_has l) rfl 218 189 190 22 191 (by decide +kernel) ⟨rfl, rfl⟩ (by decide +kernel) (by decide +kernel)
  | k + 1, h => cases h
def f_index (a : ab_T) (k b : Int32) : Int32 := if iK a k then (if a.1 2 = 10 then -1 else nI (a.1 2 + 1)) else -2
def g_index (a : ab_T) (k b : Int32) : ab_T := if iK a k ∧ a.1 2 < 10 then a_f (a_f (a_n a 2 (a.1 2 + 1)) 7 (a.1 2 + 1) k.toNatClampNeg) 8 (a.1 2 + 1) (b &&& 1).toNatClampNeg else a
theorem and1 (b : Int32) : ∃ j : Nat, j < 2 ∧ b &&& 1 = nI j := pk_andE b 1 (by decide)
theorem RC_index {s : ak_S} {a : ab_T} {k j : Nat} (hR : RC s a) : RC (ak_p1 (ak_p1 (ak_p1 s 3 0 (nI (a.1 2 + 1))) 16 (a.1 2 + 1) (nI k)) 17 (a.1 2 + 1) (nI j)) (a_f (a_f (a_n a 2 (a.1 2 + 1)) 7 (a.1 2 + 1) k) 8 (a.1 2 + 1) j) := by
  obtain ⟨⟨h1, h2, h3⟩, hk, hs, hc, hp, hx, hb⟩ := hR
  refine ⟨⟨?_, ?_, ?_⟩, fun k' hk' => ?_, fun i hi => ?_, fun i h1 h2 => ?_, fun i p h1 h2 h3 h4 => ?_, fun j hj => ?_, ?_⟩
  · simp [p1_o, af_1, an_1, h1]
  · simp [p1_o, af_1, an_1, h2]
  · simp [p1_s, p1_o, af_1, an_1]
  · simpa [p1_o, af_o, an_2] using hk k' hk'
  · simpa [p1_o, p1_2, af_o, af_2, an_2] using hs i hi
  · simpa [p1_o, ac, af_o, af_1, an_1, an_2] using hc i h1 h2
  · simpa [p1_o, af_2, an_2] using hp i p h1 h2 (by simpa [af_o, an_2] using h3) h4
  · obtain ⟨q1, q2⟩ := hx j hj
    refine ⟨?_, ?_⟩
    · rw [p1_o (by decide), p1_s, af_o (by decide), af_s]
      split
      · rfl
      · rw [p1_o (by decide), q1]; rfl
    · rw [p1_s, af_s]
      split
      · rfl
      · rw [p1_o (by decide), p1_o (by decide), q2, af_o (by decide)]; rfl
  · simpa [BK, p1_o, af_1, an_1, a_lt, af_2, an_2] using hb
def pt_L_index : ak_P := fun vs s Q => match vs with
  | [.ref 0, .int k, .int b] => ∃ a, AI a ∧ RC s a ∧ ∀ s', RC s' (g_index a k b) → Q (some (.int (f_index a k b))) s'
  | _ => False
def cs_L_index : Nat → ak_P := fun a => match a with
  | 0 => pt_K_has
  | _ => pt_X_add
theorem vc_L_index : ak_VC lay_C cs_L_index bl_L_index 3 pt_L_index := by
  intro vs s Q h
  unfold pt_L_index at h
  split at h
  · rename_i k b
    obtain ⟨a, hA, hR, h⟩ := h
    refine ⟨Nat.le_of_ble_eq_true rfl, fun J hJ => hJ 4 _ _ _ _ ?_⟩
    simp only [Nat.reduceAdd, Nat.reduceLeDiff, Nat.zero_le, true_or, or_true, run_s, e_nop, e_iconst, e_bipush, e_sipush, e_lconst, e_iload, e_iload_n, e_lload, e_lload_n, e_aload, e_aload_n, e_istore, e_istore_n, e_iinc, e_iadd, e_isub, e_imul, e_lcmp, e_dupI, e_dupR, e_dup2, e_getfield, e_putfield, e_iaload, e_baload, e_laload, e_iastore, e_bastore, e_lastore, e_if, e_icmp, e_goto, e_tsw, e_ireturn0, e_ireturn1, e_return, e_call0, e_call1, e_call2, e_call3, lI_e, lL_e, lR_e, ak_nth, ak_set, ak_ok1, ak_jp, ak_b1, ak_b2, ak_sw, ak_la, ak_pad, true_and, and_true, List.map_cons, List.map_nil, List.sum_cons, List.sum_nil, Value.category, Option.toList_some, Option.toList_none, List.cons_append, List.nil_append, gC_0_0, gC_0_1, gC_0_2, gC_0_3, rC_0, gC_1_0, pC_1_0, gC_1_1, gC_1_2, gC_1_3, rC_1, gC_2_0, pC_2_0, gC_2_1, gC_2_2, gC_2_3, gC_2_4, gC_2_5, gC_2_6, gC_2_7, gC_2_8, rC_2, gC_3_0, pC_3_0, gC_3_1, gC_3_2, rC_3, gC_4_0, gC_4_1, gC_4_2, gC_4_3, gC_4_4, pC_4_4, rC_4, kC_5, kC_6, kC_7, kC_8, kC_9, kC_10, kC_11, kC_12, kC_13, kC_14, kC_15, kC_16, kC_17, kC_18, kC_19, fd_L_index_0, fd_L_index_14, bk_L_index_0, bk_L_index_14, cs_L_index, pt_K_has, pt_X_add]
    simp only [bt0, Classical.not_not, i10, false_implies, not_false_eq_true, true_implies, not_true_eq_false, true_and, and_true, false_and, and_false, imp_self]
    have hn := hA.1
    rw [hR.1.1, hR.1.2.2]
    refine ⟨fun q => ⟨a.1 2, hn.2.2, rfl, fun e => ?_, fun e => ?_⟩, fun q => ?_⟩
    · have := h s (by rw [g_index, if_neg (fun z => by omega)]; exact hR)
      rw [f_index, if_pos q, if_pos e] at this
      exact this
    · obtain ⟨k', hk1, hk2, rfl⟩ := iK_of hA q
      obtain ⟨j, hj1, hj2⟩ := and1 b
      rw [hj2]
      have := h (ak_p1 (ak_p1 (ak_p1 s 3 0 (nI (a.1 2 + 1))) 16 (a.1 2 + 1) (nI k')) 17 (a.1 2 + 1) (nI j)) (by
        rw [g_index, if_pos ⟨q, e⟩, q_cl (by omega), hj2, q_cl (by omega)]
        exact RC_index hR)
      rw [f_index, if_pos q, if_neg (by omega)] at this
      exact this
    · have := h s (by rw [g_index, if_neg (fun z => q z.1)]; exact hR)
      rw [f_index, if_neg q] at this
      exact this
  · exact h.elim
set_option maxRecDepth 20000 in
theorem ct_L_index (l : Launch) : ak_Ctr l cl_all lay_C y_L_index ws_L_index rm_L_index pt_L_index := by
  refine ak_met (cs := cs_L_index) (reg := rg_L_index) (bl := bl_L_index) (by decide +kernel) rfl (cl_ok _) rfl ok_L_index ?_ vc_L_index
  intro a n b ci h
  match a, h with
  | 0, h =>
    cases h
    exact ak_ccV (ct_K_has l) rfl 161 162 163 21 164 (by decide +kernel) ⟨rfl, rfl⟩ (by decide +kernel) (by decide +kernel)
  | 1, h =>
    cases h
    exact ak_ccV (ct_X_add l) rfl 285 286 287 23 288 (by decide +kernel) ⟨rfl, rfl⟩ (by decide +kernel) (by decide +kernel)
  | k + 2, h => cases h
def f_poke (a : ab_T) (i p t : Int32) : Int32 := if ¬ iS a i then -2 else if p < 0 ∨ 2 < p then -4 else if a.2.1 5 i.toNatClampNeg = 0 then -5 else a.2.2.2 (3 * i.toNatClampNeg + p.toNatClampNeg)
def g_poke (a : ab_T) (i p t : Int32) : ab_T := if iS a i ∧ ¬ (p < 0 ∨ 2 < p) ∧ a.2.1 5 i.toNatClampNeg ≠ 0 then a_p a (3 * i.toNatClampNeg + p.toNatClampNeg) t else a
theorem RC_poke {s : ak_S} {a : ab_T} {j : Nat} {t : Int32} (hR : RC s a) : RC (ak_p1 s 14 j t) (a_p a j t) := by
  obtain ⟨⟨h1, h2, h3⟩, hk, hs, hc, hp, hx, hb⟩ := hR
  refine ⟨⟨?_, ?_, ?_⟩, fun k' hk' => ?_, fun i hi => ?_, fun i h1 h2 => ?_, fun i p h1 h2 h3 h4 => ?_, fun j hj => ?_, ?_⟩
  · simp [p1_o, ap_1, h1]
  · simp [p1_o, ap_1, h2]
  · simp [p1_o, ap_1, h3]
  · simpa [p1_o, ap_21] using hk k' hk'
  · obtain ⟨z1, z2, z3, z4, z5⟩ := hs i hi
    exact ⟨by rw [p1_o (by decide)]; exact z1, by rw [p1_o (by decide)]; exact z2, z3, by rw [p1_o (by decide)]; exact z4, by rw [p1_o (by decide)]; exact z5⟩
  · rw [p1_o (by decide)]
    exact hc i h1 h2
  · rw [p1_s, ap_s, hp i p h1 h2 h3 h4]
  · simpa [p1_o, ap_21] using hx j hj
  · simpa [BK, p1_o, ap_1, a_lt, ap_22] using hb
def pt_L_poke : ak_P := fun vs s Q => match vs with
  | [.ref 0, .int i, .int p, .int t] => ∃ a, AI a ∧ RC s a ∧ ∀ s', RC s' (g_poke a i p t) → Q (some (.int (f_poke a i p t))) s'
  | _ => False
def cs_L_poke : Nat → ak_P := fun a => match a with
  | 0 => pt_S_has
  | 1 => pt_S_is
  | _ => pt_S_say
theorem vc_L_poke : ak_VC lay_C cs_L_poke bl_L_poke 4 pt_L_poke := by
  intro vs s Q h
  unfold pt_L_poke at h
  split at h
  · rename_i i p t
    obtain ⟨a, hA, hR, h⟩ := h
    refine ⟨Nat.le_of_ble_eq_true rfl, fun J hJ => hJ 5 _ _ _ _ ?_⟩
    simp only [Nat.reduceAdd, Nat.reduceLeDiff, Nat.zero_le, true_or, or_true, run_s, e_nop, e_iconst, e_bipush, e_sipush, e_lconst, e_iload, e_iload_n, e_lload, e_lload_n, e_aload, e_aload_n, e_istore, e_istore_n, e_iinc, e_iadd, e_isub, e_imul, e_lcmp, e_dupI, e_dupR, e_dup2, e_getfield, e_putfield, e_iaload, e_baload, e_laload, e_iastore, e_bastore, e_lastore, e_if, e_icmp, e_goto, e_tsw, e_ireturn0, e_ireturn1, e_return, e_call0, e_call1, e_call2, e_call3, lI_e, lL_e, lR_e, ak_nth, ak_set, ak_ok1, ak_jp, ak_b1, ak_b2, ak_sw, ak_la, ak_pad, true_and, and_true, List.map_cons, List.map_nil, List.sum_cons, List.sum_nil, Value.category, Option.toList_some, Option.toList_none, List.cons_append, List.nil_append, gC_0_0, gC_0_1, gC_0_2, gC_0_3, rC_0, gC_1_0, pC_1_0, gC_1_1, gC_1_2, gC_1_3, rC_1, gC_2_0, pC_2_0, gC_2_1, gC_2_2, gC_2_3, gC_2_4, gC_2_5, gC_2_6, gC_2_7, gC_2_8, rC_2, gC_3_0, pC_3_0, gC_3_1, gC_3_2, rC_3, gC_4_0, gC_4_1, gC_4_2, gC_4_3, gC_4_4, pC_4_4, rC_4, kC_5, kC_6, kC_7, kC_8, kC_9, kC_10, kC_11, kC_12, kC_13, kC_14, kC_15, kC_16, kC_17, kC_18, kC_19, fd_L_poke_0, fd_L_poke_14, fd_L_poke_23, fd_L_poke_26, fd_L_poke_41, bk_L_poke_0, bk_L_poke_14, bk_L_poke_23, bk_L_poke_26, bk_L_poke_41, cs_L_poke, pt_S_has, pt_S_is, pt_S_say]
    simp only [bt0, Classical.not_not, i10, false_implies, not_false_eq_true, true_implies, not_true_eq_false, true_and, and_true, false_and, and_false, imp_self]
    have hn := hA.1
    rw [hR.1.2.1]
    have same : ∀ v : Int32, f_poke a i p t = v → g_poke a i p t = a → Q (some (.int v)) s := by
      intro v e e2
      have := h s (by rw [e2]; exact hR)
      rw [e] at this
      exact this
    refine ⟨fun q => ⟨fun q2 => same _ ?_ ?_, fun q2 => ⟨fun q3 => ⟨a.1 1, hn.2.1, rfl, fun q4 => ?_, fun q4 => same _ ?_ ?_⟩, fun q3 => same _ ?_ ?_⟩⟩, fun q => same _ ?_ ?_⟩
    · rw [f_poke, if_neg (fun z => z q), if_pos (Or.inl q2)]
    · rw [g_poke, if_neg (fun z => z.2.1 (Or.inl q2))]
    · obtain ⟨i', hi1, hi2, rfl⟩ := iS_of hA q
      obtain ⟨p', hp1, rfl⟩ := nI_of q2
      rw [n_3, q_lt (by omega) (by omega)] at q3
      obtain ⟨_, _, _, b4, _⟩ := hR.2.2.1 i' (by omega)
      rw [q_cl (by omega), b4] at q4
      have hst : a.2.1 5 i' ≠ 0 := fun z => q4 ⟨q, by rw [z]; rfl⟩
      have hp : ¬ (nI p' < 0 ∨ 2 < nI p') := by
        rintro (z | z)
        · exact q2 z
        · rw [n_2, q_lt (by omega) (by omega)] at z
          omega
      refine ⟨i', p', by omega, q3, rfl, rfl, ?_⟩
      have := h (ak_p1 s 14 (3 * i' + p') t) (by
        rw [g_poke, q_cl (by omega), q_cl (by omega), if_pos ⟨q, hp, hst⟩]
        exact RC_poke hR)
      rw [f_poke, if_neg (fun z => z q), if_neg hp, q_cl (by omega), q_cl (by omega), if_neg hst] at this
      rw [hR.2.2.2.2.1 i' p' hi1 hi2 hst q3]
      exact this
    · obtain ⟨i', hi1, hi2, rfl⟩ := iS_of hA q
      obtain ⟨_, _, _, b4, _⟩ := hR.2.2.1 i' (by omega)
      have := (hA.2.2.1 i' (by omega)).2.2.1
      have q5 := q4.2
      rw [q_cl (by omega), b4, n_0, q_eq (by omega) (by omega)] at q5
      rw [f_poke, if_neg (fun z => z q), if_neg, q_cl (by omega), if_pos q5]
      grind
    · obtain ⟨i', hi1, hi2, rfl⟩ := iS_of hA q
      obtain ⟨_, _, _, b4, _⟩ := hR.2.2.1 i' (by omega)
      have := (hA.2.2.1 i' (by omega)).2.2.1
      have q5 := q4.2
      rw [q_cl (by omega), b4, n_0, q_eq (by omega) (by omega)] at q5
      rw [g_poke, q_cl (by omega), if_neg (fun z => z.2.2 q5)]
    · rw [f_poke, if_neg (fun z => z q), if_pos (Or.inr (by grind))]
    · rw [g_poke, if_neg (fun z => z.2.1 (Or.inr (by grind)))]
    · rw [f_poke, if_pos q]
    · rw [g_poke, if_neg (fun z => q z.1)]
  · exact h.elim
set_option maxRecDepth 20000 in
theorem ct_L_poke (l : Launch) : ak_Ctr l cl_all lay_C y_L_poke ws_L_poke rm_L_poke pt_L_poke := by
  refine ak_met (cs := cs_L_poke) (reg := rg_L_poke) (bl := bl_L_poke) (by decide +kernel) rfl (cl_ok _) rfl ok_L_poke ?_ vc_L_poke
  intro a n b ci h
  match a, h with
  | 0, h =>
    cases h
    exact ak_ccV (ct_S_has l) rfl 218 189 190 22 191 (by decide +kernel) ⟨rfl, rfl⟩ (by decide +kernel) (by decide +kernel)
  | 1, h =>
    cases h
    exact ak_ccV (ct_S_is l) rfl 184 185 186 22 187 (by decide +kernel) ⟨rfl, rfl⟩ (by decide +kernel) (by decide +kernel)
  | 2, h =>
    cases h
    exact ak_ccV (ct_S_say l) rfl 304 305 306 22 307 (by decide +kernel) ⟨rfl, rfl⟩ (by decide +kernel) (by decide +kernel)
  | k + 3, h => cases h
