/-! the class's entry and child -/
def a_inB (a : ab_T) (j i : Nat) : Bool := decide (a.2.1 5 i = 1 ∧ a.2.1 3 i = a.2.1 7 j ∧ ¬ (a.2.1 8 j ≠ 0 ∧ a.2.2.1 i = 0))
def f_entry (a : ab_T) (x y : Int32) : Int32 := if iX a x then nI (a_ith (a_inB a x.toNatClampNeg) (a_ltB a) (a.1 1) y) else 0
def pt_L_isIn : ak_P := fun vs s Q => match vs with
  | [.ref 0, .int x, .int y] => ∃ (a : ab_T) (j i : Nat), AI a ∧ RC s a ∧ x = nI j ∧ y = nI i ∧ 1 ≤ j ∧ j ≤ a.1 2 ∧ 1 ≤ i ∧ i ≤ a.1 1 ∧ (a_inB a j i = true → Q (some (.int 1)) s) ∧ (a_inB a j i = false → Q (some (.int 0)) s)
  | _ => False
def cs_L_isIn : Nat → ak_P := fun a => match a with
  | _ => pt_S_is
theorem vc_L_isIn : ak_VC lay_C cs_L_isIn bl_L_isIn 3 pt_L_isIn := by
  intro vs s Q h
  unfold pt_L_isIn at h
  split at h
  · rename_i x y
    obtain ⟨a, j, i, hA, hR, rfl, rfl, hj1, hj2, hi1, hi2, hy, hno⟩ := h
    have hn := hA.1
    refine ⟨Nat.le_of_ble_eq_true rfl, fun J hJ => hJ 6 _ _ _ _ ?_⟩
    simp only [Nat.reduceAdd, Nat.reduceLeDiff, Nat.zero_le, true_or, or_true, run_s, e_nop, e_iconst, e_bipush, e_sipush, e_lconst, e_iload, e_iload_n, e_lload, e_lload_n, e_aload, e_aload_n, e_istore, e_istore_n, e_iinc, e_iadd, e_isub, e_imul, e_lcmp, e_dupI, e_dupR, e_dup2, e_getfield, e_putfield, e_iaload, e_baload, e_laload, e_iastore, e_bastore, e_lastore, e_if, e_icmp, e_goto, e_tsw, e_ireturn0, e_ireturn1, e_return, e_call0, e_call1, e_call2, e_call3, lI_e, lL_e, lR_e, ak_nth, ak_set, ak_ok1, ak_jp, ak_b1, ak_b2, ak_sw, ak_la, ak_pad, true_and, and_true, List.map_cons, List.map_nil, List.sum_cons, List.sum_nil, Value.category, Option.toList_some, Option.toList_none, List.cons_append, List.nil_append, gC_0_0, gC_0_1, gC_0_2, gC_0_3, rC_0, gC_1_0, pC_1_0, gC_1_1, gC_1_2, gC_1_3, rC_1, gC_2_0, pC_2_0, gC_2_1, gC_2_2, gC_2_3, gC_2_4, gC_2_5, gC_2_6, gC_2_7, gC_2_8, rC_2, gC_3_0, pC_3_0, gC_3_1, gC_3_2, rC_3, gC_4_0, gC_4_1, gC_4_2, gC_4_3, gC_4_4, pC_4_4, rC_4, kC_5, kC_6, kC_7, kC_8, kC_9, kC_10, kC_11, kC_12, kC_13, kC_14, kC_15, kC_16, kC_17, kC_18, kC_19, fd_L_isIn_0, fd_L_isIn_59, fd_L_isIn_63, fd_L_isIn_64, bk_L_isIn_0, bk_L_isIn_59, bk_L_isIn_63, bk_L_isIn_64, cs_L_isIn, pt_S_is]
    simp only [bt0, Classical.not_not, i10, false_implies, not_false_eq_true, true_implies, not_true_eq_false, true_and, and_true, false_and, and_false, imp_self]
    obtain ⟨b1, b2, b3, b4, b5⟩ := hR.2.2.1 i (by omega)
    obtain ⟨c1, c2, c3, c4⟩ := hA.2.2.1 i (by omega)
    obtain ⟨d1, d2⟩ := hR.2.2.2.2.2.1 j (by omega)
    obtain ⟨e1, e2⟩ := hA.2.2.2.2.2.2.2.2.1 j (by omega)
    have hi := n_in hi1 hi2 (by omega)
    simp only [a_inB, decide_eq_true_eq, decide_eq_false_iff_not] at hy hno
    rw [hR.1.2.1, q_cl (by omega), q_cl (by omega), b4, b1, d1, d2, b3, lg_cmp_eq, q_eq (by omega) (by omega)]
    have z5 : nI (a.2.1 5 i) = 1 ↔ a.2.1 5 i = 1 := by rw [n_1]; exact nI_eq (by omega) (by omega)
    have z8 : nI (a.2.1 8 j) = 0 ↔ a.2.1 8 j = 0 := by rw [n_0]; exact nI_eq (by omega) (by omega)
    rw [z5, z8]
    have l0 : Int32.toInt64 0 = 0 := by decide
    rw [l0]
    refine ⟨a.1 1, by omega, rfl, fun q => hno (fun z => q ⟨hi, z.1⟩), fun q => ⟨q_in (by omega) (by omega), q_in (by omega) (by omega), fun q2 => hno (fun z => q2 z.2.1), fun q2 => ⟨q_in (by omega) (by omega), fun q3 => hy ⟨q.2, q2, fun z => z.1 q3⟩, fun q3 => ⟨q_in (by omega) (by omega), fun q4 => hno (fun z => z.2.2 ⟨q3, q4⟩), fun q4 => hy ⟨q.2, q2, fun z => q4 z.2⟩⟩⟩⟩⟩
  · exact h.elim
set_option maxRecDepth 20000 in
theorem ct_L_isIn (l : Launch) : ak_Ctr l cl_all lay_C y_L_isIn ws_L_isIn rm_L_isIn pt_L_isIn := by
  refine ak_met (cs := cs_L_isIn) (reg := rg_L_isIn) (bl := bl_L_isIn) (by decide +kernel) rfl (cl_ok _) rfl ok_L_isIn ?_ vc_L_isIn
  intro a n b ci h
  match a, h with
  | 0, h =>
    cases h
    exact ak_ccV (ct_S_is l) rfl 184 185 186 22 187 (by decide +kernel) ⟨rfl, rfl⟩ (by decide +kernel) (by decide +kernel)
  | k + 1, h => cases h
def pt_L_entry : ak_P := fun vs s Q => match vs with
  | [.ref 0, .int x, .int y] => ∃ a, AI a ∧ RC s a ∧ Q (some (.int (f_entry a x y))) s
  | _ => False
def cs_L_entry : Nat → ak_P := fun a => match a with
  | 0 => pt_X_has
  | _ => pt_L_isIn
theorem vc_L_entry : ak_VC lay_C cs_L_entry bl_L_entry 6 pt_L_entry := by
  intro vs s Q h
  unfold pt_L_entry at h
  split at h
  · rename_i x y
    obtain ⟨a, hA, hR, h⟩ := h
    have hn := hA.1
    unfold f_entry at h
    refine ⟨Nat.le_of_ble_eq_true rfl, fun J hJ => ?_⟩
    have start : (iX a x → ¬ y < 0 → J 22 [some (.ref 0), some (.int x), some (.int y), some (.int y), some (.int 0), none] [] s) → J 0 (ak_pad 6 (ak_la [.ref 0, .int x, .int y])) [] s := by
      intro hj
      refine hJ 4 _ _ _ _ ?_
      simp only [Nat.reduceAdd, Nat.reduceLeDiff, Nat.zero_le, true_or, or_true, run_s, e_nop, e_iconst, e_bipush, e_sipush, e_lconst, e_iload, e_iload_n, e_lload, e_lload_n, e_aload, e_aload_n, e_istore, e_istore_n, e_iinc, e_iadd, e_isub, e_imul, e_lcmp, e_dupI, e_dupR, e_dup2, e_getfield, e_putfield, e_iaload, e_baload, e_laload, e_iastore, e_bastore, e_lastore, e_if, e_icmp, e_goto, e_tsw, e_ireturn0, e_ireturn1, e_return, e_call0, e_call1, e_call2, e_call3, lI_e, lL_e, lR_e, ak_nth, ak_set, ak_ok1, ak_jp, ak_b1, ak_b2, ak_sw, ak_la, ak_pad, true_and, and_true, List.map_cons, List.map_nil, List.sum_cons, List.sum_nil, Value.category, Option.toList_some, Option.toList_none, List.cons_append, List.nil_append, gC_0_0, gC_0_1, gC_0_2, gC_0_3, rC_0, gC_1_0, pC_1_0, gC_1_1, gC_1_2, gC_1_3, rC_1, gC_2_0, pC_2_0, gC_2_1, gC_2_2, gC_2_3, gC_2_4, gC_2_5, gC_2_6, gC_2_7, gC_2_8, rC_2, gC_3_0, pC_3_0, gC_3_1, gC_3_2, rC_3, gC_4_0, gC_4_1, gC_4_2, gC_4_3, gC_4_4, pC_4_4, rC_4, kC_5, kC_6, kC_7, kC_8, kC_9, kC_10, kC_11, kC_12, kC_13, kC_14, kC_15, kC_16, kC_17, kC_18, kC_19, fd_L_entry_0, fd_L_entry_15, fd_L_entry_17, fd_L_entry_22, fd_L_entry_66, fd_L_entry_72, bk_L_entry_0, bk_L_entry_15, bk_L_entry_17, bk_L_entry_22, bk_L_entry_66, bk_L_entry_72, cs_L_entry, pt_X_has]
      simp only [bt0, Classical.not_not, i10, false_implies, not_false_eq_true, true_implies, not_true_eq_false, true_and, and_true, false_and, and_false, imp_self]
      rw [hR.1.2.2]
      refine ⟨fun q => ?_, fun q => ⟨fun q2 => hj q (Int32.not_lt.mpr q2), fun q2 => ?_⟩⟩
      · rw [if_neg q] at h
        exact h
      · rw [if_pos q, ith_neg (by omega) (Int32.not_le.mp q2)] at h
        exact h
    refine start (fun hX hy => ?_)
    rw [if_pos hX] at h
    obtain ⟨j, hj1, hj2, rfl⟩ := iX_of hA hX
    obtain ⟨i, hi1, rfl⟩ := nI_of hy
    rw [q_cl (by omega)] at h
    obtain ⟨bk, hbk, hs15⟩ := BK_p hR.2.2.2.2.2.2
    have loop : ∀ d p l (o : Option Value), p + d = a.1 1 → c0 (fun q => a_inB a j (bk q)) p + l = i → J 22 [some (.ref 0), some (.int (nI j)), some (.int (nI i)), some (.int (nI l)), some (.int (nI p)), o] [] s := by
      intro d
      induction d with
      | zero =>
        intro p l o hp hl
        have e : p = a.1 1 := by omega
        subst e
        refine hJ 3 _ _ _ _ ?_
        simp only [Nat.reduceAdd, Nat.reduceLeDiff, Nat.zero_le, true_or, or_true, run_s, e_nop, e_iconst, e_bipush, e_sipush, e_lconst, e_iload, e_iload_n, e_lload, e_lload_n, e_aload, e_aload_n, e_istore, e_istore_n, e_iinc, e_iadd, e_isub, e_imul, e_lcmp, e_dupI, e_dupR, e_dup2, e_getfield, e_putfield, e_iaload, e_baload, e_laload, e_iastore, e_bastore, e_lastore, e_if, e_icmp, e_goto, e_tsw, e_ireturn0, e_ireturn1, e_return, e_call0, e_call1, e_call2, e_call3, lI_e, lL_e, lR_e, ak_nth, ak_set, ak_ok1, ak_jp, ak_b1, ak_b2, ak_sw, ak_la, ak_pad, true_and, and_true, List.map_cons, List.map_nil, List.sum_cons, List.sum_nil, Value.category, Option.toList_some, Option.toList_none, List.cons_append, List.nil_append, gC_0_0, gC_0_1, gC_0_2, gC_0_3, rC_0, gC_1_0, pC_1_0, gC_1_1, gC_1_2, gC_1_3, rC_1, gC_2_0, pC_2_0, gC_2_1, gC_2_2, gC_2_3, gC_2_4, gC_2_5, gC_2_6, gC_2_7, gC_2_8, rC_2, gC_3_0, pC_3_0, gC_3_1, gC_3_2, rC_3, gC_4_0, gC_4_1, gC_4_2, gC_4_3, gC_4_4, pC_4_4, rC_4, kC_5, kC_6, kC_7, kC_8, kC_9, kC_10, kC_11, kC_12, kC_13, kC_14, kC_15, kC_16, kC_17, kC_18, kC_19, fd_L_entry_0, fd_L_entry_15, fd_L_entry_17, fd_L_entry_22, fd_L_entry_66, fd_L_entry_72, bk_L_entry_0, bk_L_entry_15, bk_L_entry_17, bk_L_entry_22, bk_L_entry_66, bk_L_entry_72, cs_L_entry]
        rw [hR.1.2.1, q_le (by omega) (by omega)]
        refine ⟨fun _ => ?_, fun q => absurd (by omega) q⟩
        rw [ith_no (sto_lt a) (by omega) hi1 (by rw [cn_bk hbk]; omega)] at h
        exact h
      | succ d ih =>
        intro p l o hp hl
        have hb := hbk.1 p (by omega)
        refine hJ 4 _ _ _ _ ?_
        simp only [Nat.reduceAdd, Nat.reduceLeDiff, Nat.zero_le, true_or, or_true, run_s, e_nop, e_iconst, e_bipush, e_sipush, e_lconst, e_iload, e_iload_n, e_lload, e_lload_n, e_aload, e_aload_n, e_istore, e_istore_n, e_iinc, e_iadd, e_isub, e_imul, e_lcmp, e_dupI, e_dupR, e_dup2, e_getfield, e_putfield, e_iaload, e_baload, e_laload, e_iastore, e_bastore, e_lastore, e_if, e_icmp, e_goto, e_tsw, e_ireturn0, e_ireturn1, e_return, e_call0, e_call1, e_call2, e_call3, lI_e, lL_e, lR_e, ak_nth, ak_set, ak_ok1, ak_jp, ak_b1, ak_b2, ak_sw, ak_la, ak_pad, true_and, and_true, List.map_cons, List.map_nil, List.sum_cons, List.sum_nil, Value.category, Option.toList_some, Option.toList_none, List.cons_append, List.nil_append, gC_0_0, gC_0_1, gC_0_2, gC_0_3, rC_0, gC_1_0, pC_1_0, gC_1_1, gC_1_2, gC_1_3, rC_1, gC_2_0, pC_2_0, gC_2_1, gC_2_2, gC_2_3, gC_2_4, gC_2_5, gC_2_6, gC_2_7, gC_2_8, rC_2, gC_3_0, pC_3_0, gC_3_1, gC_3_2, rC_3, gC_4_0, gC_4_1, gC_4_2, gC_4_3, gC_4_4, pC_4_4, rC_4, kC_5, kC_6, kC_7, kC_8, kC_9, kC_10, kC_11, kC_12, kC_13, kC_14, kC_15, kC_16, kC_17, kC_18, kC_19, fd_L_entry_0, fd_L_entry_15, fd_L_entry_17, fd_L_entry_22, fd_L_entry_66, fd_L_entry_72, bk_L_entry_0, bk_L_entry_15, bk_L_entry_17, bk_L_entry_22, bk_L_entry_66, bk_L_entry_72, cs_L_entry, nI_1, pt_L_isIn]
        simp only [bt0, Classical.not_not, i10, false_implies, not_false_eq_true, true_implies, not_true_eq_false, true_and, and_true, false_and, and_false, imp_self]
        rw [hR.1.2.1, q_le (by omega) (by omega), q_cl (by omega), hs15 p (by omega)]
        refine ⟨fun q => absurd q (by omega), fun _ => ⟨q_in (by omega) (by omega), a, j, bk p, hA, hR, rfl, rfl, hj1, hj2, hb.1, hb.2, fun q => ⟨fun q2 => ?_, fun q2 => ?_⟩, fun q => ?_⟩⟩
        · obtain ⟨l', rfl⟩ : ∃ l', l = l' + 1 := by
            rcases Nat.eq_zero_or_pos l with z | z
            · subst z; exact absurd rfl q2
            · exact ⟨l - 1, by omega⟩
          rw [pk_m1]
          refine ih (p + 1) l' _ (by omega) ?_
          simp only [c0, q, if_true]
          omega
        · rw [n_0, q_eq (by omega) (by omega)] at q2
          rw [ith_at (sto_lt a) (by omega) hi1 hb.1 hb.2 q (by rw [rk_bk hbk _ (by omega)]; omega)] at h
          exact h
        · refine ih (p + 1) l _ (by omega) ?_
          simp only [c0, q]
          simp
          omega
    exact loop (a.1 1) 0 i _ (by omega) (by simp [c0])
  · exact h.elim
set_option maxRecDepth 20000 in
theorem ct_L_entry (l : Launch) : ak_Ctr l cl_all lay_C y_L_entry ws_L_entry rm_L_entry pt_L_entry := by
  refine ak_met (cs := cs_L_entry) (reg := rg_L_entry) (bl := bl_L_entry) (by decide +kernel) rfl (cl_ok _) rfl ok_L_entry ?_ vc_L_entry
  intro a n b ci h
  match a, h with
  | 0, h =>
    cases h
    exact ak_ccV (ct_X_has l) rfl 293 294 295 23 296 (by decide +kernel) ⟨rfl, rfl⟩ (by decide +kernel) (by decide +kernel)
  | 1, h =>
    cases h
    exact ak_ccV (ct_L_isIn l) rfl 297 298 7 20 299 (by decide +kernel) ⟨rfl, rfl⟩ (by decide +kernel) (by decide +kernel)
  | k + 2, h => cases h
/-- a child: side 0 under it, side 1 related to it -/
def a_chB (a : ab_T) (g side c : Nat) : Bool := decide (a.2.1 5 c = 1 ∧ (if side = 0 then a.2.1 4 c else a.2.1 6 c) = g)
def a_ckB (a : ab_T) (g k c : Nat) : Bool := decide (a.2.1 5 c = 1 ∧ a.2.1 3 c = k ∧ a.2.1 4 c = g)
def f_child (a : ab_T) (g d x : Int32) : Int32 := if iS a g ∧ (d = 0 ∨ d = 1) then nI (if d = 0 then a_ith (a_chB a g.toNatClampNeg 0) (a_kdB a) (a.1 1) x else a_ith (a_chB a g.toNatClampNeg 1) (a_ltB a) (a.1 1) x) else 0
theorem sm_ck {a : ab_T} (hA : AI a) (g : Nat) : ∀ k, sm (fun k => cn (a_ckB a g k) (a.1 1)) k = cn (fun d => a_chB a g 0 d && decide (a.2.1 3 d ≤ k)) (a.1 1)
  | 0 => by
    rw [sm, cn_0]
    intro j h1 h2
    have := hA.2.2.2.1 j h1 h2
    have z : ¬ a.2.1 3 j ≤ 0 := by omega
    simp [z]
  | k + 1 => by
    rw [sm, sm_ck hA g k, ← cn_or]
    · refine cn_congr (fun j _ _ => ?_)
      rw [Bool.eq_iff_iff]
      simp only [a_chB, a_ckB, if_true, Bool.or_eq_true, Bool.and_eq_true, decide_eq_true_eq]
      omega
    · intro j _ _
      simp only [a_chB, a_ckB, if_true, Bool.and_eq_true, decide_eq_true_eq]
      omega
theorem cn_ch {a : ab_T} (hA : AI a) (g : Nat) : cn (a_chB a g 0) (a.1 1) = sm (fun k => cn (a_ckB a g k) (a.1 1)) (a.1 0) := by
  rw [sm_ck hA]
  refine cn_congr (fun j h1 h2 => ?_)
  have := (hA.2.2.2.2.2.2.2.2.2 j h1 h2).1
  simp [this]
theorem rk_kd {a : ab_T} (hA : AI a) {bk : Nat → Nat} (h : BKp a bk) (g : Nat) {p k : Nat} (hp : p < a.1 1) (hk : a.2.1 3 (bk p) = k + 1) : a_rk (a_chB a g 0) (a_kdB a) (a.1 1) (bk p) = sm (fun k => cn (a_ckB a g k) (a.1 1)) k + c0 (fun q => a_ckB a g (k + 1) (bk q)) p := by
  rw [← rk_bk h _ hp, sm_ck hA]
  unfold a_rk
  rw [← cn_or]
  · refine cn_congr (fun j _ _ => ?_)
    have hkd : a_kdB a j (bk p) = (decide (a.2.1 3 j ≤ k) || (decide (a.2.1 3 j = k + 1) && a_ltB a j (bk p))) := by
      unfold a_kdB
      rw [hk]
      by_cases e : a.2.1 3 j = k + 1
      · have : ¬ a.2.1 3 j ≤ k := by omega
        rw [if_neg (fun z => z e), decide_eq_false this, decide_eq_true e]
        simp
      · rw [if_pos e]
        simp only [e, decide_false, Bool.false_and, Bool.or_false, decide_eq_decide]
        omega
    rw [hkd]
    rw [Bool.eq_iff_iff]
    simp only [a_chB, a_ckB, if_true, Bool.or_eq_true, Bool.and_eq_true, decide_eq_true_eq]
    constructor
    · rintro ⟨z1, z2 | z2⟩
      · exact Or.inl ⟨z1, z2⟩
      · exact Or.inr ⟨⟨z1.1, z2.1, z1.2⟩, z2.2⟩
    · rintro (z | z)
      · exact ⟨z.1, Or.inl z.2⟩
      · exact ⟨⟨z.1.1, z.1.2.2⟩, Or.inr ⟨z.1.2.1, z.2⟩⟩
  · intro j _ _
    simp only [a_chB, a_ckB, if_true, Bool.and_eq_true, decide_eq_true_eq]
    omega
def pt_L_physicalChild : ak_P := fun vs s Q => match vs with
  | [.ref 0, .int x, .int y] => ∃ (a : ab_T) (g i : Nat), AI a ∧ RC s a ∧ x = nI g ∧ y = nI i ∧ 1 ≤ g ∧ g ≤ a.1 1 ∧ i < 2147483648 ∧ Q (some (.int (nI (a_ith (a_chB a g 0) (a_kdB a) (a.1 1) (nI i))))) s
  | _ => False
def cs_L_physicalChild : Nat → ak_P := fun a => match a with
  | _ => pt_S_isOneUnder
theorem vc_L_physicalChild : ak_VC lay_C cs_L_physicalChild bl_L_physicalChild 7 pt_L_physicalChild := by
  intro vs s Q h
  unfold pt_L_physicalChild at h
  split at h
  · rename_i x y
    obtain ⟨a, g, i, hA, hR, rfl, rfl, hg1, hg2, hi, h⟩ := h
    have hn := hA.1
    obtain ⟨bk, hbk, hs15⟩ := BK_p hR.2.2.2.2.2.2
    obtain ⟨bg1, _⟩ := hR.2.2.1 g (by omega)
    obtain ⟨bg2, _⟩ := hA.2.2.1 g (by omega)
    refine ⟨Nat.le_of_ble_eq_true rfl, fun J hJ => ?_⟩
    have outer : ∀ d k l (o1 o2 : Option Value), k + d = a.1 0 → sm (fun k => cn (a_ckB a g k) (a.1 1)) k + l = i → J 5 [some (.ref 0), some (.int (nI g)), some (.int (nI i)), some (.int (nI l)), some (.int (nI (k + 1))), o1, o2] [] s := by
      intro d
      induction d with
      | zero =>
        intro k l o1 o2 hk hl
        have e : k = a.1 0 := by omega
        subst e
        refine hJ 3 _ _ _ _ ?_
        simp only [Nat.reduceAdd, Nat.reduceLeDiff, Nat.zero_le, true_or, or_true, run_s, e_nop, e_iconst, e_bipush, e_sipush, e_lconst, e_iload, e_iload_n, e_lload, e_lload_n, e_aload, e_aload_n, e_istore, e_istore_n, e_iinc, e_iadd, e_isub, e_imul, e_lcmp, e_dupI, e_dupR, e_dup2, e_getfield, e_putfield, e_iaload, e_baload, e_laload, e_iastore, e_bastore, e_lastore, e_if, e_icmp, e_goto, e_tsw, e_ireturn0, e_ireturn1, e_return, e_call0, e_call1, e_call2, e_call3, lI_e, lL_e, lR_e, ak_nth, ak_set, ak_ok1, ak_jp, ak_b1, ak_b2, ak_sw, ak_la, ak_pad, true_and, and_true, List.map_cons, List.map_nil, List.sum_cons, List.sum_nil, Value.category, Option.toList_some, Option.toList_none, List.cons_append, List.nil_append, gC_0_0, gC_0_1, gC_0_2, gC_0_3, rC_0, gC_1_0, pC_1_0, gC_1_1, gC_1_2, gC_1_3, rC_1, gC_2_0, pC_2_0, gC_2_1, gC_2_2, gC_2_3, gC_2_4, gC_2_5, gC_2_6, gC_2_7, gC_2_8, rC_2, gC_3_0, pC_3_0, gC_3_1, gC_3_2, rC_3, gC_4_0, gC_4_1, gC_4_2, gC_4_3, gC_4_4, pC_4_4, rC_4, kC_5, kC_6, kC_7, kC_8, kC_9, kC_10, kC_11, kC_12, kC_13, kC_14, kC_15, kC_16, kC_17, kC_18, kC_19, fd_L_physicalChild_0, fd_L_physicalChild_5, fd_L_physicalChild_42, fd_L_physicalChild_45, fd_L_physicalChild_94, fd_L_physicalChild_100, fd_L_physicalChild_106, bk_L_physicalChild_0, bk_L_physicalChild_5, bk_L_physicalChild_42, bk_L_physicalChild_45, bk_L_physicalChild_94, bk_L_physicalChild_100, bk_L_physicalChild_106, cs_L_physicalChild]
        rw [hR.1.1, q_lt (by omega) (by omega)]
        refine ⟨fun _ => ?_, fun q => absurd (by omega) q⟩
        rw [ith_no (sto_kd a) (by omega) hi (by rw [cn_ch hA]; omega)] at h
        exact h
      | succ d ih =>
        intro k l o1 o2 hk hl
        have inner : ∀ d2 p l2 (o : Option Value), p + d2 = a.1 1 → sm (fun k => cn (a_ckB a g k) (a.1 1)) k + c0 (fun q => a_ckB a g (k + 1) (bk q)) p + l2 = i → J 45 [some (.ref 0), some (.int (nI g)), some (.int (nI i)), some (.int (nI l2)), some (.int (nI (k + 1))), some (.int (nI p)), o] [] s := by
          intro d2
          induction d2 with
          | zero =>
            intro p l2 o hp hl2
            have e : p = a.1 1 := by omega
            subst e
            refine hJ 4 _ _ _ _ ?_
            simp only [Nat.reduceAdd, Nat.reduceLeDiff, Nat.zero_le, true_or, or_true, run_s, e_nop, e_iconst, e_bipush, e_sipush, e_lconst, e_iload, e_iload_n, e_lload, e_lload_n, e_aload, e_aload_n, e_istore, e_istore_n, e_iinc, e_iadd, e_isub, e_imul, e_lcmp, e_dupI, e_dupR, e_dup2, e_getfield, e_putfield, e_iaload, e_baload, e_laload, e_iastore, e_bastore, e_lastore, e_if, e_icmp, e_goto, e_tsw, e_ireturn0, e_ireturn1, e_return, e_call0, e_call1, e_call2, e_call3, lI_e, lL_e, lR_e, ak_nth, ak_set, ak_ok1, ak_jp, ak_b1, ak_b2, ak_sw, ak_la, ak_pad, true_and, and_true, List.map_cons, List.map_nil, List.sum_cons, List.sum_nil, Value.category, Option.toList_some, Option.toList_none, List.cons_append, List.nil_append, gC_0_0, gC_0_1, gC_0_2, gC_0_3, rC_0, gC_1_0, pC_1_0, gC_1_1, gC_1_2, gC_1_3, rC_1, gC_2_0, pC_2_0, gC_2_1, gC_2_2, gC_2_3, gC_2_4, gC_2_5, gC_2_6, gC_2_7, gC_2_8, rC_2, gC_3_0, pC_3_0, gC_3_1, gC_3_2, rC_3, gC_4_0, gC_4_1, gC_4_2, gC_4_3, gC_4_4, pC_4_4, rC_4, kC_5, kC_6, kC_7, kC_8, kC_9, kC_10, kC_11, kC_12, kC_13, kC_14, kC_15, kC_16, kC_17, kC_18, kC_19, fd_L_physicalChild_0, fd_L_physicalChild_5, fd_L_physicalChild_42, fd_L_physicalChild_45, fd_L_physicalChild_94, fd_L_physicalChild_100, fd_L_physicalChild_106, bk_L_physicalChild_0, bk_L_physicalChild_5, bk_L_physicalChild_42, bk_L_physicalChild_45, bk_L_physicalChild_94, bk_L_physicalChild_100, bk_L_physicalChild_106, cs_L_physicalChild, nI_1]
            rw [hR.1.2.1, q_le (by omega) (by omega)]
            refine ⟨fun _ => ?_, fun q => absurd (by omega) q⟩
            refine ih (k + 1) l2 _ _ (by omega) ?_
            rw [sm, cn_bk hbk]
            omega
          | succ d2 ih2 =>
            intro p l2 o hp hl2
            have hb := hbk.1 p (by omega)
            obtain ⟨b1, b2, b3, b4, b5⟩ := hR.2.2.1 (bk p) (by omega)
            obtain ⟨c1, c2, c3, c4⟩ := hA.2.2.1 (bk p) (by omega)
            refine hJ 4 _ _ _ _ ?_
            simp only [Nat.reduceAdd, Nat.reduceLeDiff, Nat.zero_le, true_or, or_true, run_s, e_nop, e_iconst, e_bipush, e_sipush, e_lconst, e_iload, e_iload_n, e_lload, e_lload_n, e_aload, e_aload_n, e_istore, e_istore_n, e_iinc, e_iadd, e_isub, e_imul, e_lcmp, e_dupI, e_dupR, e_dup2, e_getfield, e_putfield, e_iaload, e_baload, e_laload, e_iastore, e_bastore, e_lastore, e_if, e_icmp, e_goto, e_tsw, e_ireturn0, e_ireturn1, e_return, e_call0, e_call1, e_call2, e_call3, lI_e, lL_e, lR_e, ak_nth, ak_set, ak_ok1, ak_jp, ak_b1, ak_b2, ak_sw, ak_la, ak_pad, true_and, and_true, List.map_cons, List.map_nil, List.sum_cons, List.sum_nil, Value.category, Option.toList_some, Option.toList_none, List.cons_append, List.nil_append, gC_0_0, gC_0_1, gC_0_2, gC_0_3, rC_0, gC_1_0, pC_1_0, gC_1_1, gC_1_2, gC_1_3, rC_1, gC_2_0, pC_2_0, gC_2_1, gC_2_2, gC_2_3, gC_2_4, gC_2_5, gC_2_6, gC_2_7, gC_2_8, rC_2, gC_3_0, pC_3_0, gC_3_1, gC_3_2, rC_3, gC_4_0, gC_4_1, gC_4_2, gC_4_3, gC_4_4, pC_4_4, rC_4, kC_5, kC_6, kC_7, kC_8, kC_9, kC_10, kC_11, kC_12, kC_13, kC_14, kC_15, kC_16, kC_17, kC_18, kC_19, fd_L_physicalChild_0, fd_L_physicalChild_5, fd_L_physicalChild_42, fd_L_physicalChild_45, fd_L_physicalChild_94, fd_L_physicalChild_100, fd_L_physicalChild_106, bk_L_physicalChild_0, bk_L_physicalChild_5, bk_L_physicalChild_42, bk_L_physicalChild_45, bk_L_physicalChild_94, bk_L_physicalChild_100, bk_L_physicalChild_106, cs_L_physicalChild, nI_1, pt_S_isOneUnder]
            simp only [bt0, Classical.not_not, i10, false_implies, not_false_eq_true, true_implies, not_true_eq_false, true_and, and_true, false_and, and_false, imp_self]
            rw [hR.1.2.1, q_le (by omega) (by omega), q_cl (by omega), hs15 p (by omega), q_cl (by omega)]
            have hone : (s.1 11 (bk p) = 1 ∧ s.1 8 (bk p) = nI (k + 1) ∧ s.1 9 (bk p) = nI g) ↔ a_ckB a g (k + 1) (bk p) = true := by
              rw [b4, b1, b2, n_1]
              simp only [a_ckB, decide_eq_true_eq]
              rw [nI_eq (by omega) (by omega), nI_eq (by omega) (by omega)]
              by_cases z : a.2.1 5 (bk p) = 1
              · rw [if_pos z, nI_eq (by omega) (by omega)]
              · exact ⟨fun y => absurd y.1 z, fun y => absurd y.1 z⟩
            rw [hone]
            refine ⟨fun q => absurd q (by omega), fun _ => ⟨q_in (by omega) (by omega), q_in (by omega) (by omega), fun q => ?_, fun q => ⟨fun q2 => ?_, fun q2 => ?_⟩⟩⟩
            · refine ih2 (p + 1) l2 _ (by omega) ?_
              simp only [c0, q]
              simp
              omega
            · obtain ⟨l', rfl⟩ : ∃ l', l2 = l' + 1 := by
                rcases Nat.eq_zero_or_pos l2 with z | z
                · subst z; exact absurd rfl q2
                · exact ⟨l2 - 1, by omega⟩
              rw [pk_m1]
              refine ih2 (p + 1) l' _ (by omega) ?_
              simp only [c0, q, if_true]
              omega
            · rw [n_0, q_eq (by omega) (by omega)] at q2
              have hq := q
              simp only [a_ckB, decide_eq_true_eq] at hq
              rw [ith_at (sto_kd a) (by omega) hi hb.1 hb.2 (by simp [a_chB, hq]) (by rw [rk_kd hA hbk g (by omega) hq.2.1]; omega)] at h
              exact h
        have hab := (hR.2.1 (k + 1) (by omega)).1
        have hab2 := (hA.2.1 (k + 1) (by omega)).1
        refine hJ 4 _ _ _ _ ?_
        simp only [Nat.reduceAdd, Nat.reduceLeDiff, Nat.zero_le, true_or, or_true, run_s, e_nop, e_iconst, e_bipush, e_sipush, e_lconst, e_iload, e_iload_n, e_lload, e_lload_n, e_aload, e_aload_n, e_istore, e_istore_n, e_iinc, e_iadd, e_isub, e_imul, e_lcmp, e_dupI, e_dupR, e_dup2, e_getfield, e_putfield, e_iaload, e_baload, e_laload, e_iastore, e_bastore, e_lastore, e_if, e_icmp, e_goto, e_tsw, e_ireturn0, e_ireturn1, e_return, e_call0, e_call1, e_call2, e_call3, lI_e, lL_e, lR_e, ak_nth, ak_set, ak_ok1, ak_jp, ak_b1, ak_b2, ak_sw, ak_la, ak_pad, true_and, and_true, List.map_cons, List.map_nil, List.sum_cons, List.sum_nil, Value.category, Option.toList_some, Option.toList_none, List.cons_append, List.nil_append, gC_0_0, gC_0_1, gC_0_2, gC_0_3, rC_0, gC_1_0, pC_1_0, gC_1_1, gC_1_2, gC_1_3, rC_1, gC_2_0, pC_2_0, gC_2_1, gC_2_2, gC_2_3, gC_2_4, gC_2_5, gC_2_6, gC_2_7, gC_2_8, rC_2, gC_3_0, pC_3_0, gC_3_1, gC_3_2, rC_3, gC_4_0, gC_4_1, gC_4_2, gC_4_3, gC_4_4, pC_4_4, rC_4, kC_5, kC_6, kC_7, kC_8, kC_9, kC_10, kC_11, kC_12, kC_13, kC_14, kC_15, kC_16, kC_17, kC_18, kC_19, fd_L_physicalChild_0, fd_L_physicalChild_5, fd_L_physicalChild_42, fd_L_physicalChild_45, fd_L_physicalChild_94, fd_L_physicalChild_100, fd_L_physicalChild_106, bk_L_physicalChild_0, bk_L_physicalChild_5, bk_L_physicalChild_42, bk_L_physicalChild_45, bk_L_physicalChild_94, bk_L_physicalChild_100, bk_L_physicalChild_106, cs_L_physicalChild, nI_1]
        rw [hR.1.1, q_lt (by omega) (by omega), q_cl (by omega), q_cl (by omega), hab, bg1, q_eq (by omega) (by omega)]
        refine ⟨fun q => absurd q (by omega), fun _ => ⟨q_in (by omega) (by omega), q_in (by omega) (by omega), fun q => ?_, fun q => ?_⟩⟩
        · exact inner (a.1 1) 0 l _ (by omega) (by simp only [c0]; omega)
        · refine ih (k + 1) l _ _ (by omega) ?_
          rw [sm]
          have : cn (a_ckB a g (k + 1)) (a.1 1) = 0 := by
            refine cn_0 (fun j h1 h2 => ?_)
            simp only [a_ckB, decide_eq_false_iff_not]
            rintro ⟨_, z2, z3⟩
            have := ((hA.2.2.2.2.2.2.2.2.2 j h1 h2).2 (by omega)).2
            rw [z2, z3] at this
            exact q this
          omega
    refine hJ 3 _ _ _ _ ?_
    simp only [Nat.reduceAdd, Nat.reduceLeDiff, Nat.zero_le, true_or, or_true, run_s, e_nop, e_iconst, e_bipush, e_sipush, e_lconst, e_iload, e_iload_n, e_lload, e_lload_n, e_aload, e_aload_n, e_istore, e_istore_n, e_iinc, e_iadd, e_isub, e_imul, e_lcmp, e_dupI, e_dupR, e_dup2, e_getfield, e_putfield, e_iaload, e_baload, e_laload, e_iastore, e_bastore, e_lastore, e_if, e_icmp, e_goto, e_tsw, e_ireturn0, e_ireturn1, e_return, e_call0, e_call1, e_call2, e_call3, lI_e, lL_e, lR_e, ak_nth, ak_set, ak_ok1, ak_jp, ak_b1, ak_b2, ak_sw, ak_la, ak_pad, true_and, and_true, List.map_cons, List.map_nil, List.sum_cons, List.sum_nil, Value.category, Option.toList_some, Option.toList_none, List.cons_append, List.nil_append, gC_0_0, gC_0_1, gC_0_2, gC_0_3, rC_0, gC_1_0, pC_1_0, gC_1_1, gC_1_2, gC_1_3, rC_1, gC_2_0, pC_2_0, gC_2_1, gC_2_2, gC_2_3, gC_2_4, gC_2_5, gC_2_6, gC_2_7, gC_2_8, rC_2, gC_3_0, pC_3_0, gC_3_1, gC_3_2, rC_3, gC_4_0, gC_4_1, gC_4_2, gC_4_3, gC_4_4, pC_4_4, rC_4, kC_5, kC_6, kC_7, kC_8, kC_9, kC_10, kC_11, kC_12, kC_13, kC_14, kC_15, kC_16, kC_17, kC_18, kC_19, fd_L_physicalChild_0, fd_L_physicalChild_5, fd_L_physicalChild_42, fd_L_physicalChild_45, fd_L_physicalChild_94, fd_L_physicalChild_100, fd_L_physicalChild_106, bk_L_physicalChild_0, bk_L_physicalChild_5, bk_L_physicalChild_42, bk_L_physicalChild_45, bk_L_physicalChild_94, bk_L_physicalChild_100, bk_L_physicalChild_106, cs_L_physicalChild]
    exact outer (a.1 0) 0 i _ _ (by omega) (by simp [sm])
  · exact h.elim
set_option maxRecDepth 20000 in
theorem ct_L_physicalChild (l : Launch) : ak_Ctr l cl_all lay_C y_L_physicalChild ws_L_physicalChild rm_L_physicalChild pt_L_physicalChild := by
  refine ak_met (cs := cs_L_physicalChild) (reg := rg_L_physicalChild) (bl := bl_L_physicalChild) (by decide +kernel) rfl (cl_ok _) rfl ok_L_physicalChild ?_ vc_L_physicalChild
  intro a n b ci h
  match a, h with
  | 0, h =>
    cases h
    exact ak_ccV (ct_S_isOneUnder l) rfl 272 197 198 22 199 (by decide +kernel) ⟨rfl, rfl⟩ (by decide +kernel) (by decide +kernel)
  | k + 1, h => cases h
def pt_L_child : ak_P := fun vs s Q => match vs with
  | [.ref 0, .int g, .int d, .int x] => ∃ a, AI a ∧ RC s a ∧ Q (some (.int (f_child a g d x))) s
  | _ => False
def cs_L_child : Nat → ak_P := fun a => match a with
  | 0 => pt_S_has
  | 1 => pt_L_physicalChild
  | _ => pt_S_logicalChild
theorem vc_L_child : ak_VC lay_C cs_L_child bl_L_child 4 pt_L_child := by
  intro vs s Q h
  unfold pt_L_child at h
  split at h
  · rename_i g d x
    obtain ⟨a, hA, hR, h⟩ := h
    have hn := hA.1
    refine ⟨Nat.le_of_ble_eq_true rfl, fun J hJ => hJ 6 _ _ _ _ ?_⟩
    simp only [Nat.reduceAdd, Nat.reduceLeDiff, Nat.zero_le, true_or, or_true, run_s, e_nop, e_iconst, e_bipush, e_sipush, e_lconst, e_iload, e_iload_n, e_lload, e_lload_n, e_aload, e_aload_n, e_istore, e_istore_n, e_iinc, e_iadd, e_isub, e_imul, e_lcmp, e_dupI, e_dupR, e_dup2, e_getfield, e_putfield, e_iaload, e_baload, e_laload, e_iastore, e_bastore, e_lastore, e_if, e_icmp, e_goto, e_tsw, e_ireturn0, e_ireturn1, e_return, e_call0, e_call1, e_call2, e_call3, lI_e, lL_e, lR_e, ak_nth, ak_set, ak_ok1, ak_jp, ak_b1, ak_b2, ak_sw, ak_la, ak_pad, true_and, and_true, List.map_cons, List.map_nil, List.sum_cons, List.sum_nil, Value.category, Option.toList_some, Option.toList_none, List.cons_append, List.nil_append, gC_0_0, gC_0_1, gC_0_2, gC_0_3, rC_0, gC_1_0, pC_1_0, gC_1_1, gC_1_2, gC_1_3, rC_1, gC_2_0, pC_2_0, gC_2_1, gC_2_2, gC_2_3, gC_2_4, gC_2_5, gC_2_6, gC_2_7, gC_2_8, rC_2, gC_3_0, pC_3_0, gC_3_1, gC_3_2, rC_3, gC_4_0, gC_4_1, gC_4_2, gC_4_3, gC_4_4, pC_4_4, rC_4, kC_5, kC_6, kC_7, kC_8, kC_9, kC_10, kC_11, kC_12, kC_13, kC_14, kC_15, kC_16, kC_17, kC_18, kC_19, fd_L_child_0, fd_L_child_15, fd_L_child_17, fd_L_child_28, fd_L_child_45, fd_L_child_46, bk_L_child_0, bk_L_child_15, bk_L_child_17, bk_L_child_28, bk_L_child_45, bk_L_child_46, cs_L_child, pt_S_has, pt_L_physicalChild, pt_S_logicalChild]
    simp only [bt0, Classical.not_not, i10, false_implies, not_false_eq_true, true_implies, not_true_eq_false, true_and, and_true, false_and, and_false, imp_self]
    rw [hR.1.2.1]
    unfold f_child at h
    refine ⟨fun q => ?_, fun q => ⟨fun q2 => ?_, fun q2 => ?_⟩⟩
    · rw [if_neg (fun z => q z.1)] at h
      exact h
    · obtain ⟨g', hg1, hg2, rfl⟩ := iS_of hA q
      obtain ⟨i, hi1, rfl⟩ := nI_of (Int32.not_lt.mpr q2)
      rw [q_cl (by omega)] at h
      refine ⟨fun q3 => ⟨fun q4 => ?_, fun q4 => ?_⟩, fun q3 => ?_⟩
      · rw [if_neg (fun z => z.2.elim q3 q4)] at h
        exact h
      · rw [if_pos ⟨q, Or.inr q4⟩, if_neg q3] at h
        obtain ⟨bk, hbk, hs15⟩ := BK_p hR.2.2.2.2.2.2
        have hP : ∀ p, p < a.1 1 → decide (s.1 12 (s.1 15 p).toNatClampNeg = nI g') = a_chB a g' 1 (bk p) := by
          intro p hp
          have hb := hbk.1 p hp
          rw [hs15 p hp, q_cl (by omega), (hR.2.2.1 (bk p) (by omega)).2.2.2.2]
          have hr := (hA.2.2.1 (bk p) (by omega)).2.2.2
          simp only [a_chB, decide_eq_decide]
          rw [nI_eq (by omega) (by omega), if_neg (by omega)]
          refine ⟨fun z => ⟨(hA.2.2.2.2.1 (bk p) (by omega) (by omega)).2.2, z⟩, fun z => z.2⟩
        have hc : ∀ p, p ≤ a.1 1 → c0 (fun j => decide (s.1 12 (s.1 15 j).toNatClampNeg = nI g')) p = c0 (fun q => a_chB a g' 1 (bk q)) p := fun p hp => c0_congr (fun j hj => hP j (by omega))
        refine ⟨a.1 1, i, by omega, rfl, hi1, rfl, fun j hj => ⟨bk j, by have := hbk.1 j hj; omega, hs15 j hj⟩, fun j hj hy hcj => ?_, fun hcn => ?_⟩
        · have hb := hbk.1 j hj
          have hch : a_chB a g' 1 (bk j) = true := by rw [← hP j hj]; simp [hy]
          rw [hc j (by omega)] at hcj
          rw [ith_at (sto_lt a) (by omega) hi1 hb.1 hb.2 hch (by rw [rk_bk hbk _ hj]; exact hcj)] at h
          rw [hs15 j hj]
          exact h
        · rw [hc _ (Nat.le_refl _)] at hcn
          rw [ith_no (sto_lt a) (by omega) hi1 (by rw [cn_bk hbk]; exact hcn)] at h
          exact h
      · rw [if_pos ⟨q, Or.inl q3⟩, if_pos q3] at h
        exact ⟨a, g', i, hA, hR, rfl, rfl, hg1, hg2, hi1, h⟩
    · have hx : x < 0 := Int32.not_le.mp q2
      by_cases z : d = 0 ∨ d = 1
      · rw [if_pos ⟨q, z⟩] at h
        split at h
        · rw [ith_neg (by omega) hx] at h; exact h
        · rw [ith_neg (by omega) hx] at h; exact h
      · rw [if_neg (fun y => z y.2)] at h
        exact h
  · exact h.elim
set_option maxRecDepth 20000 in
theorem ct_L_child (l : Launch) : ak_Ctr l cl_all lay_C y_L_child ws_L_child rm_L_child pt_L_child := by
  refine ak_met (cs := cs_L_child) (reg := rg_L_child) (bl := bl_L_child) (by decide +kernel) rfl (cl_ok _) rfl ok_L_child ?_ vc_L_child
  intro a n b ci h
  match a, h with
  | 0, h =>
    cases h
    exact ak_ccV (ct_S_has l) rfl 218 189 190 22 191 (by decide +kernel) ⟨rfl, rfl⟩ (by decide +kernel) (by decide +kernel)
  | 1, h =>
    cases h
    exact ak_ccV (ct_L_physicalChild l) rfl 269 270 6 20 271 (by decide +kernel) ⟨rfl, rfl⟩ (by decide +kernel) (by decide +kernel)
  | 2, h =>
    cases h
    exact ak_ccV (ct_S_logicalChild l) rfl 273 274 275 22 276 (by decide +kernel) ⟨rfl, rfl⟩ (by decide +kernel) (by decide +kernel)
  | k + 3, h => cases h
