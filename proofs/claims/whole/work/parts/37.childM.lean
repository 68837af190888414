/-! the reference's child and entry -/
theorem fd_min {p : Nat → Bool} {c : Nat} : ∀ {n : Nat}, c + 1 ≤ n → p (c + 1) = true → (∀ j, 1 ≤ j → j ≤ c → p j = false) → fd p n = c + 1
  | 0, h, _, _ => by omega
  | n + 1, h, hp, hl => by
    rw [fd]
    by_cases e : c = n
    · subst e
      rw [fd_0 hl, if_neg (fun z => z rfl), if_pos hp]
    · rw [fd_min (n := n) (by omega) hp hl, if_pos (by omega)]
def a_ahB (a : ab_T) (d x y : Nat) : Bool := if d = 0 then a_kdB a x y else a_ltB a x y
def pt_M_isAhead : ak_P := fun vs t Q => match vs with
  | [.ref 0, .int x, .int y, .int z] => ∃ (a : ab_T) (i j d : Nat), AI a ∧ RM t a ∧ x = nI i ∧ y = nI j ∧ z = nI d ∧ i ≤ 250 ∧ j ≤ 250 ∧ d < 2 ∧ (a_ahB a d i j = true → Q (some (.int 1)) t) ∧ (a_ahB a d i j = false → Q (some (.int 0)) t)
  | _ => False
def cs_M_isAhead : Nat → ak_P := fun _ _ _ _ => False
theorem vc_M_isAhead : ak_VC lay_M cs_M_isAhead bl_M_isAhead 4 pt_M_isAhead := by
  intro vs t Q h
  unfold pt_M_isAhead at h
  split at h
  · rename_i x y z
    obtain ⟨a, i, j, d, hA, hR, rfl, rfl, rfl, hi, hj, hd, hy, hno⟩ := h
    have hn := hA.1
    obtain ⟨b1, _, b3, _⟩ := hR.2.2.1 i hi
    obtain ⟨c1, _, c3, _⟩ := hR.2.2.1 j hj
    have e1 := (hA.2.2.1 i hi).1
    have e2 := (hA.2.2.1 j hj).1
    refine ⟨Nat.le_of_ble_eq_true rfl, fun J hJ => hJ 6 _ _ _ _ ?_⟩
    simp only [Nat.reduceAdd, Nat.reduceLeDiff, Nat.zero_le, true_or, or_true, run_s, e_nop, e_iconst, e_bipush, e_sipush, e_lconst, e_iload, e_iload_n, e_lload, e_lload_n, e_aload, e_aload_n, e_istore, e_istore_n, e_iinc, e_iadd, e_isub, e_imul, e_lcmp, e_dupI, e_dupR, e_dup2, e_getfield, e_putfield, e_iaload, e_baload, e_laload, e_iastore, e_bastore, e_lastore, e_if, e_icmp, e_goto, e_tsw, e_ireturn0, e_ireturn1, e_return, e_call0, e_call1, e_call2, e_call3, lI_e, lL_e, lR_e, ak_nth, ak_set, ak_ok1, ak_jp, ak_b1, ak_b2, ak_sw, ak_la, ak_pad, true_and, and_true, List.map_cons, List.map_nil, List.sum_cons, List.sum_nil, Value.category, Option.toList_some, Option.toList_none, List.cons_append, List.nil_append, gM_0_0, pM_0_0, gM_0_1, pM_0_1, gM_0_2, pM_0_2, gM_0_3, pM_0_3, gM_0_4, gM_0_5, gM_0_6, gM_0_7, gM_0_8, gM_0_9, gM_0_10, gM_0_11, gM_0_12, gM_0_13, gM_0_14, gM_0_15, gM_0_16, rM_0, kM_1, kM_2, kM_3, kM_4, kM_5, kM_6, kM_7, kM_8, kM_9, kM_10, kM_11, kM_12, kM_13, fd_M_isAhead_0, fd_M_isAhead_38, fd_M_isAhead_39, fd_M_isAhead_40, fd_M_isAhead_76, fd_M_isAhead_80, fd_M_isAhead_89, fd_M_isAhead_90, bk_M_isAhead_0, bk_M_isAhead_38, bk_M_isAhead_39, bk_M_isAhead_40, bk_M_isAhead_76, bk_M_isAhead_80, bk_M_isAhead_89, bk_M_isAhead_90]
    have ed : nI d = 0 ↔ d = 0 := by rw [n_0]; exact nI_eq (by omega) (by omega)
    have ek : nI (a.2.1 3 i) = nI (a.2.1 3 j) ↔ a.2.1 3 i = a.2.1 3 j := nI_eq (by omega) (by omega)
    have el : nI (a.2.1 3 j) ≤ nI (a.2.1 3 i) ↔ a.2.1 3 j ≤ a.2.1 3 i := nI_leI (by omega) (by omega)
    have ei : nI j ≤ nI i ↔ j ≤ i := nI_leI (by omega) (by omega)
    have vi : ∀ n, 251 ≤ n → n < 2147483648 → vp_in (nI i) n := fun n h1 h2 => q_in (by omega) h2
    have vj : ∀ n, 251 ≤ n → n < 2147483648 → vp_in (nI j) n := fun n h1 h2 => q_in (by omega) h2
    rw [q_cl (by omega), q_cl (by omega), b1, c1, b3, c3, ed, ek, el, ei, lg_cmp_eq, lg_cmp_ge]
    simp only [vi 251 (by omega) (by omega), vj 251 (by omega) (by omega), true_and]
    unfold a_ahB a_kdB a_ltB at hy hno
    have key : (¬ a.2.2.1 i = a.2.2.1 j → (a.2.2.1 j ≤ a.2.2.1 i → Q (some (Value.int 0)) t) ∧ (¬ a.2.2.1 j ≤ a.2.2.1 i → Q (some (Value.int 1)) t)) ∧ (a.2.2.1 i = a.2.2.1 j → (j ≤ i → Q (some (Value.int 0)) t) ∧ (¬ j ≤ i → Q (some (Value.int 1)) t)) ∨ (d = 0 ∧ ¬ a.2.1 3 i = a.2.1 3 j) := by
      by_cases w : d = 0 ∧ ¬ a.2.1 3 i = a.2.1 3 j
      · exact Or.inr w
      · left
        have e : (if d = 0 then (if a.2.1 3 i ≠ a.2.1 3 j then decide (a.2.1 3 i < a.2.1 3 j) else decide (a.2.2.1 i < a.2.2.1 j ∨ (a.2.2.1 i = a.2.2.1 j ∧ i < j))) else decide (a.2.2.1 i < a.2.2.1 j ∨ (a.2.2.1 i = a.2.2.1 j ∧ i < j))) = decide (a.2.2.1 i < a.2.2.1 j ∨ (a.2.2.1 i = a.2.2.1 j ∧ i < j)) := by
          by_cases w1 : d = 0
          · rw [if_pos w1, if_neg (fun z => w ⟨w1, z⟩)]
          · rw [if_neg w1]
        rw [e, decide_eq_true_eq] at hy
        rw [e, decide_eq_false_iff_not] at hno
        refine ⟨fun q => ⟨fun q2 => hno ?_, fun q2 => hy (Or.inl (Int64.not_le.mp q2))⟩, fun q => ⟨fun q2 => hno ?_, fun q2 => hy (Or.inr ⟨q, by omega⟩)⟩⟩
        · rintro (z | z)
          · exact absurd q2 (Int64.not_le.mpr z)
          · exact q z.1
        · rintro (z | z)
          · rw [q] at z; exact absurd z Int64.lt_irrefl
          · omega
    refine ⟨fun q => ?_, fun q => ⟨fun q2 => ?_, fun q2 => ?_⟩⟩
    · rcases key with key | key
      · exact ⟨key.2, key.1⟩
      · exact absurd key.1 q
    · rcases key with key | key
      · exact ⟨key.2, key.1⟩
      · exact absurd q2 key.2
    · rw [if_pos q, if_pos q2, decide_eq_true_eq] at hy
      rw [if_pos q, if_pos q2, decide_eq_false_iff_not] at hno
      exact ⟨fun z => hno (by omega), fun z => hy (by omega)⟩
  · exact h.elim
set_option maxRecDepth 20000 in
theorem ct_M_isAhead (l : Launch) : ak_Ctr l cl_all lay_M y_M_isAhead ws_M_isAhead rm_M_isAhead pt_M_isAhead := by
  refine ak_met (cs := cs_M_isAhead) (reg := rg_M_isAhead) (bl := bl_M_isAhead) (by decide +kernel) rfl (cl_ok _) rfl ok_M_isAhead ?_ vc_M_isAhead
  intro a n b ci h
  match a, h with
  | k + 0, h => cases h
def pt_M_isChild : ak_P := fun vs t Q => match vs with
  | [.ref 0, .int x, .int y, .int z] => ∃ (a : ab_T) (g c d : Nat), AI a ∧ RM t a ∧ x = nI g ∧ y = nI c ∧ z = nI d ∧ 1 ≤ g ∧ g ≤ 250 ∧ 1 ≤ c ∧ c ≤ a.1 1 ∧ d < 2 ∧ (a_chB a g d c = true → Q (some (.int 1)) t) ∧ (a_chB a g d c = false → Q (some (.int 0)) t)
  | _ => False
def cs_M_isChild : Nat → ak_P := fun _ _ _ _ => False
theorem vc_M_isChild : ak_VC lay_M cs_M_isChild bl_M_isChild 4 pt_M_isChild := by
  intro vs t Q h
  unfold pt_M_isChild at h
  split at h
  · rename_i x y z
    obtain ⟨a, g, c, d, hA, hR, rfl, rfl, rfl, hg1, hg2, hc1, hc2, hd, hy, hno⟩ := h
    have hn := hA.1
    obtain ⟨_, b2, _, b4⟩ := hR.2.2.1 c (by omega)
    obtain ⟨_, e2, _, e4⟩ := hA.2.2.1 c (by omega)
    have s1 := (stM hA hR hc1 hc2).1
    refine ⟨Nat.le_of_ble_eq_true rfl, fun J hJ => hJ 6 _ _ _ _ ?_⟩
    simp only [Nat.reduceAdd, Nat.reduceLeDiff, Nat.zero_le, true_or, or_true, run_s, e_nop, e_iconst, e_bipush, e_sipush, e_lconst, e_iload, e_iload_n, e_lload, e_lload_n, e_aload, e_aload_n, e_istore, e_istore_n, e_iinc, e_iadd, e_isub, e_imul, e_lcmp, e_dupI, e_dupR, e_dup2, e_getfield, e_putfield, e_iaload, e_baload, e_laload, e_iastore, e_bastore, e_lastore, e_if, e_icmp, e_goto, e_tsw, e_ireturn0, e_ireturn1, e_return, e_call0, e_call1, e_call2, e_call3, lI_e, lL_e, lR_e, ak_nth, ak_set, ak_ok1, ak_jp, ak_b1, ak_b2, ak_sw, ak_la, ak_pad, true_and, and_true, List.map_cons, List.map_nil, List.sum_cons, List.sum_nil, Value.category, Option.toList_some, Option.toList_none, List.cons_append, List.nil_append, gM_0_0, pM_0_0, gM_0_1, pM_0_1, gM_0_2, pM_0_2, gM_0_3, pM_0_3, gM_0_4, gM_0_5, gM_0_6, gM_0_7, gM_0_8, gM_0_9, gM_0_10, gM_0_11, gM_0_12, gM_0_13, gM_0_14, gM_0_15, gM_0_16, rM_0, kM_1, kM_2, kM_3, kM_4, kM_5, kM_6, kM_7, kM_8, kM_9, kM_10, kM_11, kM_12, kM_13, fd_M_isChild_0, fd_M_isChild_23, fd_M_isChild_29, fd_M_isChild_37, fd_M_isChild_38, bk_M_isChild_0, bk_M_isChild_23, bk_M_isChild_29, bk_M_isChild_37, bk_M_isChild_38]
    have ed : nI d = 0 ↔ d = 0 := by rw [n_0]; exact nI_eq (by omega) (by omega)
    have eu : nI (a.2.1 4 c) = nI g ↔ a.2.1 4 c = g := nI_eq (by omega) (by omega)
    have er : nI (a.2.1 6 c) = nI g ↔ a.2.1 6 c = g := nI_eq (by omega) (by omega)
    rw [q_cl (by omega), s1, b2, b4, ed, eu, er]
    unfold a_chB at hy hno
    rw [decide_eq_true_eq] at hy
    rw [decide_eq_false_iff_not] at hno
    refine ⟨q_in (by omega) (by omega), fun q => hno (fun z => q z.1), fun q => ⟨fun q2 => ⟨q_in (by omega) (by omega), ?_⟩, fun q2 => ⟨q_in (by omega) (by omega), ?_⟩⟩⟩
    · rw [if_neg q2] at hy hno
      exact ⟨fun q3 => hno (fun z => q3 z.2), fun q3 => hy ⟨q, q3⟩⟩
    · rw [if_pos q2] at hy hno
      exact ⟨fun q3 => hno (fun z => q3 z.2), fun q3 => hy ⟨q, q3⟩⟩
  · exact h.elim
set_option maxRecDepth 20000 in
theorem ct_M_isChild (l : Launch) : ak_Ctr l cl_all lay_M y_M_isChild ws_M_isChild rm_M_isChild pt_M_isChild := by
  refine ak_met (cs := cs_M_isChild) (reg := rg_M_isChild) (bl := bl_M_isChild) (by decide +kernel) rfl (cl_ok _) rfl ok_M_isChild ?_ vc_M_isChild
  intro a n b ci h
  match a, h with
  | k + 0, h => cases h
def pt_M_isIn : ak_P := fun vs t Q => match vs with
  | [.ref 0, .int y, .int x] => ∃ (a : ab_T) (j i : Nat), AI a ∧ RM t a ∧ x = nI j ∧ y = nI i ∧ 1 ≤ j ∧ j ≤ a.1 2 ∧ 1 ≤ i ∧ i ≤ a.1 1 ∧ (a_inB a j i = true → Q (some (.int 1)) t) ∧ (a_inB a j i = false → Q (some (.int 0)) t)
  | _ => False
def cs_M_isIn : Nat → ak_P := fun _ _ _ _ => False
theorem vc_M_isIn : ak_VC lay_M cs_M_isIn bl_M_isIn 3 pt_M_isIn := by
  intro vs t Q h
  unfold pt_M_isIn at h
  split at h
  · rename_i y x
    obtain ⟨a, j, i, hA, hR, rfl, rfl, hj1, hj2, hi1, hi2, hy, hno⟩ := h
    have hn := hA.1
    refine ⟨Nat.le_of_ble_eq_true rfl, fun J hJ => hJ 6 _ _ _ _ ?_⟩
    simp only [Nat.reduceAdd, Nat.reduceLeDiff, Nat.zero_le, true_or, or_true, run_s, e_nop, e_iconst, e_bipush, e_sipush, e_lconst, e_iload, e_iload_n, e_lload, e_lload_n, e_aload, e_aload_n, e_istore, e_istore_n, e_iinc, e_iadd, e_isub, e_imul, e_lcmp, e_dupI, e_dupR, e_dup2, e_getfield, e_putfield, e_iaload, e_baload, e_laload, e_iastore, e_bastore, e_lastore, e_if, e_icmp, e_goto, e_tsw, e_ireturn0, e_ireturn1, e_return, e_call0, e_call1, e_call2, e_call3, lI_e, lL_e, lR_e, ak_nth, ak_set, ak_ok1, ak_jp, ak_b1, ak_b2, ak_sw, ak_la, ak_pad, true_and, and_true, List.map_cons, List.map_nil, List.sum_cons, List.sum_nil, Value.category, Option.toList_some, Option.toList_none, List.cons_append, List.nil_append, gM_0_0, pM_0_0, gM_0_1, pM_0_1, gM_0_2, pM_0_2, gM_0_3, pM_0_3, gM_0_4, gM_0_5, gM_0_6, gM_0_7, gM_0_8, gM_0_9, gM_0_10, gM_0_11, gM_0_12, gM_0_13, gM_0_14, gM_0_15, gM_0_16, rM_0, kM_1, kM_2, kM_3, kM_4, kM_5, kM_6, kM_7, kM_8, kM_9, kM_10, kM_11, kM_12, kM_13, fd_M_isIn_0, fd_M_isIn_45, fd_M_isIn_49, fd_M_isIn_50, bk_M_isIn_0, bk_M_isIn_45, bk_M_isIn_49, bk_M_isIn_50]
    obtain ⟨b1, _, b3, _⟩ := hR.2.2.1 i (by omega)
    have c1 := (hA.2.2.1 i (by omega)).1
    obtain ⟨d1, d2⟩ := hR.2.2.2.2.2 j (by omega)
    obtain ⟨e1, e2⟩ := hA.2.2.2.2.2.2.2.2.1 j (by omega)
    have s1 := (stM hA hR hi1 hi2).1
    simp only [a_inB, decide_eq_true_eq, decide_eq_false_iff_not] at hy hno
    have z8 : nI (a.2.1 8 j) = 0 ↔ a.2.1 8 j = 0 := by rw [n_0]; exact nI_eq (by omega) (by omega)
    have zk : nI (a.2.1 3 i) = nI (a.2.1 7 j) ↔ a.2.1 3 i = a.2.1 7 j := nI_eq (by omega) (by omega)
    have l0 : Int32.toInt64 0 = 0 := by decide
    rw [q_cl (by omega), q_cl (by omega), s1, b1, d1, d2, b3, z8, zk, lg_cmp_eq, l0]
    refine ⟨q_in (by omega) (by omega), fun q => hno (fun z => q z.1), fun q => ⟨q_in (by omega) (by omega), q_in (by omega) (by omega), fun q2 => hno (fun z => q2 z.2.1), fun q2 => ⟨q_in (by omega) (by omega), fun q3 => hy ⟨q, q2, fun z => z.1 q3⟩, fun q3 => ⟨q_in (by omega) (by omega), fun q4 => hno (fun z => z.2.2 ⟨q3, q4⟩), fun q4 => hy ⟨q, q2, fun z => q4 z.2⟩⟩⟩⟩⟩
  · exact h.elim
set_option maxRecDepth 20000 in
theorem ct_M_isIn (l : Launch) : ak_Ctr l cl_all lay_M y_M_isIn ws_M_isIn rm_M_isIn pt_M_isIn := by
  refine ak_met (cs := cs_M_isIn) (reg := rg_M_isIn) (bl := bl_M_isIn) (by decide +kernel) rfl (cl_ok _) rfl ok_M_isIn ?_ vc_M_isIn
  intro a n b ci h
  match a, h with
  | k + 0, h => cases h
def pt_M_child : ak_P := fun vs t Q => match vs with
  | [.ref 0, .int g, .int d, .int x] => ∃ a, AI a ∧ RM t a ∧ ∀ t', RM t' a → Q (some (.int (f_child a g d x))) t'
  | _ => False
def cs_M_child : Nat → ak_P := fun a => match a with
  | 0 => pt_M_isSegment
  | 1 => pt_M_isChild
  | _ => pt_M_isAhead
theorem vc_M_child : ak_VC lay_M cs_M_child bl_M_child 7 pt_M_child := by
  intro vs t Q h
  unfold pt_M_child at h
  split at h
  · rename_i g d x
    obtain ⟨a, hA, hR, h⟩ := h
    have hn := hA.1
    have hR0 := RM_c hR
    refine ⟨Nat.le_of_ble_eq_true rfl, fun J hJ => ?_⟩
    obtain ⟨t0, ht0⟩ : ∃ t0, t0 = ak_p1 t 0 0 0 := ⟨_, rfl⟩
    rw [← ht0] at hR0
    replace h := h t0 hR0
    have outer : ∀ (g' d' : Nat), 1 ≤ g' → g' ≤ a.1 1 → d' < 2 → Q (some (.int (nI (a_ith (a_chB a g' d') (a_ahB a d') (a.1 1) x)))) t0 → ∀ e c (o1 o2 : Option Value), c + e = a.1 1 → (∀ j, 1 ≤ j → j ≤ c → (a_chB a g' d' j && decide (nI (a_rk (a_chB a g' d') (a_ahB a d') (a.1 1) j) = x)) = false) → J 27 [some (.ref 0), some (.int (nI g')), some (.int (nI d')), some (.int x), some (.int (nI (c + 1))), o1, o2] [] t0 := by
      intro g' d' hg1 hg2 hd h e
      induction e with
      | zero =>
        intro c o1 o2 hc hl
        have e : c = a.1 1 := by omega
        subst e
        refine hJ 3 _ _ _ _ ?_
        simp only [Nat.reduceAdd, Nat.reduceLeDiff, Nat.zero_le, true_or, or_true, run_s, e_nop, e_iconst, e_bipush, e_sipush, e_lconst, e_iload, e_iload_n, e_lload, e_lload_n, e_aload, e_aload_n, e_istore, e_istore_n, e_iinc, e_iadd, e_isub, e_imul, e_lcmp, e_dupI, e_dupR, e_dup2, e_getfield, e_putfield, e_iaload, e_baload, e_laload, e_iastore, e_bastore, e_lastore, e_if, e_icmp, e_goto, e_tsw, e_ireturn0, e_ireturn1, e_return, e_call0, e_call1, e_call2, e_call3, lI_e, lL_e, lR_e, ak_nth, ak_set, ak_ok1, ak_jp, ak_b1, ak_b2, ak_sw, ak_la, ak_pad, true_and, and_true, List.map_cons, List.map_nil, List.sum_cons, List.sum_nil, Value.category, Option.toList_some, Option.toList_none, List.cons_append, List.nil_append, gM_0_0, pM_0_0, gM_0_1, pM_0_1, gM_0_2, pM_0_2, gM_0_3, pM_0_3, gM_0_4, gM_0_5, gM_0_6, gM_0_7, gM_0_8, gM_0_9, gM_0_10, gM_0_11, gM_0_12, gM_0_13, gM_0_14, gM_0_15, gM_0_16, rM_0, kM_1, kM_2, kM_3, kM_4, kM_5, kM_6, kM_7, kM_8, kM_9, kM_10, kM_11, kM_12, kM_13, fd_M_child_0, fd_M_child_22, fd_M_child_24, fd_M_child_27, fd_M_child_50, fd_M_child_56, fd_M_child_94, fd_M_child_95, fd_M_child_104, fd_M_child_113, fd_M_child_119, bk_M_child_0, bk_M_child_22, bk_M_child_24, bk_M_child_27, bk_M_child_50, bk_M_child_56, bk_M_child_94, bk_M_child_95, bk_M_child_104, bk_M_child_113, bk_M_child_119, cs_M_child]
        rw [hR0.1.2.1, q_lt (by omega) (by omega)]
        refine ⟨fun _ => ?_, fun q => absurd (by omega) q⟩
        rw [a_ith, fd_0 hl] at h
        exact h
      | succ e ih =>
        intro c o1 o2 hc hl
        have next : (a_chB a g' d' (c + 1) && decide (nI (a_rk (a_chB a g' d') (a_ahB a d') (a.1 1) (c + 1)) = x)) = false → ∀ o1 o2 : Option Value, J 27 [some (.ref 0), some (.int (nI g')), some (.int (nI d')), some (.int x), some (.int (nI (c + 1 + 1))), o1, o2] [] t0 := fun z o1 o2 => ih (c + 1) o1 o2 (by omega) (fun j j1 j2 => by
          by_cases w : j = c + 1
          · rw [w]; exact z
          · exact hl j j1 (by omega))
        have inner : a_chB a g' d' (c + 1) = true → ∀ e2 k, k + e2 = a.1 1 → J 56 [some (.ref 0), some (.int (nI g')), some (.int (nI d')), some (.int x), some (.int (nI (c + 1))), some (.int (nI (cn (fun q => a_chB a g' d' q && a_ahB a d' q (c + 1)) k))), some (.int (nI (k + 1)))] [] t0 := by
          intro hch e2
          induction e2 with
          | zero =>
            intro k hk
            have e : k = a.1 1 := by omega
            subst e
            refine hJ 4 _ _ _ _ ?_
            simp only [Nat.reduceAdd, Nat.reduceLeDiff, Nat.zero_le, true_or, or_true, run_s, e_nop, e_iconst, e_bipush, e_sipush, e_lconst, e_iload, e_iload_n, e_lload, e_lload_n, e_aload, e_aload_n, e_istore, e_istore_n, e_iinc, e_iadd, e_isub, e_imul, e_lcmp, e_dupI, e_dupR, e_dup2, e_getfield, e_putfield, e_iaload, e_baload, e_laload, e_iastore, e_bastore, e_lastore, e_if, e_icmp, e_goto, e_tsw, e_ireturn0, e_ireturn1, e_return, e_call0, e_call1, e_call2, e_call3, lI_e, lL_e, lR_e, ak_nth, ak_set, ak_ok1, ak_jp, ak_b1, ak_b2, ak_sw, ak_la, ak_pad, true_and, and_true, List.map_cons, List.map_nil, List.sum_cons, List.sum_nil, Value.category, Option.toList_some, Option.toList_none, List.cons_append, List.nil_append, gM_0_0, pM_0_0, gM_0_1, pM_0_1, gM_0_2, pM_0_2, gM_0_3, pM_0_3, gM_0_4, gM_0_5, gM_0_6, gM_0_7, gM_0_8, gM_0_9, gM_0_10, gM_0_11, gM_0_12, gM_0_13, gM_0_14, gM_0_15, gM_0_16, rM_0, kM_1, kM_2, kM_3, kM_4, kM_5, kM_6, kM_7, kM_8, kM_9, kM_10, kM_11, kM_12, kM_13, fd_M_child_0, fd_M_child_22, fd_M_child_24, fd_M_child_27, fd_M_child_50, fd_M_child_56, fd_M_child_94, fd_M_child_95, fd_M_child_104, fd_M_child_113, fd_M_child_119, bk_M_child_0, bk_M_child_22, bk_M_child_24, bk_M_child_27, bk_M_child_50, bk_M_child_56, bk_M_child_94, bk_M_child_95, bk_M_child_104, bk_M_child_113, bk_M_child_119, cs_M_child, nI_1]
            rw [hR0.1.2.1, q_lt (by omega) (by omega)]
            refine ⟨fun _ => ⟨fun q => next ?_ _ _, fun q => ?_⟩, fun q => absurd (by omega) q⟩
            · rw [hch]
              unfold a_rk
              simp [q]
            · have hp : (a_chB a g' d' (c + 1) && decide (nI (a_rk (a_chB a g' d') (a_ahB a d') (a.1 1) (c + 1)) = x)) = true := by
                rw [hch]
                unfold a_rk
                simp [q]
              rw [a_ith, fd_min (c := c) (by omega) hp hl] at h
              exact h
          | succ e2 ih2 =>
            intro k hk
            have hh := ih2 (k + 1) (by omega)
            have e0 : ∀ z : Nat, nI z + 0 = nI z := fun z => by rw [n_0, nI_add]; rfl
            refine hJ 5 _ _ _ _ ?_
            simp only [Nat.reduceAdd, Nat.reduceLeDiff, Nat.zero_le, true_or, or_true, run_s, e_nop, e_iconst, e_bipush, e_sipush, e_lconst, e_iload, e_iload_n, e_lload, e_lload_n, e_aload, e_aload_n, e_istore, e_istore_n, e_iinc, e_iadd, e_isub, e_imul, e_lcmp, e_dupI, e_dupR, e_dup2, e_getfield, e_putfield, e_iaload, e_baload, e_laload, e_iastore, e_bastore, e_lastore, e_if, e_icmp, e_goto, e_tsw, e_ireturn0, e_ireturn1, e_return, e_call0, e_call1, e_call2, e_call3, lI_e, lL_e, lR_e, ak_nth, ak_set, ak_ok1, ak_jp, ak_b1, ak_b2, ak_sw, ak_la, ak_pad, true_and, and_true, List.map_cons, List.map_nil, List.sum_cons, List.sum_nil, Value.category, Option.toList_some, Option.toList_none, List.cons_append, List.nil_append, gM_0_0, pM_0_0, gM_0_1, pM_0_1, gM_0_2, pM_0_2, gM_0_3, pM_0_3, gM_0_4, gM_0_5, gM_0_6, gM_0_7, gM_0_8, gM_0_9, gM_0_10, gM_0_11, gM_0_12, gM_0_13, gM_0_14, gM_0_15, gM_0_16, rM_0, kM_1, kM_2, kM_3, kM_4, kM_5, kM_6, kM_7, kM_8, kM_9, kM_10, kM_11, kM_12, kM_13, fd_M_child_0, fd_M_child_22, fd_M_child_24, fd_M_child_27, fd_M_child_50, fd_M_child_56, fd_M_child_94, fd_M_child_95, fd_M_child_104, fd_M_child_113, fd_M_child_119, bk_M_child_0, bk_M_child_22, bk_M_child_24, bk_M_child_27, bk_M_child_50, bk_M_child_56, bk_M_child_94, bk_M_child_95, bk_M_child_104, bk_M_child_113, bk_M_child_119, cs_M_child, pt_M_isChild, pt_M_isAhead, nI_1]
            simp only [bt0, Classical.not_not, i10, false_implies, not_false_eq_true, true_implies, not_true_eq_false, true_and, and_true, false_and, and_false, imp_self]
            simp only [e0]
            rw [hR0.1.2.1, q_lt (by omega) (by omega)]
            refine ⟨fun q => absurd q (by omega), fun _ => ⟨a, g', k + 1, d', hA, hR0, rfl, rfl, rfl, hg1, by omega, by omega, by omega, hd, fun q => ⟨a, k + 1, c + 1, d', hA, hR0, rfl, rfl, rfl, by omega, by omega, hd, fun q2 => ?_, fun q2 => ?_⟩, fun q => ?_⟩⟩
            · simpa [cn, q, q2] using hh
            · simpa [cn, q, q2] using hh
            · simpa [cn, q] using hh
        refine hJ 4 _ _ _ _ ?_
        simp only [Nat.reduceAdd, Nat.reduceLeDiff, Nat.zero_le, true_or, or_true, run_s, e_nop, e_iconst, e_bipush, e_sipush, e_lconst, e_iload, e_iload_n, e_lload, e_lload_n, e_aload, e_aload_n, e_istore, e_istore_n, e_iinc, e_iadd, e_isub, e_imul, e_lcmp, e_dupI, e_dupR, e_dup2, e_getfield, e_putfield, e_iaload, e_baload, e_laload, e_iastore, e_bastore, e_lastore, e_if, e_icmp, e_goto, e_tsw, e_ireturn0, e_ireturn1, e_return, e_call0, e_call1, e_call2, e_call3, lI_e, lL_e, lR_e, ak_nth, ak_set, ak_ok1, ak_jp, ak_b1, ak_b2, ak_sw, ak_la, ak_pad, true_and, and_true, List.map_cons, List.map_nil, List.sum_cons, List.sum_nil, Value.category, Option.toList_some, Option.toList_none, List.cons_append, List.nil_append, gM_0_0, pM_0_0, gM_0_1, pM_0_1, gM_0_2, pM_0_2, gM_0_3, pM_0_3, gM_0_4, gM_0_5, gM_0_6, gM_0_7, gM_0_8, gM_0_9, gM_0_10, gM_0_11, gM_0_12, gM_0_13, gM_0_14, gM_0_15, gM_0_16, rM_0, kM_1, kM_2, kM_3, kM_4, kM_5, kM_6, kM_7, kM_8, kM_9, kM_10, kM_11, kM_12, kM_13, fd_M_child_0, fd_M_child_22, fd_M_child_24, fd_M_child_27, fd_M_child_50, fd_M_child_56, fd_M_child_94, fd_M_child_95, fd_M_child_104, fd_M_child_113, fd_M_child_119, bk_M_child_0, bk_M_child_22, bk_M_child_24, bk_M_child_27, bk_M_child_50, bk_M_child_56, bk_M_child_94, bk_M_child_95, bk_M_child_104, bk_M_child_113, bk_M_child_119, cs_M_child, pt_M_isChild, nI_1]
        simp only [bt0, Classical.not_not, i10, false_implies, not_false_eq_true, true_implies, not_true_eq_false, true_and, and_true, false_and, and_false, imp_self]
        rw [hR0.1.2.1, q_lt (by omega) (by omega)]
        refine ⟨fun q => absurd q (by omega), fun _ => ⟨a, g', c + 1, d', hA, hR0, rfl, rfl, rfl, hg1, by omega, by omega, by omega, hd, fun q => ?_, fun q => next (by rw [q]; rfl) _ _⟩⟩
        exact inner q (a.1 1) 0 (by omega)
    refine hJ 6 _ _ _ _ ?_
    simp only [Nat.reduceAdd, Nat.reduceLeDiff, Nat.zero_le, true_or, or_true, run_s, e_nop, e_iconst, e_bipush, e_sipush, e_lconst, e_iload, e_iload_n, e_lload, e_lload_n, e_aload, e_aload_n, e_istore, e_istore_n, e_iinc, e_iadd, e_isub, e_imul, e_lcmp, e_dupI, e_dupR, e_dup2, e_getfield, e_putfield, e_iaload, e_baload, e_laload, e_iastore, e_bastore, e_lastore, e_if, e_icmp, e_goto, e_tsw, e_ireturn0, e_ireturn1, e_return, e_call0, e_call1, e_call2, e_call3, lI_e, lL_e, lR_e, ak_nth, ak_set, ak_ok1, ak_jp, ak_b1, ak_b2, ak_sw, ak_la, ak_pad, true_and, and_true, List.map_cons, List.map_nil, List.sum_cons, List.sum_nil, Value.category, Option.toList_some, Option.toList_none, List.cons_append, List.nil_append, gM_0_0, pM_0_0, gM_0_1, pM_0_1, gM_0_2, pM_0_2, gM_0_3, pM_0_3, gM_0_4, gM_0_5, gM_0_6, gM_0_7, gM_0_8, gM_0_9, gM_0_10, gM_0_11, gM_0_12, gM_0_13, gM_0_14, gM_0_15, gM_0_16, rM_0, kM_1, kM_2, kM_3, kM_4, kM_5, kM_6, kM_7, kM_8, kM_9, kM_10, kM_11, kM_12, kM_13, fd_M_child_0, fd_M_child_22, fd_M_child_24, fd_M_child_27, fd_M_child_50, fd_M_child_56, fd_M_child_94, fd_M_child_95, fd_M_child_104, fd_M_child_113, fd_M_child_119, bk_M_child_0, bk_M_child_22, bk_M_child_24, bk_M_child_27, bk_M_child_50, bk_M_child_56, bk_M_child_94, bk_M_child_95, bk_M_child_104, bk_M_child_113, bk_M_child_119, cs_M_child, pt_M_isSegment]
    simp only [bt0, Classical.not_not, i10, false_implies, not_false_eq_true, true_implies, not_true_eq_false, true_and, and_true, false_and, and_false, imp_self]
    rw [← ht0, hR0.1.2.1]
    unfold f_child at h
    have d01 : ¬ d < 0 → d ≤ 1 → d = 0 ∨ d = 1 := by
      intro q1 q2
      obtain ⟨d', hd1, rfl⟩ := nI_of q1
      rw [n_1, q_le (by omega) (by omega)] at q2
      rcases (by omega : d' = 0 ∨ d' = 1) with z | z
      · exact Or.inl (by rw [z]; rfl)
      · exact Or.inr (by rw [z]; rfl)
    refine ⟨fun q => ?_, fun q => ⟨fun q2 => ?_, fun q2 => ⟨fun q3 => ?_, fun q3 => ?_⟩⟩⟩
    · rw [if_neg (fun z => q z.1)] at h; exact h
    · rw [if_neg (fun z => by rcases z.2 with w | w <;> rw [w] at q2 <;> exact absurd q2 (by decide))] at h; exact h
    · have hd := d01 q2 q3
      rw [if_pos ⟨q, hd⟩] at h
      obtain ⟨g', hg1, hg2, rfl⟩ := iS_of hA q
      rw [q_cl (by omega)] at h
      rcases hd with hd | hd
      · rw [if_pos hd] at h
        subst hd
        exact outer g' 0 hg1 hg2 (by omega) h (a.1 1) 0 _ _ (by omega) (fun j h1 h2 => absurd h2 (by omega))
      · rw [if_neg (by rw [hd]; decide)] at h
        subst hd
        exact outer g' 1 hg1 hg2 (by omega) h (a.1 1) 0 _ _ (by omega) (fun j h1 h2 => absurd h2 (by omega))
    · rw [if_neg (fun z => by rcases z.2 with w | w <;> rw [w] at q3 <;> exact absurd (by decide) q3)] at h; exact h
  · exact h.elim
set_option maxRecDepth 20000 in
theorem ct_M_child (l : Launch) : ak_Ctr l cl_all lay_M y_M_child ws_M_child rm_M_child pt_M_child := by
  refine ak_met (cs := cs_M_child) (reg := rg_M_child) (bl := bl_M_child) (by decide +kernel) rfl (cl_ok _) rfl ok_M_child ?_ vc_M_child
  intro a n b ci h
  match a, h with
  | 0, h =>
    cases h
    exact ak_ccV (ct_M_isSegment l) rfl 408 409 10 25 410 (by decide +kernel) ⟨rfl, rfl⟩ (by decide +kernel) (by decide +kernel)
  | 1, h =>
    cases h
    exact ak_ccV (ct_M_isChild l) rfl 439 440 15 25 441 (by decide +kernel) ⟨rfl, rfl⟩ (by decide +kernel) (by decide +kernel)
  | 2, h =>
    cases h
    exact ak_ccV (ct_M_isAhead l) rfl 442 443 16 25 444 (by decide +kernel) ⟨rfl, rfl⟩ (by decide +kernel) (by decide +kernel)
  | k + 3, h => cases h
def pt_M_entry : ak_P := fun vs t Q => match vs with
  | [.ref 0, .int x, .int y] => ∃ a, AI a ∧ RM t a ∧ ∀ t', RM t' a → Q (some (.int (f_entry a x y))) t'
  | _ => False
def cs_M_entry : Nat → ak_P := fun a => match a with
  | 0 => pt_M_isIn
  | _ => pt_M_isAhead
theorem vc_M_entry : ak_VC lay_M cs_M_entry bl_M_entry 6 pt_M_entry := by
  intro vs t Q h
  unfold pt_M_entry at h
  split at h
  · rename_i x y
    obtain ⟨a, hA, hR, h⟩ := h
    have hn := hA.1
    have hR0 := RM_c hR
    refine ⟨Nat.le_of_ble_eq_true rfl, fun J hJ => ?_⟩
    obtain ⟨t0, ht0⟩ : ∃ t0, t0 = ak_p1 t 0 0 0 := ⟨_, rfl⟩
    rw [← ht0] at hR0
    replace h := h t0 hR0
    have outer : ∀ (m : Nat), 1 ≤ m → m ≤ a.1 2 → Q (some (.int (nI (a_ith (a_inB a m) (a_ltB a) (a.1 1) y)))) t0 → ∀ e c (o1 o2 : Option Value), c + e = a.1 1 → (∀ j, 1 ≤ j → j ≤ c → (a_inB a m j && decide (nI (a_rk (a_inB a m) (a_ltB a) (a.1 1) j) = y)) = false) → J 22 [some (.ref 0), some (.int (nI m)), some (.int y), some (.int (nI (c + 1))), o1, o2] [] t0 := by
      intro m hm1 hm2 h e
      induction e with
      | zero =>
        intro c o1 o2 hc hl
        have e : c = a.1 1 := by omega
        subst e
        refine hJ 3 _ _ _ _ ?_
        simp only [Nat.reduceAdd, Nat.reduceLeDiff, Nat.zero_le, true_or, or_true, run_s, e_nop, e_iconst, e_bipush, e_sipush, e_lconst, e_iload, e_iload_n, e_lload, e_lload_n, e_aload, e_aload_n, e_istore, e_istore_n, e_iinc, e_iadd, e_isub, e_imul, e_lcmp, e_dupI, e_dupR, e_dup2, e_getfield, e_putfield, e_iaload, e_baload, e_laload, e_iastore, e_bastore, e_lastore, e_if, e_icmp, e_goto, e_tsw, e_ireturn0, e_ireturn1, e_return, e_call0, e_call1, e_call2, e_call3, lI_e, lL_e, lR_e, ak_nth, ak_set, ak_ok1, ak_jp, ak_b1, ak_b2, ak_sw, ak_la, ak_pad, true_and, and_true, List.map_cons, List.map_nil, List.sum_cons, List.sum_nil, Value.category, Option.toList_some, Option.toList_none, List.cons_append, List.nil_append, gM_0_0, pM_0_0, gM_0_1, pM_0_1, gM_0_2, pM_0_2, gM_0_3, pM_0_3, gM_0_4, gM_0_5, gM_0_6, gM_0_7, gM_0_8, gM_0_9, gM_0_10, gM_0_11, gM_0_12, gM_0_13, gM_0_14, gM_0_15, gM_0_16, rM_0, kM_1, kM_2, kM_3, kM_4, kM_5, kM_6, kM_7, kM_8, kM_9, kM_10, kM_11, kM_12, kM_13, fd_M_entry_0, fd_M_entry_18, fd_M_entry_20, fd_M_entry_22, fd_M_entry_42, fd_M_entry_48, fd_M_entry_84, fd_M_entry_85, fd_M_entry_94, fd_M_entry_102, fd_M_entry_108, bk_M_entry_0, bk_M_entry_18, bk_M_entry_20, bk_M_entry_22, bk_M_entry_42, bk_M_entry_48, bk_M_entry_84, bk_M_entry_85, bk_M_entry_94, bk_M_entry_102, bk_M_entry_108, cs_M_entry]
        rw [hR0.1.2.1, q_lt (by omega) (by omega)]
        refine ⟨fun _ => ?_, fun q => absurd (by omega) q⟩
        rw [a_ith, fd_0 hl] at h
        exact h
      | succ e ih =>
        intro c o1 o2 hc hl
        have next : (a_inB a m (c + 1) && decide (nI (a_rk (a_inB a m) (a_ltB a) (a.1 1) (c + 1)) = y)) = false → ∀ o1 o2 : Option Value, J 22 [some (.ref 0), some (.int (nI m)), some (.int y), some (.int (nI (c + 1 + 1))), o1, o2] [] t0 := fun z o1 o2 => ih (c + 1) o1 o2 (by omega) (fun j j1 j2 => by
          by_cases w : j = c + 1
          · rw [w]; exact z
          · exact hl j j1 (by omega))
        have inner : a_inB a m (c + 1) = true → ∀ e2 k, k + e2 = a.1 1 → J 48 [some (.ref 0), some (.int (nI m)), some (.int y), some (.int (nI (c + 1))), some (.int (nI (cn (fun q => a_inB a m q && a_ltB a q (c + 1)) k))), some (.int (nI (k + 1)))] [] t0 := by
          intro hch e2
          induction e2 with
          | zero =>
            intro k hk
            have e : k = a.1 1 := by omega
            subst e
            refine hJ 4 _ _ _ _ ?_
            simp only [Nat.reduceAdd, Nat.reduceLeDiff, Nat.zero_le, true_or, or_true, run_s, e_nop, e_iconst, e_bipush, e_sipush, e_lconst, e_iload, e_iload_n, e_lload, e_lload_n, e_aload, e_aload_n, e_istore, e_istore_n, e_iinc, e_iadd, e_isub, e_imul, e_lcmp, e_dupI, e_dupR, e_dup2, e_getfield, e_putfield, e_iaload, e_baload, e_laload, e_iastore, e_bastore, e_lastore, e_if, e_icmp, e_goto, e_tsw, e_ireturn0, e_ireturn1, e_return, e_call0, e_call1, e_call2, e_call3, lI_e, lL_e, lR_e, ak_nth, ak_set, ak_ok1, ak_jp, ak_b1, ak_b2, ak_sw, ak_la, ak_pad, true_and, and_true, List.map_cons, List.map_nil, List.sum_cons, List.sum_nil, Value.category, Option.toList_some, Option.toList_none, List.cons_append, List.nil_append, gM_0_0, pM_0_0, gM_0_1, pM_0_1, gM_0_2, pM_0_2, gM_0_3, pM_0_3, gM_0_4, gM_0_5, gM_0_6, gM_0_7, gM_0_8, gM_0_9, gM_0_10, gM_0_11, gM_0_12, gM_0_13, gM_0_14, gM_0_15, gM_0_16, rM_0, kM_1, kM_2, kM_3, kM_4, kM_5, kM_6, kM_7, kM_8, kM_9, kM_10, kM_11, kM_12, kM_13, fd_M_entry_0, fd_M_entry_18, fd_M_entry_20, fd_M_entry_22, fd_M_entry_42, fd_M_entry_48, fd_M_entry_84, fd_M_entry_85, fd_M_entry_94, fd_M_entry_102, fd_M_entry_108, bk_M_entry_0, bk_M_entry_18, bk_M_entry_20, bk_M_entry_22, bk_M_entry_42, bk_M_entry_48, bk_M_entry_84, bk_M_entry_85, bk_M_entry_94, bk_M_entry_102, bk_M_entry_108, cs_M_entry, nI_1]
            rw [hR0.1.2.1, q_lt (by omega) (by omega)]
            refine ⟨fun _ => ⟨fun q => next ?_ _ _, fun q => ?_⟩, fun q => absurd (by omega) q⟩
            · rw [hch]
              unfold a_rk
              simp [q]
            · have hp : (a_inB a m (c + 1) && decide (nI (a_rk (a_inB a m) (a_ltB a) (a.1 1) (c + 1)) = y)) = true := by
                rw [hch]
                unfold a_rk
                simp [q]
              rw [a_ith, fd_min (c := c) (by omega) hp hl] at h
              exact h
          | succ e2 ih2 =>
            intro k hk
            have hh := ih2 (k + 1) (by omega)
            have e0 : ∀ z : Nat, nI z + 0 = nI z := fun z => by rw [n_0, nI_add]; rfl
            refine hJ 5 _ _ _ _ ?_
            simp only [Nat.reduceAdd, Nat.reduceLeDiff, Nat.zero_le, true_or, or_true, run_s, e_nop, e_iconst, e_bipush, e_sipush, e_lconst, e_iload, e_iload_n, e_lload, e_lload_n, e_aload, e_aload_n, e_istore, e_istore_n, e_iinc, e_iadd, e_isub, e_imul, e_lcmp, e_dupI, e_dupR, e_dup2, e_getfield, e_putfield, e_iaload, e_baload, e_laload, e_iastore, e_bastore, e_lastore, e_if, e_icmp, e_goto, e_tsw, e_ireturn0, e_ireturn1, e_return, e_call0, e_call1, e_call2, e_call3, lI_e, lL_e, lR_e, ak_nth, ak_set, ak_ok1, ak_jp, ak_b1, ak_b2, ak_sw, ak_la, ak_pad, true_and, and_true, List.map_cons, List.map_nil, List.sum_cons, List.sum_nil, Value.category, Option.toList_some, Option.toList_none, List.cons_append, List.nil_append, gM_0_0, pM_0_0, gM_0_1, pM_0_1, gM_0_2, pM_0_2, gM_0_3, pM_0_3, gM_0_4, gM_0_5, gM_0_6, gM_0_7, gM_0_8, gM_0_9, gM_0_10, gM_0_11, gM_0_12, gM_0_13, gM_0_14, gM_0_15, gM_0_16, rM_0, kM_1, kM_2, kM_3, kM_4, kM_5, kM_6, kM_7, kM_8, kM_9, kM_10, kM_11, kM_12, kM_13, fd_M_entry_0, fd_M_entry_18, fd_M_entry_20, fd_M_entry_22, fd_M_entry_42, fd_M_entry_48, fd_M_entry_84, fd_M_entry_85, fd_M_entry_94, fd_M_entry_102, fd_M_entry_108, bk_M_entry_0, bk_M_entry_18, bk_M_entry_20, bk_M_entry_22, bk_M_entry_42, bk_M_entry_48, bk_M_entry_84, bk_M_entry_85, bk_M_entry_94, bk_M_entry_102, bk_M_entry_108, cs_M_entry, pt_M_isIn, pt_M_isAhead, nI_1]
            simp only [bt0, Classical.not_not, i10, false_implies, not_false_eq_true, true_implies, not_true_eq_false, true_and, and_true, false_and, and_false, imp_self]
            simp only [e0]
            rw [hR0.1.2.1, q_lt (by omega) (by omega)]
            refine ⟨fun q => absurd q (by omega), fun _ => ⟨a, m, k + 1, hA, hR0, rfl, rfl, hm1, hm2, by omega, by omega, fun q => ⟨a, k + 1, c + 1, 1, hA, hR0, rfl, rfl, rfl, by omega, by omega, by omega, fun q2 => ?_, fun q2 => ?_⟩, fun q => ?_⟩⟩
            · have q3 : a_ltB a (k + 1) (c + 1) = true := q2
              simpa [cn, q, q3] using hh
            · have q3 : a_ltB a (k + 1) (c + 1) = false := q2
              simpa [cn, q, q3] using hh
            · simpa [cn, q] using hh
        refine hJ 4 _ _ _ _ ?_
        simp only [Nat.reduceAdd, Nat.reduceLeDiff, Nat.zero_le, true_or, or_true, run_s, e_nop, e_iconst, e_bipush, e_sipush, e_lconst, e_iload, e_iload_n, e_lload, e_lload_n, e_aload, e_aload_n, e_istore, e_istore_n, e_iinc, e_iadd, e_isub, e_imul, e_lcmp, e_dupI, e_dupR, e_dup2, e_getfield, e_putfield, e_iaload, e_baload, e_laload, e_iastore, e_bastore, e_lastore, e_if, e_icmp, e_goto, e_tsw, e_ireturn0, e_ireturn1, e_return, e_call0, e_call1, e_call2, e_call3, lI_e, lL_e, lR_e, ak_nth, ak_set, ak_ok1, ak_jp, ak_b1, ak_b2, ak_sw, ak_la, ak_pad, true_and, and_true, List.map_cons, List.map_nil, List.sum_cons, List.sum_nil, Value.category, Option.toList_some, Option.toList_none, List.cons_append, List.nil_append, gM_0_0, pM_0_0, gM_0_1, pM_0_1, gM_0_2, pM_0_2, gM_0_3, pM_0_3, gM_0_4, gM_0_5, gM_0_6, gM_0_7, gM_0_8, gM_0_9, gM_0_10, gM_0_11, gM_0_12, gM_0_13, gM_0_14, gM_0_15, gM_0_16, rM_0, kM_1, kM_2, kM_3, kM_4, kM_5, kM_6, kM_7, kM_8, kM_9, kM_10, kM_11, kM_12, kM_13, fd_M_entry_0, fd_M_entry_18, fd_M_entry_20, fd_M_entry_22, fd_M_entry_42, fd_M_entry_48, fd_M_entry_84, fd_M_entry_85, fd_M_entry_94, fd_M_entry_102, fd_M_entry_108, bk_M_entry_0, bk_M_entry_18, bk_M_entry_20, bk_M_entry_22, bk_M_entry_42, bk_M_entry_48, bk_M_entry_84, bk_M_entry_85, bk_M_entry_94, bk_M_entry_102, bk_M_entry_108, cs_M_entry, pt_M_isIn, nI_1]
        simp only [bt0, Classical.not_not, i10, false_implies, not_false_eq_true, true_implies, not_true_eq_false, true_and, and_true, false_and, and_false, imp_self]
        rw [hR0.1.2.1, q_lt (by omega) (by omega)]
        refine ⟨fun q => absurd q (by omega), fun _ => ⟨a, m, c + 1, hA, hR0, rfl, rfl, hm1, hm2, by omega, by omega, fun q => ?_, fun q => next (by rw [q]; rfl) _ _⟩⟩
        exact inner q (a.1 1) 0 (by omega)
    refine hJ 6 _ _ _ _ ?_
    simp only [Nat.reduceAdd, Nat.reduceLeDiff, Nat.zero_le, true_or, or_true, run_s, e_nop, e_iconst, e_bipush, e_sipush, e_lconst, e_iload, e_iload_n, e_lload, e_lload_n, e_aload, e_aload_n, e_istore, e_istore_n, e_iinc, e_iadd, e_isub, e_imul, e_lcmp, e_dupI, e_dupR, e_dup2, e_getfield, e_putfield, e_iaload, e_baload, e_laload, e_iastore, e_bastore, e_lastore, e_if, e_icmp, e_goto, e_tsw, e_ireturn0, e_ireturn1, e_return, e_call0, e_call1, e_call2, e_call3, lI_e, lL_e, lR_e, ak_nth, ak_set, ak_ok1, ak_jp, ak_b1, ak_b2, ak_sw, ak_la, ak_pad, true_and, and_true, List.map_cons, List.map_nil, List.sum_cons, List.sum_nil, Value.category, Option.toList_some, Option.toList_none, List.cons_append, List.nil_append, gM_0_0, pM_0_0, gM_0_1, pM_0_1, gM_0_2, pM_0_2, gM_0_3, pM_0_3, gM_0_4, gM_0_5, gM_0_6, gM_0_7, gM_0_8, gM_0_9, gM_0_10, gM_0_11, gM_0_12, gM_0_13, gM_0_14, gM_0_15, gM_0_16, rM_0, kM_1, kM_2, kM_3, kM_4, kM_5, kM_6, kM_7, kM_8, kM_9, kM_10, kM_11, kM_12, kM_13, fd_M_entry_0, fd_M_entry_18, fd_M_entry_20, fd_M_entry_22, fd_M_entry_42, fd_M_entry_48, fd_M_entry_84, fd_M_entry_85, fd_M_entry_94, fd_M_entry_102, fd_M_entry_108, bk_M_entry_0, bk_M_entry_18, bk_M_entry_20, bk_M_entry_22, bk_M_entry_42, bk_M_entry_48, bk_M_entry_84, bk_M_entry_85, bk_M_entry_94, bk_M_entry_102, bk_M_entry_108, cs_M_entry]
    rw [← ht0, hR0.1.2.2]
    unfold f_entry at h
    refine ⟨fun q => ?_, fun q => ⟨fun q2 => ?_, fun q2 => ?_⟩⟩
    · rw [if_neg (fun z => by have := z.1; grind)] at h; exact h
    · have hX : iX a x := ⟨by grind, q2⟩
      rw [if_pos hX] at h
      obtain ⟨m, hm1, hm2, rfl⟩ := iX_of hA hX
      rw [q_cl (by omega)] at h
      exact outer m hm1 hm2 h (a.1 1) 0 _ _ (by omega) (fun j h1 h2 => absurd h2 (by omega))
    · rw [if_neg (fun z => q2 z.2)] at h; exact h
  · exact h.elim
set_option maxRecDepth 20000 in
theorem ct_M_entry (l : Launch) : ak_Ctr l cl_all lay_M y_M_entry ws_M_entry rm_M_entry pt_M_entry := by
  refine ak_met (cs := cs_M_entry) (reg := rg_M_entry) (bl := bl_M_entry) (by decide +kernel) rfl (cl_ok _) rfl ok_M_entry ?_ vc_M_entry
  intro a n b ci h
  match a, h with
  | 0, h =>
    cases h
    exact ak_ccV (ct_M_isIn l) rfl 457 458 17 25 459 (by decide +kernel) ⟨rfl, rfl⟩ (by decide +kernel) (by decide +kernel)
  | 1, h =>
    cases h
    exact ak_ccV (ct_M_isAhead l) rfl 442 443 16 25 444 (by decide +kernel) ⟨rfl, rfl⟩ (by decide +kernel) (by decide +kernel)
  | k + 2, h => cases h
