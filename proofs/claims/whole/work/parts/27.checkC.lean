/-! the class's check, broken, told -/
def sm (f : Nat → Nat) : Nat → Nat
  | 0 => 0
  | n + 1 => sm f n + f (n + 1)
theorem sm_congr {f g : Nat → Nat} : ∀ {n : Nat}, (∀ j, 1 ≤ j → j ≤ n → f j = g j) → sm f n = sm g n
  | 0, _ => rfl
  | n + 1, h => by rw [sm, sm, sm_congr (n := n) (fun j h1 h2 => h j h1 (by omega)), h (n + 1) (by omega) (by omega)]
theorem sm_le {f : Nat → Nat} {c : Nat} (h : ∀ j, f j ≤ c) : ∀ n, sm f n ≤ c * n
  | 0 => by simp [sm]
  | n + 1 => by
    have h1 := sm_le h n
    have h2 := h (n + 1)
    rw [sm, Nat.mul_succ]
    omega
/-- how many pointers of a segment don't say what is true -/
def a_wr (a : ab_T) (i : Nat) : Nat := if a.2.1 5 i = 0 then 0 else cn (fun p => decide (¬ a.2.2.2 (3 * i + (p - 1)) = nI (a_tr a i (p - 1)))) 3
theorem a_wr_le (a : ab_T) (i : Nat) : a_wr a i ≤ 3 := by
  unfold a_wr
  split
  · omega
  · exact cn_le _ 3
theorem wrC {s : ak_S} {a : ab_T} {i : Nat} (hA : AI a) (hR : RC s a) (h1 : 1 ≤ i) (h2 : i ≤ a.1 1) : (if s.1 11 i = 0 then 0 else cn (fun p => decide (¬ s.1 14 (3 * i + (p - 1)) = c_tr s i (p - 1))) 3) = a_wr a i := by
  have hn := hA.1
  have e := (hR.2.2.1 i (by omega)).2.2.2.1
  have eb := (hA.2.2.1 i (by omega)).2.2.1
  unfold a_wr
  have e0 : s.1 11 i = 0 ↔ a.2.1 5 i = 0 := by
    rw [e, n_0]
    exact nI_eq (by omega) (by omega)
  by_cases z : a.2.1 5 i = 0
  · rw [if_pos z, if_pos (e0.mpr z)]
  · rw [if_neg z, if_neg (fun y => z (e0.mp y))]
    refine cn_congr (fun p p1 p2 => ?_)
    rw [hR.2.2.2.2.1 i (p - 1) h1 h2 z (by omega), RCx_tr (RC_to hR (fun _ => False)) h1 (by omega)]
def f_check (a : ab_T) : Int32 := nI (sm (a_wr a) (a.1 1))
def pt_L_check : ak_P := fun vs s Q => match vs with
  | [.ref 0] => ∃ a, AI a ∧ RC s a ∧ Q (some (.int (f_check a))) s
  | _ => False
def cs_L_check : Nat → ak_P := fun a => match a with
  | _ => pt_S_wrongPointers
theorem vc_L_check : ak_VC lay_C cs_L_check bl_L_check 3 pt_L_check := by
  intro vs s Q h
  unfold pt_L_check at h
  split at h
  · obtain ⟨a, hA, hR, h⟩ := h
    have hn := hA.1
    refine ⟨Nat.le_of_ble_eq_true rfl, fun J hJ => ?_⟩
    have loop : ∀ d i, i + d = a.1 1 → J 4 [some (.ref 0), some (.int (nI (sm (a_wr a) i))), some (.int (nI (i + 1)))] [] s := by
      intro d
      induction d with
      | zero =>
        intro i hi
        refine hJ 3 _ _ _ _ ?_
        simp only [Nat.reduceAdd, Nat.reduceLeDiff, Nat.zero_le, true_or, or_true, run_s, e_nop, e_iconst, e_bipush, e_sipush, e_lconst, e_iload, e_iload_n, e_lload, e_lload_n, e_aload, e_aload_n, e_istore, e_istore_n, e_iinc, e_iadd, e_isub, e_imul, e_lcmp, e_dupI, e_dupR, e_dup2, e_getfield, e_putfield, e_iaload, e_baload, e_laload, e_iastore, e_bastore, e_lastore, e_if, e_icmp, e_goto, e_tsw, e_ireturn0, e_ireturn1, e_return, e_call0, e_call1, e_call2, e_call3, lI_e, lL_e, lR_e, ak_nth, ak_set, ak_ok1, ak_jp, ak_b1, ak_b2, ak_sw, ak_la, ak_pad, true_and, and_true, List.map_cons, List.map_nil, List.sum_cons, List.sum_nil, Value.category, Option.toList_some, Option.toList_none, List.cons_append, List.nil_append, gC_0_0, gC_0_1, gC_0_2, gC_0_3, rC_0, gC_1_0, pC_1_0, gC_1_1, gC_1_2, gC_1_3, rC_1, gC_2_0, pC_2_0, gC_2_1, gC_2_2, gC_2_3, gC_2_4, gC_2_5, gC_2_6, gC_2_7, gC_2_8, rC_2, gC_3_0, pC_3_0, gC_3_1, gC_3_2, rC_3, gC_4_0, gC_4_1, gC_4_2, gC_4_3, gC_4_4, pC_4_4, rC_4, kC_5, kC_6, kC_7, kC_8, kC_9, kC_10, kC_11, kC_12, kC_13, kC_14, kC_15, kC_16, kC_17, kC_18, kC_19, fd_L_check_0, fd_L_check_4, fd_L_check_32, bk_L_check_0, bk_L_check_4, bk_L_check_32, cs_L_check, pt_S_wrongPointers]
        rw [hR.1.2.1, q_lt (by omega) (by omega)]
        refine ⟨fun _ => ?_, fun q => absurd (by omega) q⟩
        have e : i = a.1 1 := by omega
        rw [e]
        exact h
      | succ d ih =>
        intro i hi
        refine hJ 3 _ _ _ _ ?_
        simp only [Nat.reduceAdd, Nat.reduceLeDiff, Nat.zero_le, true_or, or_true, run_s, e_nop, e_iconst, e_bipush, e_sipush, e_lconst, e_iload, e_iload_n, e_lload, e_lload_n, e_aload, e_aload_n, e_istore, e_istore_n, e_iinc, e_iadd, e_isub, e_imul, e_lcmp, e_dupI, e_dupR, e_dup2, e_getfield, e_putfield, e_iaload, e_baload, e_laload, e_iastore, e_bastore, e_lastore, e_if, e_icmp, e_goto, e_tsw, e_ireturn0, e_ireturn1, e_return, e_call0, e_call1, e_call2, e_call3, lI_e, lL_e, lR_e, ak_nth, ak_set, ak_ok1, ak_jp, ak_b1, ak_b2, ak_sw, ak_la, ak_pad, true_and, and_true, List.map_cons, List.map_nil, List.sum_cons, List.sum_nil, Value.category, Option.toList_some, Option.toList_none, List.cons_append, List.nil_append, gC_0_0, gC_0_1, gC_0_2, gC_0_3, rC_0, gC_1_0, pC_1_0, gC_1_1, gC_1_2, gC_1_3, rC_1, gC_2_0, pC_2_0, gC_2_1, gC_2_2, gC_2_3, gC_2_4, gC_2_5, gC_2_6, gC_2_7, gC_2_8, rC_2, gC_3_0, pC_3_0, gC_3_1, gC_3_2, rC_3, gC_4_0, gC_4_1, gC_4_2, gC_4_3, gC_4_4, pC_4_4, rC_4, kC_5, kC_6, kC_7, kC_8, kC_9, kC_10, kC_11, kC_12, kC_13, kC_14, kC_15, kC_16, kC_17, kC_18, kC_19, fd_L_check_0, fd_L_check_4, fd_L_check_32, bk_L_check_0, bk_L_check_4, bk_L_check_32, cs_L_check, pt_S_wrongPointers, nI_1]
        rw [hR.1.2.1, q_lt (by omega) (by omega)]
        refine ⟨fun q => absurd q (by omega), fun _ => ⟨i + 1, by omega, rfl, ?_⟩⟩
        rw [wrC hA hR (by omega) (by omega), nI_add]
        exact ih (i + 1) (by omega)
    refine hJ 3 _ _ _ _ ?_
    simp only [Nat.reduceAdd, Nat.reduceLeDiff, Nat.zero_le, true_or, or_true, run_s, e_nop, e_iconst, e_bipush, e_sipush, e_lconst, e_iload, e_iload_n, e_lload, e_lload_n, e_aload, e_aload_n, e_istore, e_istore_n, e_iinc, e_iadd, e_isub, e_imul, e_lcmp, e_dupI, e_dupR, e_dup2, e_getfield, e_putfield, e_iaload, e_baload, e_laload, e_iastore, e_bastore, e_lastore, e_if, e_icmp, e_goto, e_tsw, e_ireturn0, e_ireturn1, e_return, e_call0, e_call1, e_call2, e_call3, lI_e, lL_e, lR_e, ak_nth, ak_set, ak_ok1, ak_jp, ak_b1, ak_b2, ak_sw, ak_la, ak_pad, true_and, and_true, List.map_cons, List.map_nil, List.sum_cons, List.sum_nil, Value.category, Option.toList_some, Option.toList_none, List.cons_append, List.nil_append, gC_0_0, gC_0_1, gC_0_2, gC_0_3, rC_0, gC_1_0, pC_1_0, gC_1_1, gC_1_2, gC_1_3, rC_1, gC_2_0, pC_2_0, gC_2_1, gC_2_2, gC_2_3, gC_2_4, gC_2_5, gC_2_6, gC_2_7, gC_2_8, rC_2, gC_3_0, pC_3_0, gC_3_1, gC_3_2, rC_3, gC_4_0, gC_4_1, gC_4_2, gC_4_3, gC_4_4, pC_4_4, rC_4, kC_5, kC_6, kC_7, kC_8, kC_9, kC_10, kC_11, kC_12, kC_13, kC_14, kC_15, kC_16, kC_17, kC_18, kC_19, fd_L_check_0, fd_L_check_4, fd_L_check_32, bk_L_check_0, bk_L_check_4, bk_L_check_32, cs_L_check]
    exact loop (a.1 1) 0 (by omega)
  · exact h.elim
set_option maxRecDepth 20000 in
theorem ct_L_check (l : Launch) : ak_Ctr l cl_all lay_C y_L_check ws_L_check rm_L_check pt_L_check := by
  refine ak_met (cs := cs_L_check) (reg := rg_L_check) (bl := bl_L_check) (by decide +kernel) rfl (cl_ok _) rfl ok_L_check ?_ vc_L_check
  intro a n b ci h
  match a, h with
  | 0, h =>
    cases h
    exact ak_ccV (ct_S_wrongPointers l) rfl 312 313 314 22 315 (by decide +kernel) ⟨rfl, rfl⟩ (by decide +kernel) (by decide +kernel)
  | k + 1, h => cases h
/-- the first n with i below f's sum up to it -/
def bk_f (f : Nat → Nat) (i : Nat) : Nat → Nat
  | 0 => 0
  | n + 1 => if bk_f f i n ≠ 0 then bk_f f i n else if i < sm f (n + 1) then n + 1 else 0
theorem bk_f_0 {f : Nat → Nat} {i : Nat} : ∀ {n : Nat}, sm f n ≤ i → bk_f f i n = 0
  | 0, _ => rfl
  | n + 1, h => by
    have h2 : sm f n ≤ i := by rw [sm] at h; omega
    rw [bk_f, bk_f_0 h2, if_neg (fun z => z rfl), if_neg (by omega)]
theorem bk_f_at {f : Nat → Nat} {i k : Nat} (h1 : sm f k ≤ i) (h2 : i < sm f (k + 1)) : ∀ {n : Nat}, k + 1 ≤ n → bk_f f i n = k + 1
  | 0, h => by omega
  | n + 1, h => by
    rw [bk_f]
    by_cases e : k = n
    · subst e
      rw [bk_f_0 h1, if_neg (fun z => z rfl), if_pos h2]
    · rw [bk_f_at h1 h2 (n := n) (by omega), if_pos (by omega)]
def f_broken (a : ab_T) (x : Int32) : Int32 := if x < 0 then 0 else nI (bk_f (a_wr a) x.toNatClampNeg (a.1 1))
def pt_L_broken : ak_P := fun vs s Q => match vs with
  | [.ref 0, .int x] => ∃ a, AI a ∧ RC s a ∧ Q (some (.int (f_broken a x))) s
  | _ => False
def cs_L_broken : Nat → ak_P := fun a => match a with
  | _ => pt_S_wrongPointers
theorem vc_L_broken : ak_VC lay_C cs_L_broken bl_L_broken 4 pt_L_broken := by
  intro vs s Q h
  unfold pt_L_broken at h
  split at h
  · rename_i x
    obtain ⟨a, hA, hR, h⟩ := h
    have hn := hA.1
    unfold f_broken at h
    refine ⟨Nat.le_of_ble_eq_true rfl, fun J hJ => ?_⟩
    by_cases hx : x < 0
    · rw [if_pos hx] at h
      refine hJ 3 _ _ _ _ ?_
      simp only [Nat.reduceAdd, Nat.reduceLeDiff, Nat.zero_le, true_or, or_true, run_s, e_nop, e_iconst, e_bipush, e_sipush, e_lconst, e_iload, e_iload_n, e_lload, e_lload_n, e_aload, e_aload_n, e_istore, e_istore_n, e_iinc, e_iadd, e_isub, e_imul, e_lcmp, e_dupI, e_dupR, e_dup2, e_getfield, e_putfield, e_iaload, e_baload, e_laload, e_iastore, e_bastore, e_lastore, e_if, e_icmp, e_goto, e_tsw, e_ireturn0, e_ireturn1, e_return, e_call0, e_call1, e_call2, e_call3, lI_e, lL_e, lR_e, ak_nth, ak_set, ak_ok1, ak_jp, ak_b1, ak_b2, ak_sw, ak_la, ak_pad, true_and, and_true, List.map_cons, List.map_nil, List.sum_cons, List.sum_nil, Value.category, Option.toList_some, Option.toList_none, List.cons_append, List.nil_append, gC_0_0, gC_0_1, gC_0_2, gC_0_3, rC_0, gC_1_0, pC_1_0, gC_1_1, gC_1_2, gC_1_3, rC_1, gC_2_0, pC_2_0, gC_2_1, gC_2_2, gC_2_3, gC_2_4, gC_2_5, gC_2_6, gC_2_7, gC_2_8, rC_2, gC_3_0, pC_3_0, gC_3_1, gC_3_2, rC_3, gC_4_0, gC_4_1, gC_4_2, gC_4_3, gC_4_4, pC_4_4, rC_4, kC_5, kC_6, kC_7, kC_8, kC_9, kC_10, kC_11, kC_12, kC_13, kC_14, kC_15, kC_16, kC_17, kC_18, kC_19, fd_L_broken_0, fd_L_broken_6, fd_L_broken_10, fd_L_broken_38, fd_L_broken_44, bk_L_broken_0, bk_L_broken_6, bk_L_broken_10, bk_L_broken_38, bk_L_broken_44, cs_L_broken]
      exact ⟨fun q => absurd hx (Int32.not_lt.mpr q), fun _ => h⟩
    · rw [if_neg hx] at h
      obtain ⟨x', hx1, rfl⟩ := nI_of hx
      rw [q_cl hx1] at h
      have loop : ∀ d i l, i + d = a.1 1 → sm (a_wr a) i + l = x' → J 10 [some (.ref 0), some (.int (nI x')), some (.int (nI l)), some (.int (nI (i + 1)))] [] s := by
        intro d
        induction d with
        | zero =>
          intro i l hi hl
          have e : i = a.1 1 := by omega
          subst e
          refine hJ 3 _ _ _ _ ?_
          simp only [Nat.reduceAdd, Nat.reduceLeDiff, Nat.zero_le, true_or, or_true, run_s, e_nop, e_iconst, e_bipush, e_sipush, e_lconst, e_iload, e_iload_n, e_lload, e_lload_n, e_aload, e_aload_n, e_istore, e_istore_n, e_iinc, e_iadd, e_isub, e_imul, e_lcmp, e_dupI, e_dupR, e_dup2, e_getfield, e_putfield, e_iaload, e_baload, e_laload, e_iastore, e_bastore, e_lastore, e_if, e_icmp, e_goto, e_tsw, e_ireturn0, e_ireturn1, e_return, e_call0, e_call1, e_call2, e_call3, lI_e, lL_e, lR_e, ak_nth, ak_set, ak_ok1, ak_jp, ak_b1, ak_b2, ak_sw, ak_la, ak_pad, true_and, and_true, List.map_cons, List.map_nil, List.sum_cons, List.sum_nil, Value.category, Option.toList_some, Option.toList_none, List.cons_append, List.nil_append, gC_0_0, gC_0_1, gC_0_2, gC_0_3, rC_0, gC_1_0, pC_1_0, gC_1_1, gC_1_2, gC_1_3, rC_1, gC_2_0, pC_2_0, gC_2_1, gC_2_2, gC_2_3, gC_2_4, gC_2_5, gC_2_6, gC_2_7, gC_2_8, rC_2, gC_3_0, pC_3_0, gC_3_1, gC_3_2, rC_3, gC_4_0, gC_4_1, gC_4_2, gC_4_3, gC_4_4, pC_4_4, rC_4, kC_5, kC_6, kC_7, kC_8, kC_9, kC_10, kC_11, kC_12, kC_13, kC_14, kC_15, kC_16, kC_17, kC_18, kC_19, fd_L_broken_0, fd_L_broken_6, fd_L_broken_10, fd_L_broken_38, fd_L_broken_44, bk_L_broken_0, bk_L_broken_6, bk_L_broken_10, bk_L_broken_38, bk_L_broken_44, cs_L_broken, pt_S_wrongPointers]
          rw [hR.1.2.1, q_lt (by omega) (by omega)]
          refine ⟨fun _ => ?_, fun q => absurd (by omega) q⟩
          rw [bk_f_0 (by omega)] at h
          exact h
        | succ d ih =>
          intro i l hi hl
          have hw := a_wr_le a (i + 1)
          refine hJ 3 _ _ _ _ ?_
          simp only [Nat.reduceAdd, Nat.reduceLeDiff, Nat.zero_le, true_or, or_true, run_s, e_nop, e_iconst, e_bipush, e_sipush, e_lconst, e_iload, e_iload_n, e_lload, e_lload_n, e_aload, e_aload_n, e_istore, e_istore_n, e_iinc, e_iadd, e_isub, e_imul, e_lcmp, e_dupI, e_dupR, e_dup2, e_getfield, e_putfield, e_iaload, e_baload, e_laload, e_iastore, e_bastore, e_lastore, e_if, e_icmp, e_goto, e_tsw, e_ireturn0, e_ireturn1, e_return, e_call0, e_call1, e_call2, e_call3, lI_e, lL_e, lR_e, ak_nth, ak_set, ak_ok1, ak_jp, ak_b1, ak_b2, ak_sw, ak_la, ak_pad, true_and, and_true, List.map_cons, List.map_nil, List.sum_cons, List.sum_nil, Value.category, Option.toList_some, Option.toList_none, List.cons_append, List.nil_append, gC_0_0, gC_0_1, gC_0_2, gC_0_3, rC_0, gC_1_0, pC_1_0, gC_1_1, gC_1_2, gC_1_3, rC_1, gC_2_0, pC_2_0, gC_2_1, gC_2_2, gC_2_3, gC_2_4, gC_2_5, gC_2_6, gC_2_7, gC_2_8, rC_2, gC_3_0, pC_3_0, gC_3_1, gC_3_2, rC_3, gC_4_0, gC_4_1, gC_4_2, gC_4_3, gC_4_4, pC_4_4, rC_4, kC_5, kC_6, kC_7, kC_8, kC_9, kC_10, kC_11, kC_12, kC_13, kC_14, kC_15, kC_16, kC_17, kC_18, kC_19, fd_L_broken_0, fd_L_broken_6, fd_L_broken_10, fd_L_broken_38, fd_L_broken_44, bk_L_broken_0, bk_L_broken_6, bk_L_broken_10, bk_L_broken_38, bk_L_broken_44, cs_L_broken, pt_S_wrongPointers, nI_1]
          rw [hR.1.2.1, q_lt (by omega) (by omega)]
          refine ⟨fun q => absurd q (by omega), fun _ => ⟨i + 1, by omega, rfl, ?_⟩⟩
          rw [wrC hA hR (by omega) (by omega)]
          have hsl : sm (a_wr a) (i + 1) = sm (a_wr a) i + a_wr a (i + 1) := rfl
          refine ⟨fun q => ?_, fun q => ?_⟩
          · have hge : a_wr a (i + 1) ≤ l := by
              rcases Nat.lt_or_ge l (a_wr a (i + 1)) with z | z
              · exfalso
                have := pk_sneg (a := l) (b := a_wr a (i + 1)) (by omega) z
                exact absurd this (Int32.not_lt.mpr q)
              · exact z
            rw [pk_sub hge]
            exact ih (i + 1) (l - a_wr a (i + 1)) (by omega) (by omega)
          · have hlt : l < a_wr a (i + 1) := by
              rcases Nat.lt_or_ge l (a_wr a (i + 1)) with z | z
              · exact z
              · exfalso
                rw [pk_sub z] at q
                exact q (nI_pos' (by omega))
            rw [bk_f_at (k := i) (by omega) (by omega) (by omega)] at h
            exact h
      refine hJ 3 _ _ _ _ ?_
      simp only [Nat.reduceAdd, Nat.reduceLeDiff, Nat.zero_le, true_or, or_true, run_s, e_nop, e_iconst, e_bipush, e_sipush, e_lconst, e_iload, e_iload_n, e_lload, e_lload_n, e_aload, e_aload_n, e_istore, e_istore_n, e_iinc, e_iadd, e_isub, e_imul, e_lcmp, e_dupI, e_dupR, e_dup2, e_getfield, e_putfield, e_iaload, e_baload, e_laload, e_iastore, e_bastore, e_lastore, e_if, e_icmp, e_goto, e_tsw, e_ireturn0, e_ireturn1, e_return, e_call0, e_call1, e_call2, e_call3, lI_e, lL_e, lR_e, ak_nth, ak_set, ak_ok1, ak_jp, ak_b1, ak_b2, ak_sw, ak_la, ak_pad, true_and, and_true, List.map_cons, List.map_nil, List.sum_cons, List.sum_nil, Value.category, Option.toList_some, Option.toList_none, List.cons_append, List.nil_append, gC_0_0, gC_0_1, gC_0_2, gC_0_3, rC_0, gC_1_0, pC_1_0, gC_1_1, gC_1_2, gC_1_3, rC_1, gC_2_0, pC_2_0, gC_2_1, gC_2_2, gC_2_3, gC_2_4, gC_2_5, gC_2_6, gC_2_7, gC_2_8, rC_2, gC_3_0, pC_3_0, gC_3_1, gC_3_2, rC_3, gC_4_0, gC_4_1, gC_4_2, gC_4_3, gC_4_4, pC_4_4, rC_4, kC_5, kC_6, kC_7, kC_8, kC_9, kC_10, kC_11, kC_12, kC_13, kC_14, kC_15, kC_16, kC_17, kC_18, kC_19, fd_L_broken_0, fd_L_broken_6, fd_L_broken_10, fd_L_broken_38, fd_L_broken_44, bk_L_broken_0, bk_L_broken_6, bk_L_broken_10, bk_L_broken_38, bk_L_broken_44, cs_L_broken]
      exact ⟨fun _ => loop (a.1 1) 0 x' (by omega) (by simp [sm]), fun q => absurd (Int32.not_lt.mp hx) q⟩
  · exact h.elim
set_option maxRecDepth 20000 in
theorem ct_L_broken (l : Launch) : ak_Ctr l cl_all lay_C y_L_broken ws_L_broken rm_L_broken pt_L_broken := by
  refine ak_met (cs := cs_L_broken) (reg := rg_L_broken) (bl := bl_L_broken) (by decide +kernel) rfl (cl_ok _) rfl ok_L_broken ?_ vc_L_broken
  intro a n b ci h
  match a, h with
  | 0, h =>
    cases h
    exact ak_ccV (ct_S_wrongPointers l) rfl 312 313 314 22 315 (by decide +kernel) ⟨rfl, rfl⟩ (by decide +kernel) (by decide +kernel)
  | k + 1, h => cases h
def f_told (a : ab_T) (w : Int32) : Int32 := if w = 0 then nI (a.1 0) else if w = 1 then nI (a.1 1) else if w = 2 then nI (cn (fun i => decide (a.2.1 5 i = 1)) (a.1 1)) else if w = 3 then nI (cn (fun i => decide (a.2.1 5 i = 2)) (a.1 1)) else if w = 4 then nI (cn (fun i => decide (a.2.1 6 i ≠ 0)) (a.1 1)) else if w = 5 then nI (a.1 2) else -1
def pt_L_told : ak_P := fun vs s Q => match vs with
  | [.ref 0, .int w] => ∃ a, AI a ∧ RC s a ∧ Q (some (.int (f_told a w))) s
  | _ => False
def cs_L_told : Nat → ak_P := fun a => match a with
  | 0 => pt_S_howMany
  | _ => pt_S_relations
theorem vc_L_told : ak_VC lay_C cs_L_told bl_L_told 2 pt_L_told := by
  intro vs s Q h
  unfold pt_L_told at h
  split at h
  · rename_i w
    obtain ⟨a, hA, hR, h⟩ := h
    have hn := hA.1
    refine ⟨Nat.le_of_ble_eq_true rfl, fun J hJ => hJ 4 _ _ _ _ ?_⟩
    simp only [Nat.reduceAdd, Nat.reduceLeDiff, Nat.zero_le, true_or, or_true, run_s, e_nop, e_iconst, e_bipush, e_sipush, e_lconst, e_iload, e_iload_n, e_lload, e_lload_n, e_aload, e_aload_n, e_istore, e_istore_n, e_iinc, e_iadd, e_isub, e_imul, e_lcmp, e_dupI, e_dupR, e_dup2, e_getfield, e_putfield, e_iaload, e_baload, e_laload, e_iastore, e_bastore, e_lastore, e_if, e_icmp, e_goto, e_tsw, e_ireturn0, e_ireturn1, e_return, e_call0, e_call1, e_call2, e_call3, lI_e, lL_e, lR_e, ak_nth, ak_set, ak_ok1, ak_jp, ak_b1, ak_b2, ak_sw, ak_la, ak_pad, true_and, and_true, List.map_cons, List.map_nil, List.sum_cons, List.sum_nil, Value.category, Option.toList_some, Option.toList_none, List.cons_append, List.nil_append, gC_0_0, gC_0_1, gC_0_2, gC_0_3, rC_0, gC_1_0, pC_1_0, gC_1_1, gC_1_2, gC_1_3, rC_1, gC_2_0, pC_2_0, gC_2_1, gC_2_2, gC_2_3, gC_2_4, gC_2_5, gC_2_6, gC_2_7, gC_2_8, rC_2, gC_3_0, pC_3_0, gC_3_1, gC_3_2, rC_3, gC_4_0, gC_4_1, gC_4_2, gC_4_3, gC_4_4, pC_4_4, rC_4, kC_5, kC_6, kC_7, kC_8, kC_9, kC_10, kC_11, kC_12, kC_13, kC_14, kC_15, kC_16, kC_17, kC_18, kC_19, fd_L_told_0, fd_L_told_40, fd_L_told_48, fd_L_told_56, fd_L_told_65, fd_L_told_74, fd_L_told_82, fd_L_told_90, bk_L_told_0, bk_L_told_40, bk_L_told_48, bk_L_told_56, bk_L_told_65, bk_L_told_74, bk_L_told_82, bk_L_told_90, cs_L_told, pt_S_howMany, pt_S_relations]
    rw [hR.1.1, hR.1.2.1, hR.1.2.2]
    unfold f_told at h
    have hst : ∀ w : Nat, w ≤ 2 → cn (fun j => decide (s.1 11 j = nI w)) (a.1 1) = cn (fun i => decide (a.2.1 5 i = w)) (a.1 1) := by
      intro w hw
      refine cn_congr (fun j j1 j2 => ?_)
      have e := (hR.2.2.1 j (by omega)).2.2.2.1
      have eb := (hA.2.2.1 j (by omega)).2.2.1
      rw [e]
      simp only [q_eq (show a.2.1 5 j < 2147483648 by omega) (show w < 2147483648 by omega)]
    have hrl : cn (fun j => decide (¬ s.1 12 j = 0)) (a.1 1) = cn (fun i => decide (a.2.1 6 i ≠ 0)) (a.1 1) := by
      refine cn_congr (fun j j1 j2 => ?_)
      have e := (hR.2.2.1 j (by omega)).2.2.2.2
      have eb := (hA.2.2.1 j (by omega)).2.2.2
      rw [e, n_0]
      simp only [q_eq (show a.2.1 6 j < 2147483648 by omega) (show 0 < 2147483648 by omega), ne_eq]
    refine ⟨fun q => ?_, fun q0 => ⟨fun q => ?_, fun q1 => ⟨fun q => ⟨a.1 1, by omega, rfl, ?_⟩, fun q2 => ⟨fun q => ⟨a.1 1, by omega, rfl, ?_⟩, fun q3 => ⟨fun q => ⟨a.1 1, by omega, rfl, ?_⟩, fun q4 => ⟨fun q => ?_, fun q5 => ?_⟩⟩⟩⟩⟩⟩
    · rw [if_pos q] at h; exact h
    · rw [if_neg q0, if_pos q] at h; exact h
    · rw [if_neg q0, if_neg q1, if_pos q, ← hst 1 (by omega)] at h; exact h
    · rw [if_neg q0, if_neg q1, if_neg q2, if_pos q, ← hst 2 (by omega)] at h; exact h
    · rw [if_neg q0, if_neg q1, if_neg q2, if_neg q3, if_pos q, ← hrl] at h; exact h
    · rw [if_neg q0, if_neg q1, if_neg q2, if_neg q3, if_neg q4, if_pos q] at h; exact h
    · rw [if_neg q0, if_neg q1, if_neg q2, if_neg q3, if_neg q4, if_neg q5] at h; exact h
  · exact h.elim
set_option maxRecDepth 20000 in
theorem ct_L_told (l : Launch) : ak_Ctr l cl_all lay_C y_L_told ws_L_told rm_L_told pt_L_told := by
  refine ak_met (cs := cs_L_told) (reg := rg_L_told) (bl := bl_L_told) (by decide +kernel) rfl (cl_ok _) rfl ok_L_told ?_ vc_L_told
  intro a n b ci h
  match a, h with
  | 0, h =>
    cases h
    exact ak_ccV (ct_S_howMany l) rfl 324 325 326 22 327 (by decide +kernel) ⟨rfl, rfl⟩ (by decide +kernel) (by decide +kernel)
  | 1, h =>
    cases h
    exact ak_ccV (ct_S_relations l) rfl 328 329 330 22 331 (by decide +kernel) ⟨rfl, rfl⟩ (by decide +kernel) (by decide +kernel)
  | k + 2, h => cases h
