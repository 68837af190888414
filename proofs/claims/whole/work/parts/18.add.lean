/-! a new segment; the i-th by keys -/
theorem c_right_o {s : ak_S} {i k j : Nat} (h : k ≠ 14) : (c_right s i).1 k j = s.1 k j := by simp [c_right, p1_o h]
theorem c_right_2 {s : ak_S} {i : Nat} : (c_right s i).2 = s.2 := rfl
theorem c_ins_o {s : ak_S} {m p k j : Nat} {x : Int32} (h : k ≠ 15) : (c_ins s m p x).1 k j = s.1 k j := by rw [c_ins, p1_o h, c_sh_o h]
theorem c_ins_2 {s : ak_S} {m p : Nat} {x : Int32} : (c_ins s m p x).2 = s.2 := rfl
def c_new0 (s : ak_S) (n : Nat) (k u : Int32) (y : Int64) : ak_S := ak_p1 (ak_p2 (ak_p1 (ak_p1 (ak_p1 s 2 0 (nI (n + 1))) 8 (n + 1) k) 9 (n + 1) u) 10 (n + 1) y) 11 (n + 1) 1
def c_new (s : ak_S) (n : Nat) (k u : Int32) (y : Int64) : ak_S := c_right (c_new0 s n k u y) (n + 1)
def pt_S_add : ak_P := fun vs s Q => match vs with
  | [.ref 2, .int k, .int u, .long y] => ∃ n : Nat, n ≤ 250 ∧ s.1 2 0 = nI n ∧ (∀ j, j < n → ∃ e, e ≤ 250 ∧ s.1 15 j = nI e) ∧ (n = 250 → Q (some (.int (-1))) s) ∧
      (n < 250 → ∀ p, p ≤ n → (∀ q, p = q + 1 → ¬ (c_new s n k u y).2 10 (n + 1) < (c_new s n k u y).2 10 (s.1 15 q).toNatClampNeg) → (∀ j, p ≤ j → j < n → (c_new s n k u y).2 10 (n + 1) < (c_new s n k u y).2 10 (s.1 15 j).toNatClampNeg) → Q (some (.int (nI (n + 1)))) (c_ins (c_new s n k u y) n p (nI (n + 1))))
  | _ => False
def cs_S_add : Nat → ak_P := fun a => match a with
  | 0 => pt_S_setRight
  | _ => pt_S_putByKey
theorem vc_S_add : ak_VC lay_C cs_S_add bl_S_add 5 pt_S_add := by
  intro vs s Q h
  unfold pt_S_add at h
  split at h
  · rename_i k u y
    obtain ⟨n, hn, hs, he, h1, h2⟩ := h
    refine ⟨Nat.le_of_ble_eq_true rfl, fun J hJ => hJ 3 _ _ _ _ ?_⟩
    simp only [Nat.reduceAdd, Nat.reduceLeDiff, Nat.zero_le, true_or, or_true, run_s, e_nop, e_iconst, e_bipush, e_sipush, e_lconst, e_iload, e_iload_n, e_lload, e_lload_n, e_aload, e_aload_n, e_istore, e_istore_n, e_iinc, e_iadd, e_isub, e_imul, e_lcmp, e_dupI, e_dupR, e_dup2, e_getfield, e_putfield, e_iaload, e_baload, e_laload, e_iastore, e_bastore, e_lastore, e_if, e_icmp, e_goto, e_tsw, e_ireturn0, e_ireturn1, e_return, e_call0, e_call1, e_call2, e_call3, lI_e, lL_e, lR_e, ak_nth, ak_set, ak_ok1, ak_jp, ak_b1, ak_b2, ak_sw, ak_la, ak_pad, true_and, and_true, List.map_cons, List.map_nil, List.sum_cons, List.sum_nil, Value.category, Option.toList_some, Option.toList_none, List.cons_append, List.nil_append, gC_0_0, gC_0_1, gC_0_2, gC_0_3, rC_0, gC_1_0, pC_1_0, gC_1_1, gC_1_2, gC_1_3, rC_1, gC_2_0, pC_2_0, gC_2_1, gC_2_2, gC_2_3, gC_2_4, gC_2_5, gC_2_6, gC_2_7, gC_2_8, rC_2, gC_3_0, pC_3_0, gC_3_1, gC_3_2, rC_3, gC_4_0, gC_4_1, gC_4_2, gC_4_3, gC_4_4, pC_4_4, rC_4, kC_5, kC_6, kC_7, kC_8, kC_9, kC_10, kC_11, kC_12, kC_13, kC_14, kC_15, kC_16, kC_17, kC_18, kC_19, fd_S_add_0, fd_S_add_12, bk_S_add_0, bk_S_add_12, cs_S_add, p1_s, p1_o, p2_1, if_true, hs, nI_1, ne_eq, Nat.reduceEqDiff, not_false_eq_true, pt_S_setRight, pt_S_putByKey]
    rw [n_250, q_lt (by omega) (by omega), q_cl (by omega)]
    refine ⟨fun hl => ?_, fun hl => h1 (by omega)⟩
    refine ⟨q_in (by omega) (by omega), q_in (by omega) (by omega), q_in (by omega) (by omega), q_in (by omega) (by omega), n + 1, by omega, rfl, n, by omega, ?_, ?_, ?_⟩
    · rw [c_right_o (by decide)]
      simp [p1_s, p1_o, p2_1]
    · intro j hj
      obtain ⟨e, he1, he2⟩ := he j hj
      refine ⟨e, he1, ?_⟩
      rw [c_right_o (by decide)]
      simp [p1_o, p2_1, he2]
    · intro p hp hq hr
      rw [c_ins_o (by decide), c_right_o (by decide)]
      have e15 : ∀ j, (c_right (c_new0 s n k u y) (n + 1)).1 15 j = s.1 15 j := fun j => by
        rw [c_right_o (by decide)]
        simp [c_new0, p1_o, p2_1]
      have := h2 hl p hp (fun q e => ?_) (fun j a b => ?_)
      · simpa [p1_s, p1_o, p2_1, c_new, c_new0] using this
      · have z := hq q e
        rw [show ∀ t, (c_right t (n + 1)).1 15 q = t.1 15 q from fun t => c_right_o (by decide)] at z
        simpa [p1_o, p2_1, c_new, c_new0] using z
      · have z := hr j a b
        rw [show ∀ t, (c_right t (n + 1)).1 15 j = t.1 15 j from fun t => c_right_o (by decide)] at z
        simpa [p1_o, p2_1, c_new, c_new0] using z
  · exact h.elim
set_option maxRecDepth 20000 in
theorem ct_S_add (l : Launch) : ak_Ctr l cl_all lay_C y_S_add ws_S_add rm_S_add pt_S_add := by
  refine ak_met (cs := cs_S_add) (reg := rg_S_add) (bl := bl_S_add) (by decide +kernel) rfl (cl_ok _) rfl ok_S_add ?_ vc_S_add
  intro a n b ci h
  match a, h with
  | 0, h =>
    cases h
    exact ak_ccV (ct_S_setRight l) rfl 204 205 206 22 207 (by decide +kernel) ⟨rfl, rfl⟩ (by decide +kernel) (by decide +kernel)
  | 1, h =>
    cases h
    exact ak_ccV (ct_S_putByKey l) rfl 211 212 2 22 213 (by decide +kernel) ⟨rfl, rfl⟩ (by decide +kernel) (by decide +kernel)
  | k + 2, h => cases h
def c0 (p : Nat → Bool) : Nat → Nat
  | 0 => 0
  | n + 1 => c0 p n + (if p n = true then 1 else 0)
def pt_S_logicalChild : ak_P := fun vs s Q => match vs with
  | [.ref 2, .int g, .int x] => ∃ n i : Nat, n ≤ 250 ∧ s.1 2 0 = nI n ∧ i < 2147483648 ∧ x = nI i ∧ (∀ j, j < n → ∃ e, e ≤ 250 ∧ s.1 15 j = nI e) ∧
      (∀ j, j < n → s.1 12 (s.1 15 j).toNatClampNeg = g → c0 (fun j => decide (s.1 12 (s.1 15 j).toNatClampNeg = g)) j = i → Q (some (.int (s.1 15 j))) s) ∧ (c0 (fun j => decide (s.1 12 (s.1 15 j).toNatClampNeg = g)) n ≤ i → Q (some (.int 0)) s)
  | _ => False
def cs_S_logicalChild : Nat → ak_P := fun _ _ _ _ => False
theorem vc_S_logicalChild : ak_VC lay_C cs_S_logicalChild bl_S_logicalChild 6 pt_S_logicalChild := by
  intro vs s Q h
  unfold pt_S_logicalChild at h
  split at h
  · rename_i g x
    obtain ⟨n, i, hn, hs, hi, rfl, he, hy, hno⟩ := h
    refine ⟨Nat.le_of_ble_eq_true rfl, fun J hJ => ?_⟩
    have loop : ∀ d j l (o : Option Value), j + d = n → c0 (fun j => decide (s.1 12 (s.1 15 j).toNatClampNeg = g)) j + l = i → J 5 [some (.ref 2), some (.int g), some (.int (nI i)), some (.int (nI l)), some (.int (nI j)), o] [] s := by
      intro d
      induction d with
      | zero =>
        intro j l o hj hl
        refine hJ 3 _ _ _ _ ?_
        simp only [Nat.reduceAdd, Nat.reduceLeDiff, Nat.zero_le, true_or, or_true, run_s, e_nop, e_iconst, e_bipush, e_sipush, e_lconst, e_iload, e_iload_n, e_lload, e_lload_n, e_aload, e_aload_n, e_istore, e_istore_n, e_iinc, e_iadd, e_isub, e_imul, e_lcmp, e_dupI, e_dupR, e_dup2, e_getfield, e_putfield, e_iaload, e_baload, e_laload, e_iastore, e_bastore, e_lastore, e_if, e_icmp, e_goto, e_tsw, e_ireturn0, e_ireturn1, e_return, e_call0, e_call1, e_call2, e_call3, lI_e, lL_e, lR_e, ak_nth, ak_set, ak_ok1, ak_jp, ak_b1, ak_b2, ak_sw, ak_la, ak_pad, true_and, and_true, List.map_cons, List.map_nil, List.sum_cons, List.sum_nil, Value.category, Option.toList_some, Option.toList_none, List.cons_append, List.nil_append, gC_0_0, gC_0_1, gC_0_2, gC_0_3, rC_0, gC_1_0, pC_1_0, gC_1_1, gC_1_2, gC_1_3, rC_1, gC_2_0, pC_2_0, gC_2_1, gC_2_2, gC_2_3, gC_2_4, gC_2_5, gC_2_6, gC_2_7, gC_2_8, rC_2, gC_3_0, pC_3_0, gC_3_1, gC_3_2, rC_3, gC_4_0, gC_4_1, gC_4_2, gC_4_3, gC_4_4, pC_4_4, rC_4, kC_5, kC_6, kC_7, kC_8, kC_9, kC_10, kC_11, kC_12, kC_13, kC_14, kC_15, kC_16, kC_17, kC_18, kC_19, fd_S_logicalChild_0, fd_S_logicalChild_5, fd_S_logicalChild_44, fd_S_logicalChild_50, bk_S_logicalChild_0, bk_S_logicalChild_5, bk_S_logicalChild_44, bk_S_logicalChild_50, hs]
        rw [q_le (by omega) (by omega)]
        have e : j = n := by omega
        subst e
        exact ⟨fun _ => hno (by omega), fun q => absurd (by omega) q⟩
      | succ d ih =>
        intro j l o hj hl
        obtain ⟨e, he1, he2⟩ := he j (by omega)
        refine hJ 4 _ _ _ _ ?_
        simp only [Nat.reduceAdd, Nat.reduceLeDiff, Nat.zero_le, true_or, or_true, run_s, e_nop, e_iconst, e_bipush, e_sipush, e_lconst, e_iload, e_iload_n, e_lload, e_lload_n, e_aload, e_aload_n, e_istore, e_istore_n, e_iinc, e_iadd, e_isub, e_imul, e_lcmp, e_dupI, e_dupR, e_dup2, e_getfield, e_putfield, e_iaload, e_baload, e_laload, e_iastore, e_bastore, e_lastore, e_if, e_icmp, e_goto, e_tsw, e_ireturn0, e_ireturn1, e_return, e_call0, e_call1, e_call2, e_call3, lI_e, lL_e, lR_e, ak_nth, ak_set, ak_ok1, ak_jp, ak_b1, ak_b2, ak_sw, ak_la, ak_pad, true_and, and_true, List.map_cons, List.map_nil, List.sum_cons, List.sum_nil, Value.category, Option.toList_some, Option.toList_none, List.cons_append, List.nil_append, gC_0_0, gC_0_1, gC_0_2, gC_0_3, rC_0, gC_1_0, pC_1_0, gC_1_1, gC_1_2, gC_1_3, rC_1, gC_2_0, pC_2_0, gC_2_1, gC_2_2, gC_2_3, gC_2_4, gC_2_5, gC_2_6, gC_2_7, gC_2_8, rC_2, gC_3_0, pC_3_0, gC_3_1, gC_3_2, rC_3, gC_4_0, gC_4_1, gC_4_2, gC_4_3, gC_4_4, pC_4_4, rC_4, kC_5, kC_6, kC_7, kC_8, kC_9, kC_10, kC_11, kC_12, kC_13, kC_14, kC_15, kC_16, kC_17, kC_18, kC_19, fd_S_logicalChild_0, fd_S_logicalChild_5, fd_S_logicalChild_44, fd_S_logicalChild_50, bk_S_logicalChild_0, bk_S_logicalChild_5, bk_S_logicalChild_44, bk_S_logicalChild_50, hs, nI_1]
        rw [q_le (by omega) (by omega), q_cl (by omega), he2, q_cl (by omega)]
        refine ⟨fun q => absurd q (by omega), fun _ => ⟨q_in (by omega) (by omega), q_in (by omega) (by omega), fun q => ?_, fun q => ⟨fun q2 => ?_, fun q2 => ?_⟩⟩⟩
        · refine ih (j + 1) l _ (by omega) ?_
          have hz : c0 (fun j => decide (s.1 12 (s.1 15 j).toNatClampNeg = g)) (j + 1) = c0 (fun j => decide (s.1 12 (s.1 15 j).toNatClampNeg = g)) j := by
            simp only [c0, he2, q_cl (show e < 2147483648 by omega)]
            simp [q]
          omega
        · have hl0 : 0 < l := by
            rcases Nat.eq_zero_or_pos l with z | z
            · subst z; exact absurd rfl q2
            · exact z
          obtain ⟨l', rfl⟩ : ∃ l', l = l' + 1 := ⟨l - 1, by omega⟩
          rw [pk_m1]
          refine ih (j + 1) l' _ (by omega) ?_
          have hz : c0 (fun j => decide (s.1 12 (s.1 15 j).toNatClampNeg = g)) (j + 1) = c0 (fun j => decide (s.1 12 (s.1 15 j).toNatClampNeg = g)) j + 1 := by
            simp only [c0, he2, q_cl (show e < 2147483648 by omega)]
            simp [q]
          omega
        · rw [n_0, q_eq (by omega) (by omega)] at q2
          have := hy j (by omega) (by rw [he2, q_cl (by omega)]; exact q) (by omega)
          rw [he2] at this
          exact this
    refine hJ 3 _ _ _ _ ?_
    simp only [Nat.reduceAdd, Nat.reduceLeDiff, Nat.zero_le, true_or, or_true, run_s, e_nop, e_iconst, e_bipush, e_sipush, e_lconst, e_iload, e_iload_n, e_lload, e_lload_n, e_aload, e_aload_n, e_istore, e_istore_n, e_iinc, e_iadd, e_isub, e_imul, e_lcmp, e_dupI, e_dupR, e_dup2, e_getfield, e_putfield, e_iaload, e_baload, e_laload, e_iastore, e_bastore, e_lastore, e_if, e_icmp, e_goto, e_tsw, e_ireturn0, e_ireturn1, e_return, e_call0, e_call1, e_call2, e_call3, lI_e, lL_e, lR_e, ak_nth, ak_set, ak_ok1, ak_jp, ak_b1, ak_b2, ak_sw, ak_la, ak_pad, true_and, and_true, List.map_cons, List.map_nil, List.sum_cons, List.sum_nil, Value.category, Option.toList_some, Option.toList_none, List.cons_append, List.nil_append, gC_0_0, gC_0_1, gC_0_2, gC_0_3, rC_0, gC_1_0, pC_1_0, gC_1_1, gC_1_2, gC_1_3, rC_1, gC_2_0, pC_2_0, gC_2_1, gC_2_2, gC_2_3, gC_2_4, gC_2_5, gC_2_6, gC_2_7, gC_2_8, rC_2, gC_3_0, pC_3_0, gC_3_1, gC_3_2, rC_3, gC_4_0, gC_4_1, gC_4_2, gC_4_3, gC_4_4, pC_4_4, rC_4, kC_5, kC_6, kC_7, kC_8, kC_9, kC_10, kC_11, kC_12, kC_13, kC_14, kC_15, kC_16, kC_17, kC_18, kC_19, fd_S_logicalChild_0, fd_S_logicalChild_5, fd_S_logicalChild_44, fd_S_logicalChild_50, bk_S_logicalChild_0, bk_S_logicalChild_5, bk_S_logicalChild_44, bk_S_logicalChild_50]
    exact loop n 0 i _ (by omega) (by simp [c0])
  · exact h.elim
set_option maxRecDepth 20000 in
theorem ct_S_logicalChild (l : Launch) : ak_Ctr l cl_all lay_C y_S_logicalChild ws_S_logicalChild rm_S_logicalChild pt_S_logicalChild := by
  refine ak_met (cs := cs_S_logicalChild) (reg := rg_S_logicalChild) (bl := bl_S_logicalChild) (by decide +kernel) rfl (cl_ok _) rfl ok_S_logicalChild ?_ vc_S_logicalChild
  intro a n b ci h
  match a, h with
  | k + 0, h => cases h
