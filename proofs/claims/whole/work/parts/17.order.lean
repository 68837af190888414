/-! the row by keys: the newest is put where it belongs -/
def c_sh (s : ak_S) (m q : Nat) : ak_S := (fun k => if k = 15 then (fun j => if q < j ∧ j ≤ m then s.1 15 (j - 1) else s.1 15 j) else s.1 k, s.2)
def c_ins (s : ak_S) (m p : Nat) (x : Int32) : ak_S := ak_p1 (c_sh s m p) 15 p x
theorem c_sh_m (s : ak_S) (m : Nat) : c_sh s m m = s := by
  have : (fun k => if k = 15 then (fun j => if m < j ∧ j ≤ m then s.1 15 (j - 1) else s.1 15 j) else s.1 k) = s.1 := by
    funext k j
    by_cases hk : k = 15
    · subst hk
      rw [if_pos rfl, if_neg (by omega)]
    · rw [if_neg hk]
  unfold c_sh
  rw [this]
theorem c_sh_o {s : ak_S} {m q k j : Nat} (h : k ≠ 15) : (c_sh s m q).1 k j = s.1 k j := by simp [c_sh, h]
theorem c_sh_in {s : ak_S} {m q j : Nat} (h : j ≤ q) : (c_sh s m q).1 15 j = s.1 15 j := by
  simp only [c_sh, if_true]
  rw [if_neg (by omega)]
theorem c_sh_s {s : ak_S} {m q : Nat} (h : q + 1 ≤ m) : ak_p1 (c_sh s m (q + 1)) 15 (q + 1) (s.1 15 q) = c_sh s m q := by
  apply Prod.ext
  · funext k j
    by_cases hk : k = 15
    · subst hk
      simp only [c_sh, ak_p1, if_true, upd]
      by_cases hj : j = q + 1
      · subst hj
        rw [if_pos rfl, if_pos ⟨by omega, h⟩]
        rfl
      · rw [if_neg hj]
        by_cases hc : q < j ∧ j ≤ m
        · rw [if_pos hc, if_pos ⟨by omega, hc.2⟩]
        · rw [if_neg hc, if_neg (fun z => hc ⟨by omega, z.2⟩)]
    · simp [c_sh, ak_p1, hk]
  · rfl
def pt_S_putByKey : ak_P := fun vs s Q => match vs with
  | [.ref 2, .int x] => ∃ m : Nat, m < 250 ∧ x = nI (m + 1) ∧ (∀ j, j < m → ∃ e, e ≤ 250 ∧ s.1 15 j = nI e) ∧
      ∀ p, p ≤ m → (∀ q, p = q + 1 → ¬ s.2 10 (m + 1) < s.2 10 (s.1 15 q).toNatClampNeg) → (∀ j, p ≤ j → j < m → s.2 10 (m + 1) < s.2 10 (s.1 15 j).toNatClampNeg) → Q none (c_ins s m p (nI (m + 1)))
  | _ => False
def cs_S_putByKey : Nat → ak_P := fun _ _ _ _ => False
theorem vc_S_putByKey : ak_VC lay_C cs_S_putByKey bl_S_putByKey 3 pt_S_putByKey := by
  intro vs s Q h
  unfold pt_S_putByKey at h
  split at h
  · rename_i x
    obtain ⟨m, hm, rfl, he, h⟩ := h
    refine ⟨Nat.le_of_ble_eq_true rfl, fun J hJ => ?_⟩
    have loop : ∀ q, q ≤ m → (∀ j, q ≤ j → j < m → s.2 10 (m + 1) < s.2 10 (s.1 15 j).toNatClampNeg) → J 4 [some (.ref 2), some (.int (nI (m + 1))), some (.int (nI q))] [] (c_sh s m q) := by
      intro q
      induction q with
      | zero =>
        intro hq hj
        refine hJ 3 _ _ _ _ ?_
        simp only [Nat.reduceAdd, Nat.reduceLeDiff, Nat.zero_le, true_or, or_true, run_s, e_nop, e_iconst, e_bipush, e_sipush, e_lconst, e_iload, e_iload_n, e_lload, e_lload_n, e_aload, e_aload_n, e_istore, e_istore_n, e_iinc, e_iadd, e_isub, e_imul, e_lcmp, e_dupI, e_dupR, e_dup2, e_getfield, e_putfield, e_iaload, e_baload, e_laload, e_iastore, e_bastore, e_lastore, e_if, e_icmp, e_goto, e_tsw, e_ireturn0, e_ireturn1, e_return, e_call0, e_call1, e_call2, e_call3, lI_e, lL_e, lR_e, ak_nth, ak_set, ak_ok1, ak_jp, ak_b1, ak_b2, ak_sw, ak_la, ak_pad, true_and, and_true, List.map_cons, List.map_nil, List.sum_cons, List.sum_nil, Value.category, Option.toList_some, Option.toList_none, List.cons_append, List.nil_append, gC_0_0, gC_0_1, gC_0_2, gC_0_3, rC_0, gC_1_0, pC_1_0, gC_1_1, gC_1_2, gC_1_3, rC_1, gC_2_0, pC_2_0, gC_2_1, gC_2_2, gC_2_3, gC_2_4, gC_2_5, gC_2_6, gC_2_7, gC_2_8, rC_2, gC_3_0, pC_3_0, gC_3_1, gC_3_2, rC_3, gC_4_0, gC_4_1, gC_4_2, gC_4_3, gC_4_4, pC_4_4, rC_4, kC_5, kC_6, kC_7, kC_8, kC_9, kC_10, kC_11, kC_12, kC_13, kC_14, kC_15, kC_16, kC_17, kC_18, kC_19, fd_S_putByKey_0, fd_S_putByKey_4, fd_S_putByKey_51, bk_S_putByKey_0, bk_S_putByKey_4, bk_S_putByKey_51]
        refine ⟨fun _ => ⟨q_in (by omega) (by omega), ?_⟩, fun z => absurd (by decide) z⟩
        exact h 0 (by omega) (fun q e => by omega) hj
      | succ q ih =>
        intro hq hj
        obtain ⟨e, he1, he2⟩ := he q (by omega)
        refine hJ 3 _ _ _ _ ?_
        simp only [Nat.reduceAdd, Nat.reduceLeDiff, Nat.zero_le, true_or, or_true, run_s, e_nop, e_iconst, e_bipush, e_sipush, e_lconst, e_iload, e_iload_n, e_lload, e_lload_n, e_aload, e_aload_n, e_istore, e_istore_n, e_iinc, e_iadd, e_isub, e_imul, e_lcmp, e_dupI, e_dupR, e_dup2, e_getfield, e_putfield, e_iaload, e_baload, e_laload, e_iastore, e_bastore, e_lastore, e_if, e_icmp, e_goto, e_tsw, e_ireturn0, e_ireturn1, e_return, e_call0, e_call1, e_call2, e_call3, lI_e, lL_e, lR_e, ak_nth, ak_set, ak_ok1, ak_jp, ak_b1, ak_b2, ak_sw, ak_la, ak_pad, true_and, and_true, List.map_cons, List.map_nil, List.sum_cons, List.sum_nil, Value.category, Option.toList_some, Option.toList_none, List.cons_append, List.nil_append, gC_0_0, gC_0_1, gC_0_2, gC_0_3, rC_0, gC_1_0, pC_1_0, gC_1_1, gC_1_2, gC_1_3, rC_1, gC_2_0, pC_2_0, gC_2_1, gC_2_2, gC_2_3, gC_2_4, gC_2_5, gC_2_6, gC_2_7, gC_2_8, rC_2, gC_3_0, pC_3_0, gC_3_1, gC_3_2, rC_3, gC_4_0, gC_4_1, gC_4_2, gC_4_3, gC_4_4, pC_4_4, rC_4, kC_5, kC_6, kC_7, kC_8, kC_9, kC_10, kC_11, kC_12, kC_13, kC_14, kC_15, kC_16, kC_17, kC_18, kC_19, fd_S_putByKey_0, fd_S_putByKey_4, fd_S_putByKey_51, bk_S_putByKey_0, bk_S_putByKey_4, bk_S_putByKey_51, nI_pred, pk_m1]
        rw [q_cl (by omega), q_cl (by omega), q_cl (by omega), c_sh_in (by omega), he2, q_cl (by omega), n_0, q_le (by omega) (by omega), ← n_0, lg_cmp_le]
        refine ⟨fun z => absurd z (by omega), fun _ => ⟨q_in (by omega) (by omega), q_in (by omega) (by omega), q_in (by omega) (by omega), fun z => ⟨q_in (by omega) (by omega), ?_⟩, fun z => ⟨q_in (by omega) (by omega), q_in (by omega) (by omega), ?_⟩⟩⟩
        · refine h (q + 1) hq (fun q' e' => ?_) hj
          have : q' = q := by omega
          subst this
          rw [he2, q_cl (by omega)]
          exact Int64.not_lt.mpr z
        · have hh := ih (by omega) (fun j h1 h2 => ?_)
          · rw [← c_sh_s (by omega), he2] at hh
            exact hh
          · by_cases ej : j = q
            · subst ej
              rw [he2, q_cl (by omega)]
              exact Int64.not_le.mp z
            · exact hj j (by omega) h2
    refine hJ 3 _ _ _ _ ?_
    simp only [Nat.reduceAdd, Nat.reduceLeDiff, Nat.zero_le, true_or, or_true, run_s, e_nop, e_iconst, e_bipush, e_sipush, e_lconst, e_iload, e_iload_n, e_lload, e_lload_n, e_aload, e_aload_n, e_istore, e_istore_n, e_iinc, e_iadd, e_isub, e_imul, e_lcmp, e_dupI, e_dupR, e_dup2, e_getfield, e_putfield, e_iaload, e_baload, e_laload, e_iastore, e_bastore, e_lastore, e_if, e_icmp, e_goto, e_tsw, e_ireturn0, e_ireturn1, e_return, e_call0, e_call1, e_call2, e_call3, lI_e, lL_e, lR_e, ak_nth, ak_set, ak_ok1, ak_jp, ak_b1, ak_b2, ak_sw, ak_la, ak_pad, true_and, and_true, List.map_cons, List.map_nil, List.sum_cons, List.sum_nil, Value.category, Option.toList_some, Option.toList_none, List.cons_append, List.nil_append, gC_0_0, gC_0_1, gC_0_2, gC_0_3, rC_0, gC_1_0, pC_1_0, gC_1_1, gC_1_2, gC_1_3, rC_1, gC_2_0, pC_2_0, gC_2_1, gC_2_2, gC_2_3, gC_2_4, gC_2_5, gC_2_6, gC_2_7, gC_2_8, rC_2, gC_3_0, pC_3_0, gC_3_1, gC_3_2, rC_3, gC_4_0, gC_4_1, gC_4_2, gC_4_3, gC_4_4, pC_4_4, rC_4, kC_5, kC_6, kC_7, kC_8, kC_9, kC_10, kC_11, kC_12, kC_13, kC_14, kC_15, kC_16, kC_17, kC_18, kC_19, fd_S_putByKey_0, fd_S_putByKey_4, fd_S_putByKey_51, bk_S_putByKey_0, bk_S_putByKey_4, bk_S_putByKey_51, nI_pred]
    have := loop m (Nat.le_refl m) (fun j h1 h2 => by omega)
    rw [c_sh_m] at this
    exact this
  · exact h.elim
set_option maxRecDepth 20000 in
theorem ct_S_putByKey (l : Launch) : ak_Ctr l cl_all lay_C y_S_putByKey ws_S_putByKey rm_S_putByKey pt_S_putByKey := by
  refine ak_met (cs := cs_S_putByKey) (reg := rg_S_putByKey) (bl := bl_S_putByKey) (by decide +kernel) rfl (cl_ok _) rfl ok_S_putByKey ?_ vc_S_putByKey
  intro a n b ci h
  match a, h with
  | k + 0, h => cases h
