/-! Deletion: what is gathered -/
def c_D (s : ak_S) (gs gg : Nat → Int32) (mm : Int32) : ak_S := (fun k => if k = 18 then gs else if k = 19 then gg else if k = 4 then (fun j => if j = 4 then mm else s.1 4 j) else s.1 k, s.2)
theorem c_D_self (s : ak_S) : c_D s (s.1 18) (s.1 19) (s.1 4 4) = s := by
  apply Prod.ext
  · funext k j
    simp only [c_D]
    by_cases h1 : k = 18
    · subst h1; simp
    · by_cases h2 : k = 19
      · subst h2; simp
      · by_cases h3 : k = 4
        · subst h3
          by_cases h4 : j = 4
          · subst h4; simp
          · simp [h4]
        · simp [h1, h2, h3]
  · rfl
theorem c_D_o {s : ak_S} {gs gg : Nat → Int32} {mm : Int32} {k j : Nat} (h1 : k ≠ 18) (h2 : k ≠ 19) (h3 : k ≠ 4) : (c_D s gs gg mm).1 k j = s.1 k j := by simp [c_D, h1, h2, h3]
theorem c_D_18 {s : ak_S} {gs gg : Nat → Int32} {mm : Int32} {j : Nat} : (c_D s gs gg mm).1 18 j = gs j := by simp [c_D]
theorem c_D_19 {s : ak_S} {gs gg : Nat → Int32} {mm : Int32} {j : Nat} : (c_D s gs gg mm).1 19 j = gg j := by simp [c_D]
theorem c_D_4 {s : ak_S} {gs gg : Nat → Int32} {mm : Int32} : (c_D s gs gg mm).1 4 4 = mm := by simp [c_D]
theorem c_D_p18 {s : ak_S} {gs gg : Nat → Int32} {mm x : Int32} {e : Nat} : ak_p1 (c_D s gs gg mm) 18 e x = c_D s (upd gs e x) gg mm := by
  apply Prod.ext
  · funext k j
    by_cases h1 : k = 18
    · subst h1; simp [ak_p1, c_D]
    · simp [ak_p1, c_D, h1]
  · rfl
theorem c_D_p19 {s : ak_S} {gs gg : Nat → Int32} {mm x : Int32} {e : Nat} : ak_p1 (c_D s gs gg mm) 19 e x = c_D s gs (upd gg e x) mm := by
  apply Prod.ext
  · funext k j
    by_cases h1 : k = 19
    · subst h1; simp [ak_p1, c_D]
    · simp [ak_p1, c_D, h1]
  · rfl
theorem c_D_p4 {s : ak_S} {gs gg : Nat → Int32} {mm x : Int32} : ak_p1 (c_D s gs gg mm) 4 4 x = c_D s gs gg x := by
  apply Prod.ext
  · funext k j
    by_cases h1 : k = 4
    · subst h1
      by_cases h2 : j = 4
      · subst h2; simp [ak_p1, c_D, upd]
      · simp [ak_p1, c_D, upd, h2]
    · simp [ak_p1, c_D, h1]
  · rfl
def pt_D_add : ak_P := fun vs s Q => match vs with
  | [.ref 4, .int x] => ∃ e m : Nat, e ≤ 250 ∧ m ≤ 250 ∧ x = nI e ∧ s.1 4 4 = nI m ∧ (¬ s.1 18 e = 0 ∨ m = 250 → Q none s) ∧ (s.1 18 e = 0 → m < 250 → Q none (ak_p1 (ak_p1 (ak_p1 s 18 e 1) 19 m (nI e)) 4 4 (nI (m + 1))))
  | _ => False
def cs_D_add : Nat → ak_P := fun _ _ _ _ => False
theorem vc_D_add : ak_VC lay_C cs_D_add bl_D_add 2 pt_D_add := by
  intro vs s Q h
  unfold pt_D_add at h
  split at h
  · rename_i x
    obtain ⟨e, m, he, hm, rfl, hs, h1, h2⟩ := h
    refine ⟨Nat.le_of_ble_eq_true rfl, fun J hJ => hJ 3 _ _ _ _ ?_⟩
    simp only [Nat.reduceAdd, Nat.reduceLeDiff, Nat.zero_le, true_or, or_true, run_s, e_nop, e_iconst, e_bipush, e_sipush, e_lconst, e_iload, e_iload_n, e_lload, e_lload_n, e_aload, e_aload_n, e_istore, e_istore_n, e_iinc, e_iadd, e_isub, e_imul, e_lcmp, e_dupI, e_dupR, e_dup2, e_getfield, e_putfield, e_iaload, e_baload, e_laload, e_iastore, e_bastore, e_lastore, e_if, e_icmp, e_goto, e_tsw, e_ireturn0, e_ireturn1, e_return, e_call0, e_call1, e_call2, e_call3, lI_e, lL_e, lR_e, ak_nth, ak_set, ak_ok1, ak_jp, ak_b1, ak_b2, ak_sw, ak_la, ak_pad, true_and, and_true, List.map_cons, List.map_nil, List.sum_cons, List.sum_nil, Value.category, Option.toList_some, Option.toList_none, List.cons_append, List.nil_append, gC_0_0, gC_0_1, gC_0_2, gC_0_3, rC_0, gC_1_0, pC_1_0, gC_1_1, gC_1_2, gC_1_3, rC_1, gC_2_0, pC_2_0, gC_2_1, gC_2_2, gC_2_3, gC_2_4, gC_2_5, gC_2_6, gC_2_7, gC_2_8, rC_2, gC_3_0, pC_3_0, gC_3_1, gC_3_2, rC_3, gC_4_0, gC_4_1, gC_4_2, gC_4_3, gC_4_4, pC_4_4, rC_4, kC_5, kC_6, kC_7, kC_8, kC_9, kC_10, kC_11, kC_12, kC_13, kC_14, kC_15, kC_16, kC_17, kC_18, kC_19, fd_D_add_0, fd_D_add_19, fd_D_add_20, bk_D_add_0, bk_D_add_19, bk_D_add_20, p1_o, hs, nI_1, ne_eq, Nat.reduceEqDiff, not_false_eq_true]
    rw [n_250, q_lt (by omega) (by omega), q_cl (by omega), q_cl (by omega)]
    refine ⟨q_in (by omega) (by omega), fun q => h1 (Or.inl q), fun q => ⟨fun q2 => ⟨q_in (by omega) (by omega), q_in (by omega) (by omega), h2 q q2⟩, fun q2 => h1 (Or.inr (by omega))⟩⟩
  · exact h.elim
set_option maxRecDepth 20000 in
theorem ct_D_add (l : Launch) : ak_Ctr l cl_all lay_C y_D_add ws_D_add rm_D_add pt_D_add := by
  refine ak_met (cs := cs_D_add) (reg := rg_D_add) (bl := bl_D_add) (by decide +kernel) rfl (cl_ok _) rfl ok_D_add ?_ vc_D_add
  intro a n b ci h
  match a, h with
  | k + 0, h => cases h
def pt_D_isRelatedByRule : ak_P := fun vs s Q => match vs with
  | [.ref 4, .int x, .int o, .int r] => ∃ e c : Nat, e ≤ 250 ∧ c < 16 ∧ x = nI e ∧ s.1 8 e = nI c ∧ Q (some (.int (if s.1 12 e = o ∧ s.1 7 c = r then 1 else 0))) s
  | _ => False
def cs_D_isRelatedByRule : Nat → ak_P := fun _ _ _ _ => False
theorem vc_D_isRelatedByRule : ak_VC lay_C cs_D_isRelatedByRule bl_D_isRelatedByRule 4 pt_D_isRelatedByRule := by
  intro vs s Q h
  unfold pt_D_isRelatedByRule at h
  split at h
  · rename_i x o r
    obtain ⟨e, c, he, hc, rfl, hk, h⟩ := h
    refine ⟨Nat.le_of_ble_eq_true rfl, fun J hJ => hJ 3 _ _ _ _ ?_⟩
    simp only [Nat.reduceAdd, Nat.reduceLeDiff, Nat.zero_le, true_or, or_true, run_s, e_nop, e_iconst, e_bipush, e_sipush, e_lconst, e_iload, e_iload_n, e_lload, e_lload_n, e_aload, e_aload_n, e_istore, e_istore_n, e_iinc, e_iadd, e_isub, e_imul, e_lcmp, e_dupI, e_dupR, e_dup2, e_getfield, e_putfield, e_iaload, e_baload, e_laload, e_iastore, e_bastore, e_lastore, e_if, e_icmp, e_goto, e_tsw, e_ireturn0, e_ireturn1, e_return, e_call0, e_call1, e_call2, e_call3, lI_e, lL_e, lR_e, ak_nth, ak_set, ak_ok1, ak_jp, ak_b1, ak_b2, ak_sw, ak_la, ak_pad, true_and, and_true, List.map_cons, List.map_nil, List.sum_cons, List.sum_nil, Value.category, Option.toList_some, Option.toList_none, List.cons_append, List.nil_append, gC_0_0, gC_0_1, gC_0_2, gC_0_3, rC_0, gC_1_0, pC_1_0, gC_1_1, gC_1_2, gC_1_3, rC_1, gC_2_0, pC_2_0, gC_2_1, gC_2_2, gC_2_3, gC_2_4, gC_2_5, gC_2_6, gC_2_7, gC_2_8, rC_2, gC_3_0, pC_3_0, gC_3_1, gC_3_2, rC_3, gC_4_0, gC_4_1, gC_4_2, gC_4_3, gC_4_4, pC_4_4, rC_4, kC_5, kC_6, kC_7, kC_8, kC_9, kC_10, kC_11, kC_12, kC_13, kC_14, kC_15, kC_16, kC_17, kC_18, kC_19, fd_D_isRelatedByRule_0, fd_D_isRelatedByRule_38, fd_D_isRelatedByRule_39, bk_D_isRelatedByRule_0, bk_D_isRelatedByRule_38, bk_D_isRelatedByRule_39]
    rw [q_cl (by omega), hk, q_cl (by omega)]
    refine ⟨q_in (by omega) (by omega), fun q => ?_, fun q => ⟨q_in (by omega) (by omega), q_in (by omega) (by omega), fun q2 => ?_, fun q2 => ?_⟩⟩
    · rw [if_neg (fun z => q z.1)] at h; exact h
    · rw [if_neg (fun z => q2 z.2)] at h; exact h
    · rw [if_pos ⟨q, q2⟩] at h; exact h
  · exact h.elim
set_option maxRecDepth 20000 in
theorem ct_D_isRelatedByRule (l : Launch) : ak_Ctr l cl_all lay_C y_D_isRelatedByRule ws_D_isRelatedByRule rm_D_isRelatedByRule pt_D_isRelatedByRule := by
  refine ak_met (cs := cs_D_isRelatedByRule) (reg := rg_D_isRelatedByRule) (bl := bl_D_isRelatedByRule) (by decide +kernel) rfl (cl_ok _) rfl ok_D_isRelatedByRule ?_ vc_D_isRelatedByRule
  intro a n b ci h
  match a, h with
  | k + 0, h => cases h
/-- x takes j: j is under it, or is related to it by rule 2 -/
def tk (s : ak_S) (x j : Nat) : Prop := s.1 9 j = nI x ∨ (s.1 12 j = nI x ∧ s.1 7 (s.1 8 j).toNatClampNeg = 2)
def rch (s : ak_S) (n a e : Nat) : Prop := ∀ S : Nat → Prop, S a → (∀ x j, S x → 1 ≤ j → j ≤ n → tk s x j → S j) → S e
theorem rch_self {s : ak_S} {n a : Nat} : rch s n a a := fun _ h _ => h
theorem rch_step {s : ak_S} {n a x j : Nat} (h : rch s n a x) (h1 : 1 ≤ j) (h2 : j ≤ n) (ht : tk s x j) : rch s n a j := fun S h0 hc => hc x j (h S h0 hc) h1 h2 ht
/-- what the gathered row holds -/
def DI (s : ak_S) (n a : Nat) (gs gg : Nat → Int32) (m : Nat) : Prop := m = cn (fun j => decide (gs j = 1)) n ∧ (∀ j, j ≤ 250 → gs j = 0 ∨ gs j = 1) ∧ (∀ j, j ≤ 250 → gs j = 1 → 1 ≤ j ∧ j ≤ n ∧ rch s n a j) ∧ (∀ p, p < m → ∃ e, 1 ≤ e ∧ e ≤ n ∧ gg p = nI e ∧ gs e = 1) ∧ (∀ e, e ≤ 250 → gs e = 1 → ∃ p, p < m ∧ gg p = nI e)
theorem cn_congr {p q : Nat → Bool} : ∀ {n : Nat}, (∀ j, 1 ≤ j → j ≤ n → p j = q j) → cn p n = cn q n
  | 0, _ => rfl
  | n + 1, h => by
    rw [cn, cn, cn_congr (n := n) (fun j h1 h2 => h j h1 (by omega)), h (n + 1) (by omega) (by omega)]
theorem cn_add {p q : Nat → Bool} {e : Nat} : ∀ {n : Nat}, 1 ≤ e → e ≤ n → p e = false → q e = true → (∀ j, 1 ≤ j → j ≤ n → j ≠ e → q j = p j) → cn q n = cn p n + 1
  | 0, h1, h2, _, _, _ => by omega
  | n + 1, h1, h2, hp, hq, h => by
    by_cases he : e = n + 1
    · subst he
      rw [cn, cn, hp, hq, cn_congr (p := q) (q := p) (fun j a b => h j a (by omega) (by omega))]
      simp
    · rw [cn, cn, cn_add (n := n) h1 (by omega) hp hq (fun j a b c => h j a (by omega) c), h (n + 1) (by omega) (by omega) (Ne.symm he)]
      omega
/-- one more -/
theorem DI_add {s : ak_S} {n a m e : Nat} {gs gg : Nat → Int32} (hn : n ≤ 250) (h : DI s n a gs gg m) (h1 : 1 ≤ e) (h2 : e ≤ n) (hg : gs e = 0) (hr : rch s n a e) : m < 250 ∧ DI s n a (upd gs e 1) (upd gg m (nI e)) (m + 1) := by
  obtain ⟨hm, hb, hs, hp, hc⟩ := h
  have hcn : cn (fun j => decide ((upd gs e 1) j = 1)) n = m + 1 := by
    rw [hm]
    refine cn_add (e := e) h1 h2 ?_ ?_ ?_
    · simp [hg]
    · simp [upd]
    · intro j _ _ hj
      simp [upd, hj]
  have hle := cn_le (fun j => decide ((upd gs e 1) j = 1)) n
  refine ⟨by omega, hcn.symm, ?_, ?_, ?_, ?_⟩
  · intro j hj
    by_cases q : j = e
    · right; simp [upd, q]
    · simp only [upd, q, if_false]
      exact hb j hj
  · intro j hj hq
    by_cases q : j = e
    · subst q; exact ⟨h1, h2, hr⟩
    · simp only [upd, q, if_false] at hq
      exact hs j hj hq
  · intro p hpm
    by_cases q : p = m
    · subst q
      exact ⟨e, h1, h2, by simp [upd], by simp [upd]⟩
    · obtain ⟨e', a1, a2, a3, a4⟩ := hp p (by omega)
      refine ⟨e', a1, a2, by simp only [upd, q, if_false]; exact a3, ?_⟩
      by_cases q2 : e' = e
      · simp [upd, q2]
      · simp only [upd, q2, if_false]; exact a4
  · intro j hj hq
    by_cases q : j = e
    · subst q
      exact ⟨m, by omega, by simp [upd]⟩
    · simp only [upd, q, if_false] at hq
      obtain ⟨p, a1, a2⟩ := hc j hj hq
      exact ⟨p, by omega, by simp only [upd, show p ≠ m by omega, if_false]; exact a2⟩
