/-! the class's segment -/
/-- as RC, but for the pointers of those in E -/
def RCx (s : ak_S) (a : ab_T) (E : Nat → Prop) : Prop := (s.1 1 0 = nI (a.1 0) ∧ s.1 2 0 = nI (a.1 1) ∧ s.1 3 0 = nI (a.1 2)) ∧
  (∀ k, k ≤ 15 → s.1 5 k = nI (a.2.1 0 k) ∧ s.1 6 k = nI (a.2.1 1 k) ∧ s.1 7 k = nI (a.2.1 2 k)) ∧
  (∀ i, i ≤ 250 → s.1 8 i = nI (a.2.1 3 i) ∧ s.1 9 i = nI (if a.2.1 5 i = 1 then a.2.1 4 i else 0) ∧ s.2 10 i = a.2.2.1 i ∧ s.1 11 i = nI (a.2.1 5 i) ∧ s.1 12 i = nI (a.2.1 6 i)) ∧
  (∀ i, 1 ≤ i → i ≤ 250 → s.1 13 i = nI (ac a i)) ∧
  (∀ i p, 1 ≤ i → i ≤ a.1 1 → a.2.1 5 i ≠ 0 → p < 3 → ¬ E i → s.1 14 (3 * i + p) = a.2.2.2 (3 * i + p)) ∧
  (∀ j, j ≤ 10 → s.1 16 j = nI (a.2.1 7 j) ∧ s.1 17 j = nI (a.2.1 8 j)) ∧ BK s a
theorem RC_of {s : ak_S} {a : ab_T} {E : Nat → Prop} (h : RCx s a E) (hE : ∀ i, 1 ≤ i → i ≤ a.1 1 → a.2.1 5 i ≠ 0 → ¬ E i) : RC s a := by
  obtain ⟨h1, hk, hs, hc, hp, hx, hb⟩ := h
  exact ⟨h1, hk, hs, hc, fun i p a1 a2 a3 a4 => hp i p a1 a2 a3 a4 (hE i a1 a2 a3), hx, hb⟩
theorem RC_to {s : ak_S} {a : ab_T} (h : RC s a) (E : Nat → Prop) : RCx s a E := by
  obtain ⟨h1, hk, hs, hc, hp, hx, hb⟩ := h
  exact ⟨h1, hk, hs, hc, fun i p a1 a2 a3 a4 _ => hp i p a1 a2 a3 a4, hx, hb⟩
theorem ar_1 {a : ab_T} {i : Nat} : (a_right a i).1 = a.1 := rfl
theorem ar_21 {a : ab_T} {i : Nat} : (a_right a i).2.1 = a.2.1 := rfl
theorem ar_22 {a : ab_T} {i : Nat} : (a_right a i).2.2.1 = a.2.2.1 := rfl
theorem ar_p {a : ab_T} {i j p : Nat} (hp : p < 3) : (a_right a i).2.2.2 (3 * j + p) = if j = i then nI (a_tr a i p) else a.2.2.2 (3 * j + p) := by
  unfold a_right
  rw [ap_s, ap_s, ap_s]
  by_cases e : j = i
  · subst e
    rw [if_pos rfl]
    rcases (by omega : p = 0 ∨ p = 1 ∨ p = 2) with rfl | rfl | rfl
    · rw [if_neg (by omega), if_neg (by omega), if_pos (by omega)]
    · rw [if_neg (by omega), if_pos (by omega)]
    · rw [if_pos (by omega)]
  · rw [if_neg e, if_neg (by omega), if_neg (by omega), if_neg (by omega)]
theorem cr_p {s : ak_S} {i j p : Nat} (hp : p < 3) : (c_right s i).1 14 (3 * j + p) = if j = i then c_tr s i p else s.1 14 (3 * j + p) := by
  unfold c_right
  rw [p1_s, p1_s, p1_s]
  by_cases e : j = i
  · subst e
    rw [if_pos rfl]
    rcases (by omega : p = 0 ∨ p = 1 ∨ p = 2) with rfl | rfl | rfl
    · rw [if_neg (by omega), if_neg (by omega), if_pos (by omega)]
      simp [c_tr]
    · rw [if_neg (by omega), if_pos (by omega)]
      simp [c_tr]
    · rw [if_pos (by omega)]
      simp [c_tr]
  · rw [if_neg e, if_neg (by omega), if_neg (by omega), if_neg (by omega)]
theorem RCx_tr {s : ak_S} {a : ab_T} {E : Nat → Prop} {i p : Nat} (h : RCx s a E) (h1 : 1 ≤ i) (h2 : i ≤ 250) : c_tr s i p = nI (a_tr a i p) := by
  obtain ⟨_, q2, _, _, q5⟩ := h.2.2.1 i h2
  have q6 := h.2.2.2.1 i h1 h2
  unfold c_tr a_tr
  split
  · exact q2
  · split
    · exact q5
    · exact q6
theorem RCx_right {s : ak_S} {a : ab_T} {E : Nat → Prop} {i : Nat} (h : RCx s a E) (h1 : 1 ≤ i) (h2 : i ≤ 250) : RCx (c_right s i) (a_right a i) (fun j => E j ∧ j ≠ i) := by
  have ht := fun p => RCx_tr (p := p) h h1 h2
  obtain ⟨⟨a1, a2, a3⟩, hk, hs, hc, hp, hx, hb⟩ := h
  refine ⟨⟨?_, ?_, ?_⟩, fun k hk' => ?_, fun i hi => ?_, fun i h1 h2 => ?_, fun j p b1 b2 b3 b4 b5 => ?_, fun j hj => ?_, ?_⟩
  · rw [c_right_o (by decide), a1]; rfl
  · rw [c_right_o (by decide), a2]; rfl
  · rw [c_right_o (by decide), a3]; rfl
  · rw [c_right_o (by decide), c_right_o (by decide), c_right_o (by decide)]
    exact hk k hk'
  · rw [c_right_o (by decide), c_right_o (by decide), c_right_o (by decide), c_right_o (by decide)]
    exact hs i hi
  · rw [c_right_o (by decide)]
    exact hc i h1 h2
  · rw [cr_p b4, ar_p b4]
    by_cases e : j = i
    · rw [if_pos e, if_pos e, ht]
    · rw [if_neg e, if_neg e]
      exact hp j p b1 b2 b3 b4 (fun z => b5 ⟨z, e⟩)
  · rw [c_right_o (by decide), c_right_o (by decide)]
    exact hx j hj
  · obtain ⟨bk, c1, c2, c3⟩ := hb
    refine ⟨bk, fun j hj => ?_, c2, c3⟩
    rw [c_right_o (by decide)]
    exact c1 j hj
def pt_L_mayBeUnder : ak_P := fun vs s Q => match vs with
  | [.ref 0, .int k, .int u] => ∃ a, AI a ∧ RC s a ∧ iK a k ∧ (a_fit a k u → Q (some (.int 1)) s) ∧ (¬ a_fit a k u → Q (some (.int 0)) s)
  | _ => False
def cs_L_mayBeUnder : Nat → ak_P := fun a => match a with
  | _ => pt_S_is
theorem vc_L_mayBeUnder : ak_VC lay_C cs_L_mayBeUnder bl_L_mayBeUnder 4 pt_L_mayBeUnder := by
  intro vs s Q h
  unfold pt_L_mayBeUnder at h
  split at h
  · rename_i k u
    obtain ⟨a, hA, hR, hk, hy, hno⟩ := h
    obtain ⟨k', hk1, hk2, rfl⟩ := iK_of hA hk
    have hn := hA.1
    refine ⟨Nat.le_of_ble_eq_true rfl, fun J hJ => hJ 6 _ _ _ _ ?_⟩
    simp only [Nat.reduceAdd, Nat.reduceLeDiff, Nat.zero_le, true_or, or_true, run_s, e_nop, e_iconst, e_bipush, e_sipush, e_lconst, e_iload, e_iload_n, e_lload, e_lload_n, e_aload, e_aload_n, e_istore, e_istore_n, e_iinc, e_iadd, e_isub, e_imul, e_lcmp, e_dupI, e_dupR, e_dup2, e_getfield, e_putfield, e_iaload, e_baload, e_laload, e_iastore, e_bastore, e_lastore, e_if, e_icmp, e_goto, e_tsw, e_ireturn0, e_ireturn1, e_return, e_call0, e_call1, e_call2, e_call3, lI_e, lL_e, lR_e, ak_nth, ak_set, ak_ok1, ak_jp, ak_b1, ak_b2, ak_sw, ak_la, ak_pad, true_and, and_true, List.map_cons, List.map_nil, List.sum_cons, List.sum_nil, Value.category, Option.toList_some, Option.toList_none, List.cons_append, List.nil_append, gC_0_0, gC_0_1, gC_0_2, gC_0_3, rC_0, gC_1_0, pC_1_0, gC_1_1, gC_1_2, gC_1_3, rC_1, gC_2_0, pC_2_0, gC_2_1, gC_2_2, gC_2_3, gC_2_4, gC_2_5, gC_2_6, gC_2_7, gC_2_8, rC_2, gC_3_0, pC_3_0, gC_3_1, gC_3_2, rC_3, gC_4_0, gC_4_1, gC_4_2, gC_4_3, gC_4_4, pC_4_4, rC_4, kC_5, kC_6, kC_7, kC_8, kC_9, kC_10, kC_11, kC_12, kC_13, kC_14, kC_15, kC_16, kC_17, kC_18, kC_19, fd_L_mayBeUnder_0, fd_L_mayBeUnder_22, fd_L_mayBeUnder_23, fd_L_mayBeUnder_24, fd_L_mayBeUnder_53, fd_L_mayBeUnder_54, bk_L_mayBeUnder_0, bk_L_mayBeUnder_22, bk_L_mayBeUnder_23, bk_L_mayBeUnder_24, bk_L_mayBeUnder_53, bk_L_mayBeUnder_54, cs_L_mayBeUnder, pt_S_is]
    have ek := (hR.2.1 k' (by omega)).1
    have eb := (hA.2.1 k' (by omega)).1
    have efit : a_fit a (nI k') u = (if a.2.1 0 k' = 0 then u = 0 else (iS a u ∧ a.2.1 5 u.toNatClampNeg = 1 ∧ a.2.1 3 u.toNatClampNeg = a.2.1 0 k')) := by
      rw [a_fit, q_cl (by omega)]
    rw [efit] at hy hno
    rw [q_cl (by omega), ek, n_0, q_eq (by omega) (by omega), ← n_0]
    refine ⟨q_in (by omega) (by omega), fun q => ?_, fun q => ?_⟩
    · rw [if_neg q] at hy hno
      refine ⟨a.1 1, hn.2.1, hR.1.2.1, ?_⟩
      rw [bt0]
      rcases n_case u (n := a.1 1) (by omega) with ⟨u', hu1, hu2, rfl⟩ | hx
      · obtain ⟨b1, _, _, b4, _⟩ := hR.2.2.1 u' (by omega)
        obtain ⟨c1, _, c3, _⟩ := hA.2.2.1 u' (by omega)
        have hu := n_in hu1 hu2 (by omega)
        rw [q_cl (by omega)] at hy hno ⊢
        rw [b4, b1, n_1, q_eq (by omega) (by omega), q_eq (by omega) (by omega), ← n_1]
        refine ⟨fun z => hno (fun y => z ⟨hu, y.2.1⟩), fun z => ⟨q_in (by omega) (by omega), fun z2 => hno (fun y => z2 y.2.2), fun z2 => hy ⟨hu, (Classical.not_not.mp z).2, z2⟩⟩⟩
      · exact ⟨fun _ => hno (fun y => hx y.1), fun z => absurd (fun y => hx y.1) z⟩
    · rw [if_pos q] at hy hno
      exact ⟨fun z => hno z, fun z => hy z⟩
  · exact h.elim
set_option maxRecDepth 20000 in
theorem ct_L_mayBeUnder (l : Launch) : ak_Ctr l cl_all lay_C y_L_mayBeUnder ws_L_mayBeUnder rm_L_mayBeUnder pt_L_mayBeUnder := by
  refine ak_met (cs := cs_L_mayBeUnder) (reg := rg_L_mayBeUnder) (bl := bl_L_mayBeUnder) (by decide +kernel) rfl (cl_ok _) rfl ok_L_mayBeUnder ?_ vc_L_mayBeUnder
  intro a n b ci h
  match a, h with
  | 0, h =>
    cases h
    exact ak_ccV (ct_S_is l) rfl 184 185 186 22 187 (by decide +kernel) ⟨rfl, rfl⟩ (by decide +kernel) (by decide +kernel)
  | k + 1, h => cases h
