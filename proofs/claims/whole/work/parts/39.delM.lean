/-! the reference's delete -/
theorem AI_del {a : ab_T} (hA : AI a) {T : Nat → Bool} (hT : ∀ j, T j = true → 1 ≤ j ∧ j ≤ a.1 1) : AI (a_del a T) := by
  obtain ⟨c1, c2, c3, c4, c5, c6, c7, c8, c9, c10⟩ := hA
  have d5 : ∀ i, (a_del a T).2.1 5 i = if 1 ≤ i ∧ i ≤ a.1 1 ∧ (a_rw a T).2.1 5 i = 2 ∧ ac (a_rw a T) i = 0 then 0 else (a_rw a T).2.1 5 i := fun i => rfl
  have d6 : ∀ i, (a_del a T).2.1 6 i = if T i = true then 0 else a.2.1 6 i := fun i => by
    show (a_rw a T).2.1 6 i = _
    exact rw_6
  have do_ : ∀ f i, f ≠ 5 → f ≠ 6 → (a_del a T).2.1 f i = a.2.1 f i := fun f i h1 h2 => by
    have : (a_del a T).2.1 f i = (a_rw a T).2.1 f i := by simp [a_del, h1]
    rw [this, rw_o h1 h2]
  refine ⟨c1, fun k hk => ?_, fun j hj => ?_, fun j j1 j2 => ?_, fun j hj hz => ?_, fun j j1 j2 => ?_, ?_, fun k k1 k2 => ?_, fun j hj => ?_, fun j j1 j2 => ?_⟩
  · rw [do_ 0 k (by decide) (by decide), do_ 1 k (by decide) (by decide), do_ 2 k (by decide) (by decide)]; exact c2 k hk
  · obtain ⟨e1, e2, e3, e4⟩ := c3 j hj
    rw [do_ 3 j (by decide) (by decide), do_ 4 j (by decide) (by decide), d5, d6, rw_5]
    refine ⟨e1, e2, ?_, ?_⟩
    · repeat' split
      all_goals omega
    · split
      · exact Nat.zero_le _
      · exact e4
  · rw [do_ 3 j (by decide) (by decide)]; exact c4 j j1 j2
  · rw [d6] at hz
    split at hz
    · exact absurd rfl hz
    · rename_i w
      obtain ⟨e1, e2, e3⟩ := c5 j hj hz
      refine ⟨e1, e2, ?_⟩
      rw [d5, rw_5, if_neg w, if_neg (fun z => by omega)]
      exact e3
  · have hTj : ¬ T j = true := fun w => by
      have := hT j w
      have : (a_del a T).1 1 = a.1 1 := rfl
      omega
    rw [d5, rw_5, if_neg hTj, if_neg (fun z => by have : (a_del a T).1 1 = a.1 1 := rfl; omega)]
    exact c6 j j1 j2
  · have hT0 : ¬ T 0 = true := fun w => by have := hT 0 w; omega
    rw [d5, rw_5, if_neg hT0, if_neg (fun z => by omega)]
    exact c7
  · rw [do_ 1 k (by decide) (by decide), do_ 2 k (by decide) (by decide)]; exact c8 k k1 k2
  · rw [do_ 7 j (by decide) (by decide), do_ 8 j (by decide) (by decide)]; exact c9 j hj
  · rw [do_ 3 j (by decide) (by decide), do_ 4 j (by decide) (by decide), do_ 0 _ (by decide) (by decide), do_ 3 _ (by decide) (by decide)]; exact c10 j j1 j2
/-- all but what a delete may change -/
def m_F (t t' : ak_S) : Prop := (∀ k j, k ≠ 6 → k ≠ 7 → k ≠ 8 → k ≠ 10 → k ≠ 11 → t'.1 k j = t.1 k j) ∧ t'.2 = t.2
theorem m_F_p {t t' : ak_S} {k j : Nat} {x : Int32} (h : m_F t t') (hk : k = 6 ∨ k = 7 ∨ k = 8 ∨ k = 10 ∨ k = 11) : m_F t (ak_p1 t' k j x) := ⟨fun k' j' h1 h2 h3 h4 h5 => by rw [p1_o (by omega)]; exact h.1 k' j' h1 h2 h3 h4 h5, h.2⟩
theorem RM_same {t t' : ak_S} {a : ab_T} (hR : RM t a) (hF : m_F t t') (h6 : ∀ j, t'.1 6 j = t.1 6 j) (h7 : ∀ j, t'.1 7 j = t.1 7 j) (h8 : ∀ j, t'.1 8 j = t.1 8 j) : RM t' a := by
  obtain ⟨⟨y1, y2, y3⟩, hk, hs, hst, hp, hx⟩ := hR
  have F := fun k j h1 h2 h3 h4 h5 => hF.1 k j h1 h2 h3 h4 h5
  refine ⟨⟨?_, ?_, ?_⟩, fun k' hk' => ?_, fun j hj => ?_, fun j w1 w2 => ?_, fun j p w1 w2 w3 w4 => ?_, fun j hj => ?_⟩
  · rw [F _ _ (by decide) (by decide) (by decide) (by decide) (by decide)]; exact y1
  · rw [F _ _ (by decide) (by decide) (by decide) (by decide) (by decide)]; exact y2
  · rw [F _ _ (by decide) (by decide) (by decide) (by decide) (by decide)]; exact y3
  · rw [F 1 _ (by decide) (by decide) (by decide) (by decide) (by decide), F 2 _ (by decide) (by decide) (by decide) (by decide) (by decide), F 3 _ (by decide) (by decide) (by decide) (by decide) (by decide)]; exact hk k' hk'
  · rw [F 4 _ (by decide) (by decide) (by decide) (by decide) (by decide), F 5 _ (by decide) (by decide) (by decide) (by decide) (by decide), h7, hF.2]; exact hs j hj
  · rw [h6]; exact hst j w1 w2
  · rw [h8]; exact hp j p w1 w2 w3 w4
  · rw [F 12 _ (by decide) (by decide) (by decide) (by decide) (by decide), F 13 _ (by decide) (by decide) (by decide) (by decide) (by decide)]; exact hx j hj
/-- the number in the reference's row of states -/
def m_st (v : Nat) : Nat := if v = 0 then 3 else v
theorem m_delRows {t t' : ak_S} {a : ab_T} (hA : AI a) (hR : RM t a) {T : Nat → Bool} (hF : m_F t t') (h6 : ∀ j, 1 ≤ j → j ≤ a.1 1 → t'.1 6 j = nI (m_st ((a_del a T).2.1 5 j))) (h7 : ∀ j, j ≤ 250 → t'.1 7 j = nI ((a_rw a T).2.1 6 j)) (h8 : ∀ j, t'.1 8 j = t.1 8 j) (hst : ∀ j, 1 ≤ j → j ≤ a.1 1 → T j = true → a.2.1 5 j = 1) : RMx t' (a_del a T) (fun i => T i = true ∨ a_chg a T i = true) := by
  obtain ⟨⟨y1, y2, y3⟩, hk, hs, hstt, hp, hx⟩ := hR
  have F := fun k j h1 h2 h3 h4 h5 => hF.1 k j h1 h2 h3 h4 h5
  have do_ : ∀ f i, f ≠ 5 → f ≠ 6 → (a_del a T).2.1 f i = a.2.1 f i := fun f i h1 h2 => by
    have : (a_del a T).2.1 f i = (a_rw a T).2.1 f i := by simp [a_del, h1]
    rw [this, rw_o h1 h2]
  refine ⟨⟨?_, ?_, ?_⟩, fun k' hk' => ?_, fun j hj => ?_, fun j w1 w2 => ?_, fun j p w1 w2 w3 w4 w5 => ?_, fun j hj => ?_⟩
  · rw [F _ _ (by decide) (by decide) (by decide) (by decide) (by decide)]; exact y1
  · rw [F _ _ (by decide) (by decide) (by decide) (by decide) (by decide)]; exact y2
  · rw [F _ _ (by decide) (by decide) (by decide) (by decide) (by decide)]; exact y3
  · rw [F 1 _ (by decide) (by decide) (by decide) (by decide) (by decide), F 2 _ (by decide) (by decide) (by decide) (by decide) (by decide), F 3 _ (by decide) (by decide) (by decide) (by decide) (by decide), do_ 0 _ (by decide) (by decide), do_ 1 _ (by decide) (by decide), do_ 2 _ (by decide) (by decide)]; exact hk k' hk'
  · rw [F 4 _ (by decide) (by decide) (by decide) (by decide) (by decide), F 5 _ (by decide) (by decide) (by decide) (by decide) (by decide), h7 j hj, hF.2, do_ 3 _ (by decide) (by decide), do_ 4 _ (by decide) (by decide)]
    obtain ⟨v1, v2, v3, _⟩ := hs j hj
    exact ⟨v1, v2, v3, rfl⟩
  · exact h6 j w1 w2
  · have w2' : j ≤ a.1 1 := w2
    have hTj : ¬ T j = true := fun z => w5 (Or.inl z)
    have w3' : a.2.1 5 j ≠ 0 := fun z => w3 (by
      show (if 1 ≤ j ∧ j ≤ a.1 1 ∧ (a_rw a T).2.1 5 j = 2 ∧ ac (a_rw a T) j = 0 then 0 else (a_rw a T).2.1 5 j) = 0
      rw [rw_5, if_neg hTj, z]
      split <;> rfl)
    rw [h8, ad_p w4, if_neg w5]
    exact hp j p w1 w2' w3' w4
  · rw [F 12 _ (by decide) (by decide) (by decide) (by decide) (by decide), F 13 _ (by decide) (by decide) (by decide) (by decide) (by decide), do_ 7 _ (by decide) (by decide), do_ 8 _ (by decide) (by decide)]; exact hx j hj
theorem del_tr {a : ab_T} {T : Nat → Bool} {i p : Nat} : a_tr (a_del a T) i p = a_tr (a_rw a T) i p := by
  have d5 : (a_del a T).2.1 5 i = if 1 ≤ i ∧ i ≤ a.1 1 ∧ (a_rw a T).2.1 5 i = 2 ∧ ac (a_rw a T) i = 0 then 0 else (a_rw a T).2.1 5 i := rfl
  have one : ((a_del a T).2.1 5 i = 1) = ((a_rw a T).2.1 5 i = 1) := by
    rw [d5]
    split
    · rename_i z
      rw [z.2.2.1]
      decide
    · rfl
  have hac : ac (a_del a T) i = ac (a_rw a T) i := rfl
  have e4 : (a_del a T).2.1 4 i = (a_rw a T).2.1 4 i := rfl
  have e6 : (a_del a T).2.1 6 i = (a_rw a T).2.1 6 i := rfl
  unfold a_tr
  rw [hac, e4, e6]
  simp only [one]
/-- one is set right -/
theorem m_delRight {t : ak_S} {a : ab_T} (hA : AI a) {T : Nat → Bool} (hT : ∀ j, T j = true → 1 ≤ j ∧ j ≤ a.1 1) {E : Nat → Prop} {i : Nat} (h : RMx t (a_del a T) E) (h1 : 1 ≤ i) (h2 : i ≤ a.1 1) (hc : T i = true ∨ a_chg a T i = true) : RMx (m_right t (a.1 1) i) (a_del a T) (fun j => E j ∧ j ≠ i) := by
  have ht := fun p => mx_tr (p := p) (AI_del hA hT) h h1 h2
  have ht : ∀ p, m_tr t (a.1 1) i p = nI (a_tr (a_del a T) i p) := ht
  obtain ⟨⟨q1, q2, q3⟩, hk, hs, hst, hp, hx⟩ := h
  refine ⟨⟨?_, ?_, ?_⟩, fun k' hk' => ?_, fun j hj => ?_, fun j b1 b2 => ?_, fun j p b1 b2 b3 b4 b5 => ?_, fun j hj => ?_⟩
  · rw [m_right_o (by decide)]; exact q1
  · rw [m_right_o (by decide)]; exact q2
  · rw [m_right_o (by decide)]; exact q3
  · rw [m_right_o (by decide), m_right_o (by decide), m_right_o (by decide)]; exact hk k' hk'
  · rw [m_right_o (by decide), m_right_o (by decide), m_right_o (by decide)]; exact hs j hj
  · rw [m_right_o (by decide)]; exact hst j b1 b2
  · rw [mr_p b4]
    by_cases e : j = i
    · rw [if_pos e, ht, e, ad_p b4, if_pos hc, del_tr]
    · rw [if_neg e]
      exact hp j p b1 b2 b3 b4 (fun z => b5 ⟨z, e⟩)
  · rw [m_right_o (by decide), m_right_o (by decide)]; exact hx j hj
def pt_M_delete : ak_P := fun vs t Q => match vs with
  | [.ref 0, .int x] => ∃ a, AI a ∧ RM t a ∧ ∀ t', RM t' (g_delete a x) → Q (some (.int (f_delete a x))) t'
  | _ => False
def cs_M_delete : Nat → ak_P := fun a => match a with
  | 0 => pt_M_isSegment
  | 1 => pt_M_spread
  | 2 => pt_M_countOf
  | _ => pt_M_right
theorem vc_M_delete : ak_VC lay_M cs_M_delete bl_M_delete 5 pt_M_delete := by
  intro vs t Q h
  unfold pt_M_delete at h
  split at h
  · rename_i x
    obtain ⟨a, hA, hR, h⟩ := h
    have hn := hA.1
    have hR0 := RM_c hR
    refine ⟨Nat.le_of_ble_eq_true rfl, fun J hJ => ?_⟩
    obtain ⟨t0, ht0⟩ : ∃ t0, t0 = ak_p1 t 0 0 0 := ⟨_, rfl⟩
    rw [← ht0] at hR0
    have same : ∀ v : Int32, f_delete a x = v → g_delete a x = a → ∀ t', RM t' a → Q (some (.int v)) t' := by
      intro v e e2 t' ht'
      have := h t' (by rw [e2]; exact ht')
      rw [e] at this
      exact this
    have main : ∀ x' : Nat, x = nI x' → 1 ≤ x' → x' ≤ a.1 1 → a.2.1 5 x' = 1 → iS a x → ∀ o2 o3 o4 : Option Value, o2 = some (.int 0) → J 31 [some (.ref 0), some (.int x), o2, o3, o4] [] t0 := by
      intro x' hxx hx1 hx2 hxs hxi
      subst hxx
      have fdel : f_delete a (nI x') = ci (a_bar a (a_gB a x')) (-5) (nI (cn (a_gB a x') (a.1 1))) := by
        rw [f_delete, q_cl (by omega), ci_f (fun z => z hxi), ci_f (fun z => z hxs)]
      -- the facts of what goes
      have hgT : ∀ j, a_gB a x' j = true → 1 ≤ j ∧ j ≤ a.1 1 := fun j hj => ⟨(a_gB_t.mp hj).1, (a_gB_t.mp hj).2.1⟩
      -- loop 6
      have loop6 : ∀ d i (t' : ak_S), i + d = a.1 1 → ¬ a_bar a (a_gB a x') → RMx t' (a_del a (a_gB a x')) (fun j => i < j ∧ (a_gB a x' j = true ∨ a_chg a (a_gB a x') j = true)) → (∀ j, 1 ≤ j → j ≤ a.1 1 → (t'.1 11 j = 0 ↔ ¬ (a_gB a x' j = true ∨ a_chg a (a_gB a x') j = true))) → ∀ o2 : Option Value, J 300 [some (.ref 0), some (.int (nI x')), o2, some (.int (nI (cn (a_gB a x') (a.1 1)))), some (.int (nI (i + 1)))] [] t' := by
        intro d
        induction d with
        | zero =>
          intro i t' hi hb hRx hch o2
          have e : i = a.1 1 := by omega
          subst e
          refine hJ 3 _ _ _ _ ?_
          simp only [Nat.reduceAdd, Nat.reduceLeDiff, Nat.zero_le, true_or, or_true, run_s, e_nop, e_iconst, e_bipush, e_sipush, e_lconst, e_iload, e_iload_n, e_lload, e_lload_n, e_aload, e_aload_n, e_istore, e_istore_n, e_iinc, e_iadd, e_isub, e_imul, e_lcmp, e_dupI, e_dupR, e_dup2, e_getfield, e_putfield, e_iaload, e_baload, e_laload, e_iastore, e_bastore, e_lastore, e_if, e_icmp, e_goto, e_tsw, e_ireturn0, e_ireturn1, e_return, e_call0, e_call1, e_call2, e_call3, lI_e, lL_e, lR_e, ak_nth, ak_set, ak_ok1, ak_jp, ak_b1, ak_b2, ak_sw, ak_la, ak_pad, true_and, and_true, List.map_cons, List.map_nil, List.sum_cons, List.sum_nil, Value.category, Option.toList_some, Option.toList_none, List.cons_append, List.nil_append, gM_0_0, pM_0_0, gM_0_1, pM_0_1, gM_0_2, pM_0_2, gM_0_3, pM_0_3, gM_0_4, gM_0_5, gM_0_6, gM_0_7, gM_0_8, gM_0_9, gM_0_10, gM_0_11, gM_0_12, gM_0_13, gM_0_14, gM_0_15, gM_0_16, rM_0, kM_1, kM_2, kM_3, kM_4, kM_5, kM_6, kM_7, kM_8, kM_9, kM_10, kM_11, kM_12, kM_13, fd_M_delete_0, fd_M_delete_16, fd_M_delete_29, fd_M_delete_31, fd_M_delete_52, fd_M_delete_53, fd_M_delete_67, fd_M_delete_69, fd_M_delete_81, fd_M_delete_86, fd_M_delete_159, fd_M_delete_174, fd_M_delete_175, fd_M_delete_183, fd_M_delete_186, fd_M_delete_208, fd_M_delete_245, fd_M_delete_251, fd_M_delete_254, fd_M_delete_291, fd_M_delete_297, fd_M_delete_300, fd_M_delete_325, fd_M_delete_331, bk_M_delete_0, bk_M_delete_16, bk_M_delete_29, bk_M_delete_31, bk_M_delete_52, bk_M_delete_53, bk_M_delete_67, bk_M_delete_69, bk_M_delete_81, bk_M_delete_86, bk_M_delete_159, bk_M_delete_174, bk_M_delete_175, bk_M_delete_183, bk_M_delete_186, bk_M_delete_208, bk_M_delete_245, bk_M_delete_251, bk_M_delete_254, bk_M_delete_291, bk_M_delete_297, bk_M_delete_300, bk_M_delete_325, bk_M_delete_331, cs_M_delete]
          have e2 : t'.1 0 2 = nI (a.1 1) := hRx.1.2.1
          rw [e2, q_lt (by omega) (by omega)]
          refine ⟨fun _ => ?_, fun q => absurd (by omega) q⟩
          have hfin : RM t' (a_del a (a_gB a x')) := RM_of hRx (fun j _ j2 _ z => by
            have : (a_del a (a_gB a x')).1 1 = a.1 1 := rfl
            omega)
          have := h t' (by rw [g_delete, q_cl (by omega), ci_t ⟨hxi, hxs, hb⟩]; exact hfin)
          rw [fdel, ci_f hb] at this
          exact this
        | succ d ih =>
          intro i t' hi hb hRx hch o2
          have e2 : t'.1 0 2 = nI (a.1 1) := hRx.1.2.1
          refine hJ 4 _ _ _ _ ?_
          simp only [Nat.reduceAdd, Nat.reduceLeDiff, Nat.zero_le, true_or, or_true, run_s, e_nop, e_iconst, e_bipush, e_sipush, e_lconst, e_iload, e_iload_n, e_lload, e_lload_n, e_aload, e_aload_n, e_istore, e_istore_n, e_iinc, e_iadd, e_isub, e_imul, e_lcmp, e_dupI, e_dupR, e_dup2, e_getfield, e_putfield, e_iaload, e_baload, e_laload, e_iastore, e_bastore, e_lastore, e_if, e_icmp, e_goto, e_tsw, e_ireturn0, e_ireturn1, e_return, e_call0, e_call1, e_call2, e_call3, lI_e, lL_e, lR_e, ak_nth, ak_set, ak_ok1, ak_jp, ak_b1, ak_b2, ak_sw, ak_la, ak_pad, true_and, and_true, List.map_cons, List.map_nil, List.sum_cons, List.sum_nil, Value.category, Option.toList_some, Option.toList_none, List.cons_append, List.nil_append, gM_0_0, pM_0_0, gM_0_1, pM_0_1, gM_0_2, pM_0_2, gM_0_3, pM_0_3, gM_0_4, gM_0_5, gM_0_6, gM_0_7, gM_0_8, gM_0_9, gM_0_10, gM_0_11, gM_0_12, gM_0_13, gM_0_14, gM_0_15, gM_0_16, rM_0, kM_1, kM_2, kM_3, kM_4, kM_5, kM_6, kM_7, kM_8, kM_9, kM_10, kM_11, kM_12, kM_13, fd_M_delete_0, fd_M_delete_16, fd_M_delete_29, fd_M_delete_31, fd_M_delete_52, fd_M_delete_53, fd_M_delete_67, fd_M_delete_69, fd_M_delete_81, fd_M_delete_86, fd_M_delete_159, fd_M_delete_174, fd_M_delete_175, fd_M_delete_183, fd_M_delete_186, fd_M_delete_208, fd_M_delete_245, fd_M_delete_251, fd_M_delete_254, fd_M_delete_291, fd_M_delete_297, fd_M_delete_300, fd_M_delete_325, fd_M_delete_331, bk_M_delete_0, bk_M_delete_16, bk_M_delete_29, bk_M_delete_31, bk_M_delete_52, bk_M_delete_53, bk_M_delete_67, bk_M_delete_69, bk_M_delete_81, bk_M_delete_86, bk_M_delete_159, bk_M_delete_174, bk_M_delete_175, bk_M_delete_183, bk_M_delete_186, bk_M_delete_208, bk_M_delete_245, bk_M_delete_251, bk_M_delete_254, bk_M_delete_291, bk_M_delete_297, bk_M_delete_300, bk_M_delete_325, bk_M_delete_331, cs_M_delete, pt_M_right, nI_1]
          rw [e2, q_lt (by omega) (by omega), q_cl (by omega)]
          refine ⟨fun q => absurd q (by omega), fun _ => ⟨q_in (by omega) (by omega), fun q => ?_, fun q => ?_⟩⟩
          · have hq := (hch (i + 1) (by omega) (by omega)).mp q
            refine ih (i + 1) t' (by omega) hb ?_ hch _
            obtain ⟨r1, r2, r3, r4, r5, r6⟩ := hRx
            refine ⟨r1, r2, r3, r4, fun j p b1 b2 b3 b4 b5 => r5 j p b1 b2 b3 b4 (fun z => ?_), r6⟩
            by_cases e : j = i + 1
            · rw [e] at z; exact hq z.2
            · exact b5 ⟨by omega, z.2⟩
          · have hq : a_gB a x' (i + 1) = true ∨ a_chg a (a_gB a x') (i + 1) = true := Classical.byContradiction (fun z => q ((hch (i + 1) (by omega) (by omega)).mpr z))
            refine ⟨a.1 1, i + 1, by omega, rfl, by omega, rfl, ?_⟩
            refine ih (i + 1) _ (by omega) hb ?_ (fun j j1 j2 => by rw [m_right_o (by decide)]; exact hch j j1 j2) _
            obtain ⟨r1, r2, r3, r4, r5, r6⟩ := m_delRight hA hgT hRx (by omega) (by omega) hq
            refine ⟨r1, r2, r3, r4, fun j p b1 b2 b3 b4 b5 => r5 j p b1 b2 b3 b4 (fun z => ?_), r6⟩
            exact b5 ⟨by have := z.1.1; have := z.2; omega, z.1.2⟩
      -- loop 5
      have loop5 : ∀ d i (t' : ak_S), i + d = a.1 1 → ¬ a_bar a (a_gB a x') → m_F t0 t' → (∀ j, 1 ≤ j → j ≤ a.1 1 → t'.1 6 j = nI (if j ≤ i then m_st ((a_del a (a_gB a x')).2.1 5 j) else m_st ((a_rw a (a_gB a x')).2.1 5 j))) → (∀ j, j ≤ 250 → t'.1 7 j = nI ((a_rw a (a_gB a x')).2.1 6 j)) → (∀ j, t'.1 8 j = t0.1 8 j) → (∀ j, 1 ≤ j → j ≤ a.1 1 → (t'.1 11 j = 0 ↔ ¬ (a_gB a x' j = true ∨ a_chg a (a_gB a x') j = true))) → ∀ o2 : Option Value, J 254 [some (.ref 0), some (.int (nI x')), o2, some (.int (nI (cn (a_gB a x') (a.1 1)))), some (.int (nI (i + 1)))] [] t' := by
        intro d
        induction d with
        | zero =>
          intro i t' hi hb hF h6 h7 h8 hch o2
          have e : i = a.1 1 := by omega
          subst e
          refine hJ 3 _ _ _ _ ?_
          simp only [Nat.reduceAdd, Nat.reduceLeDiff, Nat.zero_le, true_or, or_true, run_s, e_nop, e_iconst, e_bipush, e_sipush, e_lconst, e_iload, e_iload_n, e_lload, e_lload_n, e_aload, e_aload_n, e_istore, e_istore_n, e_iinc, e_iadd, e_isub, e_imul, e_lcmp, e_dupI, e_dupR, e_dup2, e_getfield, e_putfield, e_iaload, e_baload, e_laload, e_iastore, e_bastore, e_lastore, e_if, e_icmp, e_goto, e_tsw, e_ireturn0, e_ireturn1, e_return, e_call0, e_call1, e_call2, e_call3, lI_e, lL_e, lR_e, ak_nth, ak_set, ak_ok1, ak_jp, ak_b1, ak_b2, ak_sw, ak_la, ak_pad, true_and, and_true, List.map_cons, List.map_nil, List.sum_cons, List.sum_nil, Value.category, Option.toList_some, Option.toList_none, List.cons_append, List.nil_append, gM_0_0, pM_0_0, gM_0_1, pM_0_1, gM_0_2, pM_0_2, gM_0_3, pM_0_3, gM_0_4, gM_0_5, gM_0_6, gM_0_7, gM_0_8, gM_0_9, gM_0_10, gM_0_11, gM_0_12, gM_0_13, gM_0_14, gM_0_15, gM_0_16, rM_0, kM_1, kM_2, kM_3, kM_4, kM_5, kM_6, kM_7, kM_8, kM_9, kM_10, kM_11, kM_12, kM_13, fd_M_delete_0, fd_M_delete_16, fd_M_delete_29, fd_M_delete_31, fd_M_delete_52, fd_M_delete_53, fd_M_delete_67, fd_M_delete_69, fd_M_delete_81, fd_M_delete_86, fd_M_delete_159, fd_M_delete_174, fd_M_delete_175, fd_M_delete_183, fd_M_delete_186, fd_M_delete_208, fd_M_delete_245, fd_M_delete_251, fd_M_delete_254, fd_M_delete_291, fd_M_delete_297, fd_M_delete_300, fd_M_delete_325, fd_M_delete_331, bk_M_delete_0, bk_M_delete_16, bk_M_delete_29, bk_M_delete_31, bk_M_delete_52, bk_M_delete_53, bk_M_delete_67, bk_M_delete_69, bk_M_delete_81, bk_M_delete_86, bk_M_delete_159, bk_M_delete_174, bk_M_delete_175, bk_M_delete_183, bk_M_delete_186, bk_M_delete_208, bk_M_delete_245, bk_M_delete_251, bk_M_delete_254, bk_M_delete_291, bk_M_delete_297, bk_M_delete_300, bk_M_delete_325, bk_M_delete_331, cs_M_delete]
          have e2 : t'.1 0 2 = nI (a.1 1) := by rw [hF.1 0 2 (by decide) (by decide) (by decide) (by decide) (by decide)]; exact hR0.1.2.1
          rw [e2, q_lt (by omega) (by omega)]
          refine ⟨fun _ => ?_, fun q => absurd (by omega) q⟩
          have hrows := m_delRows hA hR0 (T := a_gB a x') hF (fun j j1 j2 => by rw [h6 j j1 j2, if_pos j2]) h7 h8 (fun j j1 j2 hj => by
            obtain ⟨_, _, hr⟩ := a_gB_t.mp hj
            have := hr (fun y => a.2.1 5 y = 1) hxs (fun y k hy y1 y2 k1 k2 htk => by
              rcases htk with w | w
              · exact w.1
              · exact (hA.2.2.2.2.1 k (by omega) (by omega)).2.2)
            exact this)
          refine loop6 (a.1 1) 0 t' (by omega) hb ?_ hch _
          obtain ⟨r1, r2, r3, r4, r5, r6⟩ := hrows
          exact ⟨r1, r2, r3, r4, fun j p b1 b2 b3 b4 b5 => r5 j p b1 b2 b3 b4 (fun z => b5 ⟨by omega, z⟩), r6⟩
        | succ d ih =>
          intro i t' hi hb hF h6 h7 h8 hch o2
          have e2 : t'.1 0 2 = nI (a.1 1) := by rw [hF.1 0 2 (by decide) (by decide) (by decide) (by decide) (by decide)]; exact hR0.1.2.1
          have hb5 : (a_rw a (a_gB a x')).2.1 5 (i + 1) ≤ 2 := by
            rw [rw_5]
            have := (hA.2.2.1 (i + 1) (by omega)).2.2.1
            split <;> omega
          have e6 := h6 (i + 1) (by omega) (by omega)
          rw [if_neg (by omega)] at e6
          have z2 : t'.1 6 (i + 1) = 2 ↔ (a_rw a (a_gB a x')).2.1 5 (i + 1) = 2 := by
            rw [e6]
            unfold m_st
            rcases (by omega : (a_rw a (a_gB a x')).2.1 5 (i + 1) = 0 ∨ (a_rw a (a_gB a x')).2.1 5 (i + 1) = 1 ∨ (a_rw a (a_gB a x')).2.1 5 (i + 1) = 2) with z | z | z <;> rw [z] <;> decide
          have hd5 : (a_del a (a_gB a x')).2.1 5 (i + 1) = if (a_rw a (a_gB a x')).2.1 5 (i + 1) = 2 ∧ ac (a_rw a (a_gB a x')) (i + 1) = 0 then 0 else (a_rw a (a_gB a x')).2.1 5 (i + 1) := by
            show (if 1 ≤ i + 1 ∧ i + 1 ≤ a.1 1 ∧ (a_rw a (a_gB a x')).2.1 5 (i + 1) = 2 ∧ ac (a_rw a (a_gB a x')) (i + 1) = 0 then 0 else (a_rw a (a_gB a x')).2.1 5 (i + 1)) = _
            by_cases z : (a_rw a (a_gB a x')).2.1 5 (i + 1) = 2 ∧ ac (a_rw a (a_gB a x')) (i + 1) = 0
            · rw [if_pos z, if_pos ⟨by omega, by omega, z.1, z.2⟩]
            · rw [if_neg z, if_neg (fun w => z ⟨w.2.2.1, w.2.2.2⟩)]
          -- the count
          have hcnt : m_cnt t' (a.1 1) (nI (i + 1)) = ac (a_rw a (a_gB a x')) (i + 1) := by
            unfold m_cnt
            show cn _ (a.1 1) = cn (fun j => decide ((a_rw a (a_gB a x')).2.1 6 j = i + 1)) (a.1 1)
            refine cn_congr (fun j j1 j2 => ?_)
            have hrb : (a_rw a (a_gB a x')).2.1 6 j ≤ 250 := by
              rw [rw_6]
              have := (hA.2.2.1 j (by omega)).2.2.2
              split <;> omega
            rw [decide_eq_decide, h7 j (by omega), nI_eq (by omega) (by omega)]
            refine ⟨fun w => w.2, fun w => ⟨?_, w⟩⟩
            rw [rw_6] at w
            by_cases wT : a_gB a x' j = true
            · rw [if_pos wT] at w; omega
            · rw [if_neg wT] at w
              have st1 := (hA.2.2.2.2.1 j (by omega) (by omega)).2.2
              rw [h6 j j1 j2]
              have r5 : (a_rw a (a_gB a x')).2.1 5 j = 1 := by rw [rw_5, if_neg wT]; exact st1
              have d5 : (a_del a (a_gB a x')).2.1 5 j = 1 := by
                show (if 1 ≤ j ∧ j ≤ a.1 1 ∧ (a_rw a (a_gB a x')).2.1 5 j = 2 ∧ ac (a_rw a (a_gB a x')) j = 0 then 0 else (a_rw a (a_gB a x')).2.1 5 j) = 1
                rw [r5, if_neg (fun z => by have := z.2.2.1; omega)]
              rw [r5, d5]
              split <;> rfl
          have hcb : ac (a_rw a (a_gB a x')) (i + 1) ≤ a.1 1 := cn_le _ _
          have ez : nI (ac (a_rw a (a_gB a x')) (i + 1)) = 0 ↔ ac (a_rw a (a_gB a x')) (i + 1) = 0 := by rw [n_0]; exact nI_eq (by omega) (by omega)
          have keep : ¬ ((a_rw a (a_gB a x')).2.1 5 (i + 1) = 2 ∧ ac (a_rw a (a_gB a x')) (i + 1) = 0) → J 254 [some (.ref 0), some (.int (nI x')), o2, some (.int (nI (cn (a_gB a x') (a.1 1)))), some (.int (nI (i + 1 + 1)))] [] t' := by
            intro z
            refine ih (i + 1) t' (by omega) hb hF (fun j j1 j2 => ?_) h7 h8 hch _
            by_cases e : j = i + 1
            · rw [if_pos (by omega), e, e6, hd5, if_neg z]
            · rw [h6 j j1 j2]
              by_cases w : j ≤ i
              · rw [if_pos w, if_pos (by omega)]
              · rw [if_neg w, if_neg (by omega)]
          refine hJ 4 _ _ _ _ ?_
          simp only [Nat.reduceAdd, Nat.reduceLeDiff, Nat.zero_le, true_or, or_true, run_s, e_nop, e_iconst, e_bipush, e_sipush, e_lconst, e_iload, e_iload_n, e_lload, e_lload_n, e_aload, e_aload_n, e_istore, e_istore_n, e_iinc, e_iadd, e_isub, e_imul, e_lcmp, e_dupI, e_dupR, e_dup2, e_getfield, e_putfield, e_iaload, e_baload, e_laload, e_iastore, e_bastore, e_lastore, e_if, e_icmp, e_goto, e_tsw, e_ireturn0, e_ireturn1, e_return, e_call0, e_call1, e_call2, e_call3, lI_e, lL_e, lR_e, ak_nth, ak_set, ak_ok1, ak_jp, ak_b1, ak_b2, ak_sw, ak_la, ak_pad, true_and, and_true, List.map_cons, List.map_nil, List.sum_cons, List.sum_nil, Value.category, Option.toList_some, Option.toList_none, List.cons_append, List.nil_append, gM_0_0, pM_0_0, gM_0_1, pM_0_1, gM_0_2, pM_0_2, gM_0_3, pM_0_3, gM_0_4, gM_0_5, gM_0_6, gM_0_7, gM_0_8, gM_0_9, gM_0_10, gM_0_11, gM_0_12, gM_0_13, gM_0_14, gM_0_15, gM_0_16, rM_0, kM_1, kM_2, kM_3, kM_4, kM_5, kM_6, kM_7, kM_8, kM_9, kM_10, kM_11, kM_12, kM_13, fd_M_delete_0, fd_M_delete_16, fd_M_delete_29, fd_M_delete_31, fd_M_delete_52, fd_M_delete_53, fd_M_delete_67, fd_M_delete_69, fd_M_delete_81, fd_M_delete_86, fd_M_delete_159, fd_M_delete_174, fd_M_delete_175, fd_M_delete_183, fd_M_delete_186, fd_M_delete_208, fd_M_delete_245, fd_M_delete_251, fd_M_delete_254, fd_M_delete_291, fd_M_delete_297, fd_M_delete_300, fd_M_delete_325, fd_M_delete_331, bk_M_delete_0, bk_M_delete_16, bk_M_delete_29, bk_M_delete_31, bk_M_delete_52, bk_M_delete_53, bk_M_delete_67, bk_M_delete_69, bk_M_delete_81, bk_M_delete_86, bk_M_delete_159, bk_M_delete_174, bk_M_delete_175, bk_M_delete_183, bk_M_delete_186, bk_M_delete_208, bk_M_delete_245, bk_M_delete_251, bk_M_delete_254, bk_M_delete_291, bk_M_delete_297, bk_M_delete_300, bk_M_delete_325, bk_M_delete_331, cs_M_delete, pt_M_countOf, nI_1]
          rw [e2, q_lt (by omega) (by omega), q_cl (by omega), z2]
          refine ⟨fun q => absurd q (by omega), fun _ => ⟨q_in (by omega) (by omega), fun q => keep (fun z => q z.1), fun q => ⟨a.1 1, by omega, rfl, ?_⟩⟩⟩
          rw [hcnt, ez]
          refine ⟨fun q2 => keep (fun z => q2 z.2), fun q2 => ⟨q_in (by omega) (by omega), ?_⟩⟩
          refine ih (i + 1) _ (by omega) hb (m_F_p hF (Or.inl rfl)) (fun j j1 j2 => ?_) (fun j hj => by rw [p1_o (by decide)]; exact h7 j hj) (fun j => by rw [p1_o (by decide)]; exact h8 j) (fun j j1 j2 => by rw [p1_o (by decide)]; exact hch j j1 j2) _
          rw [p1_s]
          by_cases e : j = i + 1
          · rw [if_pos e, if_pos (by omega), e, hd5, if_pos ⟨q, q2⟩]; rfl
          · rw [if_neg e, h6 j j1 j2]
            by_cases w : j ≤ i
            · rw [if_pos w, if_pos (by omega)]
            · rw [if_neg w, if_neg (by omega)]
      -- loop 4
      have loop4 : ∀ d i (t' : ak_S), i + d = a.1 1 → ¬ a_bar a (a_gB a x') → m_F t0 t' → (∀ j, 1 ≤ j → j ≤ a.1 1 → t'.1 6 j = nI (m_st (if j ≤ i then (a_rw a (a_gB a x')).2.1 5 j else a.2.1 5 j))) → (∀ j, j ≤ 250 → t'.1 7 j = nI (if 1 ≤ j ∧ j ≤ i then (a_rw a (a_gB a x')).2.1 6 j else a.2.1 6 j)) → (∀ j, t'.1 8 j = t0.1 8 j) → (∀ j, j ≤ 250 → (t'.1 10 j = 0 ↔ ¬ a_gB a x' j = true)) → (∀ j, 1 ≤ j → j ≤ a.1 1 → (t'.1 11 j = 0 ↔ ¬ ((j ≤ i ∧ a_gB a x' j = true) ∨ ∃ e, 1 ≤ e ∧ e ≤ i ∧ a_gB a x' e = true ∧ a.2.1 6 e = j))) → ∀ o2 : Option Value, J 186 [some (.ref 0), some (.int (nI x')), o2, some (.int (nI (cn (a_gB a x') (a.1 1)))), some (.int (nI (i + 1)))] [] t' := by
        intro d
        induction d with
        | zero =>
          intro i t' hi hb hF h6 h7 h8 h10 h11 o2
          have e : i = a.1 1 := by omega
          subst e
          refine hJ 3 _ _ _ _ ?_
          simp only [Nat.reduceAdd, Nat.reduceLeDiff, Nat.zero_le, true_or, or_true, run_s, e_nop, e_iconst, e_bipush, e_sipush, e_lconst, e_iload, e_iload_n, e_lload, e_lload_n, e_aload, e_aload_n, e_istore, e_istore_n, e_iinc, e_iadd, e_isub, e_imul, e_lcmp, e_dupI, e_dupR, e_dup2, e_getfield, e_putfield, e_iaload, e_baload, e_laload, e_iastore, e_bastore, e_lastore, e_if, e_icmp, e_goto, e_tsw, e_ireturn0, e_ireturn1, e_return, e_call0, e_call1, e_call2, e_call3, lI_e, lL_e, lR_e, ak_nth, ak_set, ak_ok1, ak_jp, ak_b1, ak_b2, ak_sw, ak_la, ak_pad, true_and, and_true, List.map_cons, List.map_nil, List.sum_cons, List.sum_nil, Value.category, Option.toList_some, Option.toList_none, List.cons_append, List.nil_append, gM_0_0, pM_0_0, gM_0_1, pM_0_1, gM_0_2, pM_0_2, gM_0_3, pM_0_3, gM_0_4, gM_0_5, gM_0_6, gM_0_7, gM_0_8, gM_0_9, gM_0_10, gM_0_11, gM_0_12, gM_0_13, gM_0_14, gM_0_15, gM_0_16, rM_0, kM_1, kM_2, kM_3, kM_4, kM_5, kM_6, kM_7, kM_8, kM_9, kM_10, kM_11, kM_12, kM_13, fd_M_delete_0, fd_M_delete_16, fd_M_delete_29, fd_M_delete_31, fd_M_delete_52, fd_M_delete_53, fd_M_delete_67, fd_M_delete_69, fd_M_delete_81, fd_M_delete_86, fd_M_delete_159, fd_M_delete_174, fd_M_delete_175, fd_M_delete_183, fd_M_delete_186, fd_M_delete_208, fd_M_delete_245, fd_M_delete_251, fd_M_delete_254, fd_M_delete_291, fd_M_delete_297, fd_M_delete_300, fd_M_delete_325, fd_M_delete_331, bk_M_delete_0, bk_M_delete_16, bk_M_delete_29, bk_M_delete_31, bk_M_delete_52, bk_M_delete_53, bk_M_delete_67, bk_M_delete_69, bk_M_delete_81, bk_M_delete_86, bk_M_delete_159, bk_M_delete_174, bk_M_delete_175, bk_M_delete_183, bk_M_delete_186, bk_M_delete_208, bk_M_delete_245, bk_M_delete_251, bk_M_delete_254, bk_M_delete_291, bk_M_delete_297, bk_M_delete_300, bk_M_delete_325, bk_M_delete_331, cs_M_delete]
          have e2 : t'.1 0 2 = nI (a.1 1) := by rw [hF.1 0 2 (by decide) (by decide) (by decide) (by decide) (by decide)]; exact hR0.1.2.1
          rw [e2, q_lt (by omega) (by omega)]
          refine ⟨fun _ => ?_, fun q => absurd (by omega) q⟩
          refine loop5 (a.1 1) 0 t' (by omega) hb hF (fun j j1 j2 => by rw [h6 j j1 j2, if_pos j2, if_neg (by omega)]) (fun j hj => ?_) h8 (fun j j1 j2 => ?_) _
          · rw [h7 j hj]
            by_cases z : 1 ≤ j ∧ j ≤ a.1 1
            · rw [if_pos z]
            · rw [if_neg z, rw_6, if_neg (fun w => z (hgT j w))]
          · rw [h11 j j1 j2]
            have : a_chg a (a_gB a x') j = true ↔ ∃ e, 1 ≤ e ∧ e ≤ a.1 1 ∧ a_gB a x' e = true ∧ a.2.1 6 e = j := by
              unfold a_chg
              rw [decide_eq_true_eq, cn_ex]
              simp only [Bool.and_eq_true, decide_eq_true_eq]
            rw [this]
            refine not_congr ⟨fun z => ?_, fun z => ?_⟩
            · rcases z with z | z
              · exact Or.inl z.2
              · exact Or.inr z
            · rcases z with z | z
              · exact Or.inl ⟨j2, z⟩
              · exact Or.inr z
        | succ d ih =>
          intro i t' hi hb hF h6 h7 h8 h10 h11 o2
          have e2 : t'.1 0 2 = nI (a.1 1) := by rw [hF.1 0 2 (by decide) (by decide) (by decide) (by decide) (by decide)]; exact hR0.1.2.1
          have e7 := h7 (i + 1) (by omega)
          rw [if_neg (by omega)] at e7
          have rb := (hA.2.2.1 (i + 1) (by omega)).2.2.2
          refine hJ 4 _ _ _ _ ?_
          simp only [Nat.reduceAdd, Nat.reduceLeDiff, Nat.zero_le, true_or, or_true, run_s, e_nop, e_iconst, e_bipush, e_sipush, e_lconst, e_iload, e_iload_n, e_lload, e_lload_n, e_aload, e_aload_n, e_istore, e_istore_n, e_iinc, e_iadd, e_isub, e_imul, e_lcmp, e_dupI, e_dupR, e_dup2, e_getfield, e_putfield, e_iaload, e_baload, e_laload, e_iastore, e_bastore, e_lastore, e_if, e_icmp, e_goto, e_tsw, e_ireturn0, e_ireturn1, e_return, e_call0, e_call1, e_call2, e_call3, lI_e, lL_e, lR_e, ak_nth, ak_set, ak_ok1, ak_jp, ak_b1, ak_b2, ak_sw, ak_la, ak_pad, true_and, and_true, List.map_cons, List.map_nil, List.sum_cons, List.sum_nil, Value.category, Option.toList_some, Option.toList_none, List.cons_append, List.nil_append, gM_0_0, pM_0_0, gM_0_1, pM_0_1, gM_0_2, pM_0_2, gM_0_3, pM_0_3, gM_0_4, gM_0_5, gM_0_6, gM_0_7, gM_0_8, gM_0_9, gM_0_10, gM_0_11, gM_0_12, gM_0_13, gM_0_14, gM_0_15, gM_0_16, rM_0, kM_1, kM_2, kM_3, kM_4, kM_5, kM_6, kM_7, kM_8, kM_9, kM_10, kM_11, kM_12, kM_13, fd_M_delete_0, fd_M_delete_16, fd_M_delete_29, fd_M_delete_31, fd_M_delete_52, fd_M_delete_53, fd_M_delete_67, fd_M_delete_69, fd_M_delete_81, fd_M_delete_86, fd_M_delete_159, fd_M_delete_174, fd_M_delete_175, fd_M_delete_183, fd_M_delete_186, fd_M_delete_208, fd_M_delete_245, fd_M_delete_251, fd_M_delete_254, fd_M_delete_291, fd_M_delete_297, fd_M_delete_300, fd_M_delete_325, fd_M_delete_331, bk_M_delete_0, bk_M_delete_16, bk_M_delete_29, bk_M_delete_31, bk_M_delete_52, bk_M_delete_53, bk_M_delete_67, bk_M_delete_69, bk_M_delete_81, bk_M_delete_86, bk_M_delete_159, bk_M_delete_174, bk_M_delete_175, bk_M_delete_183, bk_M_delete_186, bk_M_delete_208, bk_M_delete_245, bk_M_delete_251, bk_M_delete_254, bk_M_delete_291, bk_M_delete_297, bk_M_delete_300, bk_M_delete_325, bk_M_delete_331, cs_M_delete, nI_1, p1_o, ne_eq, Nat.reduceEqDiff, not_false_eq_true]
          rw [e2, q_lt (by omega) (by omega), q_cl (a := i + 1) (by omega), e7, q_cl (by omega), h10 (i + 1) (by omega)]
          have e1 : (1 : Int32) &&& 1 = 1 := by decide
          rw [e1]
          refine ⟨fun q => absurd q (by omega), fun _ => ⟨q_in (by omega) (by omega), fun q => ?_, fun q => ?_⟩⟩
          · have q := Classical.not_not.mp q
            refine ⟨q_in (by omega) (by omega), q_in (by omega) (by omega), q_in (by omega) (by omega), q_in (by omega) (by omega), q_in (by omega) (by omega), ?_⟩
            refine ih (i + 1) _ (by omega) hb (m_F_p (m_F_p (m_F_p (m_F_p hF (Or.inl rfl)) (by omega)) (by omega)) (by omega)) (fun j j1 j2 => ?_) (fun j hj => ?_) (fun j => ?_) (fun j hj => ?_) (fun j j1 j2 => ?_) _
            · rw [p1_o (by decide), p1_o (by decide), p1_o (by decide), p1_s]
              by_cases e : j = i + 1
              · rw [if_pos e, if_pos (by omega), e, rw_5, if_pos q]; rfl
              · rw [if_neg e, h6 j j1 j2]
                by_cases w : j ≤ i
                · rw [if_pos w, if_pos (by omega)]
                · rw [if_neg w, if_neg (by omega)]
            · rw [p1_s]
              by_cases e : j = i + 1
              · rw [if_pos e, if_pos ⟨by omega, by omega⟩, e, rw_6, if_pos q]; rfl
              · rw [if_neg e, p1_o (by decide), p1_o (by decide), p1_o (by decide), h7 j hj]
                by_cases w : 1 ≤ j ∧ j ≤ i
                · rw [if_pos w, if_pos ⟨w.1, by omega⟩]
                · rw [if_neg w, if_neg (fun z => w ⟨z.1, by omega⟩)]
            · rw [p1_o (by decide), p1_o (by decide), p1_o (by decide), p1_o (by decide)]; exact h8 j
            · rw [p1_o (by decide), p1_o (by decide), p1_o (by decide), p1_o (by decide)]; exact h10 j hj
            · rw [p1_o (by decide), p1_s, p1_s, p1_o (by decide)]
              by_cases w1 : j = a.2.1 6 (i + 1)
              · rw [if_pos w1]
                exact ⟨fun z => absurd z (by decide), fun z => absurd (Or.inr ⟨i + 1, by omega, by omega, q, w1.symm⟩) z⟩
              · rw [if_neg w1]
                by_cases w2 : j = i + 1
                · rw [if_pos w2]
                  exact ⟨fun z => absurd z (by decide), fun z => absurd (Or.inl ⟨by omega, by rw [w2]; exact q⟩) z⟩
                · rw [if_neg w2, h11 j j1 j2]
                  refine not_congr ⟨fun z => ?_, fun z => ?_⟩
                  · rcases z with z | ⟨e, z1, z2, z3, z4⟩
                    · exact Or.inl ⟨by omega, z.2⟩
                    · exact Or.inr ⟨e, z1, by omega, z3, z4⟩
                  · rcases z with z | ⟨e, z1, z2, z3, z4⟩
                    · exact Or.inl ⟨by omega, z.2⟩
                    · refine Or.inr ⟨e, z1, ?_, z3, z4⟩
                      by_cases w3 : e = i + 1
                      · subst w3; exact absurd z4.symm w1
                      · omega
          · refine ih (i + 1) t' (by omega) hb hF (fun j j1 j2 => ?_) (fun j hj => ?_) h8 h10 (fun j j1 j2 => ?_) _
            · rw [h6 j j1 j2]
              by_cases e : j = i + 1
              · rw [if_neg (by omega), if_pos (by omega), e, rw_5, if_neg q]
              · by_cases w : j ≤ i
                · rw [if_pos w, if_pos (by omega)]
                · rw [if_neg w, if_neg (by omega)]
            · rw [h7 j hj]
              by_cases e : j = i + 1
              · rw [if_neg (by omega), if_pos ⟨by omega, by omega⟩, e, rw_6, if_neg q]
              · by_cases w : 1 ≤ j ∧ j ≤ i
                · rw [if_pos w, if_pos ⟨w.1, by omega⟩]
                · rw [if_neg w, if_neg (fun z => w ⟨z.1, by omega⟩)]
            · rw [h11 j j1 j2]
              refine not_congr ⟨fun z => ?_, fun z => ?_⟩
              · rcases z with z | ⟨e, z1, z2, z3, z4⟩
                · exact Or.inl ⟨by omega, z.2⟩
                · exact Or.inr ⟨e, z1, by omega, z3, z4⟩
              · rcases z with z | ⟨e, z1, z2, z3, z4⟩
                · refine Or.inl ⟨?_, z.2⟩
                  by_cases w3 : j = i + 1
                  · subst w3; exact absurd z.2 q
                  · omega
                · refine Or.inr ⟨e, z1, ?_, z3, z4⟩
                  by_cases w3 : e = i + 1
                  · subst w3; exact absurd z3 q
                  · omega
      -- loop 3
      have loop3 : ∀ d i (t' : ak_S), i + d = a.1 1 → m_F t0 t' → (∀ j, t'.1 6 j = t0.1 6 j) → (∀ j, t'.1 7 j = t0.1 7 j) → (∀ j, t'.1 8 j = t0.1 8 j) → (∀ j, j ≤ 250 → (t'.1 10 j = 0 ↔ ¬ a_gB a x' j = true)) → (∀ j, j ≤ 250 → t'.1 11 j = 0) → (∀ j, 1 ≤ j → j ≤ i → ¬ (a_gB a x' j = false ∧ a.2.1 6 j ≠ 0 ∧ a_gB a x' (a.2.1 6 j) = true ∧ a.2.1 2 (a.2.1 3 j) = 0)) → ∀ z2 : Int32, J 86 [some (.ref 0), some (.int (nI x')), some (.int z2), some (.int (nI (cn (a_gB a x') i))), some (.int (nI (i + 1)))] [] t' := by
        intro d
        induction d with
        | zero =>
          intro i t' hi hF h6 h7 h8 h10 h11 hnb z2
          have e : i = a.1 1 := by omega
          subst e
          have hR' := RM_same hR0 hF h6 h7 h8
          refine hJ 3 _ _ _ _ ?_
          simp only [Nat.reduceAdd, Nat.reduceLeDiff, Nat.zero_le, true_or, or_true, run_s, e_nop, e_iconst, e_bipush, e_sipush, e_lconst, e_iload, e_iload_n, e_lload, e_lload_n, e_aload, e_aload_n, e_istore, e_istore_n, e_iinc, e_iadd, e_isub, e_imul, e_lcmp, e_dupI, e_dupR, e_dup2, e_getfield, e_putfield, e_iaload, e_baload, e_laload, e_iastore, e_bastore, e_lastore, e_if, e_icmp, e_goto, e_tsw, e_ireturn0, e_ireturn1, e_return, e_call0, e_call1, e_call2, e_call3, lI_e, lL_e, lR_e, ak_nth, ak_set, ak_ok1, ak_jp, ak_b1, ak_b2, ak_sw, ak_la, ak_pad, true_and, and_true, List.map_cons, List.map_nil, List.sum_cons, List.sum_nil, Value.category, Option.toList_some, Option.toList_none, List.cons_append, List.nil_append, gM_0_0, pM_0_0, gM_0_1, pM_0_1, gM_0_2, pM_0_2, gM_0_3, pM_0_3, gM_0_4, gM_0_5, gM_0_6, gM_0_7, gM_0_8, gM_0_9, gM_0_10, gM_0_11, gM_0_12, gM_0_13, gM_0_14, gM_0_15, gM_0_16, rM_0, kM_1, kM_2, kM_3, kM_4, kM_5, kM_6, kM_7, kM_8, kM_9, kM_10, kM_11, kM_12, kM_13, fd_M_delete_0, fd_M_delete_16, fd_M_delete_29, fd_M_delete_31, fd_M_delete_52, fd_M_delete_53, fd_M_delete_67, fd_M_delete_69, fd_M_delete_81, fd_M_delete_86, fd_M_delete_159, fd_M_delete_174, fd_M_delete_175, fd_M_delete_183, fd_M_delete_186, fd_M_delete_208, fd_M_delete_245, fd_M_delete_251, fd_M_delete_254, fd_M_delete_291, fd_M_delete_297, fd_M_delete_300, fd_M_delete_325, fd_M_delete_331, bk_M_delete_0, bk_M_delete_16, bk_M_delete_29, bk_M_delete_31, bk_M_delete_52, bk_M_delete_53, bk_M_delete_67, bk_M_delete_69, bk_M_delete_81, bk_M_delete_86, bk_M_delete_159, bk_M_delete_174, bk_M_delete_175, bk_M_delete_183, bk_M_delete_186, bk_M_delete_208, bk_M_delete_245, bk_M_delete_251, bk_M_delete_254, bk_M_delete_291, bk_M_delete_297, bk_M_delete_300, bk_M_delete_325, bk_M_delete_331, cs_M_delete]
          rw [hR'.1.2.1, q_lt (by omega) (by omega)]
          refine ⟨fun _ => ?_, fun q => absurd (by omega) q⟩
          refine loop4 (a.1 1) 0 t' (by omega) (fun ⟨j, j1, j2, z⟩ => hnb j j1 j2 z) hF (fun j j1 j2 => ?_) (fun j hj => ?_) h8 h10 (fun j j1 j2 => ?_) _
          · rw [if_neg (by omega)]; exact hR'.2.2.2.1 j j1 j2
          · rw [if_neg (by omega)]; exact (hR'.2.2.1 j hj).2.2.2
          · rw [h11 j (by omega)]
            refine ⟨fun _ z => ?_, fun _ => rfl⟩
            rcases z with z | ⟨e, z1, z2, _⟩
            · omega
            · omega
        | succ d ih =>
          intro i t' hi hF h6 h7 h8 h10 h11 hnb z2
          have hR' := RM_same hR0 hF h6 h7 h8
          obtain ⟨b1, _, _, b4⟩ := hR'.2.2.1 (i + 1) (by omega)
          obtain ⟨c1, _, c3, c4⟩ := hA.2.2.1 (i + 1) (by omega)
          have r := (hR'.2.1 (a.2.1 3 (i + 1)) (by omega)).2.2
          have rb := (hA.2.1 (a.2.1 3 (i + 1)) (by omega)).2.2
          have s1 := (stM hA hR' (show 1 ≤ i + 1 by omega) (by omega)).1
          have er0 : nI (a.2.1 6 (i + 1)) = 0 ↔ a.2.1 6 (i + 1) = 0 := by rw [n_0]; exact nI_eq (by omega) (by omega)
          have eru : nI (a.2.1 2 (a.2.1 3 (i + 1))) = 0 ↔ a.2.1 2 (a.2.1 3 (i + 1)) = 0 := by rw [n_0]; exact nI_eq (by omega) (by omega)
          have go : ¬ (a_gB a x' (i + 1) = false ∧ a.2.1 6 (i + 1) ≠ 0 ∧ a_gB a x' (a.2.1 6 (i + 1)) = true ∧ a.2.1 2 (a.2.1 3 (i + 1)) = 0) → J 159 [some (.ref 0), some (.int (nI x')), some (.int z2), some (.int (nI (cn (a_gB a x') i))), some (.int (nI (i + 1)))] [] t' := by
            intro z
            have hh := ih (i + 1) t' (by omega) hF h6 h7 h8 h10 h11 (fun j j1 j2 => by
              by_cases e : j = i + 1
              · rw [e]; exact z
              · exact hnb j j1 (by omega)) z2
            refine hJ 4 _ _ _ _ ?_
            simp only [Nat.reduceAdd, Nat.reduceLeDiff, Nat.zero_le, true_or, or_true, run_s, e_nop, e_iconst, e_bipush, e_sipush, e_lconst, e_iload, e_iload_n, e_lload, e_lload_n, e_aload, e_aload_n, e_istore, e_istore_n, e_iinc, e_iadd, e_isub, e_imul, e_lcmp, e_dupI, e_dupR, e_dup2, e_getfield, e_putfield, e_iaload, e_baload, e_laload, e_iastore, e_bastore, e_lastore, e_if, e_icmp, e_goto, e_tsw, e_ireturn0, e_ireturn1, e_return, e_call0, e_call1, e_call2, e_call3, lI_e, lL_e, lR_e, ak_nth, ak_set, ak_ok1, ak_jp, ak_b1, ak_b2, ak_sw, ak_la, ak_pad, true_and, and_true, List.map_cons, List.map_nil, List.sum_cons, List.sum_nil, Value.category, Option.toList_some, Option.toList_none, List.cons_append, List.nil_append, gM_0_0, pM_0_0, gM_0_1, pM_0_1, gM_0_2, pM_0_2, gM_0_3, pM_0_3, gM_0_4, gM_0_5, gM_0_6, gM_0_7, gM_0_8, gM_0_9, gM_0_10, gM_0_11, gM_0_12, gM_0_13, gM_0_14, gM_0_15, gM_0_16, rM_0, kM_1, kM_2, kM_3, kM_4, kM_5, kM_6, kM_7, kM_8, kM_9, kM_10, kM_11, kM_12, kM_13, fd_M_delete_0, fd_M_delete_16, fd_M_delete_29, fd_M_delete_31, fd_M_delete_52, fd_M_delete_53, fd_M_delete_67, fd_M_delete_69, fd_M_delete_81, fd_M_delete_86, fd_M_delete_159, fd_M_delete_174, fd_M_delete_175, fd_M_delete_183, fd_M_delete_186, fd_M_delete_208, fd_M_delete_245, fd_M_delete_251, fd_M_delete_254, fd_M_delete_291, fd_M_delete_297, fd_M_delete_300, fd_M_delete_325, fd_M_delete_331, bk_M_delete_0, bk_M_delete_16, bk_M_delete_29, bk_M_delete_31, bk_M_delete_52, bk_M_delete_53, bk_M_delete_67, bk_M_delete_69, bk_M_delete_81, bk_M_delete_86, bk_M_delete_159, bk_M_delete_174, bk_M_delete_175, bk_M_delete_183, bk_M_delete_186, bk_M_delete_208, bk_M_delete_245, bk_M_delete_251, bk_M_delete_254, bk_M_delete_291, bk_M_delete_297, bk_M_delete_300, bk_M_delete_325, bk_M_delete_331, cs_M_delete, nI_1]
            have e0 : ∀ z : Nat, nI z + 0 = nI z := fun z => by rw [n_0, nI_add]; rfl
            rw [q_cl (by omega), h10 (i + 1) (by omega), e0]
            refine ⟨q_in (by omega) (by omega), fun q => ?_, fun q => ?_⟩
            · simpa [cn, q] using hh
            · simpa [cn, Classical.not_not.mp q] using hh
          refine hJ 6 _ _ _ _ ?_
          simp only [Nat.reduceAdd, Nat.reduceLeDiff, Nat.zero_le, true_or, or_true, run_s, e_nop, e_iconst, e_bipush, e_sipush, e_lconst, e_iload, e_iload_n, e_lload, e_lload_n, e_aload, e_aload_n, e_istore, e_istore_n, e_iinc, e_iadd, e_isub, e_imul, e_lcmp, e_dupI, e_dupR, e_dup2, e_getfield, e_putfield, e_iaload, e_baload, e_laload, e_iastore, e_bastore, e_lastore, e_if, e_icmp, e_goto, e_tsw, e_ireturn0, e_ireturn1, e_return, e_call0, e_call1, e_call2, e_call3, lI_e, lL_e, lR_e, ak_nth, ak_set, ak_ok1, ak_jp, ak_b1, ak_b2, ak_sw, ak_la, ak_pad, true_and, and_true, List.map_cons, List.map_nil, List.sum_cons, List.sum_nil, Value.category, Option.toList_some, Option.toList_none, List.cons_append, List.nil_append, gM_0_0, pM_0_0, gM_0_1, pM_0_1, gM_0_2, pM_0_2, gM_0_3, pM_0_3, gM_0_4, gM_0_5, gM_0_6, gM_0_7, gM_0_8, gM_0_9, gM_0_10, gM_0_11, gM_0_12, gM_0_13, gM_0_14, gM_0_15, gM_0_16, rM_0, kM_1, kM_2, kM_3, kM_4, kM_5, kM_6, kM_7, kM_8, kM_9, kM_10, kM_11, kM_12, kM_13, fd_M_delete_0, fd_M_delete_16, fd_M_delete_29, fd_M_delete_31, fd_M_delete_52, fd_M_delete_53, fd_M_delete_67, fd_M_delete_69, fd_M_delete_81, fd_M_delete_86, fd_M_delete_159, fd_M_delete_174, fd_M_delete_175, fd_M_delete_183, fd_M_delete_186, fd_M_delete_208, fd_M_delete_245, fd_M_delete_251, fd_M_delete_254, fd_M_delete_291, fd_M_delete_297, fd_M_delete_300, fd_M_delete_325, fd_M_delete_331, bk_M_delete_0, bk_M_delete_16, bk_M_delete_29, bk_M_delete_31, bk_M_delete_52, bk_M_delete_53, bk_M_delete_67, bk_M_delete_69, bk_M_delete_81, bk_M_delete_86, bk_M_delete_159, bk_M_delete_174, bk_M_delete_175, bk_M_delete_183, bk_M_delete_186, bk_M_delete_208, bk_M_delete_245, bk_M_delete_251, bk_M_delete_254, bk_M_delete_291, bk_M_delete_297, bk_M_delete_300, bk_M_delete_325, bk_M_delete_331, cs_M_delete]
          rw [hR'.1.2.1, q_lt (by omega) (by omega), q_cl (a := i + 1) (by omega), s1, b4, b1, q_cl (a := a.2.1 6 (i + 1)) (by omega), q_cl (a := a.2.1 3 (i + 1)) (by omega), r, er0, eru, h10 (i + 1) (by omega), h10 (a.2.1 6 (i + 1)) (by omega)]
          have vi : vp_in (nI (i + 1)) 251 := q_in (by omega) (by omega)
          have vr : vp_in (nI (a.2.1 6 (i + 1))) 251 := q_in (by omega) (by omega)
          have vk : vp_in (nI (a.2.1 3 (i + 1))) 16 := q_in (by omega) (by omega)
          simp only [vi, vr, vk, true_and]
          refine ⟨fun q => absurd q (by omega), fun _ => ⟨fun q1 => go (fun z => q1 (hA.2.2.2.2.1 (i + 1) (by omega) z.2.1).2.2), fun q1 => ⟨fun q2 => go (fun z => q2 (by rw [z.1]; decide)), fun q2 => ⟨fun q3 => go (fun z => z.2.1 q3), fun q3 => ⟨fun q4 => go (fun z => q4 z.2.2.1), fun q4 => ⟨fun q5 => go (fun z => q5 z.2.2.2), fun q5 => ?_⟩⟩⟩⟩⟩⟩
          have hb : a_bar a (a_gB a x') := ⟨i + 1, by omega, by omega, by
            cases w : a_gB a x' (i + 1) with
            | false => rfl
            | true => exact absurd w q2, q3, Classical.not_not.mp q4, q5⟩
          exact same (-5) (by rw [fdel, ci_t hb]) (by rw [g_delete, q_cl (by omega), ci_f (fun z => z.2.2 hb)]) t' hR'
      -- loop 2
      have loop2 : ∀ d (t' : ak_S) (mr : Int32), a.1 1 ≤ cn (fun j => decide (t'.1 10 j = 1)) (a.1 1) + d → m_F t0 t' → (∀ j, t'.1 6 j = t0.1 6 j) → (∀ j, t'.1 7 j = t0.1 7 j) → (∀ j, t'.1 8 j = t0.1 8 j) → (∀ j, j ≤ 250 → t'.1 11 j = 0) → MI a x' (t'.1 10) → (mr = 1 ∨ (mr = 0 ∧ ∀ y j, 1 ≤ y → y ≤ a.1 1 → 1 ≤ j → j ≤ a.1 1 → t'.1 10 y = 1 → a_tk a y j → t'.1 10 j = 1)) → ∀ o3 o4 : Option Value, J 69 [some (.ref 0), some (.int (nI x')), some (.int mr), o3, o4] [] t' := by
        have stop : ∀ (t' : ak_S), m_F t0 t' → (∀ j, t'.1 6 j = t0.1 6 j) → (∀ j, t'.1 7 j = t0.1 7 j) → (∀ j, t'.1 8 j = t0.1 8 j) → (∀ j, j ≤ 250 → t'.1 11 j = 0) → MI a x' (t'.1 10) → (∀ y j, 1 ≤ y → y ≤ a.1 1 → 1 ≤ j → j ≤ a.1 1 → t'.1 10 y = 1 → a_tk a y j → t'.1 10 j = 1) → ∀ o3 o4 : Option Value, J 69 [some (.ref 0), some (.int (nI x')), some (.int 0), o3, o4] [] t' := by
          intro t' hF h6 h7 h8 h11 hM hc o3 o4
          refine hJ 3 _ _ _ _ ?_
          simp only [Nat.reduceAdd, Nat.reduceLeDiff, Nat.zero_le, true_or, or_true, run_s, e_nop, e_iconst, e_bipush, e_sipush, e_lconst, e_iload, e_iload_n, e_lload, e_lload_n, e_aload, e_aload_n, e_istore, e_istore_n, e_iinc, e_iadd, e_isub, e_imul, e_lcmp, e_dupI, e_dupR, e_dup2, e_getfield, e_putfield, e_iaload, e_baload, e_laload, e_iastore, e_bastore, e_lastore, e_if, e_icmp, e_goto, e_tsw, e_ireturn0, e_ireturn1, e_return, e_call0, e_call1, e_call2, e_call3, lI_e, lL_e, lR_e, ak_nth, ak_set, ak_ok1, ak_jp, ak_b1, ak_b2, ak_sw, ak_la, ak_pad, true_and, and_true, List.map_cons, List.map_nil, List.sum_cons, List.sum_nil, Value.category, Option.toList_some, Option.toList_none, List.cons_append, List.nil_append, gM_0_0, pM_0_0, gM_0_1, pM_0_1, gM_0_2, pM_0_2, gM_0_3, pM_0_3, gM_0_4, gM_0_5, gM_0_6, gM_0_7, gM_0_8, gM_0_9, gM_0_10, gM_0_11, gM_0_12, gM_0_13, gM_0_14, gM_0_15, gM_0_16, rM_0, kM_1, kM_2, kM_3, kM_4, kM_5, kM_6, kM_7, kM_8, kM_9, kM_10, kM_11, kM_12, kM_13, fd_M_delete_0, fd_M_delete_16, fd_M_delete_29, fd_M_delete_31, fd_M_delete_52, fd_M_delete_53, fd_M_delete_67, fd_M_delete_69, fd_M_delete_81, fd_M_delete_86, fd_M_delete_159, fd_M_delete_174, fd_M_delete_175, fd_M_delete_183, fd_M_delete_186, fd_M_delete_208, fd_M_delete_245, fd_M_delete_251, fd_M_delete_254, fd_M_delete_291, fd_M_delete_297, fd_M_delete_300, fd_M_delete_325, fd_M_delete_331, bk_M_delete_0, bk_M_delete_16, bk_M_delete_29, bk_M_delete_31, bk_M_delete_52, bk_M_delete_53, bk_M_delete_67, bk_M_delete_69, bk_M_delete_81, bk_M_delete_86, bk_M_delete_159, bk_M_delete_174, bk_M_delete_175, bk_M_delete_183, bk_M_delete_186, bk_M_delete_208, bk_M_delete_245, bk_M_delete_251, bk_M_delete_254, bk_M_delete_291, bk_M_delete_297, bk_M_delete_300, bk_M_delete_325, bk_M_delete_331, cs_M_delete]
          refine ⟨fun _ => ?_, fun z => absurd trivial z⟩
          refine loop3 (a.1 1) 0 t' (by omega) hF h6 h7 h8 (fun j hj => ?_) h11 (fun j j1 j2 => absurd j2 (by omega)) _
          rcases hM.1 j hj with z | z
          · refine ⟨fun _ w => ?_, fun _ => z⟩
            have hr := (a_gB_t.mp w).2.2
            have := hr (fun y => t'.1 10 y = 1) hM.2.1 (fun y k hy y1 y2 k1 k2 htk => hc y k y1 y2 k1 k2 hy htk)
            rw [z] at this
            exact absurd this (by decide)
          · refine ⟨fun w => ?_, fun w => absurd (a_gB_t.mpr (hM.2.2 j hj z)) w⟩
            rw [z] at w
            exact absurd w (by decide)
        intro d
        induction d with
        | zero =>
          intro t' mr hd hF h6 h7 h8 h11 hM hmr o3 o4
          rcases hmr with rfl | ⟨rfl, hc⟩
          · have hR' := RM_same hR0 hF h6 h7 h8
            refine hJ 3 _ _ _ _ ?_
            simp only [Nat.reduceAdd, Nat.reduceLeDiff, Nat.zero_le, true_or, or_true, run_s, e_nop, e_iconst, e_bipush, e_sipush, e_lconst, e_iload, e_iload_n, e_lload, e_lload_n, e_aload, e_aload_n, e_istore, e_istore_n, e_iinc, e_iadd, e_isub, e_imul, e_lcmp, e_dupI, e_dupR, e_dup2, e_getfield, e_putfield, e_iaload, e_baload, e_laload, e_iastore, e_bastore, e_lastore, e_if, e_icmp, e_goto, e_tsw, e_ireturn0, e_ireturn1, e_return, e_call0, e_call1, e_call2, e_call3, lI_e, lL_e, lR_e, ak_nth, ak_set, ak_ok1, ak_jp, ak_b1, ak_b2, ak_sw, ak_la, ak_pad, true_and, and_true, List.map_cons, List.map_nil, List.sum_cons, List.sum_nil, Value.category, Option.toList_some, Option.toList_none, List.cons_append, List.nil_append, gM_0_0, pM_0_0, gM_0_1, pM_0_1, gM_0_2, pM_0_2, gM_0_3, pM_0_3, gM_0_4, gM_0_5, gM_0_6, gM_0_7, gM_0_8, gM_0_9, gM_0_10, gM_0_11, gM_0_12, gM_0_13, gM_0_14, gM_0_15, gM_0_16, rM_0, kM_1, kM_2, kM_3, kM_4, kM_5, kM_6, kM_7, kM_8, kM_9, kM_10, kM_11, kM_12, kM_13, fd_M_delete_0, fd_M_delete_16, fd_M_delete_29, fd_M_delete_31, fd_M_delete_52, fd_M_delete_53, fd_M_delete_67, fd_M_delete_69, fd_M_delete_81, fd_M_delete_86, fd_M_delete_159, fd_M_delete_174, fd_M_delete_175, fd_M_delete_183, fd_M_delete_186, fd_M_delete_208, fd_M_delete_245, fd_M_delete_251, fd_M_delete_254, fd_M_delete_291, fd_M_delete_297, fd_M_delete_300, fd_M_delete_325, fd_M_delete_331, bk_M_delete_0, bk_M_delete_16, bk_M_delete_29, bk_M_delete_31, bk_M_delete_52, bk_M_delete_53, bk_M_delete_67, bk_M_delete_69, bk_M_delete_81, bk_M_delete_86, bk_M_delete_159, bk_M_delete_174, bk_M_delete_175, bk_M_delete_183, bk_M_delete_186, bk_M_delete_208, bk_M_delete_245, bk_M_delete_251, bk_M_delete_254, bk_M_delete_291, bk_M_delete_297, bk_M_delete_300, bk_M_delete_325, bk_M_delete_331, cs_M_delete, pt_M_spread]
            refine ⟨fun z => absurd z (by decide), fun _ => ⟨a, x', hA, hR', hx1, hx2, hM, fun gs' hM' hlt => ?_, fun hc => stop t' hF h6 h7 h8 h11 hM hc _ _⟩⟩
            have := cn_le (fun j => decide (gs' j = 1)) (a.1 1)
            omega
          · exact stop t' hF h6 h7 h8 h11 hM hc o3 o4
        | succ d ih =>
          intro t' mr hd hF h6 h7 h8 h11 hM hmr o3 o4
          rcases hmr with rfl | ⟨rfl, hc⟩
          · have hR' := RM_same hR0 hF h6 h7 h8
            refine hJ 3 _ _ _ _ ?_
            simp only [Nat.reduceAdd, Nat.reduceLeDiff, Nat.zero_le, true_or, or_true, run_s, e_nop, e_iconst, e_bipush, e_sipush, e_lconst, e_iload, e_iload_n, e_lload, e_lload_n, e_aload, e_aload_n, e_istore, e_istore_n, e_iinc, e_iadd, e_isub, e_imul, e_lcmp, e_dupI, e_dupR, e_dup2, e_getfield, e_putfield, e_iaload, e_baload, e_laload, e_iastore, e_bastore, e_lastore, e_if, e_icmp, e_goto, e_tsw, e_ireturn0, e_ireturn1, e_return, e_call0, e_call1, e_call2, e_call3, lI_e, lL_e, lR_e, ak_nth, ak_set, ak_ok1, ak_jp, ak_b1, ak_b2, ak_sw, ak_la, ak_pad, true_and, and_true, List.map_cons, List.map_nil, List.sum_cons, List.sum_nil, Value.category, Option.toList_some, Option.toList_none, List.cons_append, List.nil_append, gM_0_0, pM_0_0, gM_0_1, pM_0_1, gM_0_2, pM_0_2, gM_0_3, pM_0_3, gM_0_4, gM_0_5, gM_0_6, gM_0_7, gM_0_8, gM_0_9, gM_0_10, gM_0_11, gM_0_12, gM_0_13, gM_0_14, gM_0_15, gM_0_16, rM_0, kM_1, kM_2, kM_3, kM_4, kM_5, kM_6, kM_7, kM_8, kM_9, kM_10, kM_11, kM_12, kM_13, fd_M_delete_0, fd_M_delete_16, fd_M_delete_29, fd_M_delete_31, fd_M_delete_52, fd_M_delete_53, fd_M_delete_67, fd_M_delete_69, fd_M_delete_81, fd_M_delete_86, fd_M_delete_159, fd_M_delete_174, fd_M_delete_175, fd_M_delete_183, fd_M_delete_186, fd_M_delete_208, fd_M_delete_245, fd_M_delete_251, fd_M_delete_254, fd_M_delete_291, fd_M_delete_297, fd_M_delete_300, fd_M_delete_325, fd_M_delete_331, bk_M_delete_0, bk_M_delete_16, bk_M_delete_29, bk_M_delete_31, bk_M_delete_52, bk_M_delete_53, bk_M_delete_67, bk_M_delete_69, bk_M_delete_81, bk_M_delete_86, bk_M_delete_159, bk_M_delete_174, bk_M_delete_175, bk_M_delete_183, bk_M_delete_186, bk_M_delete_208, bk_M_delete_245, bk_M_delete_251, bk_M_delete_254, bk_M_delete_291, bk_M_delete_297, bk_M_delete_300, bk_M_delete_325, bk_M_delete_331, cs_M_delete, pt_M_spread]
            refine ⟨fun z => absurd z (by decide), fun _ => ⟨a, x', hA, hR', hx1, hx2, hM, fun gs' hM' hlt => ?_, fun hc => stop t' hF h6 h7 h8 h11 hM hc _ _⟩⟩
            refine ih (m_G t' gs') 1 ?_ ⟨fun k j k1 k2 k3 k4 k5 => by rw [mG_o k4]; exact hF.1 k j k1 k2 k3 k4 k5, hF.2⟩ (fun j => by rw [mG_o (by decide)]; exact h6 j) (fun j => by rw [mG_o (by decide)]; exact h7 j) (fun j => by rw [mG_o (by decide)]; exact h8 j) (fun j hj => by rw [mG_o (by decide)]; exact h11 j hj) ?_ (Or.inl rfl) _ _
            · have : cn (fun j => decide ((m_G t' gs').1 10 j = 1)) (a.1 1) = cn (fun j => decide (gs' j = 1)) (a.1 1) := cn_congr (fun j _ _ => by rw [mG_10])
              omega
            · have : (m_G t' gs').1 10 = gs' := by funext j; exact mG_10
              rw [this]
              exact hM'
          · exact stop t' hF h6 h7 h8 h11 hM hc o3 o4
      -- loop 1
      have loop1 : ∀ d i (t' : ak_S), i + d = 251 → m_F t0 t' → (∀ j, t'.1 6 j = t0.1 6 j) → (∀ j, t'.1 7 j = t0.1 7 j) → (∀ j, t'.1 8 j = t0.1 8 j) → (∀ j, j < i → t'.1 10 j = (if j = x' then 1 else 0) ∧ t'.1 11 j = 0) → ∀ o3 o4 : Option Value, J 31 [some (.ref 0), some (.int (nI x')), some (.int (nI i)), o3, o4] [] t' := by
        intro d
        induction d with
        | zero =>
          intro i t' hi hF h6 h7 h8 hv o3 o4
          have e : i = 251 := by omega
          subst e
          refine hJ 3 _ _ _ _ ?_
          simp only [Nat.reduceAdd, Nat.reduceLeDiff, Nat.zero_le, true_or, or_true, run_s, e_nop, e_iconst, e_bipush, e_sipush, e_lconst, e_iload, e_iload_n, e_lload, e_lload_n, e_aload, e_aload_n, e_istore, e_istore_n, e_iinc, e_iadd, e_isub, e_imul, e_lcmp, e_dupI, e_dupR, e_dup2, e_getfield, e_putfield, e_iaload, e_baload, e_laload, e_iastore, e_bastore, e_lastore, e_if, e_icmp, e_goto, e_tsw, e_ireturn0, e_ireturn1, e_return, e_call0, e_call1, e_call2, e_call3, lI_e, lL_e, lR_e, ak_nth, ak_set, ak_ok1, ak_jp, ak_b1, ak_b2, ak_sw, ak_la, ak_pad, true_and, and_true, List.map_cons, List.map_nil, List.sum_cons, List.sum_nil, Value.category, Option.toList_some, Option.toList_none, List.cons_append, List.nil_append, gM_0_0, pM_0_0, gM_0_1, pM_0_1, gM_0_2, pM_0_2, gM_0_3, pM_0_3, gM_0_4, gM_0_5, gM_0_6, gM_0_7, gM_0_8, gM_0_9, gM_0_10, gM_0_11, gM_0_12, gM_0_13, gM_0_14, gM_0_15, gM_0_16, rM_0, kM_1, kM_2, kM_3, kM_4, kM_5, kM_6, kM_7, kM_8, kM_9, kM_10, kM_11, kM_12, kM_13, fd_M_delete_0, fd_M_delete_16, fd_M_delete_29, fd_M_delete_31, fd_M_delete_52, fd_M_delete_53, fd_M_delete_67, fd_M_delete_69, fd_M_delete_81, fd_M_delete_86, fd_M_delete_159, fd_M_delete_174, fd_M_delete_175, fd_M_delete_183, fd_M_delete_186, fd_M_delete_208, fd_M_delete_245, fd_M_delete_251, fd_M_delete_254, fd_M_delete_291, fd_M_delete_297, fd_M_delete_300, fd_M_delete_325, fd_M_delete_331, bk_M_delete_0, bk_M_delete_16, bk_M_delete_29, bk_M_delete_31, bk_M_delete_52, bk_M_delete_53, bk_M_delete_67, bk_M_delete_69, bk_M_delete_81, bk_M_delete_86, bk_M_delete_159, bk_M_delete_174, bk_M_delete_175, bk_M_delete_183, bk_M_delete_186, bk_M_delete_208, bk_M_delete_245, bk_M_delete_251, bk_M_delete_254, bk_M_delete_291, bk_M_delete_297, bk_M_delete_300, bk_M_delete_325, bk_M_delete_331, cs_M_delete]
          refine ⟨fun _ => ?_, fun z => absurd (by decide) z⟩
          refine loop2 (a.1 1) t' 1 (by omega) hF h6 h7 h8 (fun j hj => (hv j (by omega)).2) ⟨fun j hj => ?_, ?_, fun j hj hz => ?_⟩ (Or.inl rfl) _ _
          · rw [(hv j (by omega)).1]
            split
            · exact Or.inr rfl
            · exact Or.inl rfl
          · rw [(hv x' (by omega)).1, if_pos rfl]
          · rw [(hv j (by omega)).1] at hz
            split at hz
            · rename_i w
              rw [w]
              exact a_G_self hx1 hx2
            · exact absurd hz (by decide)
        | succ d ih =>
          intro i t' hi hF h6 h7 h8 hv o3 o4
          refine hJ 4 _ _ _ _ ?_
          simp only [Nat.reduceAdd, Nat.reduceLeDiff, Nat.zero_le, true_or, or_true, run_s, e_nop, e_iconst, e_bipush, e_sipush, e_lconst, e_iload, e_iload_n, e_lload, e_lload_n, e_aload, e_aload_n, e_istore, e_istore_n, e_iinc, e_iadd, e_isub, e_imul, e_lcmp, e_dupI, e_dupR, e_dup2, e_getfield, e_putfield, e_iaload, e_baload, e_laload, e_iastore, e_bastore, e_lastore, e_if, e_icmp, e_goto, e_tsw, e_ireturn0, e_ireturn1, e_return, e_call0, e_call1, e_call2, e_call3, lI_e, lL_e, lR_e, ak_nth, ak_set, ak_ok1, ak_jp, ak_b1, ak_b2, ak_sw, ak_la, ak_pad, true_and, and_true, List.map_cons, List.map_nil, List.sum_cons, List.sum_nil, Value.category, Option.toList_some, Option.toList_none, List.cons_append, List.nil_append, gM_0_0, pM_0_0, gM_0_1, pM_0_1, gM_0_2, pM_0_2, gM_0_3, pM_0_3, gM_0_4, gM_0_5, gM_0_6, gM_0_7, gM_0_8, gM_0_9, gM_0_10, gM_0_11, gM_0_12, gM_0_13, gM_0_14, gM_0_15, gM_0_16, rM_0, kM_1, kM_2, kM_3, kM_4, kM_5, kM_6, kM_7, kM_8, kM_9, kM_10, kM_11, kM_12, kM_13, fd_M_delete_0, fd_M_delete_16, fd_M_delete_29, fd_M_delete_31, fd_M_delete_52, fd_M_delete_53, fd_M_delete_67, fd_M_delete_69, fd_M_delete_81, fd_M_delete_86, fd_M_delete_159, fd_M_delete_174, fd_M_delete_175, fd_M_delete_183, fd_M_delete_186, fd_M_delete_208, fd_M_delete_245, fd_M_delete_251, fd_M_delete_254, fd_M_delete_291, fd_M_delete_297, fd_M_delete_300, fd_M_delete_325, fd_M_delete_331, bk_M_delete_0, bk_M_delete_16, bk_M_delete_29, bk_M_delete_31, bk_M_delete_52, bk_M_delete_53, bk_M_delete_67, bk_M_delete_69, bk_M_delete_81, bk_M_delete_86, bk_M_delete_159, bk_M_delete_174, bk_M_delete_175, bk_M_delete_183, bk_M_delete_186, bk_M_delete_208, bk_M_delete_245, bk_M_delete_251, bk_M_delete_254, bk_M_delete_291, bk_M_delete_297, bk_M_delete_300, bk_M_delete_325, bk_M_delete_331, cs_M_delete, nI_1]
          have e1 : (1 : Int32) &&& 1 = 1 := by decide
          have e0 : (0 : Int32) &&& 1 = 0 := by decide
          rw [n_250, q_lt (by omega) (by omega), q_eq (by omega) (by omega), q_cl (by omega), e1, e0]
          have fin : ∀ v : Int32, v = (if i = x' then 1 else 0) → J 31 [some (.ref 0), some (.int (nI x')), some (.int (nI (i + 1))), o3, o4] [] (ak_p1 (ak_p1 t' 10 i v) 11 i 0) := by
            intro v hvv
            refine ih (i + 1) _ (by omega) (m_F_p (m_F_p hF (by omega)) (by omega)) (fun j => by rw [p1_o (by decide), p1_o (by decide)]; exact h6 j) (fun j => by rw [p1_o (by decide), p1_o (by decide)]; exact h7 j) (fun j => by rw [p1_o (by decide), p1_o (by decide)]; exact h8 j) (fun j hj => ?_) _ _
            rw [p1_o (by decide), p1_s, p1_s, p1_o (by decide)]
            by_cases e : j = i
            · rw [if_pos e, if_pos e, e]
              exact ⟨hvv, rfl⟩
            · rw [if_neg e, if_neg e]
              exact hv j (by omega)
          refine ⟨fun q => absurd q (by omega), fun _ => ⟨fun q => ⟨q_in (by omega) (by omega), q_in (by omega) (by omega), fin 0 (by rw [if_neg q])⟩, fun q => ⟨q_in (by omega) (by omega), q_in (by omega) (by omega), fin 1 (by rw [if_pos q])⟩⟩⟩
      intro o2 o3 o4 ho
      subst ho
      exact loop1 251 0 t0 (by omega) ⟨fun _ _ _ _ _ _ _ => rfl, rfl⟩ (fun _ => rfl) (fun _ => rfl) (fun _ => rfl) (fun j hj => absurd hj (by omega)) o3 o4
    refine hJ 4 _ _ _ _ ?_
    simp only [Nat.reduceAdd, Nat.reduceLeDiff, Nat.zero_le, true_or, or_true, run_s, e_nop, e_iconst, e_bipush, e_sipush, e_lconst, e_iload, e_iload_n, e_lload, e_lload_n, e_aload, e_aload_n, e_istore, e_istore_n, e_iinc, e_iadd, e_isub, e_imul, e_lcmp, e_dupI, e_dupR, e_dup2, e_getfield, e_putfield, e_iaload, e_baload, e_laload, e_iastore, e_bastore, e_lastore, e_if, e_icmp, e_goto, e_tsw, e_ireturn0, e_ireturn1, e_return, e_call0, e_call1, e_call2, e_call3, lI_e, lL_e, lR_e, ak_nth, ak_set, ak_ok1, ak_jp, ak_b1, ak_b2, ak_sw, ak_la, ak_pad, true_and, and_true, List.map_cons, List.map_nil, List.sum_cons, List.sum_nil, Value.category, Option.toList_some, Option.toList_none, List.cons_append, List.nil_append, gM_0_0, pM_0_0, gM_0_1, pM_0_1, gM_0_2, pM_0_2, gM_0_3, pM_0_3, gM_0_4, gM_0_5, gM_0_6, gM_0_7, gM_0_8, gM_0_9, gM_0_10, gM_0_11, gM_0_12, gM_0_13, gM_0_14, gM_0_15, gM_0_16, rM_0, kM_1, kM_2, kM_3, kM_4, kM_5, kM_6, kM_7, kM_8, kM_9, kM_10, kM_11, kM_12, kM_13, fd_M_delete_0, fd_M_delete_16, fd_M_delete_29, fd_M_delete_31, fd_M_delete_52, fd_M_delete_53, fd_M_delete_67, fd_M_delete_69, fd_M_delete_81, fd_M_delete_86, fd_M_delete_159, fd_M_delete_174, fd_M_delete_175, fd_M_delete_183, fd_M_delete_186, fd_M_delete_208, fd_M_delete_245, fd_M_delete_251, fd_M_delete_254, fd_M_delete_291, fd_M_delete_297, fd_M_delete_300, fd_M_delete_325, fd_M_delete_331, bk_M_delete_0, bk_M_delete_16, bk_M_delete_29, bk_M_delete_31, bk_M_delete_52, bk_M_delete_53, bk_M_delete_67, bk_M_delete_69, bk_M_delete_81, bk_M_delete_86, bk_M_delete_159, bk_M_delete_174, bk_M_delete_175, bk_M_delete_183, bk_M_delete_186, bk_M_delete_208, bk_M_delete_245, bk_M_delete_251, bk_M_delete_254, bk_M_delete_291, bk_M_delete_297, bk_M_delete_300, bk_M_delete_325, bk_M_delete_331, cs_M_delete, pt_M_isSegment]
    simp only [bt0, Classical.not_not, i10, false_implies, not_false_eq_true, true_implies, not_true_eq_false, true_and, and_true, false_and, and_false, imp_self]
    rw [← ht0, hR0.1.2.1]
    refine ⟨fun q => ?_, fun q => ?_⟩
    · obtain ⟨x', hx1, hx2, hxx⟩ := iS_of hA q
      have hm := main x' hxx hx1 hx2
      subst hxx
      have s1 := (stM hA hR0 hx1 hx2).1
      rw [q_cl (by omega), s1]
      refine ⟨q_in (by omega) (by omega), fun q2 => hm q2 q _ _ _ rfl, fun q2 => ?_⟩
      exact same (-5) (by rw [f_delete, q_cl (by omega), ci_f (fun z => z q), ci_t q2]) (by rw [g_delete, q_cl (by omega), ci_f (fun z => q2 z.2.1)]) t0 hR0
    · exact same (-2) (by rw [f_delete, ci_t q]) (by rw [g_delete, ci_f (fun z => q z.1)]) t0 hR0
  · exact h.elim
set_option maxRecDepth 20000 in
theorem ct_M_delete (l : Launch) : ak_Ctr l cl_all lay_M y_M_delete ws_M_delete rm_M_delete pt_M_delete := by
  refine ak_met (cs := cs_M_delete) (reg := rg_M_delete) (bl := bl_M_delete) (by decide +kernel) rfl (cl_ok _) rfl ok_M_delete ?_ vc_M_delete
  intro a n b ci h
  match a, h with
  | 0, h =>
    cases h
    exact ak_ccV (ct_M_isSegment l) rfl 408 409 10 25 410 (by decide +kernel) ⟨rfl, rfl⟩ (by decide +kernel) (by decide +kernel)
  | 1, h =>
    cases h
    exact ak_ccV (ct_M_spread l) rfl 428 429 14 25 430 (by decide +kernel) ⟨rfl, rfl⟩ (by decide +kernel) (by decide +kernel)
  | 2, h =>
    cases h
    exact ak_ccV (ct_M_countOf l) rfl 417 418 13 25 419 (by decide +kernel) ⟨rfl, rfl⟩ (by decide +kernel) (by decide +kernel)
  | 3, h =>
    cases h
    exact ak_ccV (ct_M_right l) rfl 411 412 11 25 413 (by decide +kernel) ⟨rfl, rfl⟩ (by decide +kernel) (by decide +kernel)
  | k + 4, h => cases h
