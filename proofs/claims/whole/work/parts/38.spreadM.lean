/-! the reference's spread -/
def m_G (t : ak_S) (gs : Nat → Int32) : ak_S := (fun k => if k = 10 then gs else t.1 k, t.2)
theorem mG_o {t : ak_S} {gs : Nat → Int32} {k j : Nat} (h : k ≠ 10) : (m_G t gs).1 k j = t.1 k j := by simp [m_G, h]
theorem mG_10 {t : ak_S} {gs : Nat → Int32} {j : Nat} : (m_G t gs).1 10 j = gs j := by simp [m_G]
theorem mG_p {t : ak_S} {gs : Nat → Int32} {j : Nat} {x : Int32} : ak_p1 (m_G t gs) 10 j x = m_G t (upd gs j x) := by
  apply Prod.ext
  · funext k q
    by_cases h : k = 10
    · subst h; simp [ak_p1, m_G]
    · simp [ak_p1, m_G, h]
  · rfl
theorem mG_self (t : ak_S) : m_G t (t.1 10) = t := by
  apply Prod.ext
  · funext k q
    by_cases h : k = 10
    · subst h; simp [m_G]
    · simp [m_G, h]
  · rfl
theorem RM_G {t : ak_S} {a : ab_T} {gs : Nat → Int32} (hR : RM t a) : RM (m_G t gs) a := by
  obtain ⟨⟨y1, y2, y3⟩, hk, hs, hst, hp, hx⟩ := hR
  refine ⟨⟨?_, ?_, ?_⟩, fun k' hk' => ?_, fun j hj => ?_, fun j w1 w2 => ?_, fun j p w1 w2 w3 w4 => ?_, fun j hj => ?_⟩
  · rw [mG_o (by decide)]; exact y1
  · rw [mG_o (by decide)]; exact y2
  · rw [mG_o (by decide)]; exact y3
  · rw [mG_o (by decide), mG_o (by decide), mG_o (by decide)]; exact hk k' hk'
  · rw [mG_o (by decide), mG_o (by decide), mG_o (by decide)]; exact hs j hj
  · rw [mG_o (by decide)]; exact hst j w1 w2
  · rw [mG_o (by decide)]; exact hp j p w1 w2 w3 w4
  · rw [mG_o (by decide), mG_o (by decide)]; exact hx j hj
/-- what goes so far -/
def MI (a : ab_T) (x : Nat) (gs : Nat → Int32) : Prop := (∀ j, j ≤ 250 → gs j = 0 ∨ gs j = 1) ∧ gs x = 1 ∧ ∀ j, j ≤ 250 → gs j = 1 → a_G a x j
theorem a_G_self {a : ab_T} {x : Nat} (h1 : 1 ≤ x) (h2 : x ≤ a.1 1) : a_G a x x := ⟨h1, h2, fun _ h _ => h⟩
theorem a_G_step {a : ab_T} {x y j : Nat} (h : a_G a x y) (h1 : 1 ≤ j) (h2 : j ≤ a.1 1) (ht : a_tk a y j) : a_G a x j := ⟨h1, h2, fun S hS hc => hc y j (h.2.2 S hS hc) h.1 h.2.1 h1 h2 ht⟩
def pt_M_spread : ak_P := fun vs t Q => match vs with
  | [.ref 0] => ∃ (a : ab_T) (x : Nat), AI a ∧ RM t a ∧ 1 ≤ x ∧ x ≤ a.1 1 ∧ MI a x (t.1 10) ∧
      (∀ gs' : Nat → Int32, MI a x gs' → cn (fun j => decide (t.1 10 j = 1)) (a.1 1) < cn (fun j => decide (gs' j = 1)) (a.1 1) → Q (some (.int 1)) (m_G t gs')) ∧
      ((∀ y j, 1 ≤ y → y ≤ a.1 1 → 1 ≤ j → j ≤ a.1 1 → t.1 10 y = 1 → a_tk a y j → t.1 10 j = 1) → Q (some (.int 0)) t)
  | _ => False
def cs_M_spread : Nat → ak_P := fun _ _ _ _ => False
theorem vc_M_spread : ak_VC lay_M cs_M_spread bl_M_spread 3 pt_M_spread := by
  intro vs t Q h
  unfold pt_M_spread at h
  split at h
  · obtain ⟨a, x, hA, hR, hx1, hx2, hMI, hy, hno⟩ := h
    have hn := hA.1
    refine ⟨Nat.le_of_ble_eq_true rfl, fun J hJ => ?_⟩
    have loop : ∀ d i (mr : Int32) (gs1 : Nat → Int32), i + d = a.1 1 → MI a x gs1 → ((mr = 0 ∧ gs1 = t.1 10 ∧ ∀ y j, 1 ≤ y → y ≤ a.1 1 → 1 ≤ j → j ≤ i → t.1 10 y = 1 → a_tk a y j → t.1 10 j = 1) ∨ (mr = 1 ∧ cn (fun j => decide (t.1 10 j = 1)) (a.1 1) < cn (fun j => decide (gs1 j = 1)) (a.1 1))) → J 4 [some (.ref 0), some (.int mr), some (.int (nI (i + 1)))] [] (m_G t gs1) := by
      intro d
      induction d with
      | zero =>
        intro i mr gs1 hi hM hB
        have e : i = a.1 1 := by omega
        subst e
        refine hJ 3 _ _ _ _ ?_
        simp only [Nat.reduceAdd, Nat.reduceLeDiff, Nat.zero_le, true_or, or_true, run_s, e_nop, e_iconst, e_bipush, e_sipush, e_lconst, e_iload, e_iload_n, e_lload, e_lload_n, e_aload, e_aload_n, e_istore, e_istore_n, e_iinc, e_iadd, e_isub, e_imul, e_lcmp, e_dupI, e_dupR, e_dup2, e_getfield, e_putfield, e_iaload, e_baload, e_laload, e_iastore, e_bastore, e_lastore, e_if, e_icmp, e_goto, e_tsw, e_ireturn0, e_ireturn1, e_return, e_call0, e_call1, e_call2, e_call3, lI_e, lL_e, lR_e, ak_nth, ak_set, ak_ok1, ak_jp, ak_b1, ak_b2, ak_sw, ak_la, ak_pad, true_and, and_true, List.map_cons, List.map_nil, List.sum_cons, List.sum_nil, Value.category, Option.toList_some, Option.toList_none, List.cons_append, List.nil_append, gM_0_0, pM_0_0, gM_0_1, pM_0_1, gM_0_2, pM_0_2, gM_0_3, pM_0_3, gM_0_4, gM_0_5, gM_0_6, gM_0_7, gM_0_8, gM_0_9, gM_0_10, gM_0_11, gM_0_12, gM_0_13, gM_0_14, gM_0_15, gM_0_16, rM_0, kM_1, kM_2, kM_3, kM_4, kM_5, kM_6, kM_7, kM_8, kM_9, kM_10, kM_11, kM_12, kM_13, fd_M_spread_0, fd_M_spread_4, fd_M_spread_34, fd_M_spread_62, fd_M_spread_100, fd_M_spread_104, fd_M_spread_105, fd_M_spread_119, fd_M_spread_123, fd_M_spread_124, fd_M_spread_125, fd_M_spread_131, bk_M_spread_0, bk_M_spread_4, bk_M_spread_34, bk_M_spread_62, bk_M_spread_100, bk_M_spread_104, bk_M_spread_105, bk_M_spread_119, bk_M_spread_123, bk_M_spread_124, bk_M_spread_125, bk_M_spread_131]
        rw [mG_o (by decide), hR.1.2.1, q_lt (by omega) (by omega)]
        refine ⟨fun _ => ?_, fun q => absurd (by omega) q⟩
        rcases hB with ⟨rfl, rfl, hc⟩ | ⟨rfl, hc⟩
        · refine ⟨Or.inl rfl, ?_⟩
          rw [mG_self]
          exact hno hc
        · exact ⟨Or.inr rfl, hy gs1 hM hc⟩
      | succ d ih =>
        intro i mr gs1 hi hM hB
        obtain ⟨b1, b2, _, b4⟩ := hR.2.2.1 (i + 1) (by omega)
        obtain ⟨c1, c2, c3, c4⟩ := hA.2.2.1 (i + 1) (by omega)
        have s1 := (stM hA hR (show 1 ≤ i + 1 by omega) (by omega)).1
        have r := (hR.2.1 (a.2.1 3 (i + 1)) (by omega)).2.2
        have rb := (hA.2.1 (a.2.1 3 (i + 1)) (by omega)).2.2
        -- nothing new here
        have next : (∀ y, 1 ≤ y → y ≤ a.1 1 → gs1 y = 1 → a_tk a y (i + 1) → gs1 (i + 1) = 1) → J 4 [some (.ref 0), some (.int mr), some (.int (nI (i + 1 + 1)))] [] (m_G t gs1) := by
          intro hc
          refine ih (i + 1) mr gs1 (by omega) hM ?_
          rcases hB with ⟨z1, z2, z3⟩ | z
          · refine Or.inl ⟨z1, z2, fun y j y1 y2 j1 j2 hgy htk => ?_⟩
            by_cases e : j = i + 1
            · subst e
              rw [← z2] at hgy ⊢
              exact hc y y1 y2 hgy htk
            · exact z3 y j y1 y2 j1 (by omega) hgy htk
          · exact Or.inr z
        have store : ∀ v : Int32, gs1 (i + 1) = 0 → ((v = 1 ∧ a_G a x (i + 1)) ∨ (v = 0 ∧ ∀ y, 1 ≤ y → y ≤ a.1 1 → gs1 y = 1 → ¬ a_tk a y (i + 1))) → J 105 [some (.ref 0), some (.int mr), some (.int (nI (i + 1)))] [.int v, .int (nI (i + 1)), .ref 10] (m_G t gs1) := by
          intro v hg hv
          refine hJ 5 _ _ _ _ ?_
          simp only [Nat.reduceAdd, Nat.reduceLeDiff, Nat.zero_le, true_or, or_true, run_s, e_nop, e_iconst, e_bipush, e_sipush, e_lconst, e_iload, e_iload_n, e_lload, e_lload_n, e_aload, e_aload_n, e_istore, e_istore_n, e_iinc, e_iadd, e_isub, e_imul, e_lcmp, e_dupI, e_dupR, e_dup2, e_getfield, e_putfield, e_iaload, e_baload, e_laload, e_iastore, e_bastore, e_lastore, e_if, e_icmp, e_goto, e_tsw, e_ireturn0, e_ireturn1, e_return, e_call0, e_call1, e_call2, e_call3, lI_e, lL_e, lR_e, ak_nth, ak_set, ak_ok1, ak_jp, ak_b1, ak_b2, ak_sw, ak_la, ak_pad, true_and, and_true, List.map_cons, List.map_nil, List.sum_cons, List.sum_nil, Value.category, Option.toList_some, Option.toList_none, List.cons_append, List.nil_append, gM_0_0, pM_0_0, gM_0_1, pM_0_1, gM_0_2, pM_0_2, gM_0_3, pM_0_3, gM_0_4, gM_0_5, gM_0_6, gM_0_7, gM_0_8, gM_0_9, gM_0_10, gM_0_11, gM_0_12, gM_0_13, gM_0_14, gM_0_15, gM_0_16, rM_0, kM_1, kM_2, kM_3, kM_4, kM_5, kM_6, kM_7, kM_8, kM_9, kM_10, kM_11, kM_12, kM_13, fd_M_spread_0, fd_M_spread_4, fd_M_spread_34, fd_M_spread_62, fd_M_spread_100, fd_M_spread_104, fd_M_spread_105, fd_M_spread_119, fd_M_spread_123, fd_M_spread_124, fd_M_spread_125, fd_M_spread_131, bk_M_spread_0, bk_M_spread_4, bk_M_spread_34, bk_M_spread_62, bk_M_spread_100, bk_M_spread_104, bk_M_spread_105, bk_M_spread_119, bk_M_spread_123, bk_M_spread_124, bk_M_spread_125, bk_M_spread_131, mG_p, mG_10, nI_1]
          rw [q_cl (by omega)]
          rcases hv with ⟨rfl, hG⟩ | ⟨rfl, hc⟩
          · have e1 : (1 : Int32) &&& 1 = 1 := by decide
            rw [e1]
            have hM2 : MI a x (upd gs1 (i + 1) 1) := by
              refine ⟨fun j hj => ?_, ?_, fun j hj hz => ?_⟩
              · by_cases e : j = i + 1
                · right; simp [upd, e]
                · simp only [upd, e, if_false]; exact hM.1 j hj
              · by_cases e : x = i + 1
                · simp [upd, e]
                · simp only [upd, e, if_false]; exact hM.2.1
              · by_cases e : j = i + 1
                · rw [e]; exact hG
                · simp only [upd, e, if_false] at hz; exact hM.2.2 j hj hz
            have hcn : cn (fun j => decide ((upd gs1 (i + 1) 1) j = 1)) (a.1 1) = cn (fun j => decide (gs1 j = 1)) (a.1 1) + 1 := by
              refine cn_add (e := i + 1) (by omega) (by omega) ?_ ?_ ?_
              · rw [hg]; decide
              · simp [upd]
              · intro j _ _ hj
                simp [upd, hj]
            have hlt : cn (fun j => decide (t.1 10 j = 1)) (a.1 1) < cn (fun j => decide ((upd gs1 (i + 1) 1) j = 1)) (a.1 1) := by
              rcases hB with ⟨_, z2, _⟩ | ⟨_, z⟩
              · rw [hcn, z2]; omega
              · omega
            have fin := ih (i + 1) 1 (upd gs1 (i + 1) 1) (by omega) hM2 (Or.inr ⟨rfl, hlt⟩)
            have e2 : ¬ upd gs1 (i + 1) 1 (i + 1) = 0 := by simp [upd]
            exact ⟨q_in (by omega) (by omega), fun _ => fin, fun _ => ⟨q_in (by omega) (by omega), fun z => absurd z e2, fun _ => fin⟩⟩
          · have e1 : (0 : Int32) &&& 1 = 0 := by decide
            have e2 : upd gs1 (i + 1) 0 = gs1 := by
              funext j
              by_cases e : j = i + 1
              · simp [upd, e, hg]
              · simp [upd, e]
            rw [e1, e2]
            have hnx := next (fun y y1 y2 hgy htk => absurd htk (hc y y1 y2 hgy))
            have mr01 : mr = 0 ∨ mr = 1 := by
              rcases hB with ⟨z, _⟩ | ⟨z, _⟩
              · exact Or.inl z
              · exact Or.inr z
            refine ⟨q_in (by omega) (by omega), fun z => ?_, fun z => ⟨q_in (by omega) (by omega), fun _ => ?_, fun w => absurd hg w⟩⟩
            · rcases mr01 with w | w
              · exact absurd w z
              · rw [w] at hnx; exact hnx
            · rw [z] at hnx; exact hnx
        refine hJ 6 _ _ _ _ ?_
        simp only [Nat.reduceAdd, Nat.reduceLeDiff, Nat.zero_le, true_or, or_true, run_s, e_nop, e_iconst, e_bipush, e_sipush, e_lconst, e_iload, e_iload_n, e_lload, e_lload_n, e_aload, e_aload_n, e_istore, e_istore_n, e_iinc, e_iadd, e_isub, e_imul, e_lcmp, e_dupI, e_dupR, e_dup2, e_getfield, e_putfield, e_iaload, e_baload, e_laload, e_iastore, e_bastore, e_lastore, e_if, e_icmp, e_goto, e_tsw, e_ireturn0, e_ireturn1, e_return, e_call0, e_call1, e_call2, e_call3, lI_e, lL_e, lR_e, ak_nth, ak_set, ak_ok1, ak_jp, ak_b1, ak_b2, ak_sw, ak_la, ak_pad, true_and, and_true, List.map_cons, List.map_nil, List.sum_cons, List.sum_nil, Value.category, Option.toList_some, Option.toList_none, List.cons_append, List.nil_append, gM_0_0, pM_0_0, gM_0_1, pM_0_1, gM_0_2, pM_0_2, gM_0_3, pM_0_3, gM_0_4, gM_0_5, gM_0_6, gM_0_7, gM_0_8, gM_0_9, gM_0_10, gM_0_11, gM_0_12, gM_0_13, gM_0_14, gM_0_15, gM_0_16, rM_0, kM_1, kM_2, kM_3, kM_4, kM_5, kM_6, kM_7, kM_8, kM_9, kM_10, kM_11, kM_12, kM_13, fd_M_spread_0, fd_M_spread_4, fd_M_spread_34, fd_M_spread_62, fd_M_spread_100, fd_M_spread_104, fd_M_spread_105, fd_M_spread_119, fd_M_spread_123, fd_M_spread_124, fd_M_spread_125, fd_M_spread_131, bk_M_spread_0, bk_M_spread_4, bk_M_spread_34, bk_M_spread_62, bk_M_spread_100, bk_M_spread_104, bk_M_spread_105, bk_M_spread_119, bk_M_spread_123, bk_M_spread_124, bk_M_spread_125, bk_M_spread_131, mG_10, mG_o, ne_eq, Nat.reduceEqDiff, not_false_eq_true, nI_1]
        have eu0 : nI (a.2.1 4 (i + 1)) = 0 ↔ a.2.1 4 (i + 1) = 0 := by rw [n_0]; exact nI_eq (by omega) (by omega)
        have er0 : nI (a.2.1 6 (i + 1)) = 0 ↔ a.2.1 6 (i + 1) = 0 := by rw [n_0]; exact nI_eq (by omega) (by omega)
        have eru : nI (a.2.1 2 (a.2.1 3 (i + 1))) = 2 ↔ a.2.1 2 (a.2.1 3 (i + 1)) = 2 := by rw [n_2]; exact nI_eq (by omega) (by omega)
        rw [hR.1.2.1, q_lt (by omega) (by omega), q_cl (a := i + 1) (by omega), s1, b2, b4, b1, q_cl (a := a.2.1 4 (i + 1)) (by omega), q_cl (a := a.2.1 6 (i + 1)) (by omega), q_cl (a := a.2.1 3 (i + 1)) (by omega), r, eu0, er0, eru]
        have vi : vp_in (nI (i + 1)) 251 := q_in (by omega) (by omega)
        have vu : vp_in (nI (a.2.1 4 (i + 1))) 251 := q_in (by omega) (by omega)
        have vr : vp_in (nI (a.2.1 6 (i + 1))) 251 := q_in (by omega) (by omega)
        have vk : vp_in (nI (a.2.1 3 (i + 1))) 16 := q_in (by omega) (by omega)
        simp only [vi, vu, vr, vk, true_and]
        refine ⟨fun q => absurd q (by omega), fun _ => ?_⟩
        by_cases hst : a.2.1 5 (i + 1) = 1
        · by_cases hg : gs1 (i + 1) = 0
          · have one : (a.2.1 4 (i + 1) ≠ 0 ∧ ¬ gs1 (a.2.1 4 (i + 1)) = 0) ∨ (a.2.1 6 (i + 1) ≠ 0 ∧ ¬ gs1 (a.2.1 6 (i + 1)) = 0 ∧ a.2.1 2 (a.2.1 3 (i + 1)) = 2) → J 105 [some (.ref 0), some (.int mr), some (.int (nI (i + 1)))] [.int 1, .int (nI (i + 1)), .ref 10] (m_G t gs1) := by
              intro z
              refine store 1 hg (Or.inl ⟨rfl, ?_⟩)
              rcases z with z | z
              · have g1 : gs1 (a.2.1 4 (i + 1)) = 1 := (hM.1 _ (by omega)).resolve_left z.2
                exact a_G_step (hM.2.2 _ (by omega) g1) (by omega) (by omega) (Or.inl ⟨hst, rfl⟩)
              · have g1 : gs1 (a.2.1 6 (i + 1)) = 1 := (hM.1 _ (by omega)).resolve_left z.2.1
                exact a_G_step (hM.2.2 _ (by omega) g1) (by omega) (by omega) (Or.inr ⟨rfl, z.2.2⟩)
            have zero : ¬ ((a.2.1 4 (i + 1) ≠ 0 ∧ ¬ gs1 (a.2.1 4 (i + 1)) = 0) ∨ (a.2.1 6 (i + 1) ≠ 0 ∧ ¬ gs1 (a.2.1 6 (i + 1)) = 0 ∧ a.2.1 2 (a.2.1 3 (i + 1)) = 2)) → J 105 [some (.ref 0), some (.int mr), some (.int (nI (i + 1)))] [.int 0, .int (nI (i + 1)), .ref 10] (m_G t gs1) := by
              intro z
              refine store 0 hg (Or.inr ⟨rfl, fun y y1 y2 hgy htk => z ?_⟩)
              have gne : ¬ gs1 y = 0 := by rw [hgy]; decide
              rcases htk with w | w
              · exact Or.inl ⟨by omega, by rw [w.2]; exact gne⟩
              · exact Or.inr ⟨by omega, by rw [w.1]; exact gne, w.2⟩
            grind
          · have hg1 : gs1 (i + 1) = 1 := (hM.1 _ (by omega)).resolve_left hg
            have nx := next (fun _ _ _ _ _ => hg1)
            grind
        · have nx := next (fun y y1 y2 hgy htk => by
            rcases htk with w | w
            · exact absurd w.1 hst
            · exact absurd (hA.2.2.2.2.1 (i + 1) (by omega) (by omega)).2.2 hst)
          grind
    refine hJ 3 _ _ _ _ ?_
    simp only [Nat.reduceAdd, Nat.reduceLeDiff, Nat.zero_le, true_or, or_true, run_s, e_nop, e_iconst, e_bipush, e_sipush, e_lconst, e_iload, e_iload_n, e_lload, e_lload_n, e_aload, e_aload_n, e_istore, e_istore_n, e_iinc, e_iadd, e_isub, e_imul, e_lcmp, e_dupI, e_dupR, e_dup2, e_getfield, e_putfield, e_iaload, e_baload, e_laload, e_iastore, e_bastore, e_lastore, e_if, e_icmp, e_goto, e_tsw, e_ireturn0, e_ireturn1, e_return, e_call0, e_call1, e_call2, e_call3, lI_e, lL_e, lR_e, ak_nth, ak_set, ak_ok1, ak_jp, ak_b1, ak_b2, ak_sw, ak_la, ak_pad, true_and, and_true, List.map_cons, List.map_nil, List.sum_cons, List.sum_nil, Value.category, Option.toList_some, Option.toList_none, List.cons_append, List.nil_append, gM_0_0, pM_0_0, gM_0_1, pM_0_1, gM_0_2, pM_0_2, gM_0_3, pM_0_3, gM_0_4, gM_0_5, gM_0_6, gM_0_7, gM_0_8, gM_0_9, gM_0_10, gM_0_11, gM_0_12, gM_0_13, gM_0_14, gM_0_15, gM_0_16, rM_0, kM_1, kM_2, kM_3, kM_4, kM_5, kM_6, kM_7, kM_8, kM_9, kM_10, kM_11, kM_12, kM_13, fd_M_spread_0, fd_M_spread_4, fd_M_spread_34, fd_M_spread_62, fd_M_spread_100, fd_M_spread_104, fd_M_spread_105, fd_M_spread_119, fd_M_spread_123, fd_M_spread_124, fd_M_spread_125, fd_M_spread_131, bk_M_spread_0, bk_M_spread_4, bk_M_spread_34, bk_M_spread_62, bk_M_spread_100, bk_M_spread_104, bk_M_spread_105, bk_M_spread_119, bk_M_spread_123, bk_M_spread_124, bk_M_spread_125, bk_M_spread_131]
    have := loop (a.1 1) 0 0 (t.1 10) (by omega) hMI (Or.inl ⟨rfl, rfl, fun y j _ _ j1 j2 => absurd j2 (by omega)⟩)
    rw [mG_self] at this
    exact this
  · exact h.elim
set_option maxRecDepth 20000 in
theorem ct_M_spread (l : Launch) : ak_Ctr l cl_all lay_M y_M_spread ws_M_spread rm_M_spread pt_M_spread := by
  refine ak_met (cs := cs_M_spread) (reg := rg_M_spread) (bl := bl_M_spread) (by decide +kernel) rfl (cl_ok _) rfl ok_M_spread ?_ vc_M_spread
  intro a n b ci h
  match a, h with
  | k + 0, h => cases h
