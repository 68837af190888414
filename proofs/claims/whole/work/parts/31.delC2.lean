/-! the class's delete -/
theorem RC_D {s : ak_S} {a : ab_T} {gs gg : Nat → Int32} {mm : Int32} (hR : RC s a) : RC (c_D s gs gg mm) a := by
  obtain ⟨⟨h1, h2, h3⟩, hk, hs, hc, hp, hx, hb⟩ := hR
  refine ⟨⟨?_, ?_, ?_⟩, fun k hk' => ?_, fun i hi => ?_, fun i b1 b2 => ?_, fun i p b1 b2 b3 b4 => ?_, fun j hj => ?_, ?_⟩
  · rw [c_D_o (by decide) (by decide) (by decide), h1]
  · rw [c_D_o (by decide) (by decide) (by decide), h2]
  · rw [c_D_o (by decide) (by decide) (by decide), h3]
  · simpa [c_D_o] using hk k hk'
  · obtain ⟨d1, d2, d3, d4, d5⟩ := hs i hi
    exact ⟨by rw [c_D_o (by decide) (by decide) (by decide)]; exact d1, by rw [c_D_o (by decide) (by decide) (by decide)]; exact d2, d3, by rw [c_D_o (by decide) (by decide) (by decide)]; exact d4, by rw [c_D_o (by decide) (by decide) (by decide)]; exact d5⟩
  · rw [c_D_o (by decide) (by decide) (by decide)]; exact hc i b1 b2
  · rw [c_D_o (by decide) (by decide) (by decide)]; exact hp i p b1 b2 b3 b4
  · simpa [c_D_o] using hx j hj
  · obtain ⟨bk, c1, c2, c3⟩ := hb
    exact ⟨bk, fun j hj => by rw [c_D_o (by decide) (by decide) (by decide)]; exact c1 j hj, c2, c3⟩
theorem RC_takes {s : ak_S} {a : ab_T} (hA : AI a) (hR : RC s a) : ∀ (m : Nat), (∀ p, p < m → ∃ e, 1 ≤ e ∧ e ≤ a.1 1 ∧ s.1 19 p = nI e) → ∃ T : Nat → Bool, (∀ j, T j = true ↔ ∃ p, p < m ∧ (s.1 19 p).toNatClampNeg = j) ∧ RCx (c_takes s m) (a_T a T) (fun i => T i = true)
  | 0, _ => ⟨fun _ => false, fun j => ⟨fun h => (by cases h), fun ⟨p, h, _⟩ => (by omega)⟩, by rw [aT_0]; exact RC_to hR _⟩
  | m + 1, hg => by
    obtain ⟨T, h1, h2⟩ := RC_takes hA hR m (fun p hp => hg p (by omega))
    obtain ⟨e, e1, e2, e3⟩ := hg m (by omega)
    have hn := hA.1
    refine ⟨fun j => T j || decide (j = e), fun j => ?_, ?_⟩
    · simp only [Bool.or_eq_true, decide_eq_true_eq]
      rw [h1]
      constructor
      · rintro (⟨p, b1, b2⟩ | b)
        · exact ⟨p, by omega, b2⟩
        · exact ⟨m, by omega, by rw [e3, q_cl (by omega), b]⟩
      · rintro ⟨p, b1, b2⟩
        by_cases z : p = m
        · subst z
          rw [e3, q_cl (by omega)] at b2
          exact Or.inr b2.symm
        · exact Or.inl ⟨p, by omega, b2⟩
    · rw [c_takes, e3, q_cl (by omega)]
      exact RC_take hA e1 e2 h2
theorem c_rights_tr {s : ak_S} {m i p : Nat} : c_tr (c_rights s m) i p = c_tr s i p := by
  unfold c_tr
  rw [c_rights_o (by decide), c_rights_o (by decide), c_rights_o (by decide)]
theorem c_rights_p {s : ak_S} {i p : Nat} (hp : p < 3) : ∀ {m : Nat}, ((∃ q, q < m ∧ (s.1 19 q).toNatClampNeg = i) → (c_rights s m).1 14 (3 * i + p) = c_tr s i p) ∧ ((¬ ∃ q, q < m ∧ (s.1 19 q).toNatClampNeg = i) → (c_rights s m).1 14 (3 * i + p) = s.1 14 (3 * i + p))
  | 0 => ⟨fun ⟨q, h, _⟩ => by omega, fun _ => rfl⟩
  | m + 1 => by
    obtain ⟨h1, h2⟩ := c_rights_p (s := s) (i := i) hp (m := m)
    rw [c_rights, cr_p hp]
    constructor
    · rintro ⟨q, b1, b2⟩
      split
      · rename_i z
        rw [c_rights_tr, z]
      · rename_i z
        refine h1 ⟨q, ?_, b2⟩
        by_cases w : q = m
        · subst w; exact absurd b2.symm z
        · omega
    · intro h
      rw [if_neg (fun z => h ⟨m, by omega, z.symm⟩)]
      exact h2 (fun ⟨q, b1, b2⟩ => h ⟨q, by omega, b2⟩)
theorem RC_del {s : ak_S} {a : ab_T} (hA : AI a) {T : Nat → Bool} {m : Nat} (hT : ∀ j, T j = true ↔ ∃ p, p < m ∧ (s.1 19 p).toNatClampNeg = j) (hR : RCx s (a_T a T) (fun i => T i = true)) : RC (c_drop (c_rights s m) (a.1 1)) (a_del a T) := by
  have hn := hA.1
  have htrx := fun i p b1 b2 => RCx_tr (i := i) (p := p) hR b1 b2
  obtain ⟨⟨q1, q2, q3⟩, hk, hs, hc, hp, hx, hb⟩ := hR
  have d5 : ∀ i, (a_del a T).2.1 5 i = if 1 ≤ i ∧ i ≤ a.1 1 ∧ (a_rw a T).2.1 5 i = 2 ∧ ac (a_rw a T) i = 0 then 0 else (a_rw a T).2.1 5 i := fun i => rfl
  have do_ : ∀ f i, f ≠ 5 → (a_del a T).2.1 f i = (a_rw a T).2.1 f i := fun f i h => by simp [a_del, h]
  have b5 : ∀ i, i ≤ 250 → (a_rw a T).2.1 5 i ≤ 2 := fun i hi => by
    rw [rw_5]
    have := (hA.2.2.1 i hi).2.2.1
    split <;> omega
  have hac : ∀ i, ac (a_del a T) i = ac (a_rw a T) i := fun i => by
    unfold ac
    show cn (fun j => decide ((a_del a T).2.1 6 j = i)) (a.1 1) = cn (fun j => decide ((a_rw a T).2.1 6 j = i)) (a.1 1)
    exact cn_congr (fun j _ _ => by rw [do_ 6 j (by decide)])
  have one : ∀ i, ((a_del a T).2.1 5 i = 1) = ((a_rw a T).2.1 5 i = 1) := fun i => by
    rw [d5]
    split
    · rename_i z
      rw [z.2.2.1]
      decide
    · rfl
  refine ⟨⟨?_, ?_, ?_⟩, fun k hk' => ?_, fun i hi => ?_, fun i b1 b2 => ?_, fun i p b1 b2 b3 b4 => ?_, fun j hj => ?_, ?_⟩
  · rw [c_drop_o (by decide), c_rights_o (by decide)]; exact q1
  · rw [c_drop_o (by decide), c_rights_o (by decide)]; exact q2
  · rw [c_drop_o (by decide), c_rights_o (by decide)]; exact q3
  · rw [c_drop_o (by decide), c_drop_o (by decide), c_drop_o (by decide), c_rights_o (by decide), c_rights_o (by decide), c_rights_o (by decide)]
    obtain ⟨z1, z2, z3⟩ := hk k hk'
    exact ⟨z1, z2, z3⟩
  · obtain ⟨z1, z2, z3, z4, z5⟩ := hs i hi
    refine ⟨?_, ?_, ?_, ?_, ?_⟩
    · rw [c_drop_o (by decide), c_rights_o (by decide)]; exact z1
    · rw [c_drop_o (by decide), c_rights_o (by decide), do_ 4 i (by decide)]
      simp only [one]
      exact z2
    · have : (c_drop (c_rights s m) (a.1 1)).2 = s.2 := by
        show (c_rights s m).2 = s.2
        clear hT
        induction m with
        | zero => rfl
        | succ m ih => exact ih
      rw [this]; exact z3
    · rw [d5]
      show (if 1 ≤ i ∧ i ≤ a.1 1 ∧ (c_rights s m).1 11 i = 2 ∧ (c_rights s m).1 13 i = 0 then 0 else (c_rights s m).1 11 i) = _
      rw [c_rights_o (by decide), c_rights_o (by decide)]
      have z4' : s.1 11 i = nI ((a_rw a T).2.1 5 i) := z4
      have hb5 := b5 i hi
      by_cases w : 1 ≤ i ∧ i ≤ a.1 1
      · have w13 : s.1 13 i = nI (ac (a_rw a T) i) := hc i w.1 (by omega)
        have wle : ac (a_rw a T) i ≤ a.1 1 := cn_le _ _
        rw [z4', w13]
        have e2 : nI ((a_rw a T).2.1 5 i) = 2 ↔ (a_rw a T).2.1 5 i = 2 := by rw [n_2]; exact nI_eq (by omega) (by omega)
        have e0 : nI (ac (a_rw a T) i) = 0 ↔ ac (a_rw a T) i = 0 := by rw [n_0]; exact nI_eq (by omega) (by omega)
        by_cases y : (a_rw a T).2.1 5 i = 2 ∧ ac (a_rw a T) i = 0
        · rw [if_pos ⟨w.1, w.2, e2.mpr y.1, e0.mpr y.2⟩, if_pos ⟨w.1, w.2, y.1, y.2⟩]; rfl
        · rw [if_neg (fun v => y ⟨e2.mp v.2.2.1, e0.mp v.2.2.2⟩), if_neg (fun v => y ⟨v.2.2.1, v.2.2.2⟩)]
      · rw [if_neg (fun v => w ⟨v.1, v.2.1⟩), if_neg (fun v => w ⟨v.1, v.2.1⟩), z4']
    · rw [c_drop_o (by decide), c_rights_o (by decide), do_ 6 i (by decide)]; exact z5
  · rw [c_drop_o (by decide), c_rights_o (by decide), hac]; exact hc i b1 b2
  · have b2' : i ≤ a.1 1 := b2
    have b3' : (a_rw a T).2.1 5 i ≠ 0 := fun z => b3 (by rw [d5]; split <;> simp_all)
    rw [c_drop_o (by decide), ad_p b4]
    by_cases z : T i = true
    · rw [if_pos (Or.inl z), (c_rights_p b4).1 ((hT i).mp z), htrx i p b1 (by omega)]
      rfl
    · rw [(c_rights_p b4).2 (fun w => z ((hT i).mpr w)), hp i p b1 b2 b3' b4 z, aT_p b4]
      by_cases y : a_chg a T i = true
      · rw [if_pos y, if_pos (Or.inr y)]
      · rw [if_neg y, if_neg (fun w => w.elim z y)]
  · rw [c_drop_o (by decide), c_drop_o (by decide), c_rights_o (by decide), c_rights_o (by decide)]
    obtain ⟨z1, z2⟩ := hx j hj
    exact ⟨z1, z2⟩
  · obtain ⟨bk, c1, c2, c3⟩ := hb
    refine ⟨bk, fun j hj => ?_, c2, c3⟩
    rw [c_drop_o (by decide), c_rights_o (by decide)]
    exact c1 j hj
theorem tkC {s : ak_S} {a : ab_T} (hA : AI a) (hR : RC s a) {x j : Nat} (h1 : 1 ≤ x) (h2 : x ≤ 250) (h3 : j ≤ 250) : tk s x j ↔ a_tk a x j := by
  obtain ⟨b1, b2, _, _, b5⟩ := hR.2.2.1 j h3
  obtain ⟨c1, c2, c3, c4⟩ := hA.2.2.1 j h3
  have hn := hA.1
  have r := (hR.2.1 (a.2.1 3 j) (by omega)).2.2
  have rb := (hA.2.1 (a.2.1 3 j) (by omega)).2.2
  unfold tk a_tk
  have e12 : nI (a.2.1 6 j) = nI x ↔ a.2.1 6 j = x := nI_eq (by omega) (by omega)
  have e7 : nI (a.2.1 2 (a.2.1 3 j)) = 2 ↔ a.2.1 2 (a.2.1 3 j) = 2 := by rw [n_2]; exact nI_eq (by omega) (by omega)
  rw [b1, q_cl (by omega), b2, b5, r, e12, e7]
  by_cases z : a.2.1 5 j = 1
  · rw [if_pos z, nI_eq (by omega) (by omega)]
    simp [z]
  · rw [if_neg z, nI_eq (by omega) (by omega)]
    simp only [z, false_and, false_or]
    constructor
    · rintro (w | w)
      · omega
      · exact w
    · exact Or.inr
theorem rchC {s : ak_S} {a : ab_T} (hA : AI a) (hR : RC s a) {x e : Nat} (h1 : 1 ≤ x) (h2 : x ≤ a.1 1) : (1 ≤ e ∧ e ≤ a.1 1 ∧ rch s (a.1 1) x e) ↔ a_G a x e := by
  have hn := hA.1
  unfold a_G
  constructor
  · rintro ⟨e1, e2, h⟩
    refine ⟨e1, e2, fun S hS hc => ?_⟩
    exact (h (fun y => 1 ≤ y ∧ y ≤ a.1 1 ∧ S y) ⟨h1, h2, hS⟩ (fun y j hy j1 j2 ht => ⟨j1, j2, hc y j hy.2.2 hy.1 hy.2.1 j1 j2 ((tkC hA hR hy.1 (by omega) (by omega)).mp ht)⟩)).2.2
  · rintro ⟨e1, e2, h⟩
    refine ⟨e1, e2, fun S hS hc => ?_⟩
    exact h S hS (fun y j hy y1 y2 j1 j2 ht => hc y j hy j1 j2 ((tkC hA hR y1 (by omega) (by omega)).mpr ht))
def pt_L_delete : ak_P := fun vs s Q => match vs with
  | [.ref 0, .int x] => ∃ a, AI a ∧ RC s a ∧ ∀ s', RC s' (g_delete a x) → Q (some (.int (f_delete a x))) s'
  | _ => False
def cs_L_delete : Nat → ak_P := fun a => match a with
  | 0 => pt_S_has
  | 1 => pt_S_is
  | 2 => pt_D_gather
  | 3 => pt_D_isBarred
  | _ => pt_D_carryOut
theorem vc_L_delete : ak_VC lay_C cs_L_delete bl_L_delete 2 pt_L_delete := by
  intro vs s Q h
  unfold pt_L_delete at h
  split at h
  · rename_i x
    obtain ⟨a, hA, hR, h⟩ := h
    have hn := hA.1
    refine ⟨Nat.le_of_ble_eq_true rfl, fun J hJ => hJ 5 _ _ _ _ ?_⟩
    simp only [Nat.reduceAdd, Nat.reduceLeDiff, Nat.zero_le, true_or, or_true, run_s, e_nop, e_iconst, e_bipush, e_sipush, e_lconst, e_iload, e_iload_n, e_lload, e_lload_n, e_aload, e_aload_n, e_istore, e_istore_n, e_iinc, e_iadd, e_isub, e_imul, e_lcmp, e_dupI, e_dupR, e_dup2, e_getfield, e_putfield, e_iaload, e_baload, e_laload, e_iastore, e_bastore, e_lastore, e_if, e_icmp, e_goto, e_tsw, e_ireturn0, e_ireturn1, e_return, e_call0, e_call1, e_call2, e_call3, lI_e, lL_e, lR_e, ak_nth, ak_set, ak_ok1, ak_jp, ak_b1, ak_b2, ak_sw, ak_la, ak_pad, true_and, and_true, List.map_cons, List.map_nil, List.sum_cons, List.sum_nil, Value.category, Option.toList_some, Option.toList_none, List.cons_append, List.nil_append, gC_0_0, gC_0_1, gC_0_2, gC_0_3, rC_0, gC_1_0, pC_1_0, gC_1_1, gC_1_2, gC_1_3, rC_1, gC_2_0, pC_2_0, gC_2_1, gC_2_2, gC_2_3, gC_2_4, gC_2_5, gC_2_6, gC_2_7, gC_2_8, rC_2, gC_3_0, pC_3_0, gC_3_1, gC_3_2, rC_3, gC_4_0, gC_4_1, gC_4_2, gC_4_3, gC_4_4, pC_4_4, rC_4, kC_5, kC_6, kC_7, kC_8, kC_9, kC_10, kC_11, kC_12, kC_13, kC_14, kC_15, kC_16, kC_17, kC_18, kC_19, fd_L_delete_0, fd_L_delete_14, fd_L_delete_29, fd_L_delete_50, bk_L_delete_0, bk_L_delete_14, bk_L_delete_29, bk_L_delete_50, cs_L_delete, pt_S_has, pt_S_is, pt_D_gather, pt_D_isBarred, pt_D_carryOut]
    simp only [bt0, Classical.not_not, i10, false_implies, not_false_eq_true, true_implies, not_true_eq_false, true_and, and_true, false_and, and_false, imp_self]
    rw [hR.1.2.1]
    refine ⟨fun q => ⟨a.1 1, by omega, rfl, fun q2 => ?_, fun q2 => ?_⟩, fun q => ?_⟩
    · obtain ⟨x', hx1, hx2, rfl⟩ := iS_of hA q
      have hst : a.2.1 5 x' = 1 := by
        have := q2.2
        have hb := (hA.2.2.1 x' (by omega)).2.2.1
        rw [q_cl (by omega), (hR.2.2.1 x' (by omega)).2.2.2.1, n_1, q_eq (by omega) (by omega)] at this
        exact this
      refine ⟨a.1 1, x', by omega, rfl, fun j j1 j2 => ⟨a.2.1 3 j, by have := (hA.2.2.1 j (by omega)).1; omega, (hR.2.2.1 j (by omega)).1⟩, rfl, hx1, hx2, fun gs gg m hDI hgs => ?_⟩
      have hRD : RC (c_D s gs gg (nI m)) a := RC_D hR
      have hmn := cn_le (fun j => decide (gs j = 1)) (a.1 1)
      have hme := hDI.1
      -- what goes
      have hG : ∀ j, j ≤ 250 → (gs j = 1 ↔ a_gB a x' j = true) := fun j hj => by rw [hgs j hj, a_gB_t]; exact rchC hA hR hx1 hx2
      have hG0 : ∀ j, j ≤ 250 → (gs j = 0 ↔ a_gB a x' j = false) := fun j hj => by
        rcases hDI.2.1 j hj with z | z
        · refine ⟨fun _ => ?_, fun _ => z⟩
          cases w : a_gB a x' j with
          | false => rfl
          | true =>
            have := (hG j hj).mpr w
            rw [z] at this
            exact absurd this (by decide)
        · refine ⟨fun w => ?_, fun w => ?_⟩
          · rw [z] at w; exact absurd w (by decide)
          · rw [(hG j hj).mp z] at w; cases w
      have hcount : m = cn (a_gB a x') (a.1 1) := by
        rw [hme]
        refine cn_congr (fun j j1 j2 => ?_)
        rw [Bool.eq_iff_iff, decide_eq_true_eq]
        exact hG j (by omega)
      have hbar : (∃ j, 1 ≤ j ∧ j ≤ a.1 1 ∧ (c_D s gs gg (nI m)).1 18 j = 0 ∧ ¬ (c_D s gs gg (nI m)).1 18 ((c_D s gs gg (nI m)).1 12 j).toNatClampNeg = 0 ∧ (c_D s gs gg (nI m)).1 7 ((c_D s gs gg (nI m)).1 8 j).toNatClampNeg = 0) ↔ a_bar a (a_gB a x') := by
        unfold a_bar
        have each : ∀ j, 1 ≤ j → j ≤ a.1 1 → (((c_D s gs gg (nI m)).1 18 j = 0 ∧ ¬ (c_D s gs gg (nI m)).1 18 ((c_D s gs gg (nI m)).1 12 j).toNatClampNeg = 0 ∧ (c_D s gs gg (nI m)).1 7 ((c_D s gs gg (nI m)).1 8 j).toNatClampNeg = 0) ↔ (a_gB a x' j = false ∧ a.2.1 6 j ≠ 0 ∧ a_gB a x' (a.2.1 6 j) = true ∧ a.2.1 2 (a.2.1 3 j) = 0)) := by
          intro j j1 j2
          obtain ⟨b1, _, _, _, b5⟩ := hRD.2.2.1 j (by omega)
          obtain ⟨c1, _, _, c4⟩ := hA.2.2.1 j (by omega)
          have r := (hRD.2.1 (a.2.1 3 j) (by omega)).2.2
          have rb := (hA.2.1 (a.2.1 3 j) (by omega)).2.2
          have e7 : nI (a.2.1 2 (a.2.1 3 j)) = 0 ↔ a.2.1 2 (a.2.1 3 j) = 0 := by rw [n_0]; exact nI_eq (by omega) (by omega)
          rw [b5, b1, q_cl (by omega), q_cl (by omega), r, e7, c_D_18, c_D_18, hG0 j (by omega), hG0 (a.2.1 6 j) (by omega)]
          constructor
          · rintro ⟨z1, z2, z3⟩
            have z4 : a_gB a x' (a.2.1 6 j) = true := by
              cases w : a_gB a x' (a.2.1 6 j) with
              | false => exact absurd w z2
              | true => rfl
            exact ⟨z1, fun w => by rw [w] at z4; exact absurd (a_gB_t.mp z4).1 (by omega), z4, z3⟩
          · rintro ⟨z1, _, z2, z3⟩
            exact ⟨z1, fun w => (by rw [z2] at w; cases w), z3⟩
        constructor
        · rintro ⟨j, j1, j2, z⟩
          exact ⟨j, j1, j2, (each j j1 j2).mp z⟩
        · rintro ⟨j, j1, j2, z⟩
          exact ⟨j, j1, j2, (each j j1 j2).mpr z⟩
      refine ⟨a.1 1, by omega, hRD.1.2.1, fun j j1 j2 => ⟨a.2.1 3 j, by have := (hA.2.2.1 j (by omega)).1; omega, (hRD.2.2.1 j (by omega)).1⟩, fun j j1 j2 => ⟨a.2.1 6 j, by have := (hA.2.2.1 j (by omega)).2.2.2; omega, (hRD.2.2.1 j (by omega)).2.2.2.2⟩, fun hb => ?_, fun hb => ?_⟩
      · have hb' := hbar.mp hb
        have := h (c_D s gs gg (nI m)) (by
          rw [g_delete, q_cl (by omega), ci_f (fun z => z.2.2 hb')]
          exact hRD)
        rw [f_delete, q_cl (by omega), ci_f (fun z => z q), ci_f (fun z => z hst), ci_t hb'] at this
        exact this
      · have hb' : ¬ a_bar a (a_gB a x') := fun z => by
          obtain ⟨j, j1, j2, w⟩ := hbar.mpr z
          exact hb j j1 j2 w
        have hgo : ∀ p, p < m → ∃ e, 1 ≤ e ∧ e ≤ a.1 1 ∧ (c_D s gs gg (nI m)).1 19 p = nI e := fun p hp => by
          obtain ⟨e, z1, z2, z3, _⟩ := hDI.2.2.2.1 p hp
          exact ⟨e, z1, z2, by rw [c_D_19]; exact z3⟩
        refine ⟨a.1 1, m, by omega, by omega, hRD.1.2.1, c_D_4, fun p hp => ?_, fun j j1 => ⟨a.2.1 6 j, by have := (hA.2.2.1 j (by omega)).2.2.2; omega, (hRD.2.2.1 j (by omega)).2.2.2.2⟩, ?_⟩
        · obtain ⟨e, z1, z2, z3⟩ := hgo p hp
          exact ⟨e, by omega, z3⟩
        · rw [c_drop_o (by decide), c_rights_o (by decide), c_takes_o (by decide) (by decide) (by decide) (by decide) (by decide), c_D_4]
          obtain ⟨T, hT, hRT⟩ := RC_takes hA hRD m hgo
          have hTg : T = a_gB a x' := by
            funext j
            rw [Bool.eq_iff_iff, hT]
            constructor
            · rintro ⟨p, p1, p2⟩
              obtain ⟨e, z1, z2, z3, z4⟩ := hDI.2.2.2.1 p p1
              rw [c_D_19, z3, q_cl (by omega)] at p2
              subst p2
              exact (hG e (by omega)).mp z4
            · intro z
              have z2 := (a_gB_t.mp z).2.1
              obtain ⟨p, p1, p2⟩ := hDI.2.2.2.2 j (by omega) ((hG j (by omega)).mpr z)
              exact ⟨p, p1, by rw [c_D_19, p2, q_cl (by omega)]⟩
          have hT2 : ∀ j, T j = true ↔ ∃ p, p < m ∧ ((c_takes (c_D s gs gg (nI m)) m).1 19 p).toNatClampNeg = j := fun j => by
            rw [hT]
            constructor
            · rintro ⟨p, p1, p2⟩
              exact ⟨p, p1, by rw [c_takes_o (by decide) (by decide) (by decide) (by decide) (by decide)]; exact p2⟩
            · rintro ⟨p, p1, p2⟩
              rw [c_takes_o (by decide) (by decide) (by decide) (by decide) (by decide)] at p2
              exact ⟨p, p1, p2⟩
          have hfin := RC_del hA hT2 hRT
          rw [hTg] at hfin
          have := h _ (by
            rw [g_delete, q_cl (by omega), ci_t ⟨q, hst, hb'⟩]
            exact hfin)
          rw [f_delete, q_cl (by omega), ci_f (fun z => z q), ci_f (fun z => z hst), ci_f hb', ← hcount] at this
          exact this
    · obtain ⟨x', hx1, hx2, rfl⟩ := iS_of hA q
      have hst : a.2.1 5 x' ≠ 1 := fun z => q2 ⟨q, by rw [q_cl (by omega), (hR.2.2.1 x' (by omega)).2.2.2.1, z]; rfl⟩
      have := h s (by
        rw [g_delete, q_cl (by omega), ci_f (fun z => hst z.2.1)]
        exact hR)
      rw [f_delete, q_cl (by omega), ci_f (fun z => z q), ci_t hst] at this
      exact this
    · have := h s (by
        rw [g_delete, ci_f (fun z => q z.1)]
        exact hR)
      rw [f_delete, ci_t q] at this
      exact this
  · exact h.elim
set_option maxRecDepth 20000 in
theorem ct_L_delete (l : Launch) : ak_Ctr l cl_all lay_C y_L_delete ws_L_delete rm_L_delete pt_L_delete := by
  refine ak_met (cs := cs_L_delete) (reg := rg_L_delete) (bl := bl_L_delete) (by decide +kernel) rfl (cl_ok _) rfl ok_L_delete ?_ vc_L_delete
  intro a n b ci h
  match a, h with
  | 0, h =>
    cases h
    exact ak_ccV (ct_S_has l) rfl 218 189 190 22 191 (by decide +kernel) ⟨rfl, rfl⟩ (by decide +kernel) (by decide +kernel)
  | 1, h =>
    cases h
    exact ak_ccV (ct_S_is l) rfl 184 185 186 22 187 (by decide +kernel) ⟨rfl, rfl⟩ (by decide +kernel) (by decide +kernel)
  | 2, h =>
    cases h
    exact ak_ccV (ct_D_gather l) rfl 227 228 229 24 230 (by decide +kernel) ⟨rfl, rfl⟩ (by decide +kernel) (by decide +kernel)
  | 3, h =>
    cases h
    exact ak_ccV (ct_D_isBarred l) rfl 240 241 242 24 243 (by decide +kernel) ⟨rfl, rfl⟩ (by decide +kernel) (by decide +kernel)
  | 4, h =>
    cases h
    exact ak_ccV (ct_D_carryOut l) rfl 244 245 246 24 247 (by decide +kernel) ⟨rfl, rfl⟩ (by decide +kernel) (by decide +kernel)
  | k + 5, h => cases h
