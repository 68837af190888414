/-! a new segment, in the row by keys -/
theorem cn_0 {p : Nat → Bool} {n : Nat} (h : ∀ j, 1 ≤ j → j ≤ n → p j = false) : cn p n = 0 := by
  induction n with
  | zero => rfl
  | succ n ih => rw [cn, ih (fun j h1 h2 => h j h1 (by omega)), h (n + 1) (by omega) (by omega)]; simp
theorem BK_ins {s0 : ak_S} {a : ab_T} {k u p : Nat} {y : Int64} (hb : BK s0 a) (hp : p ≤ a.1 1) (hlo : ∀ q, p = q + 1 → ¬ y < a.2.2.1 (s0.1 15 q).toNatClampNeg) (hhi : ∀ j, p ≤ j → j < a.1 1 → y < a.2.2.1 (s0.1 15 j).toNatClampNeg) (hn : a.1 1 < 250) : BK (c_ins s0 (a.1 1) p (nI (a.1 1 + 1))) (g_new a k u y) := by
  obtain ⟨bk, c1, c2, c3⟩ := hb
  have en : (g_new a k u y).1 1 = a.1 1 + 1 := rfl
  have ekey : ∀ i, (g_new a k u y).2.2.1 i = if i = a.1 1 + 1 then y else a.2.2.1 i := fun i => rfl
  have hbk : ∀ j, j < a.1 1 → (s0.1 15 j).toNatClampNeg = bk j := fun j hj => by
    obtain ⟨d1, d2, d3⟩ := c1 j hj
    rw [d1, q_cl (by omega)]
  obtain ⟨f, hf⟩ : ∃ f : Nat → Nat, f = fun j => if j = p then a.1 1 + 1 else if p < j then bk (j - 1) else bk j := ⟨_, rfl⟩
  have fp : f p = a.1 1 + 1 := by rw [hf]; simp
  have flt : ∀ j, j < p → f j = bk j := fun j hj => by rw [hf]; simp only; rw [if_neg (by omega), if_neg (by omega)]
  have fgt : ∀ j, p < j → f j = bk (j - 1) := fun j hj => by rw [hf]; simp only; rw [if_neg (by omega), if_pos hj]
  -- the newest against an old one
  have old_lt : ∀ q, q < p → a_lt (g_new a k u y) (bk q) (a.1 1 + 1) := by
    intro q hq
    have hlast := hlo (p - 1) (by omega)
    rw [hbk _ (by omega)] at hlast
    have hle : ¬ y < a.2.2.1 (bk q) := by
      by_cases e : q = p - 1
      · rw [e]; exact hlast
      · rcases c3 q (p - 1) (by omega) (by omega) with z | z
        · intro w; exact hlast (Int64.lt_trans w z)
        · rw [z.1]; exact hlast
    obtain ⟨_, d2, d3⟩ := c1 q (by omega)
    unfold a_lt
    rw [ekey, ekey, if_neg (by omega), if_pos rfl]
    rcases Int64.lt_or_eq_of_le (Int64.not_lt.mp hle) with z | z
    · exact Or.inl z
    · exact Or.inr ⟨z, by omega⟩
  have lt_old : ∀ q, p ≤ q → q < a.1 1 → a_lt (g_new a k u y) (a.1 1 + 1) (bk q) := by
    intro q hq hq2
    have := hhi q hq hq2
    rw [hbk _ hq2] at this
    obtain ⟨_, d2, d3⟩ := c1 q hq2
    unfold a_lt
    rw [ekey, ekey, if_pos rfl, if_neg (by omega)]
    exact Or.inl this
  have old_old : ∀ i j, i < j → j < a.1 1 → a_lt (g_new a k u y) (bk i) (bk j) := by
    intro i j hij hj
    obtain ⟨_, d2, d3⟩ := c1 i (by omega)
    obtain ⟨_, e2, e3⟩ := c1 j hj
    unfold a_lt
    rw [ekey, ekey, if_neg (by omega), if_neg (by omega)]
    exact c3 i j hij hj
  refine ⟨f, fun j hj => ?_, fun i h1 h2 => ?_, fun i j hij hj => ?_⟩
  · rw [en] at hj ⊢
    unfold c_ins
    rw [p1_s]
    by_cases e : j = p
    · rw [if_pos e, e, fp]
      exact ⟨rfl, by omega, by omega⟩
    · rw [if_neg e]
      simp only [c_sh, if_true]
      by_cases e2 : p < j
      · rw [if_pos ⟨e2, by omega⟩, fgt j e2]
        obtain ⟨d1, d2, d3⟩ := c1 (j - 1) (by omega)
        exact ⟨d1, d2, by omega⟩
      · rw [if_neg (fun z => e2 z.1), flt j (by omega)]
        obtain ⟨d1, d2, d3⟩ := c1 j (by omega)
        exact ⟨d1, d2, by omega⟩
  · rw [en] at h2 ⊢
    by_cases e : i = a.1 1 + 1
    · exact ⟨p, by omega, by rw [fp, e]⟩
    · obtain ⟨j, d1, d2⟩ := c2 i h1 (by omega)
      by_cases e2 : j < p
      · exact ⟨j, by omega, by rw [flt j e2, d2]⟩
      · exact ⟨j + 1, by omega, by rw [fgt (j + 1) (by omega)]; simpa using d2⟩
  · rw [en] at hj
    by_cases e1 : i < p
    · rw [flt i e1]
      by_cases e2 : j < p
      · rw [flt j e2]; exact old_old i j hij (by omega)
      · by_cases e3 : j = p
        · rw [e3, fp]; exact old_lt i e1
        · rw [fgt j (by omega)]; exact old_old i (j - 1) (by omega) (by omega)
    · by_cases e2 : i = p
      · rw [e2, fp, fgt j (by omega)]
        exact lt_old (j - 1) (by omega) (by omega)
      · rw [fgt i (by omega), fgt j (by omega)]
        exact old_old (i - 1) (j - 1) (by omega) (by omega)
theorem RC_new {s : ak_S} {a : ab_T} {k u p : Nat} {y : Int64} (hA : AI a) (hR : RC s a) (hn : a.1 1 < 250) (hp : p ≤ a.1 1) (hlo : ∀ q, p = q + 1 → ¬ y < (c_new s (a.1 1) (nI k) (nI u) y).2 10 (s.1 15 q).toNatClampNeg) (hhi : ∀ j, p ≤ j → j < a.1 1 → y < (c_new s (a.1 1) (nI k) (nI u) y).2 10 (s.1 15 j).toNatClampNeg) :
    RC (c_ins (c_new s (a.1 1) (nI k) (nI u) y) (a.1 1) p (nI (a.1 1 + 1))) (g_new a k u y) := by
  obtain ⟨⟨h1, h2, h3⟩, hk, hs, hc, hpt, hx, hb⟩ := hR
  have hrl : a.2.1 6 (a.1 1 + 1) = 0 := by
    by_cases z : a.2.1 6 (a.1 1 + 1) = 0
    · exact z
    · have := hA.2.2.2.2.1 (a.1 1 + 1) (by omega) z
      omega
  have hac : ∀ i, 1 ≤ i → ac (g_new a k u y) i = ac a i := by
    intro i hi
    show cn (fun j => decide ((g_new a k u y).2.1 6 j = i)) (a.1 1 + 1) = _
    rw [cn]
    have e : ∀ j, (g_new a k u y).2.1 6 j = a.2.1 6 j := fun j => by
      unfold g_new
      rw [ar_21, af_o (by decide), ak_21, af_o (by decide), af_o (by decide), an_2]
    simp only [e, hrl]
    rw [if_neg (by simp; omega)]
    rfl
  have e3 : ∀ i, (g_new a k u y).2.1 3 i = if i = a.1 1 + 1 then k else a.2.1 3 i := fun i => by
    unfold g_new
    rw [ar_21, af_o (by decide), ak_21, af_o (by decide), af_s, an_2]
  have e4 : ∀ i, (g_new a k u y).2.1 4 i = if i = a.1 1 + 1 then u else a.2.1 4 i := fun i => by
    unfold g_new
    rw [ar_21, af_o (by decide), ak_21, af_s, af_o (by decide), an_2]
  have e5 : ∀ i, (g_new a k u y).2.1 5 i = if i = a.1 1 + 1 then 1 else a.2.1 5 i := fun i => by
    unfold g_new
    rw [ar_21, af_s, ak_21, af_o (by decide), af_o (by decide), an_2]
  have eo : ∀ f i, f ≠ 3 → f ≠ 4 → f ≠ 5 → (g_new a k u y).2.1 f i = a.2.1 f i := fun f i q1 q2 q3 => by
    unfold g_new
    rw [ar_21, af_o q3, ak_21, af_o q2, af_o q1, an_2]
  -- the state before the row by keys
  have key0 : ∀ e, (c_new s (a.1 1) (nI k) (nI u) y).2 10 e = if e = a.1 1 + 1 then y else s.2 10 e := fun e => by
    unfold c_new c_new0
    rw [c_right_2, p1_2, p2_s]
    rfl
  have s15 : ∀ j, (c_new s (a.1 1) (nI k) (nI u) y).1 15 j = s.1 15 j := fun j => by
    unfold c_new c_new0
    rw [c_right_o (by decide), p1_o (by decide), p2_1, p1_o (by decide), p1_o (by decide), p1_o (by decide)]
  have hb0 : BK (c_new s (a.1 1) (nI k) (nI u) y) a := by
    obtain ⟨bk, c1, c2, c3⟩ := hb
    exact ⟨bk, fun j hj => by rw [s15]; exact c1 j hj, c2, c3⟩
  have hbkr : ∀ j, j < a.1 1 → ∃ e, 1 ≤ e ∧ e ≤ a.1 1 ∧ s.1 15 j = nI e := by
    obtain ⟨bk, c1, c2, c3⟩ := hb
    intro j hj
    obtain ⟨d1, d2, d3⟩ := c1 j hj
    exact ⟨bk j, d2, d3, d1⟩
  have kold : ∀ j, j < a.1 1 → (c_new s (a.1 1) (nI k) (nI u) y).2 10 (s.1 15 j).toNatClampNeg = a.2.2.1 (s.1 15 j).toNatClampNeg := by
    intro j hj
    obtain ⟨e, d1, d2, d3⟩ := hbkr j hj
    rw [d3, q_cl (by omega), key0, if_neg (by omega)]
    exact (hs e (by omega)).2.2.1
  have hBK : BK (c_ins (c_new s (a.1 1) (nI k) (nI u) y) (a.1 1) p (nI (a.1 1 + 1))) (g_new a k u y) := by
    refine BK_ins hb0 hp (fun q e => ?_) (fun j b1 b2 => ?_) hn
    · rw [s15, ← kold q (by omega)]; exact hlo q e
    · rw [s15, ← kold j b2]; exact hhi j b1 b2
  refine ⟨⟨?_, ?_, ?_⟩, fun k' hk' => ?_, fun i hi => ?_, fun i b1 b2 => ?_, fun i q b1 b2 b3 b4 => ?_, fun j hj => ?_, hBK⟩
  · rw [c_ins_o (by decide), c_new, c_right_o (by decide), c_new0, p1_o (by decide), p2_1, p1_o (by decide), p1_o (by decide), p1_o (by decide), h1]; rfl
  · rw [c_ins_o (by decide), c_new, c_right_o (by decide), c_new0, p1_o (by decide), p2_1, p1_o (by decide), p1_o (by decide), p1_s, if_pos rfl]; rfl
  · rw [c_ins_o (by decide), c_new, c_right_o (by decide), c_new0, p1_o (by decide), p2_1, p1_o (by decide), p1_o (by decide), p1_o (by decide), h3]; rfl
  · simp only [c_ins_o (show (5 : Nat) ≠ 15 by decide), c_ins_o (show (6 : Nat) ≠ 15 by decide), c_ins_o (show (7 : Nat) ≠ 15 by decide), c_new, c_right_o (show (5 : Nat) ≠ 14 by decide), c_right_o (show (6 : Nat) ≠ 14 by decide), c_right_o (show (7 : Nat) ≠ 14 by decide), c_new0, p2_1]
    rw [eo 0 k' (by decide) (by decide) (by decide), eo 1 k' (by decide) (by decide) (by decide), eo 2 k' (by decide) (by decide) (by decide)]
    simpa [p1_o, p2_1] using hk k' hk'
  · obtain ⟨q1, q2, q3, q4, q5⟩ := hs i hi
    refine ⟨?_, ?_, ?_, ?_, ?_⟩
    · rw [c_ins_o (by decide), c_new, c_right_o (by decide), c_new0, p1_o (by decide), p2_1, p1_o (by decide), p1_s, e3]
      split
      · rfl
      · rw [p1_o (by decide), q1]
    · rw [c_ins_o (by decide), c_new, c_right_o (by decide), c_new0, p1_o (by decide), p2_1, p1_s, e4, e5]
      by_cases e : i = a.1 1 + 1
      · rw [if_pos e, if_pos e, if_pos e, if_pos rfl]
      · rw [if_neg e, if_neg e, if_neg e, p1_o (by decide), p1_o (by decide), q2]
    · rw [c_ins_2, key0]
      show _ = if i = a.1 1 + 1 then y else a.2.2.1 i
      rw [q3]
    · rw [c_ins_o (by decide), c_new, c_right_o (by decide), c_new0, p1_s, e5]
      by_cases e : i = a.1 1 + 1
      · rw [if_pos e, if_pos e]; rfl
      · rw [if_neg e, if_neg e, p2_1, p1_o (by decide), p1_o (by decide), p1_o (by decide), q4]
    · rw [c_ins_o (by decide), c_new, c_right_o (by decide), c_new0, p1_o (by decide), p2_1, p1_o (by decide), p1_o (by decide), p1_o (by decide), eo 6 i (by decide) (by decide) (by decide), q5]
  · rw [hac i b1, c_ins_o (by decide), c_new, c_right_o (by decide), c_new0, p1_o (by decide), p2_1, p1_o (by decide), p1_o (by decide), p1_o (by decide)]
    exact hc i b1 b2
  · rw [c_ins_o (by decide), c_new, cr_p b4]
    have hg : (g_new a k u y).2.2.2 (3 * i + q) = if i = a.1 1 + 1 then nI (a_tr (a_f (a_k (a_f (a_f (a_n a 1 (a.1 1 + 1)) 3 (a.1 1 + 1) k) 4 (a.1 1 + 1) u) (a.1 1 + 1) y) 5 (a.1 1 + 1) 1) i q) else a.2.2.2 (3 * i + q) := by
      unfold g_new
      rw [ar_p b4]
      by_cases e : i = a.1 1 + 1
      · rw [if_pos e, if_pos e, e]
      · rw [if_neg e, if_neg e]; rfl
    rw [hg]
    by_cases e : i = a.1 1 + 1
    · rw [if_pos e, if_pos e, ← e]
      have hcnt : ac (a_f (a_k (a_f (a_f (a_n a 1 i) 3 i k) 4 i u) i y) 5 i 1) i = ac a i := by
        have := hac i b1
        rw [e] at this ⊢
        exact this
      unfold c_tr a_tr
      rw [hcnt]
      have z9 : (c_new0 s (a.1 1) (nI k) (nI u) y).1 9 i = nI u := by
        rw [c_new0, p1_o (by decide), p2_1, p1_s, if_pos e]
      have z12 : (c_new0 s (a.1 1) (nI k) (nI u) y).1 12 i = nI (a.2.1 6 i) := by
        rw [c_new0, p1_o (by decide), p2_1, p1_o (by decide), p1_o (by decide), p1_o (by decide)]
        exact (hs i (by omega)).2.2.2.2
      have z13 : (c_new0 s (a.1 1) (nI k) (nI u) y).1 13 i = nI (ac a i) := by
        rw [c_new0, p1_o (by decide), p2_1, p1_o (by decide), p1_o (by decide), p1_o (by decide)]
        exact hc i b1 (by omega)
      rw [z9, z12, z13]
      split
      · rw [af_s, if_pos rfl, if_pos rfl, af_o (by decide), ak_21, af_s, if_pos rfl]
      · split
        · rw [af_o (by decide), ak_21, af_o (by decide), af_o (by decide), an_2]
        · rfl
    · rw [if_neg e, if_neg e, c_new0, p1_o (by decide), p2_1, p1_o (by decide), p1_o (by decide), p1_o (by decide)]
      rw [e5, if_neg e] at b3
      have : (g_new a k u y).1 1 = a.1 1 + 1 := rfl
      exact hpt i q b1 (by omega) b3 b4
  · simp only [c_ins_o (show (16 : Nat) ≠ 15 by decide), c_ins_o (show (17 : Nat) ≠ 15 by decide), c_new, c_right_o (show (16 : Nat) ≠ 14 by decide), c_right_o (show (17 : Nat) ≠ 14 by decide), c_new0, p2_1]
    rw [eo 7 j (by decide) (by decide) (by decide), eo 8 j (by decide) (by decide) (by decide)]
    simpa [p1_o, p2_1] using hx j hj
def pt_L_segment : ak_P := fun vs s Q => match vs with
  | [.ref 0, .int k, .int u, .long y] => ∃ a, AI a ∧ RC s a ∧ ∀ s', RC s' (g_segment a k u y) → Q (some (.int (f_segment a k u y))) s'
  | _ => False
def cs_L_segment : Nat → ak_P := fun a => match a with
  | 0 => pt_K_has
  | 1 => pt_L_mayBeUnder
  | 2 => pt_S_hasKey
  | _ => pt_S_add
theorem vc_L_segment : ak_VC lay_C cs_L_segment bl_L_segment 5 pt_L_segment := by
  intro vs s Q h
  unfold pt_L_segment at h
  split at h
  · rename_i k u y
    obtain ⟨a, hA, hR, h⟩ := h
    refine ⟨Nat.le_of_ble_eq_true rfl, fun J hJ => hJ 4 _ _ _ _ ?_⟩
    simp only [Nat.reduceAdd, Nat.reduceLeDiff, Nat.zero_le, true_or, or_true, run_s, e_nop, e_iconst, e_bipush, e_sipush, e_lconst, e_iload, e_iload_n, e_lload, e_lload_n, e_aload, e_aload_n, e_istore, e_istore_n, e_iinc, e_iadd, e_isub, e_imul, e_lcmp, e_dupI, e_dupR, e_dup2, e_getfield, e_putfield, e_iaload, e_baload, e_laload, e_iastore, e_bastore, e_lastore, e_if, e_icmp, e_goto, e_tsw, e_ireturn0, e_ireturn1, e_return, e_call0, e_call1, e_call2, e_call3, lI_e, lL_e, lR_e, ak_nth, ak_set, ak_ok1, ak_jp, ak_b1, ak_b2, ak_sw, ak_la, ak_pad, true_and, and_true, List.map_cons, List.map_nil, List.sum_cons, List.sum_nil, Value.category, Option.toList_some, Option.toList_none, List.cons_append, List.nil_append, gC_0_0, gC_0_1, gC_0_2, gC_0_3, rC_0, gC_1_0, pC_1_0, gC_1_1, gC_1_2, gC_1_3, rC_1, gC_2_0, pC_2_0, gC_2_1, gC_2_2, gC_2_3, gC_2_4, gC_2_5, gC_2_6, gC_2_7, gC_2_8, rC_2, gC_3_0, pC_3_0, gC_3_1, gC_3_2, rC_3, gC_4_0, gC_4_1, gC_4_2, gC_4_3, gC_4_4, pC_4_4, rC_4, kC_5, kC_6, kC_7, kC_8, kC_9, kC_10, kC_11, kC_12, kC_13, kC_14, kC_15, kC_16, kC_17, kC_18, kC_19, fd_L_segment_0, fd_L_segment_14, fd_L_segment_26, fd_L_segment_42, bk_L_segment_0, bk_L_segment_14, bk_L_segment_26, bk_L_segment_42, cs_L_segment, pt_K_has, pt_L_mayBeUnder, pt_S_hasKey, pt_S_add]
    simp only [bt0, Classical.not_not, i10, false_implies, not_false_eq_true, true_implies, not_true_eq_false, true_and, and_true, false_and, and_false, imp_self]
    have hn := hA.1
    rw [hR.1.1]
    have same : g_segment a k u y = a → Q (some (.int (f_segment a k u y))) s := fun e => h s (by rw [e]; exact hR)
    refine ⟨fun q => ⟨a, hA, hR, q, fun hf => ⟨a.1 1, hn.2.1, hR.1.2.1, fun ⟨i, b1, b2, b3, b4, b5, b6⟩ => ?_, fun hno => ?_⟩, fun hf => ?_⟩, fun q => ?_⟩
    · obtain ⟨c1, c2, c3, c4, _⟩ := hR.2.2.1 i (by omega)
      have hst : a.2.1 5 i = 1 := by
        have := (hA.2.2.1 i (by omega)).2.2.1
        rw [c4, n_1, q_eq (by omega) (by omega)] at b4
        exact b4
      have hd : a_dup a k u y := by
        refine cn_ex.mpr ⟨i, b1, b2, ?_⟩
        rw [decide_eq_true_eq]
        rw [c2, if_pos hst] at b6
        exact ⟨hst, by rw [← c1]; exact b5, b6, by rw [← c3]; exact b3⟩
      have := same (by rw [g_segment, ci_f (fun z => z.2.2.1 hd)])
      rw [f_segment, ci_f (fun z => z q), ci_f (fun z => z hf), ci_t hd] at this
      exact this
    · have hd : ¬ a_dup a k u y := by
        intro z
        obtain ⟨i, b1, b2, b3⟩ := cn_ex.mp z
        rw [decide_eq_true_eq] at b3
        obtain ⟨c1, c2, c3, c4, _⟩ := hR.2.2.1 i (by omega)
        refine hno i b1 b2 ⟨by rw [c3]; exact b3.2.2.2, by rw [c4, b3.1]; rfl, by rw [c1]; exact b3.2.1, by rw [c2, if_pos b3.1]; exact b3.2.2.1⟩
      refine ⟨a.1 1, hn.2.1, hR.1.2.1, fun j hj => ?_, fun e => ?_, fun e p hp hlo hhi => ?_⟩
      · obtain ⟨bk, c1, _, _⟩ := hR.2.2.2.2.2.2
        obtain ⟨d1, d2, d3⟩ := c1 j hj
        exact ⟨bk j, by omega, d1⟩
      · have := same (by rw [g_segment, ci_f (fun z => by omega)])
        rw [f_segment, ci_f (fun z => z q), ci_f (fun z => z hf), ci_f hd, ci_t e] at this
        exact this
      · obtain ⟨k', hk1, hk2, rfl⟩ := iK_of hA q
        have hu : ∃ u' : Nat, u' < 2147483648 ∧ u = nI u' := by
          unfold a_fit at hf
          split at hf
          · exact ⟨0, by omega, hf⟩
          · obtain ⟨u', _, z, z2⟩ := iS_of hA hf.1
            exact ⟨u', by omega, z2⟩
        obtain ⟨u', hu1, rfl⟩ := hu
        have hy : (c_new s (a.1 1) (nI k') (nI u') y).2 10 (a.1 1 + 1) = y := by
          unfold c_new c_new0
          rw [c_right_2, p1_2, p2_s, if_pos rfl]
        rw [hy] at hlo hhi
        have := h (c_ins (c_new s (a.1 1) (nI k') (nI u') y) (a.1 1) p (nI (a.1 1 + 1))) (by
          rw [g_segment, ci_t ⟨q, hf, hd, e⟩, q_cl (by omega), q_cl hu1]
          exact RC_new hA hR e hp hlo hhi)
        rw [f_segment, ci_f (fun z => z q), ci_f (fun z => z hf), ci_f hd, ci_f (by omega)] at this
        exact this
    · have := same (by rw [g_segment, ci_f (fun z => hf z.2.1)])
      rw [f_segment, ci_f (fun z => z q), ci_t hf] at this
      exact this
    · have := same (by rw [g_segment, ci_f (fun z => q z.1)])
      rw [f_segment, ci_t q] at this
      exact this
  · exact h.elim
set_option maxRecDepth 20000 in
theorem ct_L_segment (l : Launch) : ak_Ctr l cl_all lay_C y_L_segment ws_L_segment rm_L_segment pt_L_segment := by
  refine ak_met (cs := cs_L_segment) (reg := rg_L_segment) (bl := bl_L_segment) (by decide +kernel) rfl (cl_ok _) rfl ok_L_segment ?_ vc_L_segment
  intro a n b ci h
  match a, h with
  | 0, h =>
    cases h
    exact ak_ccV (ct_K_has l) rfl 161 162 163 21 164 (by decide +kernel) ⟨rfl, rfl⟩ (by decide +kernel) (by decide +kernel)
  | 1, h =>
    cases h
    exact ak_ccV (ct_L_mayBeUnder l) rfl 181 182 0 20 183 (by decide +kernel) ⟨rfl, rfl⟩ (by decide +kernel) (by decide +kernel)
  | 2, h =>
    cases h
    exact ak_ccV (ct_S_hasKey l) rfl 192 193 194 22 195 (by decide +kernel) ⟨rfl, rfl⟩ (by decide +kernel) (by decide +kernel)
  | 3, h =>
    cases h
    exact ak_ccV (ct_S_add l) rfl 200 201 202 22 203 (by decide +kernel) ⟨rfl, rfl⟩ (by decide +kernel) (by decide +kernel)
  | k + 4, h => cases h
