/-! the reference's segment and relate; the invariants kept -/
def RMx (t : ak_S) (a : ab_T) (E : Nat → Prop) : Prop := (t.1 0 1 = nI (a.1 0) ∧ t.1 0 2 = nI (a.1 1) ∧ t.1 0 3 = nI (a.1 2)) ∧
  (∀ k, k ≤ 15 → t.1 1 k = nI (a.2.1 0 k) ∧ t.1 2 k = nI (a.2.1 1 k) ∧ t.1 3 k = nI (a.2.1 2 k)) ∧
  (∀ i, i ≤ 250 → t.1 4 i = nI (a.2.1 3 i) ∧ t.1 5 i = nI (a.2.1 4 i) ∧ t.2 9 i = a.2.2.1 i ∧ t.1 7 i = nI (a.2.1 6 i)) ∧
  (∀ i, 1 ≤ i → i ≤ a.1 1 → t.1 6 i = nI (if a.2.1 5 i = 0 then 3 else a.2.1 5 i)) ∧
  (∀ i p, 1 ≤ i → i ≤ a.1 1 → a.2.1 5 i ≠ 0 → p < 3 → ¬ E i → t.1 8 (3 * i + p) = a.2.2.2 (3 * i + p)) ∧
  (∀ j, j ≤ 10 → t.1 12 j = nI (a.2.1 7 j) ∧ t.1 13 j = nI (a.2.1 8 j))
theorem RM_of {t : ak_S} {a : ab_T} {E : Nat → Prop} (h : RMx t a E) (hE : ∀ i, 1 ≤ i → i ≤ a.1 1 → a.2.1 5 i ≠ 0 → ¬ E i) : RM t a := by
  obtain ⟨h1, hk, hs, hst, hp, hx⟩ := h
  exact ⟨h1, hk, hs, hst, fun i p a1 a2 a3 a4 => hp i p a1 a2 a3 a4 (hE i a1 a2 a3), hx⟩
theorem RM_to {t : ak_S} {a : ab_T} (h : RM t a) (E : Nat → Prop) : RMx t a E := by
  obtain ⟨h1, hk, hs, hst, hp, hx⟩ := h
  exact ⟨h1, hk, hs, hst, fun i p a1 a2 a3 a4 _ => hp i p a1 a2 a3 a4, hx⟩
/-- with the pointers as they are, it holds of the rows -/
def a_wp (a : ab_T) (P : Nat → Int32) : ab_T := (a.1, a.2.1, a.2.2.1, P)
theorem RMx_wp {t : ak_S} {a : ab_T} {E : Nat → Prop} (h : RMx t a E) : RM t (a_wp a (t.1 8)) := by
  obtain ⟨h1, hk, hs, hst, hp, hx⟩ := h
  exact ⟨h1, hk, hs, hst, fun i p a1 a2 a3 a4 => rfl, hx⟩
theorem mx_tr {t : ak_S} {a : ab_T} {E : Nat → Prop} (hA : AI a) (hR : RMx t a E) {i p : Nat} (h1 : 1 ≤ i) (h2 : i ≤ a.1 1) : m_tr t (a.1 1) i p = nI (a_tr a i p) :=
  m_tr_a (a := a_wp a (t.1 8)) hA (RMx_wp hR) h1 h2
theorem m_right_o {t : ak_S} {n i k j : Nat} (h : k ≠ 8) : (m_right t n i).1 k j = t.1 k j := by rw [m_right, p1_o h, p1_o h, p1_o h]
theorem mr_p {t : ak_S} {n i j p : Nat} (hp : p < 3) : (m_right t n i).1 8 (3 * j + p) = if j = i then m_tr t n i p else t.1 8 (3 * j + p) := by
  unfold m_right
  rw [p1_s, p1_s, p1_s]
  by_cases e : j = i
  · subst e
    rw [if_pos rfl]
    rcases (by omega : p = 0 ∨ p = 1 ∨ p = 2) with rfl | rfl | rfl
    · rw [if_neg (by omega), if_neg (by omega), if_pos (by omega)]
    · rw [if_neg (by omega), if_pos (by omega)]
    · rw [if_pos (by omega)]
  · rw [if_neg e, if_neg (by omega), if_neg (by omega), if_neg (by omega)]
theorem RMx_right {t : ak_S} {a : ab_T} {E : Nat → Prop} {i : Nat} (hA : AI a) (h : RMx t a E) (h1 : 1 ≤ i) (h2 : i ≤ a.1 1) : RMx (m_right t (a.1 1) i) (a_right a i) (fun j => E j ∧ j ≠ i) := by
  have ht := fun p => mx_tr (p := p) hA h h1 h2
  obtain ⟨⟨q1, q2, q3⟩, hk, hs, hst, hp, hx⟩ := h
  refine ⟨⟨?_, ?_, ?_⟩, fun k' hk' => ?_, fun j hj => ?_, fun j b1 b2 => ?_, fun j p b1 b2 b3 b4 b5 => ?_, fun j hj => ?_⟩
  · rw [m_right_o (by decide)]; exact q1
  · rw [m_right_o (by decide)]; exact q2
  · rw [m_right_o (by decide)]; exact q3
  · rw [m_right_o (by decide), m_right_o (by decide), m_right_o (by decide)]; exact hk k' hk'
  · rw [m_right_o (by decide), m_right_o (by decide), m_right_o (by decide)]; exact hs j hj
  · rw [m_right_o (by decide)]; exact hst j b1 b2
  · rw [mr_p b4, ar_p b4]
    by_cases e : j = i
    · rw [if_pos e, if_pos e, ht]
    · rw [if_neg e, if_neg e]
      exact hp j p b1 b2 b3 b4 (fun z => b5 ⟨z, e⟩)
  · rw [m_right_o (by decide), m_right_o (by decide)]; exact hx j hj
/-! the invariants are kept -/
theorem AI_right {a : ab_T} {i : Nat} (h : AI a) : AI (a_right a i) := h
theorem AI_relate {a : ab_T} {i o : Nat} (hA : AI a) (h1 : 1 ≤ i) (h2 : i ≤ a.1 1) (hst : a.2.1 5 i = 1) (ho : o ≤ a.1 1) : AI (a_f a 6 i o) := by
  obtain ⟨c1, c2, c3, c4, c5, c6, c7, c8, c9, c10⟩ := hA
  refine ⟨c1, fun k hk => ?_, fun j hj => ?_, fun j j1 j2 => ?_, fun j hj hz => ?_, fun j j1 j2 => ?_, ?_, fun k k1 k2 => ?_, fun j hj => ?_, fun j j1 j2 => ?_⟩
  · rw [af_o (by decide), af_o (by decide), af_o (by decide)]; exact c2 k hk
  · rw [af_o (by decide), af_o (by decide), af_o (by decide), af_s]
    obtain ⟨d1, d2, d3, d4⟩ := c3 j hj
    refine ⟨d1, d2, d3, ?_⟩
    split
    · exact ho
    · exact d4
  · rw [af_o (by decide)]; exact c4 j j1 j2
  · rw [af_s] at hz
    rw [af_o (by decide)]
    by_cases e : j = i
    · subst e; exact ⟨h1, h2, hst⟩
    · rw [if_neg e] at hz; exact c5 j hj hz
  · rw [af_o (by decide)]; exact c6 j j1 j2
  · rw [af_o (by decide)]; exact c7
  · rw [af_o (by decide), af_o (by decide)]; exact c8 k k1 k2
  · rw [af_o (by decide), af_o (by decide)]; exact c9 j hj
  · rw [af_o (by decide), af_o (by decide), af_o (by decide), af_o (by decide)]; exact c10 j j1 j2
theorem AI_new {a : ab_T} {k u : Nat} {y : Int64} (hA : AI a) (hn : a.1 1 < 250) (k1 : 1 ≤ k) (k2 : k ≤ a.1 0) (hu : u ≤ a.1 1) (hfit : u ≠ 0 → a.2.1 0 k = a.2.1 3 u) : AI (a_f (a_k (a_f (a_f (a_n a 1 (a.1 1 + 1)) 3 (a.1 1 + 1) k) 4 (a.1 1 + 1) u) (a.1 1 + 1) y) 5 (a.1 1 + 1) 1) := by
  obtain ⟨c1, c2, c3, c4, c5, c6, c7, c8, c9, c10⟩ := hA
  have e3 : ∀ i, (a_f (a_k (a_f (a_f (a_n a 1 (a.1 1 + 1)) 3 (a.1 1 + 1) k) 4 (a.1 1 + 1) u) (a.1 1 + 1) y) 5 (a.1 1 + 1) 1).2.1 3 i = if i = a.1 1 + 1 then k else a.2.1 3 i := fun i => by
    rw [af_o (by decide), ak_21, af_o (by decide), af_s, an_2]
  have e4 : ∀ i, (a_f (a_k (a_f (a_f (a_n a 1 (a.1 1 + 1)) 3 (a.1 1 + 1) k) 4 (a.1 1 + 1) u) (a.1 1 + 1) y) 5 (a.1 1 + 1) 1).2.1 4 i = if i = a.1 1 + 1 then u else a.2.1 4 i := fun i => by
    rw [af_o (by decide), ak_21, af_s, af_o (by decide), an_2]
  have e5 : ∀ i, (a_f (a_k (a_f (a_f (a_n a 1 (a.1 1 + 1)) 3 (a.1 1 + 1) k) 4 (a.1 1 + 1) u) (a.1 1 + 1) y) 5 (a.1 1 + 1) 1).2.1 5 i = if i = a.1 1 + 1 then 1 else a.2.1 5 i := fun i => by
    rw [af_s, ak_21, af_o (by decide), af_o (by decide), an_2]
  have eo : ∀ f i, f ≠ 3 → f ≠ 4 → f ≠ 5 → (a_f (a_k (a_f (a_f (a_n a 1 (a.1 1 + 1)) 3 (a.1 1 + 1) k) 4 (a.1 1 + 1) u) (a.1 1 + 1) y) 5 (a.1 1 + 1) 1).2.1 f i = a.2.1 f i := fun f i q1 q2 q3 => by
    rw [af_o q3, ak_21, af_o q2, af_o q1, an_2]
  have en : (a_f (a_k (a_f (a_f (a_n a 1 (a.1 1 + 1)) 3 (a.1 1 + 1) k) 4 (a.1 1 + 1) u) (a.1 1 + 1) y) 5 (a.1 1 + 1) 1).1 1 = a.1 1 + 1 := rfl
  have en0 : (a_f (a_k (a_f (a_f (a_n a 1 (a.1 1 + 1)) 3 (a.1 1 + 1) k) 4 (a.1 1 + 1) u) (a.1 1 + 1) y) 5 (a.1 1 + 1) 1).1 0 = a.1 0 := rfl
  have en2 : (a_f (a_k (a_f (a_f (a_n a 1 (a.1 1 + 1)) 3 (a.1 1 + 1) k) 4 (a.1 1 + 1) u) (a.1 1 + 1) y) 5 (a.1 1 + 1) 1).1 2 = a.1 2 := rfl
  refine ⟨⟨by rw [en0]; exact c1.1, by rw [en]; omega, by rw [en2]; exact c1.2.2⟩, fun k' hk => ?_, fun j hj => ?_, fun j j1 j2 => ?_, fun j hj hz => ?_, fun j j1 j2 => ?_, ?_, fun k' q1 q2 => ?_, fun j hj => ?_, fun j j1 j2 => ?_⟩
  · rw [eo 0 k' (by decide) (by decide) (by decide), eo 1 k' (by decide) (by decide) (by decide), eo 2 k' (by decide) (by decide) (by decide)]; exact c2 k' hk
  · rw [e3, e4, e5, eo 6 j (by decide) (by decide) (by decide), en]
    obtain ⟨d1, d2, d3, d4⟩ := c3 j hj
    refine ⟨?_, ?_, ?_, by omega⟩
    · split <;> omega
    · split <;> omega
    · split <;> omega
  · rw [en] at j2
    rw [e3]
    split
    · exact k1
    · exact c4 j j1 (by omega)
  · rw [eo 6 j (by decide) (by decide) (by decide)] at hz
    obtain ⟨d1, d2, d3⟩ := c5 j hj hz
    rw [en, e5, if_neg (by omega)]
    exact ⟨d1, by omega, d3⟩
  · rw [en] at j1
    rw [e5, if_neg (by omega)]
    exact c6 j (by omega) j2
  · rw [e5, if_neg (by omega)]; exact c7
  · rw [en0] at q1
    rw [eo 1 k' (by decide) (by decide) (by decide), eo 2 k' (by decide) (by decide) (by decide)]; exact c8 k' q1 q2
  · rw [eo 7 j (by decide) (by decide) (by decide), eo 8 j (by decide) (by decide) (by decide)]; exact c9 j hj
  · rw [en] at j2
    rw [e3, e4, en0, en, eo 0 _ (by decide) (by decide) (by decide)]
    by_cases e : j = a.1 1 + 1
    · rw [if_pos e, if_pos e]
      refine ⟨k2, fun z => ⟨by omega, ?_⟩⟩
      rw [e3, if_neg (by omega)]
      exact hfit z
    · rw [if_neg e, if_neg e]
      obtain ⟨d1, d2⟩ := c10 j j1 (by omega)
      refine ⟨d1, fun z => ?_⟩
      obtain ⟨d3, d4⟩ := d2 z
      refine ⟨by omega, ?_⟩
      rw [e3, if_neg (by omega)]
      exact d4
/-- what a fit gives -/
theorem fit_of {a : ab_T} (hA : AI a) {k : Nat} {u : Int32} (hk : k ≤ 15) (hf : a_fit a (nI k) u) : ∃ u' : Nat, u' ≤ a.1 1 ∧ u = nI u' ∧ (u' ≠ 0 → a.2.1 0 k = a.2.1 3 u') := by
  have hn := hA.1
  rw [a_fit, q_cl (by omega)] at hf
  split at hf
  · exact ⟨0, by omega, hf, fun z => absurd rfl z⟩
  · obtain ⟨u', z1, z2, rfl⟩ := iS_of hA hf.1
    have := hf.2.2
    rw [q_cl (by omega)] at this
    exact ⟨u', z2, rfl, fun _ => this.symm⟩
def m_new0 (t : ak_S) (n : Nat) (k u : Int32) (y : Int64) : ak_S := ak_p1 (ak_p2 (ak_p1 (ak_p1 (ak_p1 t 0 2 (nI (n + 1))) 4 (n + 1) k) 5 (n + 1) u) 9 (n + 1) y) 6 (n + 1) 1
theorem RM_new {t : ak_S} {a : ab_T} {k u : Nat} {y : Int64} (hA : AI a) (hR : RM t a) (hn : a.1 1 < 250) (k1 : 1 ≤ k) (k2 : k ≤ a.1 0) (hu : u ≤ a.1 1) (hfit : u ≠ 0 → a.2.1 0 k = a.2.1 3 u) : RM (m_right (m_new0 t (a.1 1) (nI k) (nI u) y) (a.1 1 + 1) (a.1 1 + 1)) (g_new a k u y) := by
  have hA2 := AI_new (y := y) hA hn k1 k2 hu hfit
  obtain ⟨⟨q1, q2, q3⟩, hk, hs, hst, hp, hx⟩ := hR
  have hx0 : RMx (m_new0 t (a.1 1) (nI k) (nI u) y) (a_f (a_k (a_f (a_f (a_n a 1 (a.1 1 + 1)) 3 (a.1 1 + 1) k) 4 (a.1 1 + 1) u) (a.1 1 + 1) y) 5 (a.1 1 + 1) 1) (fun i => i = a.1 1 + 1) := by
    refine ⟨⟨?_, ?_, ?_⟩, fun k' hk' => ?_, fun j hj => ?_, fun j b1 b2 => ?_, fun j p b1 b2 b3 b4 b5 => ?_, fun j hj => ?_⟩
    · simp [m_new0, p1_s, p1_o, p2_1, q1, af_1, ak_1, an_1]
    · simp [m_new0, p1_s, p1_o, p2_1, af_1, ak_1, an_1]
    · simp [m_new0, p1_s, p1_o, p2_1, q3, af_1, ak_1, an_1]
    · simpa [m_new0, p1_o, p2_1, af_o, ak_21, an_2] using hk k' hk'
    · obtain ⟨d1, d2, d3, d4⟩ := hs j hj
      refine ⟨?_, ?_, ?_, ?_⟩
      · rw [m_new0, p1_o (by decide), p2_1, p1_o (by decide), p1_s, af_o (by decide), ak_21, af_o (by decide), af_s, an_2]
        split
        · rfl
        · rw [p1_o (by decide), d1]
      · rw [m_new0, p1_o (by decide), p2_1, p1_s, af_o (by decide), ak_21, af_s, af_o (by decide), an_2]
        split
        · rfl
        · rw [p1_o (by decide), p1_o (by decide), d2]
      · rw [m_new0, p1_2, p2_s, af_2, ak_s]
        show _ = if j = a.1 1 + 1 then y else a.2.2.1 j
        rw [← d3]
        rfl
      · rw [m_new0, p1_o (by decide), p2_1, p1_o (by decide), p1_o (by decide), p1_o (by decide), af_o (by decide), ak_21, af_o (by decide), af_o (by decide), an_2, d4]
    · have b2' : j ≤ a.1 1 + 1 := b2
      rw [m_new0, p1_s, af_s, ak_21, af_o (by decide), af_o (by decide), an_2]
      by_cases e : j = a.1 1 + 1
      · rw [if_pos e, if_pos e]; rfl
      · rw [if_neg e, if_neg e, p2_1, p1_o (by decide), p1_o (by decide), p1_o (by decide)]
        exact hst j b1 (by omega)
    · have b2' : j ≤ a.1 1 + 1 := b2
      rw [af_s, if_neg b5, ak_21, af_o (by decide), af_o (by decide), an_2] at b3
      rw [m_new0, p1_o (by decide), p2_1, p1_o (by decide), p1_o (by decide), p1_o (by decide)]
      exact hp j p b1 (by omega) b3 b4
    · simpa [m_new0, p1_o, p2_1, af_o, ak_21, an_2] using hx j hj
  have := RMx_right (i := a.1 1 + 1) hA2 hx0 (by omega) (Nat.le_refl _)
  exact RM_of this (fun i _ _ _ z => z.2 z.1)
def pt_M_segment : ak_P := fun vs t Q => match vs with
  | [.ref 0, .int k, .int u, .long y] => ∃ a, AI a ∧ RM t a ∧ ∀ t', RM t' (g_segment a k u y) → Q (some (.int (f_segment a k u y))) t'
  | _ => False
def cs_M_segment : Nat → ak_P := fun a => match a with
  | 0 => pt_M_isKind
  | 1 => pt_M_isThere
  | _ => pt_M_right
theorem vc_M_segment : ak_VC lay_M cs_M_segment bl_M_segment 7 pt_M_segment := by
  intro vs t Q h
  unfold pt_M_segment at h
  split at h
  · rename_i k u y
    obtain ⟨a, hA, hR, h⟩ := h
    have hn := hA.1
    have hR0 := RM_c hR
    refine ⟨Nat.le_of_ble_eq_true rfl, fun J hJ => ?_⟩
    obtain ⟨t0, ht0⟩ : ∃ t0, t0 = ak_p1 t 0 0 0 := ⟨_, rfl⟩
    rw [← ht0] at hR0
    have same : g_segment a k u y = a → Q (some (.int (f_segment a k u y))) t0 := fun e => h t0 (by rw [e]; exact hR0)
    have loop : iK a k → a_fit a k u → ∀ d i, i + d = a.1 1 → (∀ j, 1 ≤ j → j ≤ i → ¬ (a.2.1 5 j = 1 ∧ nI (a.2.1 3 j) = k ∧ nI (a.2.1 4 j) = u ∧ a.2.2.1 j = y)) → J 78 [some (.ref 0), some (.int k), some (.int u), some (.long y), none, some (.int 1), some (.int (nI (i + 1)))] [] t0 := by
      intro q hf d
      induction d with
      | zero =>
        intro i hi hq
        have e : i = a.1 1 := by omega
        subst e
        have hd : ¬ a_dup a k u y := by
          intro z
          obtain ⟨j, b1, b2, b3⟩ := cn_ex.mp z
          rw [decide_eq_true_eq] at b3
          exact hq j b1 b2 b3
        obtain ⟨k', hk1, hk2, rfl⟩ := iK_of hA q
        obtain ⟨u', hu1, rfl, hu3⟩ := fit_of hA (by omega) hf
        refine hJ 4 _ _ _ _ ?_
        simp only [Nat.reduceAdd, Nat.reduceLeDiff, Nat.zero_le, true_or, or_true, run_s, e_nop, e_iconst, e_bipush, e_sipush, e_lconst, e_iload, e_iload_n, e_lload, e_lload_n, e_aload, e_aload_n, e_istore, e_istore_n, e_iinc, e_iadd, e_isub, e_imul, e_lcmp, e_dupI, e_dupR, e_dup2, e_getfield, e_putfield, e_iaload, e_baload, e_laload, e_iastore, e_bastore, e_lastore, e_if, e_icmp, e_goto, e_tsw, e_ireturn0, e_ireturn1, e_return, e_call0, e_call1, e_call2, e_call3, lI_e, lL_e, lR_e, ak_nth, ak_set, ak_ok1, ak_jp, ak_b1, ak_b2, ak_sw, ak_la, ak_pad, true_and, and_true, List.map_cons, List.map_nil, List.sum_cons, List.sum_nil, Value.category, Option.toList_some, Option.toList_none, List.cons_append, List.nil_append, gM_0_0, pM_0_0, gM_0_1, pM_0_1, gM_0_2, pM_0_2, gM_0_3, pM_0_3, gM_0_4, gM_0_5, gM_0_6, gM_0_7, gM_0_8, gM_0_9, gM_0_10, gM_0_11, gM_0_12, gM_0_13, gM_0_14, gM_0_15, gM_0_16, rM_0, kM_1, kM_2, kM_3, kM_4, kM_5, kM_6, kM_7, kM_8, kM_9, kM_10, kM_11, kM_12, kM_13, fd_M_segment_0, fd_M_segment_16, fd_M_segment_33, fd_M_segment_37, fd_M_segment_64, fd_M_segment_65, fd_M_segment_75, fd_M_segment_78, fd_M_segment_135, fd_M_segment_141, fd_M_segment_153, bk_M_segment_0, bk_M_segment_16, bk_M_segment_33, bk_M_segment_37, bk_M_segment_64, bk_M_segment_65, bk_M_segment_75, bk_M_segment_78, bk_M_segment_135, bk_M_segment_141, bk_M_segment_153, cs_M_segment, pt_M_right, nI_1, p1_s, p1_o, p2_1, if_true, ne_eq, Nat.reduceEqDiff, not_false_eq_true]
        have e250 : nI (a.1 1) = 250 ↔ a.1 1 = 250 := by rw [n_250]; exact nI_eq (by omega) (by omega)
        rw [hR0.1.2.1, q_lt (by omega) (by omega), e250, nI_1]
        refine ⟨fun _ => ⟨fun e => ?_, fun e => ?_⟩, fun z => absurd (by omega) z⟩
        · rw [q_cl (by omega)]
          refine ⟨q_in (by omega) (by omega), q_in (by omega) (by omega), q_in (by omega) (by omega), q_in (by omega) (by omega), a.1 1 + 1, a.1 1 + 1, by omega, rfl, by omega, rfl, ?_⟩
          rw [m_right_o (by decide)]
          have := h (m_right (m_new0 t0 (a.1 1) (nI k') (nI u') y) (a.1 1 + 1) (a.1 1 + 1)) (by
            rw [g_segment, ci_t ⟨q, hf, hd, by omega⟩, q_cl (by omega), q_cl (by omega)]
            exact RM_new hA hR0 (by omega) hk1 hk2 hu1 hu3)
          rw [f_segment, ci_f (fun z => z q), ci_f (fun z => z hf), ci_f hd, ci_f e] at this
          have e2 : (m_new0 t0 (a.1 1) (nI k') (nI u') y).1 0 2 = nI (a.1 1 + 1) := by simp [m_new0, p1_s, p1_o, p2_1]
          simpa [m_new0, p1_s, p1_o, p2_1] using this
        · have := same (by rw [g_segment, ci_f (fun z => by omega)])
          rw [f_segment, ci_f (fun z => z q), ci_f (fun z => z hf), ci_f hd, ci_t e] at this
          exact this
      | succ d ih =>
        intro i hi hq
        obtain ⟨d1, d2, d3, d4⟩ := hR0.2.2.1 (i + 1) (by omega)
        have ds := (stM hA hR0 (show 1 ≤ i + 1 by omega) (by omega)).1
        have go : ¬ (a.2.1 5 (i + 1) = 1 ∧ nI (a.2.1 3 (i + 1)) = k ∧ nI (a.2.1 4 (i + 1)) = u ∧ a.2.2.1 (i + 1) = y) → J 78 [some (.ref 0), some (.int k), some (.int u), some (.long y), none, some (.int 1), some (.int (nI (i + 1 + 1)))] [] t0 := fun z => ih (i + 1) (by omega) (fun j j1 j2 => by
          by_cases e : j = i + 1
          · rw [e]; exact z
          · exact hq j j1 (by omega))
        refine hJ 4 _ _ _ _ ?_
        simp only [Nat.reduceAdd, Nat.reduceLeDiff, Nat.zero_le, true_or, or_true, run_s, e_nop, e_iconst, e_bipush, e_sipush, e_lconst, e_iload, e_iload_n, e_lload, e_lload_n, e_aload, e_aload_n, e_istore, e_istore_n, e_iinc, e_iadd, e_isub, e_imul, e_lcmp, e_dupI, e_dupR, e_dup2, e_getfield, e_putfield, e_iaload, e_baload, e_laload, e_iastore, e_bastore, e_lastore, e_if, e_icmp, e_goto, e_tsw, e_ireturn0, e_ireturn1, e_return, e_call0, e_call1, e_call2, e_call3, lI_e, lL_e, lR_e, ak_nth, ak_set, ak_ok1, ak_jp, ak_b1, ak_b2, ak_sw, ak_la, ak_pad, true_and, and_true, List.map_cons, List.map_nil, List.sum_cons, List.sum_nil, Value.category, Option.toList_some, Option.toList_none, List.cons_append, List.nil_append, gM_0_0, pM_0_0, gM_0_1, pM_0_1, gM_0_2, pM_0_2, gM_0_3, pM_0_3, gM_0_4, gM_0_5, gM_0_6, gM_0_7, gM_0_8, gM_0_9, gM_0_10, gM_0_11, gM_0_12, gM_0_13, gM_0_14, gM_0_15, gM_0_16, rM_0, kM_1, kM_2, kM_3, kM_4, kM_5, kM_6, kM_7, kM_8, kM_9, kM_10, kM_11, kM_12, kM_13, fd_M_segment_0, fd_M_segment_16, fd_M_segment_33, fd_M_segment_37, fd_M_segment_64, fd_M_segment_65, fd_M_segment_75, fd_M_segment_78, fd_M_segment_135, fd_M_segment_141, fd_M_segment_153, bk_M_segment_0, bk_M_segment_16, bk_M_segment_33, bk_M_segment_37, bk_M_segment_64, bk_M_segment_65, bk_M_segment_75, bk_M_segment_78, bk_M_segment_135, bk_M_segment_141, bk_M_segment_153, cs_M_segment, nI_1]
        rw [hR0.1.2.1, q_lt (by omega) (by omega), q_cl (a := i + 1) (by omega), ds, d1, d2, d3, lg_cmp_eq]
        refine ⟨fun z => absurd z (by omega), fun _ => ⟨q_in (by omega) (by omega), fun q1 => go (fun z => q1 z.1), fun q1 => ⟨q_in (by omega) (by omega), fun q2 => go (fun z => q2 z.2.1), fun q2 => ⟨q_in (by omega) (by omega), fun q3 => go (fun z => q3 z.2.2.1), fun q3 => ⟨q_in (by omega) (by omega), fun q4 => go (fun z => q4 z.2.2.2), fun q4 => ?_⟩⟩⟩⟩⟩
        have hd : a_dup a k u y := cn_ex.mpr ⟨i + 1, by omega, by omega, by rw [decide_eq_true_eq]; exact ⟨q1, q2, q3, q4⟩⟩
        have := same (by rw [g_segment, ci_f (fun z => z.2.2.1 hd)])
        rw [f_segment, ci_f (fun z => z q), ci_f (fun z => z hf), ci_t hd] at this
        exact this
    have l0 := fun q hf => loop q hf (a.1 1) 0 (by omega) (fun j h1 h2 => absurd h2 (by omega))
    have nofit : iK a k → ¬ a_fit a k u → Q (some (.int (-4))) t0 := by
      intro q hf
      have := same (by rw [g_segment, ci_f (fun z => hf z.2.1)])
      rw [f_segment, ci_f (fun z => z q), ci_t hf] at this
      exact this
    refine hJ 8 _ _ _ _ ?_
    simp only [Nat.reduceAdd, Nat.reduceLeDiff, Nat.zero_le, true_or, or_true, run_s, e_nop, e_iconst, e_bipush, e_sipush, e_lconst, e_iload, e_iload_n, e_lload, e_lload_n, e_aload, e_aload_n, e_istore, e_istore_n, e_iinc, e_iadd, e_isub, e_imul, e_lcmp, e_dupI, e_dupR, e_dup2, e_getfield, e_putfield, e_iaload, e_baload, e_laload, e_iastore, e_bastore, e_lastore, e_if, e_icmp, e_goto, e_tsw, e_ireturn0, e_ireturn1, e_return, e_call0, e_call1, e_call2, e_call3, lI_e, lL_e, lR_e, ak_nth, ak_set, ak_ok1, ak_jp, ak_b1, ak_b2, ak_sw, ak_la, ak_pad, true_and, and_true, List.map_cons, List.map_nil, List.sum_cons, List.sum_nil, Value.category, Option.toList_some, Option.toList_none, List.cons_append, List.nil_append, gM_0_0, pM_0_0, gM_0_1, pM_0_1, gM_0_2, pM_0_2, gM_0_3, pM_0_3, gM_0_4, gM_0_5, gM_0_6, gM_0_7, gM_0_8, gM_0_9, gM_0_10, gM_0_11, gM_0_12, gM_0_13, gM_0_14, gM_0_15, gM_0_16, rM_0, kM_1, kM_2, kM_3, kM_4, kM_5, kM_6, kM_7, kM_8, kM_9, kM_10, kM_11, kM_12, kM_13, fd_M_segment_0, fd_M_segment_16, fd_M_segment_33, fd_M_segment_37, fd_M_segment_64, fd_M_segment_65, fd_M_segment_75, fd_M_segment_78, fd_M_segment_135, fd_M_segment_141, fd_M_segment_153, bk_M_segment_0, bk_M_segment_16, bk_M_segment_33, bk_M_segment_37, bk_M_segment_64, bk_M_segment_65, bk_M_segment_75, bk_M_segment_78, bk_M_segment_135, bk_M_segment_141, bk_M_segment_153, cs_M_segment, pt_M_isKind, pt_M_isThere]
    simp only [bt0, Classical.not_not, i10, false_implies, not_false_eq_true, true_implies, not_true_eq_false, true_and, and_true, false_and, and_false, imp_self]
    rw [← ht0, hR0.1.1]
    refine ⟨fun q => ?_, fun q => ?_⟩
    · have l0 := l0 q
      have nofit := nofit q
      obtain ⟨k', hk1, hk2, rfl⟩ := iK_of hA q
      have eb := (hA.2.1 k' (by omega)).1
      have efit : a_fit a (nI k') u = (if a.2.1 0 k' = 0 then u = 0 else (iS a u ∧ a.2.1 5 u.toNatClampNeg = 1 ∧ a.2.1 3 u.toNatClampNeg = a.2.1 0 k')) := by
        rw [a_fit, q_cl (by omega)]
      rw [efit] at l0 nofit
      have e0 : nI (a.2.1 0 k') = 0 ↔ a.2.1 0 k' = 0 := by rw [n_0]; exact nI_eq (by omega) (by omega)
      rw [q_cl (by omega), (hR0.2.1 k' (by omega)).1, e0]
      refine ⟨q_in (by omega) (by omega), fun q1 => ⟨a.1 1, by omega, hR0.1.2.1, fun q2 => ?_, fun q2 => ?_⟩, fun q1 => ?_⟩
      · rw [if_neg q1] at nofit
        refine nofit (fun z => q2 ⟨z.1, ?_⟩)
        obtain ⟨u', hu1, hu2, rfl⟩ := iS_of hA z.1
        have := z.2.1
        rw [q_cl (by omega)] at this ⊢
        exact (stM hA hR0 hu1 hu2).1.mpr this
      · rw [if_neg q1] at nofit l0
        obtain ⟨u', hu1, hu2, rfl⟩ := iS_of hA q2.1
        have q3 := q2.2
        rw [q_cl (by omega)] at q3 nofit l0 ⊢
        have q4 := (stM hA hR0 hu1 hu2).1.mp q3
        have ub := (hA.2.2.1 u' (by omega)).1
        rw [(hR0.2.2.1 u' (by omega)).1, nI_eq (by omega) (by omega)]
        exact ⟨q_in (by omega) (by omega), q_in (by omega) (by omega), fun z => nofit (fun w => z w.2.2), fun z => l0 ⟨q2.1, q4, z⟩⟩
      · rw [if_pos q1] at nofit l0
        exact ⟨fun z => nofit z, fun z => l0 z⟩
    · have := same (by rw [g_segment, ci_f (fun z => q z.1)])
      rw [f_segment, ci_t q] at this
      exact this
  · exact h.elim
set_option maxRecDepth 20000 in
theorem ct_M_segment (l : Launch) : ak_Ctr l cl_all lay_M y_M_segment ws_M_segment rm_M_segment pt_M_segment := by
  refine ak_met (cs := cs_M_segment) (reg := rg_M_segment) (bl := bl_M_segment) (by decide +kernel) rfl (cl_ok _) rfl ok_M_segment ?_ vc_M_segment
  intro a n b ci h
  match a, h with
  | 0, h =>
    cases h
    exact ak_ccV (ct_M_isKind l) rfl 394 395 8 25 396 (by decide +kernel) ⟨rfl, rfl⟩ (by decide +kernel) (by decide +kernel)
  | 1, h =>
    cases h
    exact ak_ccV (ct_M_isThere l) rfl 405 406 9 25 407 (by decide +kernel) ⟨rfl, rfl⟩ (by decide +kernel) (by decide +kernel)
  | 2, h =>
    cases h
    exact ak_ccV (ct_M_right l) rfl 411 412 11 25 413 (by decide +kernel) ⟨rfl, rfl⟩ (by decide +kernel) (by decide +kernel)
  | k + 3, h => cases h
def pt_M_relate : ak_P := fun vs t Q => match vs with
  | [.ref 0, .int i, .int o] => ∃ a, AI a ∧ RM t a ∧ ∀ t', RM t' (g_relate a i o) → Q (some (.int (f_relate a i o))) t'
  | _ => False
def cs_M_relate : Nat → ak_P := fun a => match a with
  | 0 => pt_M_isSegment
  | _ => pt_M_right
theorem vc_M_relate : ak_VC lay_M cs_M_relate bl_M_relate 3 pt_M_relate := by
  intro vs t Q h
  unfold pt_M_relate at h
  split at h
  · rename_i i o
    obtain ⟨a, hA, hR, h⟩ := h
    have hn := hA.1
    have hR0 := RM_c hR
    refine ⟨Nat.le_of_ble_eq_true rfl, fun J hJ => hJ 6 _ _ _ _ ?_⟩
    simp only [Nat.reduceAdd, Nat.reduceLeDiff, Nat.zero_le, true_or, or_true, run_s, e_nop, e_iconst, e_bipush, e_sipush, e_lconst, e_iload, e_iload_n, e_lload, e_lload_n, e_aload, e_aload_n, e_istore, e_istore_n, e_iinc, e_iadd, e_isub, e_imul, e_lcmp, e_dupI, e_dupR, e_dup2, e_getfield, e_putfield, e_iaload, e_baload, e_laload, e_iastore, e_bastore, e_lastore, e_if, e_icmp, e_goto, e_tsw, e_ireturn0, e_ireturn1, e_return, e_call0, e_call1, e_call2, e_call3, lI_e, lL_e, lR_e, ak_nth, ak_set, ak_ok1, ak_jp, ak_b1, ak_b2, ak_sw, ak_la, ak_pad, true_and, and_true, List.map_cons, List.map_nil, List.sum_cons, List.sum_nil, Value.category, Option.toList_some, Option.toList_none, List.cons_append, List.nil_append, gM_0_0, pM_0_0, gM_0_1, pM_0_1, gM_0_2, pM_0_2, gM_0_3, pM_0_3, gM_0_4, gM_0_5, gM_0_6, gM_0_7, gM_0_8, gM_0_9, gM_0_10, gM_0_11, gM_0_12, gM_0_13, gM_0_14, gM_0_15, gM_0_16, rM_0, kM_1, kM_2, kM_3, kM_4, kM_5, kM_6, kM_7, kM_8, kM_9, kM_10, kM_11, kM_12, kM_13, fd_M_relate_0, fd_M_relate_21, fd_M_relate_24, fd_M_relate_63, fd_M_relate_66, fd_M_relate_95, fd_M_relate_98, bk_M_relate_0, bk_M_relate_21, bk_M_relate_24, bk_M_relate_63, bk_M_relate_66, bk_M_relate_95, bk_M_relate_98, cs_M_relate, pt_M_isSegment, pt_M_right]
    simp only [bt0, Classical.not_not, i10, false_implies, not_false_eq_true, true_implies, not_true_eq_false, true_and, and_true, false_and, and_false, imp_self]
    generalize ak_p1 t 0 0 0 = t0 at hR0 ⊢
    rw [hR0.1.2.1]
    have same : ∀ v : Int32, v ≠ 1 → f_relate a i o = v → Q (some (.int v)) t0 := by
      intro v hv e
      have := h t0 (by rw [g_relate, e, if_neg hv]; exact hR0)
      rw [e] at this
      exact this
    refine ⟨fun q => same _ (by decide) (by rw [f_relate, if_pos (fun y => q y.1)]), fun q => ⟨fun q2 => ?_, fun q2 => same _ (by decide) (by rw [f_relate, if_pos (fun y => q2 y.2)])⟩⟩
    have r0 : f_relate a i o = if a.2.1 1 (a.2.1 3 i.toNatClampNeg) = 0 ∨ a.2.1 3 o.toNatClampNeg ≠ a.2.1 1 (a.2.1 3 i.toNatClampNeg) ∨ i = o then -4 else if a.2.1 5 i.toNatClampNeg ≠ 1 ∨ a.2.1 5 o.toNatClampNeg = 0 ∨ a.2.1 6 i.toNatClampNeg ≠ 0 then -5 else 1 := by
      rw [f_relate, if_neg (fun y => y ⟨q, q2⟩)]
    obtain ⟨i', hi1, hi2, rfl⟩ := iS_of hA q
    obtain ⟨o', ho1, ho2, rfl⟩ := iS_of hA q2
    obtain ⟨b1, _, _, b4⟩ := hR0.2.2.1 i' (by omega)
    obtain ⟨c1, _, _, c4⟩ := hR0.2.2.1 o' (by omega)
    obtain ⟨d1, _, d3, d4⟩ := hA.2.2.1 i' (by omega)
    obtain ⟨e1, _, e3, e4⟩ := hA.2.2.1 o' (by omega)
    have hlp := (hR0.2.1 (a.2.1 3 i') (by omega)).2.1
    have hlb := (hA.2.1 (a.2.1 3 i') (by omega)).2.1
    obtain ⟨s1, _, _⟩ := stM hA hR0 hi1 hi2
    obtain ⟨_, _, s3⟩ := stM hA hR0 ho1 ho2
    rw [q_cl (by omega), q_cl (by omega)] at r0
    have e0 : nI (a.2.1 1 (a.2.1 3 i')) = 0 ↔ a.2.1 1 (a.2.1 3 i') = 0 := by rw [n_0]; exact nI_eq (by omega) (by omega)
    have er : nI (a.2.1 6 i') = 0 ↔ a.2.1 6 i' = 0 := by rw [n_0]; exact nI_eq (by omega) (by omega)
    have eko : nI (a.2.1 3 o') = nI (a.2.1 1 (a.2.1 3 i')) ↔ a.2.1 3 o' = a.2.1 1 (a.2.1 3 i') := nI_eq (by omega) (by omega)
    rw [q_cl (a := i') (by omega), q_cl (a := o') (by omega), b1, q_cl (a := a.2.1 3 i') (by omega), hlp, c1, s1, s3, b4, e0, er, eko]
    refine ⟨q_in (by omega) (by omega), q_in (by omega) (by omega), fun z1 => same _ (by decide) (by rw [r0, if_pos (Or.inl z1)]), fun z1 => ⟨q_in (by omega) (by omega), q_in (by omega) (by omega), q_in (by omega) (by omega), fun z2 => same _ (by decide) ?_, fun z2 => ⟨fun z3 => ⟨q_in (by omega) (by omega), fun z4 => same _ (by decide) ?_, fun z4 => ⟨q_in (by omega) (by omega), fun z5 => same _ (by decide) ?_, fun z5 => ⟨q_in (by omega) (by omega), fun z6 => ?_, fun z6 => same _ (by decide) ?_⟩⟩⟩, fun z3 => same _ (by decide) ?_⟩⟩⟩
    · rw [r0, if_pos (Or.inr (Or.inl z2))]
    · rw [r0, if_neg (by rintro (w | w | w); exact z1 w; exact w z2; exact z3 w), if_pos (Or.inl z4)]
    · rw [r0, if_neg (by rintro (w | w | w); exact z1 w; exact w z2; exact z3 w), if_pos (Or.inr (Or.inl z5))]
    · have r1 : f_relate a (nI i') (nI o') = 1 := by
        rw [r0, if_neg (by rintro (w | w | w); exact z1 w; exact w z2; exact z3 w), if_neg (by rintro (w | w | w); exact w z4; exact z5 w; exact w z6)]
      refine ⟨q_in (by omega) (by omega), a.1 1, i', by omega, by rw [p1_o (by decide)]; exact hR0.1.2.1, by omega, rfl, a.1 1, o', by omega, by rw [m_right_o (by decide), p1_o (by decide)]; exact hR0.1.2.1, by omega, rfl, ?_⟩
      have hA1 : AI (a_f a 6 i' o') := AI_relate hA hi1 hi2 z4 ho2
      have hR1 : RMx (ak_p1 t0 7 i' (nI o')) (a_f a 6 i' o') (fun _ => False) := by
        obtain ⟨⟨y1, y2, y3⟩, hk, hs, hst, hp, hx⟩ := hR0
        refine ⟨⟨?_, ?_, ?_⟩, fun k' hk' => ?_, fun j hj => ?_, fun j w1 w2 => ?_, fun j p w1 w2 w3 w4 _ => ?_, fun j hj => ?_⟩
        · rw [p1_o (by decide)]; exact y1
        · rw [p1_o (by decide)]; exact y2
        · rw [p1_o (by decide)]; exact y3
        · rw [p1_o (by decide), p1_o (by decide), p1_o (by decide), af_o (by decide), af_o (by decide), af_o (by decide)]; exact hk k' hk'
        · rw [p1_o (by decide), p1_o (by decide), af_o (by decide), af_o (by decide), af_s, p1_s]
          obtain ⟨v1, v2, v3, v4⟩ := hs j hj
          refine ⟨v1, v2, v3, ?_⟩
          split
          · rfl
          · exact v4
        · rw [p1_o (by decide), af_o (by decide)]; exact hst j w1 w2
        · rw [p1_o (by decide)]
          exact hp j p w1 w2 (by rw [af_o (by decide)] at w3; exact w3) w4
        · rw [p1_o (by decide), p1_o (by decide), af_o (by decide), af_o (by decide)]; exact hx j hj
      have hfin : RM (m_right (m_right (ak_p1 t0 7 i' (nI o')) (a.1 1) i') (a.1 1) o') (a_right (a_right (a_f a 6 i' o') i') o') :=
        RM_of (RMx_right (AI_right hA1) (RMx_right hA1 hR1 hi1 hi2) ho1 ho2) (fun _ _ _ _ w => w.1.1)
      have := h _ (by
        rw [g_relate, r1, if_pos rfl, q_cl (by omega), q_cl (by omega)]
        exact hfin)
      rw [r1] at this
      exact this
    · rw [r0, if_neg (by rintro (w | w | w); exact z1 w; exact w z2; exact z3 w), if_pos (Or.inr (Or.inr z6))]
    · rw [r0, if_pos (Or.inr (Or.inr z3))]
  · exact h.elim
set_option maxRecDepth 20000 in
theorem ct_M_relate (l : Launch) : ak_Ctr l cl_all lay_M y_M_relate ws_M_relate rm_M_relate pt_M_relate := by
  refine ak_met (cs := cs_M_relate) (reg := rg_M_relate) (bl := bl_M_relate) (by decide +kernel) rfl (cl_ok _) rfl ok_M_relate ?_ vc_M_relate
  intro a n b ci h
  match a, h with
  | 0, h =>
    cases h
    exact ak_ccV (ct_M_isSegment l) rfl 408 409 10 25 410 (by decide +kernel) ⟨rfl, rfl⟩ (by decide +kernel) (by decide +kernel)
  | 1, h =>
    cases h
    exact ak_ccV (ct_M_right l) rfl 411 412 11 25 413 (by decide +kernel) ⟨rfl, rfl⟩ (by decide +kernel) (by decide +kernel)
  | k + 2, h => cases h
