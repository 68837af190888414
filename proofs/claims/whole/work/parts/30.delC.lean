/-! deleting, on the mathematical state, and in the class -/
def a_tk (a : ab_T) (x j : Nat) : Prop := (a.2.1 5 j = 1 ∧ a.2.1 4 j = x) ∨ (a.2.1 6 j = x ∧ a.2.1 2 (a.2.1 3 j) = 2)
def a_rch (a : ab_T) (x e : Nat) : Prop := ∀ S : Nat → Prop, S x → (∀ y j, S y → 1 ≤ y → y ≤ a.1 1 → 1 ≤ j → j ≤ a.1 1 → a_tk a y j → S j) → S e
def a_G (a : ab_T) (x e : Nat) : Prop := 1 ≤ e ∧ e ≤ a.1 1 ∧ a_rch a x e
noncomputable def a_gB (a : ab_T) (x e : Nat) : Bool := @decide (a_G a x e) (Classical.propDecidable _)
theorem a_gB_t {a : ab_T} {x e : Nat} : a_gB a x e = true ↔ a_G a x e := by simp [a_gB]
/-- what is left of the rows when those in T are taken -/
def a_rw (a : ab_T) (T : Nat → Bool) : ab_T := (a.1, fun f => if f = 5 then (fun i => if T i = true then 2 else a.2.1 5 i) else if f = 6 then (fun i => if T i = true then 0 else a.2.1 6 i) else a.2.1 f, a.2.2)
def a_chg (a : ab_T) (T : Nat → Bool) (i : Nat) : Bool := decide (cn (fun e => T e && decide (a.2.1 6 e = i)) (a.1 1) ≠ 0)
def a_T (a : ab_T) (T : Nat → Bool) : ab_T := ((a_rw a T).1, (a_rw a T).2.1, a.2.2.1, fun q => if a_chg a T (q / 3) = true then nI (a_tr (a_rw a T) (q / 3) (q % 3)) else a.2.2.2 q)
def a_del (a : ab_T) (T : Nat → Bool) : ab_T := (a.1, fun f => if f = 5 then (fun i => if 1 ≤ i ∧ i ≤ a.1 1 ∧ (a_rw a T).2.1 5 i = 2 ∧ ac (a_rw a T) i = 0 then 0 else (a_rw a T).2.1 5 i) else (a_rw a T).2.1 f, a.2.2.1, fun q => if T (q / 3) = true ∨ a_chg a T (q / 3) = true then nI (a_tr (a_rw a T) (q / 3) (q % 3)) else a.2.2.2 q)
def a_bar (a : ab_T) (T : Nat → Bool) : Prop := ∃ j, 1 ≤ j ∧ j ≤ a.1 1 ∧ T j = false ∧ a.2.1 6 j ≠ 0 ∧ T (a.2.1 6 j) = true ∧ a.2.1 2 (a.2.1 3 j) = 0
noncomputable def f_delete (a : ab_T) (x : Int32) : Int32 := ci (¬ iS a x) (-2) (ci (a.2.1 5 x.toNatClampNeg ≠ 1) (-5) (ci (a_bar a (a_gB a x.toNatClampNeg)) (-5) (nI (cn (a_gB a x.toNatClampNeg) (a.1 1)))))
noncomputable def g_delete (a : ab_T) (x : Int32) : ab_T := ci (iS a x ∧ a.2.1 5 x.toNatClampNeg = 1 ∧ ¬ a_bar a (a_gB a x.toNatClampNeg)) (a_del a (a_gB a x.toNatClampNeg)) a
theorem rw_5 {a : ab_T} {T : Nat → Bool} {i : Nat} : (a_rw a T).2.1 5 i = if T i = true then 2 else a.2.1 5 i := by simp [a_rw]
theorem rw_6 {a : ab_T} {T : Nat → Bool} {i : Nat} : (a_rw a T).2.1 6 i = if T i = true then 0 else a.2.1 6 i := by simp [a_rw]
theorem rw_o {a : ab_T} {T : Nat → Bool} {f i : Nat} (h5 : f ≠ 5) (h6 : f ≠ 6) : (a_rw a T).2.1 f i = a.2.1 f i := by simp [a_rw, h5, h6]
theorem aT_p {a : ab_T} {T : Nat → Bool} {i p : Nat} (hp : p < 3) : (a_T a T).2.2.2 (3 * i + p) = if a_chg a T i = true then nI (a_tr (a_rw a T) i p) else a.2.2.2 (3 * i + p) := by
  show (if a_chg a T ((3 * i + p) / 3) = true then nI (a_tr (a_rw a T) ((3 * i + p) / 3) ((3 * i + p) % 3)) else a.2.2.2 (3 * i + p)) = _
  rw [show (3 * i + p) / 3 = i by omega, show (3 * i + p) % 3 = p by omega]
theorem ad_p {a : ab_T} {T : Nat → Bool} {i p : Nat} (hp : p < 3) : (a_del a T).2.2.2 (3 * i + p) = if T i = true ∨ a_chg a T i = true then nI (a_tr (a_rw a T) i p) else a.2.2.2 (3 * i + p) := by
  show (if T ((3 * i + p) / 3) = true ∨ a_chg a T ((3 * i + p) / 3) = true then nI (a_tr (a_rw a T) ((3 * i + p) / 3) ((3 * i + p) % 3)) else a.2.2.2 (3 * i + p)) = _
  rw [show (3 * i + p) / 3 = i by omega, show (3 * i + p) % 3 = p by omega]
theorem aT_0 (a : ab_T) : a_T a (fun _ => false) = a := by
  have h1 : (a_rw a (fun _ => false)).2.1 = a.2.1 := by
    funext f i
    by_cases e5 : f = 5
    · subst e5; rw [rw_5]; rfl
    · by_cases e6 : f = 6
      · subst e6; rw [rw_6]; rfl
      · rw [rw_o e5 e6]
  have h2 : ∀ i, a_chg a (fun _ => false) i = false := fun i => by
    simp only [a_chg, Bool.false_and]
    rw [cn_0 (fun _ _ _ => rfl)]
    simp
  apply Prod.ext
  · rfl
  · apply Prod.ext
    · exact h1
    · apply Prod.ext
      · rfl
      · funext q
        show (if a_chg a (fun _ => false) (q / 3) = true then _ else a.2.2.2 q) = a.2.2.2 q
        rw [h2, if_neg (by decide)]
theorem RCx_weak {s : ak_S} {a : ab_T} {E F : Nat → Prop} (h : RCx s a E) (hEF : ∀ i, E i → F i) : RCx s a F := by
  obtain ⟨h1, hk, hs, hc, hp, hx, hb⟩ := h
  exact ⟨h1, hk, hs, hc, fun i p a1 a2 a3 a4 a5 => hp i p a1 a2 a3 a4 (fun z => a5 (hEF i z)), hx, hb⟩
/-- one more is taken -/
theorem RC_take {s : ak_S} {a : ab_T} (hA : AI a) {T : Nat → Bool} {e : Nat} (h1 : 1 ≤ e) (h2 : e ≤ a.1 1) (hR : RCx s (a_T a T) (fun i => T i = true)) : RCx (c_take s e) (a_T a (fun j => T j || decide (j = e))) (fun i => (T i || decide (i = e)) = true) := by
  have hn := hA.1
  obtain ⟨⟨q1, q2, q3⟩, hk, hs, hc, hp, hx, hb⟩ := hR
  have hT' : ∀ i, i ≠ e → (T i || decide (i = e)) = T i := fun i hi => by simp [hi]
  have hTe : (T e || decide (e = e)) = true := by simp
  have n5 : ∀ i, (a_rw a (fun j => T j || decide (j = e))).2.1 5 i = if i = e then 2 else (a_rw a T).2.1 5 i := fun i => by
    rw [rw_5, rw_5]
    by_cases z : i = e
    · subst z; rw [if_pos hTe, if_pos rfl]
    · rw [hT' i z, if_neg z]
  have n6 : ∀ i, (a_rw a (fun j => T j || decide (j = e))).2.1 6 i = if i = e then 0 else (a_rw a T).2.1 6 i := fun i => by
    rw [rw_6, rw_6]
    by_cases z : i = e
    · subst z; rw [if_pos hTe, if_pos rfl]
    · rw [hT' i z, if_neg z]
  have no : ∀ f i, f ≠ 5 → f ≠ 6 → (a_rw a (fun j => T j || decide (j = e))).2.1 f i = (a_rw a T).2.1 f i := fun f i z1 z2 => by rw [rw_o z1 z2, rw_o z1 z2]
  have hse := (hs e (by omega)).2.2.2.2
  have hse : s.1 12 e = nI ((a_rw a T).2.1 6 e) := hse
  have hrb : (a_rw a T).2.1 6 e ≤ a.1 1 := by
    rw [rw_6]
    have := (hA.2.2.1 e (by omega)).2.2.2
    split <;> omega
  -- the counts
  have hac : ∀ i, 1 ≤ i → ac (a_rw a (fun j => T j || decide (j = e))) i = if i = (a_rw a T).2.1 6 e then ac (a_rw a T) i - 1 else ac (a_rw a T) i := by
    intro i hi
    unfold ac
    show cn (fun j => decide ((a_rw a (fun j => T j || decide (j = e))).2.1 6 j = i)) (a.1 1) = if i = (a_rw a T).2.1 6 e then cn (fun j => decide ((a_rw a T).2.1 6 j = i)) (a.1 1) - 1 else cn (fun j => decide ((a_rw a T).2.1 6 j = i)) (a.1 1)
    by_cases z : i = (a_rw a T).2.1 6 e
    · rw [if_pos z]
      have := cn_add (p := fun j => decide ((a_rw a (fun j => T j || decide (j = e))).2.1 6 j = i)) (q := fun j => decide ((a_rw a T).2.1 6 j = i)) (e := e) h1 h2 (by
        rw [n6, if_pos rfl]; simp; omega) (by rw [z]; simp) (fun j _ _ hj => by rw [n6, if_neg hj])
      omega
    · rw [if_neg z]
      refine cn_congr (fun j _ _ => ?_)
      rw [n6]
      by_cases w : j = e
      · subst w
        rw [if_pos rfl]
        have w1 : ¬ (0 : Nat) = i := by omega
        have w2 : ¬ (a_rw a T).2.1 6 j = i := fun y => z y.symm
        simp [w1, w2]
      · rw [if_neg w]
  have hacp : ∀ i, i = (a_rw a T).2.1 6 e → 1 ≤ ac (a_rw a T) i := by
    intro i z
    have : ac (a_rw a T) i ≠ 0 := cn_ex.mpr ⟨e, h1, h2, by rw [decide_eq_true_eq]; exact z.symm⟩
    omega
  -- who has changed
  have hch : ∀ i, 1 ≤ i → a_chg a (fun j => T j || decide (j = e)) i = (a_chg a T i || decide (i = (a_rw a T).2.1 6 e)) := by
    intro i hi
    rw [Bool.eq_iff_iff]
    simp only [a_chg, Bool.or_eq_true, decide_eq_true_eq]
    rw [cn_ex, cn_ex]
    constructor
    · rintro ⟨j, b1, b2, b3⟩
      simp only [Bool.and_eq_true, Bool.or_eq_true, decide_eq_true_eq] at b3
      rcases b3 with ⟨b3 | b3, b4⟩
      · exact Or.inl ⟨j, b1, b2, by simp [b3, b4]⟩
      · subst b3
        by_cases z : T j = true
        · exact Or.inl ⟨j, b1, b2, by simp [z, b4]⟩
        · exact Or.inr (by rw [rw_6, if_neg z, b4])
    · rintro (⟨j, b1, b2, b3⟩ | b)
      · simp only [Bool.and_eq_true, decide_eq_true_eq] at b3
        exact ⟨j, b1, b2, by simp [b3.1, b3.2]⟩
      · refine ⟨e, h1, h2, ?_⟩
        rw [rw_6] at b
        split at b
        · omega
        · simp [b]
  -- what is true of the others
  have htr : ∀ i p, 1 ≤ i → i ≠ e → i ≠ (a_rw a T).2.1 6 e → a_tr (a_rw a (fun j => T j || decide (j = e))) i p = a_tr (a_rw a T) i p := by
    intro i p hi hie hio
    unfold a_tr
    rw [n5, n6, if_neg hie, if_neg hie, no 4 i (by decide) (by decide), hac i hi, if_neg hio]
  have hcom : (ak_p1 (ak_p1 s 11 e 2) 9 e 0).1 12 e = nI ((a_rw a T).2.1 6 e) := by rw [p1_o (by decide), p1_o (by decide), hse]
  have s13 : ∀ i, 1 ≤ i → i ≤ 250 → s.1 13 i = nI (ac (a_rw a T) i) := fun i b1 b2 => hc i b1 b2
  -- the rows of the new state
  have row8 : ∀ i, (c_take s e).1 8 i = s.1 8 i := fun i => c_take_o (by decide) (by decide) (by decide) (by decide) (by decide)
  have row9 : ∀ i, (c_take s e).1 9 i = if i = e then 0 else s.1 9 i := fun i => by rw [c_take, c_part_o (by decide) (by decide) (by decide), p1_s, p1_o (by decide)]
  have row11 : ∀ i, (c_take s e).1 11 i = if i = e then 2 else s.1 11 i := fun i => by rw [c_take, c_part_o (by decide) (by decide) (by decide), p1_o (by decide), p1_s]
  have row13 : ∀ i, 1 ≤ i → i ≤ 250 → (c_take s e).1 13 i = nI (ac (a_rw a (fun j => T j || decide (j = e))) i) := by
    intro i b1 b2
    unfold c_take c_part
    rw [hcom, hac i b1]
    split
    · rename_i z
      rw [n_0, q_eq (by omega) (by omega)] at z
      rw [p1_o (by decide), p1_o (by decide), s13 i b1 b2, if_neg (by omega)]
    · rename_i z
      rw [q_cl (by omega), c_right_o (by decide), p1_s, p1_o (by decide), p1_o (by decide), p1_o (by decide)]
      by_cases w : i = (a_rw a T).2.1 6 e
      · rw [if_pos w, if_pos w, ← w, s13 i b1 b2]
        have := hacp i w
        obtain ⟨c', hc'⟩ : ∃ c', ac (a_rw a T) i = c' + 1 := ⟨ac (a_rw a T) i - 1, by omega⟩
        rw [hc', nI_pred]
        rfl
      · rw [if_neg w, if_neg w, p1_o (by decide), p1_o (by decide), s13 i b1 b2]
  have row14 : ∀ i p, p < 3 → 1 ≤ i → i ≤ 250 → i ≠ e → (c_take s e).1 14 (3 * i + p) = if i = (a_rw a T).2.1 6 e then nI (a_tr (a_rw a (fun j => T j || decide (j = e))) i p) else s.1 14 (3 * i + p) := by
    intro i p hp3 b1 b2 b3
    have hR12 : (c_take s e).1 12 i = s.1 12 i := by rw [c_take_12, if_neg b3]
    by_cases z : i = (a_rw a T).2.1 6 e
    · rw [if_pos z]
      have z0 : ¬ nI ((a_rw a T).2.1 6 e) = 0 := by
        rw [n_0, q_eq (by omega) (by omega)]
        omega
      have r9 := row9 i
      have r13 := row13 i b1 b2
      obtain ⟨U, hct⟩ : ∃ U, c_take s e = c_right U ((a_rw a T).2.1 6 e) := ⟨_, by unfold c_take c_part; rw [hcom, if_neg z0, q_cl (by omega)]⟩
      rw [hct] at r9 r13 hR12 ⊢
      rw [c_right_o (by decide)] at r9 r13 hR12
      rw [cr_p hp3, if_pos z, ← z]
      unfold c_tr a_tr
      rw [r9, r13, hR12, if_neg b3, n5, if_neg b3, n6, if_neg b3, no 4 i (by decide) (by decide)]
      obtain ⟨_, d2, _, _, d5⟩ := hs i b2
      rw [d2, d5]
      split
      · rfl
      · split <;> rfl
    · rw [if_neg z]
      unfold c_take c_part
      rw [hcom]
      split
      · rw [p1_o (by decide), p1_o (by decide)]
      · rw [q_cl (by omega), cr_p hp3, if_neg z, p1_o (by decide), p1_o (by decide), p1_o (by decide), p1_o (by decide)]
  refine ⟨⟨?_, ?_, ?_⟩, fun k hk' => ?_, fun i hi => ?_, fun i b1 b2 => ?_, fun i p b1 b2 b3 b4 b5 => ?_, fun j hj => ?_, ?_⟩
  · rw [c_take_o (by decide) (by decide) (by decide) (by decide) (by decide), q1]; rfl
  · rw [c_take_o (by decide) (by decide) (by decide) (by decide) (by decide), q2]; rfl
  · rw [c_take_o (by decide) (by decide) (by decide) (by decide) (by decide), q3]; rfl
  · rw [c_take_o (by decide) (by decide) (by decide) (by decide) (by decide), c_take_o (by decide) (by decide) (by decide) (by decide) (by decide), c_take_o (by decide) (by decide) (by decide) (by decide) (by decide)]
    exact hk k hk'
  · obtain ⟨d1, d2, d3, d4, d5⟩ := hs i hi
    refine ⟨?_, ?_, ?_, ?_, ?_⟩
    · rw [row8]; exact d1
    · show _ = nI (if (a_rw a (fun j => T j || decide (j = e))).2.1 5 i = 1 then (a_rw a (fun j => T j || decide (j = e))).2.1 4 i else 0)
      rw [row9, n5, no 4 i (by decide) (by decide)]
      by_cases z : i = e
      · rw [if_pos z, if_pos z, if_neg (by decide)]; rfl
      · rw [if_neg z, if_neg z]; exact d2
    · have : (c_take s e).2 = s.2 := by
        unfold c_take c_part
        split
        · rfl
        · rfl
      rw [this]; exact d3
    · show _ = nI ((a_rw a (fun j => T j || decide (j = e))).2.1 5 i)
      rw [row11, n5]
      by_cases z : i = e
      · rw [if_pos z, if_pos z]; rfl
      · rw [if_neg z, if_neg z]; exact d4
    · show _ = nI ((a_rw a (fun j => T j || decide (j = e))).2.1 6 i)
      rw [c_take_12, n6]
      by_cases z : i = e
      · rw [if_pos z, if_pos z]; rfl
      · rw [if_neg z, if_neg z]; exact d5
  · exact row13 i b1 b2
  · have b2' : i ≤ a.1 1 := b2
    have hie : i ≠ e := fun z => b5 (by subst z; exact hTe)
    have hTi : ¬ T i = true := fun z => b5 (by simp [z])
    have b3' : (a_rw a (fun j => T j || decide (j = e))).2.1 5 i ≠ 0 := b3
    rw [n5, if_neg hie] at b3'
    rw [row14 i p b4 b1 (by omega) hie, aT_p b4, hch i b1]
    have old := hp i p b1 b2 b3' b4 hTi
    rw [aT_p b4] at old
    by_cases z : i = (a_rw a T).2.1 6 e
    · rw [if_pos z, if_pos (by simp [← z])]
    · rw [if_neg z, old]
      have : (a_chg a T i || decide (i = (a_rw a T).2.1 6 e)) = a_chg a T i := by simp [z]
      rw [this, htr i p b1 hie z]
  · rw [c_take_o (by decide) (by decide) (by decide) (by decide) (by decide), c_take_o (by decide) (by decide) (by decide) (by decide) (by decide)]
    exact hx j hj
  · obtain ⟨bk, c1, c2, c3⟩ := hb
    refine ⟨bk, fun j hj => ?_, c2, c3⟩
    rw [c_take_o (by decide) (by decide) (by decide) (by decide) (by decide)]
    exact c1 j hj
