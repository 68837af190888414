/-! THE MATHEMATICAL STATE that both sides are tied to: counters (0 kinds, 1 segments, 2 indexes), rows (0 above, 1 logical parent, 2 rule, 3 kind, 4 under, 5 state (0 gone, 1 there, 2 stays), 6 related, 7 index's kind, 8 sparse), keys, what the pointers say (3 i + p) -/
abbrev ab_T : Type := (Nat → Nat) × (Nat → Nat → Nat) × (Nat → Int64) × (Nat → Int32)
def a_n (a : ab_T) (k x : Nat) : ab_T := (fun j => if j = k then x else a.1 j, a.2)
def a_f (a : ab_T) (f i x : Nat) : ab_T := (a.1, fun g => if g = f then (fun j => if j = i then x else a.2.1 f j) else a.2.1 g, a.2.2)
def a_k (a : ab_T) (i : Nat) (x : Int64) : ab_T := (a.1, a.2.1, fun j => if j = i then x else a.2.2.1 j, a.2.2.2)
def a_p (a : ab_T) (i : Nat) (x : Int32) : ab_T := (a.1, a.2.1, a.2.2.1, fun j => if j = i then x else a.2.2.2 j)
theorem an_1 {a : ab_T} {k x j : Nat} : (a_n a k x).1 j = if j = k then x else a.1 j := rfl
theorem an_2 {a : ab_T} {k x : Nat} : (a_n a k x).2 = a.2 := rfl
theorem af_1 {a : ab_T} {f i x : Nat} : (a_f a f i x).1 = a.1 := rfl
theorem af_s {a : ab_T} {f i x j : Nat} : (a_f a f i x).2.1 f j = if j = i then x else a.2.1 f j := by simp [a_f]
theorem af_o {a : ab_T} {f g i x j : Nat} (h : g ≠ f) : (a_f a f i x).2.1 g j = a.2.1 g j := by simp [a_f, h]
theorem af_2 {a : ab_T} {f i x : Nat} : (a_f a f i x).2.2 = a.2.2 := rfl
theorem ak_1 {a : ab_T} {i : Nat} {x : Int64} : (a_k a i x).1 = a.1 := rfl
theorem ak_21 {a : ab_T} {i : Nat} {x : Int64} : (a_k a i x).2.1 = a.2.1 := rfl
theorem ak_s {a : ab_T} {i j : Nat} {x : Int64} : (a_k a i x).2.2.1 j = if j = i then x else a.2.2.1 j := rfl
theorem ak_22 {a : ab_T} {i : Nat} {x : Int64} : (a_k a i x).2.2.2 = a.2.2.2 := rfl
theorem ap_1 {a : ab_T} {i : Nat} {x : Int32} : (a_p a i x).1 = a.1 := rfl
theorem ap_21 {a : ab_T} {i : Nat} {x : Int32} : (a_p a i x).2.1 = a.2.1 := rfl
theorem ap_22 {a : ab_T} {i : Nat} {x : Int32} : (a_p a i x).2.2.1 = a.2.2.1 := rfl
theorem ap_s {a : ab_T} {i j : Nat} {x : Int32} : (a_p a i x).2.2.2 j = if j = i then x else a.2.2.2 j := rfl
/-- a segment's count -/
def ac (a : ab_T) (i : Nat) : Nat := cn (fun j => decide (a.2.1 6 j = i)) (a.1 1)
/-- what is true of a pointer -/
def a_tr (a : ab_T) (i p : Nat) : Nat := if p = 0 then (if a.2.1 5 i = 1 then a.2.1 4 i else 0) else if p = 1 then a.2.1 6 i else ac a i
def a_right (a : ab_T) (i : Nat) : ab_T := a_p (a_p (a_p a (3 * i) (nI (a_tr a i 0))) (3 * i + 1) (nI (a_tr a i 1))) (3 * i + 2) (nI (a_tr a i 2))
/-- x stands ahead of y -/
def a_lt (a : ab_T) (x y : Nat) : Prop := a.2.2.1 x < a.2.2.1 y ∨ (a.2.2.1 x = a.2.2.1 y ∧ x < y)
/-- the invariants of the mathematical state -/
def AI (a : ab_T) : Prop := (a.1 0 ≤ 15 ∧ a.1 1 ≤ 250 ∧ a.1 2 ≤ 10) ∧ (∀ k, k ≤ 15 → a.2.1 0 k ≤ 15 ∧ a.2.1 1 k ≤ 15 ∧ a.2.1 2 k ≤ 2) ∧ (∀ i, i ≤ 250 → a.2.1 3 i ≤ 15 ∧ a.2.1 4 i ≤ 250 ∧ a.2.1 5 i ≤ 2 ∧ a.2.1 6 i ≤ a.1 1) ∧ (∀ i, 1 ≤ i → i ≤ a.1 1 → 1 ≤ a.2.1 3 i) ∧
  (∀ i, i ≤ 250 → a.2.1 6 i ≠ 0 → 1 ≤ i ∧ i ≤ a.1 1 ∧ a.2.1 5 i = 1) ∧ (∀ i, a.1 1 < i → i ≤ 250 → a.2.1 5 i = 0) ∧ a.2.1 5 0 = 0 ∧ (∀ k, a.1 0 < k → k ≤ 15 → a.2.1 1 k = 0 ∧ a.2.1 2 k = 0) ∧ (∀ j, j ≤ 10 → a.2.1 7 j ≤ 15 ∧ a.2.1 8 j ≤ 1) ∧ (∀ i, 1 ≤ i → i ≤ a.1 1 → a.2.1 3 i ≤ a.1 0 ∧ (a.2.1 4 i ≠ 0 → a.2.1 4 i ≤ a.1 1 ∧ a.2.1 0 (a.2.1 3 i) = a.2.1 3 (a.2.1 4 i)))
/-- the row by keys -/
def BK (s : ak_S) (a : ab_T) : Prop := ∃ bk : Nat → Nat, (∀ j, j < a.1 1 → s.1 15 j = nI (bk j) ∧ 1 ≤ bk j ∧ bk j ≤ a.1 1) ∧ (∀ i, 1 ≤ i → i ≤ a.1 1 → ∃ j, j < a.1 1 ∧ bk j = i) ∧ ∀ i j, i < j → j < a.1 1 → a_lt a (bk i) (bk j)
/-- the class's state holds the mathematical one -/
def RC (s : ak_S) (a : ab_T) : Prop := (s.1 1 0 = nI (a.1 0) ∧ s.1 2 0 = nI (a.1 1) ∧ s.1 3 0 = nI (a.1 2)) ∧
  (∀ k, k ≤ 15 → s.1 5 k = nI (a.2.1 0 k) ∧ s.1 6 k = nI (a.2.1 1 k) ∧ s.1 7 k = nI (a.2.1 2 k)) ∧
  (∀ i, i ≤ 250 → s.1 8 i = nI (a.2.1 3 i) ∧ s.1 9 i = nI (if a.2.1 5 i = 1 then a.2.1 4 i else 0) ∧ s.2 10 i = a.2.2.1 i ∧ s.1 11 i = nI (a.2.1 5 i) ∧ s.1 12 i = nI (a.2.1 6 i)) ∧
  (∀ i, 1 ≤ i → i ≤ 250 → s.1 13 i = nI (ac a i)) ∧
  (∀ i p, 1 ≤ i → i ≤ a.1 1 → a.2.1 5 i ≠ 0 → p < 3 → s.1 14 (3 * i + p) = a.2.2.2 (3 * i + p)) ∧
  (∀ j, j ≤ 10 → s.1 16 j = nI (a.2.1 7 j) ∧ s.1 17 j = nI (a.2.1 8 j)) ∧ BK s a
/-- the reference's state holds it -/
def RM (t : ak_S) (a : ab_T) : Prop := (t.1 0 1 = nI (a.1 0) ∧ t.1 0 2 = nI (a.1 1) ∧ t.1 0 3 = nI (a.1 2)) ∧
  (∀ k, k ≤ 15 → t.1 1 k = nI (a.2.1 0 k) ∧ t.1 2 k = nI (a.2.1 1 k) ∧ t.1 3 k = nI (a.2.1 2 k)) ∧
  (∀ i, i ≤ 250 → t.1 4 i = nI (a.2.1 3 i) ∧ t.1 5 i = nI (a.2.1 4 i) ∧ t.2 9 i = a.2.2.1 i ∧ t.1 7 i = nI (a.2.1 6 i)) ∧
  (∀ i, 1 ≤ i → i ≤ a.1 1 → t.1 6 i = nI (if a.2.1 5 i = 0 then 3 else a.2.1 5 i)) ∧
  (∀ i p, 1 ≤ i → i ≤ a.1 1 → a.2.1 5 i ≠ 0 → p < 3 → t.1 8 (3 * i + p) = a.2.2.2 (3 * i + p)) ∧
  (∀ j, j ≤ 10 → t.1 12 j = nI (a.2.1 7 j) ∧ t.1 13 j = nI (a.2.1 8 j))
/-- is a kind, a segment, an index -/
abbrev iK (a : ab_T) (x : Int32) : Prop := 1 ≤ x ∧ x ≤ nI (a.1 0)
abbrev iS (a : ab_T) (x : Int32) : Prop := 1 ≤ x ∧ x ≤ nI (a.1 1)
abbrev iX (a : ab_T) (x : Int32) : Prop := 1 ≤ x ∧ x ≤ nI (a.1 2)
theorem iK_of {a : ab_T} (hA : AI a) {x : Int32} (h : iK a x) : ∃ k, 1 ≤ k ∧ k ≤ a.1 0 ∧ x = nI k := by
  have := hA.1.1
  rcases n_case x (n := a.1 0) (by omega) with h1 | h1
  · exact h1
  · exact absurd h h1
theorem iS_of {a : ab_T} (hA : AI a) {x : Int32} (h : iS a x) : ∃ k, 1 ≤ k ∧ k ≤ a.1 1 ∧ x = nI k := by
  have := hA.1.2.1
  rcases n_case x (n := a.1 1) (by omega) with h1 | h1
  · exact h1
  · exact absurd h h1
theorem iX_of {a : ab_T} (hA : AI a) {x : Int32} (h : iX a x) : ∃ k, 1 ≤ k ∧ k ≤ a.1 2 ∧ x = nI k := by
  have := hA.1.2.2
  rcases n_case x (n := a.1 2) (by omega) with h1 | h1
  · exact h1
  · exact absurd h h1
theorem cn_ex {p : Nat → Bool} : ∀ {n : Nat}, cn p n ≠ 0 ↔ ∃ i, 1 ≤ i ∧ i ≤ n ∧ p i = true
  | 0 => ⟨fun h => absurd rfl h, fun ⟨i, h1, h2, _⟩ => by omega⟩
  | n + 1 => by
    have ih := cn_ex (p := p) (n := n)
    rw [cn]
    constructor
    · intro h
      by_cases hp : p (n + 1) = true
      · exact ⟨n + 1, by omega, by omega, hp⟩
      · rw [if_neg hp] at h
        obtain ⟨i, h1, h2, h3⟩ := ih.mp h
        exact ⟨i, h1, by omega, h3⟩
    · intro ⟨i, h1, h2, h3⟩
      by_cases e : i = n + 1
      · subst e
        rw [if_pos h3]
        omega
      · have := ih.mpr ⟨i, h1, by omega, h3⟩
        omega
/-! the answers, and the states behind them -/
def f_kind (a : ab_T) (x : Int32) : Int32 := if x = 0 ∨ iK a x then (if a.1 0 = 15 then -1 else nI (a.1 0 + 1)) else -2
def g_kind (a : ab_T) (x : Int32) : ab_T := if (x = 0 ∨ iK a x) ∧ a.1 0 < 15 then a_f (a_n a 0 (a.1 0 + 1)) 0 (a.1 0 + 1) x.toNatClampNeg else a
def f_parent (a : ab_T) (k o r : Int32) : Int32 := if ¬ (iK a k ∧ iK a o) then -2 else if r < 0 ∨ 2 < r then -4 else if cn (fun i => decide (nI (a.2.1 3 i) = k)) (a.1 1) ≠ 0 then -5 else if a.2.1 1 k.toNatClampNeg ≠ 0 then 0 else 1
def g_parent (a : ab_T) (k o r : Int32) : ab_T := if f_parent a k o r = 1 then a_f (a_f a 1 k.toNatClampNeg o.toNatClampNeg) 2 k.toNatClampNeg r.toNatClampNeg else a
/-- may a segment of kind k be under u -/
def a_fit (a : ab_T) (k u : Int32) : Prop := if a.2.1 0 k.toNatClampNeg = 0 then u = 0 else (iS a u ∧ a.2.1 5 u.toNatClampNeg = 1 ∧ a.2.1 3 u.toNatClampNeg = a.2.1 0 k.toNatClampNeg)
def a_dup (a : ab_T) (k u : Int32) (y : Int64) : Prop := cn (fun i => decide (a.2.1 5 i = 1 ∧ nI (a.2.1 3 i) = k ∧ nI (a.2.1 4 i) = u ∧ a.2.2.1 i = y)) (a.1 1) ≠ 0
noncomputable def ci {α : Type} (p : Prop) (x y : α) : α := @ite α p (Classical.propDecidable p) x y
theorem ci_t {α : Type} {p : Prop} {x y : α} (h : p) : ci p x y = x := if_pos h
theorem ci_f {α : Type} {p : Prop} {x y : α} (h : ¬ p) : ci p x y = y := if_neg h
noncomputable def f_segment (a : ab_T) (k u : Int32) (y : Int64) : Int32 := ci (¬ iK a k) (-2) (ci (¬ a_fit a k u) (-4) (ci (a_dup a k u y) (-3) (ci (a.1 1 = 250) (-1) (nI (a.1 1 + 1)))))
def g_new (a : ab_T) (k u : Nat) (y : Int64) : ab_T := a_right (a_f (a_k (a_f (a_f (a_n a 1 (a.1 1 + 1)) 3 (a.1 1 + 1) k) 4 (a.1 1 + 1) u) (a.1 1 + 1) y) 5 (a.1 1 + 1) 1) (a.1 1 + 1)
noncomputable def g_segment (a : ab_T) (k u : Int32) (y : Int64) : ab_T := ci (iK a k ∧ a_fit a k u ∧ ¬ a_dup a k u y ∧ a.1 1 < 250) (g_new a k.toNatClampNeg u.toNatClampNeg y) a
theorem bt0 (p : Prop) [Decidable p] : ((if p then (1 : Int32) else 0) = 0) = ¬ p := by
  by_cases h : p
  · rw [if_pos h]; exact propext ⟨fun q => absurd q (by decide), fun q => absurd h q⟩
  · rw [if_neg h]; exact propext ⟨fun _ => h, fun _ => rfl⟩
theorem i10 : ((1 : Int32) = 0) = False := propext ⟨fun q => absurd q (by decide), fun q => q.elim⟩
theorem bt1 (p : Prop) [Decidable p] : ((if p then (1 : Int32) else 0) = 1) = p := by
  by_cases h : p
  · rw [if_pos h]; exact propext ⟨fun _ => h, fun _ => rfl⟩
  · rw [if_neg h]; exact propext ⟨fun q => absurd q (by decide), fun q => absurd q h⟩
