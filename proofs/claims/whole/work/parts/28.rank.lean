/-! the i-th by an order: ranks -/
theorem cn_mono {p q : Nat → Bool} : ∀ {n : Nat}, (∀ j, 1 ≤ j → j ≤ n → p j = true → q j = true) → cn p n ≤ cn q n
  | 0, _ => Nat.le_refl 0
  | n + 1, h => by
    have ih := cn_mono (n := n) (fun j h1 h2 => h j h1 (by omega))
    rw [cn, cn]
    by_cases hp : p (n + 1) = true
    · rw [if_pos hp, if_pos (h (n + 1) (by omega) (by omega) hp)]
      omega
    · rw [if_neg hp]
      split <;> omega
theorem cn_lt {p q : Nat → Bool} {e : Nat} : ∀ {n : Nat}, (∀ j, 1 ≤ j → j ≤ n → p j = true → q j = true) → 1 ≤ e → e ≤ n → p e = false → q e = true → cn p n < cn q n
  | 0, _, h1, h2, _, _ => by omega
  | n + 1, h, h1, h2, hp, hq => by
    rw [cn, cn]
    by_cases he : e = n + 1
    · subst he
      have := cn_mono (n := n) (p := p) (q := q) (fun j a b => h j a (by omega))
      rw [hp, hq]
      simp
      omega
    · have ih := cn_lt (n := n) (fun j a b => h j a (by omega)) h1 (by omega) hp hq
      by_cases hp1 : p (n + 1) = true
      · rw [if_pos hp1, if_pos (h (n + 1) (by omega) (by omega) hp1)]
        omega
      · rw [if_neg hp1]
        split <;> omega
theorem cn_or {p q : Nat → Bool} : ∀ {n : Nat}, (∀ j, 1 ≤ j → j ≤ n → ¬ (p j = true ∧ q j = true)) → cn (fun j => p j || q j) n = cn p n + cn q n
  | 0, _ => rfl
  | n + 1, h => by
    rw [cn, cn, cn, cn_or (n := n) (fun j h1 h2 => h j h1 (by omega))]
    have h1 := h (n + 1) (by omega) (by omega)
    cases hp : p (n + 1) <;> cases hq : q (n + 1) <;> simp_all <;> omega
def fd (p : Nat → Bool) : Nat → Nat
  | 0 => 0
  | n + 1 => if fd p n ≠ 0 then fd p n else if p (n + 1) = true then n + 1 else 0
theorem fd_0 {p : Nat → Bool} : ∀ {n : Nat}, (∀ j, 1 ≤ j → j ≤ n → p j = false) → fd p n = 0
  | 0, _ => rfl
  | n + 1, h => by
    rw [fd, fd_0 (n := n) (fun j h1 h2 => h j h1 (by omega)), if_neg (fun z => z rfl), h (n + 1) (by omega) (by omega)]
    simp
theorem fd_at {p : Nat → Bool} {c : Nat} : ∀ {n : Nat}, 1 ≤ c → c ≤ n → p c = true → (∀ j, 1 ≤ j → j ≤ n → p j = true → j = c) → fd p n = c
  | 0, h1, h2, _, _ => by omega
  | n + 1, h1, h2, hp, hu => by
    rw [fd]
    by_cases e : c = n + 1
    · subst e
      have : fd p n = 0 := fd_0 (fun j a b => by
        cases hj : p j with
        | false => rfl
        | true => have := hu j a (by omega) hj; omega)
      rw [this, if_neg (fun z => z rfl), if_pos hp]
    · rw [fd_at (n := n) h1 (by omega) hp (fun j a b c => hu j a (by omega) c), if_pos (by omega)]
def a_rk (P : Nat → Bool) (lt : Nat → Nat → Bool) (n c : Nat) : Nat := cn (fun d => P d && lt d c) n
def a_ith (P : Nat → Bool) (lt : Nat → Nat → Bool) (n : Nat) (x : Int32) : Nat := fd (fun c => P c && decide (nI (a_rk P lt n c) = x)) n
/-- a strict total order -/
def STO (lt : Nat → Nat → Bool) : Prop := (∀ x, lt x x = false) ∧ (∀ x y z, lt x y = true → lt y z = true → lt x z = true) ∧ ∀ x y, x ≠ y → lt x y = true ∨ lt y x = true
theorem rk_lt {P : Nat → Bool} {lt : Nat → Nat → Bool} (h : STO lt) {n x y : Nat} (h1 : 1 ≤ x) (h2 : x ≤ n) (hx : P x = true) (hl : lt x y = true) : a_rk P lt n x < a_rk P lt n y := by
  refine cn_lt (e := x) (fun j _ _ hj => ?_) h1 h2 ?_ ?_
  · simp only [Bool.and_eq_true] at hj ⊢
    exact ⟨hj.1, h.2.1 _ _ _ hj.2 hl⟩
  · rw [h.1]; simp
  · rw [hx, hl]; rfl
theorem rk_all {P : Nat → Bool} {lt : Nat → Nat → Bool} (h : STO lt) {n x : Nat} (h1 : 1 ≤ x) (h2 : x ≤ n) (hx : P x = true) : a_rk P lt n x < cn P n := by
  refine cn_lt (e := x) (fun j _ _ hj => ?_) h1 h2 ?_ hx
  · simp only [Bool.and_eq_true] at hj
    exact hj.1
  · rw [h.1]; simp
theorem ith_at {P : Nat → Bool} {lt : Nat → Nat → Bool} (h : STO lt) {n i c : Nat} (hn : n ≤ 250) (hi : i < 2147483648) (h1 : 1 ≤ c) (h2 : c ≤ n) (hc : P c = true) (hr : a_rk P lt n c = i) : a_ith P lt n (nI i) = c := by
  refine fd_at h1 h2 ?_ (fun j a b hj => ?_)
  · rw [hc, hr]; simp
  · simp only [Bool.and_eq_true, decide_eq_true_eq] at hj
    have hle := cn_le (fun d => P d && lt d j) n
    have hj2 : a_rk P lt n j = i := (nI_eq (by unfold a_rk; omega) hi).mp hj.2
    by_cases e : j = c
    · exact e
    · exfalso
      rcases h.2.2 j c e with z | z
      · have := rk_lt h a b hj.1 z
        omega
      · have := rk_lt h h1 h2 hc z
        omega
theorem ith_no {P : Nat → Bool} {lt : Nat → Nat → Bool} (h : STO lt) {n i : Nat} (hn : n ≤ 250) (hi : i < 2147483648) (hc : cn P n ≤ i) : a_ith P lt n (nI i) = 0 := by
  refine fd_0 (fun j a b => ?_)
  cases hp : P j with
  | false => rfl
  | true =>
    have h1 := rk_all h a b hp
    have hle := cn_le (fun d => P d && lt d j) n
    have : ¬ nI (a_rk P lt n j) = nI i := fun z => by
      have := (nI_eq (by unfold a_rk; omega) hi).mp z
      omega
    simp [this]
theorem ith_neg {P : Nat → Bool} {lt : Nat → Nat → Bool} {n : Nat} {x : Int32} (hn : n ≤ 250) (hx : x < 0) : a_ith P lt n x = 0 := by
  refine fd_0 (fun j a b => ?_)
  have hle := cn_le (fun d => P d && lt d j) n
  have : ¬ nI (a_rk P lt n j) = x := fun z => by
    rw [← z] at hx
    exact nI_pos (by unfold a_rk; omega) hx
  simp [this]
def a_ltB (a : ab_T) (x y : Nat) : Bool := decide (a.2.2.1 x < a.2.2.1 y ∨ (a.2.2.1 x = a.2.2.1 y ∧ x < y))
theorem sto_lt (a : ab_T) : STO (a_ltB a) := by
  refine ⟨fun x => ?_, fun x y z h1 h2 => ?_, fun x y h => ?_⟩
  · simp only [a_ltB, decide_eq_false_iff_not]
    rintro (h | h)
    · exact absurd h Int64.lt_irrefl
    · omega
  · simp only [a_ltB, decide_eq_true_eq] at *
    rcases h1 with h1 | h1
    · rcases h2 with h2 | h2
      · exact Or.inl (Int64.lt_trans h1 h2)
      · exact Or.inl (by rw [← h2.1]; exact h1)
    · rcases h2 with h2 | h2
      · exact Or.inl (by rw [h1.1]; exact h2)
      · exact Or.inr ⟨h1.1.trans h2.1, by omega⟩
  · simp only [a_ltB, decide_eq_true_eq]
    by_cases e : a.2.2.1 x = a.2.2.1 y
    · rcases (by omega : x < y ∨ y < x) with z | z
      · exact Or.inl (Or.inr ⟨e, z⟩)
      · exact Or.inr (Or.inr ⟨e.symm, z⟩)
    · by_cases z : a.2.2.1 x < a.2.2.1 y
      · exact Or.inl (Or.inl z)
      · right; left
        rcases Int64.lt_or_eq_of_le (Int64.not_lt.mp z) with w | w
        · exact w
        · exact absurd w.symm e
/-- by kinds first -/
def a_kdB (a : ab_T) (x y : Nat) : Bool := if a.2.1 3 x ≠ a.2.1 3 y then decide (a.2.1 3 x < a.2.1 3 y) else a_ltB a x y
theorem sto_kd (a : ab_T) : STO (a_kdB a) := by
  obtain ⟨i1, i2, i3⟩ := sto_lt a
  refine ⟨fun x => ?_, fun x y z h1 h2 => ?_, fun x y h => ?_⟩
  · simp [a_kdB, i1]
  · unfold a_kdB at *
    by_cases e1 : a.2.1 3 x = a.2.1 3 y
    · rw [if_neg (fun q => q e1)] at h1
      by_cases e2 : a.2.1 3 y = a.2.1 3 z
      · rw [if_neg (fun q => q e2)] at h2
        rw [if_neg (fun q => q (e1.trans e2))]
        exact i2 _ _ _ h1 h2
      · rw [if_pos e2, decide_eq_true_eq] at h2
        rw [if_pos (by omega), decide_eq_true_eq]
        omega
    · rw [if_pos e1, decide_eq_true_eq] at h1
      by_cases e2 : a.2.1 3 y = a.2.1 3 z
      · rw [if_pos (by omega), decide_eq_true_eq]
        omega
      · rw [if_pos e2, decide_eq_true_eq] at h2
        rw [if_pos (by omega), decide_eq_true_eq]
        omega
  · unfold a_kdB
    by_cases e : a.2.1 3 x = a.2.1 3 y
    · rw [if_neg (fun q => q e), if_neg (fun q => q e.symm)]
      exact i3 x y h
    · rw [if_pos e, if_pos (Ne.symm e), decide_eq_true_eq, decide_eq_true_eq]
      omega
/-! counting along the row by keys -/
theorem c0_congr {p q : Nat → Bool} : ∀ {n : Nat}, (∀ j, j < n → p j = q j) → c0 p n = c0 q n
  | 0, _ => rfl
  | n + 1, h => by rw [c0, c0, c0_congr (n := n) (fun j h1 => h j (by omega)), h n (by omega)]
theorem c0_part {p : Nat → Bool} {bk : Nat → Nat} {n : Nat} : ∀ {m : Nat}, (∀ j, j < m → 1 ≤ bk j ∧ bk j ≤ n) → (∀ i j, i < m → j < m → bk i = bk j → i = j) → c0 (fun q => p (bk q)) m = cn (fun d => p d && @decide (∃ q, q < m ∧ bk q = d) (Classical.propDecidable _)) n
  | 0, _, _ => by
    rw [c0, cn_0]
    intro j _ _
    simp
  | m + 1, hr, hi => by
    rw [c0, c0_part (m := m) (fun j h => hr j (by omega)) (fun i j h1 h2 => hi i j (by omega) (by omega))]
    obtain ⟨r1, r2⟩ := hr m (by omega)
    have hm : ¬ ∃ q, q < m ∧ bk q = bk m := fun ⟨q, h1, h2⟩ => by
      have := hi q m (by omega) (by omega) h2
      omega
    by_cases hp : p (bk m) = true
    · rw [if_pos hp]
      refine (cn_add (e := bk m) r1 r2 ?_ ?_ ?_).symm
      · simp [hm]
      · simp [hp]
        exact ⟨m, by omega, rfl⟩
      · intro j _ _ hj
        have : (∃ q, q < m + 1 ∧ bk q = j) ↔ ∃ q, q < m ∧ bk q = j := by
          constructor
          · rintro ⟨q, h1, h2⟩
            by_cases e : q = m
            · subst e; exact absurd h2.symm hj
            · exact ⟨q, by omega, h2⟩
          · rintro ⟨q, h1, h2⟩
            exact ⟨q, by omega, h2⟩
        show (p j && @decide _ (Classical.propDecidable _)) = (p j && @decide _ (Classical.propDecidable _))
        exact congrArg (fun z => p j && z) (decide_eq_decide.mpr this)
    · rw [if_neg hp]
      refine cn_congr (fun j _ _ => ?_)
      by_cases e : j = bk m
      · subst e
        simp [hp]
      · have : (∃ q, q < m + 1 ∧ bk q = j) ↔ ∃ q, q < m ∧ bk q = j := by
          constructor
          · rintro ⟨q, h1, h2⟩
            by_cases e2 : q = m
            · subst e2; exact absurd h2.symm e
            · exact ⟨q, by omega, h2⟩
          · rintro ⟨q, h1, h2⟩
            exact ⟨q, by omega, h2⟩
        show (p j && @decide _ (Classical.propDecidable _)) = (p j && @decide _ (Classical.propDecidable _))
        exact congrArg (fun z => p j && z) (decide_eq_decide.mpr this.symm)
/-- the row by keys as a pure fact -/
def BKp (a : ab_T) (bk : Nat → Nat) : Prop := (∀ j, j < a.1 1 → 1 ≤ bk j ∧ bk j ≤ a.1 1) ∧ (∀ i, 1 ≤ i → i ≤ a.1 1 → ∃ j, j < a.1 1 ∧ bk j = i) ∧ ∀ i j, i < j → j < a.1 1 → a_lt a (bk i) (bk j)
theorem BK_p {s : ak_S} {a : ab_T} (h : BK s a) : ∃ bk, BKp a bk ∧ ∀ j, j < a.1 1 → s.1 15 j = nI (bk j) := by
  obtain ⟨bk, c1, c2, c3⟩ := h
  exact ⟨bk, ⟨fun j hj => (c1 j hj).2, c2, c3⟩, fun j hj => (c1 j hj).1⟩
theorem bk_lt {a : ab_T} {bk : Nat → Nat} (h : BKp a bk) {i j : Nat} (hi : i < a.1 1) (hj : j < a.1 1) : a_ltB a (bk i) (bk j) = decide (i < j) := by
  have hs := sto_lt a
  rcases (by omega : i < j ∨ i = j ∨ j < i) with z | z | z
  · have := h.2.2 i j z hj
    simp only [a_ltB, z, decide_true, decide_eq_true_eq]
    exact this
  · subst z
    rw [hs.1]
    simp
  · have h1 : a_ltB a (bk j) (bk i) = true := by
      simp only [a_ltB, decide_eq_true_eq]
      exact h.2.2 j i z hi
    cases h2 : a_ltB a (bk i) (bk j) with
    | false => simp; omega
    | true =>
      have := hs.2.1 _ _ _ h1 h2
      rw [hs.1] at this
      cases this
theorem bk_inj {a : ab_T} {bk : Nat → Nat} (h : BKp a bk) : ∀ i j, i < a.1 1 → j < a.1 1 → bk i = bk j → i = j := by
  intro i j hi hj e
  have h1 := bk_lt h hi hj
  have h2 := bk_lt h hj hi
  rw [e, (sto_lt a).1] at h1
  rw [← e, (sto_lt a).1] at h2
  have e1 : ¬ i < j := by simpa using h1.symm
  have e2 : ¬ j < i := by simpa using h2.symm
  omega
theorem cn_bk {a : ab_T} {bk : Nat → Nat} (h : BKp a bk) (p : Nat → Bool) : cn p (a.1 1) = c0 (fun q => p (bk q)) (a.1 1) := by
  rw [c0_part (n := a.1 1) h.1 (bk_inj h)]
  refine cn_congr (fun j h1 h2 => ?_)
  have := h.2.1 j h1 h2
  simp [this]
theorem c0_cut {p : Nat → Bool} {j : Nat} : ∀ {n : Nat}, j ≤ n → c0 (fun q => p q && decide (q < j)) n = c0 p j
  | 0, h => by
    have : j = 0 := by omega
    subst this
    rfl
  | n + 1, h => by
    by_cases e : j = n + 1
    · subst e
      exact c0_congr (fun q hq => by simp [hq])
    · rw [c0, c0_cut (n := n) (by omega)]
      have : ¬ n < j := by omega
      simp [this]
/-- a rank, along the row -/
theorem rk_bk {a : ab_T} {bk : Nat → Nat} (h : BKp a bk) (P : Nat → Bool) {j : Nat} (hj : j < a.1 1) : a_rk P (a_ltB a) (a.1 1) (bk j) = c0 (fun q => P (bk q)) j := by
  unfold a_rk
  rw [cn_bk h, ← c0_cut (p := fun q => P (bk q)) (j := j) (n := a.1 1) (by omega)]
  exact c0_congr (fun q hq => by rw [bk_lt h hq hj])
