/-! helpers: reading behind a store; numbers -/
theorem p1_s {s : ak_S} {k j j' : Nat} {x : Int32} : (ak_p1 s k j x).1 k j' = if j' = j then x else s.1 k j' := by simp [ak_p1, upd]
theorem p1_o {s : ak_S} {k k' j j' : Nat} {x : Int32} (h : k' ≠ k) : (ak_p1 s k j x).1 k' j' = s.1 k' j' := by simp [ak_p1, h]
theorem p1_2 {s : ak_S} {k j : Nat} {x : Int32} : (ak_p1 s k j x).2 = s.2 := rfl
theorem p2_s {s : ak_S} {k j j' : Nat} {x : Int64} : (ak_p2 s k j x).2 k j' = if j' = j then x else s.2 k j' := by simp [ak_p2, vp_updL]
theorem p2_o {s : ak_S} {k k' j j' : Nat} {x : Int64} (h : k' ≠ k) : (ak_p2 s k j x).2 k' j' = s.2 k' j' := by simp [ak_p2, h]
theorem p2_1 {s : ak_S} {k j : Nat} {x : Int64} : (ak_p2 s k j x).1 = s.1 := rfl
theorem q_lt {a b : Nat} (ha : a < 2147483648) (hb : b < 2147483648) : (nI a < nI b) = (a < b) := propext (nI_ltI ha hb)
theorem q_le {a b : Nat} (ha : a < 2147483648) (hb : b < 2147483648) : (nI a ≤ nI b) = (a ≤ b) := propext (nI_leI ha hb)
theorem q_eq {a b : Nat} (ha : a < 2147483648) (hb : b < 2147483648) : (nI a = nI b) = (a = b) := propext (nI_eq ha hb)
theorem q_in {a b : Nat} (ha : a < b) (hb : b < 2147483648) : vp_in (nI a) b := vp_in_nI ha hb
theorem q_cl {a : Nat} (ha : a < 2147483648) : (nI a).toNatClampNeg = a := nI_clamp ha
theorem n_0 : (0 : Int32) = nI 0 := rfl
theorem n_1 : (1 : Int32) = nI 1 := rfl
theorem n_2 : (2 : Int32) = nI 2 := rfl
theorem n_3 : (3 : Int32) = nI 3 := rfl
theorem n_10 : (10 : Int32) = nI 10 := rfl
theorem n_15 : (15 : Int32) = nI 15 := rfl
theorem n_250 : (250 : Int32) = nI 250 := rfl
/-- any number is in 1..n, by its Nat, or out -/
theorem n_case (x : Int32) {n : Nat} (hn : n < 2147483648) : (∃ j : Nat, 1 ≤ j ∧ j ≤ n ∧ x = nI j) ∨ ¬ (1 ≤ x ∧ x ≤ nI n) := by
  by_cases h : 1 ≤ x ∧ x ≤ nI n
  · left
    obtain ⟨h1, h2⟩ := h
    have h0 : ¬ x < 0 := by
      intro q
      have h3 : (0 : Int32) < 1 := by decide
      grind
    obtain ⟨j, hj, rfl⟩ := nI_of h0
    rw [n_1, nI_leI (by omega) hj] at h1
    rw [nI_leI hj hn] at h2
    exact ⟨j, h1, h2, rfl⟩
  · exact Or.inr h
theorem n_in {n j : Nat} (h1 : 1 ≤ j) (h2 : j ≤ n) (hn : n < 2147483648) : (1 : Int32) ≤ nI j ∧ nI j ≤ nI n := ⟨by rw [n_1]; exact nI_le h1 (by omega), nI_le h2 hn⟩
