/-! the invariants are kept by each step of the mathematical state; the beginning -/
theorem AI_kind {a : ab_T} (hA : AI a) (x : Int32) : AI (g_kind a x) := by
  rw [g_kind]
  split
  · rename_i h
    have hx : x.toNatClampNeg ≤ 15 := by
      rcases h.1 with rfl | h1
      · decide
      · obtain ⟨k, k1, k2, rfl⟩ := iK_of hA h1
        have := hA.1.1
        rw [q_cl (by omega)]; omega
    have hn := h.2
    obtain ⟨c1, c2, c3, c4, c5, c6, c7, c8, c9, c10⟩ := hA
    refine ⟨⟨?_, c1.2.1, c1.2.2⟩, fun k hk => ?_, fun j hj => ?_, fun j j1 j2 => ?_, fun j hj hz => ?_, fun j j1 j2 => ?_, ?_, fun k k1 k2 => ?_, fun j hj => ?_, fun j j1 j2 => ?_⟩
    · show (if 0 = 0 then a.1 0 + 1 else a.1 0) ≤ 15
      rw [if_pos rfl]; omega
    · rw [af_s, af_o (by decide), af_o (by decide), an_2]
      obtain ⟨d1, d2, d3⟩ := c2 k hk
      refine ⟨?_, d2, d3⟩
      split
      · exact hx
      · exact d1
    · rw [af_o (by decide), af_o (by decide), af_o (by decide), af_o (by decide), an_2]; exact c3 j hj
    · rw [af_o (by decide), an_2]; exact c4 j j1 j2
    · rw [af_o (by decide), an_2] at hz; rw [af_o (by decide), an_2]; exact c5 j hj hz
    · rw [af_o (by decide), an_2]; exact c6 j j1 j2
    · rw [af_o (by decide), an_2]; exact c7
    · have k1 : (if 0 = 0 then a.1 0 + 1 else a.1 0) < k := k1
      rw [if_pos rfl] at k1
      rw [af_o (by decide), af_o (by decide), an_2]; exact c8 k (by omega) k2
    · rw [af_o (by decide), af_o (by decide), an_2]; exact c9 j hj
    · rw [af_o (by decide), af_o (by decide), af_s, af_o (by decide), an_2, af_1]
      obtain ⟨d1, d2⟩ := c10 j j1 j2
      refine ⟨?_, fun z => ?_⟩
      · show a.2.1 3 j ≤ (if 0 = 0 then a.1 0 + 1 else a.1 0)
        rw [if_pos rfl]; omega
      · rw [if_neg (by omega)]; exact d2 z
  · exact hA
theorem AI_parent {a : ab_T} (hA : AI a) (k o r : Int32) : AI (g_parent a k o r) := by
  rw [g_parent]
  split
  · rename_i h
    rw [f_parent] at h
    split at h
    · exact absurd h (by decide)
    · rename_i h1
      have h1 := Classical.not_not.mp h1
      split at h
      · exact absurd h (by decide)
      · rename_i h2
        obtain ⟨k', k1, k2, rfl⟩ := iK_of hA h1.1
        obtain ⟨o', o1, o2, rfl⟩ := iK_of hA h1.2
        have hr : r.toNatClampNeg ≤ 2 := by
          have h0 : ¬ r < 0 := fun q => h2 (Or.inl q)
          obtain ⟨j, hj, rfl⟩ := nI_of h0
          have h3 : ¬ (2 : Int32) < nI j := fun q => h2 (Or.inr q)
          rw [n_2, q_lt (by omega) hj] at h3
          rw [q_cl hj]; omega
        have hn := hA.1
        rw [q_cl (by omega), q_cl (by omega)]
        obtain ⟨c1, c2, c3, c4, c5, c6, c7, c8, c9, c10⟩ := hA
        refine ⟨c1, fun j hj => ?_, fun j hj => ?_, fun j j1 j2 => ?_, fun j hj hz => ?_, fun j j1 j2 => ?_, ?_, fun j j1 j2 => ?_, fun j hj => ?_, fun j j1 j2 => ?_⟩
        · rw [af_o (by decide), af_o (by decide), af_o (by decide), af_s, af_s, af_o (by decide)]
          obtain ⟨d1, d2, d3⟩ := c2 j hj
          refine ⟨d1, ?_, ?_⟩
          · split <;> omega
          · split <;> omega
        · rw [af_o (by decide), af_o (by decide), af_o (by decide), af_o (by decide), af_o (by decide), af_o (by decide), af_o (by decide), af_o (by decide)]; exact c3 j hj
        · rw [af_o (by decide), af_o (by decide)]; exact c4 j j1 j2
        · rw [af_o (by decide), af_o (by decide)] at hz; rw [af_o (by decide), af_o (by decide)]; exact c5 j hj hz
        · rw [af_o (by decide), af_o (by decide)]; exact c6 j j1 j2
        · rw [af_o (by decide), af_o (by decide)]; exact c7
        · have j1 : a.1 0 < j := j1
          rw [af_o (by decide), af_s, af_s, af_o (by decide), if_neg (by omega), if_neg (by omega)]; exact c8 j j1 j2
        · rw [af_o (by decide), af_o (by decide), af_o (by decide), af_o (by decide)]; exact c9 j hj
        · rw [af_o (by decide), af_o (by decide), af_o (by decide), af_o (by decide), af_o (by decide), af_o (by decide), af_o (by decide), af_o (by decide)]; exact c10 j j1 j2
  · exact hA
theorem AI_segment {a : ab_T} (hA : AI a) (k u : Int32) (y : Int64) : AI (g_segment a k u y) := by
  rw [g_segment]
  by_cases h : iK a k ∧ a_fit a k u ∧ ¬ a_dup a k u y ∧ a.1 1 < 250
  · rw [ci_t h]
    obtain ⟨h1, h2, h3, h4⟩ := h
    obtain ⟨k', k1, k2, rfl⟩ := iK_of hA h1
    have hn := hA.1
    obtain ⟨u', u1, rfl, u3⟩ := fit_of hA (k := k') (by omega) h2
    rw [q_cl (by omega), q_cl (by omega)]
    exact AI_right (AI_new hA h4 k1 k2 u1 u3)
  · rw [ci_f h]; exact hA
theorem AI_rel {a : ab_T} (hA : AI a) (i o : Int32) : AI (g_relate a i o) := by
  rw [g_relate]
  split
  · rename_i h
    rw [f_relate] at h
    split at h
    · exact absurd h (by decide)
    · rename_i h1
      have h1 := Classical.not_not.mp h1
      split at h
      · exact absurd h (by decide)
      · split at h
        · exact absurd h (by decide)
        · rename_i h3
          obtain ⟨i', i1, i2, rfl⟩ := iS_of hA h1.1
          obtain ⟨o', o1, o2, rfl⟩ := iS_of hA h1.2
          have hn := hA.1
          rw [q_cl (by omega)] at h3
          rw [q_cl (by omega), q_cl (by omega)]
          exact AI_right (AI_right (AI_relate hA i1 i2 (Classical.not_not.mp (fun q => h3 (Or.inl q))) o2))
  · exact hA
theorem AI_delete {a : ab_T} (hA : AI a) (x : Int32) : AI (g_delete a x) := by
  rw [g_delete]
  by_cases h : iS a x ∧ a.2.1 5 x.toNatClampNeg = 1 ∧ ¬ a_bar a (a_gB a x.toNatClampNeg)
  · rw [ci_t h]
    exact AI_del hA (fun j hj => ⟨(a_gB_t.mp hj).1, (a_gB_t.mp hj).2.1⟩)
  · rw [ci_f h]; exact hA
theorem b_1 (b : Int32) : (b &&& 1).toNatClampNeg ≤ 1 := by
  obtain ⟨j, hj, h⟩ := and1 b
  rw [h, q_cl (by omega)]; omega
theorem AI_index {a : ab_T} (hA : AI a) (k b : Int32) : AI (g_index a k b) := by
  rw [g_index]
  split
  · rename_i h
    obtain ⟨h1, h2⟩ := h
    obtain ⟨k', k1, k2, rfl⟩ := iK_of hA h1
    have hn := hA.1
    have hb := b_1 b
    rw [q_cl (by omega)]
    obtain ⟨c1, c2, c3, c4, c5, c6, c7, c8, c9, c10⟩ := hA
    refine ⟨⟨c1.1, c1.2.1, ?_⟩, fun j hj => ?_, fun j hj => ?_, fun j j1 j2 => ?_, fun j hj hz => ?_, fun j j1 j2 => ?_, ?_, fun j j1 j2 => ?_, fun j hj => ?_, fun j j1 j2 => ?_⟩
    · show (if 2 = 2 then a.1 2 + 1 else a.1 2) ≤ 10
      rw [if_pos rfl]; omega
    · rw [af_o (by decide), af_o (by decide), af_o (by decide), af_o (by decide), af_o (by decide), af_o (by decide), an_2]; exact c2 j hj
    · rw [af_o (by decide), af_o (by decide), af_o (by decide), af_o (by decide), af_o (by decide), af_o (by decide), af_o (by decide), af_o (by decide), an_2]; exact c3 j hj
    · rw [af_o (by decide), af_o (by decide), an_2]; exact c4 j j1 j2
    · rw [af_o (by decide), af_o (by decide), an_2] at hz; rw [af_o (by decide), af_o (by decide), an_2]; exact c5 j hj hz
    · rw [af_o (by decide), af_o (by decide), an_2]; exact c6 j j1 j2
    · rw [af_o (by decide), af_o (by decide), an_2]; exact c7
    · rw [af_o (by decide), af_o (by decide), af_o (by decide), af_o (by decide), an_2]; exact c8 j j1 j2
    · rw [af_o (by decide), af_s, af_s, af_o (by decide), an_2]
      obtain ⟨d1, d2⟩ := c9 j hj
      refine ⟨?_, ?_⟩
      · split <;> omega
      · split <;> omega
    · rw [af_o (by decide), af_o (by decide), af_o (by decide), af_o (by decide), af_o (by decide), af_o (by decide), af_o (by decide), af_o (by decide), an_2]; exact c10 j j1 j2
  · exact hA
theorem AI_poke {a : ab_T} (hA : AI a) (i p t : Int32) : AI (g_poke a i p t) := by
  rw [g_poke]
  split
  · exact hA
  · exact hA
def a0 : ab_T := (fun _ => 0, fun _ _ => 0, fun _ => 0, fun _ => 0)
theorem AI_0 : AI a0 := by
  refine ⟨⟨Nat.zero_le _, Nat.zero_le _, Nat.zero_le _⟩, fun k _ => ⟨Nat.zero_le _, Nat.zero_le _, Nat.zero_le _⟩, fun i _ => ⟨Nat.zero_le _, Nat.zero_le _, Nat.zero_le _, Nat.zero_le _⟩, fun i h1 h2 => ?_, fun i _ h => absurd rfl h, fun _ _ _ => rfl, rfl, fun _ _ _ => ⟨rfl, rfl⟩, fun _ _ => ⟨Nat.zero_le _, Nat.zero_le _⟩, fun i h1 h2 => ?_⟩
  · have : i ≤ 0 := h2
    omega
  · have : i ≤ 0 := h2
    omega
theorem RC_0 : RC z0 a0 := by
  refine ⟨⟨rfl, rfl, rfl⟩, fun _ _ => ⟨rfl, rfl, rfl⟩, fun _ _ => ⟨rfl, rfl, rfl, rfl, rfl⟩, fun _ _ _ => rfl, fun i p h1 h2 => ?_, fun _ _ => ⟨rfl, rfl⟩, fun _ => 0, fun j h => ?_, fun i h1 h2 => ?_, fun i j _ h => ?_⟩
  · have : i ≤ 0 := h2
    omega
  · have : j < 0 := h
    omega
  · have : i ≤ 0 := h2
    omega
  · have : j < 0 := h
    omega
theorem RM_0 : RM z0 a0 := by
  refine ⟨⟨rfl, rfl, rfl⟩, fun _ _ => ⟨rfl, rfl, rfl⟩, fun _ _ => ⟨rfl, rfl, rfl, rfl⟩, fun i h1 h2 => ?_, fun i p h1 h2 => ?_, fun _ _ => ⟨rfl, rfl⟩⟩
  · have : i ≤ 0 := h2
    omega
  · have : i ≤ 0 := h2
    omega
