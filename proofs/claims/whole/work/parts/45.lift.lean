/-! a contract over a part of a larger world -/
def ak_shx (off : Nat) (x : ak_C) : ak_C := match x with
  | .inl (ci, fs) => .inl (ci, fs.map (fun o => o.map (fun q => off + q)))
  | .inr y => .inr y
def ak_shv (off : Nat) (v : Value) : Value := match v with
  | .ref k => .ref (off + k)
  | w => w
def ak_dn (off : Nat) (s : ak_S) : ak_S := (fun k => s.1 (off + k), fun k => s.2 (off + k))
def ak_up (off n : Nat) (s t : ak_S) : ak_S := (fun k => if off ≤ k ∧ k < off + n then t.1 (k - off) else s.1 k, fun k => if off ≤ k ∧ k < off + n then t.2 (k - off) else s.2 k)
theorem ak_v_sh {ad : Nat → Nat} {off : Nat} (v : Value) : ak_v ad (ak_shv off v) = ak_v (fun k => ad (off + k)) v := by cases v <;> rfl
theorem ak_fs_sh {ad : Nat → Nat} {off : Nat} {g : Nat → Int32} : ∀ (fs : List (Option Nat)) (f : Nat), ak_fs ad g f (fs.map (fun o => o.map (fun q => off + q))) = ak_fs (fun k => ad (off + k)) g f fs
  | [], _ => rfl
  | none :: r, f => by
    show Value.int (g f) :: ak_fs ad g (f + 1) (r.map (fun o => o.map (fun q => off + q))) = Value.int (g f) :: ak_fs (fun k => ad (off + k)) g (f + 1) r
    rw [ak_fs_sh r (f + 1)]
  | some q :: r, f => by
    show Value.ref (ad (off + q)) :: ak_fs ad g (f + 1) (r.map (fun o => o.map (fun q => off + q))) = Value.ref (ad (off + q)) :: ak_fs (fun k => ad (off + k)) g (f + 1) r
    rw [ak_fs_sh r (f + 1)]
theorem ak_e_sh {ad : Nat → Nat} {tyc : Nat → ClassId} {s : ak_S} {off k : Nat} (x : ak_C) : ak_e ad tyc s (off + k) (ak_shx off x) = ak_e (fun k => ad (off + k)) (fun k => tyc (off + k)) (ak_dn off s) k x := by
  obtain ⟨ci, fs⟩ | ⟨ty, n⟩ := x
  · show (Sum.inr (ci, ak_fs ad (s.1 (off + k)) 0 (fs.map (fun o => o.map (fun q => off + q)))) : va_E) = Sum.inr (ci, ak_fs (fun k => ad (off + k)) (s.1 (off + k)) 0 fs)
    rw [ak_fs_sh]
  · cases ty <;> rfl
theorem ak_e_cong {ad : Nat → Nat} {tyc : Nat → ClassId} {s t : ak_S} {k : Nat} (h1 : s.1 k = t.1 k) (h2 : s.2 k = t.2 k) (x : ak_C) : ak_e ad tyc s k x = ak_e ad tyc t k x := by
  obtain ⟨ci, fs⟩ | ⟨ty, n⟩ := x
  · simp only [ak_e, h1]
  · cases ty <;> simp only [ak_e, h1, h2]
theorem ak_nth_some {α : Type} : ∀ {l : List α} {k : Nat}, k < l.length → ∃ x, ak_nth l k = some x
  | [], _, h => by simp at h
  | a :: _, 0, _ => ⟨a, rfl⟩
  | _ :: l, k + 1, h => ak_nth_some (l := l) (k := k) (by simpa using h)
def ak_lift (off n : Nat) (pt : ak_P) : ak_P := fun vs s Qp => ∃ vs0 : List Value, vs = vs0.map (ak_shv off) ∧ pt vs0 (ak_dn off s) (fun r t => Qp (r.map (ak_shv off)) (ak_up off n s t))
set_option maxHeartbeats 1000000 in
theorem ak_lifts {l : Launch} {cl : List vw_C} {lay lay' : List ak_C} {off : Nat} {y : MethodName} {ws : List Cond} {rm : Room} {pt : ak_P} (hC : ak_Ctr l cl lay y ws rm pt) (hsub : ∀ k x, ak_nth lay k = some x → ak_nth lay' (off + k) = some (ak_shx off x)) : ak_Ctr l cl lay' y ws rm (ak_lift off lay.length pt) := by
  intro D ad tyc sz vs s Qp hinj hpt
  obtain ⟨vs0, rfl, hpt⟩ := hpt
  have hlt : ∀ k, k < lay.length → off + k < lay'.length := fun k hk => by
    obtain ⟨x, hx⟩ := ak_nth_some hk
    exact ak_nth_lt (hsub k x hx)
  have hinj1 : ak_Inj lay (fun k => ad (off + k)) := fun i j hi hj h => by
    have := hinj (off + i) (off + j) (hlt i hi) (hlt j hj) h
    omega
  have hM := hC D (fun k => ad (off + k)) (fun k => tyc (off + k)) sz vs0 (ak_dn off s) _ hinj1 hpt
  have hav : (vs0.map (ak_shv off)).map (ak_v ad) = vs0.map (ak_v (fun k => ad (off + k))) := by
    rw [List.map_map]
    congr 1
    funext v
    exact ak_v_sh v
  intro p e ha hc hk st m args below hf happ hP hT
  obtain ⟨hargs, hsz, hP, hK⟩ := hP
  have hP1 : va_P D cl (ak_W (fun k => ad (off + k)) (fun k => tyc (off + k)) (ak_dn off s) 0 lay) st.heap := by
    intro k q hq
    rw [ak_W_at, Nat.zero_add] at hq
    cases hx : ak_nth lay k with
    | none => rw [hx] at hq; cases hq
    | some x =>
      rw [hx] at hq
      have hq : (ad (off + k), ak_e (fun k => ad (off + k)) (fun k => tyc (off + k)) (ak_dn off s) k x) = q := Option.some.inj hq
      rw [← hq, ← ak_e_sh]
      exact hP (off + k) _ (ak_W_at0 (hsub k x hx))
  have hK1 : ak_K D cl lay (fun k => tyc (off + k)) st := ⟨hK.1, fun k ty n hk => hK.2 (off + k) ty n (hsub k _ hk)⟩
  obtain ⟨n, o, h1, h2, h3, ⟨⟨r, s', ho, hq, hP', hK'⟩, hF⟩, L, hfe, hL⟩ := hM p e ha hc hk st m args below hf happ ⟨by rw [hargs, hav], hsz, hP1, hK1⟩ hT
  have hmono : ∀ q, ak_A lay (fun k => ad (off + k)) sz q → ak_A lay' ad sz q := fun q h => by
    rcases h with ⟨k, hk, rfl⟩ | h
    · exact Or.inl ⟨off + k, hlt k hk, rfl⟩
    · exact Or.inr h
  refine ⟨n, o, h1, h2, h3, ⟨⟨r.map (ak_shv off), ak_up off lay.length s s', ?_, hq, ?_, hK.moved hfe.2.1.alike⟩, hF.1, fun q q1 q2 => hF.2 q q1 (fun z => q2 (hmono q z))⟩, L, hfe, fun q hq => hmono _ (hL q hq)⟩
  · rw [ho, Option.map_map]
    congr 2
    funext v
    exact (ak_v_sh v).symm
  · intro j q hq
    rw [ak_W_at, Nat.zero_add] at hq
    cases hx : ak_nth lay' j with
    | none => rw [hx] at hq; cases hq
    | some x' =>
      rw [hx] at hq
      have hq : (ad j, ak_e ad tyc (ak_up off lay.length s s') j x') = q := Option.some.inj hq
      rw [← hq]
      by_cases hj : off ≤ j ∧ j < off + lay.length
      · obtain ⟨k, rfl⟩ : ∃ k, j = off + k := ⟨j - off, by omega⟩
        obtain ⟨x, hxk⟩ := ak_nth_some (l := lay) (k := k) (by omega)
        have hx2 := hsub k x hxk
        rw [hx] at hx2
        have hx2 := Option.some.inj hx2
        subst hx2
        rw [ak_e_sh, ak_e_cong (t := s') (by show (if off ≤ off + k ∧ off + k < off + lay.length then s'.1 (off + k - off) else s.1 (off + k)) = _; rw [if_pos hj, Nat.add_sub_cancel_left]) (by show (if off ≤ off + k ∧ off + k < off + lay.length then s'.2 (off + k - off) else s.2 (off + k)) = _; rw [if_pos hj, Nat.add_sub_cancel_left])]
        exact hP' k _ (ak_W_at0 hxk)
      · rw [ak_e_cong (t := s) (by show (if off ≤ j ∧ j < off + lay.length then s'.1 (j - off) else s.1 j) = _; rw [if_neg hj]) (by show (if off ≤ j ∧ j < off + lay.length then s'.2 (j - off) else s.2 j) = _; rw [if_neg hj])]
        have h0 := hP j _ (ak_W_at0 hx)
        refine h0.kept (hF.2 (ad j) h0.lt (fun z => ?_))
        rcases z with ⟨k, hk, hz⟩ | z
        · have := hinj j (off + k) (ak_nth_lt hx) (hlt k hk) hz
          omega
        · have := h0.lt
          have h9 : ad j < st.heap.size := h0.lt
          omega
