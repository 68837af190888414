/-! a formula that holds gives the machine's run -/
theorem ak_e_p1 {ad : Nat → Nat} {tyc : Nat → ClassId} {s : ak_S} {k i j : Nat} {x : Int32} (y : ak_C) (h : j ≠ k) : ak_e ad tyc (ak_p1 s k i x) j y = ak_e ad tyc s j y := by
  obtain ⟨ci, fs⟩ | ⟨ty, n⟩ := y
  · simp [ak_e, ak_p1, h]
  · cases ty <;> simp [ak_e, ak_p1, h]
theorem ak_e_p2 {ad : Nat → Nat} {tyc : Nat → ClassId} {s : ak_S} {k i j : Nat} {x : Int64} (y : ak_C) (h : j ≠ k) : ak_e ad tyc (ak_p2 s k i x) j y = ak_e ad tyc s j y := by
  obtain ⟨ci, fs⟩ | ⟨ty, n⟩ := y
  · simp [ak_e, ak_p2]
  · cases ty <;> simp [ak_e, ak_p2, h]
theorem ak_mem {α : Type} {l : List α} {k : Nat} {x : α} (h : ak_nth l k = some x) : x ∈ l := List.mem_of_getElem? (by rw [← ak_nth_get]; exact h)
theorem ak_sw_spec {x : Int32} {K : Nat → Prop} {d pc : Nat} : ∀ (ts : List (Int32 × Nat)) (lo : Int) (offs : List Int), ak_swok pc lo offs ts = true → ak_sw x K d ts →
    (∃ (j : Nat) (off : Int) (t : Nat), offs[j]? = some off ∧ (pc : Int) + off = (t : Int) ∧ x.toInt = lo + j ∧ K t) ∨ ((∀ j : Nat, j < offs.length → x.toInt ≠ lo + j) ∧ K d)
  | [], lo, [], _, h => Or.inr ⟨fun j hj => by simp at hj, h⟩
  | [], lo, o :: os, hk, _ => by simp [ak_swok] at hk
  | (k, t) :: r, lo, [], hk, _ => by simp [ak_swok] at hk
  | (k, t) :: r, lo, o :: os, hk, h => by
    simp only [ak_swok, Bool.and_eq_true, decide_eq_true_eq] at hk
    obtain ⟨⟨h1, h2⟩, h3⟩ := hk
    by_cases hx : x = k
    · exact Or.inl ⟨0, o, t, rfl, h2, by rw [hx, h1]; simp, h.1 hx⟩
    · rcases ak_sw_spec r (lo + 1) os h3 (h.2 hx) with ⟨j, off, t', q1, q2, q3, q4⟩ | ⟨q1, q2⟩
      · exact Or.inl ⟨j + 1, off, t', by simpa using q1, q2, by rw [q3]; push_cast; omega, q4⟩
      · refine Or.inr ⟨fun j hj => ?_, q2⟩
        cases j with
        | zero => exact fun e => hx (Int32.toInt_inj.mp (by rw [h1, e]; simp))
        | succ j =>
          have := q1 j (by simpa using hj)
          intro e
          exact this (by rw [e]; push_cast; omega)
def ak_J (p : Program) (l : Launch) (e : Env) (R : Room) (s0 : State) (m : MethodId) (args : Array Value) (below : List Frame) (meth : Method) (c : Code) (cells slots : Nat) (Q : State → Prop) (D : va_G) (cl : List vw_C) (lay : List ak_C) (ad : Nat → Nat) (tyc : Nat → ClassId) (A : Nat → Prop) (H0 : Heap) (nL : Nat) : ak_KK := fun pc ls st s =>
  ∀ (H : Heap) (locs : List Loc) (lsA : Array Slot), va_P D cl (ak_W ad tyc s 0 lay) H → va_S A H0 H locs → ak_LH ad lsA nL ls → W p l e R s0 m args below meth c H locs cells slots Q (F0 m pc lsA (st.map (ak_v ad)))
/-- what holds of the classes' tables -/
def ak_CL (cl : List vw_C) (Ts : List Cond) : Prop := ∀ q ∈ cl, (∃ ty : Nat → FieldType, ∀ k, k < q.2.2 → parseFieldDescriptor (q.2.1 k).2.2.1 = some (ty k)) ∧ (∀ a, a < q.2.2 → ∀ b, b < q.2.2 → a ≠ b → (q.2.1 a).2.1 ≠ (q.2.1 b).2.1) ∧ ∀ w ∈ u_ws q.1 q.2.1 q.2.2, w ∈ Ts
def ak_G (p : Program) (s0 : State) (m : MethodId) (args : Array Value) (c : Code) (cc : ByteArray) (Ts : List Cond) (own : String) (D : va_G) (cl : List vw_C) (lay : List ak_C) (ad : Nat → Nat) (tyc : Nat → ClassId) (A : Nat → Prop) : Prop :=
  p.tables.exec = Jvm.exec ∧ c.code = cc ∧ (∀ w ∈ Ts, w.before args s0 = true) ∧ s0.vm.findClass own = some m.cls ∧ ak_K D cl lay tyc s0 ∧ ak_Inj lay ad ∧ (∀ k, k < lay.length → A (ad k)) ∧ ak_CL cl Ts
set_option maxHeartbeats 4000000 in
set_option maxRecDepth 100000 in
theorem ak_st_sound {p : Program} {l : Launch} {e : Env} {R : Room} {s0 : State} {m : MethodId} {args : Array Value} {below : List Frame} {meth : Method} {c : Code} {cells slots : Nat} {Q : State → Prop} {D : va_G} {cl : List vw_C} {lay : List ak_C} {ad : Nat → Nat} {tyc : Nat → ClassId} {A : Nat → Prop} {H0 : Heap} {nL : Nat} {cc : ByteArray} {Ts : List Cond} {own : String} {rty : Option FieldType} {reg : List (Nat × Nat × Nat)} {cs : Nat → ak_P} {rt : Option Value → ak_S → Prop} {Kc J : ak_KK}
    (AJ : ak_KK) (hAJ : AJ = ak_J p l e R s0 m args below meth c cells slots Q D cl lay ad tyc A H0 nL) (g : ak_G p s0 m args c cc Ts own D cl lay ad tyc A)
    (hKc : ∀ pc ls st s, Kc pc ls st s → AJ pc ls st s) (hJ : ∀ pc ls st s, J pc ls st s → AJ pc ls st s)
    (hri : ∀ pc ls x s, decode cc pc = .ok (.ireturn, 1) → (rty = some .int ∨ (rty = some .boolean ∧ (x = 0 ∨ x = 1))) → rt (some (.int x)) s → AJ pc ls [.int x] s)
    (hrv : ∀ pc ls s, decode cc pc = .ok (.return_, 1) → rty = none → rt none s → AJ pc ls [] s)
    (hcv : ∀ a n b ci, ak_nth reg a = some (n, b, ci) → ∀ pc ls (vs rest : List Value) s Qp, decode cc pc = .ok (.invokevirtual n, 3) → vs.length = b + 1 → ak_rc lay vs ci → (rest.map fun v => v.category).sum ≤ 8 → cs a vs s Qp → (∀ r s', Qp r s' → AJ (pc + 3) ls (r.toList ++ rest) s') → AJ pc ls (vs.reverse ++ rest) s)
    (hct : ∀ a n b, ak_nth reg a = some (n, b, 1000) → ∀ pc ls (vs rest : List Value) s Qp, decode cc pc = .ok (.invokestatic n, 3) → vs.length = b → (rest.map fun v => v.category).sum ≤ 8 → cs a vs s Qp → (∀ r s', Qp r s' → AJ (pc + 3) ls (r.toList ++ rest) s') → AJ pc ls (vs.reverse ++ rest) s)
    {go : ak_Ls → List Value → ak_S → Prop} {x : ak_I} (hok : ak_ok cc Ts own cl nL rty reg x = true) (hgo : ∀ ls st s, go ls st s → AJ (x.1 + ak_len x.2.1) ls st s) {ls : ak_Ls} {st : List Value} {s : ak_S} (h : ak_st lay cs rt Kc J go x ls st s) : AJ x.1 ls st s := by
  subst hAJ
  obtain ⟨hx, hb, hts, hown, hK, hinj, hAd, hCL⟩ := g
  obtain ⟨pc, i, a, b, v, ts⟩ := x
  have hD : ∀ s : ak_S, va_D A (ak_W ad tyc s 0 lay) := fun s => ak_D hinj hAd
  have hjp : ∀ {b a : Nat} {ls : ak_Ls} {st : List Value} {s : ak_S}, ak_jp Kc J b a ls st s → ak_J p l e R s0 m args below meth c cells slots Q D cl lay ad tyc A H0 nL a ls st s := by
    intro b a ls st s h
    cases b with
    | zero => exact hKc _ _ _ _ h
    | succ b => exact hJ _ _ _ _ h
  dsimp only at hgo ⊢
  cases i
  case nop => exact hJ _ _ _ _ h
  case iconst n =>
    simp only [ak_ok, ak_dec, Bool.and_eq_true, decide_eq_true_eq] at hok
    simp only [ak_st] at h
    intro H locs lsA hP hS hl
    exact lv_iconst hx hb hok.1 hok.2 (hgo _ _ _ h H locs lsA hP hS hl)
  case bipush n =>
    simp only [ak_ok, ak_dec, Bool.and_eq_true, decide_eq_true_eq] at hok
    simp only [ak_st] at h
    intro H locs lsA hP hS hl
    exact lv_bipush hx hb hok.1 hok.2 (hgo _ _ _ h H locs lsA hP hS hl)
  case sipush n =>
    simp only [ak_ok, ak_dec, Bool.and_eq_true, decide_eq_true_eq] at hok
    simp only [ak_st] at h
    intro H locs lsA hP hS hl
    exact lv_sipush hx hb hok.1 hok.2 (hgo _ _ _ h H locs lsA hP hS hl)
  case lconst n =>
    simp only [ak_ok, ak_dec, Bool.and_eq_true, decide_eq_true_eq] at hok
    simp only [ak_st] at h
    intro H locs lsA hP hS hl
    exact lv_lconst hx hb hok.1 hok.2 (hgo _ _ _ h H locs lsA hP hS hl)
  case iload n =>
    simp only [ak_ok, ak_dec, Bool.and_eq_true, decide_eq_true_eq] at hok
    simp only [ak_st] at h
    split at h
    · rename_i x heq
      intro H locs lsA hP hS hl
      obtain ⟨hd, rfl⟩ := hok
      exact lv_iload hx hb hd (hl.2.2 _ _ heq) (hgo _ _ _ h H locs lsA hP hS hl)
    · exact h.elim
  case iload_n n =>
    simp only [ak_ok, ak_dec, Bool.and_eq_true, decide_eq_true_eq] at hok
    simp only [ak_st] at h
    split at h
    · rename_i x heq
      intro H locs lsA hP hS hl
      exact lv_iload_n hx hb hok.1 hok.2 (hl.2.2 _ _ heq) (hgo _ _ _ h H locs lsA hP hS hl)
    · exact h.elim
  case lload n =>
    simp only [ak_ok, ak_dec, Bool.and_eq_true, decide_eq_true_eq] at hok
    simp only [ak_st] at h
    split at h
    · rename_i x heq
      intro H locs lsA hP hS hl
      obtain ⟨hd, rfl⟩ := hok
      exact lv_lload hx hb hd (hl.2.2 _ _ heq) (hgo _ _ _ h H locs lsA hP hS hl)
    · exact h.elim
  case lload_n n =>
    simp only [ak_ok, ak_dec, Bool.and_eq_true, decide_eq_true_eq] at hok
    simp only [ak_st] at h
    split at h
    · rename_i x heq
      intro H locs lsA hP hS hl
      exact lv_lload_n hx hb hok.1 hok.2 (hl.2.2 _ _ heq) (hgo _ _ _ h H locs lsA hP hS hl)
    · exact h.elim
  case aload n =>
    simp only [ak_ok, ak_dec, Bool.and_eq_true, decide_eq_true_eq] at hok
    simp only [ak_st] at h
    split at h
    · rename_i x heq
      intro H locs lsA hP hS hl
      obtain ⟨hd, rfl⟩ := hok
      exact lv_aload hx hb hd (hl.2.2 _ _ heq) (hgo _ _ _ h H locs lsA hP hS hl)
    · exact h.elim
  case aload_n n =>
    simp only [ak_ok, ak_dec, Bool.and_eq_true, decide_eq_true_eq] at hok
    simp only [ak_st] at h
    split at h
    · rename_i x heq
      intro H locs lsA hP hS hl
      exact lv_aload_n hx hb hok.1 hok.2 (hl.2.2 _ _ heq) (hgo _ _ _ h H locs lsA hP hS hl)
    · exact h.elim
  case istore n =>
    simp only [ak_ok, ak_dec, Bool.and_eq_true, decide_eq_true_eq] at hok
    simp only [ak_st] at h
    split at h
    · rename_i x r
      intro H locs lsA hP hS hl
      obtain ⟨⟨hd, rfl⟩, hn⟩ := hok
      exact lv_istore hx hb hd hl.has hn rfl (fun ls' h' => hgo _ _ _ h.2 H locs ls' hP hS (ak_LH.of1 (u := .int x) h.1 h'))
    · exact h.elim
  case istore_n n =>
    simp only [ak_ok, ak_dec, Bool.and_eq_true, decide_eq_true_eq] at hok
    simp only [ak_st] at h
    split at h
    · rename_i x r
      intro H locs lsA hP hS hl
      obtain ⟨⟨hd, hi⟩, hn⟩ := hok
      exact lv_istore_n hx hb hd hi hl.has hn rfl (fun ls' h' => hgo _ _ _ h.2 H locs ls' hP hS (ak_LH.of1 (u := .int x) h.1 h'))
    · exact h.elim
  case astore n =>
    simp only [ak_ok, ak_dec, Bool.and_eq_true, decide_eq_true_eq] at hok
    simp only [ak_st] at h
    split at h
    · rename_i x r
      intro H locs lsA hP hS hl
      obtain ⟨⟨hd, rfl⟩, hn⟩ := hok
      exact lv_astore hx hb hd hl.has hn rfl (fun ls' h' => hgo _ _ _ h.2 H locs ls' hP hS (ak_LH.of1 (u := .ref x) h.1 h'))
    · exact h.elim
  case astore_n n =>
    simp only [ak_ok, ak_dec, Bool.and_eq_true, decide_eq_true_eq] at hok
    simp only [ak_st] at h
    split at h
    · rename_i x r
      intro H locs lsA hP hS hl
      obtain ⟨⟨hd, hi⟩, hn⟩ := hok
      exact lv_astore_n hx hb hd hi hl.has hn rfl (fun ls' h' => hgo _ _ _ h.2 H locs ls' hP hS (ak_LH.of1 (u := .ref x) h.1 h'))
    · exact h.elim
  case lstore n =>
    simp only [ak_ok, ak_dec, Bool.and_eq_true, decide_eq_true_eq] at hok
    simp only [ak_st] at h
    split at h
    · rename_i x r
      intro H locs lsA hP hS hl
      obtain ⟨⟨hd, rfl⟩, hn⟩ := hok
      exact lv_lstore hx hb hd hl.has hn rfl (fun ls' h' => hgo _ _ _ h.2 H locs ls' hP hS (ak_LH.of2 (u := .long x) h.1 h'))
    · exact h.elim
  case lstore_n n =>
    simp only [ak_ok, ak_dec, Bool.and_eq_true, decide_eq_true_eq] at hok
    simp only [ak_st] at h
    split at h
    · rename_i x r
      intro H locs lsA hP hS hl
      obtain ⟨⟨hd, hi⟩, hn⟩ := hok
      exact lv_lstore_n hx hb hd hi hl.has hn rfl (fun ls' h' => hgo _ _ _ h.2 H locs ls' hP hS (ak_LH.of2 (u := .long x) h.1 h'))
    · exact h.elim
  case iinc n k0 =>
    simp only [ak_ok, ak_dec, Bool.and_eq_true, decide_eq_true_eq] at hok
    simp only [ak_st] at h
    split at h
    · rename_i x heq
      intro H locs lsA hP hS hl
      obtain ⟨⟨⟨hd, rfl⟩, hv⟩, hn⟩ := hok
      have hm := ak_ps_of (ad := ad) ls 0 _ _ heq
      rw [Nat.zero_add] at hm
      obtain ⟨k, hk⟩ := List.mem_iff_getElem?.mp hm
      exact lv_iinc hx hb hd hl.has hk (by rw [hv]) hn rfl (fun ls' h' => hgo _ _ _ h.2 H locs ls' hP hS (ak_LH.of1 (u := .int (x + v)) h.1 h'))
    · exact h.elim
  case iadd =>
    simp only [ak_ok, ak_dec, Bool.and_eq_true, decide_eq_true_eq] at hok
    simp only [ak_st] at h
    split at h
    · intro H locs lsA hP hS hl
      exact lv_iadd hx hb hok (hgo _ _ _ h H locs lsA hP hS hl)
    · exact h.elim
  case isub =>
    simp only [ak_ok, ak_dec, Bool.and_eq_true, decide_eq_true_eq] at hok
    simp only [ak_st] at h
    split at h
    · intro H locs lsA hP hS hl
      exact lv_isub hx hb hok (hgo _ _ _ h H locs lsA hP hS hl)
    · exact h.elim
  case imul =>
    simp only [ak_ok, ak_dec, Bool.and_eq_true, decide_eq_true_eq] at hok
    simp only [ak_st] at h
    split at h
    · intro H locs lsA hP hS hl
      exact lv_imul hx hb hok (hgo _ _ _ h H locs lsA hP hS hl)
    · exact h.elim
  case iand =>
    simp only [ak_ok, ak_dec, Bool.and_eq_true, decide_eq_true_eq] at hok
    simp only [ak_st] at h
    split at h
    · intro H locs lsA hP hS hl
      exact lv_iand hx hb hok (hgo _ _ _ h H locs lsA hP hS hl)
    · exact h.elim
  case lcmp =>
    simp only [ak_ok, ak_dec, Bool.and_eq_true, decide_eq_true_eq] at hok
    simp only [ak_st] at h
    split at h
    · intro H locs lsA hP hS hl
      exact W.lcmp hx hb hok (hgo _ _ _ h H locs lsA hP hS hl)
    · exact h.elim
  case dup =>
    simp only [ak_ok, ak_dec, Bool.and_eq_true, decide_eq_true_eq] at hok
    simp only [ak_st] at h
    split at h
    · intro H locs lsA hP hS hl
      exact lv_dup hx hb hok rfl (hgo _ _ _ h H locs lsA hP hS hl)
    · intro H locs lsA hP hS hl
      exact lv_dup hx hb hok rfl (hgo _ _ _ h H locs lsA hP hS hl)
    · exact h.elim
  case pop =>
    simp only [ak_ok, ak_dec, Bool.and_eq_true, decide_eq_true_eq] at hok
    simp only [ak_st] at h
    split at h
    · rename_i x r
      intro H locs lsA hP hS hl
      exact lv_pop (va := .int x) hx hb hok rfl (hgo _ _ _ h H locs lsA hP hS hl)
    · rename_i x r
      intro H locs lsA hP hS hl
      exact lv_pop (va := .ref (ad x)) hx hb hok rfl (hgo _ _ _ h H locs lsA hP hS hl)
    · exact h.elim
  case dup_x1 =>
    simp only [ak_ok, ak_dec, Bool.and_eq_true, decide_eq_true_eq] at hok
    simp only [ak_st] at h
    split at h
    · intro H locs lsA hP hS hl
      exact lv_dup_x1 hx hb hok rfl rfl (hgo _ _ _ h H locs lsA hP hS hl)
    · intro H locs lsA hP hS hl
      exact lv_dup_x1 hx hb hok rfl rfl (hgo _ _ _ h H locs lsA hP hS hl)
    · exact h.elim
  case dup_x2 =>
    simp only [ak_ok, ak_dec, Bool.and_eq_true, decide_eq_true_eq] at hok
    simp only [ak_st] at h
    split at h
    · intro H locs lsA hP hS hl
      exact lv_dup_x2 hx hb hok rfl rfl rfl (hgo _ _ _ h H locs lsA hP hS hl)
    · exact h.elim
  case dup2 =>
    simp only [ak_ok, ak_dec, Bool.and_eq_true, decide_eq_true_eq] at hok
    simp only [ak_st] at h
    split at h
    · intro H locs lsA hP hS hl
      exact lv_dup2_11 hx hb hok rfl rfl (hgo _ _ _ h H locs lsA hP hS hl)
    · intro H locs lsA hP hS hl
      exact lv_dup2_11 hx hb hok rfl rfl (hgo _ _ _ h H locs lsA hP hS hl)
    · exact h.elim
  case getfield n =>
    simp only [ak_ok, ak_dec, Bool.and_eq_true, decide_eq_true_eq] at hok
    obtain ⟨hd, hok⟩ := hok
    simp only [ak_st] at h
    split at hok
    · rename_i C T N z w hc
      simp only [Bool.and_eq_true, decide_eq_true_eq] at hok
      obtain ⟨hbN, hlk⟩ := hok
      split at h
      · rename_i k r
        split at h
        · rename_i ci fs hlay
          obtain ⟨rfl, h⟩ := h
          have hin := (hCL _ (List.mem_of_getElem? hc)).2.2
          have he := ak_W_at0 (ad := ad) (tyc := tyc) (s := s) hlay
          split at h
          · rename_i q hf
            intro H locs lsA hP hS hl
            exact va_get hx hb hts hin hown hK.1 hP k he hc b hbN (hts _ (ak_mem hlk)) (fun _ h9 => h9) (by rw [ak_fs_at, hf]; rfl) hd (hgo _ _ _ h H locs lsA hP hS hl)
          · rename_i hf
            intro H locs lsA hP hS hl
            exact va_get (v := .int (s.1 k b)) hx hb hts hin hown hK.1 hP k he hc b hbN (hts _ (ak_mem hlk)) (fun _ h9 => h9) (by rw [ak_fs_at, hf, Nat.zero_add]; rfl) hd (hgo _ _ _ h H locs lsA hP hS hl)
          · exact h.elim
        · exact h.elim
      · exact h.elim
    · cases hok
  case putfield n =>
    simp only [ak_ok, ak_dec, Bool.and_eq_true, decide_eq_true_eq] at hok
    obtain ⟨hd, hok⟩ := hok
    simp only [ak_st] at h
    split at hok
    · rename_i C T N z w hc
      simp only [Bool.and_eq_true, decide_eq_true_eq] at hok
      obtain ⟨⟨⟨hbN, hfin⟩, hty⟩, hlk⟩ := hok
      split at h
      · rename_i x k r
        split at h
        · rename_i ci fs hlay
          obtain ⟨rfl, h⟩ := h
          obtain ⟨⟨ty0, hty0⟩, hnm, hin⟩ := hCL _ (List.mem_of_getElem? hc)
          have he := ak_W_at0 (ad := ad) (tyc := tyc) (s := s) hlay
          split at h
          · rename_i hf
            intro H locs lsA hP hS hl
            refine va_put (ty := .int) (v := .int x) hx hb hts hin ty0 hty0 hnm hown hK.1 hP (hD s) hS k he hc b hbN (hts _ (ak_mem hlk)) (fun _ h9 => h9) hfin hty rfl rfl (by rw [ak_fs_len]; exact ak_nth_lt hf) hd (fun H1 locs1 hP1 _ hS1 => ?_)
            rw [ak_W_set (s' := ak_p1 s k b x) hlay (by rw [ak_fs_set hf]; simp [ak_e, ak_p1]) (fun j y hj => ak_e_p1 y hj)] at hP1
            exact hgo _ _ _ h H1 locs1 lsA hP1 hS1 hl
          · exact h.elim
        · exact h.elim
      · exact h.elim
    · cases hok
  case iaload =>
    simp only [ak_ok, ak_dec, decide_eq_true_eq] at hok
    simp only [ak_st] at h
    split at h
    · rename_i i k r
      split at h
      · rename_i n hlay
        intro H locs lsA hP hS hl
        exact va_iald hx hb (hK.one hlay) hP k 0 (ak_W_at0 hlay) rfl h.1 hok (hgo _ _ _ h.2 H locs lsA hP hS hl)
      · exact h.elim
    · exact h.elim
  case baload =>
    simp only [ak_ok, ak_dec, decide_eq_true_eq] at hok
    simp only [ak_st] at h
    split at h
    · rename_i i k r
      split at h
      · rename_i n hlay
        intro H locs lsA hP hS hl
        exact va_zald hx hb (hK.one hlay) hP k 0 (ak_W_at0 hlay) rfl h.1 hok (hgo _ _ _ h.2 H locs lsA hP hS hl)
      · exact h.elim
    · exact h.elim
  case laload =>
    simp only [ak_ok, ak_dec, decide_eq_true_eq] at hok
    simp only [ak_st] at h
    split at h
    · rename_i i k r
      split at h
      · rename_i n hlay
        intro H locs lsA hP hS hl
        exact va_lald hx hb (hK.one hlay) hP k 0 (ak_W_at0 hlay) rfl h.1 hok (hgo _ _ _ h.2 H locs lsA hP hS hl)
      · exact h.elim
    · exact h.elim
  case iastore =>
    simp only [ak_ok, ak_dec, decide_eq_true_eq] at hok
    simp only [ak_st] at h
    split at h
    · rename_i x i k r
      split at h
      · rename_i n hlay
        intro H locs lsA hP hS hl
        refine va_iast hx hb (hK.one hlay) hP (hD s) hS k 0 (ak_W_at0 hlay) rfl h.1 hok (fun H1 locs1 hP1 _ hS1 => ?_)
        rw [ak_W_set (s' := ak_p1 s k i.toNatClampNeg x) hlay (by simp [ak_e, ak_p1]) (fun j y hj => ak_e_p1 y hj)] at hP1
        exact hgo _ _ _ h.2 H1 locs1 lsA hP1 hS1 hl
      · exact h.elim
    · exact h.elim
  case bastore =>
    simp only [ak_ok, ak_dec, decide_eq_true_eq] at hok
    simp only [ak_st] at h
    split at h
    · rename_i x i k r
      split at h
      · rename_i n hlay
        intro H locs lsA hP hS hl
        refine va_zast hx hb (hK.one hlay) hP (hD s) hS k 0 (ak_W_at0 hlay) rfl h.1 hok (fun H1 locs1 hP1 _ hS1 => ?_)
        rw [ak_W_set (s' := ak_p1 s k i.toNatClampNeg (x &&& 1)) hlay (by simp [ak_e, ak_p1]; try rfl) (fun j y hj => ak_e_p1 y hj)] at hP1
        exact hgo _ _ _ h.2 H1 locs1 lsA hP1 hS1 hl
      · exact h.elim
    · exact h.elim
  case lastore =>
    simp only [ak_ok, ak_dec, decide_eq_true_eq] at hok
    simp only [ak_st] at h
    split at h
    · rename_i x i k r
      split at h
      · rename_i n hlay
        intro H locs lsA hP hS hl
        refine va_last hx hb (hK.one hlay) hP (hD s) hS k 0 (ak_W_at0 hlay) rfl h.1 hok (fun H1 locs1 hP1 _ hS1 => ?_)
        rw [ak_W_set (s' := ak_p2 s k i.toNatClampNeg x) hlay (by simp [ak_e, ak_p2]) (fun j y hj => ak_e_p2 y hj)] at hP1
        exact hgo _ _ _ h.2 H1 locs1 lsA hP1 hS1 hl
      · exact h.elim
    · exact h.elim
  case arraylength =>
    simp only [ak_ok, ak_dec, decide_eq_true_eq] at hok
    simp only [ak_st] at h
    split at h
    · rename_i k r
      split at h
      · rename_i ty n hlay
        intro H locs lsA hP hS hl
        have hz : ∃ z : vp_A, ak_e ad tyc s k (.inr (ty, n)) = .inl (tyc k, z) ∧ z.1 = n := by cases ty <;> exact ⟨_, rfl, rfl⟩
        obtain ⟨z, hz1, hz2⟩ := hz
        have he := ak_W_at0 (ad := ad) (tyc := tyc) (s := s) hlay
        rw [hz1] at he
        exact va_alen hx hb (hK.one hlay) hP k 0 he rfl (by rw [hz2]; rfl) hok (hgo _ _ _ h H locs lsA hP hS hl)
      · exact h.elim
    · exact h.elim
  case ifCond c0 o =>
    simp only [ak_ok, ak_dec, Bool.and_eq_true, decide_eq_true_eq] at hok
    simp only [ak_st] at h
    obtain ⟨hd, ht⟩ := hok
    split at h
    · cases c0
      · intro H locs lsA hP hS hl
        exact lv_if_eq hx hb hd ht (fun q => hjp (h.1 q) H locs lsA hP hS hl) (fun q => hgo _ _ _ (h.2 q) H locs lsA hP hS hl)
      · intro H locs lsA hP hS hl
        exact lv_if_ne hx hb hd ht (fun q => hjp (h.1 q) H locs lsA hP hS hl) (fun q => hgo _ _ _ (h.2 q) H locs lsA hP hS hl)
      · intro H locs lsA hP hS hl
        exact lv_if_lt hx hb hd ht (fun q => hjp (h.1 q) H locs lsA hP hS hl) (fun q => hgo _ _ _ (h.2 q) H locs lsA hP hS hl)
      · intro H locs lsA hP hS hl
        exact lv_if_ge hx hb hd ht (fun q => hjp (h.1 q) H locs lsA hP hS hl) (fun q => hgo _ _ _ (h.2 q) H locs lsA hP hS hl)
      · intro H locs lsA hP hS hl
        exact lv_if_gt hx hb hd ht (fun q => hjp (h.1 q) H locs lsA hP hS hl) (fun q => hgo _ _ _ (h.2 q) H locs lsA hP hS hl)
      · intro H locs lsA hP hS hl
        exact lv_if_le hx hb hd ht (fun q => hjp (h.1 q) H locs lsA hP hS hl) (fun q => hgo _ _ _ (h.2 q) H locs lsA hP hS hl)
    · exact h.elim
  case if_icmp c0 o =>
    simp only [ak_ok, ak_dec, Bool.and_eq_true, decide_eq_true_eq] at hok
    simp only [ak_st] at h
    obtain ⟨hd, ht⟩ := hok
    split at h
    · cases c0
      · intro H locs lsA hP hS hl
        exact lv_icmp_eq hx hb hd ht (fun q => hjp (h.1 q) H locs lsA hP hS hl) (fun q => hgo _ _ _ (h.2 q) H locs lsA hP hS hl)
      · intro H locs lsA hP hS hl
        exact lv_icmp_ne hx hb hd ht (fun q => hjp (h.1 q) H locs lsA hP hS hl) (fun q => hgo _ _ _ (h.2 q) H locs lsA hP hS hl)
      · intro H locs lsA hP hS hl
        exact lv_icmp_lt hx hb hd ht (fun q => hjp (h.1 q) H locs lsA hP hS hl) (fun q => hgo _ _ _ (h.2 q) H locs lsA hP hS hl)
      · intro H locs lsA hP hS hl
        exact lv_icmp_ge hx hb hd ht (fun q => hjp (h.1 q) H locs lsA hP hS hl) (fun q => hgo _ _ _ (h.2 q) H locs lsA hP hS hl)
      · intro H locs lsA hP hS hl
        exact lv_icmp_gt hx hb hd ht (fun q => hjp (h.1 q) H locs lsA hP hS hl) (fun q => hgo _ _ _ (h.2 q) H locs lsA hP hS hl)
      · intro H locs lsA hP hS hl
        exact lv_icmp_le hx hb hd ht (fun q => hjp (h.1 q) H locs lsA hP hS hl) (fun q => hgo _ _ _ (h.2 q) H locs lsA hP hS hl)
    · exact h.elim
  case goto o =>
    simp only [ak_ok, ak_dec, Bool.and_eq_true, decide_eq_true_eq] at hok
    simp only [ak_st] at h
    intro H locs lsA hP hS hl
    exact lv_goto hx hb hok.1 hok.2 (hjp h H locs lsA hP hS hl)
  case tableswitch d lo hi offs =>
    simp only [ak_ok, Bool.and_eq_true, decide_eq_true_eq] at hok
    obtain ⟨⟨⟨hd, hdf⟩, hsz⟩, hsw⟩ := hok
    simp only [ak_st] at h
    split at hd
    · rename_i j len hdec
      simp only [decide_eq_true_eq] at hd
      subst hd
      split at h
      · rename_i x r
        intro H locs lsA hP hS hl
        rcases ak_sw_spec ts lo offs.toList hsw h with ⟨j, off, t, q1, q2, q3, q4⟩ | ⟨q1, q2⟩
        · have hj : j < offs.size := by
            have := (List.getElem?_eq_some_iff.mp q1).1
            simpa using this
          refine lv_tableIn hx hb hdec (by omega) (by omega) (off := off) ?_ q2 (hKc _ _ _ _ q4 H locs lsA hP hS hl)
          rw [show (x.toInt - lo).toNat = j by omega, ← Array.getElem?_toList]
          exact q1
        · refine lv_tableOut hx hb hdec ?_ hdf (hKc _ _ _ _ q2 H locs lsA hP hS hl)
          by_cases z1 : x.toInt < lo
          · exact Or.inl z1
          · by_cases z2 : hi < x.toInt
            · exact Or.inr z2
            · exact absurd (by omega) (q1 (x.toInt - lo).toNat (by simp; omega))
      · exact h.elim
    · cases hd
  case ireturn =>
    simp only [ak_ok, ak_dec, Bool.and_eq_true, decide_eq_true_eq] at hok
    simp only [ak_st] at h
    split at h
    · cases b with
      | zero =>
        simp only [decide_eq_true_eq] at hok
        exact hri _ _ _ _ hok.1 (Or.inl hok.2) h
      | succ b =>
        simp only [decide_eq_true_eq] at hok
        exact hri _ _ _ _ hok.1 (Or.inr ⟨hok.2, h.1⟩) h.2
    · exact h.elim
  case return_ =>
    simp only [ak_ok, ak_dec, Bool.and_eq_true, decide_eq_true_eq] at hok
    simp only [ak_st] at h
    split at h
    · exact hrv _ _ _ hok.1 hok.2 h
    · exact h.elim
  case invokevirtual n =>
    simp only [ak_ok, ak_dec, Bool.and_eq_true, decide_eq_true_eq] at hok
    obtain ⟨hd, hok⟩ := hok
    simp only [ak_st] at h
    obtain ⟨h1, h2, h3⟩ := h
    split at hok
    · rename_i z ci
      simp only [decide_eq_true_eq] at hok
      have hq := hcv _ _ _ _ hok pc ls (st.take (b + 1)).reverse (st.drop (b + 1)) s _ hd (by simp; omega) h3.1 h2 h3.2 (fun r s' hr => hgo _ _ _ hr)
      rw [List.reverse_reverse, List.take_append_drop] at hq
      exact hq
    · cases hok
  case invokestatic n =>
    simp only [ak_ok, ak_dec, Bool.and_eq_true, decide_eq_true_eq] at hok
    obtain ⟨hd, hok⟩ := hok
    simp only [ak_st] at h
    obtain ⟨h1, h2, h3⟩ := h
    have hq := hct _ _ _ hok pc ls (st.take b).reverse (st.drop b) s _ hd (by simp; omega) h2 h3 (fun r s' hr => hgo _ _ _ hr)
    rw [List.reverse_reverse, List.take_append_drop] at hq
    exact hq
  all_goals exact h.elim
