/-! contracts: what a method does to the world, as a transformer of formulas -/
def ak_A (lay : List ak_C) (ad : Nat → Nat) (sz : Nat) : Nat → Prop := fun q => (∃ k, k < lay.length ∧ q = ad k) ∨ sz ≤ q
def ak_Q (D : va_G) (cl : List vw_C) (lay : List ak_C) (ad : Nat → Nat) (tyc : Nat → ClassId) (sz : Nat) (Qp : Option Value → ak_S → Prop) : Array Value → State → Outcome → State → Prop := fun _ st oc t =>
  (∃ (r : Option Value) (s' : ak_S), oc = .returned (r.map (ak_v ad)) ∧ Qp r s' ∧ va_P D cl (ak_W ad tyc s' 0 lay) t.heap ∧ ak_K D cl lay tyc t) ∧ va_F (ak_A lay ad sz) st t
def ak_B (D : va_G) (cl : List vw_C) (lay : List ak_C) (ad : Nat → Nat) (tyc : Nat → ClassId) (sz : Nat) (s : ak_S) : State → Prop := fun U => U.heap.size = sz ∧ va_P D cl (ak_W ad tyc s 0 lay) U.heap ∧ ak_K D cl lay tyc U
def ak_Ctr (l : Launch) (cl : List vw_C) (lay : List ak_C) (y : MethodName) (ws : List Cond) (rm : Room) (pt : ak_P) : Prop :=
  ∀ (D : va_G) (ad : Nat → Nat) (tyc : Nat → ClassId) (sz : Nat) (vs : List Value) (s : ak_S) (Qp : Option Value → ak_S → Prop), ak_Inj lay ad → pt vs s Qp →
    Met l y ws rm (va_Pc (vs.map (ak_v ad)) (ak_B D cl lay ad tyc sz s)) (ak_Q D cl lay ad tyc sz Qp) 0 0 (ak_A lay ad sz)
theorem ak_blind {D : va_G} {cl : List vw_C} {lay : List ak_C} {ad : Nat → Nat} {tyc : Nat → ClassId} {sz : Nat} {s : ak_S} {av : List Value} : FrameBlind (va_Pc av (ak_B D cl lay ad tyc sz s)) :=
  fun a U g mk q => by
    obtain ⟨q0, q1, qP, qK⟩ := q
    exact ⟨q0, q1, qP, ak_K.moved (u := U) (U := U.calling g mk a) (Vm.Alike.refl U.vm) qK⟩
section AKC
variable {p : Program} {l : Launch} {e : Env} {R : Room} {s0 : State} {m : MethodId} {args : Array Value} {below : List Frame} {meth : Method} {c : Code} {cells slots : Nat} {Q : State → Prop} {D : va_G} {cl : List vw_C} {lay : List ak_C} {ad : Nat → Nat} {tyc : Nat → ClassId} {A : Nat → Prop} {H0 : Heap} {nL : Nat} {cc : ByteArray} {Ts : List Cond} {own : String}
theorem ak_go {H : Heap} {locs : List Loc} {pc : Nat} {lsA : Array Slot} {rest st0 : List Value} {a : Array Value} {Qp : Option Value → ak_S → Prop}
    (hr : va_Run p l e R s0 m args below meth c H locs cells slots 0 0 (F0 m pc lsA st0) rest (ak_Q D cl lay ad tyc H.size Qp a) (ak_A lay ad H.size)) (hS : va_S A H0 H locs) (hF : ∀ q, ak_A lay ad H.size q → A q)
    (kk : ∀ (r : Option Value) (s' : ak_S) (H1 : Heap) (locs1 : List Loc), Qp r s' → va_P D cl (ak_W ad tyc s' 0 lay) H1 → va_S A H0 H1 locs1 → W p l e R s0 m args below meth c H1 locs1 cells slots Q (F0 m (pc + 3) lsA ((r.map (ak_v ad)).toList ++ rest))) :
    W p l e R s0 m args below meth c H locs cells slots Q (F0 m pc lsA st0) := by
  intro T hT X
  obtain ⟨v, st₀, t, T', L, h0, X', hL, e1, e2, ⟨⟨r, s', hv, hq, hP, hK⟩, hz, hk⟩, st⟩ := hr T hT X
  cases hv
  rw [h0] at hz hk
  obtain ⟨t2, a1, b1⟩ := kk r s' T'.heap (locs ++ L) hq (by rw [e1]; exact hP)
    ⟨Nat.le_trans hS.1 (by rw [e1]; exact hz), fun q h1 h2 => by rw [e1, hk q (Nat.lt_of_lt_of_le h1 hS.1) (fun z => h2 (hF q z))]; exact hS.2.1 q h1 h2, fun q hq => by
      rcases List.mem_append.mp hq with h | h
      · exact hS.2.2 q h
      · exact hF _ (hL q h)⟩ T' rfl X'
  exact ⟨t2, st t2 a1, b1⟩
theorem ak_hF (hA : ∀ q, H0.size ≤ q → A q) (hAd : ∀ k, k < lay.length → A (ad k)) {H : Heap} {locs : List Loc} (hS : va_S A H0 H locs) : ∀ q, ak_A lay ad H.size q → A q := by
  intro q h
  rcases h with ⟨k, h1, rfl⟩ | h
  · exact hAd k h1
  · exact hA q (Nat.le_trans hS.1 h)
theorem ak_back (r : Option Value) (rest : List Value) : (r.toList ++ rest).map (ak_v ad) = (r.map (ak_v ad)).toList ++ rest.map (ak_v ad) := by cases r <;> simp
theorem ak_cats (rest : List Value) : ((rest.map (ak_v ad)).map fun v => v.category) = rest.map fun v => v.category := by
  rw [List.map_map]
  congr 1
  funext v
  exact ak_v_cat ad v
set_option maxHeartbeats 1000000 in
theorem ak_hcv (g : ak_G p s0 m args c cc Ts own D cl lay ad tyc A) (hml : c.maxLocals = nL) (hA : ∀ q, H0.size ≤ q → A q) (hcr : cells ≤ R.cells ∧ slots ≤ R.slots) {y : MethodName} {wsC : List Cond} {rmC : Room} {pt : ak_P} {n b ci mL : Nat} {bytes : ByteArray} {ret : Option FieldType} {q : vw_C} (hci : cl[ci]? = some q)
    (C0 : ak_Ctr l cl lay y wsC rmC pt) (cw : CallW R s0 args own q.1 n y bytes mL ret wsC rmC 0 0 b) (pc : Nat) (ls : ak_Ls) (vs rest : List Value) (s : ak_S) (Qp : Option Value → ak_S → Prop) (hd : decode cc pc = .ok (.invokevirtual n, 3)) (hlen : vs.length = b + 1) (hrc : ak_rc lay vs ci) (hsum : (rest.map fun v => v.category).sum ≤ 8) (hpt : pt vs s Qp)
    (hk : ∀ r s', Qp r s' → ak_J p l e R s0 m args below meth c cells slots Q D cl lay ad tyc A H0 nL (pc + 3) ls (r.toList ++ rest) s') : ak_J p l e R s0 m args below meth c cells slots Q D cl lay ad tyc A H0 nL pc ls (vs.reverse ++ rest) s := by
  obtain ⟨hx, hb, hts, hown, hK, hinj, hAd, hCL⟩ := g
  intro H locs lsA hP hS hl
  unfold ak_rc at hrc
  split at hrc
  · rename_i k As
    split at hrc
    · rename_i d fs hlay
      subst hrc
      have hrun := va_runV (p := p) (l := l) (e := e) (R := R) (s := s0) (m := m) (args := args) (below := below) (meth := meth) (c := c) (H := H) (locs := locs) (cells := cells) (slots := slots) (As := As.map (ak_v ad)) (rest := rest.map (ak_v ad)) (b := ad k) (g := F0 m pc lsA (((Value.ref k :: As).reverse ++ rest).map (ak_v ad))) (n := b) ⟨hx, hb, hml, hown, hts⟩ (C0 D ad tyc H.size (.ref k :: As) s Qp hinj hpt) cw
        ⟨ak_blind, va_recv hK.1 hP hci (ak_W_at0 hlay), fun U hU hW => ⟨rfl, by rw [hU], by rw [hU]; exact hP, hK.moved hW.alike⟩⟩ rfl (by simpa using hlen) hl.1 (by simp [ak_v]) (lv_room (by rw [ak_cats]; exact hsum)) hd ⟨by omega, by omega⟩
      refine ak_go hrun hS (ak_hF hA hAd hS) (fun r s' H1 locs1 hq hP1 hS1 => ?_)
      have hz := hk r s' hq H1 locs1 lsA hP1 hS1 hl
      rw [ak_back] at hz
      exact hz
    · exact hrc.elim
  · exact hrc.elim
set_option maxHeartbeats 1000000 in
theorem ak_hct (g : ak_G p s0 m args c cc Ts own D cl lay ad tyc A) (hml : c.maxLocals = nL) (hA : ∀ q, H0.size ≤ q → A q) (hcr : cells ≤ R.cells ∧ slots ≤ R.slots) {y : MethodName} {wsC : List Cond} {rmC : Room} {pt : ak_P} {n b mL : Nat} {bytes : ByteArray} {ret : Option FieldType}
    (C0 : ak_Ctr l cl lay y wsC rmC pt) (cw : CallB R s0 args own n y bytes mL ret wsC rmC 0 0 b ∧ (Cond.static y).before args s0 = true) (pc : Nat) (ls : ak_Ls) (vs rest : List Value) (s : ak_S) (Qp : Option Value → ak_S → Prop) (hd : decode cc pc = .ok (.invokestatic n, 3)) (hlen : vs.length = b) (hsum : (rest.map fun v => v.category).sum ≤ 8) (hpt : pt vs s Qp)
    (hk : ∀ r s', Qp r s' → ak_J p l e R s0 m args below meth c cells slots Q D cl lay ad tyc A H0 nL (pc + 3) ls (r.toList ++ rest) s') : ak_J p l e R s0 m args below meth c cells slots Q D cl lay ad tyc A H0 nL pc ls (vs.reverse ++ rest) s := by
  obtain ⟨hx, hb, hts, hown, hK, hinj, hAd, hCL⟩ := g
  intro H locs lsA hP hS hl
  have hrun := va_runS (p := p) (l := l) (e := e) (R := R) (s := s0) (m := m) (args := args) (below := below) (meth := meth) (c := c) (H := H) (locs := locs) (cells := cells) (slots := slots) (As := vs.map (ak_v ad)) (rest := rest.map (ak_v ad)) (g := F0 m pc lsA ((vs.reverse ++ rest).map (ak_v ad))) (n := b) ⟨hx, hb, hml, hown, hts⟩ (C0 D ad tyc H.size vs s Qp hinj hpt) cw
    ⟨ak_blind, fun U hU hW => ⟨rfl, by rw [hU], by rw [hU]; exact hP, hK.moved hW.alike⟩⟩ rfl (by simpa using hlen) hl.1 (by simp) (lv_room (by rw [ak_cats]; exact hsum)) hd ⟨by omega, by omega⟩
  refine ak_go hrun hS (ak_hF hA hAd hS) (fun r s' H1 locs1 hq hP1 hS1 => ?_)
  have hz := hk r s' hq H1 locs1 lsA hP1 hS1 hl
  rw [ak_back] at hz
  exact hz
end AKC
/-! the entry -/
def ak_la : List Value → ak_Ls
  | [] => []
  | v :: r => match v with
    | .long x => some (.long x) :: none :: ak_la r
    | .double x => some (.double x) :: none :: ak_la r
    | w => some w :: ak_la r
def ak_pad : Nat → ak_Ls → ak_Ls
  | 0, l => l
  | n + 1, [] => none :: ak_pad n []
  | n + 1, a :: r => a :: ak_pad n r
theorem ak_pad_nth {v : Value} : ∀ (n : Nat) (l : ak_Ls) (j : Nat), ak_nth (ak_pad n l) j = some (some v) → ak_nth l j = some (some v)
  | 0, _, _, h => h
  | n + 1, [], 0, h => by simp [ak_pad, ak_nth] at h
  | n + 1, [], j + 1, h => by
    have := ak_pad_nth n [] j h
    simp [ak_nth] at this
  | n + 1, a :: r, 0, h => h
  | n + 1, a :: r, j + 1, h => ak_pad_nth n r j h
theorem ak_la_mem {ad : Nat → Nat} {v : Value} : ∀ (vs : List Value) (i j : Nat), ak_nth (ak_la vs) j = some (some v) → (i + j, ak_v ad v) ∈ lv_args i (vs.map (ak_v ad))
  | [], _, _, h => by simp [ak_la, ak_nth] at h
  | u :: r, i, j, h => by
    have one : ak_v ad u = ak_v ad u → (ak_v ad u).category = 1 → ak_nth (some u :: ak_la r) j = some (some v) → (i + j, ak_v ad v) ∈ lv_args i ((u :: r).map (ak_v ad)) := by
      intro _ hc h
      rw [List.map_cons, lv_args, if_neg (by rw [hc]; decide)]
      match j, h with
      | 0, h =>
        simp only [ak_nth, Option.some.injEq] at h
        subst h
        exact List.mem_cons_self
      | j' + 1, h =>
        have := ak_la_mem (ad := ad) r (i + 1) j' h
        rw [show i + 1 + j' = i + (j' + 1) by omega] at this
        exact List.mem_cons_of_mem _ this
    cases u with
    | long x =>
      match j, h with
      | 0, h =>
        simp only [ak_la, ak_nth, Option.some.injEq] at h
        subst h
        exact List.mem_cons_self
      | 1, h => simp [ak_la, ak_nth] at h
      | j' + 2, h =>
        have := ak_la_mem (ad := ad) r (i + 2) j' h
        rw [show i + 2 + j' = i + (j' + 2) by omega] at this
        rw [List.map_cons, lv_args, if_pos (show (ak_v ad (Value.long x)).category = 2 from rfl)]
        exact List.mem_cons_of_mem _ this
    | double x =>
      match j, h with
      | 0, h =>
        simp only [ak_la, ak_nth, Option.some.injEq] at h
        subst h
        exact List.mem_cons_self
      | 1, h => simp [ak_la, ak_nth] at h
      | j' + 2, h =>
        have := ak_la_mem (ad := ad) r (i + 2) j' h
        rw [show i + 2 + j' = i + (j' + 2) by omega] at this
        rw [List.map_cons, lv_args, if_pos (show (ak_v ad (Value.double x)).category = 2 from rfl)]
        exact List.mem_cons_of_mem _ this
    | int x => exact one rfl rfl h
    | float x => exact one rfl rfl h
    | null => exact one rfl rfl h
    | ref x => exact one rfl rfl h
    | retAddr x => exact one rfl rfl h
theorem ak_sl_len {ad : Nat → Nat} : ∀ (vs : List Value), (lg_sl (vs.map (ak_v ad))).length = (ak_la vs).length
  | [] => rfl
  | u :: r => by
    have ih := ak_sl_len (ad := ad) r
    cases u <;> simp [lg_sl, ak_la, ak_v, Value.category] at ih ⊢ <;> omega
/-- a method's formula -/
def ak_VC (lay : List ak_C) (cs : Nat → ak_P) (bl : List (Nat × List ak_I)) (nL : Nat) (pt : ak_P) : Prop :=
  ∀ (vs : List Value) (s : ak_S) (Qp : Option Value → ak_S → Prop), pt vs s Qp → (ak_la vs).length ≤ nL ∧ ∀ J : ak_KK, (∀ n pc ls st s, ak_run lay cs Qp J bl n pc ls st s → J pc ls st s) → J 0 (ak_pad nL (ak_la vs)) [] s
/-- a callee -/
def ak_CC (l : Launch) (cl : List vw_C) (lay : List ak_C) (ws : List Cond) (own : String) (R : Room) (pt : ak_P) (n b ci : Nat) : Prop :=
  ∃ (y : MethodName) (wsC : List Cond) (rmC : Room) (bytes : ByteArray) (mL : Nat) (ret : Option FieldType), ak_Ctr l cl lay y wsC rmC pt ∧
    ((∃ q : vw_C, cl[ci]? = some q ∧ ∀ (s0 : State) (args : Array Value), (∀ w ∈ ws, w.before args s0 = true) → CallW R s0 args own q.1 n y bytes mL ret wsC rmC 0 0 b) ∨
     (ci = 1000 ∧ ∀ (s0 : State) (args : Array Value), (∀ w ∈ ws, w.before args s0 = true) → CallB R s0 args own n y bytes mL ret wsC rmC 0 0 b ∧ (Cond.static y).before args s0 = true))
theorem ak_find_ok {cc : ByteArray} {Ts : List Cond} {own : String} {cl : List vw_C} {nL : Nat} {rty : Option FieldType} {reg : List (Nat × Nat × Nat)} {bl : List (Nat × List ak_I)} (h : ak_okM cc Ts own cl nL rty reg bl = true) (pc : Nat) : ak_okB cc Ts own cl nL rty reg pc (ak_find bl pc) = true := by
  induction bl with
  | nil => rfl
  | cons q r ih =>
    obtain ⟨k, is⟩ := q
    simp only [ak_okM, List.all_cons, Bool.and_eq_true] at h
    simp only [ak_find]
    split
    · rename_i e
      subst e
      exact h.1
    · exact ih (by simp only [ak_okM]; exact h.2)
set_option maxHeartbeats 1000000 in
theorem ak_met {l : Launch} {cl : List vw_C} {lay : List ak_C} {y : MethodName} {ws ws' : List Cond} {rm : Room} {cc : ByteArray} {maxL : Nat} {rty : Option FieldType} {pt : ak_P} {bl : List (Nat × List ak_I)} {cs : Nat → ak_P} {reg : List (Nat × Nat × Nat)}
    (hy : plainName y.cls = true) (hw : ws = Cond.code y cc maxL rty :: ws') (hCL : ak_CL cl ws) (hno : cl[1000]? = none) (hok : ak_okM cc ws y.cls cl maxL rty reg bl = true)
    (hcc : ∀ a n b ci, ak_nth reg a = some (n, b, ci) → ak_CC l cl lay ws y.cls rm (cs a) n b ci)
    (hvc : ak_VC lay cs bl maxL pt) : ak_Ctr l cl lay y ws rm pt := by
  intro D ad tyc sz vs σ Qp hinj hpt
  obtain ⟨hlen, hvc⟩ := hvc vs σ Qp hpt
  refine Met.ofW (cc := cc) (maxL := maxL) (ret := rty) hy hw ?_
  intro p e s m args below meth c s₁ B hml hv
  obtain ⟨rfl, hsz, hP, hK⟩ := hv
  have hx := B.exec
  have hb := B.bytes
  have hr := B.returns
  have hts := atoms_spec (ws := ws) B.pre
  have hown : s.vm.findClass y.cls = some m.cls := findClass_of_methodNamed B.named
  have hlocks := B.notSynchronized
  subst hsz
  have hAd : ∀ k, k < lay.length → ak_A lay ad s.heap.size (ad k) := fun k hk => Or.inl ⟨k, hk, rfl⟩
  have hA : ∀ q, s.heap.size ≤ q → ak_A lay ad s.heap.size q := fun q h => Or.inr h
  have g : ak_G p s m (vs.map (ak_v ad)).toArray c cc ws y.cls D cl lay ad tyc (ak_A lay ad s.heap.size) := ⟨hx, hb, hts, hown, hK, hinj, hAd, hCL⟩
  obtain ⟨AJ, hAJ⟩ : ∃ AJ : ak_KK, AJ = ak_J p l e (headSpec ws rm).room s m (vs.map (ak_v ad)).toArray below meth c 0 0 (MQ below (ak_Q D cl lay ad tyc s.heap.size Qp) (vs.map (ak_v ad)).toArray s 0 0 (ak_A lay ad s.heap.size)) D cl lay ad tyc (ak_A lay ad s.heap.size) s.heap maxL := ⟨_, rfl⟩
  have hri : ∀ pc ls x s', decode cc pc = .ok (.ireturn, 1) → (rty = some .int ∨ (rty = some .boolean ∧ (x = 0 ∨ x = 1))) → Qp (some (.int x)) s' → AJ pc ls [.int x] s' := by
    intro pc ls x s' hd ht hq
    subst hAJ
    intro H locs lsA hP hS hl
    rcases ht with ht | ⟨ht, hx01⟩
    · exact W.zret (ty := .int) hx hb (hr.trans ht) rfl (fun t ht hW => ⟨⟨some (.int x), s', rfl, hq, by rw [ht]; exact hP, hK.moved hW.alike⟩, hS.F ht⟩) hS.2.2 hd
    · exact W.zret (ty := .boolean) hx hb (hr.trans ht) (by rcases hx01 with rfl | rfl <;> rfl) (fun t ht hW => ⟨⟨some (.int x), s', rfl, hq, by rw [ht]; exact hP, hK.moved hW.alike⟩, hS.F ht⟩) hS.2.2 hd
  have hrv : ∀ pc ls s', decode cc pc = .ok (.return_, 1) → rty = none → Qp none s' → AJ pc ls [] s' := by
    intro pc ls s' hd ht hq
    subst hAJ
    intro H locs lsA hP hS hl
    exact W.vret hx hb (hr.trans ht) (fun t ht hW => ⟨⟨none, s', rfl, hq, by rw [ht]; exact hP, hK.moved hW.alike⟩, hS.F ht⟩) hS.2.2 hd
  have hcv : ∀ a n b ci, ak_nth reg a = some (n, b, ci) → ∀ pc ls (vs rest : List Value) s Qp, decode cc pc = .ok (.invokevirtual n, 3) → vs.length = b + 1 → ak_rc lay vs ci → (rest.map fun v => v.category).sum ≤ 8 → cs a vs s Qp → (∀ r s', Qp r s' → AJ (pc + 3) ls (r.toList ++ rest) s') → AJ pc ls (vs.reverse ++ rest) s := by
    intro a n b ci hreg pc ls vs' rest s' Qp' h1 h2 h3 h4 h5 h6
    obtain ⟨yC, wsC, rmC, bytes, mL, ret, hC, hcw⟩ := hcc a n b ci hreg
    rcases hcw with ⟨q, hq, hcw⟩ | ⟨hci, hcw⟩
    · subst hAJ
      exact ak_hcv g hml hA ⟨Nat.zero_le _, Nat.zero_le _⟩ hq hC (hcw s _ hts) pc ls vs' rest s' Qp' h1 h2 h3 h4 h5 h6
    · exfalso
      subst hci
      unfold ak_rc at h3
      split at h3
      · split at h3
        · rename_i d fs hlay
          subst h3
          have hP0 := hP _ _ (ak_W_at0 hlay)
          obtain ⟨r9, h9, _⟩ := hP0
          rw [hno] at h9
          cases h9
        · exact h3
      · exact h3
  have hct : ∀ a n b, ak_nth reg a = some (n, b, 1000) → ∀ pc ls (vs rest : List Value) s Qp, decode cc pc = .ok (.invokestatic n, 3) → vs.length = b → (rest.map fun v => v.category).sum ≤ 8 → cs a vs s Qp → (∀ r s', Qp r s' → AJ (pc + 3) ls (r.toList ++ rest) s') → AJ pc ls (vs.reverse ++ rest) s := by
    intro a n b hreg pc ls vs' rest s' Qp' h1 h2 h4 h5 h6
    obtain ⟨yC, wsC, rmC, bytes, mL, ret, hC, hcw⟩ := hcc a n b 1000 hreg
    rcases hcw with ⟨q, hq, hcw⟩ | ⟨hci, hcw⟩
    · rw [hno] at hq
      cases hq
    · subst hAJ
      exact ak_hct g hml hA ⟨Nat.zero_le _, Nat.zero_le _⟩ hC (hcw s _ hts) pc ls vs' rest s' Qp' h1 h2 h4 h5 h6
  have hblk : ∀ (Kc : ak_KK), (∀ pc ls st s, Kc pc ls st s → AJ pc ls st s) → ∀ (is : List ak_I) (pc : Nat), ak_okB cc ws y.cls cl maxL rty reg pc is = true → ∀ ls st s, ak_ev lay cs Qp Kc AJ is ls st s → AJ pc ls st s := by
    intro Kc hKc is
    induction is with
    | nil => intro pc _ ls st s h; exact h.elim
    | cons x r ih =>
      intro pc hok ls st s h
      simp only [ak_okB, Bool.and_eq_true, decide_eq_true_eq] at hok
      obtain ⟨⟨rfl, h1⟩, h2⟩ := hok
      exact ak_st_sound AJ hAJ g hKc (fun _ _ _ _ h => h) hri hrv hcv hct h1 (fun ls st s h => ih _ h2 ls st s h) h
  have hrun : ∀ n pc ls st s, ak_run lay cs Qp AJ bl n pc ls st s → AJ pc ls st s := by
    intro n
    induction n with
    | zero => intro pc ls st s h; exact h
    | succ n ih => intro pc ls st s h; exact hblk _ ih _ pc (ak_find_ok hok pc) ls st s h
  have h0 := hvc AJ hrun
  rw [lg_entry_eq]
  have hl := lv_entry (vs.map (ak_v ad)) (n := maxL) (by rw [ak_sl_len]; exact hlen)
  subst hAJ
  refine h0 s.heap [] _ hP va_S.rf ⟨hl.1, hl.2.1, fun i v hi => ?_⟩
  have hi := ak_la_mem (ad := ad) vs 0 i (ak_pad_nth _ _ _ hi)
  rw [Nat.zero_add] at hi
  exact hl.2.2 _ hi
