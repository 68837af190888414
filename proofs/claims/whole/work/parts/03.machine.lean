/-! THE ABSTRACT MACHINE: a method's blocks as lists of instructions, run over a world whose cells have places; what a run needs is a formula ('ak_ev'); a formula that holds gives the machine's run ('ak_sound'). -/
abbrev ak_S : Type := (Nat → Nat → Int32) × (Nat → Nat → Int64)
abbrev ak_C : Type := (Nat × List (Option Nat)) ⊕ (FieldType × Nat)
abbrev ak_I : Type := Nat × Jvm.ClassFile.Instr × Nat × Nat × Int32 × List (Int32 × Nat)
abbrev ak_Ls : Type := List (Option Value)
abbrev ak_P : Type := List Value → ak_S → (Option Value → ak_S → Prop) → Prop
abbrev ak_KK : Type := Nat → ak_Ls → List Value → ak_S → Prop
def ak_nth {α : Type} : List α → Nat → Option α
  | [], _ => none
  | a :: _, 0 => some a
  | _ :: l, n + 1 => ak_nth l n
def ak_set {α : Type} : List α → Nat → α → List α
  | [], _, _ => []
  | _ :: l, 0, v => v :: l
  | a :: l, n + 1, v => a :: ak_set l n v
theorem ak_nth_lt {α : Type} : ∀ {l : List α} {k : Nat} {x : α}, ak_nth l k = some x → k < l.length
  | [], _, _, h => by cases h
  | _ :: _, 0, _, _ => Nat.succ_pos _
  | _ :: l, k + 1, _, h => Nat.succ_lt_succ (ak_nth_lt (l := l) (k := k) h)
theorem ak_nth_get {α : Type} : ∀ (l : List α) (k : Nat), ak_nth l k = l[k]?
  | [], _ => rfl
  | _ :: _, 0 => rfl
  | _ :: l, k + 1 => by rw [List.getElem?_cons_succ]; exact ak_nth_get l k
theorem ak_nth_set {α : Type} : ∀ (l : List α) (i j : Nat) (v : α), ak_nth (ak_set l i v) j = if j = i then (if i < l.length then some v else none) else ak_nth l j
  | [], i, j, v => by simp [ak_set, ak_nth]
  | a :: l, 0, 0, v => by simp [ak_set, ak_nth]
  | a :: l, 0, j + 1, v => by simp [ak_set, ak_nth]
  | a :: l, i + 1, 0, v => by simp [ak_set, ak_nth]
  | a :: l, i + 1, j + 1, v => by simp [ak_set, ak_nth, ak_nth_set l i j v]
/-- an abstract value: a reference is a place -/
def ak_v (ad : Nat → Nat) (v : Value) : Value := match v with
  | .ref k => .ref (ad k)
  | w => w
theorem ak_v_cat (ad : Nat → Nat) (v : Value) : (ak_v ad v).category = v.category := by cases v <;> rfl
def ak_p1 (s : ak_S) (k j : Nat) (x : Int32) : ak_S := (fun k' => if k' = k then upd (s.1 k) j x else s.1 k', s.2)
def ak_p2 (s : ak_S) (k j : Nat) (x : Int64) : ak_S := (s.1, fun k' => if k' = k then vp_updL (s.2 k) j x else s.2 k')
/-! the world -/
def ak_fs (ad : Nat → Nat) (g : Nat → Int32) : Nat → List (Option Nat) → List Value
  | _, [] => []
  | f, some q :: r => Value.ref (ad q) :: ak_fs ad g (f + 1) r
  | f, none :: r => Value.int (g f) :: ak_fs ad g (f + 1) r
def ak_e (ad : Nat → Nat) (tyc : Nat → ClassId) (s : ak_S) (k : Nat) (x : ak_C) : va_E := match x with
  | .inl (ci, fs) => .inr (ci, ak_fs ad (s.1 k) 0 fs)
  | .inr (.long, n) => .inl (tyc k, n, .inr (.inl (s.2 k)))
  | .inr (_, n) => .inl (tyc k, n, .inl (s.1 k))
def ak_W (ad : Nat → Nat) (tyc : Nat → ClassId) (s : ak_S) : Nat → List ak_C → va_W
  | _, [] => []
  | k, x :: r => (ad k, ak_e ad tyc s k x) :: ak_W ad tyc s (k + 1) r
theorem ak_W_at {ad : Nat → Nat} {tyc : Nat → ClassId} {s : ak_S} : ∀ (lay : List ak_C) (k0 k : Nat), (ak_W ad tyc s k0 lay)[k]? = (ak_nth lay k).map (fun x => (ad (k0 + k), ak_e ad tyc s (k0 + k) x))
  | [], _, _ => by simp [ak_W, ak_nth]
  | x :: r, k0, 0 => by simp [ak_W, ak_nth]
  | x :: r, k0, k + 1 => by
    rw [ak_W, List.getElem?_cons_succ, ak_W_at r (k0 + 1) k, show k0 + 1 + k = k0 + (k + 1) by omega]
    rfl
theorem ak_W_at0 {ad : Nat → Nat} {tyc : Nat → ClassId} {s : ak_S} {lay : List ak_C} {k : Nat} {x : ak_C} (h : ak_nth lay k = some x) : (ak_W ad tyc s 0 lay)[k]? = some (ad k, ak_e ad tyc s k x) := by
  rw [ak_W_at, h, Nat.zero_add]; rfl
theorem ak_W_len {ad : Nat → Nat} {tyc : Nat → ClassId} {s : ak_S} : ∀ (lay : List ak_C) (k0 : Nat), (ak_W ad tyc s k0 lay).length = lay.length
  | [], _ => rfl
  | _ :: r, k0 => by rw [ak_W, List.length_cons, ak_W_len r (k0 + 1), List.length_cons]
theorem ak_W_inv {ad : Nat → Nat} {tyc : Nat → ClassId} {s : ak_S} {lay : List ak_C} {k : Nat} {q : Nat × va_E} (h : (ak_W ad tyc s 0 lay)[k]? = some q) : k < lay.length ∧ q.1 = ad k := by
  rw [ak_W_at, Nat.zero_add] at h
  cases hx : ak_nth lay k with
  | none => rw [hx] at h; cases h
  | some x => rw [hx] at h; cases h; exact ⟨ak_nth_lt hx, rfl⟩
def ak_Inj (lay : List ak_C) (ad : Nat → Nat) : Prop := ∀ i j, i < lay.length → j < lay.length → ad i = ad j → i = j
theorem ak_D {lay : List ak_C} {ad : Nat → Nat} {tyc : Nat → ClassId} {s : ak_S} {A : Nat → Prop} (hi : ak_Inj lay ad) (hA : ∀ k, k < lay.length → A (ad k)) : va_D A (ak_W ad tyc s 0 lay) := by
  refine ⟨fun i j p q h1 h2 h3 => ?_, fun k q h => ?_⟩
  · obtain ⟨a1, a2⟩ := ak_W_inv h1
    obtain ⟨b1, b2⟩ := ak_W_inv h2
    exact hi i j a1 b1 (by rw [← a2, ← b2]; exact h3)
  · obtain ⟨a1, a2⟩ := ak_W_inv h
    rw [a2]; exact hA k a1
theorem ak_W_set {lay : List ak_C} {ad : Nat → Nat} {tyc : Nat → ClassId} {s s' : ak_S} {k : Nat} {x : ak_C} {e' : va_E} (hk : ak_nth lay k = some x) (h1 : ak_e ad tyc s' k x = e') (h2 : ∀ j y, j ≠ k → ak_e ad tyc s' j y = ak_e ad tyc s j y) : (ak_W ad tyc s 0 lay).set k (ad k, e') = ak_W ad tyc s' 0 lay := by
  apply List.ext_getElem?
  intro j
  rw [List.getElem?_set, ak_W_at, ak_W_at, ak_W_len, Nat.zero_add]
  by_cases hj : k = j
  · subst hj
    rw [if_pos rfl, if_pos (ak_nth_lt hk), hk, ← h1]
    rfl
  · rw [if_neg hj]
    cases ak_nth lay j with
    | none => rfl
    | some y =>
      show some (ad j, ak_e ad tyc s j y) = some (ad j, ak_e ad tyc s' j y)
      rw [h2 j y (Ne.symm hj)]
theorem ak_fs_at {ad : Nat → Nat} {g : Nat → Int32} : ∀ (fs : List (Option Nat)) (f0 f : Nat), (ak_fs ad g f0 fs)[f]? = (ak_nth fs f).map (fun o => match o with | some q => Value.ref (ad q) | none => Value.int (g (f0 + f)))
  | [], _, _ => by simp [ak_fs, ak_nth]
  | some q :: r, f0, 0 => by simp [ak_fs, ak_nth]
  | none :: r, f0, 0 => by simp [ak_fs, ak_nth]
  | some q :: r, f0, f + 1 => by
    rw [ak_fs, List.getElem?_cons_succ, ak_fs_at r (f0 + 1) f, show f0 + 1 + f = f0 + (f + 1) by omega]
    rfl
  | none :: r, f0, f + 1 => by
    rw [ak_fs, List.getElem?_cons_succ, ak_fs_at r (f0 + 1) f, show f0 + 1 + f = f0 + (f + 1) by omega]
    rfl
theorem ak_fs_len {ad : Nat → Nat} {g : Nat → Int32} : ∀ (fs : List (Option Nat)) (f0 : Nat), (ak_fs ad g f0 fs).length = fs.length
  | [], _ => rfl
  | some _ :: r, f0 => by rw [ak_fs, List.length_cons, ak_fs_len r (f0 + 1), List.length_cons]
  | none :: r, f0 => by rw [ak_fs, List.length_cons, ak_fs_len r (f0 + 1), List.length_cons]
theorem ak_fs_set {ad : Nat → Nat} {g : Nat → Int32} {x : Int32} {fs : List (Option Nat)} {f : Nat} (h : ak_nth fs f = some none) : (ak_fs ad g 0 fs).set f (.int x) = ak_fs ad (upd g f x) 0 fs := by
  apply List.ext_getElem?
  intro j
  rw [List.getElem?_set, ak_fs_at, ak_fs_at, ak_fs_len, Nat.zero_add]
  by_cases hj : f = j
  · subst hj
    rw [if_pos rfl, if_pos (ak_nth_lt h), h]
    simp [upd]
  · rw [if_neg hj]
    cases ak_nth fs j with
    | none => rfl
    | some o => cases o with
      | some q => rfl
      | none => simp [upd, Ne.symm hj]
/-! the tables -/
def ak_K (D : va_G) (cl : List vw_C) (lay : List ak_C) (tyc : Nat → ClassId) (U : State) : Prop := va_K D cl [] U ∧ ∀ k ty n, ak_nth lay k = some (.inr (ty, n)) → ArrOfT U (tyc k) ty ∧ va_RA U (tyc k) ty
theorem ak_K.moved {D : va_G} {cl : List vw_C} {lay : List ak_C} {tyc : Nat → ClassId} {u U : State} (hvm : u.vm.Alike U.vm) (h : ak_K D cl lay tyc u) : ak_K D cl lay tyc U :=
  ⟨va_K.moved hvm h.1, fun k ty n hk => ⟨arrOfT_moved hvm (h.2 k ty n hk).1, (h.2 k ty n hk).2.moved hvm⟩⟩
theorem ak_K.one {D : va_G} {cl : List vw_C} {lay : List ak_C} {tyc : Nat → ClassId} {U : State} {k n : Nat} {ty : FieldType} (h : ak_K D cl lay tyc U) (hk : ak_nth lay k = some (.inr (ty, n))) : va_K D cl [(tyc k, ty)] U :=
  ⟨h.1.1, fun j q hj => by
    cases j with
    | zero => cases hj; exact h.2 k ty n hk
    | succ j => simp at hj⟩
/-! the locals -/
def ak_LH (ad : Nat → Nat) (lsA : Array Slot) (nL : Nat) (ls : ak_Ls) : Prop := lsA.size = nL ∧ lv_wf lsA ∧ ∀ i v, ak_nth ls i = some (some v) → lsA[i]? = some (.val (ak_v ad v))
def ak_ps (ad : Nat → Nat) : Nat → ak_Ls → List (Nat × Value)
  | _, [] => []
  | i, none :: r => ak_ps ad (i + 1) r
  | i, some v :: r => (i, ak_v ad v) :: ak_ps ad (i + 1) r
theorem ak_ps_of {ad : Nat → Nat} : ∀ (ls : ak_Ls) (i j : Nat) (v : Value), ak_nth ls j = some (some v) → (i + j, ak_v ad v) ∈ ak_ps ad i ls
  | [], _, _, _, h => by cases h
  | none :: r, i, 0, v, h => by simp [ak_nth] at h
  | some u :: r, i, 0, v, h => by
    simp only [ak_nth, Option.some.injEq] at h
    subst h
    exact List.mem_cons_self
  | none :: r, i, j + 1, v, h => by
    have := ak_ps_of (ad := ad) r (i + 1) j v h
    rw [show i + 1 + j = i + (j + 1) by omega] at this
    exact this
  | some u :: r, i, j + 1, v, h => by
    have := ak_ps_of (ad := ad) r (i + 1) j v h
    rw [show i + 1 + j = i + (j + 1) by omega] at this
    exact List.mem_cons_of_mem _ this
theorem ak_ps_in {ad : Nat → Nat} : ∀ (ls : ak_Ls) (i : Nat) (q : Nat × Value), q ∈ ak_ps ad i ls → ∃ j v, ak_nth ls j = some (some v) ∧ q = (i + j, ak_v ad v)
  | [], _, _, h => by cases h
  | none :: r, i, q, h => by
    obtain ⟨j, v, h1, h2⟩ := ak_ps_in r (i + 1) q h
    exact ⟨j + 1, v, h1, by rw [h2, show i + 1 + j = i + (j + 1) by omega]⟩
  | some u :: r, i, q, h => by
    rcases List.mem_cons.mp h with h | h
    · exact ⟨0, u, rfl, h⟩
    · obtain ⟨j, v, h1, h2⟩ := ak_ps_in r (i + 1) q h
      exact ⟨j + 1, v, h1, by rw [h2, show i + 1 + j = i + (j + 1) by omega]⟩
theorem ak_LH.has {ad : Nat → Nat} {lsA : Array Slot} {nL : Nat} {ls : ak_Ls} (h : ak_LH ad lsA nL ls) : lv_has lsA nL (ak_ps ad 0 ls) := by
  refine ⟨h.1, h.2.1, fun q hq => ?_⟩
  obtain ⟨j, v, h1, h2⟩ := ak_ps_in ls 0 q hq
  rw [h2, Nat.zero_add]
  exact h.2.2 j v h1
/-- no long begins in the place before -/
def ak_ok1 (ls : ak_Ls) (i : Nat) : Prop := match i with
  | 0 => True
  | n + 1 => match ak_nth ls n with
    | some (some (.long _)) => False
    | some (some (.double _)) => False
    | _ => True
theorem ak_ok1_spec {ls : ak_Ls} {i j : Nat} {v : Value} (h : ak_ok1 ls i) (hj : ak_nth ls j = some (some v)) (hi : j + 1 = i) : ¬ v.category = 2 := by
  subst hi
  simp only [ak_ok1, hj] at h
  cases v <;> simp [Value.category] at h ⊢
theorem ak_LH.of1 {ad : Nat → Nat} {ls' : Array Slot} {nL i : Nat} {ls : ak_Ls} {u : Value} (hok : ak_ok1 ls i) (h : lv_has ls' nL ((i, ak_v ad u) :: (ak_ps ad 0 ls).filter (fun q => !(q.1 == i) && !(q.1 + 1 == i && q.2.category == 2)))) : ak_LH ad ls' nL (ak_set ls i (some u)) := by
  refine ⟨h.1, h.2.1, fun j v hj => ?_⟩
  rw [ak_nth_set] at hj
  by_cases e : j = i
  · rw [if_pos e] at hj
    split at hj
    · simp only [Option.some.injEq] at hj
      subst hj; subst e
      exact h.2.2 _ List.mem_cons_self
    · cases hj
  · rw [if_neg e] at hj
    have h1 := ak_ps_of (ad := ad) ls 0 j v hj
    rw [Nat.zero_add] at h1
    refine h.2.2 (j, ak_v ad v) (List.mem_cons_of_mem _ (List.mem_filter.mpr ⟨h1, ?_⟩))
    have h2 : ¬ (j + 1 = i ∧ (ak_v ad v).category = 2) := fun q => ak_ok1_spec hok hj q.1 (by rw [← ak_v_cat ad]; exact q.2)
    simp only [Bool.and_eq_true, Bool.not_eq_true', beq_eq_false_iff_ne, ne_eq, Bool.and_eq_false_iff]
    refine ⟨e, ?_⟩
    by_cases q : j + 1 = i
    · exact Or.inr (fun z => h2 ⟨q, z⟩)
    · exact Or.inl q
theorem ak_LH.of2 {ad : Nat → Nat} {ls' : Array Slot} {nL i : Nat} {ls : ak_Ls} {u : Value} (hok : ak_ok1 ls i) (h : lv_has ls' nL ((i, ak_v ad u) :: (ak_ps ad 0 ls).filter (fun q => !(q.1 == i) && (!(q.1 == i + 1) && !(q.1 + 1 == i && q.2.category == 2))))) : ak_LH ad ls' nL (ak_set (ak_set ls i (some u)) (i + 1) none) := by
  refine ⟨h.1, h.2.1, fun j v hj => ?_⟩
  rw [ak_nth_set] at hj
  by_cases e1 : j = i + 1
  · rw [if_pos e1] at hj
    split at hj <;> simp at hj
  · rw [if_neg e1, ak_nth_set] at hj
    by_cases e : j = i
    · rw [if_pos e] at hj
      split at hj
      · simp only [Option.some.injEq] at hj
        subst hj; subst e
        exact h.2.2 _ List.mem_cons_self
      · cases hj
    · rw [if_neg e] at hj
      have h1 := ak_ps_of (ad := ad) ls 0 j v hj
      rw [Nat.zero_add] at h1
      refine h.2.2 (j, ak_v ad v) (List.mem_cons_of_mem _ (List.mem_filter.mpr ⟨h1, ?_⟩))
      have h2 : ¬ (j + 1 = i ∧ (ak_v ad v).category = 2) := fun q => ak_ok1_spec hok hj q.1 (by rw [← ak_v_cat ad]; exact q.2)
      simp only [Bool.and_eq_true, Bool.not_eq_true', beq_eq_false_iff_ne, ne_eq, Bool.and_eq_false_iff]
      refine ⟨e, e1, ?_⟩
      by_cases q : j + 1 = i
      · exact Or.inr (fun z => h2 ⟨q, z⟩)
      · exact Or.inl q
