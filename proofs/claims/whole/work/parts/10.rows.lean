/-! how a formula unfolds, an instruction at a time -/
def ak_lI (o : Option (Option Value)) (k : Int32 → Prop) : Prop := match o with
  | some (some (.int x)) => k x
  | _ => False
def ak_lL (o : Option (Option Value)) (k : Int64 → Prop) : Prop := match o with
  | some (some (.long x)) => k x
  | _ => False
def ak_lR (o : Option (Option Value)) (k : Nat → Prop) : Prop := match o with
  | some (some (.ref x)) => k x
  | _ => False
theorem lI_e (x : Int32) (k : Int32 → Prop) : ak_lI (some (some (.int x))) k = k x := rfl
theorem lL_e (x : Int64) (k : Int64 → Prop) : ak_lL (some (some (.long x))) k = k x := rfl
theorem lR_e (x : Nat) (k : Nat → Prop) : ak_lR (some (some (.ref x))) k = k x := rfl
/-- a field: its class, its number -/
def ak_gf (o : Option ak_C) (a b : Nat) (k : Nat → Prop) (k2 : Prop) : Prop := match o with
  | some (.inl (ci, fs)) => ci = a ∧ (match ak_nth fs b with
    | some (some q) => k q
    | some none => k2
    | none => False)
  | _ => False
def ak_pf (o : Option ak_C) (a b : Nat) (k2 : Prop) : Prop := match o with
  | some (.inl (ci, fs)) => ci = a ∧ (match ak_nth fs b with
    | some none => k2
    | _ => False)
  | _ => False
def ak_ai (o : Option ak_C) (i : Int32) (k : Prop) : Prop := match o with
  | some (.inr (.int, n)) => vp_in i n ∧ k
  | _ => False
def ak_az (o : Option ak_C) (i : Int32) (k : Prop) : Prop := match o with
  | some (.inr (.boolean, n)) => vp_in i n ∧ k
  | _ => False
def ak_al (o : Option ak_C) (i : Int32) (k : Prop) : Prop := match o with
  | some (.inr (.long, n)) => vp_in i n ∧ k
  | _ => False
theorem ai_e (n : Nat) (i : Int32) (k : Prop) : ak_ai (some (.inr (.int, n))) i k = (vp_in i n ∧ k) := rfl
theorem az_e (n : Nat) (i : Int32) (k : Prop) : ak_az (some (.inr (.boolean, n))) i k = (vp_in i n ∧ k) := rfl
theorem al_e (n : Nat) (i : Int32) (k : Prop) : ak_al (some (.inr (.long, n))) i k = (vp_in i n ∧ k) := rfl
section AKX
variable {lay : List ak_C} {cs : Nat → ak_P} {rt : Option Value → ak_S → Prop} {Kc J : ak_KK} {pc a b : Nat} {v : Int32} {ts : List (Int32 × Nat)} {is : List ak_I} {ls : ak_Ls} {st : List Value} {s : ak_S}
theorem run_s {bl : List (Nat × List ak_I)} {n : Nat} : ak_run lay cs rt J bl (n + 1) pc ls st s = ak_ev lay cs rt (ak_run lay cs rt J bl n) J (ak_find bl pc) ls st s := rfl
theorem run_0 {bl : List (Nat × List ak_I)} : ak_run lay cs rt J bl 0 pc ls st s = J pc ls st s := rfl
theorem e_nop : ak_ev lay cs rt Kc J ((pc, .nop, a, b, v, ts) :: is) ls st s = J pc ls st s := rfl
theorem e_iconst {n : Int} : ak_ev lay cs rt Kc J ((pc, .iconst n, a, b, v, ts) :: is) ls st s = ak_ev lay cs rt Kc J is ls (.int v :: st) s := rfl
theorem e_bipush {n : Int} : ak_ev lay cs rt Kc J ((pc, .bipush n, a, b, v, ts) :: is) ls st s = ak_ev lay cs rt Kc J is ls (.int v :: st) s := rfl
theorem e_sipush {n : Int} : ak_ev lay cs rt Kc J ((pc, .sipush n, a, b, v, ts) :: is) ls st s = ak_ev lay cs rt Kc J is ls (.int v :: st) s := rfl
theorem e_lconst {n : Fin 2} : ak_ev lay cs rt Kc J ((pc, .lconst n, a, b, v, ts) :: is) ls st s = ak_ev lay cs rt Kc J is ls (.long v.toInt64 :: st) s := rfl
theorem e_iload {n : Nat} : ak_ev lay cs rt Kc J ((pc, .iload n, a, b, v, ts) :: is) ls st s = ak_lI (ak_nth ls a) (fun x => ak_ev lay cs rt Kc J is ls (.int x :: st) s) := rfl
theorem e_iload_n {n : Fin 4} : ak_ev lay cs rt Kc J ((pc, .iload_n n, a, b, v, ts) :: is) ls st s = ak_lI (ak_nth ls a) (fun x => ak_ev lay cs rt Kc J is ls (.int x :: st) s) := rfl
theorem e_lload {n : Nat} : ak_ev lay cs rt Kc J ((pc, .lload n, a, b, v, ts) :: is) ls st s = ak_lL (ak_nth ls a) (fun x => ak_ev lay cs rt Kc J is ls (.long x :: st) s) := rfl
theorem e_lload_n {n : Fin 4} : ak_ev lay cs rt Kc J ((pc, .lload_n n, a, b, v, ts) :: is) ls st s = ak_lL (ak_nth ls a) (fun x => ak_ev lay cs rt Kc J is ls (.long x :: st) s) := rfl
theorem e_aload {n : Nat} : ak_ev lay cs rt Kc J ((pc, .aload n, a, b, v, ts) :: is) ls st s = ak_lR (ak_nth ls a) (fun x => ak_ev lay cs rt Kc J is ls (.ref x :: st) s) := rfl
theorem e_aload_n {n : Fin 4} : ak_ev lay cs rt Kc J ((pc, .aload_n n, a, b, v, ts) :: is) ls st s = ak_lR (ak_nth ls a) (fun x => ak_ev lay cs rt Kc J is ls (.ref x :: st) s) := rfl
theorem e_istore {n : Nat} {x : Int32} : ak_ev lay cs rt Kc J ((pc, .istore n, a, b, v, ts) :: is) ls (.int x :: st) s = (ak_ok1 ls a ∧ ak_ev lay cs rt Kc J is (ak_set ls a (some (.int x))) st s) := rfl
theorem e_istore_n {n : Fin 4} {x : Int32} : ak_ev lay cs rt Kc J ((pc, .istore_n n, a, b, v, ts) :: is) ls (.int x :: st) s = (ak_ok1 ls a ∧ ak_ev lay cs rt Kc J is (ak_set ls a (some (.int x))) st s) := rfl
theorem e_iinc {n : Nat} {m : Int} : ak_ev lay cs rt Kc J ((pc, .iinc n m, a, b, v, ts) :: is) ls st s = ak_lI (ak_nth ls a) (fun x => ak_ok1 ls a ∧ ak_ev lay cs rt Kc J is (ak_set ls a (some (.int (x + v)))) st s) := rfl
theorem e_iadd {x y : Int32} : ak_ev lay cs rt Kc J ((pc, .iadd, a, b, v, ts) :: is) ls (.int y :: .int x :: st) s = ak_ev lay cs rt Kc J is ls (.int (x + y) :: st) s := rfl
theorem e_isub {x y : Int32} : ak_ev lay cs rt Kc J ((pc, .isub, a, b, v, ts) :: is) ls (.int y :: .int x :: st) s = ak_ev lay cs rt Kc J is ls (.int (x - y) :: st) s := rfl
theorem e_imul {x y : Int32} : ak_ev lay cs rt Kc J ((pc, .imul, a, b, v, ts) :: is) ls (.int y :: .int x :: st) s = ak_ev lay cs rt Kc J is ls (.int (x * y) :: st) s := rfl
theorem e_lcmp {x y : Int64} : ak_ev lay cs rt Kc J ((pc, .lcmp, a, b, v, ts) :: is) ls (.long y :: .long x :: st) s = ak_ev lay cs rt Kc J is ls (.int (lg_cmp x y) :: st) s := rfl
theorem e_dupI {x : Int32} : ak_ev lay cs rt Kc J ((pc, .dup, a, b, v, ts) :: is) ls (.int x :: st) s = ak_ev lay cs rt Kc J is ls (.int x :: .int x :: st) s := rfl
theorem e_dupR {x : Nat} : ak_ev lay cs rt Kc J ((pc, .dup, a, b, v, ts) :: is) ls (.ref x :: st) s = ak_ev lay cs rt Kc J is ls (.ref x :: .ref x :: st) s := rfl
theorem e_dup2 {x : Int32} {y : Nat} : ak_ev lay cs rt Kc J ((pc, .dup2, a, b, v, ts) :: is) ls (.int x :: .ref y :: st) s = ak_ev lay cs rt Kc J is ls (.int x :: .ref y :: .int x :: .ref y :: st) s := rfl
theorem e_getfield {n k : Nat} : ak_ev lay cs rt Kc J ((pc, .getfield n, a, b, v, ts) :: is) ls (.ref k :: st) s = ak_gf (ak_nth lay k) a b (fun q => ak_ev lay cs rt Kc J is ls (.ref q :: st) s) (ak_ev lay cs rt Kc J is ls (.int (s.1 k b) :: st) s) := rfl
theorem e_putfield {n k : Nat} {x : Int32} : ak_ev lay cs rt Kc J ((pc, .putfield n, a, b, v, ts) :: is) ls (.int x :: .ref k :: st) s = ak_pf (ak_nth lay k) a b (ak_ev lay cs rt Kc J is ls st (ak_p1 s k b x)) := rfl
theorem e_iaload {k : Nat} {i : Int32} : ak_ev lay cs rt Kc J ((pc, .iaload, a, b, v, ts) :: is) ls (.int i :: .ref k :: st) s = ak_ai (ak_nth lay k) i (ak_ev lay cs rt Kc J is ls (.int (s.1 k i.toNatClampNeg) :: st) s) := rfl
theorem e_baload {k : Nat} {i : Int32} : ak_ev lay cs rt Kc J ((pc, .baload, a, b, v, ts) :: is) ls (.int i :: .ref k :: st) s = ak_az (ak_nth lay k) i (ak_ev lay cs rt Kc J is ls (.int (s.1 k i.toNatClampNeg) :: st) s) := rfl
theorem e_laload {k : Nat} {i : Int32} : ak_ev lay cs rt Kc J ((pc, .laload, a, b, v, ts) :: is) ls (.int i :: .ref k :: st) s = ak_al (ak_nth lay k) i (ak_ev lay cs rt Kc J is ls (.long (s.2 k i.toNatClampNeg) :: st) s) := rfl
theorem e_iastore {k : Nat} {i x : Int32} : ak_ev lay cs rt Kc J ((pc, .iastore, a, b, v, ts) :: is) ls (.int x :: .int i :: .ref k :: st) s = ak_ai (ak_nth lay k) i (ak_ev lay cs rt Kc J is ls st (ak_p1 s k i.toNatClampNeg x)) := rfl
theorem e_bastore {k : Nat} {i x : Int32} : ak_ev lay cs rt Kc J ((pc, .bastore, a, b, v, ts) :: is) ls (.int x :: .int i :: .ref k :: st) s = ak_az (ak_nth lay k) i (ak_ev lay cs rt Kc J is ls st (ak_p1 s k i.toNatClampNeg (x &&& 1))) := rfl
theorem e_lastore {k : Nat} {i : Int32} {x : Int64} : ak_ev lay cs rt Kc J ((pc, .lastore, a, b, v, ts) :: is) ls (.long x :: .int i :: .ref k :: st) s = ak_al (ak_nth lay k) i (ak_ev lay cs rt Kc J is ls st (ak_p2 s k i.toNatClampNeg x)) := rfl
theorem e_if {c : Jvm.ClassFile.Cond} {o : Int} {x : Int32} : ak_ev lay cs rt Kc J ((pc, .ifCond c o, a, b, v, ts) :: is) ls (.int x :: st) s = ak_b1 c x (ak_jp Kc J b a ls st s) (ak_ev lay cs rt Kc J is ls st s) := rfl
theorem e_icmp {c : Jvm.ClassFile.Cond} {o : Int} {x y : Int32} : ak_ev lay cs rt Kc J ((pc, .if_icmp c o, a, b, v, ts) :: is) ls (.int y :: .int x :: st) s = ak_b2 c x y (ak_jp Kc J b a ls st s) (ak_ev lay cs rt Kc J is ls st s) := rfl
theorem e_goto {o : Int} : ak_ev lay cs rt Kc J ((pc, .goto o, a, b, v, ts) :: is) ls st s = ak_jp Kc J b a ls st s := rfl
theorem e_tsw {d lo hi : Int} {offs : Array Int} {x : Int32} : ak_ev lay cs rt Kc J ((pc, .tableswitch d lo hi offs, a, b, v, ts) :: is) ls (.int x :: st) s = ak_sw x (fun t => Kc t ls st s) a ts := rfl
theorem e_ireturn0 {x : Int32} : ak_ev lay cs rt Kc J ((pc, .ireturn, a, 0, v, ts) :: is) ls [.int x] s = rt (some (.int x)) s := rfl
theorem e_ireturn1 {x : Int32} : ak_ev lay cs rt Kc J ((pc, .ireturn, a, 1, v, ts) :: is) ls [.int x] s = ((x = 0 ∨ x = 1) ∧ rt (some (.int x)) s) := rfl
theorem e_return : ak_ev lay cs rt Kc J ((pc, .return_, a, b, v, ts) :: is) ls [] s = rt none s := rfl
theorem e_call0 {n ci : Nat} {z : Int32} {x0 : Value} : ak_ev lay cs rt Kc J ((pc, .invokevirtual n, a, 0, v, [(z, ci)]) :: is) ls (x0 :: st) s = ((st.map fun v => v.category).sum ≤ 8 ∧ ak_rc lay [x0] ci ∧ cs a [x0] s (fun r s' => ak_ev lay cs rt Kc J is ls (r.toList ++ st) s')) := propext ⟨fun h => h.2, fun h => ⟨by simp, h⟩⟩
theorem e_call1 {n ci : Nat} {z : Int32} {x0 x1 : Value} : ak_ev lay cs rt Kc J ((pc, .invokevirtual n, a, 1, v, [(z, ci)]) :: is) ls (x1 :: x0 :: st) s = ((st.map fun v => v.category).sum ≤ 8 ∧ ak_rc lay [x0, x1] ci ∧ cs a [x0, x1] s (fun r s' => ak_ev lay cs rt Kc J is ls (r.toList ++ st) s')) := propext ⟨fun h => h.2, fun h => ⟨by simp, h⟩⟩
theorem e_call2 {n ci : Nat} {z : Int32} {x0 x1 x2 : Value} : ak_ev lay cs rt Kc J ((pc, .invokevirtual n, a, 2, v, [(z, ci)]) :: is) ls (x2 :: x1 :: x0 :: st) s = ((st.map fun v => v.category).sum ≤ 8 ∧ ak_rc lay [x0, x1, x2] ci ∧ cs a [x0, x1, x2] s (fun r s' => ak_ev lay cs rt Kc J is ls (r.toList ++ st) s')) := propext ⟨fun h => h.2, fun h => ⟨by simp, h⟩⟩
theorem e_call3 {n ci : Nat} {z : Int32} {x0 x1 x2 x3 : Value} : ak_ev lay cs rt Kc J ((pc, .invokevirtual n, a, 3, v, [(z, ci)]) :: is) ls (x3 :: x2 :: x1 :: x0 :: st) s = ((st.map fun v => v.category).sum ≤ 8 ∧ ak_rc lay [x0, x1, x2, x3] ci ∧ cs a [x0, x1, x2, x3] s (fun r s' => ak_ev lay cs rt Kc J is ls (r.toList ++ st) s')) := propext ⟨fun h => h.2, fun h => ⟨by simp, h⟩⟩
end AKX
