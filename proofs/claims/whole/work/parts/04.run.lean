/-! what a run of a block needs -/
def ak_b1 (c : Jvm.ClassFile.Cond) (x : Int32) (T F : Prop) : Prop := match c with
  | .eq => (x = 0 → T) ∧ (¬ x = 0 → F)
  | .ne => (¬ x = 0 → T) ∧ (x = 0 → F)
  | .lt => (x < 0 → T) ∧ (¬ x < 0 → F)
  | .ge => (0 ≤ x → T) ∧ (¬ 0 ≤ x → F)
  | .gt => (0 < x → T) ∧ (¬ 0 < x → F)
  | .le => (x ≤ 0 → T) ∧ (¬ x ≤ 0 → F)
def ak_b2 (c : Jvm.ClassFile.Cond) (x y : Int32) (T F : Prop) : Prop := match c with
  | .eq => (x = y → T) ∧ (¬ x = y → F)
  | .ne => (¬ x = y → T) ∧ (x = y → F)
  | .lt => (x < y → T) ∧ (¬ x < y → F)
  | .ge => (y ≤ x → T) ∧ (¬ y ≤ x → F)
  | .gt => (y < x → T) ∧ (¬ y < x → F)
  | .le => (x ≤ y → T) ∧ (¬ x ≤ y → F)
def ak_jp (Kc J : ak_KK) (b : Nat) : ak_KK := match b with
  | 0 => Kc
  | _ => J
/-- a receiver's class, by its place -/
def ak_rc (lay : List ak_C) (vs : List Value) (ci : Nat) : Prop := match vs with
  | .ref k :: _ => (match ak_nth lay k with
    | some (.inl (d, _)) => d = ci
    | _ => False)
  | _ => False
def ak_sw (x : Int32) (K : Nat → Prop) (d : Nat) : List (Int32 × Nat) → Prop
  | [] => K d
  | (k, t) :: r => (x = k → K t) ∧ (¬ x = k → ak_sw x K d r)
section AKE
variable (lay : List ak_C) (cs : Nat → ak_P) (rt : Option Value → ak_S → Prop) (Kc J : ak_KK)
def ak_st (go : ak_Ls → List Value → ak_S → Prop) (x : ak_I) (ls : ak_Ls) (st : List Value) (s : ak_S) : Prop := match x with
  | (pc, i, a, b, v, ts) => match i with
    | .nop => J pc ls st s
    | .iconst _ => go ls (.int v :: st) s
    | .bipush _ => go ls (.int v :: st) s
    | .sipush _ => go ls (.int v :: st) s
    | .lconst _ => go ls (.long v.toInt64 :: st) s
    | .iload _ => (match ak_nth ls a with | some (some (.int x)) => go ls (.int x :: st) s | _ => False)
    | .iload_n _ => (match ak_nth ls a with | some (some (.int x)) => go ls (.int x :: st) s | _ => False)
    | .lload _ => (match ak_nth ls a with | some (some (.long x)) => go ls (.long x :: st) s | _ => False)
    | .lload_n _ => (match ak_nth ls a with | some (some (.long x)) => go ls (.long x :: st) s | _ => False)
    | .aload _ => (match ak_nth ls a with | some (some (.ref x)) => go ls (.ref x :: st) s | _ => False)
    | .aload_n _ => (match ak_nth ls a with | some (some (.ref x)) => go ls (.ref x :: st) s | _ => False)
    | .istore _ => (match st with | .int x :: r => ak_ok1 ls a ∧ go (ak_set ls a (some (.int x))) r s | _ => False)
    | .istore_n _ => (match st with | .int x :: r => ak_ok1 ls a ∧ go (ak_set ls a (some (.int x))) r s | _ => False)
    | .lstore _ => (match st with | .long x :: r => ak_ok1 ls a ∧ go (ak_set (ak_set ls a (some (.long x))) (a + 1) none) r s | _ => False)
    | .lstore_n _ => (match st with | .long x :: r => ak_ok1 ls a ∧ go (ak_set (ak_set ls a (some (.long x))) (a + 1) none) r s | _ => False)
    | .astore _ => (match st with | .ref x :: r => ak_ok1 ls a ∧ go (ak_set ls a (some (.ref x))) r s | _ => False)
    | .astore_n _ => (match st with | .ref x :: r => ak_ok1 ls a ∧ go (ak_set ls a (some (.ref x))) r s | _ => False)
    | .iinc _ _ => (match ak_nth ls a with | some (some (.int x)) => ak_ok1 ls a ∧ go (ak_set ls a (some (.int (x + v)))) st s | _ => False)
    | .iadd => (match st with | .int y :: .int x :: r => go ls (.int (x + y) :: r) s | _ => False)
    | .isub => (match st with | .int y :: .int x :: r => go ls (.int (x - y) :: r) s | _ => False)
    | .imul => (match st with | .int y :: .int x :: r => go ls (.int (x * y) :: r) s | _ => False)
    | .iand => (match st with | .int y :: .int x :: r => go ls (.int (x &&& y) :: r) s | _ => False)
    | .lcmp => (match st with | .long y :: .long x :: r => go ls (.int (lg_cmp x y) :: r) s | _ => False)
    | .dup => (match st with | .int x :: r => go ls (.int x :: .int x :: r) s | .ref x :: r => go ls (.ref x :: .ref x :: r) s | _ => False)
    | .pop => (match st with | .int _ :: r => go ls r s | .ref _ :: r => go ls r s | _ => False)
    | .dup_x1 => (match st with | .int x :: .int y :: r => go ls (.int x :: .int y :: .int x :: r) s | .int x :: .ref y :: r => go ls (.int x :: .ref y :: .int x :: r) s | _ => False)
    | .dup_x2 => (match st with | .int x :: .int y :: .ref z :: r => go ls (.int x :: .int y :: .ref z :: .int x :: r) s | _ => False)
    | .dup2 => (match st with | .int x :: .ref y :: r => go ls (.int x :: .ref y :: .int x :: .ref y :: r) s | .int x :: .int y :: r => go ls (.int x :: .int y :: .int x :: .int y :: r) s | _ => False)
    | .getfield _ => (match st with
      | .ref k :: r => (match ak_nth lay k with
        | some (.inl (ci, fs)) => ci = a ∧ (match ak_nth fs b with
          | some (some q) => go ls (.ref q :: r) s
          | some none => go ls (.int (s.1 k b) :: r) s
          | none => False)
        | _ => False)
      | _ => False)
    | .putfield _ => (match st with
      | .int x :: .ref k :: r => (match ak_nth lay k with
        | some (.inl (ci, fs)) => ci = a ∧ (match ak_nth fs b with
          | some none => go ls r (ak_p1 s k b x)
          | _ => False)
        | _ => False)
      | _ => False)
    | .iaload => (match st with
      | .int i :: .ref k :: r => (match ak_nth lay k with
        | some (.inr (.int, n)) => vp_in i n ∧ go ls (.int (s.1 k i.toNatClampNeg) :: r) s
        | _ => False)
      | _ => False)
    | .baload => (match st with
      | .int i :: .ref k :: r => (match ak_nth lay k with
        | some (.inr (.boolean, n)) => vp_in i n ∧ go ls (.int (s.1 k i.toNatClampNeg) :: r) s
        | _ => False)
      | _ => False)
    | .laload => (match st with
      | .int i :: .ref k :: r => (match ak_nth lay k with
        | some (.inr (.long, n)) => vp_in i n ∧ go ls (.long (s.2 k i.toNatClampNeg) :: r) s
        | _ => False)
      | _ => False)
    | .iastore => (match st with
      | .int x :: .int i :: .ref k :: r => (match ak_nth lay k with
        | some (.inr (.int, n)) => vp_in i n ∧ go ls r (ak_p1 s k i.toNatClampNeg x)
        | _ => False)
      | _ => False)
    | .bastore => (match st with
      | .int x :: .int i :: .ref k :: r => (match ak_nth lay k with
        | some (.inr (.boolean, n)) => vp_in i n ∧ go ls r (ak_p1 s k i.toNatClampNeg (x &&& 1))
        | _ => False)
      | _ => False)
    | .lastore => (match st with
      | .long x :: .int i :: .ref k :: r => (match ak_nth lay k with
        | some (.inr (.long, n)) => vp_in i n ∧ go ls r (ak_p2 s k i.toNatClampNeg x)
        | _ => False)
      | _ => False)
    | .arraylength => (match st with
      | .ref k :: r => (match ak_nth lay k with
        | some (.inr (_, n)) => go ls (.int (nI n) :: r) s
        | _ => False)
      | _ => False)
    | .ifCond c _ => (match st with | .int x :: r => ak_b1 c x (ak_jp Kc J b a ls r s) (go ls r s) | _ => False)
    | .if_icmp c _ => (match st with | .int y :: .int x :: r => ak_b2 c x y (ak_jp Kc J b a ls r s) (go ls r s) | _ => False)
    | .goto _ => ak_jp Kc J b a ls st s
    | .tableswitch _ _ _ _ => (match st with | .int x :: r => ak_sw x (fun t => Kc t ls r s) a ts | _ => False)
    | .ireturn => (match st with
      | [.int x] => (match b with | 0 => rt (some (.int x)) s | _ => (x = 0 ∨ x = 1) ∧ rt (some (.int x)) s)
      | _ => False)
    | .return_ => (match st with | [] => rt none s | _ => False)
    | .invokevirtual _ => b + 1 ≤ st.length ∧ (((st.drop (b + 1)).map fun v => v.category).sum ≤ 8) ∧ (match ts with
      | [(_, ci)] => ak_rc lay (st.take (b + 1)).reverse ci ∧ cs a (st.take (b + 1)).reverse s (fun r s' => go ls (r.toList ++ st.drop (b + 1)) s')
      | _ => False)
    | .invokestatic _ => b ≤ st.length ∧ (((st.drop b).map fun v => v.category).sum ≤ 8) ∧ cs a (st.take b).reverse s (fun r s' => go ls (r.toList ++ st.drop b) s')
    | _ => False
def ak_ev : List ak_I → ak_Ls → List Value → ak_S → Prop
  | [], _, _, _ => False
  | x :: is, ls, st, s => ak_st lay cs rt Kc J (ak_ev is) x ls st s
end AKE
def ak_find (bl : List (Nat × List ak_I)) (pc : Nat) : List ak_I := match bl with
  | [] => []
  | (k, is) :: r => if k = pc then is else ak_find r pc
/-- n jumps, then (and at the cuts) J -/
def ak_run (lay : List ak_C) (cs : Nat → ak_P) (rt : Option Value → ak_S → Prop) (J : ak_KK) (bl : List (Nat × List ak_I)) : Nat → ak_KK
  | 0 => J
  | n + 1 => fun pc ls st s => ak_ev lay cs rt (ak_run lay cs rt J bl n) J (ak_find bl pc) ls st s
/-! the table of a method's instructions is as the bytes say -/
def ak_len : Jvm.ClassFile.Instr → Nat
  | .bipush _ => 2
  | .sipush _ => 3
  | .iload _ => 2
  | .lload _ => 2
  | .aload _ => 2
  | .istore _ => 2
  | .lstore _ => 2
  | .astore _ => 2
  | .iinc _ _ => 3
  | .getfield _ => 3
  | .putfield _ => 3
  | .ifCond _ _ => 3
  | .if_icmp _ _ => 3
  | .goto _ => 3
  | .invokevirtual _ => 3
  | .invokestatic _ => 3
  | _ => 1
def ak_dec (cc : ByteArray) (pc : Nat) (i : Jvm.ClassFile.Instr) : Bool := decide (decode cc pc = .ok (i, ak_len i))
/-- a switch's table -/
def ak_swok (pc : Nat) : Int → List Int → List (Int32 × Nat) → Bool
  | _, [], [] => true
  | lo, o :: os, (k, t) :: r => decide (k.toInt = lo) && decide ((pc : Int) + o = (t : Int)) && ak_swok pc (lo + 1) os r
  | _, _, _ => false
def ak_ok (cc : ByteArray) (Ts : List Cond) (own : String) (cl : List vw_C) (nL : Nat) (rty : Option FieldType) (reg : List (Nat × Nat × Nat)) (x : ak_I) : Bool := match x with
  | (pc, i, a, b, v, ts) => match i with
    | .nop => true
    | .iconst n => ak_dec cc pc i && decide (Int32.ofInt n = v)
    | .bipush n => ak_dec cc pc i && decide ((Int8.ofInt n).toInt32 = v)
    | .sipush n => ak_dec cc pc i && decide ((Int16.ofInt n).toInt32 = v)
    | .lconst n => ak_dec cc pc i && decide (Int64.ofNat (n : Nat) = v.toInt64)
    | .iload n => ak_dec cc pc i && decide (n = a)
    | .iload_n n => ak_dec cc pc i && decide ((n : Nat) = a)
    | .lload n => ak_dec cc pc i && decide (n = a)
    | .lload_n n => ak_dec cc pc i && decide ((n : Nat) = a)
    | .aload n => ak_dec cc pc i && decide (n = a)
    | .aload_n n => ak_dec cc pc i && decide ((n : Nat) = a)
    | .istore n => ak_dec cc pc i && decide (n = a) && decide (a < nL)
    | .istore_n n => ak_dec cc pc i && decide ((n : Nat) = a) && decide (a < nL)
    | .lstore n => ak_dec cc pc i && decide (n = a) && decide (a + 1 < nL)
    | .lstore_n n => ak_dec cc pc i && decide ((n : Nat) = a) && decide (a + 1 < nL)
    | .astore n => ak_dec cc pc i && decide (n = a) && decide (a < nL)
    | .astore_n n => ak_dec cc pc i && decide ((n : Nat) = a) && decide (a < nL)
    | .iinc n k => ak_dec cc pc i && decide (n = a) && decide (Int32.ofInt k = v) && decide (a < nL)
    | .getfield n => ak_dec cc pc i && (match cl[a]?, ts with
      | some (_, T, N), [(_, w)] => decide (b < N) && decide (ak_nth Ts w = some (Cond.fieldLink own n (T b).1 (T b).2.1 (T b).2.2.1))
      | _, _ => false)
    | .putfield n => ak_dec cc pc i && (match cl[a]?, ts with
      | some (_, T, N), [(_, w)] => decide (b < N) && decide ((T b).2.2.2 = false) && decide (parseFieldDescriptor (T b).2.2.1 = some .int) && decide (ak_nth Ts w = some (Cond.fieldLink own n (T b).1 (T b).2.1 (T b).2.2.1))
      | _, _ => false)
    | .ifCond _ o => ak_dec cc pc i && decide ((pc : Int) + o = (a : Int))
    | .if_icmp _ o => ak_dec cc pc i && decide ((pc : Int) + o = (a : Int))
    | .goto o => ak_dec cc pc i && decide ((pc : Int) + o = (a : Int))
    | .tableswitch d lo hi offs => (match decode cc pc with | .ok (j, _) => decide (j = i) | _ => false) && decide ((pc : Int) + d = (a : Int)) && decide (lo + offs.size = hi + 1) && ak_swok pc lo offs.toList ts
    | .ireturn => ak_dec cc pc i && (match b with | 0 => decide (rty = some .int) | _ => decide (rty = some .boolean))
    | .return_ => ak_dec cc pc i && decide (rty = none)
    | .invokevirtual n => ak_dec cc pc i && (match ts with | [(_, ci)] => decide (ak_nth reg a = some (n, b, ci)) | _ => false)
    | .invokestatic n => ak_dec cc pc i && decide (ak_nth reg a = some (n, b, 1000))
    | _ => ak_dec cc pc i
def ak_okB (cc : ByteArray) (Ts : List Cond) (own : String) (cl : List vw_C) (nL : Nat) (rty : Option FieldType) (reg : List (Nat × Nat × Nat)) : Nat → List ak_I → Bool
  | _, [] => true
  | pc, x :: r => decide (x.1 = pc) && ak_ok cc Ts own cl nL rty reg x && ak_okB cc Ts own cl nL rty reg (pc + ak_len x.2.1) r
def ak_okM (cc : ByteArray) (Ts : List Cond) (own : String) (cl : List vw_C) (nL : Nat) (rty : Option FieldType) (reg : List (Nat × Nat × Nat)) (bl : List (Nat × List ak_I)) : Bool := bl.all (fun q => ak_okB cc Ts own cl nL rty reg q.1 q.2)
