/-! THE CLAIM OUT OF ONE WALK OF THE LAW'S BODY. Your part is whole_start (and what it stands on); all else here is the same for every law, but numbers. -/
def R_law : String := "LogicalPairsLaw"
def lw_P (b : Addr) (xs : List Int32) (args : Array Value) (s : State) : Prop := args = #[.ref b] ∧ s.IntsAt b xs ∧ xs.length ≤ 2560 ∧ (Jvm.Cond.and given_1 narrow_1).before args s = true
def lw_Q (_ : Array Value) (s : State) (o : Outcome) (t : State) : Prop := o = .returned (some (.int 1)) ∧ Framed s o t [] 34 5702
def lw_Z (below : List Frame) (a : Array Value) (s : State) : State → Prop := fun t => ∃ o, t.status = .running ∧ Ended t below o ∧ lw_Q a s o t
/-- the law's own end, with 1 on the stack, nothing written that was there before, its room as the claim has it -/
theorem lw_ret {p : Program} {l : Launch} {e : Env} {s : State} {m : MethodId} {below : List Frame} {meth : Method} {c : Code} {b : Nat} (hx : p.tables.exec = Jvm.exec) (hb : c.code = code) (hr : meth.sig.returnType = ret) (hlocks : meth.locks = false) {pc : Nat} {H : Heap} {ls : Array Slot} (hdg : decode code pc = .ok (.ireturn, 1)) : W p l e room_1 s m #[Value.ref b] below meth c H [] 34 5702 (lw_Z below #[Value.ref b] s) (F0 m pc ls [.int 1]) := by
  intro T hT X
  obtain ⟨fs, hret, hrun, hended, hW, hframe⟩ := X.leave (v := some (.int 1)) (hlocks := hlocks) (fun h => by rw [hr] at h; cases h)
  have hmeth' : T.vm.method? m = some meth := X.method'
  refine ⟨T.setFrames fs, ?_, .returned (some (.int 1)), hrun, hended, rfl, ⟨_, rfl⟩, hW, hframe⟩
  jvm_step X.here [X.here.top, hx, hb, hdg, hmeth', hr, ret, narrow_b1]
  (try refine ⟨rfl, ?_⟩); (try refine ⟨rfl, ?_⟩)
  first | (intro acts; rw [hret _ acts rfl rfl rfl]) | rw [hret _ _ rfl rfl rfl]
  exact Steps.refl _
/-- what holds at the law's entry: the machine, the code, the tables' words (any of lw_tbl by 'hts w (by decide +kernel)'), the script of L ints xs at the cell b, what the Statement gives of the start (any of its parts by flat_of_before) -/
def lw_At (p : Program) (s : State) (m : MethodId) (meth : Method) (c : Code) (b L : Nat) (xs : Nat → Int32) : Prop :=
  p.tables.exec = Jvm.exec ∧ c.code = code ∧ meth.sig.returnType = ret ∧ c.maxLocals = 4 ∧ s.vm.findClass R_law = some m.cls ∧ (∀ w ∈ lw_tbl, w.before #[Value.ref b] s = true) ∧ va_X b L xs s s.heap ∧ b < s.heap.size ∧ meth.locks = false ∧ (Jvm.Cond.and given_1 narrow_1).before #[Value.ref b] s = true
/-! the law's two worlds side by side: the class's places 0.., the reference's 20.., the script's 34 -/
def lay_W : List ak_C := lay_C ++ lay_M.map (ak_shx 20)
theorem sub_C : ∀ k x, ak_nth lay_C k = some x → ak_nth lay_W (0 + k) = some (ak_shx 0 x) := by
  intro k x h
  rw [Nat.zero_add]
  match k, h with
  | 0, h => cases h; rfl
  | 1, h => cases h; rfl
  | 2, h => cases h; rfl
  | 3, h => cases h; rfl
  | 4, h => cases h; rfl
  | 5, h => cases h; rfl
  | 6, h => cases h; rfl
  | 7, h => cases h; rfl
  | 8, h => cases h; rfl
  | 9, h => cases h; rfl
  | 10, h => cases h; rfl
  | 11, h => cases h; rfl
  | 12, h => cases h; rfl
  | 13, h => cases h; rfl
  | 14, h => cases h; rfl
  | 15, h => cases h; rfl
  | 16, h => cases h; rfl
  | 17, h => cases h; rfl
  | 18, h => cases h; rfl
  | 19, h => cases h; rfl
  | k + 20, h => cases h
theorem sub_M : ∀ k x, ak_nth lay_M k = some x → ak_nth lay_W (20 + k) = some (ak_shx 20 x) := by
  intro k x h
  match k, h with
  | 0, h => cases h; rfl
  | 1, h => cases h; rfl
  | 2, h => cases h; rfl
  | 3, h => cases h; rfl
  | 4, h => cases h; rfl
  | 5, h => cases h; rfl
  | 6, h => cases h; rfl
  | 7, h => cases h; rfl
  | 8, h => cases h; rfl
  | 9, h => cases h; rfl
  | 10, h => cases h; rfl
  | 11, h => cases h; rfl
  | 12, h => cases h; rfl
  | 13, h => cases h; rfl
  | k + 14, h => cases h
/-- what stands through the law's loop -/
def lk_C (p : Program) (s : State) (m : MethodId) (meth : Method) (c : Code) (b L : Nat) (xs : Nat → Int32) (D : va_G) (ad : Nat → Nat) (tyc : Nat → ClassId) : Prop :=
  lw_At p s m meth c b L xs ∧ L ≤ 2560 ∧ ak_K D cl_all lay_W tyc s ∧ ak_Inj lay_W ad ∧ (∀ k, k < lay_W.length → s.heap.size ≤ ad k) ∧ ad 34 = b
def lk_J (p : Program) (l : Launch) (e : Env) (s : State) (m : MethodId) (below : List Frame) (meth : Method) (c : Code) (b : Nat) (D : va_G) (ad : Nat → Nat) (tyc : Nat → ClassId) : ak_KK :=
  ak_J p l e room_1 s m #[Value.ref b] below meth c 34 5702 (lw_Z below #[Value.ref b] s) D cl_all lay_W ad tyc (fun q : Nat => s.heap.size ≤ q) s.heap 4
def lkl (i : Nat) : ak_Ls := [some (.ref 34), some (.ref 0), some (.ref 20), some (.int (nI i))]
theorem cl_law : ak_CL cl_all lw_tbl := by
  intro q hq
  obtain ⟨h1, h2, h3⟩ := cl_ok (.methodLink "" 0 y_L_kind) q hq
  refine ⟨h1, h2, fun w hw => ?_⟩
  simp only [cl_all, List.mem_cons, List.not_mem_nil, or_false] at hq
  rcases hq with rfl | rfl | rfl | rfl | rfl | rfl
  · exact wd_in w (in_L w hw)
  · exact wd_in w (in_K w hw)
  · exact wd_in w (in_S w hw)
  · exact wd_in w (in_X w hw)
  · exact wd_in w (in_D w hw)
  · exact wd_in w (in_M w hw)
section LAW
variable {p : Program} {l : Launch} {e : Env} {s : State} {m : MethodId} {below : List Frame} {meth : Method} {c : Code} {b L : Nat} {xs : Nat → Int32} {D : va_G} {ad : Nat → Nat} {tyc : Nat → ClassId}
theorem lk_C.g (C : lk_C p s m meth c b L xs D ad tyc) : ak_G p s m #[Value.ref b] c code lw_tbl R_law D cl_all lay_W ad tyc (fun q : Nat => s.heap.size ≤ q) := by
  obtain ⟨⟨hx, hb, hr, hml, hown, hts, hX, hbl, hlocks, hgv⟩, hL, hK, hinj, hA, had⟩ := C
  exact ⟨hx, hb, hts, hown, hK, hinj, hA, cl_law⟩
/-- any instruction that the machine of methods knows, calls and returns aside -/
theorem lk_row (C : lk_C p s m meth c b L xs D ad tyc) {x : ak_I} (hok : ak_ok code lw_tbl R_law cl_all 4 none [] x = true) (hnr : x.2.1 ≠ .return_) {ls : ak_Ls} {st : List Value} {σ : ak_S}
    (h : ak_st lay_W (fun _ _ _ _ => False) (fun _ _ => False) (lk_J p l e s m below meth c b D ad tyc) (lk_J p l e s m below meth c b D ad tyc) (lk_J p l e s m below meth c b D ad tyc (x.1 + ak_len x.2.1)) x ls st σ) : lk_J p l e s m below meth c b D ad tyc x.1 ls st σ := by
  refine ak_st_sound (rty := none) (reg := []) (cs := fun _ _ _ _ => False) (rt := fun _ _ => False) _ rfl C.g (fun _ _ _ _ h => h) (fun _ _ _ _ h => h) (fun pc ls x s _ _ h => h.elim) (fun pc ls s _ _ h => h.elim) (fun a n b ci h => ?_) (fun a n b h => ?_) hok (fun _ _ _ h => h) h
  · cases a <;> cases h
  · cases a <;> cases h
theorem r_a1 (C : lk_C p s m meth c b L xs D ad tyc) {pc i : Nat} {st : List Value} {σ : ak_S} (hd : decode code pc = .ok (.aload_n 1, 1)) (h : lk_J p l e s m below meth c b D ad tyc (pc + 1) (lkl i) (.ref 0 :: st) σ) : lk_J p l e s m below meth c b D ad tyc pc (lkl i) st σ := by
  obtain ⟨⟨hx, hb, hr, hml, hown, hts, hX, hbl, hlocks, hgv⟩, hL, hK, hinj, hA, had⟩ := C
  intro H locs lsA hP hS hl
  exact lv_aload_n hx hb hd rfl (hl.2.2 1 _ rfl) (h H locs lsA hP hS hl)
theorem r_a2 (C : lk_C p s m meth c b L xs D ad tyc) {pc i : Nat} {st : List Value} {σ : ak_S} (hd : decode code pc = .ok (.aload_n 2, 1)) (h : lk_J p l e s m below meth c b D ad tyc (pc + 1) (lkl i) (.ref 20 :: st) σ) : lk_J p l e s m below meth c b D ad tyc pc (lkl i) st σ := by
  obtain ⟨⟨hx, hb, hr, hml, hown, hts, hX, hbl, hlocks, hgv⟩, hL, hK, hinj, hA, had⟩ := C
  intro H locs lsA hP hS hl
  exact lv_aload_n hx hb hd rfl (hl.2.2 2 _ rfl) (h H locs lsA hP hS hl)
/-- script[i + k] -/
theorem r_s (C : lk_C p s m meth c b L xs D ad tyc) {pc i k : Nat} {kk : Int} {st : List Value} {σ : ak_S} (hi : i + 5 ≤ L) (hk : k < 5) (hv : Int32.ofInt kk = nI k)
    (hd : decode code pc = .ok (.aload_n 0, 1) ∧ decode code (pc + 1) = .ok (.iload_n 3, 1) ∧ decode code (pc + 2) = .ok (.iconst kk, 1) ∧ decode code (pc + 3) = .ok (.iadd, 1) ∧ decode code (pc + 4) = .ok (.iaload, 1))
    (h : lk_J p l e s m below meth c b D ad tyc (pc + 5) (lkl i) (.int (xs (i + k)) :: st) σ) : lk_J p l e s m below meth c b D ad tyc pc (lkl i) st σ := by
  obtain ⟨⟨hx, hb, hr, hml, hown, hts, hX, hbl, hlocks, hgv⟩, hL, hK, hinj, hA, had⟩ := C
  obtain ⟨d0, d1, d2, d3, d4⟩ := hd
  intro H locs lsA hP hS hl
  subst had
  refine lv_aload_n hx hb d0 rfl (hl.2.2 0 _ rfl) ?_
  refine lv_iload_n hx hb d1 rfl (hl.2.2 3 _ rfl) ?_
  refine lv_iconst (v := nI k) hx hb d2 hv ?_
  refine lv_iadd hx hb d3 ?_
  rw [nI_add]
  refine va_sld hx hb hX hbl (Nat.not_le.mpr hbl) hS (vp_in_nI (by omega) (by omega)) d4 ?_
  rw [nI_clamp (by omega)]
  exact h H locs lsA hP hS hl
theorem r_i2l (C : lk_C p s m meth c b L xs D ad tyc) {pc i : Nat} {x : Int32} {st : List Value} {σ : ak_S} (hd : decode code pc = .ok (.i2l, 1)) (h : lk_J p l e s m below meth c b D ad tyc (pc + 1) (lkl i) (.long x.toInt64 :: st) σ) : lk_J p l e s m below meth c b D ad tyc pc (lkl i) (.int x :: st) σ := by
  obtain ⟨⟨hx, hb, hr, hml, hown, hts, hX, hbl, hlocks, hgv⟩, hL, hK, hinj, hA, had⟩ := C
  intro H locs lsA hP hS hl
  exact lv_i2l hx hb hd rfl (h H locs lsA hP hS hl)
theorem r_shl (C : lk_C p s m meth c b L xs D ad tyc) {pc i : Nat} {x : Int64} {st : List Value} {σ : ak_S} (hd : decode code pc = .ok (.bipush 32, 2) ∧ decode code (pc + 2) = .ok (.lshl, 1)) (h : lk_J p l e s m below meth c b D ad tyc (pc + 3) (lkl i) (.long (x <<< ((32 : Int32).toInt64 &&& 63)) :: st) σ) : lk_J p l e s m below meth c b D ad tyc pc (lkl i) (.long x :: st) σ := by
  obtain ⟨⟨hx, hb, hr, hml, hown, hts, hX, hbl, hlocks, hgv⟩, hL, hK, hinj, hA, had⟩ := C
  intro H locs lsA hP hS hl
  refine lv_bipush (v := 32) hx hb hd.1 (by decide) ?_
  exact lv_lshl hx hb hd.2 rfl (h H locs lsA hP hS hl)
theorem r_ldc (C : lk_C p s m meth c b L xs D ad tyc) {pc i : Nat} {st : List Value} {σ : ak_S} (hd : decode code pc = .ok (.ldc2_w 23, 3)) (h : lk_J p l e s m below meth c b D ad tyc (pc + 3) (lkl i) (.long 4294967295 :: st) σ) : lk_J p l e s m below meth c b D ad tyc pc (lkl i) st σ := by
  obtain ⟨⟨hx, hb, hr, hml, hown, hts, hX, hbl, hlocks, hgv⟩, hL, hK, hinj, hA, had⟩ := C
  intro H locs lsA hP hS hl
  exact lv_ldc2 hx hb hown (hts (.constantLong R_law 23 4294967295) (by decide +kernel)) hd (h H locs lsA hP hS hl)
theorem r_land (C : lk_C p s m meth c b L xs D ad tyc) {pc i : Nat} {x y : Int64} {st : List Value} {σ : ak_S} (hd : decode code pc = .ok (.land, 1)) (h : lk_J p l e s m below meth c b D ad tyc (pc + 1) (lkl i) (.long (x &&& y) :: st) σ) : lk_J p l e s m below meth c b D ad tyc pc (lkl i) (.long y :: .long x :: st) σ := by
  obtain ⟨⟨hx, hb, hr, hml, hown, hts, hX, hbl, hlocks, hgv⟩, hL, hK, hinj, hA, had⟩ := C
  intro H locs lsA hP hS hl
  exact lv_land hx hb hd (h H locs lsA hP hS hl)
theorem r_lor (C : lk_C p s m meth c b L xs D ad tyc) {pc i : Nat} {x y : Int64} {st : List Value} {σ : ak_S} (hd : decode code pc = .ok (.lor, 1)) (h : lk_J p l e s m below meth c b D ad tyc (pc + 1) (lkl i) (.long (x ||| y) :: st) σ) : lk_J p l e s m below meth c b D ad tyc pc (lkl i) (.long y :: .long x :: st) σ := by
  obtain ⟨⟨hx, hb, hr, hml, hown, hts, hX, hbl, hlocks, hgv⟩, hL, hK, hinj, hA, had⟩ := C
  intro H locs lsA hP hS hl
  exact lv_lor hx hb hd (h H locs lsA hP hS hl)
/-- x != 0 as a value -/
theorem r_ne (C : lk_C p s m meth c b L xs D ad tyc) {pc i : Nat} {x : Int32} {st : List Value} {σ : ak_S} (hd : decode code pc = .ok (.ifCond .eq 7, 3) ∧ decode code (pc + 3) = .ok (.iconst 1, 1) ∧ decode code (pc + 4) = .ok (.goto 4, 3) ∧ decode code (pc + 7) = .ok (.iconst 0, 1))
    (h : lk_J p l e s m below meth c b D ad tyc (pc + 8) (lkl i) (.int (if x = 0 then 0 else 1) :: st) σ) : lk_J p l e s m below meth c b D ad tyc pc (lkl i) (.int x :: st) σ := by
  obtain ⟨⟨hx, hb, hr, hml, hown, hts, hX, hbl, hlocks, hgv⟩, hL, hK, hinj, hA, had⟩ := C
  intro H locs lsA hP hS hl
  have hz := h H locs lsA hP hS hl
  refine lv_if_eq (tgt := pc + 7) hx hb hd.1 (by push_cast; omega) (fun q => ?_) (fun q => ?_)
  · rw [if_pos q] at hz
    exact lv_iconst (v := 0) hx hb hd.2.2.2 (by decide) hz
  · rw [if_neg q] at hz
    refine lv_iconst (v := 1) hx hb hd.2.1 (by decide) ?_
    exact lv_goto (tgt := pc + 8) hx hb hd.2.2.1 (by push_cast; omega) hz
/-- both answers are the same: on at 582 -/
theorem r_eq (C : lk_C p s m meth c b L xs D ad tyc) {pc i : Nat} {o : Int} {x y : Int32} {st : List Value} {σ : ak_S} (hd : decode code pc = .ok (.if_icmp .eq o, 3)) (ho : (pc : Int) + o = ((582 : Nat) : Int)) (hxy : x = y) (h : lk_J p l e s m below meth c b D ad tyc 582 (lkl i) st σ) : lk_J p l e s m below meth c b D ad tyc pc (lkl i) (.int y :: .int x :: st) σ := by
  obtain ⟨⟨hx, hb, hr, hml, hown, hts, hX, hbl, hlocks, hgv⟩, hL, hK, hinj, hA, had⟩ := C
  intro H locs lsA hP hS hl
  exact lv_icmp_eq (tgt := 582) hx hb hd ho (fun q => h H locs lsA hP hS hl) (fun q => absurd hxy q)
end LAW
