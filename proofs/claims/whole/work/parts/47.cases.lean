/-! calls of the law; its cases, laid by program (wip/whole/gen3.py) -/
def lk_I (σ : ak_S) : Prop := ∃ a, AI a ∧ RC (ak_dn 0 σ) a ∧ RM (ak_dn 20 σ) a
theorem RC_cong {s t : ak_S} {a : ab_T} (h : ∀ k, k < 20 → s.1 k = t.1 k ∧ s.2 k = t.2 k) (hR : RC t a) : RC s a := by
  unfold RC BK at *
  rw [(h 1 (by decide)).1, (h 2 (by decide)).1, (h 3 (by decide)).1, (h 5 (by decide)).1, (h 6 (by decide)).1, (h 7 (by decide)).1, (h 8 (by decide)).1, (h 9 (by decide)).1, (h 11 (by decide)).1, (h 12 (by decide)).1, (h 13 (by decide)).1, (h 14 (by decide)).1, (h 15 (by decide)).1, (h 16 (by decide)).1, (h 17 (by decide)).1, (h 10 (by decide)).2]
  exact hR
theorem RM_cong {s t : ak_S} {a : ab_T} (h : ∀ k, k < 14 → s.1 k = t.1 k ∧ s.2 k = t.2 k) (hR : RM t a) : RM s a := by
  unfold RM at *
  rw [(h 0 (by decide)).1, (h 1 (by decide)).1, (h 2 (by decide)).1, (h 3 (by decide)).1, (h 4 (by decide)).1, (h 5 (by decide)).1, (h 6 (by decide)).1, (h 7 (by decide)).1, (h 8 (by decide)).1, (h 12 (by decide)).1, (h 13 (by decide)).1, (h 9 (by decide)).2]
  exact hR
theorem dn_in {off n k : Nat} {σ t : ak_S} (hk : k < n) : (ak_dn off (ak_up off n σ t)).1 k = t.1 k ∧ (ak_dn off (ak_up off n σ t)).2 k = t.2 k := by
  constructor
  · show (if off ≤ off + k ∧ off + k < off + n then t.1 (off + k - off) else σ.1 (off + k)) = t.1 k
    rw [if_pos (by omega), Nat.add_sub_cancel_left]
  · show (if off ≤ off + k ∧ off + k < off + n then t.2 (off + k - off) else σ.2 (off + k)) = t.2 k
    rw [if_pos (by omega), Nat.add_sub_cancel_left]
theorem dn_out {off o2 n k : Nat} {σ t : ak_S} (hk : ¬ (off ≤ o2 + k ∧ o2 + k < off + n)) : (ak_dn o2 (ak_up off n σ t)).1 k = (ak_dn o2 σ).1 k ∧ (ak_dn o2 (ak_up off n σ t)).2 k = (ak_dn o2 σ).2 k := by
  constructor
  · show (if off ≤ o2 + k ∧ o2 + k < off + n then t.1 (o2 + k - off) else σ.1 (o2 + k)) = σ.1 (o2 + k)
    rw [if_neg hk]
  · show (if off ≤ o2 + k ∧ o2 + k < off + n then t.2 (o2 + k - off) else σ.2 (o2 + k)) = σ.2 (o2 + k)
    rw [if_neg hk]
section LAWC
variable {p : Program} {l : Launch} {e : Env} {s : State} {m : MethodId} {below : List Frame} {meth : Method} {c : Code} {b L : Nat} {xs : Nat → Int32} {D : va_G} {ad : Nat → Nat} {tyc : Nat → ClassId}
theorem lk_cw (C : lk_C p s m meth c b L xs D ad tyc) {y : MethodName} {bytes : ByteArray} {mL : Nat} {ret : Option FieldType} {rmC : Room} {n nb : Nat} {q : vw_C} (p1 p2 p3 p4 p5 : Nat)
    (hp : ak_nth wd_tbl p1 = some (.methodLink R_law n y) ∧ ak_nth wd_tbl p2 = some (.instanceMethod y) ∧ ak_nth wd_tbl p3 = some (.selects q.1 y y) ∧ ak_nth wd_tbl p4 = some (.initialized q.1) ∧ ak_nth wd_tbl p5 = some (.code y bytes mL ret)) (hz : rmC.cells = 0 ∧ rmC.slots = 0)
    (hd : y.cls = q.1 ∧ y.cls ≠ "java/lang/invoke/MethodHandle" ∧ y.cls ≠ "java/lang/invoke/VarHandle" ∧ (parseMethodDescriptor y.desc).map (fun d => d.parameters.length) = some nb) (hR : rmC.frames + 1 ≤ room_1.frames ∧ 8 + (mL + 11) + rmC.locals ≤ room_1.locals) : CallW room_1 s #[Value.ref b] R_law q.1 n y bytes mL ret (.code y bytes mL ret :: wd_tbl) rmC 0 0 nb := by
  obtain ⟨⟨hx, hb, hr, hml, hown, hts, hX, hbl, hlocks, hgv⟩, hL, hK, hinj, hA, had⟩ := C
  refine cwV nb hts ?_ rfl hz.1 hz.2 hd hR
  intro w hw
  have hin : w ∈ wd_tbl := by
    unfold wsV at hw
    simp only [List.mem_append, List.mem_cons, List.not_mem_nil, or_false] at hw
    rcases hw with (rfl | rfl | rfl | rfl) | rfl | h
    · exact ak_mem hp.1
    · exact ak_mem hp.2.1
    · exact ak_mem hp.2.2.1
    · exact ak_mem hp.2.2.2.1
    · exact ak_mem hp.2.2.2.2
    · exact h
  exact ⟨wd_in w hin, good_of_word (wd_good w hin)⟩
theorem lk_call (C : lk_C p s m meth c b L xs D ad tyc) {lay : List ak_C} {off ci : Nat} {y : MethodName} {bytes : ByteArray} {mL : Nat} {ret : Option FieldType} {rmC : Room} {pt : ak_P} {n nb : Nat} {q : vw_C} (hsub : ∀ k x, ak_nth lay k = some x → ak_nth lay_W (off + k) = some (ak_shx off x)) (C0 : ak_Ctr l cl_all lay y (.code y bytes mL ret :: wd_tbl) rmC pt) (hq : cl_all[ci]? = some q)
    (cw : CallW room_1 s #[Value.ref b] R_law q.1 n y bytes mL ret (.code y bytes mL ret :: wd_tbl) rmC 0 0 nb) {pc : Nat} {ls : ak_Ls} {vs rest : List Value} {σ : ak_S} (hd : decode code pc = .ok (.invokevirtual n, 3)) (hlen : vs.length = nb) (hvs : vs.map (ak_shv off) = vs) (hrc : ak_rc lay_W (.ref off :: vs) ci) (hsum : (rest.map fun v => v.category).sum ≤ 8)
    (hpt : pt (.ref 0 :: vs) (ak_dn off σ) (fun r t => lk_J p l e s m below meth c b D ad tyc (pc + 3) ls ((r.map (ak_shv off)).toList ++ rest) (ak_up off lay.length σ t))) : lk_J p l e s m below meth c b D ad tyc pc ls (vs.reverse ++ .ref off :: rest) σ := by
  have g := C.g
  obtain ⟨⟨hx, hb, hr, hml, hown, hts, hX, hbl, hlocks, hgv⟩, hL, hK, hinj, hA, had⟩ := C
  have h := ak_hcv (e := e) (below := below) (meth := meth) (cells := 34) (slots := 5702) (Q := lw_Z below #[Value.ref b] s) (H0 := s.heap) g hml (fun _ h => h) ⟨Nat.le_of_ble_eq_true rfl, Nat.le_of_ble_eq_true rfl⟩ hq (ak_lifts C0 hsub) cw pc ls (.ref off :: vs) rest σ (fun r s' => lk_J p l e s m below meth c b D ad tyc (pc + 3) ls (r.toList ++ rest) s') hd (by rw [List.length_cons, hlen]) hrc hsum ⟨.ref 0 :: vs, by rw [List.map_cons, hvs]; rfl, hpt⟩ (fun r s' h => h)
  rw [List.reverse_cons, List.append_assoc] at h
  exact h
theorem lk_c1 (C : lk_C p s m meth c b L xs D ad tyc) {y : MethodName} {bytes : ByteArray} {mL : Nat} {ret : Option FieldType} {rmC : Room} {pt : ak_P} {n nb : Nat} (C0 : ak_Ctr l cl_all lay_C y (.code y bytes mL ret :: wd_tbl) rmC pt)
    (cw : CallW room_1 s #[Value.ref b] R_law "LogicalPairs" n y bytes mL ret (.code y bytes mL ret :: wd_tbl) rmC 0 0 nb) {pc : Nat} {ls : ak_Ls} {vs : List Value} {σ : ak_S} {a a' : ab_T} {r : Int32} (hR : RC (ak_dn 0 σ) a) (hM : RM (ak_dn 20 σ) a) (h1 : ∀ (s : ak_S) (Q : Option Value → ak_S → Prop), RC s a → (∀ s', RC s' a' → Q (some (.int r)) s') → pt (.ref 0 :: vs) s Q)
    (hd : decode code pc = .ok (.invokevirtual n, 3)) (hlen : vs.length = nb) (hvs : vs.map (ak_shv 0) = vs)
    (h : ∀ σ', RC (ak_dn 0 σ') a' → RM (ak_dn 20 σ') a → lk_J p l e s m below meth c b D ad tyc (pc + 3) ls [.int r] σ') : lk_J p l e s m below meth c b D ad tyc pc ls (vs.reverse ++ .ref 0 :: []) σ := by
  refine lk_call (ci := 0) C sub_C C0 rfl cw hd hlen hvs rfl (by decide) (h1 _ _ hR (fun s' hs' => ?_))
  exact h _ (RC_cong (fun k hk => dn_in hk) hs') (RM_cong (fun k hk => dn_out (by show ¬ (0 ≤ 20 + k ∧ 20 + k < 0 + 20); omega)) hM)
theorem lk_c2 (C : lk_C p s m meth c b L xs D ad tyc) {y : MethodName} {bytes : ByteArray} {mL : Nat} {ret : Option FieldType} {rmC : Room} {pt : ak_P} {n nb : Nat} (C0 : ak_Ctr l cl_all lay_M y (.code y bytes mL ret :: wd_tbl) rmC pt)
    (cw : CallW room_1 s #[Value.ref b] R_law "LogicalPairsModel" n y bytes mL ret (.code y bytes mL ret :: wd_tbl) rmC 0 0 nb) {pc : Nat} {i : Nat} {o : Int} {vs : List Value} {σ : ak_S} {a a' : ab_T} {r : Int32} (hA : AI a') (hR : RC (ak_dn 0 σ) a') (hM : RM (ak_dn 20 σ) a) (h1 : ∀ (s : ak_S) (Q : Option Value → ak_S → Prop), RM s a → (∀ s', RM s' a' → Q (some (.int r)) s') → pt (.ref 0 :: vs) s Q)
    (hd : decode code pc = .ok (.invokevirtual n, 3)) (hd2 : decode code (pc + 3) = .ok (.if_icmp .eq o, 3)) (ho : ((pc + 3 : Nat) : Int) + o = ((582 : Nat) : Int)) (hlen : vs.length = nb) (hvs : vs.map (ak_shv 20) = vs)
    (h : ∀ σ', lk_I σ' → lk_J p l e s m below meth c b D ad tyc 582 (lkl i) [] σ') : lk_J p l e s m below meth c b D ad tyc pc (lkl i) (vs.reverse ++ .ref 20 :: [.int r]) σ := by
  refine lk_call (ci := 5) C sub_M C0 rfl cw hd hlen hvs rfl (Nat.le_of_ble_eq_true rfl) (h1 _ _ hM (fun s' hs' => ?_))
  refine r_eq C hd2 ho rfl (h _ ⟨a', hA, ?_, ?_⟩)
  · exact RC_cong (fun k hk => dn_out (by show ¬ (20 ≤ 0 + k ∧ 0 + k < 20 + 14); omega)) hR
  · exact RM_cong (fun k hk => dn_in hk) hs'
set_option maxRecDepth 20000 in
theorem k_kind (C : lk_C p s m meth c b L xs D ad tyc) {i : Nat} {σ : ak_S} (hi : i + 5 ≤ L) (hI : lk_I σ) (hk : ∀ σ', lk_I σ' → lk_J p l e s m below meth c b D ad tyc 582 (lkl i) [] σ') : lk_J p l e s m below meth c b D ad tyc 104 (lkl i) [] σ := by
  obtain ⟨a, hA, hR, hM⟩ := hI
  refine r_a1 (pc := 104) C (by decide +kernel) ?_
  refine r_s (pc := 105) (k := 1) (kk := 1) C hi (by decide) (by decide) (by decide +kernel) ?_
  refine lk_c1 (pc := 110) (n := 13) (nb := 1) (vs := [.int (xs (i + 1))]) (a := a) (a' := (g_kind a (xs (i + 1)))) (r := (f_kind a (xs (i + 1)))) C (ct_L_kind l) (lk_cw (q := ("LogicalPairs", F_L, 4)) C 157 158 159 20 160 (by decide +kernel) ⟨rfl, rfl⟩ (by decide +kernel) (by decide +kernel)) hR hM (fun s Q hR h => ⟨a, hA, hR, h⟩) (by decide +kernel) rfl rfl (fun σ hR hM => ?_)
  refine r_a2 (pc := 113) C (by decide +kernel) ?_
  refine r_s (pc := 114) (k := 1) (kk := 1) C hi (by decide) (by decide) (by decide +kernel) ?_
  exact lk_c2 (pc := 119) (n := 17) (nb := 1) (o := 460) (vs := [.int (xs (i + 1))]) (a := a) (a' := (g_kind a (xs (i + 1)))) (r := (f_kind a (xs (i + 1)))) C (ct_M_kind l) (lk_cw (q := ("LogicalPairsModel", F_M, 17)) C 390 391 392 25 393 (by decide +kernel) ⟨rfl, rfl⟩ (by decide +kernel) (by decide +kernel)) (AI_kind hA _) hR hM (fun s Q hR h => ⟨a, hA, hR, h⟩) (by decide +kernel) (by decide +kernel) (by decide) rfl rfl hk
set_option maxRecDepth 20000 in
theorem k_parent (C : lk_C p s m meth c b L xs D ad tyc) {i : Nat} {σ : ak_S} (hi : i + 5 ≤ L) (hI : lk_I σ) (hk : ∀ σ', lk_I σ' → lk_J p l e s m below meth c b D ad tyc 582 (lkl i) [] σ') : lk_J p l e s m below meth c b D ad tyc 127 (lkl i) [] σ := by
  obtain ⟨a, hA, hR, hM⟩ := hI
  refine r_a1 (pc := 127) C (by decide +kernel) ?_
  refine r_s (pc := 128) (k := 1) (kk := 1) C hi (by decide) (by decide) (by decide +kernel) ?_
  refine r_s (pc := 133) (k := 2) (kk := 2) C hi (by decide) (by decide) (by decide +kernel) ?_
  refine r_s (pc := 138) (k := 3) (kk := 3) C hi (by decide) (by decide) (by decide +kernel) ?_
  refine lk_c1 (pc := 143) (n := 18) (nb := 3) (vs := [.int (xs (i + 1)), .int (xs (i + 2)), .int (xs (i + 3))]) (a := a) (a' := (g_parent a (xs (i + 1)) (xs (i + 2)) (xs (i + 3)))) (r := (f_parent a (xs (i + 1)) (xs (i + 2)) (xs (i + 3)))) C (ct_L_parent l) (lk_cw (q := ("LogicalPairs", F_L, 4)) C 169 170 171 20 172 (by decide +kernel) ⟨rfl, rfl⟩ (by decide +kernel) (by decide +kernel)) hR hM (fun s Q hR h => ⟨a, hA, hR, h⟩) (by decide +kernel) rfl rfl (fun σ hR hM => ?_)
  refine r_a2 (pc := 146) C (by decide +kernel) ?_
  refine r_s (pc := 147) (k := 1) (kk := 1) C hi (by decide) (by decide) (by decide +kernel) ?_
  refine r_s (pc := 152) (k := 2) (kk := 2) C hi (by decide) (by decide) (by decide +kernel) ?_
  refine r_s (pc := 157) (k := 3) (kk := 3) C hi (by decide) (by decide) (by decide +kernel) ?_
  exact lk_c2 (pc := 162) (n := 22) (nb := 3) (o := 417) (vs := [.int (xs (i + 1)), .int (xs (i + 2)), .int (xs (i + 3))]) (a := a) (a' := (g_parent a (xs (i + 1)) (xs (i + 2)) (xs (i + 3)))) (r := (f_parent a (xs (i + 1)) (xs (i + 2)) (xs (i + 3)))) C (ct_M_parent l) (lk_cw (q := ("LogicalPairsModel", F_M, 17)) C 397 398 399 25 400 (by decide +kernel) ⟨rfl, rfl⟩ (by decide +kernel) (by decide +kernel)) (AI_parent hA _ _ _) hR hM (fun s Q hR h => ⟨a, hA, hR, h⟩) (by decide +kernel) (by decide +kernel) (by decide) rfl rfl hk
set_option maxRecDepth 20000 in
theorem k_segment (C : lk_C p s m meth c b L xs D ad tyc) {i : Nat} {σ : ak_S} (hi : i + 5 ≤ L) (hI : lk_I σ) (hk : ∀ σ', lk_I σ' → lk_J p l e s m below meth c b D ad tyc 582 (lkl i) [] σ') : lk_J p l e s m below meth c b D ad tyc 170 (lkl i) [] σ := by
  obtain ⟨a, hA, hR, hM⟩ := hI
  refine r_a1 (pc := 170) C (by decide +kernel) ?_
  refine r_s (pc := 171) (k := 1) (kk := 1) C hi (by decide) (by decide) (by decide +kernel) ?_
  refine r_s (pc := 176) (k := 2) (kk := 2) C hi (by decide) (by decide) (by decide +kernel) ?_
  refine r_s (pc := 181) (k := 3) (kk := 3) C hi (by decide) (by decide) (by decide +kernel) ?_
  refine r_i2l (pc := 186) C (by decide +kernel) ?_
  refine r_shl (pc := 187) C (by decide +kernel) ?_
  refine r_s (pc := 190) (k := 4) (kk := 4) C hi (by decide) (by decide) (by decide +kernel) ?_
  refine r_i2l (pc := 195) C (by decide +kernel) ?_
  refine r_ldc (pc := 196) C (by decide +kernel) ?_
  refine r_land (pc := 199) C (by decide +kernel) ?_
  refine r_lor (pc := 200) C (by decide +kernel) ?_
  refine lk_c1 (pc := 201) (n := 25) (nb := 3) (vs := [.int (xs (i + 1)), .int (xs (i + 2)), .long ((((xs (i + 3)).toInt64 <<< ((32 : Int32).toInt64 &&& 63)) ||| ((xs (i + 4)).toInt64 &&& 4294967295)))]) (a := a) (a' := (g_segment a (xs (i + 1)) (xs (i + 2)) ((((xs (i + 3)).toInt64 <<< ((32 : Int32).toInt64 &&& 63)) ||| ((xs (i + 4)).toInt64 &&& 4294967295))))) (r := (f_segment a (xs (i + 1)) (xs (i + 2)) ((((xs (i + 3)).toInt64 <<< ((32 : Int32).toInt64 &&& 63)) ||| ((xs (i + 4)).toInt64 &&& 4294967295))))) C (ct_L_segment l) (lk_cw (q := ("LogicalPairs", F_L, 4)) C 177 178 179 20 180 (by decide +kernel) ⟨rfl, rfl⟩ (by decide +kernel) (by decide +kernel)) hR hM (fun s Q hR h => ⟨a, hA, hR, h⟩) (by decide +kernel) rfl rfl (fun σ hR hM => ?_)
  refine r_a2 (pc := 204) C (by decide +kernel) ?_
  refine r_s (pc := 205) (k := 1) (kk := 1) C hi (by decide) (by decide) (by decide +kernel) ?_
  refine r_s (pc := 210) (k := 2) (kk := 2) C hi (by decide) (by decide) (by decide +kernel) ?_
  refine r_s (pc := 215) (k := 3) (kk := 3) C hi (by decide) (by decide) (by decide +kernel) ?_
  refine r_i2l (pc := 220) C (by decide +kernel) ?_
  refine r_shl (pc := 221) C (by decide +kernel) ?_
  refine r_s (pc := 224) (k := 4) (kk := 4) C hi (by decide) (by decide) (by decide +kernel) ?_
  refine r_i2l (pc := 229) C (by decide +kernel) ?_
  refine r_ldc (pc := 230) C (by decide +kernel) ?_
  refine r_land (pc := 233) C (by decide +kernel) ?_
  refine r_lor (pc := 234) C (by decide +kernel) ?_
  exact lk_c2 (pc := 235) (n := 29) (nb := 3) (o := 344) (vs := [.int (xs (i + 1)), .int (xs (i + 2)), .long ((((xs (i + 3)).toInt64 <<< ((32 : Int32).toInt64 &&& 63)) ||| ((xs (i + 4)).toInt64 &&& 4294967295)))]) (a := a) (a' := (g_segment a (xs (i + 1)) (xs (i + 2)) ((((xs (i + 3)).toInt64 <<< ((32 : Int32).toInt64 &&& 63)) ||| ((xs (i + 4)).toInt64 &&& 4294967295))))) (r := (f_segment a (xs (i + 1)) (xs (i + 2)) ((((xs (i + 3)).toInt64 <<< ((32 : Int32).toInt64 &&& 63)) ||| ((xs (i + 4)).toInt64 &&& 4294967295))))) C (ct_M_segment l) (lk_cw (q := ("LogicalPairsModel", F_M, 17)) C 401 402 403 25 404 (by decide +kernel) ⟨rfl, rfl⟩ (by decide +kernel) (by decide +kernel)) (AI_segment hA _ _ _) hR hM (fun s Q hR h => ⟨a, hA, hR, h⟩) (by decide +kernel) (by decide +kernel) (by decide) rfl rfl hk
set_option maxRecDepth 20000 in
theorem k_relate (C : lk_C p s m meth c b L xs D ad tyc) {i : Nat} {σ : ak_S} (hi : i + 5 ≤ L) (hI : lk_I σ) (hk : ∀ σ', lk_I σ' → lk_J p l e s m below meth c b D ad tyc 582 (lkl i) [] σ') : lk_J p l e s m below meth c b D ad tyc 243 (lkl i) [] σ := by
  obtain ⟨a, hA, hR, hM⟩ := hI
  refine r_a1 (pc := 243) C (by decide +kernel) ?_
  refine r_s (pc := 244) (k := 1) (kk := 1) C hi (by decide) (by decide) (by decide +kernel) ?_
  refine r_s (pc := 249) (k := 2) (kk := 2) C hi (by decide) (by decide) (by decide +kernel) ?_
  refine lk_c1 (pc := 254) (n := 30) (nb := 2) (vs := [.int (xs (i + 1)), .int (xs (i + 2))]) (a := a) (a' := (g_relate a (xs (i + 1)) (xs (i + 2)))) (r := (f_relate a (xs (i + 1)) (xs (i + 2)))) C (ct_L_relate l) (lk_cw (q := ("LogicalPairs", F_L, 4)) C 214 215 216 20 217 (by decide +kernel) ⟨rfl, rfl⟩ (by decide +kernel) (by decide +kernel)) hR hM (fun s Q hR h => ⟨a, hA, hR, h⟩) (by decide +kernel) rfl rfl (fun σ hR hM => ?_)
  refine r_a2 (pc := 257) C (by decide +kernel) ?_
  refine r_s (pc := 258) (k := 1) (kk := 1) C hi (by decide) (by decide) (by decide +kernel) ?_
  refine r_s (pc := 263) (k := 2) (kk := 2) C hi (by decide) (by decide) (by decide +kernel) ?_
  exact lk_c2 (pc := 268) (n := 34) (nb := 2) (o := 311) (vs := [.int (xs (i + 1)), .int (xs (i + 2))]) (a := a) (a' := (g_relate a (xs (i + 1)) (xs (i + 2)))) (r := (f_relate a (xs (i + 1)) (xs (i + 2)))) C (ct_M_relate l) (lk_cw (q := ("LogicalPairsModel", F_M, 17)) C 420 421 422 25 423 (by decide +kernel) ⟨rfl, rfl⟩ (by decide +kernel) (by decide +kernel)) (AI_rel hA _ _) hR hM (fun s Q hR h => ⟨a, hA, hR, h⟩) (by decide +kernel) (by decide +kernel) (by decide) rfl rfl hk
set_option maxRecDepth 20000 in
theorem k_delete (C : lk_C p s m meth c b L xs D ad tyc) {i : Nat} {σ : ak_S} (hi : i + 5 ≤ L) (hI : lk_I σ) (hk : ∀ σ', lk_I σ' → lk_J p l e s m below meth c b D ad tyc 582 (lkl i) [] σ') : lk_J p l e s m below meth c b D ad tyc 276 (lkl i) [] σ := by
  obtain ⟨a, hA, hR, hM⟩ := hI
  refine r_a1 (pc := 276) C (by decide +kernel) ?_
  refine r_s (pc := 277) (k := 1) (kk := 1) C hi (by decide) (by decide) (by decide +kernel) ?_
  refine lk_c1 (pc := 282) (n := 35) (nb := 1) (vs := [.int (xs (i + 1))]) (a := a) (a' := (g_delete a (xs (i + 1)))) (r := (f_delete a (xs (i + 1)))) C (ct_L_delete l) (lk_cw (q := ("LogicalPairs", F_L, 4)) C 223 224 225 20 226 (by decide +kernel) ⟨rfl, rfl⟩ (by decide +kernel) (by decide +kernel)) hR hM (fun s Q hR h => ⟨a, hA, hR, h⟩) (by decide +kernel) rfl rfl (fun σ hR hM => ?_)
  refine r_a2 (pc := 285) C (by decide +kernel) ?_
  refine r_s (pc := 286) (k := 1) (kk := 1) C hi (by decide) (by decide) (by decide +kernel) ?_
  exact lk_c2 (pc := 291) (n := 38) (nb := 1) (o := 288) (vs := [.int (xs (i + 1))]) (a := a) (a' := (g_delete a (xs (i + 1)))) (r := (f_delete a (xs (i + 1)))) C (ct_M_delete l) (lk_cw (q := ("LogicalPairsModel", F_M, 17)) C 424 425 426 25 427 (by decide +kernel) ⟨rfl, rfl⟩ (by decide +kernel) (by decide +kernel)) (AI_delete hA _) hR hM (fun s Q hR h => ⟨a, hA, hR, h⟩) (by decide +kernel) (by decide +kernel) (by decide) rfl rfl hk
set_option maxRecDepth 20000 in
theorem k_there (C : lk_C p s m meth c b L xs D ad tyc) {i : Nat} {σ : ak_S} (hi : i + 5 ≤ L) (hI : lk_I σ) (hk : ∀ σ', lk_I σ' → lk_J p l e s m below meth c b D ad tyc 582 (lkl i) [] σ') : lk_J p l e s m below meth c b D ad tyc 299 (lkl i) [] σ := by
  obtain ⟨a, hA, hR, hM⟩ := hI
  refine r_a1 (pc := 299) C (by decide +kernel) ?_
  refine r_s (pc := 300) (k := 1) (kk := 1) C hi (by decide) (by decide) (by decide +kernel) ?_
  refine r_s (pc := 305) (k := 2) (kk := 2) C hi (by decide) (by decide) (by decide +kernel) ?_
  refine lk_c1 (pc := 310) (n := 39) (nb := 2) (vs := [.int (xs (i + 1)), .int (xs (i + 2))]) (a := a) (a' := a) (r := (f_there a (xs (i + 1)) (xs (i + 2)))) C (ct_L_there l) (lk_cw (q := ("LogicalPairs", F_L, 4)) C 261 262 263 20 264 (by decide +kernel) ⟨rfl, rfl⟩ (by decide +kernel) (by decide +kernel)) hR hM (fun s Q hR h => ⟨a, hA, hR, h s hR⟩) (by decide +kernel) rfl rfl (fun σ hR hM => ?_)
  refine r_a2 (pc := 313) C (by decide +kernel) ?_
  refine r_s (pc := 314) (k := 1) (kk := 1) C hi (by decide) (by decide) (by decide +kernel) ?_
  refine r_s (pc := 319) (k := 2) (kk := 2) C hi (by decide) (by decide) (by decide +kernel) ?_
  exact lk_c2 (pc := 324) (n := 43) (nb := 2) (o := 255) (vs := [.int (xs (i + 1)), .int (xs (i + 2))]) (a := a) (a' := a) (r := (f_there a (xs (i + 1)) (xs (i + 2)))) C (ct_M_there l) (lk_cw (q := ("LogicalPairsModel", F_M, 17)) C 431 432 433 25 434 (by decide +kernel) ⟨rfl, rfl⟩ (by decide +kernel) (by decide +kernel)) hA hR hM (fun s Q hR h => ⟨a, hA, hR, h⟩) (by decide +kernel) (by decide +kernel) (by decide) rfl rfl hk
set_option maxRecDepth 20000 in
theorem k_child (C : lk_C p s m meth c b L xs D ad tyc) {i : Nat} {σ : ak_S} (hi : i + 5 ≤ L) (hI : lk_I σ) (hk : ∀ σ', lk_I σ' → lk_J p l e s m below meth c b D ad tyc 582 (lkl i) [] σ') : lk_J p l e s m below meth c b D ad tyc 332 (lkl i) [] σ := by
  obtain ⟨a, hA, hR, hM⟩ := hI
  refine r_a1 (pc := 332) C (by decide +kernel) ?_
  refine r_s (pc := 333) (k := 1) (kk := 1) C hi (by decide) (by decide) (by decide +kernel) ?_
  refine r_s (pc := 338) (k := 2) (kk := 2) C hi (by decide) (by decide) (by decide +kernel) ?_
  refine r_s (pc := 343) (k := 3) (kk := 3) C hi (by decide) (by decide) (by decide +kernel) ?_
  refine lk_c1 (pc := 348) (n := 44) (nb := 3) (vs := [.int (xs (i + 1)), .int (xs (i + 2)), .int (xs (i + 3))]) (a := a) (a' := a) (r := (f_child a (xs (i + 1)) (xs (i + 2)) (xs (i + 3)))) C (ct_L_child l) (lk_cw (q := ("LogicalPairs", F_L, 4)) C 265 266 267 20 268 (by decide +kernel) ⟨rfl, rfl⟩ (by decide +kernel) (by decide +kernel)) hR hM (fun s Q hR h => ⟨a, hA, hR, h s hR⟩) (by decide +kernel) rfl rfl (fun σ hR hM => ?_)
  refine r_a2 (pc := 351) C (by decide +kernel) ?_
  refine r_s (pc := 352) (k := 1) (kk := 1) C hi (by decide) (by decide) (by decide +kernel) ?_
  refine r_s (pc := 357) (k := 2) (kk := 2) C hi (by decide) (by decide) (by decide +kernel) ?_
  refine r_s (pc := 362) (k := 3) (kk := 3) C hi (by decide) (by decide) (by decide +kernel) ?_
  exact lk_c2 (pc := 367) (n := 47) (nb := 3) (o := 212) (vs := [.int (xs (i + 1)), .int (xs (i + 2)), .int (xs (i + 3))]) (a := a) (a' := a) (r := (f_child a (xs (i + 1)) (xs (i + 2)) (xs (i + 3)))) C (ct_M_child l) (lk_cw (q := ("LogicalPairsModel", F_M, 17)) C 435 436 437 25 438 (by decide +kernel) ⟨rfl, rfl⟩ (by decide +kernel) (by decide +kernel)) hA hR hM (fun s Q hR h => ⟨a, hA, hR, h⟩) (by decide +kernel) (by decide +kernel) (by decide) rfl rfl hk
set_option maxRecDepth 20000 in
theorem k_count (C : lk_C p s m meth c b L xs D ad tyc) {i : Nat} {σ : ak_S} (hi : i + 5 ≤ L) (hI : lk_I σ) (hk : ∀ σ', lk_I σ' → lk_J p l e s m below meth c b D ad tyc 582 (lkl i) [] σ') : lk_J p l e s m below meth c b D ad tyc 375 (lkl i) [] σ := by
  obtain ⟨a, hA, hR, hM⟩ := hI
  refine r_a1 (pc := 375) C (by decide +kernel) ?_
  refine r_s (pc := 376) (k := 1) (kk := 1) C hi (by decide) (by decide) (by decide +kernel) ?_
  refine lk_c1 (pc := 381) (n := 48) (nb := 1) (vs := [.int (xs (i + 1))]) (a := a) (a' := a) (r := (f_count a (xs (i + 1)))) C (ct_L_count l) (lk_cw (q := ("LogicalPairs", F_L, 4)) C 277 278 279 20 280 (by decide +kernel) ⟨rfl, rfl⟩ (by decide +kernel) (by decide +kernel)) hR hM (fun s Q hR h => ⟨a, hA, hR, h s hR⟩) (by decide +kernel) rfl rfl (fun σ hR hM => ?_)
  refine r_a2 (pc := 384) C (by decide +kernel) ?_
  refine r_s (pc := 385) (k := 1) (kk := 1) C hi (by decide) (by decide) (by decide +kernel) ?_
  exact lk_c2 (pc := 390) (n := 51) (nb := 1) (o := 189) (vs := [.int (xs (i + 1))]) (a := a) (a' := a) (r := (f_count a (xs (i + 1)))) C (ct_M_count l) (lk_cw (q := ("LogicalPairsModel", F_M, 17)) C 445 446 447 25 448 (by decide +kernel) ⟨rfl, rfl⟩ (by decide +kernel) (by decide +kernel)) hA hR hM (fun s Q hR h => ⟨a, hA, hR, h⟩) (by decide +kernel) (by decide +kernel) (by decide) rfl rfl hk
set_option maxRecDepth 20000 in
theorem k_index (C : lk_C p s m meth c b L xs D ad tyc) {i : Nat} {σ : ak_S} (hi : i + 5 ≤ L) (hI : lk_I σ) (hk : ∀ σ', lk_I σ' → lk_J p l e s m below meth c b D ad tyc 582 (lkl i) [] σ') : lk_J p l e s m below meth c b D ad tyc 398 (lkl i) [] σ := by
  obtain ⟨a, hA, hR, hM⟩ := hI
  refine r_a1 (pc := 398) C (by decide +kernel) ?_
  refine r_s (pc := 399) (k := 1) (kk := 1) C hi (by decide) (by decide) (by decide +kernel) ?_
  refine r_s (pc := 404) (k := 2) (kk := 2) C hi (by decide) (by decide) (by decide +kernel) ?_
  refine r_ne (pc := 409) C (by decide +kernel) ?_
  refine lk_c1 (pc := 417) (n := 52) (nb := 2) (vs := [.int (xs (i + 1)), .int ((if xs (i + 2) = 0 then 0 else 1))]) (a := a) (a' := (g_index a (xs (i + 1)) ((if xs (i + 2) = 0 then 0 else 1)))) (r := (f_index a (xs (i + 1)) ((if xs (i + 2) = 0 then 0 else 1)))) C (ct_L_index l) (lk_cw (q := ("LogicalPairs", F_L, 4)) C 281 282 283 20 284 (by decide +kernel) ⟨rfl, rfl⟩ (by decide +kernel) (by decide +kernel)) hR hM (fun s Q hR h => ⟨a, hA, hR, h⟩) (by decide +kernel) rfl rfl (fun σ hR hM => ?_)
  refine r_a2 (pc := 420) C (by decide +kernel) ?_
  refine r_s (pc := 421) (k := 1) (kk := 1) C hi (by decide) (by decide) (by decide +kernel) ?_
  refine r_s (pc := 426) (k := 2) (kk := 2) C hi (by decide) (by decide) (by decide +kernel) ?_
  refine r_ne (pc := 431) C (by decide +kernel) ?_
  exact lk_c2 (pc := 439) (n := 56) (nb := 2) (o := 140) (vs := [.int (xs (i + 1)), .int ((if xs (i + 2) = 0 then 0 else 1))]) (a := a) (a' := (g_index a (xs (i + 1)) ((if xs (i + 2) = 0 then 0 else 1)))) (r := (f_index a (xs (i + 1)) ((if xs (i + 2) = 0 then 0 else 1)))) C (ct_M_index l) (lk_cw (q := ("LogicalPairsModel", F_M, 17)) C 449 450 451 25 452 (by decide +kernel) ⟨rfl, rfl⟩ (by decide +kernel) (by decide +kernel)) (AI_index hA _ _) hR hM (fun s Q hR h => ⟨a, hA, hR, h⟩) (by decide +kernel) (by decide +kernel) (by decide) rfl rfl hk
set_option maxRecDepth 20000 in
theorem k_entry (C : lk_C p s m meth c b L xs D ad tyc) {i : Nat} {σ : ak_S} (hi : i + 5 ≤ L) (hI : lk_I σ) (hk : ∀ σ', lk_I σ' → lk_J p l e s m below meth c b D ad tyc 582 (lkl i) [] σ') : lk_J p l e s m below meth c b D ad tyc 447 (lkl i) [] σ := by
  obtain ⟨a, hA, hR, hM⟩ := hI
  refine r_a1 (pc := 447) C (by decide +kernel) ?_
  refine r_s (pc := 448) (k := 1) (kk := 1) C hi (by decide) (by decide) (by decide +kernel) ?_
  refine r_s (pc := 453) (k := 2) (kk := 2) C hi (by decide) (by decide) (by decide +kernel) ?_
  refine lk_c1 (pc := 458) (n := 57) (nb := 2) (vs := [.int (xs (i + 1)), .int (xs (i + 2))]) (a := a) (a' := a) (r := (f_entry a (xs (i + 1)) (xs (i + 2)))) C (ct_L_entry l) (lk_cw (q := ("LogicalPairs", F_L, 4)) C 289 290 291 20 292 (by decide +kernel) ⟨rfl, rfl⟩ (by decide +kernel) (by decide +kernel)) hR hM (fun s Q hR h => ⟨a, hA, hR, h s hR⟩) (by decide +kernel) rfl rfl (fun σ hR hM => ?_)
  refine r_a2 (pc := 461) C (by decide +kernel) ?_
  refine r_s (pc := 462) (k := 1) (kk := 1) C hi (by decide) (by decide) (by decide +kernel) ?_
  refine r_s (pc := 467) (k := 2) (kk := 2) C hi (by decide) (by decide) (by decide +kernel) ?_
  exact lk_c2 (pc := 472) (n := 60) (nb := 2) (o := 107) (vs := [.int (xs (i + 1)), .int (xs (i + 2))]) (a := a) (a' := a) (r := (f_entry a (xs (i + 1)) (xs (i + 2)))) C (ct_M_entry l) (lk_cw (q := ("LogicalPairsModel", F_M, 17)) C 453 454 455 25 456 (by decide +kernel) ⟨rfl, rfl⟩ (by decide +kernel) (by decide +kernel)) hA hR hM (fun s Q hR h => ⟨a, hA, hR, h⟩) (by decide +kernel) (by decide +kernel) (by decide) rfl rfl hk
set_option maxRecDepth 20000 in
theorem k_poke (C : lk_C p s m meth c b L xs D ad tyc) {i : Nat} {σ : ak_S} (hi : i + 5 ≤ L) (hI : lk_I σ) (hk : ∀ σ', lk_I σ' → lk_J p l e s m below meth c b D ad tyc 582 (lkl i) [] σ') : lk_J p l e s m below meth c b D ad tyc 480 (lkl i) [] σ := by
  obtain ⟨a, hA, hR, hM⟩ := hI
  refine r_a1 (pc := 480) C (by decide +kernel) ?_
  refine r_s (pc := 481) (k := 1) (kk := 1) C hi (by decide) (by decide) (by decide +kernel) ?_
  refine r_s (pc := 486) (k := 2) (kk := 2) C hi (by decide) (by decide) (by decide +kernel) ?_
  refine r_s (pc := 491) (k := 3) (kk := 3) C hi (by decide) (by decide) (by decide +kernel) ?_
  refine lk_c1 (pc := 496) (n := 61) (nb := 3) (vs := [.int (xs (i + 1)), .int (xs (i + 2)), .int (xs (i + 3))]) (a := a) (a' := (g_poke a (xs (i + 1)) (xs (i + 2)) (xs (i + 3)))) (r := (f_poke a (xs (i + 1)) (xs (i + 2)) (xs (i + 3)))) C (ct_L_poke l) (lk_cw (q := ("LogicalPairs", F_L, 4)) C 300 301 302 20 303 (by decide +kernel) ⟨rfl, rfl⟩ (by decide +kernel) (by decide +kernel)) hR hM (fun s Q hR h => ⟨a, hA, hR, h⟩) (by decide +kernel) rfl rfl (fun σ hR hM => ?_)
  refine r_a2 (pc := 499) C (by decide +kernel) ?_
  refine r_s (pc := 500) (k := 1) (kk := 1) C hi (by decide) (by decide) (by decide +kernel) ?_
  refine r_s (pc := 505) (k := 2) (kk := 2) C hi (by decide) (by decide) (by decide +kernel) ?_
  refine r_s (pc := 510) (k := 3) (kk := 3) C hi (by decide) (by decide) (by decide +kernel) ?_
  exact lk_c2 (pc := 515) (n := 64) (nb := 3) (o := 64) (vs := [.int (xs (i + 1)), .int (xs (i + 2)), .int (xs (i + 3))]) (a := a) (a' := (g_poke a (xs (i + 1)) (xs (i + 2)) (xs (i + 3)))) (r := (f_poke a (xs (i + 1)) (xs (i + 2)) (xs (i + 3)))) C (ct_M_poke l) (lk_cw (q := ("LogicalPairsModel", F_M, 17)) C 460 461 462 25 463 (by decide +kernel) ⟨rfl, rfl⟩ (by decide +kernel) (by decide +kernel)) (AI_poke hA _ _ _) hR hM (fun s Q hR h => ⟨a, hA, hR, h⟩) (by decide +kernel) (by decide +kernel) (by decide) rfl rfl hk
set_option maxRecDepth 20000 in
theorem k_check (C : lk_C p s m meth c b L xs D ad tyc) {i : Nat} {σ : ak_S} (hi : i + 5 ≤ L) (hI : lk_I σ) (hk : ∀ σ', lk_I σ' → lk_J p l e s m below meth c b D ad tyc 582 (lkl i) [] σ') : lk_J p l e s m below meth c b D ad tyc 523 (lkl i) [] σ := by
  obtain ⟨a, hA, hR, hM⟩ := hI
  refine r_a1 (pc := 523) C (by decide +kernel) ?_
  refine lk_c1 (pc := 524) (n := 65) (nb := 0) (vs := []) (a := a) (a' := a) (r := (f_check a)) C (ct_L_check l) (lk_cw (q := ("LogicalPairs", F_L, 4)) C 308 309 310 20 311 (by decide +kernel) ⟨rfl, rfl⟩ (by decide +kernel) (by decide +kernel)) hR hM (fun s Q hR h => ⟨a, hA, hR, h s hR⟩) (by decide +kernel) rfl rfl (fun σ hR hM => ?_)
  refine r_a2 (pc := 527) C (by decide +kernel) ?_
  exact lk_c2 (pc := 528) (n := 69) (nb := 0) (o := 51) (vs := []) (a := a) (a' := a) (r := (f_check a)) C (ct_M_check l) (lk_cw (q := ("LogicalPairsModel", F_M, 17)) C 464 465 466 25 467 (by decide +kernel) ⟨rfl, rfl⟩ (by decide +kernel) (by decide +kernel)) hA hR hM (fun s Q hR h => ⟨a, hA, hR, h⟩) (by decide +kernel) (by decide +kernel) (by decide) rfl rfl hk
set_option maxRecDepth 20000 in
theorem k_broken (C : lk_C p s m meth c b L xs D ad tyc) {i : Nat} {σ : ak_S} (hi : i + 5 ≤ L) (hI : lk_I σ) (hk : ∀ σ', lk_I σ' → lk_J p l e s m below meth c b D ad tyc 582 (lkl i) [] σ') : lk_J p l e s m below meth c b D ad tyc 536 (lkl i) [] σ := by
  obtain ⟨a, hA, hR, hM⟩ := hI
  refine r_a1 (pc := 536) C (by decide +kernel) ?_
  refine r_s (pc := 537) (k := 1) (kk := 1) C hi (by decide) (by decide) (by decide +kernel) ?_
  refine lk_c1 (pc := 542) (n := 70) (nb := 1) (vs := [.int (xs (i + 1))]) (a := a) (a' := a) (r := (f_broken a (xs (i + 1)))) C (ct_L_broken l) (lk_cw (q := ("LogicalPairs", F_L, 4)) C 316 317 318 20 319 (by decide +kernel) ⟨rfl, rfl⟩ (by decide +kernel) (by decide +kernel)) hR hM (fun s Q hR h => ⟨a, hA, hR, h s hR⟩) (by decide +kernel) rfl rfl (fun σ hR hM => ?_)
  refine r_a2 (pc := 545) C (by decide +kernel) ?_
  refine r_s (pc := 546) (k := 1) (kk := 1) C hi (by decide) (by decide) (by decide +kernel) ?_
  exact lk_c2 (pc := 551) (n := 73) (nb := 1) (o := 28) (vs := [.int (xs (i + 1))]) (a := a) (a' := a) (r := (f_broken a (xs (i + 1)))) C (ct_M_broken l) (lk_cw (q := ("LogicalPairsModel", F_M, 17)) C 471 472 473 25 474 (by decide +kernel) ⟨rfl, rfl⟩ (by decide +kernel) (by decide +kernel)) hA hR hM (fun s Q hR h => ⟨a, hA, hR, h⟩) (by decide +kernel) (by decide +kernel) (by decide) rfl rfl hk
set_option maxRecDepth 20000 in
theorem k_told (C : lk_C p s m meth c b L xs D ad tyc) {i : Nat} {σ : ak_S} (hi : i + 5 ≤ L) (hI : lk_I σ) (hk : ∀ σ', lk_I σ' → lk_J p l e s m below meth c b D ad tyc 582 (lkl i) [] σ') : lk_J p l e s m below meth c b D ad tyc 559 (lkl i) [] σ := by
  obtain ⟨a, hA, hR, hM⟩ := hI
  refine r_a1 (pc := 559) C (by decide +kernel) ?_
  refine r_s (pc := 560) (k := 1) (kk := 1) C hi (by decide) (by decide) (by decide +kernel) ?_
  refine lk_c1 (pc := 565) (n := 74) (nb := 1) (vs := [.int (xs (i + 1))]) (a := a) (a' := a) (r := (f_told a (xs (i + 1)))) C (ct_L_told l) (lk_cw (q := ("LogicalPairs", F_L, 4)) C 320 321 322 20 323 (by decide +kernel) ⟨rfl, rfl⟩ (by decide +kernel) (by decide +kernel)) hR hM (fun s Q hR h => ⟨a, hA, hR, h s hR⟩) (by decide +kernel) rfl rfl (fun σ hR hM => ?_)
  refine r_a2 (pc := 568) C (by decide +kernel) ?_
  refine r_s (pc := 569) (k := 1) (kk := 1) C hi (by decide) (by decide) (by decide +kernel) ?_
  exact lk_c2 (pc := 574) (n := 77) (nb := 1) (o := 5) (vs := [.int (xs (i + 1))]) (a := a) (a' := a) (r := (f_told a (xs (i + 1)))) C (ct_M_told l) (lk_cw (q := ("LogicalPairsModel", F_M, 17)) C 475 476 477 25 478 (by decide +kernel) ⟨rfl, rfl⟩ (by decide +kernel) (by decide +kernel)) hA hR hM (fun s Q hR h => ⟨a, hA, hR, h⟩) (by decide +kernel) (by decide +kernel) (by decide) rfl rfl hk
end LAWC
