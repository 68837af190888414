/-! the law's loop, and its beginning (wip/whole/gen4.py) -/
theorem lk_gt {i L : Nat} (hi : i ≤ 3000) (hL : L ≤ 2560) (h : ¬ nI L - 5 < nI i) : i + 5 ≤ L := by
  rcases Nat.lt_or_ge L 5 with q | q
  · exfalso
    apply h
    have h0 : nI L - 5 < 0 := by
      rcases (show L = 0 ∨ L = 1 ∨ L = 2 ∨ L = 3 ∨ L = 4 by omega) with rfl | rfl | rfl | rfl | rfl <;> decide
    exact Int32.lt_of_lt_of_le h0 (nI_pos' (by omega))
  · have e : nI L - 5 = nI (L - 5) := by
      have h1 : nI L = nI (L - 5) + 5 := by
        show nI L = nI (L - 5) + nI 5
        rw [nI_add, show L - 5 + 5 = L by omega]
      rw [h1, Int32.add_sub_cancel]
    rw [e, nI_ltI (by omega) (by omega)] at h
    omega
section LAWL
variable {p : Program} {l : Launch} {e : Env} {s : State} {m : MethodId} {below : List Frame} {meth : Method} {c : Code} {b L : Nat} {xs : Nat → Int32} {D : va_G} {ad : Nat → Nat} {tyc : Nat → ClassId}
theorem lk_next (C : lk_C p s m meth c b L xs D ad tyc) {i : Nat} {σ : ak_S} (h : lk_J p l e s m below meth c b D ad tyc 18 (lkl (i + 5)) [] σ) : lk_J p l e s m below meth c b D ad tyc 582 (lkl i) [] σ := by
  refine lk_row (x := (582, .iinc 3 5, 3, 0, 5, [])) C (by decide +kernel) (by decide) ⟨trivial, ?_⟩
  have e1 : ak_set (lkl i) 3 (some (.int (nI i + 5))) = lkl (i + 5) := by
    show [some (Value.ref 34), some (.ref 0), some (.ref 20), some (.int (nI i + nI 5))] = lkl (i + 5)
    rw [nI_add]
    rfl
  show lk_J p l e s m below meth c b D ad tyc 585 (ak_set (lkl i) 3 (some (.int (nI i + 5)))) [] σ
  rw [e1]
  exact lk_row (x := (585, .goto (-567), 18, 0, 0, [])) C (by decide +kernel) (by decide) h
set_option maxRecDepth 20000 in
theorem lk_sw (C : lk_C p s m meth c b L xs D ad tyc) {i : Nat} {σ : ak_S} {x : Int32} (hi5 : i + 5 ≤ L) (hI : lk_I σ) (hk : ∀ σ', lk_I σ' → lk_J p l e s m below meth c b D ad tyc 582 (lkl i) [] σ') : lk_J p l e s m below meth c b D ad tyc 32 (lkl i) [.int x] σ :=
  lk_row (x := (32, .tableswitch 550 0 13 #[72, 95, 138, 211, 244, 267, 300, 343, 366, 415, 448, 491, 504, 527], 582, 0, 0, [(0, 104), (1, 127), (2, 170), (3, 243), (4, 276), (5, 299), (6, 332), (7, 375), (8, 398), (9, 447), (10, 480), (11, 523), (12, 536), (13, 559)])) C (by decide +kernel) (by decide) ⟨fun _ => k_kind C hi5 hI hk, fun _ => ⟨fun _ => k_parent C hi5 hI hk, fun _ => ⟨fun _ => k_segment C hi5 hI hk, fun _ => ⟨fun _ => k_relate C hi5 hI hk, fun _ => ⟨fun _ => k_delete C hi5 hI hk, fun _ => ⟨fun _ => k_there C hi5 hI hk, fun _ => ⟨fun _ => k_child C hi5 hI hk, fun _ => ⟨fun _ => k_count C hi5 hI hk, fun _ => ⟨fun _ => k_index C hi5 hI hk, fun _ => ⟨fun _ => k_entry C hi5 hI hk, fun _ => ⟨fun _ => k_poke C hi5 hI hk, fun _ => ⟨fun _ => k_check C hi5 hI hk, fun _ => ⟨fun _ => k_broken C hi5 hI hk, fun _ => ⟨fun _ => k_told C hi5 hI hk, fun _ => hk σ hI⟩⟩⟩⟩⟩⟩⟩⟩⟩⟩⟩⟩⟩⟩
theorem d_law_18 : decode code 18 = .ok (.iload_n 3, 1) := by decide +kernel
theorem d_law_19 : decode code 19 = .ok (.aload_n 0, 1) := by decide +kernel
theorem d_law_20 : decode code 20 = .ok (.arraylength, 1) := by decide +kernel
theorem d_law_21 : decode code 21 = .ok (.iconst 5, 1) := by decide +kernel
theorem d_law_22 : decode code 22 = .ok (.isub, 1) := by decide +kernel
theorem d_law_23 : decode code 23 = .ok (.if_icmp .gt 565, 3) := by decide +kernel
theorem d_law_26 : decode code 26 = .ok (.aload_n 0, 1) := by decide +kernel
theorem d_law_27 : decode code 27 = .ok (.iload_n 3, 1) := by decide +kernel
theorem d_law_28 : decode code 28 = .ok (.iaload, 1) := by decide +kernel
theorem d_law_29 : decode code 29 = .ok (.bipush 15, 2) := by decide +kernel
theorem d_law_31 : decode code 31 = .ok (.iand, 1) := by decide +kernel
theorem d_law_588 : decode code 588 = .ok (.iconst 1, 1) := by decide +kernel
theorem d_law_589 : decode code 589 = .ok (.ireturn, 1) := by decide +kernel
theorem lk_loop (C : lk_C p s m meth c b L xs D ad tyc) : ∀ (n i : Nat) (σ : ak_S), i ≤ L + 5 → L + 5 < i + n → lk_I σ → lk_J p l e s m below meth c b D ad tyc 18 (lkl i) [] σ := by
  intro n
  induction n with
  | zero => intro i σ h1 h2; omega
  | succ n ih =>
    intro i σ h1 h2 hI
    have C' := C
    obtain ⟨⟨hx, hb, hr, hml, hown, hts, hX, hbl, hlocks, hgv⟩, hL, hK, hinj, hA, had⟩ := C'
    have hk : i + 5 ≤ L → ∀ σ', lk_I σ' → lk_J p l e s m below meth c b D ad tyc 582 (lkl i) [] σ' := fun q σ' hI' => lk_next C (ih (i + 5) σ' (by omega) (by omega) hI')
    intro H locs lsA hP hS hl
    have hX' : va_X (ad 34) L xs s s.heap := by rw [had]; exact hX
    have hbl' : ad 34 < s.heap.size := by rw [had]; exact hbl
    refine lv_iload_n hx hb d_law_18 rfl (hl.2.2 3 _ rfl) ?_
    refine lv_aload_n hx hb d_law_19 rfl (hl.2.2 0 _ rfl) ?_
    refine va_slen hx hb hX' hbl' (Nat.not_le.mpr hbl') hS d_law_20 ?_
    refine lv_iconst (v := 5) hx hb d_law_21 (by decide) ?_
    refine lv_isub hx hb d_law_22 ?_
    refine lv_icmp_gt (tgt := 588) hx hb d_law_23 (by decide) (fun q => ?_) (fun q => ?_)
    · refine lv_iconst (v := 1) hx hb d_law_588 (by decide) ?_
      refine va_forget (fun q hq => hS.2.2 q hq) ?_
      exact lw_ret hx hb hr hlocks d_law_589
    · have hi5 : i + 5 ≤ L := lk_gt (by omega) hL q
      refine lv_aload_n hx hb d_law_26 rfl (hl.2.2 0 _ rfl) ?_
      refine lv_iload_n hx hb d_law_27 rfl (hl.2.2 3 _ rfl) ?_
      refine va_sld hx hb hX' hbl' (Nat.not_le.mpr hbl') hS (vp_in_nI (by omega) (by omega)) d_law_28 ?_
      refine lv_bipush (v := 15) hx hb d_law_29 (by decide) ?_
      refine lv_iand hx hb d_law_31 ?_
      exact lk_sw C hi5 hI (hk hi5) H locs lsA hP hS hl
end LAWL
theorem goodW {k : Nat} {y : MethodName} {b : ByteArray} {n : Nat} {r : Option FieldType} (h : ak_nth wd_tbl k = some (.code y b n r)) : GoodIn lw_tbl (.code y b n r :: wd_tbl) := by
  intro w hw
  have hin : w ∈ wd_tbl := by
    rcases List.mem_cons.mp hw with rfl | h9
    · exact ak_mem h
    · exact h9
  exact ⟨wd_in w hin, good_of_word (wd_good w hin)⟩
theorem d_law_0 : decode code 0 = .ok (.new 7, 3) := by decide +kernel
theorem d_law_3 : decode code 3 = .ok (.dup, 1) := by decide +kernel
theorem d_law_4 : decode code 4 = .ok (.invokespecial 9, 3) := by decide +kernel
theorem d_law_7 : decode code 7 = .ok (.astore_n 1, 1) := by decide +kernel
theorem d_law_8 : decode code 8 = .ok (.new 10, 3) := by decide +kernel
theorem d_law_11 : decode code 11 = .ok (.dup, 1) := by decide +kernel
theorem d_law_12 : decode code 12 = .ok (.invokespecial 12, 3) := by decide +kernel
theorem d_law_15 : decode code 15 = .ok (.astore_n 2, 1) := by decide +kernel
theorem d_law_16 : decode code 16 = .ok (.iconst 0, 1) := by decide +kernel
theorem d_law_17 : decode code 17 = .ok (.istore_n 3, 1) := by decide +kernel
set_option maxHeartbeats 4000000 in
set_option maxRecDepth 100000 in
theorem whole_start {p : Program} {e : Env} {s : State} {m : MethodId} {below : List Frame} {meth : Method} {c : Code} (l : Launch) {b L : Nat} {xs : Nat → Int32} (hL : L ≤ 2560) (C0 : lw_At p s m meth c b L xs) : W p l e room_1 s m #[Value.ref b] below meth c s.heap [] 0 0 (lw_Z below #[Value.ref b] s) (entryFrame m ([Value.ref b] : List Value).toArray 4) := by
  obtain ⟨hx, hb, hr, hml, hown, hts, hX, hbl, hlocks, hgv⟩ := id C0
  obtain ⟨A, hAe⟩ : ∃ A : Nat → Prop, A = (fun q : Nat => s.heap.size ≤ q) := ⟨_, rfl⟩
  have hA : ∀ q : Nat, s.heap.size ≤ q → A q := fun _ h => by rw [hAe]; exact h
  obtain ⟨c0, iS0, hKn0⟩ := u_known (C := "LogicalPairs") (T := F_L) (N := 4) (n := 4) hts (fun w h => wd_in w (in_L w h)) (hts _ (wd_in _ (ak_mem (k := 27) (by decide +kernel : ak_nth wd_tbl 27 = some (.instantiable "LogicalPairs" 4)))))
  obtain ⟨c1, iS1, hKn1⟩ := u_known (C := "LogicalPairs$Kinds") (T := F_K) (N := 4) (n := 4) hts (fun w h => wd_in w (in_K w h)) (hts _ (wd_in _ (ak_mem (k := 35) (by decide +kernel : ak_nth wd_tbl 35 = some (.instantiable "LogicalPairs$Kinds" 4)))))
  obtain ⟨c2, iS2, hKn2⟩ := u_known (C := "LogicalPairs$Segments") (T := F_S) (N := 9) (n := 9) hts (fun w h => wd_in w (in_S w h)) (hts _ (wd_in _ (ak_mem (k := 59) (by decide +kernel : ak_nth wd_tbl 59 = some (.instantiable "LogicalPairs$Segments" 9)))))
  obtain ⟨c3, iS3, hKn3⟩ := u_known (C := "LogicalPairs$Indexes") (T := F_X) (N := 3) (n := 3) hts (fun w h => wd_in w (in_X w h)) (hts _ (wd_in _ (ak_mem (k := 103) (by decide +kernel : ak_nth wd_tbl 103 = some (.instantiable "LogicalPairs$Indexes" 3)))))
  obtain ⟨c4, iS4, hKn4⟩ := u_known (C := "LogicalPairs$Deletion") (T := F_D) (N := 5) (n := 5) hts (fun w h => wd_in w (in_D w h)) (hts _ (wd_in _ (ak_mem (k := 122) (by decide +kernel : ak_nth wd_tbl 122 = some (.instantiable "LogicalPairs$Deletion" 5)))))
  obtain ⟨c5, iS5, hKn5⟩ := u_known (C := "LogicalPairsModel") (T := F_M) (N := 17) (n := 17) hts (fun w h => wd_in w (in_M w h)) (hts _ (wd_in _ (ak_mem (k := 333) (by decide +kernel : ak_nth wd_tbl 333 = some (.instantiable "LogicalPairsModel" 17)))))
  obtain ⟨D, hKc⟩ : ∃ D : va_G, ∀ (k : Nat) (q : vw_C), cl_all[k]? = some q → u_Kn s q.1 q.2.1 q.2.2 (D.1 k) (D.2 k) := by
    refine ⟨(fun k => match k with | 0 => c0 | 1 => c1 | 2 => c2 | 3 => c3 | 4 => c4 | _ => c5, fun k => match k with | 0 => iS0 | 1 => iS1 | 2 => iS2 | 3 => iS3 | 4 => iS4 | _ => iS5), ?_⟩
    intro k q hq
    match k, hq with
    | 0, hq => cases hq; exact hKn0
    | 1, hq => cases hq; exact hKn1
    | 2, hq => cases hq; exact hKn2
    | 3, hq => cases hq; exact hKn3
    | 4, hq => cases hq; exact hKn4
    | 5, hq => cases hq; exact hKn5
    | k + 6, hq => simp [cl_all] at hq
  have hN : nw_L s := ⟨va_Nw.of rfl (hts (.methodLinkNest "LogicalPairs" 9 y_K_init "LogicalPairs") (by decide +kernel)), va_Nw.of rfl (hts (.methodLinkNest "LogicalPairs" 18 y_S_init "LogicalPairs") (by decide +kernel)), va_Nw.of rfl (hts (.methodLinkNest "LogicalPairs" 25 y_X_init "LogicalPairs") (by decide +kernel))⟩
  have hS : va_S A s.heap s.heap [] := va_S.rf
  have hK : va_K D cl_all [] s := ⟨hKc, fun k q h => by simp at h⟩
  have hP : va_P D cl_all [] s.heap := fun k q h => by simp at h
  have hD : va_D A [] := ⟨fun i j p q h => by simp at h, fun k q h => by simp at h⟩
  have hl := lv_entry ([.ref b]) (n := 4) (Nat.le_of_ble_eq_true rfl)
  rw [lg_entry_eq]
  generalize (lg_sl ([.ref b]) ++ List.replicate (4 - (lg_sl ([.ref b])).length) Slot.unset).toArray = ls at hl ⊢
  have hl : lv_has ls 4 [(0, .ref b)] := hl
  refine va_new (ci := 0) (fs := [.null, .null, .null, .null]) (C := "LogicalPairs") (T := F_L) (N := 4) hx hb hts (fun w h => wd_in w (in_L w h)) t_L tk_L hown (hts _ (wd_in _ (ak_mem (k := 26) (by decide +kernel : ak_nth wd_tbl 26 = some (.classLink "LogicalPairsLaw" 7 "LogicalPairs"))))) (hts _ (wd_in _ (ak_mem (k := 27) (by decide +kernel : ak_nth wd_tbl 27 = some (.instantiable "LogicalPairs" 4))))) (hts _ (wd_in _ (ak_mem (k := 20) (by decide +kernel : ak_nth wd_tbl 20 = some (.initialized "LogicalPairs"))))) hK hP hD hS hA rfl (fun j hj => by rcases (show j = 0 ∨ j = 1 ∨ j = 2 ∨ j = 3 by omega) with rfl | rfl | rfl | rfl <;> rfl) (Nat.le_of_ble_eq_true rfl) (Nat.le_of_ble_eq_true rfl) d_law_0 (fun qx H hP hD hS => ?_)
  have hP : va_P D cl_all (w0_L qx) H := hP
  have hD : va_D A (w0_L qx) := hD
  refine W.widen (k := 1) (n := 4) (Nat.le_of_ble_eq_true rfl) (Nat.le_of_ble_eq_true rfl) ?_
  refine lv_dup hx hb d_law_3 rfl ?_
  have hFc := va_free (wc := w0_L qx) hD hS hA [0] rfl
  refine va_callv (va_runI (As := []) (rest := [.ref qx]) ⟨hx, hb, hml, hown, hts⟩ (c_L_init l D qx H.size) (cwI 0 hts (goodW (by decide +kernel : ak_nth wd_tbl 30 = some (.code y_L_init prog_1_method_1_code 1 none))) rfl rfl rfl (hts _ (wd_in _ (ak_mem (k := 20) (by decide +kernel : ak_nth wd_tbl 20 = some (.initialized "LogicalPairs"))))) (hts _ (wd_in _ (ak_mem (k := 28) (by decide +kernel : ak_nth wd_tbl 28 = some (.methodLink "LogicalPairsLaw" 9 y_L_init))))) (hts _ (wd_in _ (ak_mem (k := 29) (by decide +kernel : ak_nth wd_tbl 29 = some (.instanceMethod y_L_init))))) rfl (by decide +kernel) ⟨Nat.le_of_ble_eq_true rfl, Nat.le_of_ble_eq_true rfl⟩) ⟨fun a U g mk q => by obtain ⟨q0, q1, qP, qK, qD, qN⟩ := q; exact ⟨q0, q1, qP, va_K.moved (u := U) (U := U.calling g mk a) (Vm.Alike.refl U.vm) qK, qD, va_Nw.same rfl rfl qN.1, va_Nw.same rfl rfl qN.2.1, va_Nw.same rfl rfl qN.2.2⟩, fun U hU hW => ⟨rfl, by rw [hU], by rw [hU]; exact hP, va_K.moved hW.alike hK, hD.weaken (fun _ _ _ _ => trivial), hN.1.warmM hW, hN.2.1.warmM hW, hN.2.2.warmM hW⟩⟩ rfl rfl hl.1 rfl (lv_room (Nat.le_of_ble_eq_true rfl)) d_law_4 ⟨Nat.le_of_ble_eq_true rfl, Nat.le_of_ble_eq_true rfl⟩) hS (fun q _ h => hFc q h) hFc (fun u t H1 locs ht hvm hw hB hz1 hk1 hS => ?_)
  obtain ⟨hP1, hK1, hD1⟩ := hB
  rw [ht] at hP1
  have hKC : ak_K D cl_all lay_C u.2 s := hK1.moved hvm.symm
  obtain ⟨hP, hD⟩ := va_join (wc := w0_L qx) (wr := []) (w1 := ak_W u.1 u.2 z0 0 lay_C) hP hD [0] [] rfl rfl (by decide) (by decide) hk1 hFc hP1 hD1
  generalize H1 = H at hP hS ⊢
  have hP : va_P D cl_all (ak_W u.1 u.2 z0 0 lay_C) H := hP
  have hD : va_D A (ak_W u.1 u.2 z0 0 lay_C) := hD
  refine W.widen (k := 20) (n := 3105) (Nat.le_of_ble_eq_true rfl) (Nat.le_of_ble_eq_true rfl) ?_
  refine lv_astore_n (lv' := [(1, .ref qx), (0, .ref b)]) hx hb d_law_7 rfl hl (by decide) rfl (fun ls hl => ?_)
  refine va_new (ci := 5) (fs := [.int 0, .int 0, .int 0, .int 0, .null, .null, .null, .null, .null, .null, .null, .null, .null, .null, .null, .null, .null]) (C := "LogicalPairsModel") (T := F_M) (N := 17) hx hb hts (fun w h => wd_in w (in_M w h)) t_M tk_M hown (hts _ (wd_in _ (ak_mem (k := 332) (by decide +kernel : ak_nth wd_tbl 332 = some (.classLink "LogicalPairsLaw" 10 "LogicalPairsModel"))))) (hts _ (wd_in _ (ak_mem (k := 333) (by decide +kernel : ak_nth wd_tbl 333 = some (.instantiable "LogicalPairsModel" 17))))) (hts _ (wd_in _ (ak_mem (k := 25) (by decide +kernel : ak_nth wd_tbl 25 = some (.initialized "LogicalPairsModel"))))) hK hP hD hS hA rfl (fun j hj => by rcases (show j = 0 ∨ j = 1 ∨ j = 2 ∨ j = 3 ∨ j = 4 ∨ j = 5 ∨ j = 6 ∨ j = 7 ∨ j = 8 ∨ j = 9 ∨ j = 10 ∨ j = 11 ∨ j = 12 ∨ j = 13 ∨ j = 14 ∨ j = 15 ∨ j = 16 by omega) with rfl | rfl | rfl | rfl | rfl | rfl | rfl | rfl | rfl | rfl | rfl | rfl | rfl | rfl | rfl | rfl | rfl <;> rfl) (Nat.le_of_ble_eq_true rfl) (Nat.le_of_ble_eq_true rfl) d_law_8 (fun qm H hP hD hS => ?_)
  have hP : va_P D cl_all (ak_W u.1 u.2 z0 0 lay_C ++ w0_M qm) H := hP
  have hD : va_D A (ak_W u.1 u.2 z0 0 lay_C ++ w0_M qm) := hD
  refine W.widen (k := 21) (n := 3122) (Nat.le_of_ble_eq_true rfl) (Nat.le_of_ble_eq_true rfl) ?_
  refine lv_dup hx hb d_law_11 rfl ?_
  have hPc : va_P D cl_all (w0_M qm) H := hP.sub [20] rfl
  have hDc : va_D A (w0_M qm) := hD.sub [20] (by decide) rfl
  have hFc := va_free (wc := w0_M qm) hD hS hA [20] rfl
  refine va_callv (va_runI (As := []) (rest := [.ref qm]) ⟨hx, hb, hml, hown, hts⟩ (c_M_init l D qm H.size) (cwI 0 hts (goodW (by decide +kernel : ak_nth wd_tbl 336 = some (.code y_M_init prog_7_method_1_code 1 none))) rfl rfl rfl (hts _ (wd_in _ (ak_mem (k := 25) (by decide +kernel : ak_nth wd_tbl 25 = some (.initialized "LogicalPairsModel"))))) (hts _ (wd_in _ (ak_mem (k := 334) (by decide +kernel : ak_nth wd_tbl 334 = some (.methodLink "LogicalPairsLaw" 12 y_M_init))))) (hts _ (wd_in _ (ak_mem (k := 335) (by decide +kernel : ak_nth wd_tbl 335 = some (.instanceMethod y_M_init))))) rfl (by decide +kernel) ⟨Nat.le_of_ble_eq_true rfl, Nat.le_of_ble_eq_true rfl⟩) ⟨fun a U g mk q => by obtain ⟨q0, q1, qP, qK, qD⟩ := q; exact ⟨q0, q1, qP, va_K.moved (u := U) (U := U.calling g mk a) (Vm.Alike.refl U.vm) qK, qD⟩, fun U hU hW => ⟨rfl, by rw [hU], by rw [hU]; exact hPc, va_K.moved hW.alike hK, hDc.weaken (fun _ _ _ _ => trivial)⟩⟩ rfl rfl hl.1 rfl (lv_room (Nat.le_of_ble_eq_true rfl)) d_law_12 ⟨Nat.le_of_ble_eq_true rfl, Nat.le_of_ble_eq_true rfl⟩) hS (fun q _ h => hFc q h) hFc (fun v t H1 locs ht hvm hw2 hB hz1 hk1 hS => ?_)
  obtain ⟨hP1, hK1, hD1⟩ := hB
  rw [ht] at hP1
  have hKM : va_K D cl_all (ty_M v) s := va_K.moved hvm.symm hK1
  obtain ⟨hP, hD⟩ := va_join (wc := w0_M qm) (wr := ak_W u.1 u.2 z0 0 lay_C) (w1 := w1_M qm v) hP hD [20] [0, 1, 2, 3, 4, 5, 6, 7, 8, 9, 10, 11, 12, 13, 14, 15, 16, 17, 18, 19] rfl rfl (by decide) (by decide) hk1 hFc hP1 hD1
  generalize H1 = H at hP hS ⊢
  refine W.widen (k := 34) (n := 5702) (Nat.le_of_ble_eq_true rfl) (Nat.le_of_ble_eq_true rfl) ?_
  refine lv_astore_n (lv' := [(2, .ref qm), (1, .ref qx), (0, .ref b)]) hx hb d_law_15 rfl hl (by decide) rfl (fun ls hl => ?_)
  refine lv_iconst (v := 0) hx hb d_law_16 (by decide) ?_
  refine lv_istore_n (lv' := [(3, .int 0), (2, .ref qm), (1, .ref qx), (0, .ref b)]) hx hb d_law_17 rfl hl (by decide) rfl (fun ls hl => ?_)
  obtain ⟨ad, had⟩ : ∃ ad : Nat → Nat, ad = (fun k => match k with | 0 => u.1 0 | 1 => u.1 1 | 2 => u.1 2 | 3 => u.1 3 | 4 => u.1 4 | 5 => u.1 5 | 6 => u.1 6 | 7 => u.1 7 | 8 => u.1 8 | 9 => u.1 9 | 10 => u.1 10 | 11 => u.1 11 | 12 => u.1 12 | 13 => u.1 13 | 14 => u.1 14 | 15 => u.1 15 | 16 => u.1 16 | 17 => u.1 17 | 18 => u.1 18 | 19 => u.1 19 | 20 => qm | 21 => v.1 1 | 22 => v.1 2 | 23 => v.1 3 | 24 => v.1 4 | 25 => v.1 5 | 26 => v.1 6 | 27 => v.1 7 | 28 => v.1 8 | 29 => v.1 9 | 30 => v.1 10 | 31 => v.1 11 | 32 => v.1 12 | 33 => v.1 13 | _ => b) := ⟨_, rfl⟩
  obtain ⟨tyc, htyc⟩ : ∃ tyc : Nat → ClassId, tyc = (fun k => match k with | 0 => u.2 0 | 1 => u.2 1 | 2 => u.2 2 | 3 => u.2 3 | 4 => u.2 4 | 5 => u.2 5 | 6 => u.2 6 | 7 => u.2 7 | 8 => u.2 8 | 9 => u.2 9 | 10 => u.2 10 | 11 => u.2 11 | 12 => u.2 12 | 13 => u.2 13 | 14 => u.2 14 | 15 => u.2 15 | 16 => u.2 16 | 17 => u.2 17 | 18 => u.2 18 | 19 => u.2 19 | 21 => v.2 1 | 22 => v.2 2 | 23 => v.2 3 | 24 => v.2 4 | 25 => v.2 5 | 26 => v.2 6 | 27 => v.2 7 | 28 => v.2 8 | 29 => v.2 9 | 30 => v.2 10 | 31 => v.2 11 | 32 => v.2 12 | _ => v.2 13) := ⟨_, rfl⟩
  have hP9 : va_P D cl_all (ak_W ad tyc z0 0 lay_W) H := by subst had htyc; exact hP.sub [0, 1, 2, 3, 4, 5, 6, 7, 8, 9, 10, 11, 12, 13, 14, 15, 16, 17, 18, 19, 20, 21, 22, 23, 24, 25, 26, 27, 28, 29, 30, 31, 32, 33] rfl
  have hD9 : va_D A (ak_W ad tyc z0 0 lay_W) := by subst had htyc; exact hD.sub [0, 1, 2, 3, 4, 5, 6, 7, 8, 9, 10, 11, 12, 13, 14, 15, 16, 17, 18, 19, 20, 21, 22, 23, 24, 25, 26, 27, 28, 29, 30, 31, 32, 33] (by decide) rfl
  have hK9 : ak_K D cl_all lay_W tyc s := by
    subst htyc
    refine ⟨hK, fun k ty n h => ?_⟩
    match k, h with
    | 0, h => cases h
    | 1, h => cases h
    | 2, h => cases h
    | 3, h => cases h
    | 4, h => cases h
    | 5, h => cases h; exact hKC.2 5 .int 16 rfl
    | 6, h => cases h; exact hKC.2 6 .int 16 rfl
    | 7, h => cases h; exact hKC.2 7 .int 16 rfl
    | 8, h => cases h; exact hKC.2 8 .int 251 rfl
    | 9, h => cases h; exact hKC.2 9 .int 251 rfl
    | 10, h => cases h; exact hKC.2 10 .long 251 rfl
    | 11, h => cases h; exact hKC.2 11 .int 251 rfl
    | 12, h => cases h; exact hKC.2 12 .int 251 rfl
    | 13, h => cases h; exact hKC.2 13 .int 251 rfl
    | 14, h => cases h; exact hKC.2 14 .int 753 rfl
    | 15, h => cases h; exact hKC.2 15 .int 250 rfl
    | 16, h => cases h; exact hKC.2 16 .int 11 rfl
    | 17, h => cases h; exact hKC.2 17 .boolean 11 rfl
    | 18, h => cases h; exact hKC.2 18 .boolean 251 rfl
    | 19, h => cases h; exact hKC.2 19 .int 250 rfl
    | 20, h => cases h
    | 21, h => cases h; exact hKM.2 0 _ rfl
    | 22, h => cases h; exact hKM.2 1 _ rfl
    | 23, h => cases h; exact hKM.2 2 _ rfl
    | 24, h => cases h; exact hKM.2 3 _ rfl
    | 25, h => cases h; exact hKM.2 4 _ rfl
    | 26, h => cases h; exact hKM.2 5 _ rfl
    | 27, h => cases h; exact hKM.2 6 _ rfl
    | 28, h => cases h; exact hKM.2 7 _ rfl
    | 29, h => cases h; exact hKM.2 8 _ rfl
    | 30, h => cases h; exact hKM.2 9 _ rfl
    | 31, h => cases h; exact hKM.2 10 _ rfl
    | 32, h => cases h; exact hKM.2 11 _ rfl
    | 33, h => cases h; exact hKM.2 12 _ rfl
    | k + 34, h => cases h
  have hinj : ak_Inj lay_W ad := fun i j hi hj h => by
    obtain ⟨x, hx1⟩ := ak_nth_some hi
    obtain ⟨y, hy1⟩ := ak_nth_some hj
    exact hD9.1 i j _ _ (ak_W_at0 hx1) (ak_W_at0 hy1) h
  have hA9 : ∀ k, k < lay_W.length → s.heap.size ≤ ad k := fun k hk => by
    obtain ⟨x, hx1⟩ := ak_nth_some hk
    have := hD9.2 k _ (ak_W_at0 hx1)
    rw [hAe] at this
    exact this
  have e0 : ad 0 = qx := by rw [← hw]; subst had; rfl
  have e20 : ad 20 = qm := by subst had; rfl
  have e34 : ad 34 = b := by subst had; rfl
  have C : lk_C p s m meth c b L xs D ad tyc := ⟨C0, hL, hK9, hinj, hA9, e34⟩
  have hl9 : ak_LH ad ls 4 (lkl 0) := by
    refine ⟨hl.1, hl.2.1, fun i v h => ?_⟩
    match i, h with
    | 0, h => cases h; rw [show ak_v ad (.ref 34) = .ref b by show Value.ref (ad 34) = _; rw [e34]]; exact lv_at hl 3 rfl
    | 1, h => cases h; rw [show ak_v ad (.ref 0) = .ref qx by show Value.ref (ad 0) = _; rw [e0]]; exact lv_at hl 2 rfl
    | 2, h => cases h; rw [show ak_v ad (.ref 20) = .ref qm by show Value.ref (ad 20) = _; rw [e20]]; exact lv_at hl 1 rfl
    | 3, h => cases h; exact lv_at hl 0 rfl
    | k + 4, h => cases h
  have hI : lk_I z0 := ⟨a0, AI_0, RC_0, RM_0⟩
  rw [hAe] at hS
  exact lk_loop C (L + 6) 0 z0 (by omega) (by omega) hI H _ ls hP9 hS hl9
