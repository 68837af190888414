/-! what lies at a place, laid by program -/
theorem gC_0_0 (f : Nat → Prop) (g : Prop) : ak_gf (ak_nth lay_C 0) 0 0 f g = f 1 := propext ⟨fun h => h.2, fun h => ⟨rfl, h⟩⟩
theorem gC_0_1 (f : Nat → Prop) (g : Prop) : ak_gf (ak_nth lay_C 0) 0 1 f g = f 2 := propext ⟨fun h => h.2, fun h => ⟨rfl, h⟩⟩
theorem gC_0_2 (f : Nat → Prop) (g : Prop) : ak_gf (ak_nth lay_C 0) 0 2 f g = f 3 := propext ⟨fun h => h.2, fun h => ⟨rfl, h⟩⟩
theorem gC_0_3 (f : Nat → Prop) (g : Prop) : ak_gf (ak_nth lay_C 0) 0 3 f g = f 4 := propext ⟨fun h => h.2, fun h => ⟨rfl, h⟩⟩
theorem rC_0 (vs : List Value) : ak_rc lay_C (.ref 0 :: vs) 0 = True := propext ⟨fun _ => trivial, fun _ => rfl⟩
theorem gC_1_0 (f : Nat → Prop) (g : Prop) : ak_gf (ak_nth lay_C 1) 1 0 f g = g := propext ⟨fun h => h.2, fun h => ⟨rfl, h⟩⟩
theorem pC_1_0 (g : Prop) : ak_pf (ak_nth lay_C 1) 1 0 g = g := propext ⟨fun h => h.2, fun h => ⟨rfl, h⟩⟩
theorem gC_1_1 (f : Nat → Prop) (g : Prop) : ak_gf (ak_nth lay_C 1) 1 1 f g = f 5 := propext ⟨fun h => h.2, fun h => ⟨rfl, h⟩⟩
theorem gC_1_2 (f : Nat → Prop) (g : Prop) : ak_gf (ak_nth lay_C 1) 1 2 f g = f 6 := propext ⟨fun h => h.2, fun h => ⟨rfl, h⟩⟩
theorem gC_1_3 (f : Nat → Prop) (g : Prop) : ak_gf (ak_nth lay_C 1) 1 3 f g = f 7 := propext ⟨fun h => h.2, fun h => ⟨rfl, h⟩⟩
theorem rC_1 (vs : List Value) : ak_rc lay_C (.ref 1 :: vs) 1 = True := propext ⟨fun _ => trivial, fun _ => rfl⟩
theorem gC_2_0 (f : Nat → Prop) (g : Prop) : ak_gf (ak_nth lay_C 2) 2 0 f g = g := propext ⟨fun h => h.2, fun h => ⟨rfl, h⟩⟩
theorem pC_2_0 (g : Prop) : ak_pf (ak_nth lay_C 2) 2 0 g = g := propext ⟨fun h => h.2, fun h => ⟨rfl, h⟩⟩
theorem gC_2_1 (f : Nat → Prop) (g : Prop) : ak_gf (ak_nth lay_C 2) 2 1 f g = f 8 := propext ⟨fun h => h.2, fun h => ⟨rfl, h⟩⟩
theorem gC_2_2 (f : Nat → Prop) (g : Prop) : ak_gf (ak_nth lay_C 2) 2 2 f g = f 9 := propext ⟨fun h => h.2, fun h => ⟨rfl, h⟩⟩
theorem gC_2_3 (f : Nat → Prop) (g : Prop) : ak_gf (ak_nth lay_C 2) 2 3 f g = f 10 := propext ⟨fun h => h.2, fun h => ⟨rfl, h⟩⟩
theorem gC_2_4 (f : Nat → Prop) (g : Prop) : ak_gf (ak_nth lay_C 2) 2 4 f g = f 11 := propext ⟨fun h => h.2, fun h => ⟨rfl, h⟩⟩
theorem gC_2_5 (f : Nat → Prop) (g : Prop) : ak_gf (ak_nth lay_C 2) 2 5 f g = f 12 := propext ⟨fun h => h.2, fun h => ⟨rfl, h⟩⟩
theorem gC_2_6 (f : Nat → Prop) (g : Prop) : ak_gf (ak_nth lay_C 2) 2 6 f g = f 13 := propext ⟨fun h => h.2, fun h => ⟨rfl, h⟩⟩
theorem gC_2_7 (f : Nat → Prop) (g : Prop) : ak_gf (ak_nth lay_C 2) 2 7 f g = f 14 := propext ⟨fun h => h.2, fun h => ⟨rfl, h⟩⟩
theorem gC_2_8 (f : Nat → Prop) (g : Prop) : ak_gf (ak_nth lay_C 2) 2 8 f g = f 15 := propext ⟨fun h => h.2, fun h => ⟨rfl, h⟩⟩
theorem rC_2 (vs : List Value) : ak_rc lay_C (.ref 2 :: vs) 2 = True := propext ⟨fun _ => trivial, fun _ => rfl⟩
theorem gC_3_0 (f : Nat → Prop) (g : Prop) : ak_gf (ak_nth lay_C 3) 3 0 f g = g := propext ⟨fun h => h.2, fun h => ⟨rfl, h⟩⟩
theorem pC_3_0 (g : Prop) : ak_pf (ak_nth lay_C 3) 3 0 g = g := propext ⟨fun h => h.2, fun h => ⟨rfl, h⟩⟩
theorem gC_3_1 (f : Nat → Prop) (g : Prop) : ak_gf (ak_nth lay_C 3) 3 1 f g = f 16 := propext ⟨fun h => h.2, fun h => ⟨rfl, h⟩⟩
theorem gC_3_2 (f : Nat → Prop) (g : Prop) : ak_gf (ak_nth lay_C 3) 3 2 f g = f 17 := propext ⟨fun h => h.2, fun h => ⟨rfl, h⟩⟩
theorem rC_3 (vs : List Value) : ak_rc lay_C (.ref 3 :: vs) 3 = True := propext ⟨fun _ => trivial, fun _ => rfl⟩
theorem gC_4_0 (f : Nat → Prop) (g : Prop) : ak_gf (ak_nth lay_C 4) 4 0 f g = f 1 := propext ⟨fun h => h.2, fun h => ⟨rfl, h⟩⟩
theorem gC_4_1 (f : Nat → Prop) (g : Prop) : ak_gf (ak_nth lay_C 4) 4 1 f g = f 2 := propext ⟨fun h => h.2, fun h => ⟨rfl, h⟩⟩
theorem gC_4_2 (f : Nat → Prop) (g : Prop) : ak_gf (ak_nth lay_C 4) 4 2 f g = f 18 := propext ⟨fun h => h.2, fun h => ⟨rfl, h⟩⟩
theorem gC_4_3 (f : Nat → Prop) (g : Prop) : ak_gf (ak_nth lay_C 4) 4 3 f g = f 19 := propext ⟨fun h => h.2, fun h => ⟨rfl, h⟩⟩
theorem gC_4_4 (f : Nat → Prop) (g : Prop) : ak_gf (ak_nth lay_C 4) 4 4 f g = g := propext ⟨fun h => h.2, fun h => ⟨rfl, h⟩⟩
theorem pC_4_4 (g : Prop) : ak_pf (ak_nth lay_C 4) 4 4 g = g := propext ⟨fun h => h.2, fun h => ⟨rfl, h⟩⟩
theorem rC_4 (vs : List Value) : ak_rc lay_C (.ref 4 :: vs) 4 = True := propext ⟨fun _ => trivial, fun _ => rfl⟩
theorem kC_5 (i : Int32) (g : Prop) : ak_ai (ak_nth lay_C 5) i g = (vp_in i 16 ∧ g) := rfl
theorem kC_6 (i : Int32) (g : Prop) : ak_ai (ak_nth lay_C 6) i g = (vp_in i 16 ∧ g) := rfl
theorem kC_7 (i : Int32) (g : Prop) : ak_ai (ak_nth lay_C 7) i g = (vp_in i 16 ∧ g) := rfl
theorem kC_8 (i : Int32) (g : Prop) : ak_ai (ak_nth lay_C 8) i g = (vp_in i 251 ∧ g) := rfl
theorem kC_9 (i : Int32) (g : Prop) : ak_ai (ak_nth lay_C 9) i g = (vp_in i 251 ∧ g) := rfl
theorem kC_10 (i : Int32) (g : Prop) : ak_al (ak_nth lay_C 10) i g = (vp_in i 251 ∧ g) := rfl
theorem kC_11 (i : Int32) (g : Prop) : ak_ai (ak_nth lay_C 11) i g = (vp_in i 251 ∧ g) := rfl
theorem kC_12 (i : Int32) (g : Prop) : ak_ai (ak_nth lay_C 12) i g = (vp_in i 251 ∧ g) := rfl
theorem kC_13 (i : Int32) (g : Prop) : ak_ai (ak_nth lay_C 13) i g = (vp_in i 251 ∧ g) := rfl
theorem kC_14 (i : Int32) (g : Prop) : ak_ai (ak_nth lay_C 14) i g = (vp_in i 753 ∧ g) := rfl
theorem kC_15 (i : Int32) (g : Prop) : ak_ai (ak_nth lay_C 15) i g = (vp_in i 250 ∧ g) := rfl
theorem kC_16 (i : Int32) (g : Prop) : ak_ai (ak_nth lay_C 16) i g = (vp_in i 11 ∧ g) := rfl
theorem kC_17 (i : Int32) (g : Prop) : ak_az (ak_nth lay_C 17) i g = (vp_in i 11 ∧ g) := rfl
theorem kC_18 (i : Int32) (g : Prop) : ak_az (ak_nth lay_C 18) i g = (vp_in i 251 ∧ g) := rfl
theorem kC_19 (i : Int32) (g : Prop) : ak_ai (ak_nth lay_C 19) i g = (vp_in i 250 ∧ g) := rfl
theorem gM_0_0 (f : Nat → Prop) (g : Prop) : ak_gf (ak_nth lay_M 0) 5 0 f g = g := propext ⟨fun h => h.2, fun h => ⟨rfl, h⟩⟩
theorem pM_0_0 (g : Prop) : ak_pf (ak_nth lay_M 0) 5 0 g = g := propext ⟨fun h => h.2, fun h => ⟨rfl, h⟩⟩
theorem gM_0_1 (f : Nat → Prop) (g : Prop) : ak_gf (ak_nth lay_M 0) 5 1 f g = g := propext ⟨fun h => h.2, fun h => ⟨rfl, h⟩⟩
theorem pM_0_1 (g : Prop) : ak_pf (ak_nth lay_M 0) 5 1 g = g := propext ⟨fun h => h.2, fun h => ⟨rfl, h⟩⟩
theorem gM_0_2 (f : Nat → Prop) (g : Prop) : ak_gf (ak_nth lay_M 0) 5 2 f g = g := propext ⟨fun h => h.2, fun h => ⟨rfl, h⟩⟩
theorem pM_0_2 (g : Prop) : ak_pf (ak_nth lay_M 0) 5 2 g = g := propext ⟨fun h => h.2, fun h => ⟨rfl, h⟩⟩
theorem gM_0_3 (f : Nat → Prop) (g : Prop) : ak_gf (ak_nth lay_M 0) 5 3 f g = g := propext ⟨fun h => h.2, fun h => ⟨rfl, h⟩⟩
theorem pM_0_3 (g : Prop) : ak_pf (ak_nth lay_M 0) 5 3 g = g := propext ⟨fun h => h.2, fun h => ⟨rfl, h⟩⟩
theorem gM_0_4 (f : Nat → Prop) (g : Prop) : ak_gf (ak_nth lay_M 0) 5 4 f g = f 1 := propext ⟨fun h => h.2, fun h => ⟨rfl, h⟩⟩
theorem gM_0_5 (f : Nat → Prop) (g : Prop) : ak_gf (ak_nth lay_M 0) 5 5 f g = f 2 := propext ⟨fun h => h.2, fun h => ⟨rfl, h⟩⟩
theorem gM_0_6 (f : Nat → Prop) (g : Prop) : ak_gf (ak_nth lay_M 0) 5 6 f g = f 3 := propext ⟨fun h => h.2, fun h => ⟨rfl, h⟩⟩
theorem gM_0_7 (f : Nat → Prop) (g : Prop) : ak_gf (ak_nth lay_M 0) 5 7 f g = f 4 := propext ⟨fun h => h.2, fun h => ⟨rfl, h⟩⟩
theorem gM_0_8 (f : Nat → Prop) (g : Prop) : ak_gf (ak_nth lay_M 0) 5 8 f g = f 5 := propext ⟨fun h => h.2, fun h => ⟨rfl, h⟩⟩
theorem gM_0_9 (f : Nat → Prop) (g : Prop) : ak_gf (ak_nth lay_M 0) 5 9 f g = f 6 := propext ⟨fun h => h.2, fun h => ⟨rfl, h⟩⟩
theorem gM_0_10 (f : Nat → Prop) (g : Prop) : ak_gf (ak_nth lay_M 0) 5 10 f g = f 7 := propext ⟨fun h => h.2, fun h => ⟨rfl, h⟩⟩
theorem gM_0_11 (f : Nat → Prop) (g : Prop) : ak_gf (ak_nth lay_M 0) 5 11 f g = f 8 := propext ⟨fun h => h.2, fun h => ⟨rfl, h⟩⟩
theorem gM_0_12 (f : Nat → Prop) (g : Prop) : ak_gf (ak_nth lay_M 0) 5 12 f g = f 9 := propext ⟨fun h => h.2, fun h => ⟨rfl, h⟩⟩
theorem gM_0_13 (f : Nat → Prop) (g : Prop) : ak_gf (ak_nth lay_M 0) 5 13 f g = f 10 := propext ⟨fun h => h.2, fun h => ⟨rfl, h⟩⟩
theorem gM_0_14 (f : Nat → Prop) (g : Prop) : ak_gf (ak_nth lay_M 0) 5 14 f g = f 11 := propext ⟨fun h => h.2, fun h => ⟨rfl, h⟩⟩
theorem gM_0_15 (f : Nat → Prop) (g : Prop) : ak_gf (ak_nth lay_M 0) 5 15 f g = f 12 := propext ⟨fun h => h.2, fun h => ⟨rfl, h⟩⟩
theorem gM_0_16 (f : Nat → Prop) (g : Prop) : ak_gf (ak_nth lay_M 0) 5 16 f g = f 13 := propext ⟨fun h => h.2, fun h => ⟨rfl, h⟩⟩
theorem rM_0 (vs : List Value) : ak_rc lay_M (.ref 0 :: vs) 5 = True := propext ⟨fun _ => trivial, fun _ => rfl⟩
theorem kM_1 (i : Int32) (g : Prop) : ak_ai (ak_nth lay_M 1) i g = (vp_in i 16 ∧ g) := rfl
theorem kM_2 (i : Int32) (g : Prop) : ak_ai (ak_nth lay_M 2) i g = (vp_in i 16 ∧ g) := rfl
theorem kM_3 (i : Int32) (g : Prop) : ak_ai (ak_nth lay_M 3) i g = (vp_in i 16 ∧ g) := rfl
theorem kM_4 (i : Int32) (g : Prop) : ak_ai (ak_nth lay_M 4) i g = (vp_in i 251 ∧ g) := rfl
theorem kM_5 (i : Int32) (g : Prop) : ak_ai (ak_nth lay_M 5) i g = (vp_in i 251 ∧ g) := rfl
theorem kM_6 (i : Int32) (g : Prop) : ak_ai (ak_nth lay_M 6) i g = (vp_in i 251 ∧ g) := rfl
theorem kM_7 (i : Int32) (g : Prop) : ak_ai (ak_nth lay_M 7) i g = (vp_in i 251 ∧ g) := rfl
theorem kM_8 (i : Int32) (g : Prop) : ak_ai (ak_nth lay_M 8) i g = (vp_in i 753 ∧ g) := rfl
theorem kM_9 (i : Int32) (g : Prop) : ak_al (ak_nth lay_M 9) i g = (vp_in i 251 ∧ g) := rfl
theorem kM_10 (i : Int32) (g : Prop) : ak_az (ak_nth lay_M 10) i g = (vp_in i 251 ∧ g) := rfl
theorem kM_11 (i : Int32) (g : Prop) : ak_az (ak_nth lay_M 11) i g = (vp_in i 251 ∧ g) := rfl
theorem kM_12 (i : Int32) (g : Prop) : ak_ai (ak_nth lay_M 12) i g = (vp_in i 11 ∧ g) := rfl
theorem kM_13 (i : Int32) (g : Prop) : ak_az (ak_nth lay_M 13) i g = (vp_in i 11 ∧ g) := rfl
theorem fd_K_has_0 : ak_find bl_K_has 0 = bk_K_has_0 := rfl
theorem fd_K_has_17 : ak_find bl_K_has 17 = bk_K_has_17 := rfl
theorem fd_K_has_18 : ak_find bl_K_has 18 = bk_K_has_18 := rfl
theorem fd_K_add_0 : ak_find bl_K_add 0 = bk_K_add_0 := rfl
theorem fd_K_add_11 : ak_find bl_K_add 11 = bk_K_add_11 := rfl
theorem fd_S_has_0 : ak_find bl_S_has 0 = bk_S_has_0 := rfl
theorem fd_S_has_17 : ak_find bl_S_has 17 = bk_S_has_17 := rfl
theorem fd_S_has_18 : ak_find bl_S_has 18 = bk_S_has_18 := rfl
theorem fd_S_is_0 : ak_find bl_S_is 0 = bk_S_is_0 := rfl
theorem fd_S_is_22 : ak_find bl_S_is 22 = bk_S_is_22 := rfl
theorem fd_S_is_23 : ak_find bl_S_is 23 = bk_S_is_23 := rfl
theorem fd_S_isOneUnder_0 : ak_find bl_S_isOneUnder 0 = bk_S_isOneUnder_0 := rfl
theorem fd_S_isOneUnder_34 : ak_find bl_S_isOneUnder 34 = bk_S_isOneUnder_34 := rfl
theorem fd_S_isOneUnder_35 : ak_find bl_S_isOneUnder 35 = bk_S_isOneUnder_35 := rfl
theorem fd_S_wereOf_0 : ak_find bl_S_wereOf 0 = bk_S_wereOf_0 := rfl
theorem fd_S_wereOf_2 : ak_find bl_S_wereOf 2 = bk_S_wereOf_2 := rfl
theorem fd_S_wereOf_22 : ak_find bl_S_wereOf 22 = bk_S_wereOf_22 := rfl
theorem fd_S_wereOf_28 : ak_find bl_S_wereOf 28 = bk_S_wereOf_28 := rfl
theorem fd_S_hasKey_0 : ak_find bl_S_hasKey 0 = bk_S_hasKey_0 := rfl
theorem fd_S_hasKey_3 : ak_find bl_S_hasKey 3 = bk_S_hasKey_3 := rfl
theorem fd_S_hasKey_37 : ak_find bl_S_hasKey 37 = bk_S_hasKey_37 := rfl
theorem fd_S_hasKey_43 : ak_find bl_S_hasKey 43 = bk_S_hasKey_43 := rfl
theorem fd_S_truth_0 : ak_find bl_S_truth 0 = bk_S_truth_0 := rfl
theorem fd_S_truth_11 : ak_find bl_S_truth 11 = bk_S_truth_11 := rfl
theorem fd_S_truth_25 : ak_find bl_S_truth 25 = bk_S_truth_25 := rfl
theorem fd_S_truth_31 : ak_find bl_S_truth 31 = bk_S_truth_31 := rfl
theorem fd_S_setRight_0 : ak_find bl_S_setRight 0 = bk_S_setRight_0 := rfl
theorem fd_S_setRight_2 : ak_find bl_S_setRight 2 = bk_S_setRight_2 := rfl
theorem fd_S_setRight_29 : ak_find bl_S_setRight 29 = bk_S_setRight_29 := rfl
theorem fd_S_putByKey_0 : ak_find bl_S_putByKey 0 = bk_S_putByKey_0 := rfl
theorem fd_S_putByKey_4 : ak_find bl_S_putByKey 4 = bk_S_putByKey_4 := rfl
theorem fd_S_putByKey_51 : ak_find bl_S_putByKey 51 = bk_S_putByKey_51 := rfl
theorem fd_S_add_0 : ak_find bl_S_add 0 = bk_S_add_0 := rfl
theorem fd_S_add_12 : ak_find bl_S_add 12 = bk_S_add_12 := rfl
theorem fd_S_logicalChild_0 : ak_find bl_S_logicalChild 0 = bk_S_logicalChild_0 := rfl
theorem fd_S_logicalChild_5 : ak_find bl_S_logicalChild 5 = bk_S_logicalChild_5 := rfl
theorem fd_S_logicalChild_44 : ak_find bl_S_logicalChild 44 = bk_S_logicalChild_44 := rfl
theorem fd_S_logicalChild_50 : ak_find bl_S_logicalChild 50 = bk_S_logicalChild_50 := rfl
theorem fd_S_join_0 : ak_find bl_S_join 0 = bk_S_join_0 := rfl
theorem fd_S_part_0 : ak_find bl_S_part 0 = bk_S_part_0 := rfl
theorem fd_S_part_12 : ak_find bl_S_part 12 = bk_S_part_12 := rfl
theorem fd_S_say_0 : ak_find bl_S_say 0 = bk_S_say_0 := rfl
theorem fd_S_wrongPointers_0 : ak_find bl_S_wrongPointers 0 = bk_S_wrongPointers_0 := rfl
theorem fd_S_wrongPointers_11 : ak_find bl_S_wrongPointers 11 = bk_S_wrongPointers_11 := rfl
theorem fd_S_wrongPointers_15 : ak_find bl_S_wrongPointers 15 = bk_S_wrongPointers_15 := rfl
theorem fd_S_wrongPointers_42 : ak_find bl_S_wrongPointers 42 = bk_S_wrongPointers_42 := rfl
theorem fd_S_wrongPointers_48 : ak_find bl_S_wrongPointers 48 = bk_S_wrongPointers_48 := rfl
theorem fd_S_takeAway_0 : ak_find bl_S_takeAway 0 = bk_S_takeAway_0 := rfl
theorem fd_S_dropThoseWithoutCount_0 : ak_find bl_S_dropThoseWithoutCount 0 = bk_S_dropThoseWithoutCount_0 := rfl
theorem fd_S_dropThoseWithoutCount_2 : ak_find bl_S_dropThoseWithoutCount 2 = bk_S_dropThoseWithoutCount_2 := rfl
theorem fd_S_dropThoseWithoutCount_36 : ak_find bl_S_dropThoseWithoutCount 36 = bk_S_dropThoseWithoutCount_36 := rfl
theorem fd_S_dropThoseWithoutCount_42 : ak_find bl_S_dropThoseWithoutCount 42 = bk_S_dropThoseWithoutCount_42 := rfl
theorem fd_S_howMany_0 : ak_find bl_S_howMany 0 = bk_S_howMany_0 := rfl
theorem fd_S_howMany_4 : ak_find bl_S_howMany 4 = bk_S_howMany_4 := rfl
theorem fd_S_howMany_25 : ak_find bl_S_howMany 25 = bk_S_howMany_25 := rfl
theorem fd_S_howMany_31 : ak_find bl_S_howMany 31 = bk_S_howMany_31 := rfl
theorem fd_S_relations_0 : ak_find bl_S_relations 0 = bk_S_relations_0 := rfl
theorem fd_S_relations_4 : ak_find bl_S_relations 4 = bk_S_relations_4 := rfl
theorem fd_S_relations_24 : ak_find bl_S_relations 24 = bk_S_relations_24 := rfl
theorem fd_S_relations_30 : ak_find bl_S_relations 30 = bk_S_relations_30 := rfl
theorem fd_X_has_0 : ak_find bl_X_has 0 = bk_X_has_0 := rfl
theorem fd_X_has_17 : ak_find bl_X_has 17 = bk_X_has_17 := rfl
theorem fd_X_has_18 : ak_find bl_X_has 18 = bk_X_has_18 := rfl
theorem fd_X_add_0 : ak_find bl_X_add 0 = bk_X_add_0 := rfl
theorem fd_X_add_11 : ak_find bl_X_add 11 = bk_X_add_11 := rfl
theorem fd_D_add_0 : ak_find bl_D_add 0 = bk_D_add_0 := rfl
theorem fd_D_add_19 : ak_find bl_D_add 19 = bk_D_add_19 := rfl
theorem fd_D_add_20 : ak_find bl_D_add 20 = bk_D_add_20 := rfl
theorem fd_D_isRelatedByRule_0 : ak_find bl_D_isRelatedByRule 0 = bk_D_isRelatedByRule_0 := rfl
theorem fd_D_isRelatedByRule_38 : ak_find bl_D_isRelatedByRule 38 = bk_D_isRelatedByRule_38 := rfl
theorem fd_D_isRelatedByRule_39 : ak_find bl_D_isRelatedByRule 39 = bk_D_isRelatedByRule_39 := rfl
theorem fd_D_addThoseTakenBy_0 : ak_find bl_D_addThoseTakenBy 0 = bk_D_addThoseTakenBy_0 := rfl
theorem fd_D_addThoseTakenBy_2 : ak_find bl_D_addThoseTakenBy 2 = bk_D_addThoseTakenBy_2 := rfl
theorem fd_D_addThoseTakenBy_36 : ak_find bl_D_addThoseTakenBy 36 = bk_D_addThoseTakenBy_36 := rfl
theorem fd_D_addThoseTakenBy_41 : ak_find bl_D_addThoseTakenBy 41 = bk_D_addThoseTakenBy_41 := rfl
theorem fd_D_addThoseTakenBy_47 : ak_find bl_D_addThoseTakenBy 47 = bk_D_addThoseTakenBy_47 := rfl
theorem fd_D_gather_0 : ak_find bl_D_gather 0 = bk_D_gather_0 := rfl
theorem fd_D_gather_2 : ak_find bl_D_gather 2 = bk_D_gather_2 := rfl
theorem fd_D_gather_22 : ak_find bl_D_gather 22 = bk_D_gather_22 := rfl
theorem fd_D_gather_34 : ak_find bl_D_gather 34 = bk_D_gather_34 := rfl
theorem fd_D_gather_65 : ak_find bl_D_gather 65 = bk_D_gather_65 := rfl
theorem fd_D_isBarred_0 : ak_find bl_D_isBarred 0 = bk_D_isBarred_0 := rfl
theorem fd_D_isBarred_2 : ak_find bl_D_isBarred 2 = bk_D_isBarred_2 := rfl
theorem fd_D_isBarred_53 : ak_find bl_D_isBarred 53 = bk_D_isBarred_53 := rfl
theorem fd_D_isBarred_59 : ak_find bl_D_isBarred 59 = bk_D_isBarred_59 := rfl
theorem fd_D_carryOut_0 : ak_find bl_D_carryOut 0 = bk_D_carryOut_0 := rfl
theorem fd_D_carryOut_2 : ak_find bl_D_carryOut 2 = bk_D_carryOut_2 := rfl
theorem fd_D_carryOut_29 : ak_find bl_D_carryOut 29 = bk_D_carryOut_29 := rfl
theorem fd_D_carryOut_31 : ak_find bl_D_carryOut 31 = bk_D_carryOut_31 := rfl
theorem fd_D_carryOut_58 : ak_find bl_D_carryOut 58 = bk_D_carryOut_58 := rfl
theorem fd_L_mayBeUnder_0 : ak_find bl_L_mayBeUnder 0 = bk_L_mayBeUnder_0 := rfl
theorem fd_L_mayBeUnder_22 : ak_find bl_L_mayBeUnder 22 = bk_L_mayBeUnder_22 := rfl
theorem fd_L_mayBeUnder_23 : ak_find bl_L_mayBeUnder 23 = bk_L_mayBeUnder_23 := rfl
theorem fd_L_mayBeUnder_24 : ak_find bl_L_mayBeUnder 24 = bk_L_mayBeUnder_24 := rfl
theorem fd_L_mayBeUnder_53 : ak_find bl_L_mayBeUnder 53 = bk_L_mayBeUnder_53 := rfl
theorem fd_L_mayBeUnder_54 : ak_find bl_L_mayBeUnder 54 = bk_L_mayBeUnder_54 := rfl
theorem fd_L_physicalChild_0 : ak_find bl_L_physicalChild 0 = bk_L_physicalChild_0 := rfl
theorem fd_L_physicalChild_5 : ak_find bl_L_physicalChild 5 = bk_L_physicalChild_5 := rfl
theorem fd_L_physicalChild_42 : ak_find bl_L_physicalChild 42 = bk_L_physicalChild_42 := rfl
theorem fd_L_physicalChild_45 : ak_find bl_L_physicalChild 45 = bk_L_physicalChild_45 := rfl
theorem fd_L_physicalChild_94 : ak_find bl_L_physicalChild 94 = bk_L_physicalChild_94 := rfl
theorem fd_L_physicalChild_100 : ak_find bl_L_physicalChild 100 = bk_L_physicalChild_100 := rfl
theorem fd_L_physicalChild_106 : ak_find bl_L_physicalChild 106 = bk_L_physicalChild_106 := rfl
theorem fd_L_isIn_0 : ak_find bl_L_isIn 0 = bk_L_isIn_0 := rfl
theorem fd_L_isIn_59 : ak_find bl_L_isIn 59 = bk_L_isIn_59 := rfl
theorem fd_L_isIn_63 : ak_find bl_L_isIn 63 = bk_L_isIn_63 := rfl
theorem fd_L_isIn_64 : ak_find bl_L_isIn 64 = bk_L_isIn_64 := rfl
theorem fd_L_kind_0 : ak_find bl_L_kind 0 = bk_L_kind_0 := rfl
theorem fd_L_kind_18 : ak_find bl_L_kind 18 = bk_L_kind_18 := rfl
theorem fd_L_parent_0 : ak_find bl_L_parent 0 = bk_L_parent_0 := rfl
theorem fd_L_parent_22 : ak_find bl_L_parent 22 = bk_L_parent_22 := rfl
theorem fd_L_parent_25 : ak_find bl_L_parent 25 = bk_L_parent_25 := rfl
theorem fd_L_parent_34 : ak_find bl_L_parent 34 = bk_L_parent_34 := rfl
theorem fd_L_parent_37 : ak_find bl_L_parent 37 = bk_L_parent_37 := rfl
theorem fd_L_parent_51 : ak_find bl_L_parent 51 = bk_L_parent_51 := rfl
theorem fd_L_parent_65 : ak_find bl_L_parent 65 = bk_L_parent_65 := rfl
theorem fd_L_segment_0 : ak_find bl_L_segment 0 = bk_L_segment_0 := rfl
theorem fd_L_segment_14 : ak_find bl_L_segment 14 = bk_L_segment_14 := rfl
theorem fd_L_segment_26 : ak_find bl_L_segment 26 = bk_L_segment_26 := rfl
theorem fd_L_segment_42 : ak_find bl_L_segment 42 = bk_L_segment_42 := rfl
theorem fd_L_relate_0 : ak_find bl_L_relate 0 = bk_L_relate_0 := rfl
theorem fd_L_relate_22 : ak_find bl_L_relate 22 = bk_L_relate_22 := rfl
theorem fd_L_relate_25 : ak_find bl_L_relate 25 = bk_L_relate_25 := rfl
theorem fd_L_relate_59 : ak_find bl_L_relate 59 = bk_L_relate_59 := rfl
theorem fd_L_relate_62 : ak_find bl_L_relate 62 = bk_L_relate_62 := rfl
theorem fd_L_relate_98 : ak_find bl_L_relate 98 = bk_L_relate_98 := rfl
theorem fd_L_relate_101 : ak_find bl_L_relate 101 = bk_L_relate_101 := rfl
theorem fd_L_delete_0 : ak_find bl_L_delete 0 = bk_L_delete_0 := rfl
theorem fd_L_delete_14 : ak_find bl_L_delete 14 = bk_L_delete_14 := rfl
theorem fd_L_delete_29 : ak_find bl_L_delete 29 = bk_L_delete_29 := rfl
theorem fd_L_delete_50 : ak_find bl_L_delete 50 = bk_L_delete_50 := rfl
theorem fd_L_there_0 : ak_find bl_L_there 0 = bk_L_there_0 := rfl
theorem fd_L_there_14 : ak_find bl_L_there 14 = bk_L_there_14 := rfl
theorem fd_L_there_35 : ak_find bl_L_there 35 = bk_L_there_35 := rfl
theorem fd_L_there_36 : ak_find bl_L_there 36 = bk_L_there_36 := rfl
theorem fd_L_child_0 : ak_find bl_L_child 0 = bk_L_child_0 := rfl
theorem fd_L_child_15 : ak_find bl_L_child 15 = bk_L_child_15 := rfl
theorem fd_L_child_17 : ak_find bl_L_child 17 = bk_L_child_17 := rfl
theorem fd_L_child_28 : ak_find bl_L_child 28 = bk_L_child_28 := rfl
theorem fd_L_child_45 : ak_find bl_L_child 45 = bk_L_child_45 := rfl
theorem fd_L_child_46 : ak_find bl_L_child 46 = bk_L_child_46 := rfl
theorem fd_L_count_0 : ak_find bl_L_count 0 = bk_L_count_0 := rfl
theorem fd_L_count_23 : ak_find bl_L_count 23 = bk_L_count_23 := rfl
theorem fd_L_count_25 : ak_find bl_L_count 25 = bk_L_count_25 := rfl
theorem fd_L_index_0 : ak_find bl_L_index 0 = bk_L_index_0 := rfl
theorem fd_L_index_14 : ak_find bl_L_index 14 = bk_L_index_14 := rfl
theorem fd_L_entry_0 : ak_find bl_L_entry 0 = bk_L_entry_0 := rfl
theorem fd_L_entry_15 : ak_find bl_L_entry 15 = bk_L_entry_15 := rfl
theorem fd_L_entry_17 : ak_find bl_L_entry 17 = bk_L_entry_17 := rfl
theorem fd_L_entry_22 : ak_find bl_L_entry 22 = bk_L_entry_22 := rfl
theorem fd_L_entry_66 : ak_find bl_L_entry 66 = bk_L_entry_66 := rfl
theorem fd_L_entry_72 : ak_find bl_L_entry 72 = bk_L_entry_72 := rfl
theorem fd_L_poke_0 : ak_find bl_L_poke 0 = bk_L_poke_0 := rfl
theorem fd_L_poke_14 : ak_find bl_L_poke 14 = bk_L_poke_14 := rfl
theorem fd_L_poke_23 : ak_find bl_L_poke 23 = bk_L_poke_23 := rfl
theorem fd_L_poke_26 : ak_find bl_L_poke 26 = bk_L_poke_26 := rfl
theorem fd_L_poke_41 : ak_find bl_L_poke 41 = bk_L_poke_41 := rfl
theorem fd_L_check_0 : ak_find bl_L_check 0 = bk_L_check_0 := rfl
theorem fd_L_check_4 : ak_find bl_L_check 4 = bk_L_check_4 := rfl
theorem fd_L_check_32 : ak_find bl_L_check 32 = bk_L_check_32 := rfl
theorem fd_L_broken_0 : ak_find bl_L_broken 0 = bk_L_broken_0 := rfl
theorem fd_L_broken_6 : ak_find bl_L_broken 6 = bk_L_broken_6 := rfl
theorem fd_L_broken_10 : ak_find bl_L_broken 10 = bk_L_broken_10 := rfl
theorem fd_L_broken_38 : ak_find bl_L_broken 38 = bk_L_broken_38 := rfl
theorem fd_L_broken_44 : ak_find bl_L_broken 44 = bk_L_broken_44 := rfl
theorem fd_L_told_0 : ak_find bl_L_told 0 = bk_L_told_0 := rfl
theorem fd_L_told_40 : ak_find bl_L_told 40 = bk_L_told_40 := rfl
theorem fd_L_told_48 : ak_find bl_L_told 48 = bk_L_told_48 := rfl
theorem fd_L_told_56 : ak_find bl_L_told 56 = bk_L_told_56 := rfl
theorem fd_L_told_65 : ak_find bl_L_told 65 = bk_L_told_65 := rfl
theorem fd_L_told_74 : ak_find bl_L_told 74 = bk_L_told_74 := rfl
theorem fd_L_told_82 : ak_find bl_L_told 82 = bk_L_told_82 := rfl
theorem fd_L_told_90 : ak_find bl_L_told 90 = bk_L_told_90 := rfl
theorem fd_M_isKind_0 : ak_find bl_M_isKind 0 = bk_M_isKind_0 := rfl
theorem fd_M_isKind_16 : ak_find bl_M_isKind 16 = bk_M_isKind_16 := rfl
theorem fd_M_isKind_17 : ak_find bl_M_isKind 17 = bk_M_isKind_17 := rfl
theorem fd_M_isSegment_0 : ak_find bl_M_isSegment 0 = bk_M_isSegment_0 := rfl
theorem fd_M_isSegment_16 : ak_find bl_M_isSegment 16 = bk_M_isSegment_16 := rfl
theorem fd_M_isSegment_17 : ak_find bl_M_isSegment 17 = bk_M_isSegment_17 := rfl
theorem fd_M_isThere_0 : ak_find bl_M_isThere 0 = bk_M_isThere_0 := rfl
theorem fd_M_isThere_22 : ak_find bl_M_isThere 22 = bk_M_isThere_22 := rfl
theorem fd_M_isThere_23 : ak_find bl_M_isThere 23 = bk_M_isThere_23 := rfl
theorem fd_M_countOf_0 : ak_find bl_M_countOf 0 = bk_M_countOf_0 := rfl
theorem fd_M_countOf_4 : ak_find bl_M_countOf 4 = bk_M_countOf_4 := rfl
theorem fd_M_countOf_37 : ak_find bl_M_countOf 37 = bk_M_countOf_37 := rfl
theorem fd_M_countOf_38 : ak_find bl_M_countOf 38 = bk_M_countOf_38 := rfl
theorem fd_M_countOf_46 : ak_find bl_M_countOf 46 = bk_M_countOf_46 := rfl
theorem fd_M_truth_0 : ak_find bl_M_truth 0 = bk_M_truth_0 := rfl
theorem fd_M_truth_23 : ak_find bl_M_truth 23 = bk_M_truth_23 := rfl
theorem fd_M_truth_27 : ak_find bl_M_truth 27 = bk_M_truth_27 := rfl
theorem fd_M_truth_41 : ak_find bl_M_truth 41 = bk_M_truth_41 := rfl
theorem fd_M_truth_46 : ak_find bl_M_truth 46 = bk_M_truth_46 := rfl
theorem fd_M_right_0 : ak_find bl_M_right 0 = bk_M_right_0 := rfl
theorem fd_M_right_2 : ak_find bl_M_right 2 = bk_M_right_2 := rfl
theorem fd_M_right_29 : ak_find bl_M_right 29 = bk_M_right_29 := rfl
theorem fd_M_spread_0 : ak_find bl_M_spread 0 = bk_M_spread_0 := rfl
theorem fd_M_spread_4 : ak_find bl_M_spread 4 = bk_M_spread_4 := rfl
theorem fd_M_spread_34 : ak_find bl_M_spread 34 = bk_M_spread_34 := rfl
theorem fd_M_spread_62 : ak_find bl_M_spread 62 = bk_M_spread_62 := rfl
theorem fd_M_spread_100 : ak_find bl_M_spread 100 = bk_M_spread_100 := rfl
theorem fd_M_spread_104 : ak_find bl_M_spread 104 = bk_M_spread_104 := rfl
theorem fd_M_spread_105 : ak_find bl_M_spread 105 = bk_M_spread_105 := rfl
theorem fd_M_spread_119 : ak_find bl_M_spread 119 = bk_M_spread_119 := rfl
theorem fd_M_spread_123 : ak_find bl_M_spread 123 = bk_M_spread_123 := rfl
theorem fd_M_spread_124 : ak_find bl_M_spread 124 = bk_M_spread_124 := rfl
theorem fd_M_spread_125 : ak_find bl_M_spread 125 = bk_M_spread_125 := rfl
theorem fd_M_spread_131 : ak_find bl_M_spread 131 = bk_M_spread_131 := rfl
theorem fd_M_isAhead_0 : ak_find bl_M_isAhead 0 = bk_M_isAhead_0 := rfl
theorem fd_M_isAhead_38 : ak_find bl_M_isAhead 38 = bk_M_isAhead_38 := rfl
theorem fd_M_isAhead_39 : ak_find bl_M_isAhead 39 = bk_M_isAhead_39 := rfl
theorem fd_M_isAhead_40 : ak_find bl_M_isAhead 40 = bk_M_isAhead_40 := rfl
theorem fd_M_isAhead_76 : ak_find bl_M_isAhead 76 = bk_M_isAhead_76 := rfl
theorem fd_M_isAhead_80 : ak_find bl_M_isAhead 80 = bk_M_isAhead_80 := rfl
theorem fd_M_isAhead_89 : ak_find bl_M_isAhead 89 = bk_M_isAhead_89 := rfl
theorem fd_M_isAhead_90 : ak_find bl_M_isAhead 90 = bk_M_isAhead_90 := rfl
theorem fd_M_isChild_0 : ak_find bl_M_isChild 0 = bk_M_isChild_0 := rfl
theorem fd_M_isChild_23 : ak_find bl_M_isChild 23 = bk_M_isChild_23 := rfl
theorem fd_M_isChild_29 : ak_find bl_M_isChild 29 = bk_M_isChild_29 := rfl
theorem fd_M_isChild_37 : ak_find bl_M_isChild 37 = bk_M_isChild_37 := rfl
theorem fd_M_isChild_38 : ak_find bl_M_isChild 38 = bk_M_isChild_38 := rfl
theorem fd_M_isIn_0 : ak_find bl_M_isIn 0 = bk_M_isIn_0 := rfl
theorem fd_M_isIn_45 : ak_find bl_M_isIn 45 = bk_M_isIn_45 := rfl
theorem fd_M_isIn_49 : ak_find bl_M_isIn 49 = bk_M_isIn_49 := rfl
theorem fd_M_isIn_50 : ak_find bl_M_isIn 50 = bk_M_isIn_50 := rfl
theorem fd_M_isBroken_0 : ak_find bl_M_isBroken 0 = bk_M_isBroken_0 := rfl
theorem fd_M_isBroken_33 : ak_find bl_M_isBroken 33 = bk_M_isBroken_33 := rfl
theorem fd_M_isBroken_34 : ak_find bl_M_isBroken 34 = bk_M_isBroken_34 := rfl
theorem fd_M_kind_0 : ak_find bl_M_kind 0 = bk_M_kind_0 := rfl
theorem fd_M_kind_20 : ak_find bl_M_kind 20 = bk_M_kind_20 := rfl
theorem fd_M_kind_31 : ak_find bl_M_kind 31 = bk_M_kind_31 := rfl
theorem fd_M_parent_0 : ak_find bl_M_parent 0 = bk_M_parent_0 := rfl
theorem fd_M_parent_21 : ak_find bl_M_parent 21 = bk_M_parent_21 := rfl
theorem fd_M_parent_24 : ak_find bl_M_parent 24 = bk_M_parent_24 := rfl
theorem fd_M_parent_33 : ak_find bl_M_parent 33 = bk_M_parent_33 := rfl
theorem fd_M_parent_36 : ak_find bl_M_parent 36 = bk_M_parent_36 := rfl
theorem fd_M_parent_39 : ak_find bl_M_parent 39 = bk_M_parent_39 := rfl
theorem fd_M_parent_62 : ak_find bl_M_parent 62 = bk_M_parent_62 := rfl
theorem fd_M_parent_68 : ak_find bl_M_parent 68 = bk_M_parent_68 := rfl
theorem fd_M_parent_79 : ak_find bl_M_parent 79 = bk_M_parent_79 := rfl
theorem fd_M_segment_0 : ak_find bl_M_segment 0 = bk_M_segment_0 := rfl
theorem fd_M_segment_16 : ak_find bl_M_segment 16 = bk_M_segment_16 := rfl
theorem fd_M_segment_33 : ak_find bl_M_segment 33 = bk_M_segment_33 := rfl
theorem fd_M_segment_37 : ak_find bl_M_segment 37 = bk_M_segment_37 := rfl
theorem fd_M_segment_64 : ak_find bl_M_segment 64 = bk_M_segment_64 := rfl
theorem fd_M_segment_65 : ak_find bl_M_segment 65 = bk_M_segment_65 := rfl
theorem fd_M_segment_75 : ak_find bl_M_segment 75 = bk_M_segment_75 := rfl
theorem fd_M_segment_78 : ak_find bl_M_segment 78 = bk_M_segment_78 := rfl
theorem fd_M_segment_135 : ak_find bl_M_segment 135 = bk_M_segment_135 := rfl
theorem fd_M_segment_141 : ak_find bl_M_segment 141 = bk_M_segment_141 := rfl
theorem fd_M_segment_153 : ak_find bl_M_segment 153 = bk_M_segment_153 := rfl
theorem fd_M_relate_0 : ak_find bl_M_relate 0 = bk_M_relate_0 := rfl
theorem fd_M_relate_21 : ak_find bl_M_relate 21 = bk_M_relate_21 := rfl
theorem fd_M_relate_24 : ak_find bl_M_relate 24 = bk_M_relate_24 := rfl
theorem fd_M_relate_63 : ak_find bl_M_relate 63 = bk_M_relate_63 := rfl
theorem fd_M_relate_66 : ak_find bl_M_relate 66 = bk_M_relate_66 := rfl
theorem fd_M_relate_95 : ak_find bl_M_relate 95 = bk_M_relate_95 := rfl
theorem fd_M_relate_98 : ak_find bl_M_relate 98 = bk_M_relate_98 := rfl
theorem fd_M_delete_0 : ak_find bl_M_delete 0 = bk_M_delete_0 := rfl
theorem fd_M_delete_16 : ak_find bl_M_delete 16 = bk_M_delete_16 := rfl
theorem fd_M_delete_29 : ak_find bl_M_delete 29 = bk_M_delete_29 := rfl
theorem fd_M_delete_31 : ak_find bl_M_delete 31 = bk_M_delete_31 := rfl
theorem fd_M_delete_52 : ak_find bl_M_delete 52 = bk_M_delete_52 := rfl
theorem fd_M_delete_53 : ak_find bl_M_delete 53 = bk_M_delete_53 := rfl
theorem fd_M_delete_67 : ak_find bl_M_delete 67 = bk_M_delete_67 := rfl
theorem fd_M_delete_69 : ak_find bl_M_delete 69 = bk_M_delete_69 := rfl
theorem fd_M_delete_81 : ak_find bl_M_delete 81 = bk_M_delete_81 := rfl
theorem fd_M_delete_86 : ak_find bl_M_delete 86 = bk_M_delete_86 := rfl
theorem fd_M_delete_159 : ak_find bl_M_delete 159 = bk_M_delete_159 := rfl
theorem fd_M_delete_174 : ak_find bl_M_delete 174 = bk_M_delete_174 := rfl
theorem fd_M_delete_175 : ak_find bl_M_delete 175 = bk_M_delete_175 := rfl
theorem fd_M_delete_183 : ak_find bl_M_delete 183 = bk_M_delete_183 := rfl
theorem fd_M_delete_186 : ak_find bl_M_delete 186 = bk_M_delete_186 := rfl
theorem fd_M_delete_208 : ak_find bl_M_delete 208 = bk_M_delete_208 := rfl
theorem fd_M_delete_245 : ak_find bl_M_delete 245 = bk_M_delete_245 := rfl
theorem fd_M_delete_251 : ak_find bl_M_delete 251 = bk_M_delete_251 := rfl
theorem fd_M_delete_254 : ak_find bl_M_delete 254 = bk_M_delete_254 := rfl
theorem fd_M_delete_291 : ak_find bl_M_delete 291 = bk_M_delete_291 := rfl
theorem fd_M_delete_297 : ak_find bl_M_delete 297 = bk_M_delete_297 := rfl
theorem fd_M_delete_300 : ak_find bl_M_delete 300 = bk_M_delete_300 := rfl
theorem fd_M_delete_325 : ak_find bl_M_delete 325 = bk_M_delete_325 := rfl
theorem fd_M_delete_331 : ak_find bl_M_delete 331 = bk_M_delete_331 := rfl
theorem fd_M_there_0 : ak_find bl_M_there 0 = bk_M_there_0 := rfl
theorem fd_M_there_27 : ak_find bl_M_there 27 = bk_M_there_27 := rfl
theorem fd_M_there_42 : ak_find bl_M_there 42 = bk_M_there_42 := rfl
theorem fd_M_there_46 : ak_find bl_M_there 46 = bk_M_there_46 := rfl
theorem fd_M_there_47 : ak_find bl_M_there 47 = bk_M_there_47 := rfl
theorem fd_M_child_0 : ak_find bl_M_child 0 = bk_M_child_0 := rfl
theorem fd_M_child_22 : ak_find bl_M_child 22 = bk_M_child_22 := rfl
theorem fd_M_child_24 : ak_find bl_M_child 24 = bk_M_child_24 := rfl
theorem fd_M_child_27 : ak_find bl_M_child 27 = bk_M_child_27 := rfl
theorem fd_M_child_50 : ak_find bl_M_child 50 = bk_M_child_50 := rfl
theorem fd_M_child_56 : ak_find bl_M_child 56 = bk_M_child_56 := rfl
theorem fd_M_child_94 : ak_find bl_M_child 94 = bk_M_child_94 := rfl
theorem fd_M_child_95 : ak_find bl_M_child 95 = bk_M_child_95 := rfl
theorem fd_M_child_104 : ak_find bl_M_child 104 = bk_M_child_104 := rfl
theorem fd_M_child_113 : ak_find bl_M_child 113 = bk_M_child_113 := rfl
theorem fd_M_child_119 : ak_find bl_M_child 119 = bk_M_child_119 := rfl
theorem fd_M_count_0 : ak_find bl_M_count 0 = bk_M_count_0 := rfl
theorem fd_M_count_21 : ak_find bl_M_count 21 = bk_M_count_21 := rfl
theorem fd_M_count_23 : ak_find bl_M_count 23 = bk_M_count_23 := rfl
theorem fd_M_index_0 : ak_find bl_M_index 0 = bk_M_index_0 := rfl
theorem fd_M_index_16 : ak_find bl_M_index 16 = bk_M_index_16 := rfl
theorem fd_M_index_27 : ak_find bl_M_index 27 = bk_M_index_27 := rfl
theorem fd_M_entry_0 : ak_find bl_M_entry 0 = bk_M_entry_0 := rfl
theorem fd_M_entry_18 : ak_find bl_M_entry 18 = bk_M_entry_18 := rfl
theorem fd_M_entry_20 : ak_find bl_M_entry 20 = bk_M_entry_20 := rfl
theorem fd_M_entry_22 : ak_find bl_M_entry 22 = bk_M_entry_22 := rfl
theorem fd_M_entry_42 : ak_find bl_M_entry 42 = bk_M_entry_42 := rfl
theorem fd_M_entry_48 : ak_find bl_M_entry 48 = bk_M_entry_48 := rfl
theorem fd_M_entry_84 : ak_find bl_M_entry 84 = bk_M_entry_84 := rfl
theorem fd_M_entry_85 : ak_find bl_M_entry 85 = bk_M_entry_85 := rfl
theorem fd_M_entry_94 : ak_find bl_M_entry 94 = bk_M_entry_94 := rfl
theorem fd_M_entry_102 : ak_find bl_M_entry 102 = bk_M_entry_102 := rfl
theorem fd_M_entry_108 : ak_find bl_M_entry 108 = bk_M_entry_108 := rfl
theorem fd_M_poke_0 : ak_find bl_M_poke 0 = bk_M_poke_0 := rfl
theorem fd_M_poke_16 : ak_find bl_M_poke 16 = bk_M_poke_16 := rfl
theorem fd_M_poke_25 : ak_find bl_M_poke 25 = bk_M_poke_25 := rfl
theorem fd_M_poke_28 : ak_find bl_M_poke 28 = bk_M_poke_28 := rfl
theorem fd_M_poke_41 : ak_find bl_M_poke 41 = bk_M_poke_41 := rfl
theorem fd_M_check_0 : ak_find bl_M_check 0 = bk_M_check_0 := rfl
theorem fd_M_check_9 : ak_find bl_M_check 9 = bk_M_check_9 := rfl
theorem fd_M_check_19 : ak_find bl_M_check 19 = bk_M_check_19 := rfl
theorem fd_M_check_38 : ak_find bl_M_check 38 = bk_M_check_38 := rfl
theorem fd_M_check_39 : ak_find bl_M_check 39 = bk_M_check_39 := rfl
theorem fd_M_check_47 : ak_find bl_M_check 47 = bk_M_check_47 := rfl
theorem fd_M_check_53 : ak_find bl_M_check 53 = bk_M_check_53 := rfl
theorem fd_M_broken_0 : ak_find bl_M_broken 0 = bk_M_broken_0 := rfl
theorem fd_M_broken_9 : ak_find bl_M_broken 9 = bk_M_broken_9 := rfl
theorem fd_M_broken_20 : ak_find bl_M_broken 20 = bk_M_broken_20 := rfl
theorem fd_M_broken_39 : ak_find bl_M_broken 39 = bk_M_broken_39 := rfl
theorem fd_M_broken_46 : ak_find bl_M_broken 46 = bk_M_broken_46 := rfl
theorem fd_M_broken_49 : ak_find bl_M_broken 49 = bk_M_broken_49 := rfl
theorem fd_M_broken_55 : ak_find bl_M_broken 55 = bk_M_broken_55 := rfl
theorem fd_M_broken_61 : ak_find bl_M_broken 61 = bk_M_broken_61 := rfl
theorem fd_M_told_0 : ak_find bl_M_told 0 = bk_M_told_0 := rfl
theorem fd_M_told_15 : ak_find bl_M_told 15 = bk_M_told_15 := rfl
theorem fd_M_told_40 : ak_find bl_M_told 40 = bk_M_told_40 := rfl
theorem fd_M_told_41 : ak_find bl_M_told 41 = bk_M_told_41 := rfl
theorem fd_M_told_59 : ak_find bl_M_told 59 = bk_M_told_59 := rfl
theorem fd_M_told_60 : ak_find bl_M_told 60 = bk_M_told_60 := rfl
theorem fd_M_told_78 : ak_find bl_M_told 78 = bk_M_told_78 := rfl
theorem fd_M_told_79 : ak_find bl_M_told 79 = bk_M_told_79 := rfl
theorem fd_M_told_88 : ak_find bl_M_told 88 = bk_M_told_88 := rfl
theorem fd_M_told_128 : ak_find bl_M_told 128 = bk_M_told_128 := rfl
theorem fd_M_told_133 : ak_find bl_M_told 133 = bk_M_told_133 := rfl
theorem fd_M_told_138 : ak_find bl_M_told 138 = bk_M_told_138 := rfl
theorem fd_M_told_140 : ak_find bl_M_told 140 = bk_M_told_140 := rfl
theorem fd_M_told_142 : ak_find bl_M_told 142 = bk_M_told_142 := rfl
theorem fd_M_told_145 : ak_find bl_M_told 145 = bk_M_told_145 := rfl
theorem fd_M_told_150 : ak_find bl_M_told 150 = bk_M_told_150 := rfl
