/-! blocks, laid by program (wip/whole/gen.py) -/
def ws_K_has : List Cond := .code y_K_has prog_4_method_2_code 2 (some .boolean) :: wd_tbl
def rm_K_has : Room := { frames := 0, cells := 0, slots := 0, locals := 0 }
def bk_K_has_0 : List ak_I := [(0, .iload_n 1, 1, 0, 0, []), (1, .iconst 1, 0, 0, 1, []), (2, .if_icmp .lt 15, 17, 0, 0, []), (5, .iload_n 1, 1, 0, 0, []), (6, .aload_n 0, 0, 0, 0, []), (7, .getfield 21, 1, 0, 0, [(0, 40)]), (10, .if_icmp .gt 7, 17, 0, 0, []), (13, .iconst 1, 0, 0, 1, []), (14, .goto 4, 18, 0, 0, [])]
def bk_K_has_17 : List ak_I := [(17, .iconst 0, 0, 0, 0, []), (18, .ireturn, 0, 1, 0, [])]
def bk_K_has_18 : List ak_I := [(18, .ireturn, 0, 1, 0, [])]
def bl_K_has : List (Nat × List ak_I) := [(0, bk_K_has_0), (17, bk_K_has_17), (18, bk_K_has_18)]
def rg_K_has : List (Nat × Nat × Nat) := []
theorem ok_K_has : ak_okM prog_4_method_2_code ws_K_has y_K_has.cls cl_all 2 (some .boolean) rg_K_has bl_K_has = true := by decide +kernel
def ws_K_add : List Cond := .code y_K_add prog_4_method_3_code 2 (some .int) :: wd_tbl
def rm_K_add : Room := { frames := 0, cells := 0, slots := 0, locals := 0 }
def bk_K_add_0 : List ak_I := [(0, .aload_n 0, 0, 0, 0, []), (1, .getfield 21, 1, 0, 0, [(0, 40)]), (4, .bipush 15, 0, 0, 15, []), (6, .if_icmp .lt 5, 11, 0, 0, []), (9, .iconst (-1), 0, 0, (-1), []), (10, .ireturn, 0, 0, 0, [])]
def bk_K_add_11 : List ak_I := [(11, .aload_n 0, 0, 0, 0, []), (12, .dup, 0, 0, 0, []), (13, .getfield 21, 1, 0, 0, [(0, 40)]), (16, .iconst 1, 0, 0, 1, []), (17, .iadd, 0, 0, 0, []), (18, .putfield 21, 1, 0, 0, [(0, 40)]), (21, .aload_n 0, 0, 0, 0, []), (22, .getfield 9, 1, 1, 0, [(0, 42)]), (25, .aload_n 0, 0, 0, 0, []), (26, .getfield 21, 1, 0, 0, [(0, 40)]), (29, .iload_n 1, 1, 0, 0, []), (30, .iastore, 0, 0, 0, []), (31, .aload_n 0, 0, 0, 0, []), (32, .getfield 21, 1, 0, 0, [(0, 40)]), (35, .ireturn, 0, 0, 0, [])]
def bl_K_add : List (Nat × List ak_I) := [(0, bk_K_add_0), (11, bk_K_add_11)]
def rg_K_add : List (Nat × Nat × Nat) := []
theorem ok_K_add : ak_okM prog_4_method_3_code ws_K_add y_K_add.cls cl_all 2 (some .int) rg_K_add bl_K_add = true := by decide +kernel
def ws_S_has : List Cond := .code y_S_has prog_5_method_2_code 2 (some .boolean) :: wd_tbl
def rm_S_has : Room := { frames := 0, cells := 0, slots := 0, locals := 0 }
def bk_S_has_0 : List ak_I := [(0, .iload_n 1, 1, 0, 0, []), (1, .iconst 1, 0, 0, 1, []), (2, .if_icmp .lt 15, 17, 0, 0, []), (5, .iload_n 1, 1, 0, 0, []), (6, .aload_n 0, 0, 0, 0, []), (7, .getfield 37, 2, 0, 0, [(0, 64)]), (10, .if_icmp .gt 7, 17, 0, 0, []), (13, .iconst 1, 0, 0, 1, []), (14, .goto 4, 18, 0, 0, [])]
def bk_S_has_17 : List ak_I := [(17, .iconst 0, 0, 0, 0, []), (18, .ireturn, 0, 1, 0, [])]
def bk_S_has_18 : List ak_I := [(18, .ireturn, 0, 1, 0, [])]
def bl_S_has : List (Nat × List ak_I) := [(0, bk_S_has_0), (17, bk_S_has_17), (18, bk_S_has_18)]
def rg_S_has : List (Nat × Nat × Nat) := []
theorem ok_S_has : ak_okM prog_5_method_2_code ws_S_has y_S_has.cls cl_all 2 (some .boolean) rg_S_has bl_S_has = true := by decide +kernel
def ws_S_is : List Cond := .code y_S_is prog_5_method_3_code 3 (some .boolean) :: wd_tbl
def rm_S_is : Room := { frames := 1, cells := 0, slots := 0, locals := 21 }
def bk_S_is_0 : List ak_I := [(0, .aload_n 0, 0, 0, 0, []), (1, .iload_n 1, 1, 0, 0, []), (2, .invokevirtual 41, 0, 1, 0, [(0, 2)]), (5, .ifCond .eq 17, 22, 0, 0, []), (8, .aload_n 0, 0, 0, 0, []), (9, .getfield 22, 2, 4, 0, [(0, 74)]), (12, .iload_n 1, 1, 0, 0, []), (13, .iaload, 0, 0, 0, []), (14, .iload_n 2, 2, 0, 0, []), (15, .if_icmp .ne 7, 22, 0, 0, []), (18, .iconst 1, 0, 0, 1, []), (19, .goto 4, 23, 0, 0, [])]
def bk_S_is_22 : List ak_I := [(22, .iconst 0, 0, 0, 0, []), (23, .ireturn, 0, 1, 0, [])]
def bk_S_is_23 : List ak_I := [(23, .ireturn, 0, 1, 0, [])]
def bl_S_is : List (Nat × List ak_I) := [(0, bk_S_is_0), (22, bk_S_is_22), (23, bk_S_is_23)]
def rg_S_is : List (Nat × Nat × Nat) := [(41, 1, 2)]
theorem ok_S_is : ak_okM prog_5_method_3_code ws_S_is y_S_is.cls cl_all 3 (some .boolean) rg_S_is bl_S_is = true := by decide +kernel
def ws_S_isOneUnder : List Cond := .code y_S_isOneUnder prog_5_method_4_code 4 (some .boolean) :: wd_tbl
def rm_S_isOneUnder : Room := { frames := 0, cells := 0, slots := 0, locals := 0 }
def bk_S_isOneUnder_0 : List ak_I := [(0, .aload_n 0, 0, 0, 0, []), (1, .getfield 22, 2, 4, 0, [(0, 74)]), (4, .iload_n 1, 1, 0, 0, []), (5, .iaload, 0, 0, 0, []), (6, .iconst 1, 0, 0, 1, []), (7, .if_icmp .ne 27, 34, 0, 0, []), (10, .aload_n 0, 0, 0, 0, []), (11, .getfield 9, 2, 1, 0, [(0, 67)]), (14, .iload_n 1, 1, 0, 0, []), (15, .iaload, 0, 0, 0, []), (16, .iload_n 2, 2, 0, 0, []), (17, .if_icmp .ne 17, 34, 0, 0, []), (20, .aload_n 0, 0, 0, 0, []), (21, .getfield 15, 2, 2, 0, [(0, 70)]), (24, .iload_n 1, 1, 0, 0, []), (25, .iaload, 0, 0, 0, []), (26, .iload_n 3, 3, 0, 0, []), (27, .if_icmp .ne 7, 34, 0, 0, []), (30, .iconst 1, 0, 0, 1, []), (31, .goto 4, 35, 0, 0, [])]
def bk_S_isOneUnder_34 : List ak_I := [(34, .iconst 0, 0, 0, 0, []), (35, .ireturn, 0, 1, 0, [])]
def bk_S_isOneUnder_35 : List ak_I := [(35, .ireturn, 0, 1, 0, [])]
def bl_S_isOneUnder : List (Nat × List ak_I) := [(0, bk_S_isOneUnder_0), (34, bk_S_isOneUnder_34), (35, bk_S_isOneUnder_35)]
def rg_S_isOneUnder : List (Nat × Nat × Nat) := []
theorem ok_S_isOneUnder : ak_okM prog_5_method_4_code ws_S_isOneUnder y_S_isOneUnder.cls cl_all 4 (some .boolean) rg_S_isOneUnder bl_S_isOneUnder = true := by decide +kernel
def ws_S_wereOf : List Cond := .code y_S_wereOf prog_5_method_5_code 3 (some .boolean) :: wd_tbl
def rm_S_wereOf : Room := { frames := 0, cells := 0, slots := 0, locals := 0 }
def bk_S_wereOf_0 : List ak_I := [(0, .iconst 1, 0, 0, 1, []), (1, .istore_n 2, 2, 0, 0, []), (2, .nop, 0, 0, 0, [])]
def bk_S_wereOf_2 : List ak_I := [(2, .iload_n 2, 2, 0, 0, []), (3, .aload_n 0, 0, 0, 0, []), (4, .getfield 37, 2, 0, 0, [(0, 64)]), (7, .if_icmp .gt 21, 28, 0, 0, []), (10, .aload_n 0, 0, 0, 0, []), (11, .getfield 9, 2, 1, 0, [(0, 67)]), (14, .iload_n 2, 2, 0, 0, []), (15, .iaload, 0, 0, 0, []), (16, .iload_n 1, 1, 0, 0, []), (17, .if_icmp .ne 5, 22, 0, 0, []), (20, .iconst 1, 0, 0, 1, []), (21, .ireturn, 0, 1, 0, [])]
def bk_S_wereOf_22 : List ak_I := [(22, .iinc 2 1, 2, 0, 1, []), (25, .goto (-23), 2, 1, 0, [])]
def bk_S_wereOf_28 : List ak_I := [(28, .iconst 0, 0, 0, 0, []), (29, .ireturn, 0, 1, 0, [])]
def bl_S_wereOf : List (Nat × List ak_I) := [(0, bk_S_wereOf_0), (2, bk_S_wereOf_2), (22, bk_S_wereOf_22), (28, bk_S_wereOf_28)]
def rg_S_wereOf : List (Nat × Nat × Nat) := []
theorem ok_S_wereOf : ak_okM prog_5_method_5_code ws_S_wereOf y_S_wereOf.cls cl_all 3 (some .boolean) rg_S_wereOf bl_S_wereOf = true := by decide +kernel
def ws_S_hasKey : List Cond := .code y_S_hasKey prog_5_method_6_code 6 (some .boolean) :: wd_tbl
def rm_S_hasKey : Room := { frames := 1, cells := 0, slots := 0, locals := 23 }
def bk_S_hasKey_0 : List ak_I := [(0, .iconst 1, 0, 0, 1, []), (1, .istore 5, 5, 0, 0, []), (3, .nop, 0, 0, 0, [])]
def bk_S_hasKey_3 : List ak_I := [(3, .iload 5, 5, 0, 0, []), (5, .aload_n 0, 0, 0, 0, []), (6, .getfield 37, 2, 0, 0, [(0, 64)]), (9, .if_icmp .gt 34, 43, 0, 0, []), (12, .aload_n 0, 0, 0, 0, []), (13, .getfield 18, 2, 3, 0, [(0, 72)]), (16, .iload 5, 5, 0, 0, []), (18, .laload, 0, 0, 0, []), (19, .lload_n 3, 3, 0, 0, []), (20, .lcmp, 0, 0, 0, []), (21, .ifCond .ne 16, 37, 0, 0, []), (24, .aload_n 0, 0, 0, 0, []), (25, .iload 5, 5, 0, 0, []), (27, .iload_n 1, 1, 0, 0, []), (28, .iload_n 2, 2, 0, 0, []), (29, .invokevirtual 45, 0, 3, 0, [(0, 2)]), (32, .ifCond .eq 5, 37, 0, 0, []), (35, .iconst 1, 0, 0, 1, []), (36, .ireturn, 0, 1, 0, [])]
def bk_S_hasKey_37 : List ak_I := [(37, .iinc 5 1, 5, 0, 1, []), (40, .goto (-37), 3, 1, 0, [])]
def bk_S_hasKey_43 : List ak_I := [(43, .iconst 0, 0, 0, 0, []), (44, .ireturn, 0, 1, 0, [])]
def bl_S_hasKey : List (Nat × List ak_I) := [(0, bk_S_hasKey_0), (3, bk_S_hasKey_3), (37, bk_S_hasKey_37), (43, bk_S_hasKey_43)]
def rg_S_hasKey : List (Nat × Nat × Nat) := [(45, 3, 2)]
theorem ok_S_hasKey : ak_okM prog_5_method_6_code ws_S_hasKey y_S_hasKey.cls cl_all 6 (some .boolean) rg_S_hasKey bl_S_hasKey = true := by decide +kernel
def ws_S_truth : List Cond := .code y_S_truth prog_5_method_12_code 3 (some .int) :: wd_tbl
def rm_S_truth : Room := { frames := 0, cells := 0, slots := 0, locals := 0 }
def bk_S_truth_0 : List ak_I := [(0, .iload_n 2, 2, 0, 0, []), (1, .ifCond .ne 10, 11, 0, 0, []), (4, .aload_n 0, 0, 0, 0, []), (5, .getfield 15, 2, 2, 0, [(0, 70)]), (8, .iload_n 1, 1, 0, 0, []), (9, .iaload, 0, 0, 0, []), (10, .ireturn, 0, 0, 0, [])]
def bk_S_truth_11 : List ak_I := [(11, .iload_n 2, 2, 0, 0, []), (12, .iconst 1, 0, 0, 1, []), (13, .if_icmp .ne 12, 25, 0, 0, []), (16, .aload_n 0, 0, 0, 0, []), (17, .getfield 25, 2, 5, 0, [(0, 75)]), (20, .iload_n 1, 1, 0, 0, []), (21, .iaload, 0, 0, 0, []), (22, .goto 9, 31, 0, 0, [])]
def bk_S_truth_25 : List ak_I := [(25, .aload_n 0, 0, 0, 0, []), (26, .getfield 28, 2, 6, 0, [(0, 78)]), (29, .iload_n 1, 1, 0, 0, []), (30, .iaload, 0, 0, 0, []), (31, .ireturn, 0, 0, 0, [])]
def bk_S_truth_31 : List ak_I := [(31, .ireturn, 0, 0, 0, [])]
def bl_S_truth : List (Nat × List ak_I) := [(0, bk_S_truth_0), (11, bk_S_truth_11), (25, bk_S_truth_25), (31, bk_S_truth_31)]
def rg_S_truth : List (Nat × Nat × Nat) := []
theorem ok_S_truth : ak_okM prog_5_method_12_code ws_S_truth y_S_truth.cls cl_all 3 (some .int) rg_S_truth bl_S_truth = true := by decide +kernel
def ws_S_setRight : List Cond := .code y_S_setRight prog_5_method_13_code 3 none :: wd_tbl
def rm_S_setRight : Room := { frames := 1, cells := 0, slots := 0, locals := 22 }
def bk_S_setRight_0 : List ak_I := [(0, .iconst 0, 0, 0, 0, []), (1, .istore_n 2, 2, 0, 0, []), (2, .nop, 0, 0, 0, [])]
def bk_S_setRight_2 : List ak_I := [(2, .iload_n 2, 2, 0, 0, []), (3, .iconst 3, 0, 0, 3, []), (4, .if_icmp .ge 25, 29, 0, 0, []), (7, .aload_n 0, 0, 0, 0, []), (8, .getfield 31, 2, 7, 0, [(0, 80)]), (11, .iload_n 1, 1, 0, 0, []), (12, .iconst 3, 0, 0, 3, []), (13, .imul, 0, 0, 0, []), (14, .iload_n 2, 2, 0, 0, []), (15, .iadd, 0, 0, 0, []), (16, .aload_n 0, 0, 0, 0, []), (17, .iload_n 1, 1, 0, 0, []), (18, .iload_n 2, 2, 0, 0, []), (19, .invokevirtual 56, 0, 2, 0, [(0, 2)]), (22, .iastore, 0, 0, 0, []), (23, .iinc 2 1, 2, 0, 1, []), (26, .goto (-24), 2, 1, 0, [])]
def bk_S_setRight_29 : List ak_I := [(29, .return_, 0, 0, 0, [])]
def bl_S_setRight : List (Nat × List ak_I) := [(0, bk_S_setRight_0), (2, bk_S_setRight_2), (29, bk_S_setRight_29)]
def rg_S_setRight : List (Nat × Nat × Nat) := [(56, 2, 2)]
theorem ok_S_setRight : ak_okM prog_5_method_13_code ws_S_setRight y_S_setRight.cls cl_all 3 none rg_S_setRight bl_S_setRight = true := by decide +kernel
def ws_S_putByKey : List Cond := .code y_S_putByKey prog_5_method_8_code 3 none :: wd_tbl
def rm_S_putByKey : Room := { frames := 0, cells := 0, slots := 0, locals := 0 }
def bk_S_putByKey_0 : List ak_I := [(0, .iload_n 1, 1, 0, 0, []), (1, .iconst 1, 0, 0, 1, []), (2, .isub, 0, 0, 0, []), (3, .istore_n 2, 2, 0, 0, []), (4, .nop, 0, 0, 0, [])]
def bk_S_putByKey_4 : List ak_I := [(4, .iload_n 2, 2, 0, 0, []), (5, .ifCond .le 46, 51, 0, 0, []), (8, .aload_n 0, 0, 0, 0, []), (9, .getfield 18, 2, 3, 0, [(0, 72)]), (12, .aload_n 0, 0, 0, 0, []), (13, .getfield 34, 2, 8, 0, [(0, 81)]), (16, .iload_n 2, 2, 0, 0, []), (17, .iconst 1, 0, 0, 1, []), (18, .isub, 0, 0, 0, []), (19, .iaload, 0, 0, 0, []), (20, .laload, 0, 0, 0, []), (21, .aload_n 0, 0, 0, 0, []), (22, .getfield 18, 2, 3, 0, [(0, 72)]), (25, .iload_n 1, 1, 0, 0, []), (26, .laload, 0, 0, 0, []), (27, .lcmp, 0, 0, 0, []), (28, .ifCond .le 23, 51, 0, 0, []), (31, .aload_n 0, 0, 0, 0, []), (32, .getfield 34, 2, 8, 0, [(0, 81)]), (35, .iload_n 2, 2, 0, 0, []), (36, .aload_n 0, 0, 0, 0, []), (37, .getfield 34, 2, 8, 0, [(0, 81)]), (40, .iload_n 2, 2, 0, 0, []), (41, .iconst 1, 0, 0, 1, []), (42, .isub, 0, 0, 0, []), (43, .iaload, 0, 0, 0, []), (44, .iastore, 0, 0, 0, []), (45, .iinc 2 (-1), 2, 0, (-1), []), (48, .goto (-44), 4, 1, 0, [])]
def bk_S_putByKey_51 : List ak_I := [(51, .aload_n 0, 0, 0, 0, []), (52, .getfield 34, 2, 8, 0, [(0, 81)]), (55, .iload_n 2, 2, 0, 0, []), (56, .iload_n 1, 1, 0, 0, []), (57, .iastore, 0, 0, 0, []), (58, .return_, 0, 0, 0, [])]
def bl_S_putByKey : List (Nat × List ak_I) := [(0, bk_S_putByKey_0), (4, bk_S_putByKey_4), (51, bk_S_putByKey_51)]
def rg_S_putByKey : List (Nat × Nat × Nat) := []
theorem ok_S_putByKey : ak_okM prog_5_method_8_code ws_S_putByKey y_S_putByKey.cls cl_all 3 none rg_S_putByKey bl_S_putByKey = true := by decide +kernel
def ws_S_add : List Cond := .code y_S_add prog_5_method_7_code 5 (some .int) :: wd_tbl
def rm_S_add : Room := { frames := 2, cells := 0, slots := 0, locals := 44 }
def bk_S_add_0 : List ak_I := [(0, .aload_n 0, 0, 0, 0, []), (1, .getfield 37, 2, 0, 0, [(0, 64)]), (4, .sipush 250, 0, 0, 250, []), (7, .if_icmp .lt 5, 12, 0, 0, []), (10, .iconst (-1), 0, 0, (-1), []), (11, .ireturn, 0, 0, 0, [])]
def bk_S_add_12 : List ak_I := [(12, .aload_n 0, 0, 0, 0, []), (13, .dup, 0, 0, 0, []), (14, .getfield 37, 2, 0, 0, [(0, 64)]), (17, .iconst 1, 0, 0, 1, []), (18, .iadd, 0, 0, 0, []), (19, .putfield 37, 2, 0, 0, [(0, 64)]), (22, .aload_n 0, 0, 0, 0, []), (23, .getfield 9, 2, 1, 0, [(0, 67)]), (26, .aload_n 0, 0, 0, 0, []), (27, .getfield 37, 2, 0, 0, [(0, 64)]), (30, .iload_n 1, 1, 0, 0, []), (31, .iastore, 0, 0, 0, []), (32, .aload_n 0, 0, 0, 0, []), (33, .getfield 15, 2, 2, 0, [(0, 70)]), (36, .aload_n 0, 0, 0, 0, []), (37, .getfield 37, 2, 0, 0, [(0, 64)]), (40, .iload_n 2, 2, 0, 0, []), (41, .iastore, 0, 0, 0, []), (42, .aload_n 0, 0, 0, 0, []), (43, .getfield 18, 2, 3, 0, [(0, 72)]), (46, .aload_n 0, 0, 0, 0, []), (47, .getfield 37, 2, 0, 0, [(0, 64)]), (50, .lload_n 3, 3, 0, 0, []), (51, .lastore, 0, 0, 0, []), (52, .aload_n 0, 0, 0, 0, []), (53, .getfield 22, 2, 4, 0, [(0, 74)]), (56, .aload_n 0, 0, 0, 0, []), (57, .getfield 37, 2, 0, 0, [(0, 64)]), (60, .iconst 1, 0, 0, 1, []), (61, .iastore, 0, 0, 0, []), (62, .aload_n 0, 0, 0, 0, []), (63, .aload_n 0, 0, 0, 0, []), (64, .getfield 37, 2, 0, 0, [(0, 64)]), (67, .invokevirtual 49, 0, 1, 0, [(0, 2)]), (70, .aload_n 0, 0, 0, 0, []), (71, .aload_n 0, 0, 0, 0, []), (72, .getfield 37, 2, 0, 0, [(0, 64)]), (75, .invokevirtual 53, 1, 1, 0, [(0, 2)]), (78, .aload_n 0, 0, 0, 0, []), (79, .getfield 37, 2, 0, 0, [(0, 64)]), (82, .ireturn, 0, 0, 0, [])]
def bl_S_add : List (Nat × List ak_I) := [(0, bk_S_add_0), (12, bk_S_add_12)]
def rg_S_add : List (Nat × Nat × Nat) := [(49, 1, 2), (53, 1, 2)]
theorem ok_S_add : ak_okM prog_5_method_7_code ws_S_add y_S_add.cls cl_all 5 (some .int) rg_S_add bl_S_add = true := by decide +kernel
def ws_S_logicalChild : List Cond := .code y_S_logicalChild prog_5_method_9_code 6 (some .int) :: wd_tbl
def rm_S_logicalChild : Room := { frames := 0, cells := 0, slots := 0, locals := 0 }
def bk_S_logicalChild_0 : List ak_I := [(0, .iload_n 2, 2, 0, 0, []), (1, .istore_n 3, 3, 0, 0, []), (2, .iconst 0, 0, 0, 0, []), (3, .istore 4, 4, 0, 0, []), (5, .nop, 0, 0, 0, [])]
def bk_S_logicalChild_5 : List ak_I := [(5, .iload 4, 4, 0, 0, []), (7, .aload_n 0, 0, 0, 0, []), (8, .getfield 37, 2, 0, 0, [(0, 64)]), (11, .if_icmp .ge 39, 50, 0, 0, []), (14, .aload_n 0, 0, 0, 0, []), (15, .getfield 34, 2, 8, 0, [(0, 81)]), (18, .iload 4, 4, 0, 0, []), (20, .iaload, 0, 0, 0, []), (21, .istore 5, 5, 0, 0, []), (23, .aload_n 0, 0, 0, 0, []), (24, .getfield 25, 2, 5, 0, [(0, 75)]), (27, .iload 5, 5, 0, 0, []), (29, .iaload, 0, 0, 0, []), (30, .iload_n 1, 1, 0, 0, []), (31, .if_icmp .ne 13, 44, 0, 0, []), (34, .iload_n 3, 3, 0, 0, []), (35, .iinc 3 (-1), 3, 0, (-1), []), (38, .ifCond .ne 6, 44, 0, 0, []), (41, .iload 5, 5, 0, 0, []), (43, .ireturn, 0, 0, 0, [])]
def bk_S_logicalChild_44 : List ak_I := [(44, .iinc 4 1, 4, 0, 1, []), (47, .goto (-42), 5, 1, 0, [])]
def bk_S_logicalChild_50 : List ak_I := [(50, .iconst 0, 0, 0, 0, []), (51, .ireturn, 0, 0, 0, [])]
def bl_S_logicalChild : List (Nat × List ak_I) := [(0, bk_S_logicalChild_0), (5, bk_S_logicalChild_5), (44, bk_S_logicalChild_44), (50, bk_S_logicalChild_50)]
def rg_S_logicalChild : List (Nat × Nat × Nat) := []
theorem ok_S_logicalChild : ak_okM prog_5_method_9_code ws_S_logicalChild y_S_logicalChild.cls cl_all 6 (some .int) rg_S_logicalChild bl_S_logicalChild = true := by decide +kernel
def ws_S_join : List Cond := .code y_S_join prog_5_method_10_code 3 none :: wd_tbl
def rm_S_join : Room := { frames := 2, cells := 0, slots := 0, locals := 44 }
def bk_S_join_0 : List ak_I := [(0, .aload_n 0, 0, 0, 0, []), (1, .getfield 25, 2, 5, 0, [(0, 75)]), (4, .iload_n 1, 1, 0, 0, []), (5, .iload_n 2, 2, 0, 0, []), (6, .iastore, 0, 0, 0, []), (7, .aload_n 0, 0, 0, 0, []), (8, .getfield 28, 2, 6, 0, [(0, 78)]), (11, .iload_n 2, 2, 0, 0, []), (12, .dup2, 0, 0, 0, []), (13, .iaload, 0, 0, 0, []), (14, .iconst 1, 0, 0, 1, []), (15, .iadd, 0, 0, 0, []), (16, .iastore, 0, 0, 0, []), (17, .aload_n 0, 0, 0, 0, []), (18, .iload_n 1, 1, 0, 0, []), (19, .invokevirtual 49, 0, 1, 0, [(0, 2)]), (22, .aload_n 0, 0, 0, 0, []), (23, .iload_n 2, 2, 0, 0, []), (24, .invokevirtual 49, 0, 1, 0, [(0, 2)]), (27, .return_, 0, 0, 0, [])]
def bl_S_join : List (Nat × List ak_I) := [(0, bk_S_join_0)]
def rg_S_join : List (Nat × Nat × Nat) := [(49, 1, 2)]
theorem ok_S_join : ak_okM prog_5_method_10_code ws_S_join y_S_join.cls cl_all 3 none rg_S_join bl_S_join = true := by decide +kernel
def ws_S_part : List Cond := .code y_S_part prog_5_method_11_code 3 none :: wd_tbl
def rm_S_part : Room := { frames := 2, cells := 0, slots := 0, locals := 44 }
def bk_S_part_0 : List ak_I := [(0, .aload_n 0, 0, 0, 0, []), (1, .getfield 25, 2, 5, 0, [(0, 75)]), (4, .iload_n 1, 1, 0, 0, []), (5, .iaload, 0, 0, 0, []), (6, .istore_n 2, 2, 0, 0, []), (7, .iload_n 2, 2, 0, 0, []), (8, .ifCond .ne 4, 12, 0, 0, []), (11, .return_, 0, 0, 0, [])]
def bk_S_part_12 : List ak_I := [(12, .aload_n 0, 0, 0, 0, []), (13, .getfield 25, 2, 5, 0, [(0, 75)]), (16, .iload_n 1, 1, 0, 0, []), (17, .iconst 0, 0, 0, 0, []), (18, .iastore, 0, 0, 0, []), (19, .aload_n 0, 0, 0, 0, []), (20, .getfield 28, 2, 6, 0, [(0, 78)]), (23, .iload_n 2, 2, 0, 0, []), (24, .dup2, 0, 0, 0, []), (25, .iaload, 0, 0, 0, []), (26, .iconst 1, 0, 0, 1, []), (27, .isub, 0, 0, 0, []), (28, .iastore, 0, 0, 0, []), (29, .aload_n 0, 0, 0, 0, []), (30, .iload_n 2, 2, 0, 0, []), (31, .invokevirtual 49, 0, 1, 0, [(0, 2)]), (34, .return_, 0, 0, 0, [])]
def bl_S_part : List (Nat × List ak_I) := [(0, bk_S_part_0), (12, bk_S_part_12)]
def rg_S_part : List (Nat × Nat × Nat) := [(49, 1, 2)]
theorem ok_S_part : ak_okM prog_5_method_11_code ws_S_part y_S_part.cls cl_all 3 none rg_S_part bl_S_part = true := by decide +kernel
def ws_S_say : List Cond := .code y_S_say prog_5_method_14_code 5 (some .int) :: wd_tbl
def rm_S_say : Room := { frames := 0, cells := 0, slots := 0, locals := 0 }
def bk_S_say_0 : List ak_I := [(0, .aload_n 0, 0, 0, 0, []), (1, .getfield 31, 2, 7, 0, [(0, 80)]), (4, .iload_n 1, 1, 0, 0, []), (5, .iconst 3, 0, 0, 3, []), (6, .imul, 0, 0, 0, []), (7, .iload_n 2, 2, 0, 0, []), (8, .iadd, 0, 0, 0, []), (9, .iaload, 0, 0, 0, []), (10, .istore 4, 4, 0, 0, []), (12, .aload_n 0, 0, 0, 0, []), (13, .getfield 31, 2, 7, 0, [(0, 80)]), (16, .iload_n 1, 1, 0, 0, []), (17, .iconst 3, 0, 0, 3, []), (18, .imul, 0, 0, 0, []), (19, .iload_n 2, 2, 0, 0, []), (20, .iadd, 0, 0, 0, []), (21, .iload_n 3, 3, 0, 0, []), (22, .iastore, 0, 0, 0, []), (23, .iload 4, 4, 0, 0, []), (25, .ireturn, 0, 0, 0, [])]
def bl_S_say : List (Nat × List ak_I) := [(0, bk_S_say_0)]
def rg_S_say : List (Nat × Nat × Nat) := []
theorem ok_S_say : ak_okM prog_5_method_14_code ws_S_say y_S_say.cls cl_all 5 (some .int) rg_S_say bl_S_say = true := by decide +kernel
def ws_S_wrongPointers : List Cond := .code y_S_wrongPointers prog_5_method_15_code 4 (some .int) :: wd_tbl
def rm_S_wrongPointers : Room := { frames := 1, cells := 0, slots := 0, locals := 22 }
def bk_S_wrongPointers_0 : List ak_I := [(0, .aload_n 0, 0, 0, 0, []), (1, .getfield 22, 2, 4, 0, [(0, 74)]), (4, .iload_n 1, 1, 0, 0, []), (5, .iaload, 0, 0, 0, []), (6, .ifCond .ne 5, 11, 0, 0, []), (9, .iconst 0, 0, 0, 0, []), (10, .ireturn, 0, 0, 0, [])]
def bk_S_wrongPointers_11 : List ak_I := [(11, .iconst 0, 0, 0, 0, []), (12, .istore_n 2, 2, 0, 0, []), (13, .iconst 0, 0, 0, 0, []), (14, .istore_n 3, 3, 0, 0, []), (15, .nop, 0, 0, 0, [])]
def bk_S_wrongPointers_15 : List ak_I := [(15, .iload_n 3, 3, 0, 0, []), (16, .iconst 3, 0, 0, 3, []), (17, .if_icmp .ge 31, 48, 0, 0, []), (20, .aload_n 0, 0, 0, 0, []), (21, .getfield 31, 2, 7, 0, [(0, 80)]), (24, .iload_n 1, 1, 0, 0, []), (25, .iconst 3, 0, 0, 3, []), (26, .imul, 0, 0, 0, []), (27, .iload_n 3, 3, 0, 0, []), (28, .iadd, 0, 0, 0, []), (29, .iaload, 0, 0, 0, []), (30, .aload_n 0, 0, 0, 0, []), (31, .iload_n 1, 1, 0, 0, []), (32, .iload_n 3, 3, 0, 0, []), (33, .invokevirtual 56, 0, 2, 0, [(0, 2)]), (36, .if_icmp .eq 6, 42, 0, 0, []), (39, .iinc 2 1, 2, 0, 1, []), (42, .iinc 3 1, 3, 0, 1, []), (45, .goto (-30), 15, 1, 0, [])]
def bk_S_wrongPointers_42 : List ak_I := [(42, .iinc 3 1, 3, 0, 1, []), (45, .goto (-30), 15, 1, 0, [])]
def bk_S_wrongPointers_48 : List ak_I := [(48, .iload_n 2, 2, 0, 0, []), (49, .ireturn, 0, 0, 0, [])]
def bl_S_wrongPointers : List (Nat × List ak_I) := [(0, bk_S_wrongPointers_0), (11, bk_S_wrongPointers_11), (15, bk_S_wrongPointers_15), (42, bk_S_wrongPointers_42), (48, bk_S_wrongPointers_48)]
def rg_S_wrongPointers : List (Nat × Nat × Nat) := [(56, 2, 2)]
theorem ok_S_wrongPointers : ak_okM prog_5_method_15_code ws_S_wrongPointers y_S_wrongPointers.cls cl_all 4 (some .int) rg_S_wrongPointers bl_S_wrongPointers = true := by decide +kernel
def ws_S_takeAway : List Cond := .code y_S_takeAway prog_5_method_16_code 2 none :: wd_tbl
def rm_S_takeAway : Room := { frames := 3, cells := 0, slots := 0, locals := 66 }
def bk_S_takeAway_0 : List ak_I := [(0, .aload_n 0, 0, 0, 0, []), (1, .getfield 22, 2, 4, 0, [(0, 74)]), (4, .iload_n 1, 1, 0, 0, []), (5, .iconst 2, 0, 0, 2, []), (6, .iastore, 0, 0, 0, []), (7, .aload_n 0, 0, 0, 0, []), (8, .getfield 15, 2, 2, 0, [(0, 70)]), (11, .iload_n 1, 1, 0, 0, []), (12, .iconst 0, 0, 0, 0, []), (13, .iastore, 0, 0, 0, []), (14, .aload_n 0, 0, 0, 0, []), (15, .iload_n 1, 1, 0, 0, []), (16, .invokevirtual 60, 0, 1, 0, [(0, 2)]), (19, .return_, 0, 0, 0, [])]
def bl_S_takeAway : List (Nat × List ak_I) := [(0, bk_S_takeAway_0)]
def rg_S_takeAway : List (Nat × Nat × Nat) := [(60, 1, 2)]
theorem ok_S_takeAway : ak_okM prog_5_method_16_code ws_S_takeAway y_S_takeAway.cls cl_all 2 none rg_S_takeAway bl_S_takeAway = true := by decide +kernel
def ws_S_dropThoseWithoutCount : List Cond := .code y_S_dropThoseWithoutCount prog_5_method_17_code 2 none :: wd_tbl
def rm_S_dropThoseWithoutCount : Room := { frames := 0, cells := 0, slots := 0, locals := 0 }
def bk_S_dropThoseWithoutCount_0 : List ak_I := [(0, .iconst 1, 0, 0, 1, []), (1, .istore_n 1, 1, 0, 0, []), (2, .nop, 0, 0, 0, [])]
def bk_S_dropThoseWithoutCount_2 : List ak_I := [(2, .iload_n 1, 1, 0, 0, []), (3, .aload_n 0, 0, 0, 0, []), (4, .getfield 37, 2, 0, 0, [(0, 64)]), (7, .if_icmp .gt 35, 42, 0, 0, []), (10, .aload_n 0, 0, 0, 0, []), (11, .getfield 22, 2, 4, 0, [(0, 74)]), (14, .iload_n 1, 1, 0, 0, []), (15, .iaload, 0, 0, 0, []), (16, .iconst 2, 0, 0, 2, []), (17, .if_icmp .ne 19, 36, 0, 0, []), (20, .aload_n 0, 0, 0, 0, []), (21, .getfield 28, 2, 6, 0, [(0, 78)]), (24, .iload_n 1, 1, 0, 0, []), (25, .iaload, 0, 0, 0, []), (26, .ifCond .ne 10, 36, 0, 0, []), (29, .aload_n 0, 0, 0, 0, []), (30, .getfield 22, 2, 4, 0, [(0, 74)]), (33, .iload_n 1, 1, 0, 0, []), (34, .iconst 0, 0, 0, 0, []), (35, .iastore, 0, 0, 0, []), (36, .iinc 1 1, 1, 0, 1, []), (39, .goto (-37), 2, 1, 0, [])]
def bk_S_dropThoseWithoutCount_36 : List ak_I := [(36, .iinc 1 1, 1, 0, 1, []), (39, .goto (-37), 2, 1, 0, [])]
def bk_S_dropThoseWithoutCount_42 : List ak_I := [(42, .return_, 0, 0, 0, [])]
def bl_S_dropThoseWithoutCount : List (Nat × List ak_I) := [(0, bk_S_dropThoseWithoutCount_0), (2, bk_S_dropThoseWithoutCount_2), (36, bk_S_dropThoseWithoutCount_36), (42, bk_S_dropThoseWithoutCount_42)]
def rg_S_dropThoseWithoutCount : List (Nat × Nat × Nat) := []
theorem ok_S_dropThoseWithoutCount : ak_okM prog_5_method_17_code ws_S_dropThoseWithoutCount y_S_dropThoseWithoutCount.cls cl_all 2 none rg_S_dropThoseWithoutCount bl_S_dropThoseWithoutCount = true := by decide +kernel
def ws_S_howMany : List Cond := .code y_S_howMany prog_5_method_18_code 4 (some .int) :: wd_tbl
def rm_S_howMany : Room := { frames := 0, cells := 0, slots := 0, locals := 0 }
def bk_S_howMany_0 : List ak_I := [(0, .iconst 0, 0, 0, 0, []), (1, .istore_n 2, 2, 0, 0, []), (2, .iconst 1, 0, 0, 1, []), (3, .istore_n 3, 3, 0, 0, []), (4, .nop, 0, 0, 0, [])]
def bk_S_howMany_4 : List ak_I := [(4, .iload_n 3, 3, 0, 0, []), (5, .aload_n 0, 0, 0, 0, []), (6, .getfield 37, 2, 0, 0, [(0, 64)]), (9, .if_icmp .gt 22, 31, 0, 0, []), (12, .aload_n 0, 0, 0, 0, []), (13, .getfield 22, 2, 4, 0, [(0, 74)]), (16, .iload_n 3, 3, 0, 0, []), (17, .iaload, 0, 0, 0, []), (18, .iload_n 1, 1, 0, 0, []), (19, .if_icmp .ne 6, 25, 0, 0, []), (22, .iinc 2 1, 2, 0, 1, []), (25, .iinc 3 1, 3, 0, 1, []), (28, .goto (-24), 4, 1, 0, [])]
def bk_S_howMany_25 : List ak_I := [(25, .iinc 3 1, 3, 0, 1, []), (28, .goto (-24), 4, 1, 0, [])]
def bk_S_howMany_31 : List ak_I := [(31, .iload_n 2, 2, 0, 0, []), (32, .ireturn, 0, 0, 0, [])]
def bl_S_howMany : List (Nat × List ak_I) := [(0, bk_S_howMany_0), (4, bk_S_howMany_4), (25, bk_S_howMany_25), (31, bk_S_howMany_31)]
def rg_S_howMany : List (Nat × Nat × Nat) := []
theorem ok_S_howMany : ak_okM prog_5_method_18_code ws_S_howMany y_S_howMany.cls cl_all 4 (some .int) rg_S_howMany bl_S_howMany = true := by decide +kernel
def ws_S_relations : List Cond := .code y_S_relations prog_5_method_19_code 3 (some .int) :: wd_tbl
def rm_S_relations : Room := { frames := 0, cells := 0, slots := 0, locals := 0 }
def bk_S_relations_0 : List ak_I := [(0, .iconst 0, 0, 0, 0, []), (1, .istore_n 1, 1, 0, 0, []), (2, .iconst 1, 0, 0, 1, []), (3, .istore_n 2, 2, 0, 0, []), (4, .nop, 0, 0, 0, [])]
def bk_S_relations_4 : List ak_I := [(4, .iload_n 2, 2, 0, 0, []), (5, .aload_n 0, 0, 0, 0, []), (6, .getfield 37, 2, 0, 0, [(0, 64)]), (9, .if_icmp .gt 21, 30, 0, 0, []), (12, .aload_n 0, 0, 0, 0, []), (13, .getfield 25, 2, 5, 0, [(0, 75)]), (16, .iload_n 2, 2, 0, 0, []), (17, .iaload, 0, 0, 0, []), (18, .ifCond .eq 6, 24, 0, 0, []), (21, .iinc 1 1, 1, 0, 1, []), (24, .iinc 2 1, 2, 0, 1, []), (27, .goto (-23), 4, 1, 0, [])]
def bk_S_relations_24 : List ak_I := [(24, .iinc 2 1, 2, 0, 1, []), (27, .goto (-23), 4, 1, 0, [])]
def bk_S_relations_30 : List ak_I := [(30, .iload_n 1, 1, 0, 0, []), (31, .ireturn, 0, 0, 0, [])]
def bl_S_relations : List (Nat × List ak_I) := [(0, bk_S_relations_0), (4, bk_S_relations_4), (24, bk_S_relations_24), (30, bk_S_relations_30)]
def rg_S_relations : List (Nat × Nat × Nat) := []
theorem ok_S_relations : ak_okM prog_5_method_19_code ws_S_relations y_S_relations.cls cl_all 3 (some .int) rg_S_relations bl_S_relations = true := by decide +kernel
def ws_X_has : List Cond := .code y_X_has prog_3_method_2_code 2 (some .boolean) :: wd_tbl
def rm_X_has : Room := { frames := 0, cells := 0, slots := 0, locals := 0 }
def bk_X_has_0 : List ak_I := [(0, .iload_n 1, 1, 0, 0, []), (1, .iconst 1, 0, 0, 1, []), (2, .if_icmp .lt 15, 17, 0, 0, []), (5, .iload_n 1, 1, 0, 0, []), (6, .aload_n 0, 0, 0, 0, []), (7, .getfield 19, 3, 0, 0, [(0, 108)]), (10, .if_icmp .gt 7, 17, 0, 0, []), (13, .iconst 1, 0, 0, 1, []), (14, .goto 4, 18, 0, 0, [])]
def bk_X_has_17 : List ak_I := [(17, .iconst 0, 0, 0, 0, []), (18, .ireturn, 0, 1, 0, [])]
def bk_X_has_18 : List ak_I := [(18, .ireturn, 0, 1, 0, [])]
def bl_X_has : List (Nat × List ak_I) := [(0, bk_X_has_0), (17, bk_X_has_17), (18, bk_X_has_18)]
def rg_X_has : List (Nat × Nat × Nat) := []
theorem ok_X_has : ak_okM prog_3_method_2_code ws_X_has y_X_has.cls cl_all 2 (some .boolean) rg_X_has bl_X_has = true := by decide +kernel
def ws_X_add : List Cond := .code y_X_add prog_3_method_3_code 3 (some .int) :: wd_tbl
def rm_X_add : Room := { frames := 0, cells := 0, slots := 0, locals := 0 }
def bk_X_add_0 : List ak_I := [(0, .aload_n 0, 0, 0, 0, []), (1, .getfield 19, 3, 0, 0, [(0, 108)]), (4, .bipush 10, 0, 0, 10, []), (6, .if_icmp .lt 5, 11, 0, 0, []), (9, .iconst (-1), 0, 0, (-1), []), (10, .ireturn, 0, 0, 0, [])]
def bk_X_add_11 : List ak_I := [(11, .aload_n 0, 0, 0, 0, []), (12, .dup, 0, 0, 0, []), (13, .getfield 19, 3, 0, 0, [(0, 108)]), (16, .iconst 1, 0, 0, 1, []), (17, .iadd, 0, 0, 0, []), (18, .putfield 19, 3, 0, 0, [(0, 108)]), (21, .aload_n 0, 0, 0, 0, []), (22, .getfield 9, 3, 1, 0, [(0, 110)]), (25, .aload_n 0, 0, 0, 0, []), (26, .getfield 19, 3, 0, 0, [(0, 108)]), (29, .iload_n 1, 1, 0, 0, []), (30, .iastore, 0, 0, 0, []), (31, .aload_n 0, 0, 0, 0, []), (32, .getfield 15, 3, 2, 0, [(0, 112)]), (35, .aload_n 0, 0, 0, 0, []), (36, .getfield 19, 3, 0, 0, [(0, 108)]), (39, .iload_n 2, 2, 0, 0, []), (40, .bastore, 0, 0, 0, []), (41, .aload_n 0, 0, 0, 0, []), (42, .getfield 19, 3, 0, 0, [(0, 108)]), (45, .ireturn, 0, 0, 0, [])]
def bl_X_add : List (Nat × List ak_I) := [(0, bk_X_add_0), (11, bk_X_add_11)]
def rg_X_add : List (Nat × Nat × Nat) := []
theorem ok_X_add : ak_okM prog_3_method_3_code ws_X_add y_X_add.cls cl_all 3 (some .int) rg_X_add bl_X_add = true := by decide +kernel
def ws_D_add : List Cond := .code y_D_add prog_2_method_4_code 2 none :: wd_tbl
def rm_D_add : Room := { frames := 0, cells := 0, slots := 0, locals := 0 }
def bk_D_add_0 : List ak_I := [(0, .aload_n 0, 0, 0, 0, []), (1, .getfield 9, 4, 2, 0, [(0, 130)]), (4, .iload_n 1, 1, 0, 0, []), (5, .baload, 0, 0, 0, []), (6, .ifCond .ne 13, 19, 0, 0, []), (9, .aload_n 0, 0, 0, 0, []), (10, .getfield 27, 4, 4, 0, [(0, 132)]), (13, .sipush 250, 0, 0, 250, []), (16, .if_icmp .lt 4, 20, 0, 0, []), (19, .return_, 0, 0, 0, [])]
def bk_D_add_19 : List ak_I := [(19, .return_, 0, 0, 0, [])]
def bk_D_add_20 : List ak_I := [(20, .aload_n 0, 0, 0, 0, []), (21, .getfield 9, 4, 2, 0, [(0, 130)]), (24, .iload_n 1, 1, 0, 0, []), (25, .iconst 1, 0, 0, 1, []), (26, .bastore, 0, 0, 0, []), (27, .aload_n 0, 0, 0, 0, []), (28, .getfield 15, 4, 3, 0, [(0, 131)]), (31, .aload_n 0, 0, 0, 0, []), (32, .getfield 27, 4, 4, 0, [(0, 132)]), (35, .iload_n 1, 1, 0, 0, []), (36, .iastore, 0, 0, 0, []), (37, .aload_n 0, 0, 0, 0, []), (38, .dup, 0, 0, 0, []), (39, .getfield 27, 4, 4, 0, [(0, 132)]), (42, .iconst 1, 0, 0, 1, []), (43, .iadd, 0, 0, 0, []), (44, .putfield 27, 4, 4, 0, [(0, 132)]), (47, .return_, 0, 0, 0, [])]
def bl_D_add : List (Nat × List ak_I) := [(0, bk_D_add_0), (19, bk_D_add_19), (20, bk_D_add_20)]
def rg_D_add : List (Nat × Nat × Nat) := []
theorem ok_D_add : ak_okM prog_2_method_4_code ws_D_add y_D_add.cls cl_all 2 none rg_D_add bl_D_add = true := by decide +kernel
def ws_D_isRelatedByRule : List Cond := .code y_D_isRelatedByRule prog_2_method_5_code 4 (some .boolean) :: wd_tbl
def rm_D_isRelatedByRule : Room := { frames := 0, cells := 0, slots := 0, locals := 0 }
def bk_D_isRelatedByRule_0 : List ak_I := [(0, .aload_n 0, 0, 0, 0, []), (1, .getfield 23, 4, 1, 0, [(0, 129)]), (4, .getfield 48, 2, 5, 0, [(0, 76)]), (7, .iload_n 1, 1, 0, 0, []), (8, .iaload, 0, 0, 0, []), (9, .iload_n 2, 2, 0, 0, []), (10, .if_icmp .ne 28, 38, 0, 0, []), (13, .aload_n 0, 0, 0, 0, []), (14, .getfield 19, 4, 0, 0, [(0, 128)]), (17, .getfield 51, 1, 3, 0, [(0, 48)]), (20, .aload_n 0, 0, 0, 0, []), (21, .getfield 23, 4, 1, 0, [(0, 129)]), (24, .getfield 56, 2, 1, 0, [(0, 68)]), (27, .iload_n 1, 1, 0, 0, []), (28, .iaload, 0, 0, 0, []), (29, .iaload, 0, 0, 0, []), (30, .iload_n 3, 3, 0, 0, []), (31, .if_icmp .ne 7, 38, 0, 0, []), (34, .iconst 1, 0, 0, 1, []), (35, .goto 4, 39, 0, 0, [])]
def bk_D_isRelatedByRule_38 : List ak_I := [(38, .iconst 0, 0, 0, 0, []), (39, .ireturn, 0, 1, 0, [])]
def bk_D_isRelatedByRule_39 : List ak_I := [(39, .ireturn, 0, 1, 0, [])]
def bl_D_isRelatedByRule : List (Nat × List ak_I) := [(0, bk_D_isRelatedByRule_0), (38, bk_D_isRelatedByRule_38), (39, bk_D_isRelatedByRule_39)]
def rg_D_isRelatedByRule : List (Nat × Nat × Nat) := []
theorem ok_D_isRelatedByRule : ak_okM prog_2_method_5_code ws_D_isRelatedByRule y_D_isRelatedByRule.cls cl_all 4 (some .boolean) rg_D_isRelatedByRule bl_D_isRelatedByRule = true := by decide +kernel
def ws_D_addThoseTakenBy : List Cond := .code y_D_addThoseTakenBy prog_2_method_3_code 3 none :: wd_tbl
def rm_D_addThoseTakenBy : Room := { frames := 1, cells := 0, slots := 0, locals := 23 }
def bk_D_addThoseTakenBy_0 : List ak_I := [(0, .iconst 1, 0, 0, 1, []), (1, .istore_n 2, 2, 0, 0, []), (2, .nop, 0, 0, 0, [])]
def bk_D_addThoseTakenBy_2 : List ak_I := [(2, .iload_n 2, 2, 0, 0, []), (3, .aload_n 0, 0, 0, 0, []), (4, .getfield 23, 4, 1, 0, [(0, 129)]), (7, .getfield 38, 2, 0, 0, [(0, 65)]), (10, .if_icmp .gt 37, 47, 0, 0, []), (13, .aload_n 0, 0, 0, 0, []), (14, .getfield 23, 4, 1, 0, [(0, 129)]), (17, .getfield 41, 2, 2, 0, [(0, 71)]), (20, .iload_n 2, 2, 0, 0, []), (21, .iaload, 0, 0, 0, []), (22, .iload_n 1, 1, 0, 0, []), (23, .if_icmp .eq 13, 36, 0, 0, []), (26, .aload_n 0, 0, 0, 0, []), (27, .iload_n 2, 2, 0, 0, []), (28, .iload_n 1, 1, 0, 0, []), (29, .iconst 2, 0, 0, 2, []), (30, .invokevirtual 44, 0, 3, 0, [(0, 4)]), (33, .ifCond .eq 8, 41, 0, 0, []), (36, .aload_n 0, 0, 0, 0, []), (37, .iload_n 2, 2, 0, 0, []), (38, .invokevirtual 31, 1, 1, 0, [(0, 4)]), (41, .iinc 2 1, 2, 0, 1, []), (44, .goto (-42), 2, 1, 0, [])]
def bk_D_addThoseTakenBy_36 : List ak_I := [(36, .aload_n 0, 0, 0, 0, []), (37, .iload_n 2, 2, 0, 0, []), (38, .invokevirtual 31, 1, 1, 0, [(0, 4)]), (41, .iinc 2 1, 2, 0, 1, []), (44, .goto (-42), 2, 1, 0, [])]
def bk_D_addThoseTakenBy_41 : List ak_I := [(41, .iinc 2 1, 2, 0, 1, []), (44, .goto (-42), 2, 1, 0, [])]
def bk_D_addThoseTakenBy_47 : List ak_I := [(47, .return_, 0, 0, 0, [])]
def bl_D_addThoseTakenBy : List (Nat × List ak_I) := [(0, bk_D_addThoseTakenBy_0), (2, bk_D_addThoseTakenBy_2), (36, bk_D_addThoseTakenBy_36), (41, bk_D_addThoseTakenBy_41), (47, bk_D_addThoseTakenBy_47)]
def rg_D_addThoseTakenBy : List (Nat × Nat × Nat) := [(44, 3, 4), (31, 1, 4)]
theorem ok_D_addThoseTakenBy : ak_okM prog_2_method_3_code ws_D_addThoseTakenBy y_D_addThoseTakenBy.cls cl_all 3 none rg_D_addThoseTakenBy bl_D_addThoseTakenBy = true := by decide +kernel
def ws_D_gather : List Cond := .code y_D_gather prog_2_method_2_code 3 none :: wd_tbl
def rm_D_gather : Room := { frames := 2, cells := 0, slots := 0, locals := 45 }
def bk_D_gather_0 : List ak_I := [(0, .iconst 0, 0, 0, 0, []), (1, .istore_n 2, 2, 0, 0, []), (2, .nop, 0, 0, 0, [])]
def bk_D_gather_2 : List ak_I := [(2, .iload_n 2, 2, 0, 0, []), (3, .sipush 250, 0, 0, 250, []), (6, .if_icmp .gt 16, 22, 0, 0, []), (9, .aload_n 0, 0, 0, 0, []), (10, .getfield 9, 4, 2, 0, [(0, 130)]), (13, .iload_n 2, 2, 0, 0, []), (14, .iconst 0, 0, 0, 0, []), (15, .bastore, 0, 0, 0, []), (16, .iinc 2 1, 2, 0, 1, []), (19, .goto (-17), 2, 1, 0, [])]
def bk_D_gather_22 : List ak_I := [(22, .aload_n 0, 0, 0, 0, []), (23, .iconst 0, 0, 0, 0, []), (24, .putfield 27, 4, 4, 0, [(0, 132)]), (27, .aload_n 0, 0, 0, 0, []), (28, .iload_n 1, 1, 0, 0, []), (29, .invokevirtual 31, 0, 1, 0, [(0, 4)]), (32, .iconst 0, 0, 0, 0, []), (33, .istore_n 2, 2, 0, 0, []), (34, .nop, 0, 0, 0, [])]
def bk_D_gather_34 : List ak_I := [(34, .iload_n 2, 2, 0, 0, []), (35, .aload_n 0, 0, 0, 0, []), (36, .getfield 27, 4, 4, 0, [(0, 132)]), (39, .if_icmp .ge 26, 65, 0, 0, []), (42, .iload_n 2, 2, 0, 0, []), (43, .sipush 250, 0, 0, 250, []), (46, .if_icmp .ge 19, 65, 0, 0, []), (49, .aload_n 0, 0, 0, 0, []), (50, .aload_n 0, 0, 0, 0, []), (51, .getfield 15, 4, 3, 0, [(0, 131)]), (54, .iload_n 2, 2, 0, 0, []), (55, .iaload, 0, 0, 0, []), (56, .invokevirtual 35, 1, 1, 0, [(0, 4)]), (59, .iinc 2 1, 2, 0, 1, []), (62, .goto (-28), 34, 1, 0, [])]
def bk_D_gather_65 : List ak_I := [(65, .return_, 0, 0, 0, [])]
def bl_D_gather : List (Nat × List ak_I) := [(0, bk_D_gather_0), (2, bk_D_gather_2), (22, bk_D_gather_22), (34, bk_D_gather_34), (65, bk_D_gather_65)]
def rg_D_gather : List (Nat × Nat × Nat) := [(31, 1, 4), (35, 1, 4)]
theorem ok_D_gather : ak_okM prog_2_method_2_code ws_D_gather y_D_gather.cls cl_all 3 none rg_D_gather bl_D_gather = true := by decide +kernel
def ws_D_isBarred : List Cond := .code y_D_isBarred prog_2_method_6_code 3 (some .boolean) :: wd_tbl
def rm_D_isBarred : Room := { frames := 1, cells := 0, slots := 0, locals := 23 }
def bk_D_isBarred_0 : List ak_I := [(0, .iconst 1, 0, 0, 1, []), (1, .istore_n 1, 1, 0, 0, []), (2, .nop, 0, 0, 0, [])]
def bk_D_isBarred_2 : List ak_I := [(2, .iload_n 1, 1, 0, 0, []), (3, .aload_n 0, 0, 0, 0, []), (4, .getfield 23, 4, 1, 0, [(0, 129)]), (7, .getfield 38, 2, 0, 0, [(0, 65)]), (10, .if_icmp .gt 49, 59, 0, 0, []), (13, .aload_n 0, 0, 0, 0, []), (14, .getfield 23, 4, 1, 0, [(0, 129)]), (17, .getfield 48, 2, 5, 0, [(0, 76)]), (20, .iload_n 1, 1, 0, 0, []), (21, .iaload, 0, 0, 0, []), (22, .istore_n 2, 2, 0, 0, []), (23, .aload_n 0, 0, 0, 0, []), (24, .getfield 9, 4, 2, 0, [(0, 130)]), (27, .iload_n 1, 1, 0, 0, []), (28, .baload, 0, 0, 0, []), (29, .ifCond .ne 24, 53, 0, 0, []), (32, .aload_n 0, 0, 0, 0, []), (33, .getfield 9, 4, 2, 0, [(0, 130)]), (36, .iload_n 2, 2, 0, 0, []), (37, .baload, 0, 0, 0, []), (38, .ifCond .eq 15, 53, 0, 0, []), (41, .aload_n 0, 0, 0, 0, []), (42, .iload_n 1, 1, 0, 0, []), (43, .iload_n 2, 2, 0, 0, []), (44, .iconst 0, 0, 0, 0, []), (45, .invokevirtual 44, 0, 3, 0, [(0, 4)]), (48, .ifCond .eq 5, 53, 0, 0, []), (51, .iconst 1, 0, 0, 1, []), (52, .ireturn, 0, 1, 0, [])]
def bk_D_isBarred_53 : List ak_I := [(53, .iinc 1 1, 1, 0, 1, []), (56, .goto (-54), 2, 1, 0, [])]
def bk_D_isBarred_59 : List ak_I := [(59, .iconst 0, 0, 0, 0, []), (60, .ireturn, 0, 1, 0, [])]
def bl_D_isBarred : List (Nat × List ak_I) := [(0, bk_D_isBarred_0), (2, bk_D_isBarred_2), (53, bk_D_isBarred_53), (59, bk_D_isBarred_59)]
def rg_D_isBarred : List (Nat × Nat × Nat) := [(44, 3, 4)]
theorem ok_D_isBarred : ak_okM prog_2_method_6_code ws_D_isBarred y_D_isBarred.cls cl_all 3 (some .boolean) rg_D_isBarred bl_D_isBarred = true := by decide +kernel
def ws_D_carryOut : List Cond := .code y_D_carryOut prog_2_method_7_code 2 none :: wd_tbl
def rm_D_carryOut : Room := { frames := 4, cells := 0, slots := 0, locals := 87 }
def bk_D_carryOut_0 : List ak_I := [(0, .iconst 0, 0, 0, 0, []), (1, .istore_n 1, 1, 0, 0, []), (2, .nop, 0, 0, 0, [])]
def bk_D_carryOut_2 : List ak_I := [(2, .iload_n 1, 1, 0, 0, []), (3, .aload_n 0, 0, 0, 0, []), (4, .getfield 27, 4, 4, 0, [(0, 132)]), (7, .if_icmp .ge 22, 29, 0, 0, []), (10, .aload_n 0, 0, 0, 0, []), (11, .getfield 23, 4, 1, 0, [(0, 129)]), (14, .aload_n 0, 0, 0, 0, []), (15, .getfield 15, 4, 3, 0, [(0, 131)]), (18, .iload_n 1, 1, 0, 0, []), (19, .iaload, 0, 0, 0, []), (20, .invokevirtual 59, 0, 1, 0, [(0, 2)]), (23, .iinc 1 1, 1, 0, 1, []), (26, .goto (-24), 2, 1, 0, [])]
def bk_D_carryOut_29 : List ak_I := [(29, .iconst 0, 0, 0, 0, []), (30, .istore_n 1, 1, 0, 0, []), (31, .nop, 0, 0, 0, [])]
def bk_D_carryOut_31 : List ak_I := [(31, .iload_n 1, 1, 0, 0, []), (32, .aload_n 0, 0, 0, 0, []), (33, .getfield 27, 4, 4, 0, [(0, 132)]), (36, .if_icmp .ge 22, 58, 0, 0, []), (39, .aload_n 0, 0, 0, 0, []), (40, .getfield 23, 4, 1, 0, [(0, 129)]), (43, .aload_n 0, 0, 0, 0, []), (44, .getfield 15, 4, 3, 0, [(0, 131)]), (47, .iload_n 1, 1, 0, 0, []), (48, .iaload, 0, 0, 0, []), (49, .invokevirtual 62, 1, 1, 0, [(0, 2)]), (52, .iinc 1 1, 1, 0, 1, []), (55, .goto (-24), 31, 1, 0, [])]
def bk_D_carryOut_58 : List ak_I := [(58, .aload_n 0, 0, 0, 0, []), (59, .getfield 23, 4, 1, 0, [(0, 129)]), (62, .invokevirtual 65, 2, 0, 0, [(0, 2)]), (65, .return_, 0, 0, 0, [])]
def bl_D_carryOut : List (Nat × List ak_I) := [(0, bk_D_carryOut_0), (2, bk_D_carryOut_2), (29, bk_D_carryOut_29), (31, bk_D_carryOut_31), (58, bk_D_carryOut_58)]
def rg_D_carryOut : List (Nat × Nat × Nat) := [(59, 1, 2), (62, 1, 2), (65, 0, 2)]
theorem ok_D_carryOut : ak_okM prog_2_method_7_code ws_D_carryOut y_D_carryOut.cls cl_all 2 none rg_D_carryOut bl_D_carryOut = true := by decide +kernel
def ws_L_mayBeUnder : List Cond := .code y_L_mayBeUnder prog_1_method_5_code 4 (some .boolean) :: wd_tbl
def rm_L_mayBeUnder : Room := { frames := 2, cells := 0, slots := 0, locals := 43 }
def bk_L_mayBeUnder_0 : List ak_I := [(0, .aload_n 0, 0, 0, 0, []), (1, .getfield 10, 0, 0, 0, [(0, 145)]), (4, .getfield 68, 1, 1, 0, [(0, 43)]), (7, .iload_n 1, 1, 0, 0, []), (8, .iaload, 0, 0, 0, []), (9, .istore_n 3, 3, 0, 0, []), (10, .iload_n 3, 3, 0, 0, []), (11, .ifCond .ne 13, 24, 0, 0, []), (14, .iload_n 2, 2, 0, 0, []), (15, .ifCond .ne 7, 22, 0, 0, []), (18, .iconst 1, 0, 0, 1, []), (19, .goto 4, 23, 0, 0, [])]
def bk_L_mayBeUnder_22 : List ak_I := [(22, .iconst 0, 0, 0, 0, []), (23, .ireturn, 0, 1, 0, [])]
def bk_L_mayBeUnder_23 : List ak_I := [(23, .ireturn, 0, 1, 0, [])]
def bk_L_mayBeUnder_24 : List ak_I := [(24, .aload_n 0, 0, 0, 0, []), (25, .getfield 19, 0, 1, 0, [(0, 146)]), (28, .iload_n 2, 2, 0, 0, []), (29, .iconst 1, 0, 0, 1, []), (30, .invokevirtual 71, 0, 2, 0, [(0, 2)]), (33, .ifCond .eq 20, 53, 0, 0, []), (36, .aload_n 0, 0, 0, 0, []), (37, .getfield 19, 0, 1, 0, [(0, 146)]), (40, .getfield 74, 2, 1, 0, [(0, 69)]), (43, .iload_n 2, 2, 0, 0, []), (44, .iaload, 0, 0, 0, []), (45, .iload_n 3, 3, 0, 0, []), (46, .if_icmp .ne 7, 53, 0, 0, []), (49, .iconst 1, 0, 0, 1, []), (50, .goto 4, 54, 0, 0, [])]
def bk_L_mayBeUnder_53 : List ak_I := [(53, .iconst 0, 0, 0, 0, []), (54, .ireturn, 0, 1, 0, [])]
def bk_L_mayBeUnder_54 : List ak_I := [(54, .ireturn, 0, 1, 0, [])]
def bl_L_mayBeUnder : List (Nat × List ak_I) := [(0, bk_L_mayBeUnder_0), (22, bk_L_mayBeUnder_22), (23, bk_L_mayBeUnder_23), (24, bk_L_mayBeUnder_24), (53, bk_L_mayBeUnder_53), (54, bk_L_mayBeUnder_54)]
def rg_L_mayBeUnder : List (Nat × Nat × Nat) := [(71, 2, 2)]
theorem ok_L_mayBeUnder : ak_okM prog_1_method_5_code ws_L_mayBeUnder y_L_mayBeUnder.cls cl_all 4 (some .boolean) rg_L_mayBeUnder bl_L_mayBeUnder = true := by decide +kernel
def ws_L_physicalChild : List Cond := .code y_L_physicalChild prog_1_method_10_code 7 (some .int) :: wd_tbl
def rm_L_physicalChild : Room := { frames := 1, cells := 0, slots := 0, locals := 23 }
def bk_L_physicalChild_0 : List ak_I := [(0, .iload_n 2, 2, 0, 0, []), (1, .istore_n 3, 3, 0, 0, []), (2, .iconst 1, 0, 0, 1, []), (3, .istore 4, 4, 0, 0, []), (5, .nop, 0, 0, 0, [])]
def bk_L_physicalChild_5 : List ak_I := [(5, .iload 4, 4, 0, 0, []), (7, .aload_n 0, 0, 0, 0, []), (8, .getfield 10, 0, 0, 0, [(0, 145)]), (11, .getfield 107, 1, 0, 0, [(0, 41)]), (14, .if_icmp .gt 92, 106, 0, 0, []), (17, .aload_n 0, 0, 0, 0, []), (18, .getfield 10, 0, 0, 0, [(0, 145)]), (21, .getfield 68, 1, 1, 0, [(0, 43)]), (24, .iload 4, 4, 0, 0, []), (26, .iaload, 0, 0, 0, []), (27, .aload_n 0, 0, 0, 0, []), (28, .getfield 19, 0, 1, 0, [(0, 146)]), (31, .getfield 74, 2, 1, 0, [(0, 69)]), (34, .iload_n 1, 1, 0, 0, []), (35, .iaload, 0, 0, 0, []), (36, .if_icmp .eq 6, 42, 0, 0, []), (39, .goto 61, 100, 0, 0, [])]
def bk_L_physicalChild_42 : List ak_I := [(42, .iconst 0, 0, 0, 0, []), (43, .istore 5, 5, 0, 0, []), (45, .nop, 0, 0, 0, [])]
def bk_L_physicalChild_45 : List ak_I := [(45, .iload 5, 5, 0, 0, []), (47, .aload_n 0, 0, 0, 0, []), (48, .getfield 19, 0, 1, 0, [(0, 146)]), (51, .getfield 108, 2, 0, 0, [(0, 66)]), (54, .if_icmp .ge 46, 100, 0, 0, []), (57, .aload_n 0, 0, 0, 0, []), (58, .getfield 19, 0, 1, 0, [(0, 146)]), (61, .getfield 109, 2, 8, 0, [(0, 82)]), (64, .iload 5, 5, 0, 0, []), (66, .iaload, 0, 0, 0, []), (67, .istore 6, 6, 0, 0, []), (69, .aload_n 0, 0, 0, 0, []), (70, .getfield 19, 0, 1, 0, [(0, 146)]), (73, .iload 6, 6, 0, 0, []), (75, .iload 4, 4, 0, 0, []), (77, .iload_n 1, 1, 0, 0, []), (78, .invokevirtual 112, 0, 3, 0, [(0, 2)]), (81, .ifCond .eq 13, 94, 0, 0, []), (84, .iload_n 3, 3, 0, 0, []), (85, .iinc 3 (-1), 3, 0, (-1), []), (88, .ifCond .ne 6, 94, 0, 0, []), (91, .iload 6, 6, 0, 0, []), (93, .ireturn, 0, 0, 0, [])]
def bk_L_physicalChild_94 : List ak_I := [(94, .iinc 5 1, 5, 0, 1, []), (97, .goto (-52), 45, 1, 0, [])]
def bk_L_physicalChild_100 : List ak_I := [(100, .iinc 4 1, 4, 0, 1, []), (103, .goto (-98), 5, 1, 0, [])]
def bk_L_physicalChild_106 : List ak_I := [(106, .iconst 0, 0, 0, 0, []), (107, .ireturn, 0, 0, 0, [])]
def bl_L_physicalChild : List (Nat × List ak_I) := [(0, bk_L_physicalChild_0), (5, bk_L_physicalChild_5), (42, bk_L_physicalChild_42), (45, bk_L_physicalChild_45), (94, bk_L_physicalChild_94), (100, bk_L_physicalChild_100), (106, bk_L_physicalChild_106)]
def rg_L_physicalChild : List (Nat × Nat × Nat) := [(112, 3, 2)]
theorem ok_L_physicalChild : ak_okM prog_1_method_10_code ws_L_physicalChild y_L_physicalChild.cls cl_all 7 (some .int) rg_L_physicalChild bl_L_physicalChild = true := by decide +kernel
def ws_L_isIn : List Cond := .code y_L_isIn prog_1_method_14_code 3 (some .boolean) :: wd_tbl
def rm_L_isIn : Room := { frames := 2, cells := 0, slots := 0, locals := 43 }
def bk_L_isIn_0 : List ak_I := [(0, .aload_n 0, 0, 0, 0, []), (1, .getfield 19, 0, 1, 0, [(0, 146)]), (4, .iload_n 2, 2, 0, 0, []), (5, .iconst 1, 0, 0, 1, []), (6, .invokevirtual 71, 0, 2, 0, [(0, 2)]), (9, .ifCond .eq 54, 63, 0, 0, []), (12, .aload_n 0, 0, 0, 0, []), (13, .getfield 19, 0, 1, 0, [(0, 146)]), (16, .getfield 74, 2, 1, 0, [(0, 69)]), (19, .iload_n 2, 2, 0, 0, []), (20, .iaload, 0, 0, 0, []), (21, .aload_n 0, 0, 0, 0, []), (22, .getfield 26, 0, 2, 0, [(0, 147)]), (25, .getfield 126, 3, 1, 0, [(0, 111)]), (28, .iload_n 1, 1, 0, 0, []), (29, .iaload, 0, 0, 0, []), (30, .if_icmp .ne 33, 63, 0, 0, []), (33, .aload_n 0, 0, 0, 0, []), (34, .getfield 26, 0, 2, 0, [(0, 147)]), (37, .getfield 127, 3, 2, 0, [(0, 113)]), (40, .iload_n 1, 1, 0, 0, []), (41, .baload, 0, 0, 0, []), (42, .ifCond .eq 17, 59, 0, 0, []), (45, .aload_n 0, 0, 0, 0, []), (46, .getfield 19, 0, 1, 0, [(0, 146)]), (49, .getfield 131, 2, 3, 0, [(0, 73)]), (52, .iload_n 2, 2, 0, 0, []), (53, .laload, 0, 0, 0, []), (54, .lconst 0, 0, 0, 0, []), (55, .lcmp, 0, 0, 0, []), (56, .ifCond .eq 7, 63, 0, 0, []), (59, .iconst 1, 0, 0, 1, []), (60, .goto 4, 64, 0, 0, [])]
def bk_L_isIn_59 : List ak_I := [(59, .iconst 1, 0, 0, 1, []), (60, .goto 4, 64, 0, 0, [])]
def bk_L_isIn_63 : List ak_I := [(63, .iconst 0, 0, 0, 0, []), (64, .ireturn, 0, 1, 0, [])]
def bk_L_isIn_64 : List ak_I := [(64, .ireturn, 0, 1, 0, [])]
def bl_L_isIn : List (Nat × List ak_I) := [(0, bk_L_isIn_0), (59, bk_L_isIn_59), (63, bk_L_isIn_63), (64, bk_L_isIn_64)]
def rg_L_isIn : List (Nat × Nat × Nat) := [(71, 2, 2)]
theorem ok_L_isIn : ak_okM prog_1_method_14_code ws_L_isIn y_L_isIn.cls cl_all 3 (some .boolean) rg_L_isIn bl_L_isIn = true := by decide +kernel
def ws_L_kind : List Cond := .code y_L_kind prog_1_method_2_code 2 (some .int) :: wd_tbl
def rm_L_kind : Room := { frames := 1, cells := 0, slots := 0, locals := 21 }
def bk_L_kind_0 : List ak_I := [(0, .iload_n 1, 1, 0, 0, []), (1, .ifCond .eq 17, 18, 0, 0, []), (4, .aload_n 0, 0, 0, 0, []), (5, .getfield 10, 0, 0, 0, [(0, 145)]), (8, .iload_n 1, 1, 0, 0, []), (9, .invokevirtual 39, 0, 1, 0, [(0, 1)]), (12, .ifCond .ne 6, 18, 0, 0, []), (15, .bipush (-2), 0, 0, (-2), []), (17, .ireturn, 0, 0, 0, [])]
def bk_L_kind_18 : List ak_I := [(18, .aload_n 0, 0, 0, 0, []), (19, .getfield 10, 0, 0, 0, [(0, 145)]), (22, .iload_n 1, 1, 0, 0, []), (23, .invokevirtual 43, 1, 1, 0, [(0, 1)]), (26, .ireturn, 0, 0, 0, [])]
def bl_L_kind : List (Nat × List ak_I) := [(0, bk_L_kind_0), (18, bk_L_kind_18)]
def rg_L_kind : List (Nat × Nat × Nat) := [(39, 1, 1), (43, 1, 1)]
theorem ok_L_kind : ak_okM prog_1_method_2_code ws_L_kind y_L_kind.cls cl_all 2 (some .int) rg_L_kind bl_L_kind = true := by decide +kernel
def ws_L_parent : List Cond := .code y_L_parent prog_1_method_3_code 4 (some .int) :: wd_tbl
def rm_L_parent : Room := { frames := 1, cells := 0, slots := 0, locals := 22 }
def bk_L_parent_0 : List ak_I := [(0, .aload_n 0, 0, 0, 0, []), (1, .getfield 10, 0, 0, 0, [(0, 145)]), (4, .iload_n 1, 1, 0, 0, []), (5, .invokevirtual 39, 0, 1, 0, [(0, 1)]), (8, .ifCond .eq 14, 22, 0, 0, []), (11, .aload_n 0, 0, 0, 0, []), (12, .getfield 10, 0, 0, 0, [(0, 145)]), (15, .iload_n 2, 2, 0, 0, []), (16, .invokevirtual 39, 0, 1, 0, [(0, 1)]), (19, .ifCond .ne 6, 25, 0, 0, []), (22, .bipush (-2), 0, 0, (-2), []), (24, .ireturn, 0, 0, 0, [])]
def bk_L_parent_22 : List ak_I := [(22, .bipush (-2), 0, 0, (-2), []), (24, .ireturn, 0, 0, 0, [])]
def bk_L_parent_25 : List ak_I := [(25, .iload_n 3, 3, 0, 0, []), (26, .ifCond .lt 8, 34, 0, 0, []), (29, .iload_n 3, 3, 0, 0, []), (30, .iconst 2, 0, 0, 2, []), (31, .if_icmp .le 6, 37, 0, 0, []), (34, .bipush (-4), 0, 0, (-4), []), (36, .ireturn, 0, 0, 0, [])]
def bk_L_parent_34 : List ak_I := [(34, .bipush (-4), 0, 0, (-4), []), (36, .ireturn, 0, 0, 0, [])]
def bk_L_parent_37 : List ak_I := [(37, .aload_n 0, 0, 0, 0, []), (38, .getfield 19, 0, 1, 0, [(0, 146)]), (41, .iload_n 1, 1, 0, 0, []), (42, .invokevirtual 47, 1, 1, 0, [(0, 2)]), (45, .ifCond .eq 6, 51, 0, 0, []), (48, .bipush (-5), 0, 0, (-5), []), (50, .ireturn, 0, 0, 0, [])]
def bk_L_parent_51 : List ak_I := [(51, .aload_n 0, 0, 0, 0, []), (52, .getfield 10, 0, 0, 0, [(0, 145)]), (55, .getfield 50, 1, 2, 0, [(0, 45)]), (58, .iload_n 1, 1, 0, 0, []), (59, .iaload, 0, 0, 0, []), (60, .ifCond .eq 5, 65, 0, 0, []), (63, .iconst 0, 0, 0, 0, []), (64, .ireturn, 0, 0, 0, [])]
def bk_L_parent_65 : List ak_I := [(65, .aload_n 0, 0, 0, 0, []), (66, .getfield 10, 0, 0, 0, [(0, 145)]), (69, .getfield 50, 1, 2, 0, [(0, 45)]), (72, .iload_n 1, 1, 0, 0, []), (73, .iload_n 2, 2, 0, 0, []), (74, .iastore, 0, 0, 0, []), (75, .aload_n 0, 0, 0, 0, []), (76, .getfield 10, 0, 0, 0, [(0, 145)]), (79, .getfield 54, 1, 3, 0, [(0, 47)]), (82, .iload_n 1, 1, 0, 0, []), (83, .iload_n 3, 3, 0, 0, []), (84, .iastore, 0, 0, 0, []), (85, .iconst 1, 0, 0, 1, []), (86, .ireturn, 0, 0, 0, [])]
def bl_L_parent : List (Nat × List ak_I) := [(0, bk_L_parent_0), (22, bk_L_parent_22), (25, bk_L_parent_25), (34, bk_L_parent_34), (37, bk_L_parent_37), (51, bk_L_parent_51), (65, bk_L_parent_65)]
def rg_L_parent : List (Nat × Nat × Nat) := [(39, 1, 1), (47, 1, 2)]
theorem ok_L_parent : ak_okM prog_1_method_3_code ws_L_parent y_L_parent.cls cl_all 4 (some .int) rg_L_parent bl_L_parent = true := by decide +kernel
def ws_L_segment : List Cond := .code y_L_segment prog_1_method_4_code 5 (some .int) :: wd_tbl
def rm_L_segment : Room := { frames := 3, cells := 0, slots := 0, locals := 68 }
def bk_L_segment_0 : List ak_I := [(0, .aload_n 0, 0, 0, 0, []), (1, .getfield 10, 0, 0, 0, [(0, 145)]), (4, .iload_n 1, 1, 0, 0, []), (5, .invokevirtual 39, 0, 1, 0, [(0, 1)]), (8, .ifCond .ne 6, 14, 0, 0, []), (11, .bipush (-2), 0, 0, (-2), []), (13, .ireturn, 0, 0, 0, [])]
def bk_L_segment_14 : List ak_I := [(14, .aload_n 0, 0, 0, 0, []), (15, .iload_n 1, 1, 0, 0, []), (16, .iload_n 2, 2, 0, 0, []), (17, .invokevirtual 57, 1, 2, 0, [(0, 0)]), (20, .ifCond .ne 6, 26, 0, 0, []), (23, .bipush (-4), 0, 0, (-4), []), (25, .ireturn, 0, 0, 0, [])]
def bk_L_segment_26 : List ak_I := [(26, .aload_n 0, 0, 0, 0, []), (27, .getfield 19, 0, 1, 0, [(0, 146)]), (30, .iload_n 1, 1, 0, 0, []), (31, .iload_n 2, 2, 0, 0, []), (32, .lload_n 3, 3, 0, 0, []), (33, .invokevirtual 61, 2, 3, 0, [(0, 2)]), (36, .ifCond .eq 6, 42, 0, 0, []), (39, .bipush (-3), 0, 0, (-3), []), (41, .ireturn, 0, 0, 0, [])]
def bk_L_segment_42 : List ak_I := [(42, .aload_n 0, 0, 0, 0, []), (43, .getfield 19, 0, 1, 0, [(0, 146)]), (46, .iload_n 1, 1, 0, 0, []), (47, .iload_n 2, 2, 0, 0, []), (48, .lload_n 3, 3, 0, 0, []), (49, .invokevirtual 65, 3, 3, 0, [(0, 2)]), (52, .ireturn, 0, 0, 0, [])]
def bl_L_segment : List (Nat × List ak_I) := [(0, bk_L_segment_0), (14, bk_L_segment_14), (26, bk_L_segment_26), (42, bk_L_segment_42)]
def rg_L_segment : List (Nat × Nat × Nat) := [(39, 1, 1), (57, 2, 0), (61, 3, 2), (65, 3, 2)]
theorem ok_L_segment : ak_okM prog_1_method_4_code ws_L_segment y_L_segment.cls cl_all 5 (some .int) rg_L_segment bl_L_segment = true := by decide +kernel
def ws_L_relate : List Cond := .code y_L_relate prog_1_method_6_code 3 (some .int) :: wd_tbl
def rm_L_relate : Room := { frames := 3, cells := 0, slots := 0, locals := 66 }
def bk_L_relate_0 : List ak_I := [(0, .aload_n 0, 0, 0, 0, []), (1, .getfield 19, 0, 1, 0, [(0, 146)]), (4, .iload_n 1, 1, 0, 0, []), (5, .invokevirtual 77, 0, 1, 0, [(0, 2)]), (8, .ifCond .eq 14, 22, 0, 0, []), (11, .aload_n 0, 0, 0, 0, []), (12, .getfield 19, 0, 1, 0, [(0, 146)]), (15, .iload_n 2, 2, 0, 0, []), (16, .invokevirtual 77, 0, 1, 0, [(0, 2)]), (19, .ifCond .ne 6, 25, 0, 0, []), (22, .bipush (-2), 0, 0, (-2), []), (24, .ireturn, 0, 0, 0, [])]
def bk_L_relate_22 : List ak_I := [(22, .bipush (-2), 0, 0, (-2), []), (24, .ireturn, 0, 0, 0, [])]
def bk_L_relate_25 : List ak_I := [(25, .iload_n 1, 1, 0, 0, []), (26, .iload_n 2, 2, 0, 0, []), (27, .if_icmp .eq 32, 59, 0, 0, []), (30, .aload_n 0, 0, 0, 0, []), (31, .getfield 10, 0, 0, 0, [(0, 145)]), (34, .getfield 50, 1, 2, 0, [(0, 45)]), (37, .aload_n 0, 0, 0, 0, []), (38, .getfield 19, 0, 1, 0, [(0, 146)]), (41, .getfield 74, 2, 1, 0, [(0, 69)]), (44, .iload_n 1, 1, 0, 0, []), (45, .iaload, 0, 0, 0, []), (46, .iaload, 0, 0, 0, []), (47, .aload_n 0, 0, 0, 0, []), (48, .getfield 19, 0, 1, 0, [(0, 146)]), (51, .getfield 74, 2, 1, 0, [(0, 69)]), (54, .iload_n 2, 2, 0, 0, []), (55, .iaload, 0, 0, 0, []), (56, .if_icmp .eq 6, 62, 0, 0, []), (59, .bipush (-4), 0, 0, (-4), []), (61, .ireturn, 0, 0, 0, [])]
def bk_L_relate_59 : List ak_I := [(59, .bipush (-4), 0, 0, (-4), []), (61, .ireturn, 0, 0, 0, [])]
def bk_L_relate_62 : List ak_I := [(62, .aload_n 0, 0, 0, 0, []), (63, .getfield 19, 0, 1, 0, [(0, 146)]), (66, .iload_n 1, 1, 0, 0, []), (67, .iconst 1, 0, 0, 1, []), (68, .invokevirtual 71, 1, 2, 0, [(0, 2)]), (71, .ifCond .eq 27, 98, 0, 0, []), (74, .aload_n 0, 0, 0, 0, []), (75, .getfield 19, 0, 1, 0, [(0, 146)]), (78, .iload_n 2, 2, 0, 0, []), (79, .iconst 0, 0, 0, 0, []), (80, .invokevirtual 71, 1, 2, 0, [(0, 2)]), (83, .ifCond .ne 15, 98, 0, 0, []), (86, .aload_n 0, 0, 0, 0, []), (87, .getfield 19, 0, 1, 0, [(0, 146)]), (90, .getfield 78, 2, 5, 0, [(0, 77)]), (93, .iload_n 1, 1, 0, 0, []), (94, .iaload, 0, 0, 0, []), (95, .ifCond .eq 6, 101, 0, 0, []), (98, .bipush (-5), 0, 0, (-5), []), (100, .ireturn, 0, 0, 0, [])]
def bk_L_relate_98 : List ak_I := [(98, .bipush (-5), 0, 0, (-5), []), (100, .ireturn, 0, 0, 0, [])]
def bk_L_relate_101 : List ak_I := [(101, .aload_n 0, 0, 0, 0, []), (102, .getfield 19, 0, 1, 0, [(0, 146)]), (105, .iload_n 1, 1, 0, 0, []), (106, .iload_n 2, 2, 0, 0, []), (107, .invokevirtual 81, 2, 2, 0, [(0, 2)]), (110, .iconst 1, 0, 0, 1, []), (111, .ireturn, 0, 0, 0, [])]
def bl_L_relate : List (Nat × List ak_I) := [(0, bk_L_relate_0), (22, bk_L_relate_22), (25, bk_L_relate_25), (59, bk_L_relate_59), (62, bk_L_relate_62), (98, bk_L_relate_98), (101, bk_L_relate_101)]
def rg_L_relate : List (Nat × Nat × Nat) := [(77, 1, 2), (71, 2, 2), (81, 2, 2)]
theorem ok_L_relate : ak_okM prog_1_method_6_code ws_L_relate y_L_relate.cls cl_all 3 (some .int) rg_L_relate bl_L_relate = true := by decide +kernel
def ws_L_delete : List Cond := .code y_L_delete prog_1_method_7_code 2 (some .int) :: wd_tbl
def rm_L_delete : Room := { frames := 5, cells := 0, slots := 0, locals := 108 }
def bk_L_delete_0 : List ak_I := [(0, .aload_n 0, 0, 0, 0, []), (1, .getfield 19, 0, 1, 0, [(0, 146)]), (4, .iload_n 1, 1, 0, 0, []), (5, .invokevirtual 77, 0, 1, 0, [(0, 2)]), (8, .ifCond .ne 6, 14, 0, 0, []), (11, .bipush (-2), 0, 0, (-2), []), (13, .ireturn, 0, 0, 0, [])]
def bk_L_delete_14 : List ak_I := [(14, .aload_n 0, 0, 0, 0, []), (15, .getfield 19, 0, 1, 0, [(0, 146)]), (18, .iload_n 1, 1, 0, 0, []), (19, .iconst 1, 0, 0, 1, []), (20, .invokevirtual 71, 1, 2, 0, [(0, 2)]), (23, .ifCond .ne 6, 29, 0, 0, []), (26, .bipush (-5), 0, 0, (-5), []), (28, .ireturn, 0, 0, 0, [])]
def bk_L_delete_29 : List ak_I := [(29, .aload_n 0, 0, 0, 0, []), (30, .getfield 35, 0, 3, 0, [(0, 148)]), (33, .iload_n 1, 1, 0, 0, []), (34, .invokevirtual 85, 2, 1, 0, [(0, 4)]), (37, .aload_n 0, 0, 0, 0, []), (38, .getfield 35, 0, 3, 0, [(0, 148)]), (41, .invokevirtual 89, 3, 0, 0, [(0, 4)]), (44, .ifCond .eq 6, 50, 0, 0, []), (47, .bipush (-5), 0, 0, (-5), []), (49, .ireturn, 0, 0, 0, [])]
def bk_L_delete_50 : List ak_I := [(50, .aload_n 0, 0, 0, 0, []), (51, .getfield 35, 0, 3, 0, [(0, 148)]), (54, .invokevirtual 93, 4, 0, 0, [(0, 4)]), (57, .aload_n 0, 0, 0, 0, []), (58, .getfield 35, 0, 3, 0, [(0, 148)]), (61, .getfield 96, 4, 4, 0, [(0, 133)]), (64, .ireturn, 0, 0, 0, [])]
def bl_L_delete : List (Nat × List ak_I) := [(0, bk_L_delete_0), (14, bk_L_delete_14), (29, bk_L_delete_29), (50, bk_L_delete_50)]
def rg_L_delete : List (Nat × Nat × Nat) := [(77, 1, 2), (71, 2, 2), (85, 1, 4), (89, 0, 4), (93, 0, 4)]
theorem ok_L_delete : ak_okM prog_1_method_7_code ws_L_delete y_L_delete.cls cl_all 2 (some .int) rg_L_delete bl_L_delete = true := by decide +kernel
def ws_L_there : List Cond := .code y_L_there prog_1_method_8_code 3 (some .boolean) :: wd_tbl
def rm_L_there : Room := { frames := 2, cells := 0, slots := 0, locals := 43 }
def bk_L_there_0 : List ak_I := [(0, .iload_n 2, 2, 0, 0, []), (1, .ifCond .ne 13, 14, 0, 0, []), (4, .aload_n 0, 0, 0, 0, []), (5, .getfield 19, 0, 1, 0, [(0, 146)]), (8, .iload_n 1, 1, 0, 0, []), (9, .iconst 1, 0, 0, 1, []), (10, .invokevirtual 71, 0, 2, 0, [(0, 2)]), (13, .ireturn, 0, 1, 0, [])]
def bk_L_there_14 : List ak_I := [(14, .iload_n 2, 2, 0, 0, []), (15, .iconst 1, 0, 0, 1, []), (16, .if_icmp .ne 19, 35, 0, 0, []), (19, .aload_n 0, 0, 0, 0, []), (20, .getfield 19, 0, 1, 0, [(0, 146)]), (23, .iload_n 1, 1, 0, 0, []), (24, .iconst 2, 0, 0, 2, []), (25, .invokevirtual 71, 0, 2, 0, [(0, 2)]), (28, .ifCond .eq 7, 35, 0, 0, []), (31, .iconst 1, 0, 0, 1, []), (32, .goto 4, 36, 0, 0, [])]
def bk_L_there_35 : List ak_I := [(35, .iconst 0, 0, 0, 0, []), (36, .ireturn, 0, 1, 0, [])]
def bk_L_there_36 : List ak_I := [(36, .ireturn, 0, 1, 0, [])]
def bl_L_there : List (Nat × List ak_I) := [(0, bk_L_there_0), (14, bk_L_there_14), (35, bk_L_there_35), (36, bk_L_there_36)]
def rg_L_there : List (Nat × Nat × Nat) := [(71, 2, 2)]
theorem ok_L_there : ak_okM prog_1_method_8_code ws_L_there y_L_there.cls cl_all 3 (some .boolean) rg_L_there bl_L_there = true := by decide +kernel
def ws_L_child : List Cond := .code y_L_child prog_1_method_9_code 4 (some .int) :: wd_tbl
def rm_L_child : Room := { frames := 2, cells := 0, slots := 0, locals := 49 }
def bk_L_child_0 : List ak_I := [(0, .aload_n 0, 0, 0, 0, []), (1, .getfield 19, 0, 1, 0, [(0, 146)]), (4, .iload_n 1, 1, 0, 0, []), (5, .invokevirtual 77, 0, 1, 0, [(0, 2)]), (8, .ifCond .eq 7, 15, 0, 0, []), (11, .iload_n 3, 3, 0, 0, []), (12, .ifCond .ge 5, 17, 0, 0, []), (15, .iconst 0, 0, 0, 0, []), (16, .ireturn, 0, 0, 0, [])]
def bk_L_child_15 : List ak_I := [(15, .iconst 0, 0, 0, 0, []), (16, .ireturn, 0, 0, 0, [])]
def bk_L_child_17 : List ak_I := [(17, .iload_n 2, 2, 0, 0, []), (18, .ifCond .ne 10, 28, 0, 0, []), (21, .aload_n 0, 0, 0, 0, []), (22, .iload_n 1, 1, 0, 0, []), (23, .iload_n 3, 3, 0, 0, []), (24, .invokevirtual 100, 1, 2, 0, [(0, 0)]), (27, .ireturn, 0, 0, 0, [])]
def bk_L_child_28 : List ak_I := [(28, .iload_n 2, 2, 0, 0, []), (29, .iconst 1, 0, 0, 1, []), (30, .if_icmp .ne 15, 45, 0, 0, []), (33, .aload_n 0, 0, 0, 0, []), (34, .getfield 19, 0, 1, 0, [(0, 146)]), (37, .iload_n 1, 1, 0, 0, []), (38, .iload_n 3, 3, 0, 0, []), (39, .invokevirtual 104, 2, 2, 0, [(0, 2)]), (42, .goto 4, 46, 0, 0, [])]
def bk_L_child_45 : List ak_I := [(45, .iconst 0, 0, 0, 0, []), (46, .ireturn, 0, 0, 0, [])]
def bk_L_child_46 : List ak_I := [(46, .ireturn, 0, 0, 0, [])]
def bl_L_child : List (Nat × List ak_I) := [(0, bk_L_child_0), (15, bk_L_child_15), (17, bk_L_child_17), (28, bk_L_child_28), (45, bk_L_child_45), (46, bk_L_child_46)]
def rg_L_child : List (Nat × Nat × Nat) := [(77, 1, 2), (100, 2, 0), (104, 2, 2)]
theorem ok_L_child : ak_okM prog_1_method_9_code ws_L_child y_L_child.cls cl_all 4 (some .int) rg_L_child bl_L_child = true := by decide +kernel
def ws_L_count : List Cond := .code y_L_count prog_1_method_11_code 2 (some .int) :: wd_tbl
def rm_L_count : Room := { frames := 1, cells := 0, slots := 0, locals := 21 }
def bk_L_count_0 : List ak_I := [(0, .aload_n 0, 0, 0, 0, []), (1, .getfield 19, 0, 1, 0, [(0, 146)]), (4, .iload_n 1, 1, 0, 0, []), (5, .invokevirtual 77, 0, 1, 0, [(0, 2)]), (8, .ifCond .eq 15, 23, 0, 0, []), (11, .aload_n 0, 0, 0, 0, []), (12, .getfield 19, 0, 1, 0, [(0, 146)]), (15, .getfield 116, 2, 6, 0, [(0, 79)]), (18, .iload_n 1, 1, 0, 0, []), (19, .iaload, 0, 0, 0, []), (20, .goto 5, 25, 0, 0, [])]
def bk_L_count_23 : List ak_I := [(23, .bipush (-2), 0, 0, (-2), []), (25, .ireturn, 0, 0, 0, [])]
def bk_L_count_25 : List ak_I := [(25, .ireturn, 0, 0, 0, [])]
def bl_L_count : List (Nat × List ak_I) := [(0, bk_L_count_0), (23, bk_L_count_23), (25, bk_L_count_25)]
def rg_L_count : List (Nat × Nat × Nat) := [(77, 1, 2)]
theorem ok_L_count : ak_okM prog_1_method_11_code ws_L_count y_L_count.cls cl_all 2 (some .int) rg_L_count bl_L_count = true := by decide +kernel
def ws_L_index : List Cond := .code y_L_index prog_1_method_12_code 3 (some .int) :: wd_tbl
def rm_L_index : Room := { frames := 1, cells := 0, slots := 0, locals := 22 }
def bk_L_index_0 : List ak_I := [(0, .aload_n 0, 0, 0, 0, []), (1, .getfield 10, 0, 0, 0, [(0, 145)]), (4, .iload_n 1, 1, 0, 0, []), (5, .invokevirtual 39, 0, 1, 0, [(0, 1)]), (8, .ifCond .ne 6, 14, 0, 0, []), (11, .bipush (-2), 0, 0, (-2), []), (13, .ireturn, 0, 0, 0, [])]
def bk_L_index_14 : List ak_I := [(14, .aload_n 0, 0, 0, 0, []), (15, .getfield 26, 0, 2, 0, [(0, 147)]), (18, .iload_n 1, 1, 0, 0, []), (19, .iload_n 2, 2, 0, 0, []), (20, .invokevirtual 119, 1, 2, 0, [(0, 3)]), (23, .ireturn, 0, 0, 0, [])]
def bl_L_index : List (Nat × List ak_I) := [(0, bk_L_index_0), (14, bk_L_index_14)]
def rg_L_index : List (Nat × Nat × Nat) := [(39, 1, 1), (119, 2, 3)]
theorem ok_L_index : ak_okM prog_1_method_12_code ws_L_index y_L_index.cls cl_all 3 (some .int) rg_L_index bl_L_index = true := by decide +kernel
def ws_L_entry : List Cond := .code y_L_entry prog_1_method_13_code 6 (some .int) :: wd_tbl
def rm_L_entry : Room := { frames := 3, cells := 0, slots := 0, locals := 65 }
def bk_L_entry_0 : List ak_I := [(0, .aload_n 0, 0, 0, 0, []), (1, .getfield 26, 0, 2, 0, [(0, 147)]), (4, .iload_n 1, 1, 0, 0, []), (5, .invokevirtual 122, 0, 1, 0, [(0, 3)]), (8, .ifCond .eq 7, 15, 0, 0, []), (11, .iload_n 2, 2, 0, 0, []), (12, .ifCond .ge 5, 17, 0, 0, []), (15, .iconst 0, 0, 0, 0, []), (16, .ireturn, 0, 0, 0, [])]
def bk_L_entry_15 : List ak_I := [(15, .iconst 0, 0, 0, 0, []), (16, .ireturn, 0, 0, 0, [])]
def bk_L_entry_17 : List ak_I := [(17, .iload_n 2, 2, 0, 0, []), (18, .istore_n 3, 3, 0, 0, []), (19, .iconst 0, 0, 0, 0, []), (20, .istore 4, 4, 0, 0, []), (22, .nop, 0, 0, 0, [])]
def bk_L_entry_22 : List ak_I := [(22, .iload 4, 4, 0, 0, []), (24, .aload_n 0, 0, 0, 0, []), (25, .getfield 19, 0, 1, 0, [(0, 146)]), (28, .getfield 108, 2, 0, 0, [(0, 66)]), (31, .if_icmp .ge 41, 72, 0, 0, []), (34, .aload_n 0, 0, 0, 0, []), (35, .getfield 19, 0, 1, 0, [(0, 146)]), (38, .getfield 109, 2, 8, 0, [(0, 82)]), (41, .iload 4, 4, 0, 0, []), (43, .iaload, 0, 0, 0, []), (44, .istore 5, 5, 0, 0, []), (46, .aload_n 0, 0, 0, 0, []), (47, .iload_n 1, 1, 0, 0, []), (48, .iload 5, 5, 0, 0, []), (50, .invokevirtual 123, 1, 2, 0, [(0, 0)]), (53, .ifCond .eq 13, 66, 0, 0, []), (56, .iload_n 3, 3, 0, 0, []), (57, .iinc 3 (-1), 3, 0, (-1), []), (60, .ifCond .ne 6, 66, 0, 0, []), (63, .iload 5, 5, 0, 0, []), (65, .ireturn, 0, 0, 0, [])]
def bk_L_entry_66 : List ak_I := [(66, .iinc 4 1, 4, 0, 1, []), (69, .goto (-47), 22, 1, 0, [])]
def bk_L_entry_72 : List ak_I := [(72, .iconst 0, 0, 0, 0, []), (73, .ireturn, 0, 0, 0, [])]
def bl_L_entry : List (Nat × List ak_I) := [(0, bk_L_entry_0), (15, bk_L_entry_15), (17, bk_L_entry_17), (22, bk_L_entry_22), (66, bk_L_entry_66), (72, bk_L_entry_72)]
def rg_L_entry : List (Nat × Nat × Nat) := [(122, 1, 3), (123, 2, 0)]
theorem ok_L_entry : ak_okM prog_1_method_13_code ws_L_entry y_L_entry.cls cl_all 6 (some .int) rg_L_entry bl_L_entry = true := by decide +kernel
def ws_L_poke : List Cond := .code y_L_poke prog_1_method_15_code 4 (some .int) :: wd_tbl
def rm_L_poke : Room := { frames := 2, cells := 0, slots := 0, locals := 43 }
def bk_L_poke_0 : List ak_I := [(0, .aload_n 0, 0, 0, 0, []), (1, .getfield 19, 0, 1, 0, [(0, 146)]), (4, .iload_n 1, 1, 0, 0, []), (5, .invokevirtual 77, 0, 1, 0, [(0, 2)]), (8, .ifCond .ne 6, 14, 0, 0, []), (11, .bipush (-2), 0, 0, (-2), []), (13, .ireturn, 0, 0, 0, [])]
def bk_L_poke_14 : List ak_I := [(14, .iload_n 2, 2, 0, 0, []), (15, .ifCond .lt 8, 23, 0, 0, []), (18, .iload_n 2, 2, 0, 0, []), (19, .iconst 3, 0, 0, 3, []), (20, .if_icmp .lt 6, 26, 0, 0, []), (23, .bipush (-4), 0, 0, (-4), []), (25, .ireturn, 0, 0, 0, [])]
def bk_L_poke_23 : List ak_I := [(23, .bipush (-4), 0, 0, (-4), []), (25, .ireturn, 0, 0, 0, [])]
def bk_L_poke_26 : List ak_I := [(26, .aload_n 0, 0, 0, 0, []), (27, .getfield 19, 0, 1, 0, [(0, 146)]), (30, .iload_n 1, 1, 0, 0, []), (31, .iconst 0, 0, 0, 0, []), (32, .invokevirtual 71, 1, 2, 0, [(0, 2)]), (35, .ifCond .eq 6, 41, 0, 0, []), (38, .bipush (-5), 0, 0, (-5), []), (40, .ireturn, 0, 0, 0, [])]
def bk_L_poke_41 : List ak_I := [(41, .aload_n 0, 0, 0, 0, []), (42, .getfield 19, 0, 1, 0, [(0, 146)]), (45, .iload_n 1, 1, 0, 0, []), (46, .iload_n 2, 2, 0, 0, []), (47, .iload_n 3, 3, 0, 0, []), (48, .invokevirtual 135, 2, 3, 0, [(0, 2)]), (51, .ireturn, 0, 0, 0, [])]
def bl_L_poke : List (Nat × List ak_I) := [(0, bk_L_poke_0), (14, bk_L_poke_14), (23, bk_L_poke_23), (26, bk_L_poke_26), (41, bk_L_poke_41)]
def rg_L_poke : List (Nat × Nat × Nat) := [(77, 1, 2), (71, 2, 2), (135, 3, 2)]
theorem ok_L_poke : ak_okM prog_1_method_15_code ws_L_poke y_L_poke.cls cl_all 4 (some .int) rg_L_poke bl_L_poke = true := by decide +kernel
def ws_L_check : List Cond := .code y_L_check prog_1_method_16_code 3 (some .int) :: wd_tbl
def rm_L_check : Room := { frames := 2, cells := 0, slots := 0, locals := 45 }
def bk_L_check_0 : List ak_I := [(0, .iconst 0, 0, 0, 0, []), (1, .istore_n 1, 1, 0, 0, []), (2, .iconst 1, 0, 0, 1, []), (3, .istore_n 2, 2, 0, 0, []), (4, .nop, 0, 0, 0, [])]
def bk_L_check_4 : List ak_I := [(4, .iload_n 2, 2, 0, 0, []), (5, .aload_n 0, 0, 0, 0, []), (6, .getfield 19, 0, 1, 0, [(0, 146)]), (9, .getfield 108, 2, 0, 0, [(0, 66)]), (12, .if_icmp .gt 20, 32, 0, 0, []), (15, .iload_n 1, 1, 0, 0, []), (16, .aload_n 0, 0, 0, 0, []), (17, .getfield 19, 0, 1, 0, [(0, 146)]), (20, .iload_n 2, 2, 0, 0, []), (21, .invokevirtual 139, 0, 1, 0, [(0, 2)]), (24, .iadd, 0, 0, 0, []), (25, .istore_n 1, 1, 0, 0, []), (26, .iinc 2 1, 2, 0, 1, []), (29, .goto (-25), 4, 1, 0, [])]
def bk_L_check_32 : List ak_I := [(32, .iload_n 1, 1, 0, 0, []), (33, .ireturn, 0, 0, 0, [])]
def bl_L_check : List (Nat × List ak_I) := [(0, bk_L_check_0), (4, bk_L_check_4), (32, bk_L_check_32)]
def rg_L_check : List (Nat × Nat × Nat) := [(139, 1, 2)]
theorem ok_L_check : ak_okM prog_1_method_16_code ws_L_check y_L_check.cls cl_all 3 (some .int) rg_L_check bl_L_check = true := by decide +kernel
def ws_L_broken : List Cond := .code y_L_broken prog_1_method_17_code 4 (some .int) :: wd_tbl
def rm_L_broken : Room := { frames := 2, cells := 0, slots := 0, locals := 45 }
def bk_L_broken_0 : List ak_I := [(0, .iload_n 1, 1, 0, 0, []), (1, .ifCond .ge 5, 6, 0, 0, []), (4, .iconst 0, 0, 0, 0, []), (5, .ireturn, 0, 0, 0, [])]
def bk_L_broken_6 : List ak_I := [(6, .iload_n 1, 1, 0, 0, []), (7, .istore_n 2, 2, 0, 0, []), (8, .iconst 1, 0, 0, 1, []), (9, .istore_n 3, 3, 0, 0, []), (10, .nop, 0, 0, 0, [])]
def bk_L_broken_10 : List ak_I := [(10, .iload_n 3, 3, 0, 0, []), (11, .aload_n 0, 0, 0, 0, []), (12, .getfield 19, 0, 1, 0, [(0, 146)]), (15, .getfield 108, 2, 0, 0, [(0, 66)]), (18, .if_icmp .gt 26, 44, 0, 0, []), (21, .iload_n 2, 2, 0, 0, []), (22, .aload_n 0, 0, 0, 0, []), (23, .getfield 19, 0, 1, 0, [(0, 146)]), (26, .iload_n 3, 3, 0, 0, []), (27, .invokevirtual 139, 0, 1, 0, [(0, 2)]), (30, .isub, 0, 0, 0, []), (31, .istore_n 2, 2, 0, 0, []), (32, .iload_n 2, 2, 0, 0, []), (33, .ifCond .ge 5, 38, 0, 0, []), (36, .iload_n 3, 3, 0, 0, []), (37, .ireturn, 0, 0, 0, [])]
def bk_L_broken_38 : List ak_I := [(38, .iinc 3 1, 3, 0, 1, []), (41, .goto (-31), 10, 1, 0, [])]
def bk_L_broken_44 : List ak_I := [(44, .iconst 0, 0, 0, 0, []), (45, .ireturn, 0, 0, 0, [])]
def bl_L_broken : List (Nat × List ak_I) := [(0, bk_L_broken_0), (6, bk_L_broken_6), (10, bk_L_broken_10), (38, bk_L_broken_38), (44, bk_L_broken_44)]
def rg_L_broken : List (Nat × Nat × Nat) := [(139, 1, 2)]
theorem ok_L_broken : ak_okM prog_1_method_17_code ws_L_broken y_L_broken.cls cl_all 4 (some .int) rg_L_broken bl_L_broken = true := by decide +kernel
def ws_L_told : List Cond := .code y_L_told prog_1_method_18_code 2 (some .int) :: wd_tbl
def rm_L_told : Room := { frames := 1, cells := 0, slots := 0, locals := 23 }
def bk_L_told_0 : List ak_I := [(0, .iload_n 1, 1, 0, 0, []), (1, .tableswitch 89 0 5 #[39, 47, 55, 64, 73, 81], 90, 0, 0, [(0, 40), (1, 48), (2, 56), (3, 65), (4, 74), (5, 82)])]
def bk_L_told_40 : List ak_I := [(40, .aload_n 0, 0, 0, 0, []), (41, .getfield 10, 0, 0, 0, [(0, 145)]), (44, .getfield 107, 1, 0, 0, [(0, 41)]), (47, .ireturn, 0, 0, 0, [])]
def bk_L_told_48 : List ak_I := [(48, .aload_n 0, 0, 0, 0, []), (49, .getfield 19, 0, 1, 0, [(0, 146)]), (52, .getfield 108, 2, 0, 0, [(0, 66)]), (55, .ireturn, 0, 0, 0, [])]
def bk_L_told_56 : List ak_I := [(56, .aload_n 0, 0, 0, 0, []), (57, .getfield 19, 0, 1, 0, [(0, 146)]), (60, .iconst 1, 0, 0, 1, []), (61, .invokevirtual 142, 0, 1, 0, [(0, 2)]), (64, .ireturn, 0, 0, 0, [])]
def bk_L_told_65 : List ak_I := [(65, .aload_n 0, 0, 0, 0, []), (66, .getfield 19, 0, 1, 0, [(0, 146)]), (69, .iconst 2, 0, 0, 2, []), (70, .invokevirtual 142, 0, 1, 0, [(0, 2)]), (73, .ireturn, 0, 0, 0, [])]
def bk_L_told_74 : List ak_I := [(74, .aload_n 0, 0, 0, 0, []), (75, .getfield 19, 0, 1, 0, [(0, 146)]), (78, .invokevirtual 145, 1, 0, 0, [(0, 2)]), (81, .ireturn, 0, 0, 0, [])]
def bk_L_told_82 : List ak_I := [(82, .aload_n 0, 0, 0, 0, []), (83, .getfield 26, 0, 2, 0, [(0, 147)]), (86, .getfield 149, 3, 0, 0, [(0, 109)]), (89, .ireturn, 0, 0, 0, [])]
def bk_L_told_90 : List ak_I := [(90, .iconst (-1), 0, 0, (-1), []), (91, .ireturn, 0, 0, 0, [])]
def bl_L_told : List (Nat × List ak_I) := [(0, bk_L_told_0), (40, bk_L_told_40), (48, bk_L_told_48), (56, bk_L_told_56), (65, bk_L_told_65), (74, bk_L_told_74), (82, bk_L_told_82), (90, bk_L_told_90)]
def rg_L_told : List (Nat × Nat × Nat) := [(142, 1, 2), (145, 0, 2)]
theorem ok_L_told : ak_okM prog_1_method_18_code ws_L_told y_L_told.cls cl_all 2 (some .int) rg_L_told bl_L_told = true := by decide +kernel
