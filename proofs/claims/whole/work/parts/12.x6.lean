set_option maxRecDepth 20000 in
theorem ggX6_init_X3_init : GoodIn wsX6_init wsX3_init := goodIn_r _ [29, 30, 2, 3, 31, 32, 33, 34, 35, 36, 37, 38, 39, 90, 91, 92, 93, 94, 95] (by decide +kernel) (by decide +kernel)
set_option maxRecDepth 20000 in
theorem gX6_init_X3_init_n9 : GoodIn wsX6_init (wsX3_init) := ggX6_init_X3_init
set_option maxRecDepth 20000 in
theorem ggX6_init_X1_init : GoodIn wsX6_init wsX1_init := goodIn_r _ [41, 42, 2, 3, 43, 44, 45, 32, 46, 47, 48, 49, 50, 102, 103, 104, 105, 106, 107, 108] (by decide +kernel) (by decide +kernel)
set_option maxRecDepth 20000 in
theorem gX6_init_X1_init_n18 : GoodIn wsX6_init (wsX1_init) := ggX6_init_X1_init
set_option maxRecDepth 20000 in
theorem ggX6_init_X5_init : GoodIn wsX6_init wsX5_init := goodIn_r _ [52, 53, 2, 3, 32, 54, 55, 56, 57, 58, 59, 109, 110, 111, 112, 113, 114] (by decide +kernel) (by decide +kernel)
set_option maxRecDepth 20000 in
theorem gX6_init_X5_init_n25 : GoodIn wsX6_init (wsX5_init) := ggX6_init_X5_init
set_option maxRecDepth 20000 in
theorem ggX6_init_X0_init : GoodIn wsX6_init wsX0_init := goodIn_r _ [62, 63, 2, 3, 32, 64, 65, 66, 67, 68, 69, 70, 71, 115, 116, 117, 118, 119, 120, 121] (by decide +kernel) (by decide +kernel)
set_option maxRecDepth 20000 in
theorem gX6_init_X0_init : GoodIn wsX6_init (wsX0_init) := ggX6_init_X0_init
set_option maxRecDepth 20000 in
theorem ggX6_init_X2_init : GoodIn wsX6_init wsX2_init := goodIn_r _ [73, 74, 2, 3, 32, 75, 76, 77, 122, 123, 124] (by decide +kernel) (by decide +kernel)
set_option maxRecDepth 20000 in
theorem gX6_init_X2_init_n41 : GoodIn wsX6_init (wsX2_init) := ggX6_init_X2_init
set_option maxRecDepth 20000 in
theorem ggX6_init_X4_init : GoodIn wsX6_init wsX4_init := goodIn_r _ [79, 80, 2, 3, 43, 81, 82, 83, 84, 85, 86, 87, 88, 89, 125, 126, 127, 128, 129, 130, 131, 132, 133] (by decide +kernel) (by decide +kernel)
set_option maxRecDepth 20000 in
theorem gX6_init_X4_init_n48 : GoodIn wsX6_init (wsX4_init) := ggX6_init_X4_init
theorem dX6_init_0 : decode cX6_init 0 = .ok (.aload_n 0, 1) := by decide +kernel
theorem dX6_init_1 : decode cX6_init 1 = .ok (.invokespecial 1, 3) := by decide +kernel
theorem dX6_init_4 : decode cX6_init 4 = .ok (.aload_n 0, 1) := by decide +kernel
theorem dX6_init_5 : decode cX6_init 5 = .ok (.new 7, 3) := by decide +kernel
theorem dX6_init_8 : decode cX6_init 8 = .ok (.dup, 1) := by decide +kernel
theorem dX6_init_9 : decode cX6_init 9 = .ok (.invokespecial 9, 3) := by decide +kernel
theorem dX6_init_12 : decode cX6_init 12 = .ok (.putfield 10, 3) := by decide +kernel
theorem dX6_init_15 : decode cX6_init 15 = .ok (.aload_n 0, 1) := by decide +kernel
theorem dX6_init_16 : decode cX6_init 16 = .ok (.new 16, 3) := by decide +kernel
theorem dX6_init_19 : decode cX6_init 19 = .ok (.dup, 1) := by decide +kernel
theorem dX6_init_20 : decode cX6_init 20 = .ok (.invokespecial 18, 3) := by decide +kernel
theorem dX6_init_23 : decode cX6_init 23 = .ok (.putfield 19, 3) := by decide +kernel
theorem dX6_init_26 : decode cX6_init 26 = .ok (.aload_n 0, 1) := by decide +kernel
theorem dX6_init_27 : decode cX6_init 27 = .ok (.new 23, 3) := by decide +kernel
theorem dX6_init_30 : decode cX6_init 30 = .ok (.dup, 1) := by decide +kernel
theorem dX6_init_31 : decode cX6_init 31 = .ok (.invokespecial 25, 3) := by decide +kernel
theorem dX6_init_34 : decode cX6_init 34 = .ok (.putfield 26, 3) := by decide +kernel
theorem dX6_init_37 : decode cX6_init 37 = .ok (.aload_n 0, 1) := by decide +kernel
theorem dX6_init_38 : decode cX6_init 38 = .ok (.new 30, 3) := by decide +kernel
theorem dX6_init_41 : decode cX6_init 41 = .ok (.dup, 1) := by decide +kernel
theorem dX6_init_42 : decode cX6_init 42 = .ok (.aload_n 0, 1) := by decide +kernel
theorem dX6_init_43 : decode cX6_init 43 = .ok (.getfield 10, 3) := by decide +kernel
theorem dX6_init_46 : decode cX6_init 46 = .ok (.aload_n 0, 1) := by decide +kernel
theorem dX6_init_47 : decode cX6_init 47 = .ok (.getfield 19, 3) := by decide +kernel
theorem dX6_init_50 : decode cX6_init 50 = .ok (.aload_n 0, 1) := by decide +kernel
theorem dX6_init_51 : decode cX6_init 51 = .ok (.getfield 26, 3) := by decide +kernel
theorem dX6_init_54 : decode cX6_init 54 = .ok (.invokespecial 32, 3) := by decide +kernel
theorem dX6_init_57 : decode cX6_init 57 = .ok (.putfield 35, 3) := by decide +kernel
theorem dX6_init_60 : decode cX6_init 60 = .ok (.aload_n 0, 1) := by decide +kernel
theorem dX6_init_61 : decode cX6_init 61 = .ok (.new 39, 3) := by decide +kernel
theorem dX6_init_64 : decode cX6_init 64 = .ok (.dup, 1) := by decide +kernel
theorem dX6_init_65 : decode cX6_init 65 = .ok (.invokespecial 41, 3) := by decide +kernel
theorem dX6_init_68 : decode cX6_init 68 = .ok (.putfield 42, 3) := by decide +kernel
theorem dX6_init_71 : decode cX6_init 71 = .ok (.aload_n 0, 1) := by decide +kernel
theorem dX6_init_72 : decode cX6_init 72 = .ok (.new 46, 3) := by decide +kernel
theorem dX6_init_75 : decode cX6_init 75 = .ok (.dup, 1) := by decide +kernel
theorem dX6_init_76 : decode cX6_init 76 = .ok (.invokespecial 48, 3) := by decide +kernel
theorem dX6_init_79 : decode cX6_init 79 = .ok (.putfield 49, 3) := by decide +kernel
theorem dX6_init_82 : decode cX6_init 82 = .ok (.return_, 1) := by decide +kernel
set_option maxRecDepth 20000 in
theorem ggX6_node_X6_isPlace : GoodIn wsX6_node wsX6_isPlace := goodIn_r _ [6, 7, 8, 9, 10, 5, 11] (by decide +kernel) (by decide +kernel)
set_option maxRecDepth 20000 in
theorem gX6_node_X6_isPlace : GoodIn wsX6_node (va_wsS RX6 57 yX6_isPlace wsX6_isPlace) := goodIn_app (goodIn_of _ (by decide +kernel)) ggX6_node_X6_isPlace
set_option maxRecDepth 20000 in
theorem ggX6_node_X3_add : GoodIn wsX6_node wsX3_add := goodIn_r _ [16, 17, 18, 25, 26, 27, 28, 29, 30] (by decide +kernel) (by decide +kernel)
set_option maxRecDepth 20000 in
theorem gX6_node_X3_add : GoodIn wsX6_node (wsV RX6 61 RX3 yX3_add wsX3_add) := goodIn_app (goodIn_of _ (by decide +kernel)) ggX6_node_X3_add
theorem dX6_node_0 : decode cX6_node 0 = .ok (.aload_n 0, 1) := by decide +kernel
theorem dX6_node_1 : decode cX6_node 1 = .ok (.getfield 10, 3) := by decide +kernel
theorem dX6_node_4 : decode cX6_node 4 = .ok (.getfield 53, 3) := by decide +kernel
theorem dX6_node_7 : decode cX6_node 7 = .ok (.bipush 30, 2) := by decide +kernel
theorem dX6_node_9 : decode cX6_node 9 = .ok (.if_icmp .ge 25, 3) := by decide +kernel
theorem dX6_node_12 : decode cX6_node 12 = .ok (.dload_n 1, 1) := by decide +kernel
theorem dX6_node_13 : decode cX6_node 13 = .ok (.invokestatic 57, 3) := by decide +kernel
theorem dX6_node_16 : decode cX6_node 16 = .ok (.ifCond .eq 18, 3) := by decide +kernel
theorem dX6_node_19 : decode cX6_node 19 = .ok (.dload_n 3, 1) := by decide +kernel
theorem dX6_node_20 : decode cX6_node 20 = .ok (.invokestatic 57, 3) := by decide +kernel
theorem dX6_node_23 : decode cX6_node 23 = .ok (.ifCond .eq 11, 3) := by decide +kernel
theorem dX6_node_26 : decode cX6_node 26 = .ok (.dload 5, 2) := by decide +kernel
theorem dX6_node_28 : decode cX6_node 28 = .ok (.invokestatic 57, 3) := by decide +kernel
theorem dX6_node_31 : decode cX6_node 31 = .ok (.ifCond .ne 5, 3) := by decide +kernel
theorem dX6_node_34 : decode cX6_node 34 = .ok (.iconst (-1), 1) := by decide +kernel
theorem dX6_node_35 : decode cX6_node 35 = .ok (.ireturn, 1) := by decide +kernel
theorem dX6_node_36 : decode cX6_node 36 = .ok (.aload_n 0, 1) := by decide +kernel
theorem dX6_node_37 : decode cX6_node 37 = .ok (.getfield 10, 3) := by decide +kernel
theorem dX6_node_40 : decode cX6_node 40 = .ok (.dload_n 1, 1) := by decide +kernel
theorem dX6_node_41 : decode cX6_node 41 = .ok (.dload_n 3, 1) := by decide +kernel
theorem dX6_node_42 : decode cX6_node 42 = .ok (.dload 5, 2) := by decide +kernel
theorem dX6_node_44 : decode cX6_node 44 = .ok (.invokevirtual 61, 3) := by decide +kernel
theorem dX6_node_47 : decode cX6_node 47 = .ok (.ireturn, 1) := by decide +kernel
set_option maxRecDepth 20000 in
theorem ggX6_bar_X3_has : GoodIn wsX6_bar wsX3_has := goodIn_r _ [12, 13, 44, 45, 46, 47, 48, 49] (by decide +kernel) (by decide +kernel)
set_option maxRecDepth 20000 in
theorem gX6_bar_X3_has : GoodIn wsX6_bar (wsV RX6 65 RX3 yX3_has wsX3_has) := goodIn_app (goodIn_of _ (by decide +kernel)) ggX6_bar_X3_has
set_option maxRecDepth 20000 in
theorem ggX6_bar_X6_within : GoodIn wsX6_bar wsX6_within := goodIn_r _ [17] (by decide +kernel) (by decide +kernel)
set_option maxRecDepth 20000 in
theorem gX6_bar_X6_within : GoodIn wsX6_bar (va_wsS RX6 74 yX6_within wsX6_within) := goodIn_app (goodIn_of _ (by decide +kernel)) ggX6_bar_X6_within
set_option maxRecDepth 20000 in
theorem ggX6_bar_X1_add : GoodIn wsX6_bar wsX1_add := goodIn_r _ [22, 23, 24, 25, 26, 27, 28, 29, 30, 37, 38, 39, 40, 41, 42, 43] (by decide +kernel) (by decide +kernel)
set_option maxRecDepth 20000 in
theorem gX6_bar_X1_add : GoodIn wsX6_bar (wsV RX6 82 RX1 yX1_add wsX1_add) := goodIn_app (goodIn_of _ (by decide +kernel)) ggX6_bar_X1_add
theorem dX6_bar_0 : decode cX6_bar 0 = .ok (.aload_n 0, 1) := by decide +kernel
theorem dX6_bar_1 : decode cX6_bar 1 = .ok (.getfield 10, 3) := by decide +kernel
theorem dX6_bar_4 : decode cX6_bar 4 = .ok (.iload_n 1, 1) := by decide +kernel
theorem dX6_bar_5 : decode cX6_bar 5 = .ok (.invokevirtual 65, 3) := by decide +kernel
theorem dX6_bar_8 : decode cX6_bar 8 = .ok (.ifCond .eq 31, 3) := by decide +kernel
theorem dX6_bar_11 : decode cX6_bar 11 = .ok (.aload_n 0, 1) := by decide +kernel
theorem dX6_bar_12 : decode cX6_bar 12 = .ok (.getfield 10, 3) := by decide +kernel
theorem dX6_bar_15 : decode cX6_bar 15 = .ok (.iload_n 2, 1) := by decide +kernel
theorem dX6_bar_16 : decode cX6_bar 16 = .ok (.invokevirtual 65, 3) := by decide +kernel
theorem dX6_bar_19 : decode cX6_bar 19 = .ok (.ifCond .eq 20, 3) := by decide +kernel
theorem dX6_bar_22 : decode cX6_bar 22 = .ok (.iload_n 1, 1) := by decide +kernel
theorem dX6_bar_23 : decode cX6_bar 23 = .ok (.iload_n 2, 1) := by decide +kernel
theorem dX6_bar_24 : decode cX6_bar 24 = .ok (.if_icmp .eq 15, 3) := by decide +kernel
theorem dX6_bar_27 : decode cX6_bar 27 = .ok (.aload_n 0, 1) := by decide +kernel
theorem dX6_bar_28 : decode cX6_bar 28 = .ok (.getfield 19, 3) := by decide +kernel
theorem dX6_bar_31 : decode cX6_bar 31 = .ok (.getfield 69, 3) := by decide +kernel
theorem dX6_bar_34 : decode cX6_bar 34 = .ok (.bipush 60, 2) := by decide +kernel
theorem dX6_bar_36 : decode cX6_bar 36 = .ok (.if_icmp .lt 5, 3) := by decide +kernel
theorem dX6_bar_39 : decode cX6_bar 39 = .ok (.iconst (-1), 1) := by decide +kernel
theorem dX6_bar_40 : decode cX6_bar 40 = .ok (.ireturn, 1) := by decide +kernel
theorem dX6_bar_41 : decode cX6_bar 41 = .ok (.dload_n 3, 1) := by decide +kernel
theorem dX6_bar_42 : decode cX6_bar 42 = .ok (.ldc2_w 70, 3) := by decide +kernel
theorem dX6_bar_45 : decode cX6_bar 45 = .ok (.ldc2_w 72, 3) := by decide +kernel
theorem dX6_bar_48 : decode cX6_bar 48 = .ok (.invokestatic 74, 3) := by decide +kernel
theorem dX6_bar_51 : decode cX6_bar 51 = .ok (.ifCond .eq 27, 3) := by decide +kernel
theorem dX6_bar_54 : decode cX6_bar 54 = .ok (.dload 5, 2) := by decide +kernel
theorem dX6_bar_56 : decode cX6_bar 56 = .ok (.dconst 0, 1) := by decide +kernel
theorem dX6_bar_57 : decode cX6_bar 57 = .ok (.ldc2_w 78, 3) := by decide +kernel
theorem dX6_bar_60 : decode cX6_bar 60 = .ok (.invokestatic 74, 3) := by decide +kernel
theorem dX6_bar_63 : decode cX6_bar 63 = .ok (.ifCond .eq 15, 3) := by decide +kernel
theorem dX6_bar_66 : decode cX6_bar 66 = .ok (.dload 7, 2) := by decide +kernel
theorem dX6_bar_68 : decode cX6_bar 68 = .ok (.dconst 0, 1) := by decide +kernel
theorem dX6_bar_69 : decode cX6_bar 69 = .ok (.ldc2_w 80, 3) := by decide +kernel
theorem dX6_bar_72 : decode cX6_bar 72 = .ok (.invokestatic 74, 3) := by decide +kernel
theorem dX6_bar_75 : decode cX6_bar 75 = .ok (.ifCond .ne 5, 3) := by decide +kernel
theorem dX6_bar_78 : decode cX6_bar 78 = .ok (.iconst (-1), 1) := by decide +kernel
theorem dX6_bar_79 : decode cX6_bar 79 = .ok (.ireturn, 1) := by decide +kernel
theorem dX6_bar_80 : decode cX6_bar 80 = .ok (.aload_n 0, 1) := by decide +kernel
theorem dX6_bar_81 : decode cX6_bar 81 = .ok (.getfield 19, 3) := by decide +kernel
theorem dX6_bar_84 : decode cX6_bar 84 = .ok (.iload_n 1, 1) := by decide +kernel
theorem dX6_bar_85 : decode cX6_bar 85 = .ok (.iload_n 2, 1) := by decide +kernel
theorem dX6_bar_86 : decode cX6_bar 86 = .ok (.dload_n 3, 1) := by decide +kernel
theorem dX6_bar_87 : decode cX6_bar 87 = .ok (.dload 5, 2) := by decide +kernel
theorem dX6_bar_89 : decode cX6_bar 89 = .ok (.dload 7, 2) := by decide +kernel
theorem dX6_bar_91 : decode cX6_bar 91 = .ok (.invokevirtual 82, 3) := by decide +kernel
theorem dX6_bar_94 : decode cX6_bar 94 = .ok (.ireturn, 1) := by decide +kernel
set_option maxRecDepth 20000 in
theorem ggX6_fix_X3_has : GoodIn wsX6_fix wsX3_has := goodIn_r _ [7, 8, 15, 16, 17, 18, 19, 20] (by decide +kernel) (by decide +kernel)
set_option maxRecDepth 20000 in
theorem gX6_fix_X3_has : GoodIn wsX6_fix (wsV RX6 65 RX3 yX3_has wsX3_has) := goodIn_app (goodIn_of _ (by decide +kernel)) ggX6_fix_X3_has
theorem dX6_fix_0 : decode cX6_fix 0 = .ok (.aload_n 0, 1) := by decide +kernel
theorem dX6_fix_1 : decode cX6_fix 1 = .ok (.getfield 10, 3) := by decide +kernel
theorem dX6_fix_4 : decode cX6_fix 4 = .ok (.iload_n 1, 1) := by decide +kernel
theorem dX6_fix_5 : decode cX6_fix 5 = .ok (.invokevirtual 65, 3) := by decide +kernel
theorem dX6_fix_8 : decode cX6_fix 8 = .ok (.ifCond .ne 5, 3) := by decide +kernel
theorem dX6_fix_11 : decode cX6_fix 11 = .ok (.iconst 0, 1) := by decide +kernel
theorem dX6_fix_12 : decode cX6_fix 12 = .ok (.ireturn, 1) := by decide +kernel
theorem dX6_fix_13 : decode cX6_fix 13 = .ok (.aload_n 0, 1) := by decide +kernel
theorem dX6_fix_14 : decode cX6_fix 14 = .ok (.getfield 10, 3) := by decide +kernel
theorem dX6_fix_17 : decode cX6_fix 17 = .ok (.getfield 85, 3) := by decide +kernel
theorem dX6_fix_20 : decode cX6_fix 20 = .ok (.iload_n 1, 1) := by decide +kernel
theorem dX6_fix_21 : decode cX6_fix 21 = .ok (.iconst 1, 1) := by decide +kernel
theorem dX6_fix_22 : decode cX6_fix 22 = .ok (.bastore, 1) := by decide +kernel
theorem dX6_fix_23 : decode cX6_fix 23 = .ok (.iconst 1, 1) := by decide +kernel
theorem dX6_fix_24 : decode cX6_fix 24 = .ok (.ireturn, 1) := by decide +kernel
set_option maxRecDepth 20000 in
theorem ggX6_floats_X3_has : GoodIn wsX6_floats wsX3_has := goodIn_r _ [9, 10, 21, 22, 23, 24, 25, 26] (by decide +kernel) (by decide +kernel)
set_option maxRecDepth 20000 in
theorem gX6_floats_X3_has : GoodIn wsX6_floats (wsV RX6 65 RX3 yX3_has wsX3_has) := goodIn_app (goodIn_of _ (by decide +kernel)) ggX6_floats_X3_has
set_option maxRecDepth 20000 in
theorem ggX6_floats_X6_within : GoodIn wsX6_floats wsX6_within := goodIn_r _ [14] (by decide +kernel) (by decide +kernel)
set_option maxRecDepth 20000 in
theorem gX6_floats_X6_within : GoodIn wsX6_floats (va_wsS RX6 74 yX6_within wsX6_within) := goodIn_app (goodIn_of _ (by decide +kernel)) ggX6_floats_X6_within
theorem dX6_floats_0 : decode cX6_floats 0 = .ok (.aload_n 0, 1) := by decide +kernel
theorem dX6_floats_1 : decode cX6_floats 1 = .ok (.getfield 10, 3) := by decide +kernel
theorem dX6_floats_4 : decode cX6_floats 4 = .ok (.iload_n 1, 1) := by decide +kernel
theorem dX6_floats_5 : decode cX6_floats 5 = .ok (.invokevirtual 65, 3) := by decide +kernel
theorem dX6_floats_8 : decode cX6_floats 8 = .ok (.ifCond .eq 16, 3) := by decide +kernel
theorem dX6_floats_11 : decode cX6_floats 11 = .ok (.dload_n 2, 1) := by decide +kernel
theorem dX6_floats_12 : decode cX6_floats 12 = .ok (.ldc2_w 89, 3) := by decide +kernel
theorem dX6_floats_15 : decode cX6_floats 15 = .ok (.ldc2_w 91, 3) := by decide +kernel
theorem dX6_floats_18 : decode cX6_floats 18 = .ok (.invokestatic 74, 3) := by decide +kernel
theorem dX6_floats_21 : decode cX6_floats 21 = .ok (.ifCond .ne 5, 3) := by decide +kernel
theorem dX6_floats_24 : decode cX6_floats 24 = .ok (.iconst 0, 1) := by decide +kernel
theorem dX6_floats_25 : decode cX6_floats 25 = .ok (.ireturn, 1) := by decide +kernel
theorem dX6_floats_26 : decode cX6_floats 26 = .ok (.aload_n 0, 1) := by decide +kernel
theorem dX6_floats_27 : decode cX6_floats 27 = .ok (.getfield 10, 3) := by decide +kernel
theorem dX6_floats_30 : decode cX6_floats 30 = .ok (.getfield 93, 3) := by decide +kernel
theorem dX6_floats_33 : decode cX6_floats 33 = .ok (.iload_n 1, 1) := by decide +kernel
theorem dX6_floats_34 : decode cX6_floats 34 = .ok (.dload_n 2, 1) := by decide +kernel
theorem dX6_floats_35 : decode cX6_floats 35 = .ok (.dastore, 1) := by decide +kernel
theorem dX6_floats_36 : decode cX6_floats 36 = .ok (.iconst 1, 1) := by decide +kernel
theorem dX6_floats_37 : decode cX6_floats 37 = .ok (.ireturn, 1) := by decide +kernel
set_option maxRecDepth 20000 in
theorem ggX6_current_X6_eighthOfTurn : GoodIn wsX6_current wsX6_eighthOfTurn := goodIn_r _ [6] (by decide +kernel) (by decide +kernel)
set_option maxRecDepth 20000 in
theorem gX6_current_X6_eighthOfTurn : GoodIn wsX6_current (va_wsS RX6 97 yX6_eighthOfTurn wsX6_eighthOfTurn) := goodIn_app (goodIn_of _ (by decide +kernel)) ggX6_current_X6_eighthOfTurn
set_option maxRecDepth 20000 in
theorem ggX6_current_X6_isPlace : GoodIn wsX6_current wsX6_isPlace := goodIn_r _ [9, 10, 11, 12, 13, 5, 14] (by decide +kernel) (by decide +kernel)
set_option maxRecDepth 20000 in
theorem gX6_current_X6_isPlace : GoodIn wsX6_current (va_wsS RX6 57 yX6_isPlace wsX6_isPlace) := goodIn_app (goodIn_of _ (by decide +kernel)) ggX6_current_X6_isPlace
set_option maxRecDepth 20000 in
theorem ggX6_current_X6_within : GoodIn wsX6_current wsX6_within := goodIn_r _ [14] (by decide +kernel) (by decide +kernel)
set_option maxRecDepth 20000 in
theorem gX6_current_X6_within : GoodIn wsX6_current (va_wsS RX6 74 yX6_within wsX6_within) := goodIn_app (goodIn_of _ (by decide +kernel)) ggX6_current_X6_within
set_option maxRecDepth 20000 in
theorem ggX6_current_X6_partTowardsX : GoodIn wsX6_current wsX6_partTowardsX := goodIn_r _ [17, 18] (by decide +kernel) (by decide +kernel)
set_option maxRecDepth 20000 in
theorem gX6_current_X6_partTowardsX : GoodIn wsX6_current (va_wsS RX6 101 yX6_partTowardsX wsX6_partTowardsX) := goodIn_app (goodIn_of _ (by decide +kernel)) ggX6_current_X6_partTowardsX
set_option maxRecDepth 20000 in
theorem ggX6_current_X5_tell : GoodIn wsX6_current wsX5_tell := goodIn_r _ [23, 24, 25, 26, 27, 28, 29, 30, 22, 31, 32, 33, 34, 35, 42, 43, 44, 45, 46, 47] (by decide +kernel) (by decide +kernel)
set_option maxRecDepth 20000 in
theorem gX6_current_X5_tell : GoodIn wsX6_current (wsV RX6 105 RX5 yX5_tell wsX5_tell) := goodIn_app (goodIn_of _ (by decide +kernel)) ggX6_current_X5_tell
theorem dX6_current_0 : decode cX6_current 0 = .ok (.dload 5, 2) := by decide +kernel
theorem dX6_current_2 : decode cX6_current 2 = .ok (.invokestatic 97, 3) := by decide +kernel
theorem dX6_current_5 : decode cX6_current 5 = .ok (.istore 7, 2) := by decide +kernel
theorem dX6_current_7 : decode cX6_current 7 = .ok (.dload_n 1, 1) := by decide +kernel
theorem dX6_current_8 : decode cX6_current 8 = .ok (.invokestatic 57, 3) := by decide +kernel
theorem dX6_current_11 : decode cX6_current 11 = .ok (.ifCond .eq 20, 3) := by decide +kernel
theorem dX6_current_14 : decode cX6_current 14 = .ok (.dload_n 3, 1) := by decide +kernel
theorem dX6_current_15 : decode cX6_current 15 = .ok (.dconst 0, 1) := by decide +kernel
theorem dX6_current_16 : decode cX6_current 16 = .ok (.ldc2_w 78, 3) := by decide +kernel
theorem dX6_current_19 : decode cX6_current 19 = .ok (.invokestatic 74, 3) := by decide +kernel
theorem dX6_current_22 : decode cX6_current 22 = .ok (.ifCond .eq 9, 3) := by decide +kernel
theorem dX6_current_25 : decode cX6_current 25 = .ok (.iload 7, 2) := by decide +kernel
theorem dX6_current_27 : decode cX6_current 27 = .ok (.iconst (-1), 1) := by decide +kernel
theorem dX6_current_28 : decode cX6_current 28 = .ok (.if_icmp .ne 5, 3) := by decide +kernel
theorem dX6_current_31 : decode cX6_current 31 = .ok (.iconst 0, 1) := by decide +kernel
theorem dX6_current_32 : decode cX6_current 32 = .ok (.ireturn, 1) := by decide +kernel
theorem dX6_current_33 : decode cX6_current 33 = .ok (.iload 7, 2) := by decide +kernel
theorem dX6_current_35 : decode cX6_current 35 = .ok (.bipush 6, 2) := by decide +kernel
theorem dX6_current_37 : decode cX6_current 37 = .ok (.iadd, 1) := by decide +kernel
theorem dX6_current_38 : decode cX6_current 38 = .ok (.bipush 8, 2) := by decide +kernel
theorem dX6_current_40 : decode cX6_current 40 = .ok (.irem, 1) := by decide +kernel
theorem dX6_current_41 : decode cX6_current 41 = .ok (.istore 8, 2) := by decide +kernel
theorem dX6_current_43 : decode cX6_current 43 = .ok (.aload_n 0, 1) := by decide +kernel
theorem dX6_current_44 : decode cX6_current 44 = .ok (.getfield 26, 3) := by decide +kernel
theorem dX6_current_47 : decode cX6_current 47 = .ok (.dload_n 1, 1) := by decide +kernel
theorem dX6_current_48 : decode cX6_current 48 = .ok (.dload_n 3, 1) := by decide +kernel
theorem dX6_current_49 : decode cX6_current 49 = .ok (.iload 7, 2) := by decide +kernel
theorem dX6_current_51 : decode cX6_current 51 = .ok (.invokestatic 101, 3) := by decide +kernel
theorem dX6_current_54 : decode cX6_current 54 = .ok (.dload_n 3, 1) := by decide +kernel
theorem dX6_current_55 : decode cX6_current 55 = .ok (.iload 8, 2) := by decide +kernel
theorem dX6_current_57 : decode cX6_current 57 = .ok (.invokestatic 101, 3) := by decide +kernel
theorem dX6_current_60 : decode cX6_current 60 = .ok (.invokevirtual 105, 3) := by decide +kernel
theorem dX6_current_63 : decode cX6_current 63 = .ok (.ireturn, 1) := by decide +kernel
set_option maxRecDepth 20000 in
theorem ggX6_run_X0_comesInRound : GoodIn wsX6_run wsX0_comesInRound := goodIn_r _ [10, 11, 12, 13, 14, 15, 16, 17, 18, 19, 20, 21, 22, 23, 24, 25, 26, 27, 9, 28, 29, 30, 31, 32, 33, 34, 35, 36, 37, 38, 39, 40, 41, 42, 43, 44, 45, 46, 47, 48, 49, 50, 51, 52, 53, 54, 55, 56, 57, 58, 59, 60, 61, 62, 63, 64, 65, 66, 67, 68, 69, 70, 71, 72, 73, 74, 75, 76, 77, 78, 79, 80, 81, 82, 83, 84, 85, 86, 87, 88, 89, 90, 91, 92, 93, 94, 95, 96, 97, 127, 128, 129, 130, 131, 132, 133, 134, 135, 136, 137, 138, 139, 140, 121, 122, 123, 124, 125, 126, 141, 142, 143, 144, 145, 146] (by decide +kernel) (by decide +kernel)
set_option maxRecDepth 20000 in
theorem gX6_run_X0_comesInRound : GoodIn wsX6_run (wsV RX6 108 RX0 yX0_comesInRound wsX0_comesInRound) := goodIn_app (goodIn_of _ (by decide +kernel)) ggX6_run_X0_comesInRound
set_option maxRecDepth 20000 in
theorem ggX6_run_X6_size : GoodIn wsX6_run wsX6_size := goodIn_r _ [87] (by decide +kernel) (by decide +kernel)
set_option maxRecDepth 20000 in
theorem gX6_run_X6_size : GoodIn wsX6_run (va_wsS RX6 115 yX6_size wsX6_size) := goodIn_app (goodIn_of _ (by decide +kernel)) ggX6_run_X6_size
set_option maxRecDepth 20000 in
theorem ggX6_run_X3_spread : GoodIn wsX6_run wsX3_spread := goodIn_r _ [102, 92, 21, 121, 122, 123, 124, 125, 126] (by decide +kernel) (by decide +kernel)
set_option maxRecDepth 20000 in
theorem gX6_run_X3_spread : GoodIn wsX6_run (wsV RX6 119 RX3 yX3_spread wsX3_spread) := goodIn_app (goodIn_of _ (by decide +kernel)) ggX6_run_X3_spread
set_option maxRecDepth 20000 in
theorem ggX6_run_X2_add : GoodIn wsX6_run wsX2_add := goodIn_r _ [107, 108, 109, 110, 111, 112, 113, 114, 147, 148, 149] (by decide +kernel) (by decide +kernel)
set_option maxRecDepth 20000 in
theorem gX6_run_X2_add : GoodIn wsX6_run (wsV RX6 123 RX2 yX2_add wsX2_add) := goodIn_app (goodIn_of _ (by decide +kernel)) ggX6_run_X2_add
theorem dX6_run_0 : decode cX6_run 0 = .ok (.iload_n 1, 1) := by decide +kernel
theorem dX6_run_1 : decode cX6_run 1 = .ok (.iconst 1, 1) := by decide +kernel
theorem dX6_run_2 : decode cX6_run 2 = .ok (.if_icmp .lt 20, 3) := by decide +kernel
theorem dX6_run_5 : decode cX6_run 5 = .ok (.iload_n 1, 1) := by decide +kernel
theorem dX6_run_6 : decode cX6_run 6 = .ok (.sipush 300, 3) := by decide +kernel
theorem dX6_run_9 : decode cX6_run 9 = .ok (.if_icmp .gt 13, 3) := by decide +kernel
theorem dX6_run_12 : decode cX6_run 12 = .ok (.aload_n 0, 1) := by decide +kernel
theorem dX6_run_13 : decode cX6_run 13 = .ok (.getfield 10, 3) := by decide +kernel
theorem dX6_run_16 : decode cX6_run 16 = .ok (.getfield 53, 3) := by decide +kernel
theorem dX6_run_19 : decode cX6_run 19 = .ok (.ifCond .ne 5, 3) := by decide +kernel
theorem dX6_run_22 : decode cX6_run 22 = .ok (.iconst (-1), 1) := by decide +kernel
theorem dX6_run_23 : decode cX6_run 23 = .ok (.ireturn, 1) := by decide +kernel
theorem dX6_run_24 : decode cX6_run 24 = .ok (.iconst 0, 1) := by decide +kernel
theorem dX6_run_25 : decode cX6_run 25 = .ok (.istore_n 2, 1) := by decide +kernel
theorem dX6_run_26 : decode cX6_run 26 = .ok (.iload_n 2, 1) := by decide +kernel
theorem dX6_run_27 : decode cX6_run 27 = .ok (.iload_n 1, 1) := by decide +kernel
theorem dX6_run_28 : decode cX6_run 28 = .ok (.if_icmp .ge 51, 3) := by decide +kernel
theorem dX6_run_31 : decode cX6_run 31 = .ok (.aload_n 0, 1) := by decide +kernel
theorem dX6_run_32 : decode cX6_run 32 = .ok (.getfield 35, 3) := by decide +kernel
theorem dX6_run_35 : decode cX6_run 35 = .ok (.invokevirtual 108, 3) := by decide +kernel
theorem dX6_run_38 : decode cX6_run 38 = .ok (.ifCond .eq 35, 3) := by decide +kernel
theorem dX6_run_41 : decode cX6_run 41 = .ok (.aload_n 0, 1) := by decide +kernel
theorem dX6_run_42 : decode cX6_run 42 = .ok (.getfield 42, 3) := by decide +kernel
theorem dX6_run_45 : decode cX6_run 45 = .ok (.aload_n 0, 1) := by decide +kernel
theorem dX6_run_46 : decode cX6_run 46 = .ok (.getfield 35, 3) := by decide +kernel
theorem dX6_run_49 : decode cX6_run 49 = .ok (.getfield 112, 3) := by decide +kernel
theorem dX6_run_52 : decode cX6_run 52 = .ok (.iconst 0, 1) := by decide +kernel
theorem dX6_run_53 : decode cX6_run 53 = .ok (.daload, 1) := by decide +kernel
theorem dX6_run_54 : decode cX6_run 54 = .ok (.invokestatic 115, 3) := by decide +kernel
theorem dX6_run_57 : decode cX6_run 57 = .ok (.dconst 1, 1) := by decide +kernel
theorem dX6_run_58 : decode cX6_run 58 = .ok (.aload_n 0, 1) := by decide +kernel
theorem dX6_run_59 : decode cX6_run 59 = .ok (.getfield 10, 3) := by decide +kernel
theorem dX6_run_62 : decode cX6_run 62 = .ok (.iconst 1, 1) := by decide +kernel
theorem dX6_run_63 : decode cX6_run 63 = .ok (.invokevirtual 119, 3) := by decide +kernel
theorem dX6_run_66 : decode cX6_run 66 = .ok (.dadd, 1) := by decide +kernel
theorem dX6_run_67 : decode cX6_run 67 = .ok (.ddiv, 1) := by decide +kernel
theorem dX6_run_68 : decode cX6_run 68 = .ok (.invokevirtual 123, 3) := by decide +kernel
theorem dX6_run_71 : decode cX6_run 71 = .ok (.iload_n 2, 1) := by decide +kernel
theorem dX6_run_72 : decode cX6_run 72 = .ok (.ireturn, 1) := by decide +kernel
theorem dX6_run_73 : decode cX6_run 73 = .ok (.iinc 2 1, 3) := by decide +kernel
theorem dX6_run_76 : decode cX6_run 76 = .ok (.goto (-50), 3) := by decide +kernel
theorem dX6_run_79 : decode cX6_run 79 = .ok (.iconst (-1), 1) := by decide +kernel
theorem dX6_run_80 : decode cX6_run 80 = .ok (.ireturn, 1) := by decide +kernel
set_option maxRecDepth 20000 in
theorem ggX6_at_X3_has : GoodIn wsX6_at wsX3_has := goodIn_r _ [7, 8, 19, 20, 21, 22, 23, 24] (by decide +kernel) (by decide +kernel)
set_option maxRecDepth 20000 in
theorem gX6_at_X3_has : GoodIn wsX6_at (wsV RX6 65 RX3 yX3_has wsX3_has) := goodIn_app (goodIn_of _ (by decide +kernel)) ggX6_at_X3_has
set_option maxRecDepth 20000 in
theorem ggX6_at_X6_isAxis : GoodIn wsX6_at wsX6_isAxis := goodIn_r _ [12] (by decide +kernel) (by decide +kernel)
set_option maxRecDepth 20000 in
theorem gX6_at_X6_isAxis : GoodIn wsX6_at (va_wsS RX6 126 yX6_isAxis wsX6_isAxis) := goodIn_app (goodIn_of _ (by decide +kernel)) ggX6_at_X6_isAxis
theorem dX6_at_0 : decode cX6_at 0 = .ok (.aload_n 0, 1) := by decide +kernel
theorem dX6_at_1 : decode cX6_at 1 = .ok (.getfield 10, 3) := by decide +kernel
theorem dX6_at_4 : decode cX6_at 4 = .ok (.iload_n 1, 1) := by decide +kernel
theorem dX6_at_5 : decode cX6_at 5 = .ok (.invokevirtual 65, 3) := by decide +kernel
theorem dX6_at_8 : decode cX6_at 8 = .ok (.ifCond .eq 10, 3) := by decide +kernel
theorem dX6_at_11 : decode cX6_at 11 = .ok (.iload_n 2, 1) := by decide +kernel
theorem dX6_at_12 : decode cX6_at 12 = .ok (.invokestatic 126, 3) := by decide +kernel
theorem dX6_at_15 : decode cX6_at 15 = .ok (.ifCond .ne 5, 3) := by decide +kernel
theorem dX6_at_18 : decode cX6_at 18 = .ok (.dconst 0, 1) := by decide +kernel
theorem dX6_at_19 : decode cX6_at 19 = .ok (.dreturn, 1) := by decide +kernel
theorem dX6_at_20 : decode cX6_at 20 = .ok (.aload_n 0, 1) := by decide +kernel
theorem dX6_at_21 : decode cX6_at 21 = .ok (.getfield 10, 3) := by decide +kernel
theorem dX6_at_24 : decode cX6_at 24 = .ok (.getfield 129, 3) := by decide +kernel
theorem dX6_at_27 : decode cX6_at 27 = .ok (.iload_n 2, 1) := by decide +kernel
theorem dX6_at_28 : decode cX6_at 28 = .ok (.aaload, 1) := by decide +kernel
theorem dX6_at_29 : decode cX6_at 29 = .ok (.iload_n 1, 1) := by decide +kernel
theorem dX6_at_30 : decode cX6_at 30 = .ok (.daload, 1) := by decide +kernel
theorem dX6_at_31 : decode cX6_at 31 = .ok (.dreturn, 1) := by decide +kernel
set_option maxRecDepth 20000 in
theorem ggX6_pull_X1_has : GoodIn wsX6_pull wsX1_has := goodIn_r _ [8, 9, 16, 17, 18, 19, 20, 21, 22] (by decide +kernel) (by decide +kernel)
set_option maxRecDepth 20000 in
theorem gX6_pull_X1_has : GoodIn wsX6_pull (wsV RX6 133 RX1 yX1_has wsX1_has) := goodIn_app (goodIn_of _ (by decide +kernel)) ggX6_pull_X1_has
theorem dX6_pull_0 : decode cX6_pull 0 = .ok (.aload_n 0, 1) := by decide +kernel
theorem dX6_pull_1 : decode cX6_pull 1 = .ok (.getfield 19, 3) := by decide +kernel
theorem dX6_pull_4 : decode cX6_pull 4 = .ok (.iload_n 1, 1) := by decide +kernel
theorem dX6_pull_5 : decode cX6_pull 5 = .ok (.invokevirtual 133, 3) := by decide +kernel
theorem dX6_pull_8 : decode cX6_pull 8 = .ok (.ifCond .eq 15, 3) := by decide +kernel
theorem dX6_pull_11 : decode cX6_pull 11 = .ok (.aload_n 0, 1) := by decide +kernel
theorem dX6_pull_12 : decode cX6_pull 12 = .ok (.getfield 19, 3) := by decide +kernel
theorem dX6_pull_15 : decode cX6_pull 15 = .ok (.getfield 134, 3) := by decide +kernel
theorem dX6_pull_18 : decode cX6_pull 18 = .ok (.iload_n 1, 1) := by decide +kernel
theorem dX6_pull_19 : decode cX6_pull 19 = .ok (.daload, 1) := by decide +kernel
theorem dX6_pull_20 : decode cX6_pull 20 = .ok (.goto 6, 3) := by decide +kernel
theorem dX6_pull_23 : decode cX6_pull 23 = .ok (.ldc2_w 137, 3) := by decide +kernel
theorem dX6_pull_26 : decode cX6_pull 26 = .ok (.dreturn, 1) := by decide +kernel
theorem dX6_residual_0 : decode cX6_residual 0 = .ok (.aload_n 0, 1) := by decide +kernel
theorem dX6_residual_1 : decode cX6_residual 1 = .ok (.getfield 35, 3) := by decide +kernel
theorem dX6_residual_4 : decode cX6_residual 4 = .ok (.getfield 139, 3) := by decide +kernel
theorem dX6_residual_7 : decode cX6_residual 7 = .ok (.dreturn, 1) := by decide +kernel
set_option maxRecDepth 20000 in
theorem ggX6_drag_X6_isAxis : GoodIn wsX6_drag wsX6_isAxis := goodIn_r _ [6] (by decide +kernel) (by decide +kernel)
set_option maxRecDepth 20000 in
theorem gX6_drag_X6_isAxis : GoodIn wsX6_drag (va_wsS RX6 126 yX6_isAxis wsX6_isAxis) := goodIn_app (goodIn_of _ (by decide +kernel)) ggX6_drag_X6_isAxis
theorem dX6_drag_0 : decode cX6_drag 0 = .ok (.iload_n 1, 1) := by decide +kernel
theorem dX6_drag_1 : decode cX6_drag 1 = .ok (.invokestatic 126, 3) := by decide +kernel
theorem dX6_drag_4 : decode cX6_drag 4 = .ok (.ifCond .eq 15, 3) := by decide +kernel
theorem dX6_drag_7 : decode cX6_drag 7 = .ok (.aload_n 0, 1) := by decide +kernel
theorem dX6_drag_8 : decode cX6_drag 8 = .ok (.getfield 35, 3) := by decide +kernel
theorem dX6_drag_11 : decode cX6_drag 11 = .ok (.getfield 112, 3) := by decide +kernel
theorem dX6_drag_14 : decode cX6_drag 14 = .ok (.iload_n 1, 1) := by decide +kernel
theorem dX6_drag_15 : decode cX6_drag 15 = .ok (.daload, 1) := by decide +kernel
theorem dX6_drag_16 : decode cX6_drag 16 = .ok (.goto 4, 3) := by decide +kernel
theorem dX6_drag_19 : decode cX6_drag 19 = .ok (.dconst 0, 1) := by decide +kernel
theorem dX6_drag_20 : decode cX6_drag 20 = .ok (.dreturn, 1) := by decide +kernel
set_option maxRecDepth 20000 in
theorem ggX6_over_X1_overloaded : GoodIn wsX6_over wsX1_overloaded := goodIn_r _ [6, 7, 8, 9, 16, 17, 18, 19, 20, 21, 22] (by decide +kernel) (by decide +kernel)
set_option maxRecDepth 20000 in
theorem gX6_over_X1_overloaded : GoodIn wsX6_over (wsV RX6 143 RX1 yX1_overloaded wsX1_overloaded) := goodIn_app (goodIn_of _ (by decide +kernel)) ggX6_over_X1_overloaded
theorem dX6_over_0 : decode cX6_over 0 = .ok (.iload_n 1, 1) := by decide +kernel
theorem dX6_over_1 : decode cX6_over 1 = .ok (.ifCond .ge 7, 3) := by decide +kernel
theorem dX6_over_4 : decode cX6_over 4 = .ok (.iconst (-1), 1) := by decide +kernel
theorem dX6_over_5 : decode cX6_over 5 = .ok (.goto 11, 3) := by decide +kernel
theorem dX6_over_8 : decode cX6_over 8 = .ok (.aload_n 0, 1) := by decide +kernel
theorem dX6_over_9 : decode cX6_over 9 = .ok (.getfield 19, 3) := by decide +kernel
theorem dX6_over_12 : decode cX6_over 12 = .ok (.iload_n 1, 1) := by decide +kernel
theorem dX6_over_13 : decode cX6_over 13 = .ok (.invokevirtual 143, 3) := by decide +kernel
theorem dX6_over_16 : decode cX6_over 16 = .ok (.ireturn, 1) := by decide +kernel
set_option maxRecDepth 20000 in
theorem ggX6_open_X6_isAxis : GoodIn wsX6_open wsX6_isAxis := goodIn_r _ [7] (by decide +kernel) (by decide +kernel)
set_option maxRecDepth 20000 in
theorem gX6_open_X6_isAxis : GoodIn wsX6_open (va_wsS RX6 126 yX6_isAxis wsX6_isAxis) := goodIn_app (goodIn_of _ (by decide +kernel)) ggX6_open_X6_isAxis
set_option maxRecDepth 20000 in
theorem ggX6_open_X3_spread : GoodIn wsX6_open wsX3_spread := goodIn_r _ [12, 13, 14, 21, 22, 23, 24, 25, 26] (by decide +kernel) (by decide +kernel)
set_option maxRecDepth 20000 in
theorem gX6_open_X3_spread : GoodIn wsX6_open (wsV RX6 119 RX3 yX3_spread wsX3_spread) := goodIn_app (goodIn_of _ (by decide +kernel)) ggX6_open_X3_spread
theorem dX6_open_0 : decode cX6_open 0 = .ok (.aload_n 0, 1) := by decide +kernel
theorem dX6_open_1 : decode cX6_open 1 = .ok (.getfield 10, 3) := by decide +kernel
theorem dX6_open_4 : decode cX6_open 4 = .ok (.getfield 53, 3) := by decide +kernel
theorem dX6_open_7 : decode cX6_open 7 = .ok (.ifCond .eq 10, 3) := by decide +kernel
theorem dX6_open_10 : decode cX6_open 10 = .ok (.iload_n 1, 1) := by decide +kernel
theorem dX6_open_11 : decode cX6_open 11 = .ok (.invokestatic 126, 3) := by decide +kernel
theorem dX6_open_14 : decode cX6_open 14 = .ok (.ifCond .ne 7, 3) := by decide +kernel
theorem dX6_open_17 : decode cX6_open 17 = .ok (.ldc2_w 137, 3) := by decide +kernel
theorem dX6_open_20 : decode cX6_open 20 = .ok (.dreturn, 1) := by decide +kernel
theorem dX6_open_21 : decode cX6_open 21 = .ok (.aload_n 0, 1) := by decide +kernel
theorem dX6_open_22 : decode cX6_open 22 = .ok (.getfield 10, 3) := by decide +kernel
theorem dX6_open_25 : decode cX6_open 25 = .ok (.iload_n 1, 1) := by decide +kernel
theorem dX6_open_26 : decode cX6_open 26 = .ok (.invokevirtual 119, 3) := by decide +kernel
theorem dX6_open_29 : decode cX6_open 29 = .ok (.dreturn, 1) := by decide +kernel
set_option maxRecDepth 20000 in
theorem ggX6_catchAt_X3_has : GoodIn wsX6_catchAt wsX3_has := goodIn_r _ [8, 9, 20, 21, 22, 23, 24, 25] (by decide +kernel) (by decide +kernel)
set_option maxRecDepth 20000 in
theorem gX6_catchAt_X3_has : GoodIn wsX6_catchAt (wsV RX6 65 RX3 yX3_has wsX3_has) := goodIn_app (goodIn_of _ (by decide +kernel)) ggX6_catchAt_X3_has
set_option maxRecDepth 20000 in
theorem ggX6_catchAt_X6_within : GoodIn wsX6_catchAt wsX6_within := goodIn_r _ [13] (by decide +kernel) (by decide +kernel)
set_option maxRecDepth 20000 in
theorem gX6_catchAt_X6_within : GoodIn wsX6_catchAt (va_wsS RX6 74 yX6_within wsX6_within) := goodIn_app (goodIn_of _ (by decide +kernel)) ggX6_catchAt_X6_within
theorem dX6_catchAt_0 : decode cX6_catchAt 0 = .ok (.aload_n 0, 1) := by decide +kernel
theorem dX6_catchAt_1 : decode cX6_catchAt 1 = .ok (.getfield 10, 3) := by decide +kernel
theorem dX6_catchAt_4 : decode cX6_catchAt 4 = .ok (.iload_n 1, 1) := by decide +kernel
theorem dX6_catchAt_5 : decode cX6_catchAt 5 = .ok (.invokevirtual 65, 3) := by decide +kernel
theorem dX6_catchAt_8 : decode cX6_catchAt 8 = .ok (.ifCond .eq 14, 3) := by decide +kernel
theorem dX6_catchAt_11 : decode cX6_catchAt 11 = .ok (.dload_n 2, 1) := by decide +kernel
theorem dX6_catchAt_12 : decode cX6_catchAt 12 = .ok (.dconst 0, 1) := by decide +kernel
theorem dX6_catchAt_13 : decode cX6_catchAt 13 = .ok (.ldc2_w 91, 3) := by decide +kernel
theorem dX6_catchAt_16 : decode cX6_catchAt 16 = .ok (.invokestatic 74, 3) := by decide +kernel
theorem dX6_catchAt_19 : decode cX6_catchAt 19 = .ok (.ifCond .ne 5, 3) := by decide +kernel
theorem dX6_catchAt_22 : decode cX6_catchAt 22 = .ok (.iconst 0, 1) := by decide +kernel
theorem dX6_catchAt_23 : decode cX6_catchAt 23 = .ok (.ireturn, 1) := by decide +kernel
theorem dX6_catchAt_24 : decode cX6_catchAt 24 = .ok (.aload_n 0, 1) := by decide +kernel
theorem dX6_catchAt_25 : decode cX6_catchAt 25 = .ok (.getfield 10, 3) := by decide +kernel
theorem dX6_catchAt_28 : decode cX6_catchAt 28 = .ok (.getfield 147, 3) := by decide +kernel
theorem dX6_catchAt_31 : decode cX6_catchAt 31 = .ok (.iload_n 1, 1) := by decide +kernel
theorem dX6_catchAt_32 : decode cX6_catchAt 32 = .ok (.dload_n 2, 1) := by decide +kernel
theorem dX6_catchAt_33 : decode cX6_catchAt 33 = .ok (.dastore, 1) := by decide +kernel
theorem dX6_catchAt_34 : decode cX6_catchAt 34 = .ok (.iconst 1, 1) := by decide +kernel
theorem dX6_catchAt_35 : decode cX6_catchAt 35 = .ok (.ireturn, 1) := by decide +kernel
set_option maxRecDepth 20000 in
theorem ggX6_panel_X6_isPanelWidth : GoodIn wsX6_panel wsX6_isPanelWidth := goodIn_r _ [6] (by decide +kernel) (by decide +kernel)
set_option maxRecDepth 20000 in
theorem gX6_panel_X6_isPanelWidth : GoodIn wsX6_panel (va_wsS RX6 151 yX6_isPanelWidth wsX6_isPanelWidth) := goodIn_app (goodIn_of _ (by decide +kernel)) ggX6_panel_X6_isPanelWidth
set_option maxRecDepth 20000 in
theorem ggX6_panel_X4_add : GoodIn wsX6_panel wsX4_add := goodIn_r _ [11, 12, 13, 14, 15, 16, 17, 18, 10, 19, 20, 21, 22, 23, 24, 25, 26, 27, 28, 35, 36, 37, 38, 39, 40, 41, 42, 43] (by decide +kernel) (by decide +kernel)
set_option maxRecDepth 20000 in
theorem gX6_panel_X4_add : GoodIn wsX6_panel (wsV RX6 154 RX4 yX4_add wsX4_add) := goodIn_app (goodIn_of _ (by decide +kernel)) ggX6_panel_X4_add
theorem dX6_panel_0 : decode cX6_panel 0 = .ok (.aload_n 0, 1) := by decide +kernel
theorem dX6_panel_1 : decode cX6_panel 1 = .ok (.getfield 49, 3) := by decide +kernel
theorem dX6_panel_4 : decode cX6_panel 4 = .ok (.getfield 150, 3) := by decide +kernel
theorem dX6_panel_7 : decode cX6_panel 7 = .ok (.bipush 30, 2) := by decide +kernel
theorem dX6_panel_9 : decode cX6_panel 9 = .ok (.if_icmp .ge 29, 3) := by decide +kernel
theorem dX6_panel_12 : decode cX6_panel 12 = .ok (.iload_n 1, 1) := by decide +kernel
theorem dX6_panel_13 : decode cX6_panel 13 = .ok (.invokestatic 151, 3) := by decide +kernel
theorem dX6_panel_16 : decode cX6_panel 16 = .ok (.ifCond .eq 22, 3) := by decide +kernel
theorem dX6_panel_19 : decode cX6_panel 19 = .ok (.iload_n 2, 1) := by decide +kernel
theorem dX6_panel_20 : decode cX6_panel 20 = .ok (.invokestatic 151, 3) := by decide +kernel
theorem dX6_panel_23 : decode cX6_panel 23 = .ok (.ifCond .eq 15, 3) := by decide +kernel
theorem dX6_panel_26 : decode cX6_panel 26 = .ok (.iload_n 3, 1) := by decide +kernel
theorem dX6_panel_27 : decode cX6_panel 27 = .ok (.iconst 1, 1) := by decide +kernel
theorem dX6_panel_28 : decode cX6_panel 28 = .ok (.if_icmp .lt 10, 3) := by decide +kernel
theorem dX6_panel_31 : decode cX6_panel 31 = .ok (.iload_n 3, 1) := by decide +kernel
theorem dX6_panel_32 : decode cX6_panel 32 = .ok (.sipush 200, 3) := by decide +kernel
theorem dX6_panel_35 : decode cX6_panel 35 = .ok (.if_icmp .le 5, 3) := by decide +kernel
theorem dX6_panel_38 : decode cX6_panel 38 = .ok (.iconst (-1), 1) := by decide +kernel
theorem dX6_panel_39 : decode cX6_panel 39 = .ok (.ireturn, 1) := by decide +kernel
theorem dX6_panel_40 : decode cX6_panel 40 = .ok (.aload_n 0, 1) := by decide +kernel
theorem dX6_panel_41 : decode cX6_panel 41 = .ok (.getfield 49, 3) := by decide +kernel
theorem dX6_panel_44 : decode cX6_panel 44 = .ok (.iload_n 1, 1) := by decide +kernel
theorem dX6_panel_45 : decode cX6_panel 45 = .ok (.iload_n 2, 1) := by decide +kernel
theorem dX6_panel_46 : decode cX6_panel 46 = .ok (.iload_n 3, 1) := by decide +kernel
theorem dX6_panel_47 : decode cX6_panel 47 = .ok (.invokevirtual 154, 3) := by decide +kernel
theorem dX6_panel_50 : decode cX6_panel 50 = .ok (.ireturn, 1) := by decide +kernel
set_option maxRecDepth 20000 in
theorem ggX6_cut_X4_has : GoodIn wsX6_cut wsX4_has := goodIn_r _ [7, 8, 22, 23, 24, 25, 26, 27, 28, 29, 30] (by decide +kernel) (by decide +kernel)
set_option maxRecDepth 20000 in
theorem gX6_cut_X4_has : GoodIn wsX6_cut (wsV RX6 157 RX4 yX4_has wsX4_has) := goodIn_app (goodIn_of _ (by decide +kernel)) ggX6_cut_X4_has
set_option maxRecDepth 20000 in
theorem ggX6_cut_X4_meshesAfter : GoodIn wsX6_cut wsX4_meshesAfter := goodIn_r _ [12, 13, 14, 15, 22, 23, 24, 25, 26, 27, 28, 29, 30] (by decide +kernel) (by decide +kernel)
set_option maxRecDepth 20000 in
theorem gX6_cut_X4_meshesAfter : GoodIn wsX6_cut (wsV RX6 162 RX4 yX4_meshesAfter wsX4_meshesAfter) := goodIn_app (goodIn_of _ (by decide +kernel)) ggX6_cut_X4_meshesAfter
theorem dX6_cut_0 : decode cX6_cut 0 = .ok (.aload_n 0, 1) := by decide +kernel
theorem dX6_cut_1 : decode cX6_cut 1 = .ok (.getfield 49, 3) := by decide +kernel
theorem dX6_cut_4 : decode cX6_cut 4 = .ok (.iload_n 1, 1) := by decide +kernel
theorem dX6_cut_5 : decode cX6_cut 5 = .ok (.invokevirtual 157, 3) := by decide +kernel
theorem dX6_cut_8 : decode cX6_cut 8 = .ok (.ifCond .eq 20, 3) := by decide +kernel
theorem dX6_cut_11 : decode cX6_cut 11 = .ok (.iload_n 2, 1) := by decide +kernel
theorem dX6_cut_12 : decode cX6_cut 12 = .ok (.ifCond .lt 16, 3) := by decide +kernel
theorem dX6_cut_15 : decode cX6_cut 15 = .ok (.iload_n 2, 1) := by decide +kernel
theorem dX6_cut_16 : decode cX6_cut 16 = .ok (.aload_n 0, 1) := by decide +kernel
theorem dX6_cut_17 : decode cX6_cut 17 = .ok (.getfield 49, 3) := by decide +kernel
theorem dX6_cut_20 : decode cX6_cut 20 = .ok (.getfield 158, 3) := by decide +kernel
theorem dX6_cut_23 : decode cX6_cut 23 = .ok (.iload_n 1, 1) := by decide +kernel
theorem dX6_cut_24 : decode cX6_cut 24 = .ok (.iaload, 1) := by decide +kernel
theorem dX6_cut_25 : decode cX6_cut 25 = .ok (.if_icmp .lt 5, 3) := by decide +kernel
theorem dX6_cut_28 : decode cX6_cut 28 = .ok (.iconst (-1), 1) := by decide +kernel
theorem dX6_cut_29 : decode cX6_cut 29 = .ok (.ireturn, 1) := by decide +kernel
theorem dX6_cut_30 : decode cX6_cut 30 = .ok (.iload_n 3, 1) := by decide +kernel
theorem dX6_cut_31 : decode cX6_cut 31 = .ok (.lookupswitch 59 #[(0, 25), (1, 37)], 25) := by decide +kernel
theorem dX6_cut_56 : decode cX6_cut 56 = .ok (.aload_n 0, 1) := by decide +kernel
theorem dX6_cut_57 : decode cX6_cut 57 = .ok (.getfield 49, 3) := by decide +kernel
theorem dX6_cut_60 : decode cX6_cut 60 = .ok (.iload_n 1, 1) := by decide +kernel
theorem dX6_cut_61 : decode cX6_cut 61 = .ok (.iload_n 2, 1) := by decide +kernel
theorem dX6_cut_62 : decode cX6_cut 62 = .ok (.iconst 1, 1) := by decide +kernel
theorem dX6_cut_63 : decode cX6_cut 63 = .ok (.iadd, 1) := by decide +kernel
theorem dX6_cut_64 : decode cX6_cut 64 = .ok (.invokevirtual 162, 3) := by decide +kernel
theorem dX6_cut_67 : decode cX6_cut 67 = .ok (.ireturn, 1) := by decide +kernel
theorem dX6_cut_68 : decode cX6_cut 68 = .ok (.aload_n 0, 1) := by decide +kernel
theorem dX6_cut_69 : decode cX6_cut 69 = .ok (.getfield 49, 3) := by decide +kernel
theorem dX6_cut_72 : decode cX6_cut 72 = .ok (.iload_n 1, 1) := by decide +kernel
theorem dX6_cut_73 : decode cX6_cut 73 = .ok (.iload_n 2, 1) := by decide +kernel
theorem dX6_cut_74 : decode cX6_cut 74 = .ok (.iconst 1, 1) := by decide +kernel
theorem dX6_cut_75 : decode cX6_cut 75 = .ok (.iadd, 1) := by decide +kernel
theorem dX6_cut_76 : decode cX6_cut 76 = .ok (.invokevirtual 162, 3) := by decide +kernel
theorem dX6_cut_79 : decode cX6_cut 79 = .ok (.aload_n 0, 1) := by decide +kernel
theorem dX6_cut_80 : decode cX6_cut 80 = .ok (.getfield 49, 3) := by decide +kernel
theorem dX6_cut_83 : decode cX6_cut 83 = .ok (.iload_n 1, 1) := by decide +kernel
theorem dX6_cut_84 : decode cX6_cut 84 = .ok (.iload_n 2, 1) := by decide +kernel
theorem dX6_cut_85 : decode cX6_cut 85 = .ok (.invokevirtual 162, 3) := by decide +kernel
theorem dX6_cut_88 : decode cX6_cut 88 = .ok (.isub, 1) := by decide +kernel
theorem dX6_cut_89 : decode cX6_cut 89 = .ok (.ireturn, 1) := by decide +kernel
theorem dX6_cut_90 : decode cX6_cut 90 = .ok (.iconst (-1), 1) := by decide +kernel
theorem dX6_cut_91 : decode cX6_cut 91 = .ok (.ireturn, 1) := by decide +kernel
set_option maxRecDepth 20000 in
theorem ggX6_whole_X4_has : GoodIn wsX6_whole wsX4_has := goodIn_r _ [8, 9, 16, 17, 18, 19, 20, 21, 22, 23, 24] (by decide +kernel) (by decide +kernel)
set_option maxRecDepth 20000 in
theorem gX6_whole_X4_has : GoodIn wsX6_whole (wsV RX6 157 RX4 yX4_has wsX4_has) := goodIn_app (goodIn_of _ (by decide +kernel)) ggX6_whole_X4_has
theorem dX6_whole_0 : decode cX6_whole 0 = .ok (.aload_n 0, 1) := by decide +kernel
theorem dX6_whole_1 : decode cX6_whole 1 = .ok (.getfield 49, 3) := by decide +kernel
theorem dX6_whole_4 : decode cX6_whole 4 = .ok (.iload_n 1, 1) := by decide +kernel
theorem dX6_whole_5 : decode cX6_whole 5 = .ok (.invokevirtual 157, 3) := by decide +kernel
theorem dX6_whole_8 : decode cX6_whole 8 = .ok (.ifCond .eq 31, 3) := by decide +kernel
theorem dX6_whole_11 : decode cX6_whole 11 = .ok (.aload_n 0, 1) := by decide +kernel
theorem dX6_whole_12 : decode cX6_whole 12 = .ok (.getfield 49, 3) := by decide +kernel
theorem dX6_whole_15 : decode cX6_whole 15 = .ok (.getfield 166, 3) := by decide +kernel
theorem dX6_whole_18 : decode cX6_whole 18 = .ok (.iload_n 1, 1) := by decide +kernel
theorem dX6_whole_19 : decode cX6_whole 19 = .ok (.iaload, 1) := by decide +kernel
theorem dX6_whole_20 : decode cX6_whole 20 = .ok (.aload_n 0, 1) := by decide +kernel
theorem dX6_whole_21 : decode cX6_whole 21 = .ok (.getfield 49, 3) := by decide +kernel
theorem dX6_whole_24 : decode cX6_whole 24 = .ok (.getfield 169, 3) := by decide +kernel
theorem dX6_whole_27 : decode cX6_whole 27 = .ok (.iload_n 1, 1) := by decide +kernel
theorem dX6_whole_28 : decode cX6_whole 28 = .ok (.iaload, 1) := by decide +kernel
theorem dX6_whole_29 : decode cX6_whole 29 = .ok (.isub, 1) := by decide +kernel
theorem dX6_whole_30 : decode cX6_whole 30 = .ok (.iconst 2, 1) := by decide +kernel
theorem dX6_whole_31 : decode cX6_whole 31 = .ok (.irem, 1) := by decide +kernel
theorem dX6_whole_32 : decode cX6_whole 32 = .ok (.ifCond .ne 7, 3) := by decide +kernel
theorem dX6_whole_35 : decode cX6_whole 35 = .ok (.iconst 1, 1) := by decide +kernel
theorem dX6_whole_36 : decode cX6_whole 36 = .ok (.goto 4, 3) := by decide +kernel
theorem dX6_whole_39 : decode cX6_whole 39 = .ok (.iconst 0, 1) := by decide +kernel
theorem dX6_whole_40 : decode cX6_whole 40 = .ok (.ireturn, 1) := by decide +kernel
set_option maxRecDepth 20000 in
theorem ggX6_edge_X4_has : GoodIn wsX6_edge wsX4_has := goodIn_r _ [12, 13, 20, 21, 22, 23, 24, 25, 26, 27, 28] (by decide +kernel) (by decide +kernel)
set_option maxRecDepth 20000 in
theorem gX6_edge_X4_has : GoodIn wsX6_edge (wsV RX6 157 RX4 yX4_has wsX4_has) := goodIn_app (goodIn_of _ (by decide +kernel)) ggX6_edge_X4_has
theorem dX6_edge_0 : decode cX6_edge 0 = .ok (.aload_n 0, 1) := by decide +kernel
theorem dX6_edge_1 : decode cX6_edge 1 = .ok (.getfield 49, 3) := by decide +kernel
theorem dX6_edge_4 : decode cX6_edge 4 = .ok (.iload_n 1, 1) := by decide +kernel
theorem dX6_edge_5 : decode cX6_edge 5 = .ok (.invokevirtual 157, 3) := by decide +kernel
theorem dX6_edge_8 : decode cX6_edge 8 = .ok (.ifCond .eq 14, 3) := by decide +kernel
theorem dX6_edge_11 : decode cX6_edge 11 = .ok (.aload_n 0, 1) := by decide +kernel
theorem dX6_edge_12 : decode cX6_edge 12 = .ok (.getfield 49, 3) := by decide +kernel
theorem dX6_edge_15 : decode cX6_edge 15 = .ok (.iload_n 2, 1) := by decide +kernel
theorem dX6_edge_16 : decode cX6_edge 16 = .ok (.invokevirtual 157, 3) := by decide +kernel
theorem dX6_edge_19 : decode cX6_edge 19 = .ok (.ifCond .ne 5, 3) := by decide +kernel
theorem dX6_edge_22 : decode cX6_edge 22 = .ok (.iconst (-1), 1) := by decide +kernel
theorem dX6_edge_23 : decode cX6_edge 23 = .ok (.ireturn, 1) := by decide +kernel
theorem dX6_edge_24 : decode cX6_edge 24 = .ok (.aload_n 0, 1) := by decide +kernel
theorem dX6_edge_25 : decode cX6_edge 25 = .ok (.getfield 49, 3) := by decide +kernel
theorem dX6_edge_28 : decode cX6_edge 28 = .ok (.getfield 166, 3) := by decide +kernel
theorem dX6_edge_31 : decode cX6_edge 31 = .ok (.iload_n 1, 1) := by decide +kernel
theorem dX6_edge_32 : decode cX6_edge 32 = .ok (.iaload, 1) := by decide +kernel
theorem dX6_edge_33 : decode cX6_edge 33 = .ok (.aload_n 0, 1) := by decide +kernel
theorem dX6_edge_34 : decode cX6_edge 34 = .ok (.getfield 49, 3) := by decide +kernel
theorem dX6_edge_37 : decode cX6_edge 37 = .ok (.getfield 169, 3) := by decide +kernel
theorem dX6_edge_40 : decode cX6_edge 40 = .ok (.iload_n 2, 1) := by decide +kernel
theorem dX6_edge_41 : decode cX6_edge 41 = .ok (.iaload, 1) := by decide +kernel
theorem dX6_edge_42 : decode cX6_edge 42 = .ok (.invokestatic 172, 3) := by decide +kernel
theorem dX6_edge_45 : decode cX6_edge 45 = .ok (.ireturn, 1) := by decide +kernel
set_option maxRecDepth 20000 in
theorem ggX6_foul_X6_within : GoodIn wsX6_foul wsX6_within := goodIn_r _ [7] (by decide +kernel) (by decide +kernel)
set_option maxRecDepth 20000 in
theorem gX6_foul_X6_within : GoodIn wsX6_foul (va_wsS RX6 74 yX6_within wsX6_within) := goodIn_app (goodIn_of _ (by decide +kernel)) ggX6_foul_X6_within
theorem dX6_foul_0 : decode cX6_foul 0 = .ok (.dload_n 1, 1) := by decide +kernel
theorem dX6_foul_1 : decode cX6_foul 1 = .ok (.dconst 0, 1) := by decide +kernel
theorem dX6_foul_2 : decode cX6_foul 2 = .ok (.ldc2_w 177, 3) := by decide +kernel
theorem dX6_foul_5 : decode cX6_foul 5 = .ok (.invokestatic 74, 3) := by decide +kernel
theorem dX6_foul_8 : decode cX6_foul 8 = .ok (.ifCond .ne 5, 3) := by decide +kernel
theorem dX6_foul_11 : decode cX6_foul 11 = .ok (.iconst 0, 1) := by decide +kernel
theorem dX6_foul_12 : decode cX6_foul 12 = .ok (.ireturn, 1) := by decide +kernel
theorem dX6_foul_13 : decode cX6_foul 13 = .ok (.aload_n 0, 1) := by decide +kernel
theorem dX6_foul_14 : decode cX6_foul 14 = .ok (.getfield 26, 3) := by decide +kernel
theorem dX6_foul_17 : decode cX6_foul 17 = .ok (.dload_n 1, 1) := by decide +kernel
theorem dX6_foul_18 : decode cX6_foul 18 = .ok (.putfield 179, 3) := by decide +kernel
theorem dX6_foul_21 : decode cX6_foul 21 = .ok (.iconst 1, 1) := by decide +kernel
theorem dX6_foul_22 : decode cX6_foul 22 = .ok (.ireturn, 1) := by decide +kernel
set_option maxRecDepth 20000 in
theorem ggX6_wave_X6_within : GoodIn wsX6_wave wsX6_within := goodIn_r _ [10] (by decide +kernel) (by decide +kernel)
set_option maxRecDepth 20000 in
theorem gX6_wave_X6_within : GoodIn wsX6_wave (va_wsS RX6 74 yX6_within wsX6_within) := goodIn_app (goodIn_of _ (by decide +kernel)) ggX6_wave_X6_within
theorem dX6_wave_0 : decode cX6_wave 0 = .ok (.dload_n 1, 1) := by decide +kernel
theorem dX6_wave_1 : decode cX6_wave 1 = .ok (.dconst 0, 1) := by decide +kernel
theorem dX6_wave_2 : decode cX6_wave 2 = .ok (.ldc2_w 182, 3) := by decide +kernel
theorem dX6_wave_5 : decode cX6_wave 5 = .ok (.invokestatic 74, 3) := by decide +kernel
theorem dX6_wave_8 : decode cX6_wave 8 = .ok (.ifCond .eq 26, 3) := by decide +kernel
theorem dX6_wave_11 : decode cX6_wave 11 = .ok (.dload_n 3, 1) := by decide +kernel
theorem dX6_wave_12 : decode cX6_wave 12 = .ok (.dconst 1, 1) := by decide +kernel
theorem dX6_wave_13 : decode cX6_wave 13 = .ok (.ldc2_w 184, 3) := by decide +kernel
theorem dX6_wave_16 : decode cX6_wave 16 = .ok (.invokestatic 74, 3) := by decide +kernel
theorem dX6_wave_19 : decode cX6_wave 19 = .ok (.ifCond .eq 15, 3) := by decide +kernel
theorem dX6_wave_22 : decode cX6_wave 22 = .ok (.iload 5, 2) := by decide +kernel
theorem dX6_wave_24 : decode cX6_wave 24 = .ok (.ifCond .lt 10, 3) := by decide +kernel
theorem dX6_wave_27 : decode cX6_wave 27 = .ok (.iload 5, 2) := by decide +kernel
theorem dX6_wave_29 : decode cX6_wave 29 = .ok (.bipush 100, 2) := by decide +kernel
theorem dX6_wave_31 : decode cX6_wave 31 = .ok (.if_icmp .le 5, 3) := by decide +kernel
theorem dX6_wave_34 : decode cX6_wave 34 = .ok (.iconst (-1), 1) := by decide +kernel
theorem dX6_wave_35 : decode cX6_wave 35 = .ok (.ireturn, 1) := by decide +kernel
theorem dX6_wave_36 : decode cX6_wave 36 = .ok (.aload_n 0, 1) := by decide +kernel
theorem dX6_wave_37 : decode cX6_wave 37 = .ok (.getfield 26, 3) := by decide +kernel
theorem dX6_wave_40 : decode cX6_wave 40 = .ok (.dload_n 1, 1) := by decide +kernel
theorem dX6_wave_41 : decode cX6_wave 41 = .ok (.dload_n 3, 1) := by decide +kernel
theorem dX6_wave_42 : decode cX6_wave 42 = .ok (.dconst 1, 1) := by decide +kernel
theorem dX6_wave_43 : decode cX6_wave 43 = .ok (.dadd, 1) := by decide +kernel
theorem dX6_wave_44 : decode cX6_wave 44 = .ok (.ddiv, 1) := by decide +kernel
theorem dX6_wave_45 : decode cX6_wave 45 = .ok (.iload 5, 2) := by decide +kernel
theorem dX6_wave_47 : decode cX6_wave 47 = .ok (.i2d, 1) := by decide +kernel
theorem dX6_wave_48 : decode cX6_wave 48 = .ok (.dmul, 1) := by decide +kernel
theorem dX6_wave_49 : decode cX6_wave 49 = .ok (.ldc2_w 186, 3) := by decide +kernel
theorem dX6_wave_52 : decode cX6_wave 52 = .ok (.ddiv, 1) := by decide +kernel
theorem dX6_wave_53 : decode cX6_wave 53 = .ok (.putfield 188, 3) := by decide +kernel
theorem dX6_wave_56 : decode cX6_wave 56 = .ok (.aload_n 0, 1) := by decide +kernel
theorem dX6_wave_57 : decode cX6_wave 57 = .ok (.getfield 26, 3) := by decide +kernel
theorem dX6_wave_60 : decode cX6_wave 60 = .ok (.getfield 191, 3) := by decide +kernel
theorem dX6_wave_63 : decode cX6_wave 63 = .ok (.ireturn, 1) := by decide +kernel
set_option maxRecDepth 20000 in
theorem ggX6_mirrored_X3_hasMirrorImage : GoodIn wsX6_mirrored wsX3_hasMirrorImage := goodIn_r _ [7, 8, 9, 16, 17, 18, 19, 20, 21] (by decide +kernel) (by decide +kernel)
set_option maxRecDepth 20000 in
theorem gX6_mirrored_X3_hasMirrorImage : GoodIn wsX6_mirrored (wsV RX6 192 RX3 yX3_hasMirrorImage wsX3_hasMirrorImage) := goodIn_app (goodIn_of _ (by decide +kernel)) ggX6_mirrored_X3_hasMirrorImage
theorem dX6_mirrored_0 : decode cX6_mirrored 0 = .ok (.iconst 0, 1) := by decide +kernel
theorem dX6_mirrored_1 : decode cX6_mirrored 1 = .ok (.istore_n 1, 1) := by decide +kernel
theorem dX6_mirrored_2 : decode cX6_mirrored 2 = .ok (.iload_n 1, 1) := by decide +kernel
theorem dX6_mirrored_3 : decode cX6_mirrored 3 = .ok (.aload_n 0, 1) := by decide +kernel
theorem dX6_mirrored_4 : decode cX6_mirrored 4 = .ok (.getfield 10, 3) := by decide +kernel
theorem dX6_mirrored_7 : decode cX6_mirrored 7 = .ok (.getfield 53, 3) := by decide +kernel
theorem dX6_mirrored_10 : decode cX6_mirrored 10 = .ok (.if_icmp .ge 22, 3) := by decide +kernel
theorem dX6_mirrored_13 : decode cX6_mirrored 13 = .ok (.aload_n 0, 1) := by decide +kernel
theorem dX6_mirrored_14 : decode cX6_mirrored 14 = .ok (.getfield 10, 3) := by decide +kernel
theorem dX6_mirrored_17 : decode cX6_mirrored 17 = .ok (.iload_n 1, 1) := by decide +kernel
theorem dX6_mirrored_18 : decode cX6_mirrored 18 = .ok (.invokevirtual 192, 3) := by decide +kernel
theorem dX6_mirrored_21 : decode cX6_mirrored 21 = .ok (.ifCond .ne 5, 3) := by decide +kernel
theorem dX6_mirrored_24 : decode cX6_mirrored 24 = .ok (.iconst 0, 1) := by decide +kernel
theorem dX6_mirrored_25 : decode cX6_mirrored 25 = .ok (.ireturn, 1) := by decide +kernel
theorem dX6_mirrored_26 : decode cX6_mirrored 26 = .ok (.iinc 1 1, 3) := by decide +kernel
theorem dX6_mirrored_29 : decode cX6_mirrored 29 = .ok (.goto (-27), 3) := by decide +kernel
theorem dX6_mirrored_32 : decode cX6_mirrored 32 = .ok (.iconst 1, 1) := by decide +kernel
theorem dX6_mirrored_33 : decode cX6_mirrored 33 = .ok (.ireturn, 1) := by decide +kernel
set_option maxRecDepth 20000 in
theorem ggX6_best_X2_leastOfLatest : GoodIn wsX6_best wsX2_leastOfLatest := goodIn_r _ [6, 7, 8, 9, 10, 5, 11, 12, 13, 14, 15, 16, 17, 24, 25, 26] (by decide +kernel) (by decide +kernel)
set_option maxRecDepth 20000 in
theorem gX6_best_X2_leastOfLatest : GoodIn wsX6_best (wsV RX6 195 RX2 yX2_leastOfLatest wsX2_leastOfLatest) := goodIn_app (goodIn_of _ (by decide +kernel)) ggX6_best_X2_leastOfLatest
theorem dX6_best_0 : decode cX6_best 0 = .ok (.iload_n 1, 1) := by decide +kernel
theorem dX6_best_1 : decode cX6_best 1 = .ok (.iconst 1, 1) := by decide +kernel
theorem dX6_best_2 : decode cX6_best 2 = .ok (.if_icmp .lt 9, 3) := by decide +kernel
theorem dX6_best_5 : decode cX6_best 5 = .ok (.iload_n 1, 1) := by decide +kernel
theorem dX6_best_6 : decode cX6_best 6 = .ok (.bipush 20, 2) := by decide +kernel
theorem dX6_best_8 : decode cX6_best 8 = .ok (.if_icmp .le 5, 3) := by decide +kernel
theorem dX6_best_11 : decode cX6_best 11 = .ok (.iconst (-1), 1) := by decide +kernel
theorem dX6_best_12 : decode cX6_best 12 = .ok (.ireturn, 1) := by decide +kernel
theorem dX6_best_13 : decode cX6_best 13 = .ok (.aload_n 0, 1) := by decide +kernel
theorem dX6_best_14 : decode cX6_best 14 = .ok (.getfield 42, 3) := by decide +kernel
theorem dX6_best_17 : decode cX6_best 17 = .ok (.iload_n 1, 1) := by decide +kernel
theorem dX6_best_18 : decode cX6_best 18 = .ok (.invokevirtual 195, 3) := by decide +kernel
theorem dX6_best_21 : decode cX6_best 21 = .ok (.ireturn, 1) := by decide +kernel
set_option maxRecDepth 20000 in
theorem ggX6_sheet_X4_has : GoodIn wsX6_sheet wsX4_has := goodIn_r _ [8, 9, 16, 17, 18, 19, 20, 21, 22, 23, 24] (by decide +kernel) (by decide +kernel)
set_option maxRecDepth 20000 in
theorem gX6_sheet_X4_has : GoodIn wsX6_sheet (wsV RX6 157 RX4 yX4_has wsX4_has) := goodIn_app (goodIn_of _ (by decide +kernel)) ggX6_sheet_X4_has
theorem dX6_sheet_0 : decode cX6_sheet 0 = .ok (.aload_n 0, 1) := by decide +kernel
theorem dX6_sheet_1 : decode cX6_sheet 1 = .ok (.getfield 49, 3) := by decide +kernel
theorem dX6_sheet_4 : decode cX6_sheet 4 = .ok (.iload_n 1, 1) := by decide +kernel
theorem dX6_sheet_5 : decode cX6_sheet 5 = .ok (.invokevirtual 157, 3) := by decide +kernel
theorem dX6_sheet_8 : decode cX6_sheet 8 = .ok (.ifCond .ne 5, 3) := by decide +kernel
theorem dX6_sheet_11 : decode cX6_sheet 11 = .ok (.iconst (-1), 1) := by decide +kernel
theorem dX6_sheet_12 : decode cX6_sheet 12 = .ok (.ireturn, 1) := by decide +kernel
theorem dX6_sheet_13 : decode cX6_sheet 13 = .ok (.iload_n 2, 1) := by decide +kernel
theorem dX6_sheet_14 : decode cX6_sheet 14 = .ok (.lookupswitch 46 #[(0, 26), (1, 36)], 26) := by decide +kernel
theorem dX6_sheet_40 : decode cX6_sheet 40 = .ok (.aload_n 0, 1) := by decide +kernel
theorem dX6_sheet_41 : decode cX6_sheet 41 = .ok (.getfield 49, 3) := by decide +kernel
theorem dX6_sheet_44 : decode cX6_sheet 44 = .ok (.getfield 198, 3) := by decide +kernel
theorem dX6_sheet_47 : decode cX6_sheet 47 = .ok (.iload_n 1, 1) := by decide +kernel
theorem dX6_sheet_48 : decode cX6_sheet 48 = .ok (.iaload, 1) := by decide +kernel
theorem dX6_sheet_49 : decode cX6_sheet 49 = .ok (.ireturn, 1) := by decide +kernel
theorem dX6_sheet_50 : decode cX6_sheet 50 = .ok (.aload_n 0, 1) := by decide +kernel
theorem dX6_sheet_51 : decode cX6_sheet 51 = .ok (.getfield 49, 3) := by decide +kernel
theorem dX6_sheet_54 : decode cX6_sheet 54 = .ok (.getfield 201, 3) := by decide +kernel
theorem dX6_sheet_57 : decode cX6_sheet 57 = .ok (.iload_n 1, 1) := by decide +kernel
theorem dX6_sheet_58 : decode cX6_sheet 58 = .ok (.iaload, 1) := by decide +kernel
theorem dX6_sheet_59 : decode cX6_sheet 59 = .ok (.ireturn, 1) := by decide +kernel
theorem dX6_sheet_60 : decode cX6_sheet 60 = .ok (.iconst (-1), 1) := by decide +kernel
theorem dX6_sheet_61 : decode cX6_sheet 61 = .ok (.ireturn, 1) := by decide +kernel
theorem dX6_within_0 : decode cX6_within 0 = .ok (.dload_n 0, 1) := by decide +kernel
theorem dX6_within_1 : decode cX6_within 1 = .ok (.dload_n 2, 1) := by decide +kernel
theorem dX6_within_2 : decode cX6_within 2 = .ok (.dcmp .l, 1) := by decide +kernel
theorem dX6_within_3 : decode cX6_within 3 = .ok (.ifCond .lt 14, 3) := by decide +kernel
theorem dX6_within_6 : decode cX6_within 6 = .ok (.dload_n 0, 1) := by decide +kernel
theorem dX6_within_7 : decode cX6_within 7 = .ok (.dload 4, 2) := by decide +kernel
theorem dX6_within_9 : decode cX6_within 9 = .ok (.dcmp .g, 1) := by decide +kernel
theorem dX6_within_10 : decode cX6_within 10 = .ok (.ifCond .gt 7, 3) := by decide +kernel
theorem dX6_within_13 : decode cX6_within 13 = .ok (.iconst 1, 1) := by decide +kernel
theorem dX6_within_14 : decode cX6_within 14 = .ok (.goto 4, 3) := by decide +kernel
theorem dX6_within_17 : decode cX6_within 17 = .ok (.iconst 0, 1) := by decide +kernel
theorem dX6_within_18 : decode cX6_within 18 = .ok (.ireturn, 1) := by decide +kernel
set_option maxRecDepth 20000 in
theorem ggX6_isPlace_X6_within : GoodIn wsX6_isPlace wsX6_within := goodIn_r _ [6] (by decide +kernel) (by decide +kernel)
set_option maxRecDepth 20000 in
theorem gX6_isPlace_X6_within : GoodIn wsX6_isPlace (va_wsS RX6 74 yX6_within wsX6_within) := goodIn_app (goodIn_of _ (by decide +kernel)) ggX6_isPlace_X6_within
theorem dX6_isPlace_0 : decode cX6_isPlace 0 = .ok (.dload_n 0, 1) := by decide +kernel
theorem dX6_isPlace_1 : decode cX6_isPlace 1 = .ok (.ldc2_w 204, 3) := by decide +kernel
theorem dX6_isPlace_4 : decode cX6_isPlace 4 = .ok (.ldc2_w 72, 3) := by decide +kernel
theorem dX6_isPlace_7 : decode cX6_isPlace 7 = .ok (.invokestatic 74, 3) := by decide +kernel
theorem dX6_isPlace_10 : decode cX6_isPlace 10 = .ok (.ireturn, 1) := by decide +kernel
theorem dX6_isAxis_0 : decode cX6_isAxis 0 = .ok (.iload_n 0, 1) := by decide +kernel
theorem dX6_isAxis_1 : decode cX6_isAxis 1 = .ok (.ifCond .lt 12, 3) := by decide +kernel
theorem dX6_isAxis_4 : decode cX6_isAxis 4 = .ok (.iload_n 0, 1) := by decide +kernel
theorem dX6_isAxis_5 : decode cX6_isAxis 5 = .ok (.iconst 3, 1) := by decide +kernel
theorem dX6_isAxis_6 : decode cX6_isAxis 6 = .ok (.if_icmp .ge 7, 3) := by decide +kernel
theorem dX6_isAxis_9 : decode cX6_isAxis 9 = .ok (.iconst 1, 1) := by decide +kernel
theorem dX6_isAxis_10 : decode cX6_isAxis 10 = .ok (.goto 4, 3) := by decide +kernel
theorem dX6_isAxis_13 : decode cX6_isAxis 13 = .ok (.iconst 0, 1) := by decide +kernel
theorem dX6_isAxis_14 : decode cX6_isAxis 14 = .ok (.ireturn, 1) := by decide +kernel
theorem dX6_isPanelWidth_0 : decode cX6_isPanelWidth 0 = .ok (.iload_n 0, 1) := by decide +kernel
theorem dX6_isPanelWidth_1 : decode cX6_isPanelWidth 1 = .ok (.iconst 1, 1) := by decide +kernel
theorem dX6_isPanelWidth_2 : decode cX6_isPanelWidth 2 = .ok (.if_icmp .lt 14, 3) := by decide +kernel
theorem dX6_isPanelWidth_5 : decode cX6_isPanelWidth 5 = .ok (.iload_n 0, 1) := by decide +kernel
theorem dX6_isPanelWidth_6 : decode cX6_isPanelWidth 6 = .ok (.sipush 400, 3) := by decide +kernel
theorem dX6_isPanelWidth_9 : decode cX6_isPanelWidth 9 = .ok (.if_icmp .gt 7, 3) := by decide +kernel
theorem dX6_isPanelWidth_12 : decode cX6_isPanelWidth 12 = .ok (.iconst 1, 1) := by decide +kernel
theorem dX6_isPanelWidth_13 : decode cX6_isPanelWidth 13 = .ok (.goto 4, 3) := by decide +kernel
theorem dX6_isPanelWidth_16 : decode cX6_isPanelWidth 16 = .ok (.iconst 0, 1) := by decide +kernel
theorem dX6_isPanelWidth_17 : decode cX6_isPanelWidth 17 = .ok (.ireturn, 1) := by decide +kernel
theorem dX6_eighthOfTurn_0 : decode cX6_eighthOfTurn 0 = .ok (.iconst 0, 1) := by decide +kernel
theorem dX6_eighthOfTurn_1 : decode cX6_eighthOfTurn 1 = .ok (.istore_n 2, 1) := by decide +kernel
theorem dX6_eighthOfTurn_2 : decode cX6_eighthOfTurn 2 = .ok (.iload_n 2, 1) := by decide +kernel
theorem dX6_eighthOfTurn_3 : decode cX6_eighthOfTurn 3 = .ok (.bipush 8, 2) := by decide +kernel
theorem dX6_eighthOfTurn_5 : decode cX6_eighthOfTurn 5 = .ok (.if_icmp .ge 21, 3) := by decide +kernel
theorem dX6_eighthOfTurn_8 : decode cX6_eighthOfTurn 8 = .ok (.dload_n 0, 1) := by decide +kernel
theorem dX6_eighthOfTurn_9 : decode cX6_eighthOfTurn 9 = .ok (.bipush 45, 2) := by decide +kernel
theorem dX6_eighthOfTurn_11 : decode cX6_eighthOfTurn 11 = .ok (.iload_n 2, 1) := by decide +kernel
theorem dX6_eighthOfTurn_12 : decode cX6_eighthOfTurn 12 = .ok (.imul, 1) := by decide +kernel
theorem dX6_eighthOfTurn_13 : decode cX6_eighthOfTurn 13 = .ok (.i2d, 1) := by decide +kernel
theorem dX6_eighthOfTurn_14 : decode cX6_eighthOfTurn 14 = .ok (.dcmp .l, 1) := by decide +kernel
theorem dX6_eighthOfTurn_15 : decode cX6_eighthOfTurn 15 = .ok (.ifCond .ne 5, 3) := by decide +kernel
theorem dX6_eighthOfTurn_18 : decode cX6_eighthOfTurn 18 = .ok (.iload_n 2, 1) := by decide +kernel
theorem dX6_eighthOfTurn_19 : decode cX6_eighthOfTurn 19 = .ok (.ireturn, 1) := by decide +kernel
theorem dX6_eighthOfTurn_20 : decode cX6_eighthOfTurn 20 = .ok (.iinc 2 1, 3) := by decide +kernel
theorem dX6_eighthOfTurn_23 : decode cX6_eighthOfTurn 23 = .ok (.goto (-21), 3) := by decide +kernel
theorem dX6_eighthOfTurn_26 : decode cX6_eighthOfTurn 26 = .ok (.iconst (-1), 1) := by decide +kernel
theorem dX6_eighthOfTurn_27 : decode cX6_eighthOfTurn 27 = .ok (.ireturn, 1) := by decide +kernel
theorem dX6_partTowardsX_0 : decode cX6_partTowardsX 0 = .ok (.dload_n 0, 1) := by decide +kernel
theorem dX6_partTowardsX_1 : decode cX6_partTowardsX 1 = .ok (.ldc2_w 206, 3) := by decide +kernel
theorem dX6_partTowardsX_4 : decode cX6_partTowardsX 4 = .ok (.dmul, 1) := by decide +kernel
theorem dX6_partTowardsX_5 : decode cX6_partTowardsX 5 = .ok (.dstore_n 3, 1) := by decide +kernel
theorem dX6_partTowardsX_6 : decode cX6_partTowardsX 6 = .ok (.iload_n 2, 1) := by decide +kernel
theorem dX6_partTowardsX_7 : decode cX6_partTowardsX 7 = .ok (.tableswitch 57 0 7 #[45, 47, 57, 49, 53, 49, 57, 47], 45) := by decide +kernel
theorem dX6_partTowardsX_52 : decode cX6_partTowardsX 52 = .ok (.dload_n 0, 1) := by decide +kernel
theorem dX6_partTowardsX_53 : decode cX6_partTowardsX 53 = .ok (.dreturn, 1) := by decide +kernel
theorem dX6_partTowardsX_54 : decode cX6_partTowardsX 54 = .ok (.dload_n 3, 1) := by decide +kernel
theorem dX6_partTowardsX_55 : decode cX6_partTowardsX 55 = .ok (.dreturn, 1) := by decide +kernel
theorem dX6_partTowardsX_56 : decode cX6_partTowardsX 56 = .ok (.dconst 0, 1) := by decide +kernel
theorem dX6_partTowardsX_57 : decode cX6_partTowardsX 57 = .ok (.dload_n 3, 1) := by decide +kernel
theorem dX6_partTowardsX_58 : decode cX6_partTowardsX 58 = .ok (.dsub, 1) := by decide +kernel
theorem dX6_partTowardsX_59 : decode cX6_partTowardsX 59 = .ok (.dreturn, 1) := by decide +kernel
theorem dX6_partTowardsX_60 : decode cX6_partTowardsX 60 = .ok (.dconst 0, 1) := by decide +kernel
theorem dX6_partTowardsX_61 : decode cX6_partTowardsX 61 = .ok (.dload_n 0, 1) := by decide +kernel
theorem dX6_partTowardsX_62 : decode cX6_partTowardsX 62 = .ok (.dsub, 1) := by decide +kernel
theorem dX6_partTowardsX_63 : decode cX6_partTowardsX 63 = .ok (.dreturn, 1) := by decide +kernel
theorem dX6_partTowardsX_64 : decode cX6_partTowardsX 64 = .ok (.dconst 0, 1) := by decide +kernel
theorem dX6_partTowardsX_65 : decode cX6_partTowardsX 65 = .ok (.dreturn, 1) := by decide +kernel
theorem dX6_size_0 : decode cX6_size 0 = .ok (.dload_n 0, 1) := by decide +kernel
theorem dX6_size_1 : decode cX6_size 1 = .ok (.dconst 0, 1) := by decide +kernel
theorem dX6_size_2 : decode cX6_size 2 = .ok (.dcmp .g, 1) := by decide +kernel
theorem dX6_size_3 : decode cX6_size 3 = .ok (.ifCond .ge 8, 3) := by decide +kernel
theorem dX6_size_6 : decode cX6_size 6 = .ok (.dload_n 0, 1) := by decide +kernel
theorem dX6_size_7 : decode cX6_size 7 = .ok (.dneg, 1) := by decide +kernel
theorem dX6_size_8 : decode cX6_size 8 = .ok (.goto 4, 3) := by decide +kernel
theorem dX6_size_11 : decode cX6_size 11 = .ok (.dload_n 0, 1) := by decide +kernel
theorem dX6_size_12 : decode cX6_size 12 = .ok (.dreturn, 1) := by decide +kernel
theorem dX6_root_0 : decode cX6_root 0 = .ok (.dload_n 0, 1) := by decide +kernel
theorem dX6_root_1 : decode cX6_root 1 = .ok (.dconst 0, 1) := by decide +kernel
theorem dX6_root_2 : decode cX6_root 2 = .ok (.dcmp .l, 1) := by decide +kernel
theorem dX6_root_3 : decode cX6_root 3 = .ok (.ifCond .gt 5, 3) := by decide +kernel
theorem dX6_root_6 : decode cX6_root 6 = .ok (.dconst 0, 1) := by decide +kernel
theorem dX6_root_7 : decode cX6_root 7 = .ok (.dreturn, 1) := by decide +kernel
theorem dX6_root_8 : decode cX6_root 8 = .ok (.ldc2_w 208, 3) := by decide +kernel
theorem dX6_root_11 : decode cX6_root 11 = .ok (.dload_n 0, 1) := by decide +kernel
theorem dX6_root_12 : decode cX6_root 12 = .ok (.dconst 1, 1) := by decide +kernel
theorem dX6_root_13 : decode cX6_root 13 = .ok (.dadd, 1) := by decide +kernel
theorem dX6_root_14 : decode cX6_root 14 = .ok (.dmul, 1) := by decide +kernel
theorem dX6_root_15 : decode cX6_root 15 = .ok (.dstore_n 2, 1) := by decide +kernel
theorem dX6_root_16 : decode cX6_root 16 = .ok (.iconst 0, 1) := by decide +kernel
theorem dX6_root_17 : decode cX6_root 17 = .ok (.istore 4, 2) := by decide +kernel
theorem dX6_root_19 : decode cX6_root 19 = .ok (.iload 4, 2) := by decide +kernel
theorem dX6_root_21 : decode cX6_root 21 = .ok (.bipush 30, 2) := by decide +kernel
theorem dX6_root_23 : decode cX6_root 23 = .ok (.if_icmp .ge 32, 3) := by decide +kernel
theorem dX6_root_26 : decode cX6_root 26 = .ok (.ldc2_w 208, 3) := by decide +kernel
theorem dX6_root_29 : decode cX6_root 29 = .ok (.dload_n 2, 1) := by decide +kernel
theorem dX6_root_30 : decode cX6_root 30 = .ok (.dload_n 0, 1) := by decide +kernel
theorem dX6_root_31 : decode cX6_root 31 = .ok (.dload_n 2, 1) := by decide +kernel
theorem dX6_root_32 : decode cX6_root 32 = .ok (.ddiv, 1) := by decide +kernel
theorem dX6_root_33 : decode cX6_root 33 = .ok (.dadd, 1) := by decide +kernel
theorem dX6_root_34 : decode cX6_root 34 = .ok (.dmul, 1) := by decide +kernel
theorem dX6_root_35 : decode cX6_root 35 = .ok (.dstore 5, 2) := by decide +kernel
theorem dX6_root_37 : decode cX6_root 37 = .ok (.dload 5, 2) := by decide +kernel
theorem dX6_root_39 : decode cX6_root 39 = .ok (.dload_n 2, 1) := by decide +kernel
theorem dX6_root_40 : decode cX6_root 40 = .ok (.dcmp .l, 1) := by decide +kernel
theorem dX6_root_41 : decode cX6_root 41 = .ok (.ifCond .ne 5, 3) := by decide +kernel
theorem dX6_root_44 : decode cX6_root 44 = .ok (.dload_n 2, 1) := by decide +kernel
theorem dX6_root_45 : decode cX6_root 45 = .ok (.dreturn, 1) := by decide +kernel
theorem dX6_root_46 : decode cX6_root 46 = .ok (.dload 5, 2) := by decide +kernel
theorem dX6_root_48 : decode cX6_root 48 = .ok (.dstore_n 2, 1) := by decide +kernel
theorem dX6_root_49 : decode cX6_root 49 = .ok (.iinc 4 1, 3) := by decide +kernel
theorem dX6_root_52 : decode cX6_root 52 = .ok (.goto (-33), 3) := by decide +kernel
theorem dX6_root_55 : decode cX6_root 55 = .ok (.dload_n 2, 1) := by decide +kernel
theorem dX6_root_56 : decode cX6_root 56 = .ok (.dreturn, 1) := by decide +kernel
