theorem dX0_init_0 : decode cX0_init 0 = .ok (.aload_n 0, 1) := by decide +kernel
theorem dX0_init_1 : decode cX0_init 1 = .ok (.invokespecial 3, 3) := by decide +kernel
theorem dX0_init_4 : decode cX0_init 4 = .ok (.aload_n 0, 1) := by decide +kernel
theorem dX0_init_5 : decode cX0_init 5 = .ok (.iconst 3, 1) := by decide +kernel
theorem dX0_init_6 : decode cX0_init 6 = .ok (.newarray .double, 2) := by decide +kernel
theorem dX0_init_8 : decode cX0_init 8 = .ok (.putfield 9, 3) := by decide +kernel
theorem dX0_init_11 : decode cX0_init 11 = .ok (.aload_n 0, 1) := by decide +kernel
theorem dX0_init_12 : decode cX0_init 12 = .ok (.ldc2_w 15, 3) := by decide +kernel
theorem dX0_init_15 : decode cX0_init 15 = .ok (.putfield 17, 3) := by decide +kernel
theorem dX0_init_18 : decode cX0_init 18 = .ok (.aload_n 0, 1) := by decide +kernel
theorem dX0_init_19 : decode cX0_init 19 = .ok (.iconst 3, 1) := by decide +kernel
theorem dX0_init_20 : decode cX0_init 20 = .ok (.newarray .double, 2) := by decide +kernel
theorem dX0_init_22 : decode cX0_init 22 = .ok (.putfield 21, 3) := by decide +kernel
theorem dX0_init_25 : decode cX0_init 25 = .ok (.aload_n 0, 1) := by decide +kernel
theorem dX0_init_26 : decode cX0_init 26 = .ok (.iconst 3, 1) := by decide +kernel
theorem dX0_init_27 : decode cX0_init 27 = .ok (.newarray .double, 2) := by decide +kernel
theorem dX0_init_29 : decode cX0_init 29 = .ok (.putfield 24, 3) := by decide +kernel
theorem dX0_init_32 : decode cX0_init 32 = .ok (.aload_n 0, 1) := by decide +kernel
theorem dX0_init_33 : decode cX0_init 33 = .ok (.aload_n 1, 1) := by decide +kernel
theorem dX0_init_34 : decode cX0_init 34 = .ok (.putfield 27, 3) := by decide +kernel
theorem dX0_init_37 : decode cX0_init 37 = .ok (.aload_n 0, 1) := by decide +kernel
theorem dX0_init_38 : decode cX0_init 38 = .ok (.aload_n 2, 1) := by decide +kernel
theorem dX0_init_39 : decode cX0_init 39 = .ok (.putfield 31, 3) := by decide +kernel
theorem dX0_init_42 : decode cX0_init 42 = .ok (.aload_n 0, 1) := by decide +kernel
theorem dX0_init_43 : decode cX0_init 43 = .ok (.aload_n 3, 1) := by decide +kernel
theorem dX0_init_44 : decode cX0_init 44 = .ok (.putfield 35, 3) := by decide +kernel
theorem dX0_init_47 : decode cX0_init 47 = .ok (.return_, 1) := by decide +kernel
set_option maxRecDepth 20000 in
theorem ggX0_comesInRound_X3_startForces : GoodIn wsX0_comesInRound wsX3_startForces := goodIn_r _ [10, 11, 12, 13, 14, 103, 104, 105, 106, 107, 108] (by decide +kernel) (by decide +kernel)
set_option maxRecDepth 20000 in
theorem gX0_comesInRound_X3_startForces : GoodIn wsX0_comesInRound (wsV RX0 39 RX3 yX3_startForces wsX3_startForces) := goodIn_app (goodIn_of _ (by decide +kernel)) ggX0_comesInRound_X3_startForces
set_option maxRecDepth 20000 in
theorem ggX0_comesInRound_X0_measure : GoodIn wsX0_comesInRound wsX0_measure := goodIn_r _ [19, 1, 20, 21, 3, 22, 23, 24, 25, 18, 26, 27, 28, 29, 30, 89, 90, 91, 92, 93, 94, 95, 103, 104, 105, 106, 107, 108, 96, 97, 98, 99, 100, 101, 102] (by decide +kernel) (by decide +kernel)
set_option maxRecDepth 20000 in
theorem gX0_comesInRound_X0_measure : GoodIn wsX0_comesInRound (wsV RX0 50 RX0 yX0_measure wsX0_measure) := goodIn_app (goodIn_of _ (by decide +kernel)) ggX0_comesInRound_X0_measure
set_option maxRecDepth 20000 in
theorem ggX0_comesInRound_X0_tighten : GoodIn wsX0_comesInRound wsX0_tighten := goodIn_r _ [34, 3, 35, 36, 37, 1, 38, 23, 21, 22, 89, 90, 91, 92, 93, 94, 95, 96, 97, 98, 99, 100, 101, 102, 103, 104, 105, 106, 107, 108] (by decide +kernel) (by decide +kernel)
set_option maxRecDepth 20000 in
theorem gX0_comesInRound_X0_tighten : GoodIn wsX0_comesInRound (wsV RX0 54 RX0 yX0_tighten wsX0_tighten) := goodIn_app (goodIn_of _ (by decide +kernel)) ggX0_comesInRound_X0_tighten
set_option maxRecDepth 20000 in
theorem ggX0_comesInRound_X0_wash : GoodIn wsX0_comesInRound wsX0_wash := goodIn_r _ [42, 43, 3, 44, 45, 46, 35, 47, 2, 48, 1, 38, 23, 22, 49, 50, 51, 18, 52, 20, 53, 54, 55, 21, 56, 57, 58, 59, 60, 61, 62, 63, 64, 65, 66, 67, 68, 69, 70, 71, 24, 25, 26, 27, 28, 29, 30, 89, 90, 91, 92, 93, 94, 95, 96, 97, 98, 99, 100, 101, 102, 109, 110, 111, 112, 113, 114, 103, 104, 105, 106, 107, 108] (by decide +kernel) (by decide +kernel)
set_option maxRecDepth 20000 in
theorem gX0_comesInRound_X0_wash : GoodIn wsX0_comesInRound (wsV RX0 58 RX0 yX0_wash wsX0_wash) := goodIn_app (goodIn_of _ (by decide +kernel)) ggX0_comesInRound_X0_wash
set_option maxRecDepth 20000 in
theorem ggX0_comesInRound_X3_greatestForce : GoodIn wsX0_comesInRound wsX3_greatestForce := goodIn_r _ [75, 11, 76, 12, 77, 28, 78, 103, 104, 105, 106, 107, 108] (by decide +kernel) (by decide +kernel)
set_option maxRecDepth 20000 in
theorem gX0_comesInRound_X3_greatestForce : GoodIn wsX0_comesInRound (wsV RX0 61 RX3 yX3_greatestForce wsX3_greatestForce) := goodIn_app (goodIn_of _ (by decide +kernel)) ggX0_comesInRound_X3_greatestForce
set_option maxRecDepth 20000 in
theorem ggX0_comesInRound_X3_giveWay : GoodIn wsX0_comesInRound wsX3_giveWay := goodIn_r _ [82, 11, 76, 83, 12, 84, 85, 9, 86, 87, 88, 103, 104, 105, 106, 107, 108] (by decide +kernel) (by decide +kernel)
set_option maxRecDepth 20000 in
theorem gX0_comesInRound_X3_giveWay : GoodIn wsX0_comesInRound (wsV RX0 64 RX3 yX3_giveWay wsX3_giveWay) := goodIn_app (goodIn_of _ (by decide +kernel)) ggX0_comesInRound_X3_giveWay
theorem dX0_comesInRound_0 : decode cX0_comesInRound 0 = .ok (.aload_n 0, 1) := by decide +kernel
theorem dX0_comesInRound_1 : decode cX0_comesInRound 1 = .ok (.getfield 27, 3) := by decide +kernel
theorem dX0_comesInRound_4 : decode cX0_comesInRound 4 = .ok (.invokevirtual 39, 3) := by decide +kernel
theorem dX0_comesInRound_7 : decode cX0_comesInRound 7 = .ok (.iconst 0, 1) := by decide +kernel
theorem dX0_comesInRound_8 : decode cX0_comesInRound 8 = .ok (.istore_n 1, 1) := by decide +kernel
theorem dX0_comesInRound_9 : decode cX0_comesInRound 9 = .ok (.iload_n 1, 1) := by decide +kernel
theorem dX0_comesInRound_10 : decode cX0_comesInRound 10 = .ok (.iconst 3, 1) := by decide +kernel
theorem dX0_comesInRound_11 : decode cX0_comesInRound 11 = .ok (.if_icmp .ge 16, 3) := by decide +kernel
theorem dX0_comesInRound_14 : decode cX0_comesInRound 14 = .ok (.aload_n 0, 1) := by decide +kernel
theorem dX0_comesInRound_15 : decode cX0_comesInRound 15 = .ok (.getfield 9, 3) := by decide +kernel
theorem dX0_comesInRound_18 : decode cX0_comesInRound 18 = .ok (.iload_n 1, 1) := by decide +kernel
theorem dX0_comesInRound_19 : decode cX0_comesInRound 19 = .ok (.dconst 0, 1) := by decide +kernel
theorem dX0_comesInRound_20 : decode cX0_comesInRound 20 = .ok (.dastore, 1) := by decide +kernel
theorem dX0_comesInRound_21 : decode cX0_comesInRound 21 = .ok (.iinc 1 1, 3) := by decide +kernel
theorem dX0_comesInRound_24 : decode cX0_comesInRound 24 = .ok (.goto (-15), 3) := by decide +kernel
theorem dX0_comesInRound_27 : decode cX0_comesInRound 27 = .ok (.iconst 0, 1) := by decide +kernel
theorem dX0_comesInRound_28 : decode cX0_comesInRound 28 = .ok (.istore_n 1, 1) := by decide +kernel
theorem dX0_comesInRound_29 : decode cX0_comesInRound 29 = .ok (.iload_n 1, 1) := by decide +kernel
theorem dX0_comesInRound_30 : decode cX0_comesInRound 30 = .ok (.aload_n 0, 1) := by decide +kernel
theorem dX0_comesInRound_31 : decode cX0_comesInRound 31 = .ok (.getfield 31, 3) := by decide +kernel
theorem dX0_comesInRound_34 : decode cX0_comesInRound 34 = .ok (.getfield 44, 3) := by decide +kernel
theorem dX0_comesInRound_37 : decode cX0_comesInRound 37 = .ok (.if_icmp .ge 33, 3) := by decide +kernel
theorem dX0_comesInRound_40 : decode cX0_comesInRound 40 = .ok (.aload_n 0, 1) := by decide +kernel
theorem dX0_comesInRound_41 : decode cX0_comesInRound 41 = .ok (.iload_n 1, 1) := by decide +kernel
theorem dX0_comesInRound_42 : decode cX0_comesInRound 42 = .ok (.invokevirtual 50, 3) := by decide +kernel
theorem dX0_comesInRound_45 : decode cX0_comesInRound 45 = .ok (.dstore_n 2, 1) := by decide +kernel
theorem dX0_comesInRound_46 : decode cX0_comesInRound 46 = .ok (.aload_n 0, 1) := by decide +kernel
theorem dX0_comesInRound_47 : decode cX0_comesInRound 47 = .ok (.iload_n 1, 1) := by decide +kernel
theorem dX0_comesInRound_48 : decode cX0_comesInRound 48 = .ok (.dload_n 2, 1) := by decide +kernel
theorem dX0_comesInRound_49 : decode cX0_comesInRound 49 = .ok (.invokevirtual 54, 3) := by decide +kernel
theorem dX0_comesInRound_52 : decode cX0_comesInRound 52 = .ok (.dload_n 2, 1) := by decide +kernel
theorem dX0_comesInRound_53 : decode cX0_comesInRound 53 = .ok (.dconst 0, 1) := by decide +kernel
theorem dX0_comesInRound_54 : decode cX0_comesInRound 54 = .ok (.dcmp .l, 1) := by decide +kernel
theorem dX0_comesInRound_55 : decode cX0_comesInRound 55 = .ok (.ifCond .le 9, 3) := by decide +kernel
theorem dX0_comesInRound_58 : decode cX0_comesInRound 58 = .ok (.aload_n 0, 1) := by decide +kernel
theorem dX0_comesInRound_59 : decode cX0_comesInRound 59 = .ok (.iload_n 1, 1) := by decide +kernel
theorem dX0_comesInRound_60 : decode cX0_comesInRound 60 = .ok (.dload_n 2, 1) := by decide +kernel
theorem dX0_comesInRound_61 : decode cX0_comesInRound 61 = .ok (.invokevirtual 58, 3) := by decide +kernel
theorem dX0_comesInRound_64 : decode cX0_comesInRound 64 = .ok (.iinc 1 1, 3) := by decide +kernel
theorem dX0_comesInRound_67 : decode cX0_comesInRound 67 = .ok (.goto (-38), 3) := by decide +kernel
theorem dX0_comesInRound_70 : decode cX0_comesInRound 70 = .ok (.aload_n 0, 1) := by decide +kernel
theorem dX0_comesInRound_71 : decode cX0_comesInRound 71 = .ok (.aload_n 0, 1) := by decide +kernel
theorem dX0_comesInRound_72 : decode cX0_comesInRound 72 = .ok (.getfield 27, 3) := by decide +kernel
theorem dX0_comesInRound_75 : decode cX0_comesInRound 75 = .ok (.invokevirtual 61, 3) := by decide +kernel
theorem dX0_comesInRound_78 : decode cX0_comesInRound 78 = .ok (.putfield 17, 3) := by decide +kernel
theorem dX0_comesInRound_81 : decode cX0_comesInRound 81 = .ok (.aload_n 0, 1) := by decide +kernel
theorem dX0_comesInRound_82 : decode cX0_comesInRound 82 = .ok (.getfield 17, 3) := by decide +kernel
theorem dX0_comesInRound_85 : decode cX0_comesInRound 85 = .ok (.dconst 1, 1) := by decide +kernel
theorem dX0_comesInRound_86 : decode cX0_comesInRound 86 = .ok (.dcmp .g, 1) := by decide +kernel
theorem dX0_comesInRound_87 : decode cX0_comesInRound 87 = .ok (.ifCond .ge 5, 3) := by decide +kernel
theorem dX0_comesInRound_90 : decode cX0_comesInRound 90 = .ok (.iconst 1, 1) := by decide +kernel
theorem dX0_comesInRound_91 : decode cX0_comesInRound 91 = .ok (.ireturn, 1) := by decide +kernel
theorem dX0_comesInRound_92 : decode cX0_comesInRound 92 = .ok (.aload_n 0, 1) := by decide +kernel
theorem dX0_comesInRound_93 : decode cX0_comesInRound 93 = .ok (.getfield 27, 3) := by decide +kernel
theorem dX0_comesInRound_96 : decode cX0_comesInRound 96 = .ok (.invokevirtual 64, 3) := by decide +kernel
theorem dX0_comesInRound_99 : decode cX0_comesInRound 99 = .ok (.iconst 0, 1) := by decide +kernel
theorem dX0_comesInRound_100 : decode cX0_comesInRound 100 = .ok (.ireturn, 1) := by decide +kernel
set_option maxRecDepth 20000 in
theorem ggX0_measure_X0_lengthOf : GoodIn wsX0_measure wsX0_lengthOf := goodIn_r _ [10, 11, 12, 13, 14] (by decide +kernel) (by decide +kernel)
set_option maxRecDepth 20000 in
theorem gX0_measure_X0_lengthOf : GoodIn wsX0_measure (va_wsS RX0 78 yX0_lengthOf wsX0_lengthOf) := goodIn_app (goodIn_of _ (by decide +kernel)) ggX0_measure_X0_lengthOf
theorem dX0_measure_0 : decode cX0_measure 0 = .ok (.iconst 0, 1) := by decide +kernel
theorem dX0_measure_1 : decode cX0_measure 1 = .ok (.istore_n 2, 1) := by decide +kernel
theorem dX0_measure_2 : decode cX0_measure 2 = .ok (.iload_n 2, 1) := by decide +kernel
theorem dX0_measure_3 : decode cX0_measure 3 = .ok (.iconst 3, 1) := by decide +kernel
theorem dX0_measure_4 : decode cX0_measure 4 = .ok (.if_icmp .ge 48, 3) := by decide +kernel
theorem dX0_measure_7 : decode cX0_measure 7 = .ok (.aload_n 0, 1) := by decide +kernel
theorem dX0_measure_8 : decode cX0_measure 8 = .ok (.getfield 27, 3) := by decide +kernel
theorem dX0_measure_11 : decode cX0_measure 11 = .ok (.getfield 67, 3) := by decide +kernel
theorem dX0_measure_14 : decode cX0_measure 14 = .ok (.iload_n 2, 1) := by decide +kernel
theorem dX0_measure_15 : decode cX0_measure 15 = .ok (.aaload, 1) := by decide +kernel
theorem dX0_measure_16 : decode cX0_measure 16 = .ok (.astore_n 3, 1) := by decide +kernel
theorem dX0_measure_17 : decode cX0_measure 17 = .ok (.aload_n 0, 1) := by decide +kernel
theorem dX0_measure_18 : decode cX0_measure 18 = .ok (.getfield 21, 3) := by decide +kernel
theorem dX0_measure_21 : decode cX0_measure 21 = .ok (.iload_n 2, 1) := by decide +kernel
theorem dX0_measure_22 : decode cX0_measure 22 = .ok (.aload_n 3, 1) := by decide +kernel
theorem dX0_measure_23 : decode cX0_measure 23 = .ok (.aload_n 0, 1) := by decide +kernel
theorem dX0_measure_24 : decode cX0_measure 24 = .ok (.getfield 31, 3) := by decide +kernel
theorem dX0_measure_27 : decode cX0_measure 27 = .ok (.getfield 71, 3) := by decide +kernel
theorem dX0_measure_30 : decode cX0_measure 30 = .ok (.iload_n 1, 1) := by decide +kernel
theorem dX0_measure_31 : decode cX0_measure 31 = .ok (.iaload, 1) := by decide +kernel
theorem dX0_measure_32 : decode cX0_measure 32 = .ok (.daload, 1) := by decide +kernel
theorem dX0_measure_33 : decode cX0_measure 33 = .ok (.aload_n 3, 1) := by decide +kernel
theorem dX0_measure_34 : decode cX0_measure 34 = .ok (.aload_n 0, 1) := by decide +kernel
theorem dX0_measure_35 : decode cX0_measure 35 = .ok (.getfield 31, 3) := by decide +kernel
theorem dX0_measure_38 : decode cX0_measure 38 = .ok (.getfield 75, 3) := by decide +kernel
theorem dX0_measure_41 : decode cX0_measure 41 = .ok (.iload_n 1, 1) := by decide +kernel
theorem dX0_measure_42 : decode cX0_measure 42 = .ok (.iaload, 1) := by decide +kernel
theorem dX0_measure_43 : decode cX0_measure 43 = .ok (.daload, 1) := by decide +kernel
theorem dX0_measure_44 : decode cX0_measure 44 = .ok (.dsub, 1) := by decide +kernel
theorem dX0_measure_45 : decode cX0_measure 45 = .ok (.dastore, 1) := by decide +kernel
theorem dX0_measure_46 : decode cX0_measure 46 = .ok (.iinc 2 1, 3) := by decide +kernel
theorem dX0_measure_49 : decode cX0_measure 49 = .ok (.goto (-47), 3) := by decide +kernel
theorem dX0_measure_52 : decode cX0_measure 52 = .ok (.aload_n 0, 1) := by decide +kernel
theorem dX0_measure_53 : decode cX0_measure 53 = .ok (.getfield 21, 3) := by decide +kernel
theorem dX0_measure_56 : decode cX0_measure 56 = .ok (.invokestatic 78, 3) := by decide +kernel
theorem dX0_measure_59 : decode cX0_measure 59 = .ok (.dreturn, 1) := by decide +kernel
set_option maxRecDepth 20000 in
theorem ggX0_lengthOf_X6_root : GoodIn wsX0_lengthOf wsX6_root := goodIn_r _ [3, 4] (by decide +kernel) (by decide +kernel)
set_option maxRecDepth 20000 in
theorem gX0_lengthOf_X6_root_n82 : GoodIn wsX0_lengthOf (wsX6_root) := ggX0_lengthOf_X6_root
theorem dX0_lengthOf_0 : decode cX0_lengthOf 0 = .ok (.aload_n 0, 1) := by decide +kernel
theorem dX0_lengthOf_1 : decode cX0_lengthOf 1 = .ok (.iconst 0, 1) := by decide +kernel
theorem dX0_lengthOf_2 : decode cX0_lengthOf 2 = .ok (.daload, 1) := by decide +kernel
theorem dX0_lengthOf_3 : decode cX0_lengthOf 3 = .ok (.aload_n 0, 1) := by decide +kernel
theorem dX0_lengthOf_4 : decode cX0_lengthOf 4 = .ok (.iconst 0, 1) := by decide +kernel
theorem dX0_lengthOf_5 : decode cX0_lengthOf 5 = .ok (.daload, 1) := by decide +kernel
theorem dX0_lengthOf_6 : decode cX0_lengthOf 6 = .ok (.dmul, 1) := by decide +kernel
theorem dX0_lengthOf_7 : decode cX0_lengthOf 7 = .ok (.aload_n 0, 1) := by decide +kernel
theorem dX0_lengthOf_8 : decode cX0_lengthOf 8 = .ok (.iconst 1, 1) := by decide +kernel
theorem dX0_lengthOf_9 : decode cX0_lengthOf 9 = .ok (.daload, 1) := by decide +kernel
theorem dX0_lengthOf_10 : decode cX0_lengthOf 10 = .ok (.aload_n 0, 1) := by decide +kernel
theorem dX0_lengthOf_11 : decode cX0_lengthOf 11 = .ok (.iconst 1, 1) := by decide +kernel
theorem dX0_lengthOf_12 : decode cX0_lengthOf 12 = .ok (.daload, 1) := by decide +kernel
theorem dX0_lengthOf_13 : decode cX0_lengthOf 13 = .ok (.dmul, 1) := by decide +kernel
theorem dX0_lengthOf_14 : decode cX0_lengthOf 14 = .ok (.dadd, 1) := by decide +kernel
theorem dX0_lengthOf_15 : decode cX0_lengthOf 15 = .ok (.aload_n 0, 1) := by decide +kernel
theorem dX0_lengthOf_16 : decode cX0_lengthOf 16 = .ok (.iconst 2, 1) := by decide +kernel
theorem dX0_lengthOf_17 : decode cX0_lengthOf 17 = .ok (.daload, 1) := by decide +kernel
theorem dX0_lengthOf_18 : decode cX0_lengthOf 18 = .ok (.aload_n 0, 1) := by decide +kernel
theorem dX0_lengthOf_19 : decode cX0_lengthOf 19 = .ok (.iconst 2, 1) := by decide +kernel
theorem dX0_lengthOf_20 : decode cX0_lengthOf 20 = .ok (.daload, 1) := by decide +kernel
theorem dX0_lengthOf_21 : decode cX0_lengthOf 21 = .ok (.dmul, 1) := by decide +kernel
theorem dX0_lengthOf_22 : decode cX0_lengthOf 22 = .ok (.dadd, 1) := by decide +kernel
theorem dX0_lengthOf_23 : decode cX0_lengthOf 23 = .ok (.invokestatic 82, 3) := by decide +kernel
theorem dX0_lengthOf_26 : decode cX0_lengthOf 26 = .ok (.dreturn, 1) := by decide +kernel
theorem dX0_tighten_0 : decode cX0_tighten 0 = .ok (.aload_n 0, 1) := by decide +kernel
theorem dX0_tighten_1 : decode cX0_tighten 1 = .ok (.getfield 31, 3) := by decide +kernel
theorem dX0_tighten_4 : decode cX0_tighten 4 = .ok (.getfield 86, 3) := by decide +kernel
theorem dX0_tighten_7 : decode cX0_tighten 7 = .ok (.iload_n 1, 1) := by decide +kernel
theorem dX0_tighten_8 : decode cX0_tighten 8 = .ok (.daload, 1) := by decide +kernel
theorem dX0_tighten_9 : decode cX0_tighten 9 = .ok (.dstore 4, 2) := by decide +kernel
theorem dX0_tighten_11 : decode cX0_tighten 11 = .ok (.dload_n 2, 1) := by decide +kernel
theorem dX0_tighten_12 : decode cX0_tighten 12 = .ok (.dload 4, 2) := by decide +kernel
theorem dX0_tighten_14 : decode cX0_tighten 14 = .ok (.dcmp .l, 1) := by decide +kernel
theorem dX0_tighten_15 : decode cX0_tighten 15 = .ok (.ifCond .le 17, 3) := by decide +kernel
theorem dX0_tighten_18 : decode cX0_tighten 18 = .ok (.ldc2_w 89, 3) := by decide +kernel
theorem dX0_tighten_21 : decode cX0_tighten 21 = .ok (.dload_n 2, 1) := by decide +kernel
theorem dX0_tighten_22 : decode cX0_tighten 22 = .ok (.dload 4, 2) := by decide +kernel
theorem dX0_tighten_24 : decode cX0_tighten 24 = .ok (.dsub, 1) := by decide +kernel
theorem dX0_tighten_25 : decode cX0_tighten 25 = .ok (.dmul, 1) := by decide +kernel
theorem dX0_tighten_26 : decode cX0_tighten 26 = .ok (.dload 4, 2) := by decide +kernel
theorem dX0_tighten_28 : decode cX0_tighten 28 = .ok (.ddiv, 1) := by decide +kernel
theorem dX0_tighten_29 : decode cX0_tighten 29 = .ok (.goto 4, 3) := by decide +kernel
theorem dX0_tighten_32 : decode cX0_tighten 32 = .ok (.dconst 0, 1) := by decide +kernel
theorem dX0_tighten_33 : decode cX0_tighten 33 = .ok (.dstore 6, 2) := by decide +kernel
theorem dX0_tighten_35 : decode cX0_tighten 35 = .ok (.aload_n 0, 1) := by decide +kernel
theorem dX0_tighten_36 : decode cX0_tighten 36 = .ok (.getfield 31, 3) := by decide +kernel
theorem dX0_tighten_39 : decode cX0_tighten 39 = .ok (.getfield 91, 3) := by decide +kernel
theorem dX0_tighten_42 : decode cX0_tighten 42 = .ok (.iload_n 1, 1) := by decide +kernel
theorem dX0_tighten_43 : decode cX0_tighten 43 = .ok (.dload 6, 2) := by decide +kernel
theorem dX0_tighten_45 : decode cX0_tighten 45 = .ok (.dastore, 1) := by decide +kernel
theorem dX0_tighten_46 : decode cX0_tighten 46 = .ok (.dload 6, 2) := by decide +kernel
theorem dX0_tighten_48 : decode cX0_tighten 48 = .ok (.dconst 0, 1) := by decide +kernel
theorem dX0_tighten_49 : decode cX0_tighten 49 = .ok (.dcmp .l, 1) := by decide +kernel
theorem dX0_tighten_50 : decode cX0_tighten 50 = .ok (.ifCond .le 90, 3) := by decide +kernel
theorem dX0_tighten_53 : decode cX0_tighten 53 = .ok (.dload 6, 2) := by decide +kernel
theorem dX0_tighten_55 : decode cX0_tighten 55 = .ok (.dload_n 2, 1) := by decide +kernel
theorem dX0_tighten_56 : decode cX0_tighten 56 = .ok (.ddiv, 1) := by decide +kernel
theorem dX0_tighten_57 : decode cX0_tighten 57 = .ok (.dstore 8, 2) := by decide +kernel
theorem dX0_tighten_59 : decode cX0_tighten 59 = .ok (.iconst 0, 1) := by decide +kernel
theorem dX0_tighten_60 : decode cX0_tighten 60 = .ok (.istore 10, 2) := by decide +kernel
theorem dX0_tighten_62 : decode cX0_tighten 62 = .ok (.iload 10, 2) := by decide +kernel
theorem dX0_tighten_64 : decode cX0_tighten 64 = .ok (.iconst 3, 1) := by decide +kernel
theorem dX0_tighten_65 : decode cX0_tighten 65 = .ok (.if_icmp .ge 75, 3) := by decide +kernel
theorem dX0_tighten_68 : decode cX0_tighten 68 = .ok (.aload_n 0, 1) := by decide +kernel
theorem dX0_tighten_69 : decode cX0_tighten 69 = .ok (.getfield 27, 3) := by decide +kernel
theorem dX0_tighten_72 : decode cX0_tighten 72 = .ok (.getfield 94, 3) := by decide +kernel
theorem dX0_tighten_75 : decode cX0_tighten 75 = .ok (.iload 10, 2) := by decide +kernel
theorem dX0_tighten_77 : decode cX0_tighten 77 = .ok (.aaload, 1) := by decide +kernel
theorem dX0_tighten_78 : decode cX0_tighten 78 = .ok (.aload_n 0, 1) := by decide +kernel
theorem dX0_tighten_79 : decode cX0_tighten 79 = .ok (.getfield 31, 3) := by decide +kernel
theorem dX0_tighten_82 : decode cX0_tighten 82 = .ok (.getfield 75, 3) := by decide +kernel
theorem dX0_tighten_85 : decode cX0_tighten 85 = .ok (.iload_n 1, 1) := by decide +kernel
theorem dX0_tighten_86 : decode cX0_tighten 86 = .ok (.iaload, 1) := by decide +kernel
theorem dX0_tighten_87 : decode cX0_tighten 87 = .ok (.dup2, 1) := by decide +kernel
theorem dX0_tighten_88 : decode cX0_tighten 88 = .ok (.daload, 1) := by decide +kernel
theorem dX0_tighten_89 : decode cX0_tighten 89 = .ok (.dload 8, 2) := by decide +kernel
theorem dX0_tighten_91 : decode cX0_tighten 91 = .ok (.aload_n 0, 1) := by decide +kernel
theorem dX0_tighten_92 : decode cX0_tighten 92 = .ok (.getfield 21, 3) := by decide +kernel
theorem dX0_tighten_95 : decode cX0_tighten 95 = .ok (.iload 10, 2) := by decide +kernel
theorem dX0_tighten_97 : decode cX0_tighten 97 = .ok (.daload, 1) := by decide +kernel
theorem dX0_tighten_98 : decode cX0_tighten 98 = .ok (.dmul, 1) := by decide +kernel
theorem dX0_tighten_99 : decode cX0_tighten 99 = .ok (.dadd, 1) := by decide +kernel
theorem dX0_tighten_100 : decode cX0_tighten 100 = .ok (.dastore, 1) := by decide +kernel
theorem dX0_tighten_101 : decode cX0_tighten 101 = .ok (.aload_n 0, 1) := by decide +kernel
theorem dX0_tighten_102 : decode cX0_tighten 102 = .ok (.getfield 27, 3) := by decide +kernel
theorem dX0_tighten_105 : decode cX0_tighten 105 = .ok (.getfield 94, 3) := by decide +kernel
theorem dX0_tighten_108 : decode cX0_tighten 108 = .ok (.iload 10, 2) := by decide +kernel
theorem dX0_tighten_110 : decode cX0_tighten 110 = .ok (.aaload, 1) := by decide +kernel
theorem dX0_tighten_111 : decode cX0_tighten 111 = .ok (.aload_n 0, 1) := by decide +kernel
theorem dX0_tighten_112 : decode cX0_tighten 112 = .ok (.getfield 31, 3) := by decide +kernel
theorem dX0_tighten_115 : decode cX0_tighten 115 = .ok (.getfield 71, 3) := by decide +kernel
theorem dX0_tighten_118 : decode cX0_tighten 118 = .ok (.iload_n 1, 1) := by decide +kernel
theorem dX0_tighten_119 : decode cX0_tighten 119 = .ok (.iaload, 1) := by decide +kernel
theorem dX0_tighten_120 : decode cX0_tighten 120 = .ok (.dup2, 1) := by decide +kernel
theorem dX0_tighten_121 : decode cX0_tighten 121 = .ok (.daload, 1) := by decide +kernel
theorem dX0_tighten_122 : decode cX0_tighten 122 = .ok (.dload 8, 2) := by decide +kernel
theorem dX0_tighten_124 : decode cX0_tighten 124 = .ok (.aload_n 0, 1) := by decide +kernel
theorem dX0_tighten_125 : decode cX0_tighten 125 = .ok (.getfield 21, 3) := by decide +kernel
theorem dX0_tighten_128 : decode cX0_tighten 128 = .ok (.iload 10, 2) := by decide +kernel
theorem dX0_tighten_130 : decode cX0_tighten 130 = .ok (.daload, 1) := by decide +kernel
theorem dX0_tighten_131 : decode cX0_tighten 131 = .ok (.dmul, 1) := by decide +kernel
theorem dX0_tighten_132 : decode cX0_tighten 132 = .ok (.dsub, 1) := by decide +kernel
theorem dX0_tighten_133 : decode cX0_tighten 133 = .ok (.dastore, 1) := by decide +kernel
theorem dX0_tighten_134 : decode cX0_tighten 134 = .ok (.iinc 10 1, 3) := by decide +kernel
theorem dX0_tighten_137 : decode cX0_tighten 137 = .ok (.goto (-75), 3) := by decide +kernel
theorem dX0_tighten_140 : decode cX0_tighten 140 = .ok (.return_, 1) := by decide +kernel
set_option maxRecDepth 20000 in
theorem ggX0_wash_X0_findFlowAcross : GoodIn wsX0_wash wsX0_findFlowAcross := goodIn_r _ [18, 10, 19, 20, 2, 12, 13, 4, 21, 22, 23, 7, 24, 25, 26, 27, 28, 29, 30, 31, 32, 33, 34, 35, 36, 37, 38, 39, 47, 48, 49, 50, 51, 52, 53, 67, 68, 69, 70, 71, 72, 54, 55, 56, 57, 58, 59, 60, 61, 62, 63, 64, 65, 66] (by decide +kernel) (by decide +kernel)
set_option maxRecDepth 20000 in
theorem gX0_wash_X0_findFlowAcross : GoodIn wsX0_wash (wsV RX0 97 RX0 yX0_findFlowAcross wsX0_findFlowAcross) := goodIn_app (goodIn_of _ (by decide +kernel)) ggX0_wash_X0_findFlowAcross
set_option maxRecDepth 20000 in
theorem ggX0_wash_X0_lengthOf : GoodIn wsX0_wash wsX0_lengthOf := goodIn_r _ [42, 43, 44, 45, 46] (by decide +kernel) (by decide +kernel)
set_option maxRecDepth 20000 in
theorem gX0_wash_X0_lengthOf : GoodIn wsX0_wash (va_wsS RX0 78 yX0_lengthOf wsX0_lengthOf) := goodIn_app (goodIn_of _ (by decide +kernel)) ggX0_wash_X0_lengthOf
theorem dX0_wash_0 : decode cX0_wash 0 = .ok (.aload_n 0, 1) := by decide +kernel
theorem dX0_wash_1 : decode cX0_wash 1 = .ok (.iload_n 1, 1) := by decide +kernel
theorem dX0_wash_2 : decode cX0_wash 2 = .ok (.dload_n 2, 1) := by decide +kernel
theorem dX0_wash_3 : decode cX0_wash 3 = .ok (.invokevirtual 97, 3) := by decide +kernel
theorem dX0_wash_6 : decode cX0_wash 6 = .ok (.ldc2_w 100, 3) := by decide +kernel
theorem dX0_wash_9 : decode cX0_wash 9 = .ok (.aload_n 0, 1) := by decide +kernel
theorem dX0_wash_10 : decode cX0_wash 10 = .ok (.getfield 31, 3) := by decide +kernel
theorem dX0_wash_13 : decode cX0_wash 13 = .ok (.getfield 102, 3) := by decide +kernel
theorem dX0_wash_16 : decode cX0_wash 16 = .ok (.iload_n 1, 1) := by decide +kernel
theorem dX0_wash_17 : decode cX0_wash 17 = .ok (.daload, 1) := by decide +kernel
theorem dX0_wash_18 : decode cX0_wash 18 = .ok (.dmul, 1) := by decide +kernel
theorem dX0_wash_19 : decode cX0_wash 19 = .ok (.dconst 1, 1) := by decide +kernel
theorem dX0_wash_20 : decode cX0_wash 20 = .ok (.aload_n 0, 1) := by decide +kernel
theorem dX0_wash_21 : decode cX0_wash 21 = .ok (.getfield 35, 3) := by decide +kernel
theorem dX0_wash_24 : decode cX0_wash 24 = .ok (.getfield 105, 3) := by decide +kernel
theorem dX0_wash_27 : decode cX0_wash 27 = .ok (.dadd, 1) := by decide +kernel
theorem dX0_wash_28 : decode cX0_wash 28 = .ok (.dmul, 1) := by decide +kernel
theorem dX0_wash_29 : decode cX0_wash 29 = .ok (.aload_n 0, 1) := by decide +kernel
theorem dX0_wash_30 : decode cX0_wash 30 = .ok (.getfield 31, 3) := by decide +kernel
theorem dX0_wash_33 : decode cX0_wash 33 = .ok (.getfield 86, 3) := by decide +kernel
theorem dX0_wash_36 : decode cX0_wash 36 = .ok (.iload_n 1, 1) := by decide +kernel
theorem dX0_wash_37 : decode cX0_wash 37 = .ok (.daload, 1) := by decide +kernel
theorem dX0_wash_38 : decode cX0_wash 38 = .ok (.dmul, 1) := by decide +kernel
theorem dX0_wash_39 : decode cX0_wash 39 = .ok (.aload_n 0, 1) := by decide +kernel
theorem dX0_wash_40 : decode cX0_wash 40 = .ok (.getfield 24, 3) := by decide +kernel
theorem dX0_wash_43 : decode cX0_wash 43 = .ok (.invokestatic 78, 3) := by decide +kernel
theorem dX0_wash_46 : decode cX0_wash 46 = .ok (.dmul, 1) := by decide +kernel
theorem dX0_wash_47 : decode cX0_wash 47 = .ok (.dstore 4, 2) := by decide +kernel
theorem dX0_wash_49 : decode cX0_wash 49 = .ok (.iconst 0, 1) := by decide +kernel
theorem dX0_wash_50 : decode cX0_wash 50 = .ok (.istore 6, 2) := by decide +kernel
theorem dX0_wash_52 : decode cX0_wash 52 = .ok (.iload 6, 2) := by decide +kernel
theorem dX0_wash_54 : decode cX0_wash 54 = .ok (.iconst 3, 1) := by decide +kernel
theorem dX0_wash_55 : decode cX0_wash 55 = .ok (.if_icmp .ge 99, 3) := by decide +kernel
theorem dX0_wash_58 : decode cX0_wash 58 = .ok (.aload_n 0, 1) := by decide +kernel
theorem dX0_wash_59 : decode cX0_wash 59 = .ok (.getfield 9, 3) := by decide +kernel
theorem dX0_wash_62 : decode cX0_wash 62 = .ok (.iload 6, 2) := by decide +kernel
theorem dX0_wash_64 : decode cX0_wash 64 = .ok (.dup2, 1) := by decide +kernel
theorem dX0_wash_65 : decode cX0_wash 65 = .ok (.daload, 1) := by decide +kernel
theorem dX0_wash_66 : decode cX0_wash 66 = .ok (.ldc2_w 110, 3) := by decide +kernel
theorem dX0_wash_69 : decode cX0_wash 69 = .ok (.dload 4, 2) := by decide +kernel
theorem dX0_wash_71 : decode cX0_wash 71 = .ok (.dmul, 1) := by decide +kernel
theorem dX0_wash_72 : decode cX0_wash 72 = .ok (.aload_n 0, 1) := by decide +kernel
theorem dX0_wash_73 : decode cX0_wash 73 = .ok (.getfield 24, 3) := by decide +kernel
theorem dX0_wash_76 : decode cX0_wash 76 = .ok (.iload 6, 2) := by decide +kernel
theorem dX0_wash_78 : decode cX0_wash 78 = .ok (.daload, 1) := by decide +kernel
theorem dX0_wash_79 : decode cX0_wash 79 = .ok (.dmul, 1) := by decide +kernel
theorem dX0_wash_80 : decode cX0_wash 80 = .ok (.dadd, 1) := by decide +kernel
theorem dX0_wash_81 : decode cX0_wash 81 = .ok (.dastore, 1) := by decide +kernel
theorem dX0_wash_82 : decode cX0_wash 82 = .ok (.aload_n 0, 1) := by decide +kernel
theorem dX0_wash_83 : decode cX0_wash 83 = .ok (.getfield 27, 3) := by decide +kernel
theorem dX0_wash_86 : decode cX0_wash 86 = .ok (.getfield 94, 3) := by decide +kernel
theorem dX0_wash_89 : decode cX0_wash 89 = .ok (.iload 6, 2) := by decide +kernel
theorem dX0_wash_91 : decode cX0_wash 91 = .ok (.aaload, 1) := by decide +kernel
theorem dX0_wash_92 : decode cX0_wash 92 = .ok (.aload_n 0, 1) := by decide +kernel
theorem dX0_wash_93 : decode cX0_wash 93 = .ok (.getfield 31, 3) := by decide +kernel
theorem dX0_wash_96 : decode cX0_wash 96 = .ok (.getfield 75, 3) := by decide +kernel
theorem dX0_wash_99 : decode cX0_wash 99 = .ok (.iload_n 1, 1) := by decide +kernel
theorem dX0_wash_100 : decode cX0_wash 100 = .ok (.iaload, 1) := by decide +kernel
theorem dX0_wash_101 : decode cX0_wash 101 = .ok (.dup2, 1) := by decide +kernel
theorem dX0_wash_102 : decode cX0_wash 102 = .ok (.daload, 1) := by decide +kernel
theorem dX0_wash_103 : decode cX0_wash 103 = .ok (.dload 4, 2) := by decide +kernel
theorem dX0_wash_105 : decode cX0_wash 105 = .ok (.aload_n 0, 1) := by decide +kernel
theorem dX0_wash_106 : decode cX0_wash 106 = .ok (.getfield 24, 3) := by decide +kernel
theorem dX0_wash_109 : decode cX0_wash 109 = .ok (.iload 6, 2) := by decide +kernel
theorem dX0_wash_111 : decode cX0_wash 111 = .ok (.daload, 1) := by decide +kernel
theorem dX0_wash_112 : decode cX0_wash 112 = .ok (.dmul, 1) := by decide +kernel
theorem dX0_wash_113 : decode cX0_wash 113 = .ok (.dadd, 1) := by decide +kernel
theorem dX0_wash_114 : decode cX0_wash 114 = .ok (.dastore, 1) := by decide +kernel
theorem dX0_wash_115 : decode cX0_wash 115 = .ok (.aload_n 0, 1) := by decide +kernel
theorem dX0_wash_116 : decode cX0_wash 116 = .ok (.getfield 27, 3) := by decide +kernel
theorem dX0_wash_119 : decode cX0_wash 119 = .ok (.getfield 94, 3) := by decide +kernel
theorem dX0_wash_122 : decode cX0_wash 122 = .ok (.iload 6, 2) := by decide +kernel
theorem dX0_wash_124 : decode cX0_wash 124 = .ok (.aaload, 1) := by decide +kernel
theorem dX0_wash_125 : decode cX0_wash 125 = .ok (.aload_n 0, 1) := by decide +kernel
theorem dX0_wash_126 : decode cX0_wash 126 = .ok (.getfield 31, 3) := by decide +kernel
theorem dX0_wash_129 : decode cX0_wash 129 = .ok (.getfield 71, 3) := by decide +kernel
theorem dX0_wash_132 : decode cX0_wash 132 = .ok (.iload_n 1, 1) := by decide +kernel
theorem dX0_wash_133 : decode cX0_wash 133 = .ok (.iaload, 1) := by decide +kernel
theorem dX0_wash_134 : decode cX0_wash 134 = .ok (.dup2, 1) := by decide +kernel
theorem dX0_wash_135 : decode cX0_wash 135 = .ok (.daload, 1) := by decide +kernel
theorem dX0_wash_136 : decode cX0_wash 136 = .ok (.dload 4, 2) := by decide +kernel
theorem dX0_wash_138 : decode cX0_wash 138 = .ok (.aload_n 0, 1) := by decide +kernel
theorem dX0_wash_139 : decode cX0_wash 139 = .ok (.getfield 24, 3) := by decide +kernel
theorem dX0_wash_142 : decode cX0_wash 142 = .ok (.iload 6, 2) := by decide +kernel
theorem dX0_wash_144 : decode cX0_wash 144 = .ok (.daload, 1) := by decide +kernel
theorem dX0_wash_145 : decode cX0_wash 145 = .ok (.dmul, 1) := by decide +kernel
theorem dX0_wash_146 : decode cX0_wash 146 = .ok (.dadd, 1) := by decide +kernel
theorem dX0_wash_147 : decode cX0_wash 147 = .ok (.dastore, 1) := by decide +kernel
theorem dX0_wash_148 : decode cX0_wash 148 = .ok (.iinc 6 1, 3) := by decide +kernel
theorem dX0_wash_151 : decode cX0_wash 151 = .ok (.goto (-99), 3) := by decide +kernel
theorem dX0_wash_154 : decode cX0_wash 154 = .ok (.return_, 1) := by decide +kernel
set_option maxRecDepth 20000 in
theorem ggX0_findFlowAcross_X5_rowAtOrAbove : GoodIn wsX0_findFlowAcross wsX5_rowAtOrAbove := goodIn_r _ [16, 17, 18, 48, 49, 50, 51, 52, 53] (by decide +kernel) (by decide +kernel)
set_option maxRecDepth 20000 in
theorem gX0_findFlowAcross_X5_rowAtOrAbove : GoodIn wsX0_findFlowAcross (wsV RX0 114 RX5 yX5_rowAtOrAbove wsX5_rowAtOrAbove) := goodIn_app (goodIn_of _ (by decide +kernel)) ggX0_findFlowAcross_X5_rowAtOrAbove
set_option maxRecDepth 20000 in
theorem ggX0_findFlowAcross_X5_speedAt : GoodIn wsX0_findFlowAcross wsX5_speedAt := goodIn_r _ [22, 23, 24, 25, 26, 15, 27, 17, 18, 48, 49, 50, 51, 52, 53] (by decide +kernel) (by decide +kernel)
set_option maxRecDepth 20000 in
theorem gX0_findFlowAcross_X5_speedAt : GoodIn wsX0_findFlowAcross (wsV RX0 121 RX5 yX5_speedAt wsX5_speedAt) := goodIn_app (goodIn_of _ (by decide +kernel)) ggX0_findFlowAcross_X5_speedAt
theorem dX0_findFlowAcross_0 : decode cX0_findFlowAcross 0 = .ok (.aload_n 0, 1) := by decide +kernel
theorem dX0_findFlowAcross_1 : decode cX0_findFlowAcross 1 = .ok (.getfield 27, 3) := by decide +kernel
theorem dX0_findFlowAcross_4 : decode cX0_findFlowAcross 4 = .ok (.getfield 67, 3) := by decide +kernel
theorem dX0_findFlowAcross_7 : decode cX0_findFlowAcross 7 = .ok (.iconst 2, 1) := by decide +kernel
theorem dX0_findFlowAcross_8 : decode cX0_findFlowAcross 8 = .ok (.aaload, 1) := by decide +kernel
theorem dX0_findFlowAcross_9 : decode cX0_findFlowAcross 9 = .ok (.astore 4, 2) := by decide +kernel
theorem dX0_findFlowAcross_11 : decode cX0_findFlowAcross 11 = .ok (.ldc2_w 112, 3) := by decide +kernel
theorem dX0_findFlowAcross_14 : decode cX0_findFlowAcross 14 = .ok (.aload 4, 2) := by decide +kernel
theorem dX0_findFlowAcross_16 : decode cX0_findFlowAcross 16 = .ok (.aload_n 0, 1) := by decide +kernel
theorem dX0_findFlowAcross_17 : decode cX0_findFlowAcross 17 = .ok (.getfield 31, 3) := by decide +kernel
theorem dX0_findFlowAcross_20 : decode cX0_findFlowAcross 20 = .ok (.getfield 75, 3) := by decide +kernel
theorem dX0_findFlowAcross_23 : decode cX0_findFlowAcross 23 = .ok (.iload_n 1, 1) := by decide +kernel
theorem dX0_findFlowAcross_24 : decode cX0_findFlowAcross 24 = .ok (.iaload, 1) := by decide +kernel
theorem dX0_findFlowAcross_25 : decode cX0_findFlowAcross 25 = .ok (.daload, 1) := by decide +kernel
theorem dX0_findFlowAcross_26 : decode cX0_findFlowAcross 26 = .ok (.aload 4, 2) := by decide +kernel
theorem dX0_findFlowAcross_28 : decode cX0_findFlowAcross 28 = .ok (.aload_n 0, 1) := by decide +kernel
theorem dX0_findFlowAcross_29 : decode cX0_findFlowAcross 29 = .ok (.getfield 31, 3) := by decide +kernel
theorem dX0_findFlowAcross_32 : decode cX0_findFlowAcross 32 = .ok (.getfield 71, 3) := by decide +kernel
theorem dX0_findFlowAcross_35 : decode cX0_findFlowAcross 35 = .ok (.iload_n 1, 1) := by decide +kernel
theorem dX0_findFlowAcross_36 : decode cX0_findFlowAcross 36 = .ok (.iaload, 1) := by decide +kernel
theorem dX0_findFlowAcross_37 : decode cX0_findFlowAcross 37 = .ok (.daload, 1) := by decide +kernel
theorem dX0_findFlowAcross_38 : decode cX0_findFlowAcross 38 = .ok (.dadd, 1) := by decide +kernel
theorem dX0_findFlowAcross_39 : decode cX0_findFlowAcross 39 = .ok (.dmul, 1) := by decide +kernel
theorem dX0_findFlowAcross_40 : decode cX0_findFlowAcross 40 = .ok (.dstore 5, 2) := by decide +kernel
theorem dX0_findFlowAcross_42 : decode cX0_findFlowAcross 42 = .ok (.aload_n 0, 1) := by decide +kernel
theorem dX0_findFlowAcross_43 : decode cX0_findFlowAcross 43 = .ok (.getfield 35, 3) := by decide +kernel
theorem dX0_findFlowAcross_46 : decode cX0_findFlowAcross 46 = .ok (.dload 5, 2) := by decide +kernel
theorem dX0_findFlowAcross_48 : decode cX0_findFlowAcross 48 = .ok (.invokevirtual 114, 3) := by decide +kernel
theorem dX0_findFlowAcross_51 : decode cX0_findFlowAcross 51 = .ok (.istore 7, 2) := by decide +kernel
theorem dX0_findFlowAcross_53 : decode cX0_findFlowAcross 53 = .ok (.aload_n 0, 1) := by decide +kernel
theorem dX0_findFlowAcross_54 : decode cX0_findFlowAcross 54 = .ok (.getfield 35, 3) := by decide +kernel
theorem dX0_findFlowAcross_57 : decode cX0_findFlowAcross 57 = .ok (.aload_n 0, 1) := by decide +kernel
theorem dX0_findFlowAcross_58 : decode cX0_findFlowAcross 58 = .ok (.getfield 35, 3) := by decide +kernel
theorem dX0_findFlowAcross_61 : decode cX0_findFlowAcross 61 = .ok (.getfield 118, 3) := by decide +kernel
theorem dX0_findFlowAcross_64 : decode cX0_findFlowAcross 64 = .ok (.dload 5, 2) := by decide +kernel
theorem dX0_findFlowAcross_66 : decode cX0_findFlowAcross 66 = .ok (.iload 7, 2) := by decide +kernel
theorem dX0_findFlowAcross_68 : decode cX0_findFlowAcross 68 = .ok (.invokevirtual 121, 3) := by decide +kernel
theorem dX0_findFlowAcross_71 : decode cX0_findFlowAcross 71 = .ok (.dstore 8, 2) := by decide +kernel
theorem dX0_findFlowAcross_73 : decode cX0_findFlowAcross 73 = .ok (.aload_n 0, 1) := by decide +kernel
theorem dX0_findFlowAcross_74 : decode cX0_findFlowAcross 74 = .ok (.getfield 35, 3) := by decide +kernel
theorem dX0_findFlowAcross_77 : decode cX0_findFlowAcross 77 = .ok (.aload_n 0, 1) := by decide +kernel
theorem dX0_findFlowAcross_78 : decode cX0_findFlowAcross 78 = .ok (.getfield 35, 3) := by decide +kernel
theorem dX0_findFlowAcross_81 : decode cX0_findFlowAcross 81 = .ok (.getfield 125, 3) := by decide +kernel
theorem dX0_findFlowAcross_84 : decode cX0_findFlowAcross 84 = .ok (.dload 5, 2) := by decide +kernel
theorem dX0_findFlowAcross_86 : decode cX0_findFlowAcross 86 = .ok (.iload 7, 2) := by decide +kernel
theorem dX0_findFlowAcross_88 : decode cX0_findFlowAcross 88 = .ok (.invokevirtual 121, 3) := by decide +kernel
theorem dX0_findFlowAcross_91 : decode cX0_findFlowAcross 91 = .ok (.dstore 10, 2) := by decide +kernel
theorem dX0_findFlowAcross_93 : decode cX0_findFlowAcross 93 = .ok (.dload 8, 2) := by decide +kernel
theorem dX0_findFlowAcross_95 : decode cX0_findFlowAcross 95 = .ok (.aload_n 0, 1) := by decide +kernel
theorem dX0_findFlowAcross_96 : decode cX0_findFlowAcross 96 = .ok (.getfield 21, 3) := by decide +kernel
theorem dX0_findFlowAcross_99 : decode cX0_findFlowAcross 99 = .ok (.iconst 0, 1) := by decide +kernel
theorem dX0_findFlowAcross_100 : decode cX0_findFlowAcross 100 = .ok (.daload, 1) := by decide +kernel
theorem dX0_findFlowAcross_101 : decode cX0_findFlowAcross 101 = .ok (.dmul, 1) := by decide +kernel
theorem dX0_findFlowAcross_102 : decode cX0_findFlowAcross 102 = .ok (.dload 10, 2) := by decide +kernel
theorem dX0_findFlowAcross_104 : decode cX0_findFlowAcross 104 = .ok (.aload_n 0, 1) := by decide +kernel
theorem dX0_findFlowAcross_105 : decode cX0_findFlowAcross 105 = .ok (.getfield 21, 3) := by decide +kernel
theorem dX0_findFlowAcross_108 : decode cX0_findFlowAcross 108 = .ok (.iconst 1, 1) := by decide +kernel
theorem dX0_findFlowAcross_109 : decode cX0_findFlowAcross 109 = .ok (.daload, 1) := by decide +kernel
theorem dX0_findFlowAcross_110 : decode cX0_findFlowAcross 110 = .ok (.dmul, 1) := by decide +kernel
theorem dX0_findFlowAcross_111 : decode cX0_findFlowAcross 111 = .ok (.dadd, 1) := by decide +kernel
theorem dX0_findFlowAcross_112 : decode cX0_findFlowAcross 112 = .ok (.dload_n 2, 1) := by decide +kernel
theorem dX0_findFlowAcross_113 : decode cX0_findFlowAcross 113 = .ok (.ddiv, 1) := by decide +kernel
theorem dX0_findFlowAcross_114 : decode cX0_findFlowAcross 114 = .ok (.dstore 12, 2) := by decide +kernel
theorem dX0_findFlowAcross_116 : decode cX0_findFlowAcross 116 = .ok (.aload_n 0, 1) := by decide +kernel
theorem dX0_findFlowAcross_117 : decode cX0_findFlowAcross 117 = .ok (.getfield 24, 3) := by decide +kernel
theorem dX0_findFlowAcross_120 : decode cX0_findFlowAcross 120 = .ok (.iconst 0, 1) := by decide +kernel
theorem dX0_findFlowAcross_121 : decode cX0_findFlowAcross 121 = .ok (.dload 8, 2) := by decide +kernel
theorem dX0_findFlowAcross_123 : decode cX0_findFlowAcross 123 = .ok (.dload 12, 2) := by decide +kernel
theorem dX0_findFlowAcross_125 : decode cX0_findFlowAcross 125 = .ok (.aload_n 0, 1) := by decide +kernel
theorem dX0_findFlowAcross_126 : decode cX0_findFlowAcross 126 = .ok (.getfield 21, 3) := by decide +kernel
theorem dX0_findFlowAcross_129 : decode cX0_findFlowAcross 129 = .ok (.iconst 0, 1) := by decide +kernel
theorem dX0_findFlowAcross_130 : decode cX0_findFlowAcross 130 = .ok (.daload, 1) := by decide +kernel
theorem dX0_findFlowAcross_131 : decode cX0_findFlowAcross 131 = .ok (.dmul, 1) := by decide +kernel
theorem dX0_findFlowAcross_132 : decode cX0_findFlowAcross 132 = .ok (.dload_n 2, 1) := by decide +kernel
theorem dX0_findFlowAcross_133 : decode cX0_findFlowAcross 133 = .ok (.ddiv, 1) := by decide +kernel
theorem dX0_findFlowAcross_134 : decode cX0_findFlowAcross 134 = .ok (.dsub, 1) := by decide +kernel
theorem dX0_findFlowAcross_135 : decode cX0_findFlowAcross 135 = .ok (.dastore, 1) := by decide +kernel
theorem dX0_findFlowAcross_136 : decode cX0_findFlowAcross 136 = .ok (.aload_n 0, 1) := by decide +kernel
theorem dX0_findFlowAcross_137 : decode cX0_findFlowAcross 137 = .ok (.getfield 24, 3) := by decide +kernel
theorem dX0_findFlowAcross_140 : decode cX0_findFlowAcross 140 = .ok (.iconst 1, 1) := by decide +kernel
theorem dX0_findFlowAcross_141 : decode cX0_findFlowAcross 141 = .ok (.dload 10, 2) := by decide +kernel
theorem dX0_findFlowAcross_143 : decode cX0_findFlowAcross 143 = .ok (.dload 12, 2) := by decide +kernel
theorem dX0_findFlowAcross_145 : decode cX0_findFlowAcross 145 = .ok (.aload_n 0, 1) := by decide +kernel
theorem dX0_findFlowAcross_146 : decode cX0_findFlowAcross 146 = .ok (.getfield 21, 3) := by decide +kernel
theorem dX0_findFlowAcross_149 : decode cX0_findFlowAcross 149 = .ok (.iconst 1, 1) := by decide +kernel
theorem dX0_findFlowAcross_150 : decode cX0_findFlowAcross 150 = .ok (.daload, 1) := by decide +kernel
theorem dX0_findFlowAcross_151 : decode cX0_findFlowAcross 151 = .ok (.dmul, 1) := by decide +kernel
theorem dX0_findFlowAcross_152 : decode cX0_findFlowAcross 152 = .ok (.dload_n 2, 1) := by decide +kernel
theorem dX0_findFlowAcross_153 : decode cX0_findFlowAcross 153 = .ok (.ddiv, 1) := by decide +kernel
theorem dX0_findFlowAcross_154 : decode cX0_findFlowAcross 154 = .ok (.dsub, 1) := by decide +kernel
theorem dX0_findFlowAcross_155 : decode cX0_findFlowAcross 155 = .ok (.dastore, 1) := by decide +kernel
theorem dX0_findFlowAcross_156 : decode cX0_findFlowAcross 156 = .ok (.aload_n 0, 1) := by decide +kernel
theorem dX0_findFlowAcross_157 : decode cX0_findFlowAcross 157 = .ok (.getfield 24, 3) := by decide +kernel
theorem dX0_findFlowAcross_160 : decode cX0_findFlowAcross 160 = .ok (.iconst 2, 1) := by decide +kernel
theorem dX0_findFlowAcross_161 : decode cX0_findFlowAcross 161 = .ok (.dconst 0, 1) := by decide +kernel
theorem dX0_findFlowAcross_162 : decode cX0_findFlowAcross 162 = .ok (.dload 12, 2) := by decide +kernel
theorem dX0_findFlowAcross_164 : decode cX0_findFlowAcross 164 = .ok (.aload_n 0, 1) := by decide +kernel
theorem dX0_findFlowAcross_165 : decode cX0_findFlowAcross 165 = .ok (.getfield 21, 3) := by decide +kernel
theorem dX0_findFlowAcross_168 : decode cX0_findFlowAcross 168 = .ok (.iconst 2, 1) := by decide +kernel
theorem dX0_findFlowAcross_169 : decode cX0_findFlowAcross 169 = .ok (.daload, 1) := by decide +kernel
theorem dX0_findFlowAcross_170 : decode cX0_findFlowAcross 170 = .ok (.dmul, 1) := by decide +kernel
theorem dX0_findFlowAcross_171 : decode cX0_findFlowAcross 171 = .ok (.dload_n 2, 1) := by decide +kernel
theorem dX0_findFlowAcross_172 : decode cX0_findFlowAcross 172 = .ok (.ddiv, 1) := by decide +kernel
theorem dX0_findFlowAcross_173 : decode cX0_findFlowAcross 173 = .ok (.dsub, 1) := by decide +kernel
theorem dX0_findFlowAcross_174 : decode cX0_findFlowAcross 174 = .ok (.dastore, 1) := by decide +kernel
theorem dX0_findFlowAcross_175 : decode cX0_findFlowAcross 175 = .ok (.return_, 1) := by decide +kernel
theorem dX1_init_0 : decode cX1_init 0 = .ok (.aload_n 0, 1) := by decide +kernel
theorem dX1_init_1 : decode cX1_init 1 = .ok (.invokespecial 3, 3) := by decide +kernel
theorem dX1_init_4 : decode cX1_init 4 = .ok (.aload_n 0, 1) := by decide +kernel
theorem dX1_init_5 : decode cX1_init 5 = .ok (.bipush 60, 2) := by decide +kernel
theorem dX1_init_7 : decode cX1_init 7 = .ok (.newarray .int, 2) := by decide +kernel
theorem dX1_init_9 : decode cX1_init 9 = .ok (.putfield 9, 3) := by decide +kernel
theorem dX1_init_12 : decode cX1_init 12 = .ok (.aload_n 0, 1) := by decide +kernel
theorem dX1_init_13 : decode cX1_init 13 = .ok (.bipush 60, 2) := by decide +kernel
theorem dX1_init_15 : decode cX1_init 15 = .ok (.newarray .int, 2) := by decide +kernel
theorem dX1_init_17 : decode cX1_init 17 = .ok (.putfield 15, 3) := by decide +kernel
theorem dX1_init_20 : decode cX1_init 20 = .ok (.aload_n 0, 1) := by decide +kernel
theorem dX1_init_21 : decode cX1_init 21 = .ok (.bipush 60, 2) := by decide +kernel
theorem dX1_init_23 : decode cX1_init 23 = .ok (.newarray .double, 2) := by decide +kernel
theorem dX1_init_25 : decode cX1_init 25 = .ok (.putfield 18, 3) := by decide +kernel
theorem dX1_init_28 : decode cX1_init 28 = .ok (.aload_n 0, 1) := by decide +kernel
theorem dX1_init_29 : decode cX1_init 29 = .ok (.bipush 60, 2) := by decide +kernel
theorem dX1_init_31 : decode cX1_init 31 = .ok (.newarray .double, 2) := by decide +kernel
theorem dX1_init_33 : decode cX1_init 33 = .ok (.putfield 22, 3) := by decide +kernel
theorem dX1_init_36 : decode cX1_init 36 = .ok (.aload_n 0, 1) := by decide +kernel
theorem dX1_init_37 : decode cX1_init 37 = .ok (.bipush 60, 2) := by decide +kernel
theorem dX1_init_39 : decode cX1_init 39 = .ok (.newarray .double, 2) := by decide +kernel
theorem dX1_init_41 : decode cX1_init 41 = .ok (.putfield 25, 3) := by decide +kernel
theorem dX1_init_44 : decode cX1_init 44 = .ok (.aload_n 0, 1) := by decide +kernel
theorem dX1_init_45 : decode cX1_init 45 = .ok (.bipush 60, 2) := by decide +kernel
theorem dX1_init_47 : decode cX1_init 47 = .ok (.newarray .double, 2) := by decide +kernel
theorem dX1_init_49 : decode cX1_init 49 = .ok (.putfield 28, 3) := by decide +kernel
theorem dX1_init_52 : decode cX1_init 52 = .ok (.aload_n 0, 1) := by decide +kernel
theorem dX1_init_53 : decode cX1_init 53 = .ok (.iconst 0, 1) := by decide +kernel
theorem dX1_init_54 : decode cX1_init 54 = .ok (.putfield 31, 3) := by decide +kernel
theorem dX1_init_57 : decode cX1_init 57 = .ok (.return_, 1) := by decide +kernel
theorem dX1_has_0 : decode cX1_has 0 = .ok (.iload_n 1, 1) := by decide +kernel
theorem dX1_has_1 : decode cX1_has 1 = .ok (.ifCond .lt 15, 3) := by decide +kernel
theorem dX1_has_4 : decode cX1_has 4 = .ok (.iload_n 1, 1) := by decide +kernel
theorem dX1_has_5 : decode cX1_has 5 = .ok (.aload_n 0, 1) := by decide +kernel
theorem dX1_has_6 : decode cX1_has 6 = .ok (.getfield 31, 3) := by decide +kernel
theorem dX1_has_9 : decode cX1_has 9 = .ok (.if_icmp .ge 7, 3) := by decide +kernel
theorem dX1_has_12 : decode cX1_has 12 = .ok (.iconst 1, 1) := by decide +kernel
theorem dX1_has_13 : decode cX1_has 13 = .ok (.goto 4, 3) := by decide +kernel
theorem dX1_has_16 : decode cX1_has 16 = .ok (.iconst 0, 1) := by decide +kernel
theorem dX1_has_17 : decode cX1_has 17 = .ok (.ireturn, 1) := by decide +kernel
theorem dX1_add_0 : decode cX1_add 0 = .ok (.aload_n 0, 1) := by decide +kernel
theorem dX1_add_1 : decode cX1_add 1 = .ok (.getfield 31, 3) := by decide +kernel
theorem dX1_add_4 : decode cX1_add 4 = .ok (.istore 9, 2) := by decide +kernel
theorem dX1_add_6 : decode cX1_add 6 = .ok (.aload_n 0, 1) := by decide +kernel
theorem dX1_add_7 : decode cX1_add 7 = .ok (.getfield 9, 3) := by decide +kernel
theorem dX1_add_10 : decode cX1_add 10 = .ok (.iload 9, 2) := by decide +kernel
theorem dX1_add_12 : decode cX1_add 12 = .ok (.iload_n 1, 1) := by decide +kernel
theorem dX1_add_13 : decode cX1_add 13 = .ok (.iastore, 1) := by decide +kernel
theorem dX1_add_14 : decode cX1_add 14 = .ok (.aload_n 0, 1) := by decide +kernel
theorem dX1_add_15 : decode cX1_add 15 = .ok (.getfield 15, 3) := by decide +kernel
theorem dX1_add_18 : decode cX1_add 18 = .ok (.iload 9, 2) := by decide +kernel
theorem dX1_add_20 : decode cX1_add 20 = .ok (.iload_n 2, 1) := by decide +kernel
theorem dX1_add_21 : decode cX1_add 21 = .ok (.iastore, 1) := by decide +kernel
theorem dX1_add_22 : decode cX1_add 22 = .ok (.aload_n 0, 1) := by decide +kernel
theorem dX1_add_23 : decode cX1_add 23 = .ok (.getfield 18, 3) := by decide +kernel
theorem dX1_add_26 : decode cX1_add 26 = .ok (.iload 9, 2) := by decide +kernel
theorem dX1_add_28 : decode cX1_add 28 = .ok (.dload_n 3, 1) := by decide +kernel
theorem dX1_add_29 : decode cX1_add 29 = .ok (.dastore, 1) := by decide +kernel
theorem dX1_add_30 : decode cX1_add 30 = .ok (.aload_n 0, 1) := by decide +kernel
theorem dX1_add_31 : decode cX1_add 31 = .ok (.getfield 22, 3) := by decide +kernel
theorem dX1_add_34 : decode cX1_add 34 = .ok (.iload 9, 2) := by decide +kernel
theorem dX1_add_36 : decode cX1_add 36 = .ok (.dload 5, 2) := by decide +kernel
theorem dX1_add_38 : decode cX1_add 38 = .ok (.dastore, 1) := by decide +kernel
theorem dX1_add_39 : decode cX1_add 39 = .ok (.aload_n 0, 1) := by decide +kernel
theorem dX1_add_40 : decode cX1_add 40 = .ok (.getfield 25, 3) := by decide +kernel
theorem dX1_add_43 : decode cX1_add 43 = .ok (.iload 9, 2) := by decide +kernel
theorem dX1_add_45 : decode cX1_add 45 = .ok (.dload 7, 2) := by decide +kernel
theorem dX1_add_47 : decode cX1_add 47 = .ok (.dastore, 1) := by decide +kernel
theorem dX1_add_48 : decode cX1_add 48 = .ok (.aload_n 0, 1) := by decide +kernel
theorem dX1_add_49 : decode cX1_add 49 = .ok (.getfield 28, 3) := by decide +kernel
theorem dX1_add_52 : decode cX1_add 52 = .ok (.iload 9, 2) := by decide +kernel
theorem dX1_add_54 : decode cX1_add 54 = .ok (.ldc2_w 35, 3) := by decide +kernel
theorem dX1_add_57 : decode cX1_add 57 = .ok (.dastore, 1) := by decide +kernel
theorem dX1_add_58 : decode cX1_add 58 = .ok (.aload_n 0, 1) := by decide +kernel
theorem dX1_add_59 : decode cX1_add 59 = .ok (.dup, 1) := by decide +kernel
theorem dX1_add_60 : decode cX1_add 60 = .ok (.getfield 31, 3) := by decide +kernel
theorem dX1_add_63 : decode cX1_add 63 = .ok (.iconst 1, 1) := by decide +kernel
theorem dX1_add_64 : decode cX1_add 64 = .ok (.iadd, 1) := by decide +kernel
theorem dX1_add_65 : decode cX1_add 65 = .ok (.putfield 31, 3) := by decide +kernel
theorem dX1_add_68 : decode cX1_add 68 = .ok (.iload 9, 2) := by decide +kernel
theorem dX1_add_70 : decode cX1_add 70 = .ok (.ireturn, 1) := by decide +kernel
theorem dX1_overloaded_0 : decode cX1_overloaded 0 = .ok (.iconst 0, 1) := by decide +kernel
theorem dX1_overloaded_1 : decode cX1_overloaded 1 = .ok (.istore_n 2, 1) := by decide +kernel
theorem dX1_overloaded_2 : decode cX1_overloaded 2 = .ok (.iconst 0, 1) := by decide +kernel
theorem dX1_overloaded_3 : decode cX1_overloaded 3 = .ok (.istore_n 3, 1) := by decide +kernel
theorem dX1_overloaded_4 : decode cX1_overloaded 4 = .ok (.iload_n 3, 1) := by decide +kernel
theorem dX1_overloaded_5 : decode cX1_overloaded 5 = .ok (.aload_n 0, 1) := by decide +kernel
theorem dX1_overloaded_6 : decode cX1_overloaded 6 = .ok (.getfield 31, 3) := by decide +kernel
theorem dX1_overloaded_9 : decode cX1_overloaded 9 = .ok (.if_icmp .ge 35, 3) := by decide +kernel
theorem dX1_overloaded_12 : decode cX1_overloaded 12 = .ok (.aload_n 0, 1) := by decide +kernel
theorem dX1_overloaded_13 : decode cX1_overloaded 13 = .ok (.getfield 28, 3) := by decide +kernel
theorem dX1_overloaded_16 : decode cX1_overloaded 16 = .ok (.iload_n 3, 1) := by decide +kernel
theorem dX1_overloaded_17 : decode cX1_overloaded 17 = .ok (.daload, 1) := by decide +kernel
theorem dX1_overloaded_18 : decode cX1_overloaded 18 = .ok (.aload_n 0, 1) := by decide +kernel
theorem dX1_overloaded_19 : decode cX1_overloaded 19 = .ok (.getfield 25, 3) := by decide +kernel
theorem dX1_overloaded_22 : decode cX1_overloaded 22 = .ok (.iload_n 3, 1) := by decide +kernel
theorem dX1_overloaded_23 : decode cX1_overloaded 23 = .ok (.daload, 1) := by decide +kernel
theorem dX1_overloaded_24 : decode cX1_overloaded 24 = .ok (.dcmp .l, 1) := by decide +kernel
theorem dX1_overloaded_25 : decode cX1_overloaded 25 = .ok (.ifCond .le 13, 3) := by decide +kernel
theorem dX1_overloaded_28 : decode cX1_overloaded 28 = .ok (.iload_n 2, 1) := by decide +kernel
theorem dX1_overloaded_29 : decode cX1_overloaded 29 = .ok (.iload_n 1, 1) := by decide +kernel
theorem dX1_overloaded_30 : decode cX1_overloaded 30 = .ok (.if_icmp .ne 5, 3) := by decide +kernel
theorem dX1_overloaded_33 : decode cX1_overloaded 33 = .ok (.iload_n 3, 1) := by decide +kernel
theorem dX1_overloaded_34 : decode cX1_overloaded 34 = .ok (.ireturn, 1) := by decide +kernel
theorem dX1_overloaded_35 : decode cX1_overloaded 35 = .ok (.iinc 2 1, 3) := by decide +kernel
theorem dX1_overloaded_38 : decode cX1_overloaded 38 = .ok (.iinc 3 1, 3) := by decide +kernel
theorem dX1_overloaded_41 : decode cX1_overloaded 41 = .ok (.goto (-37), 3) := by decide +kernel
theorem dX1_overloaded_44 : decode cX1_overloaded 44 = .ok (.iconst (-1), 1) := by decide +kernel
theorem dX1_overloaded_45 : decode cX1_overloaded 45 = .ok (.ireturn, 1) := by decide +kernel
theorem dX2_init_0 : decode cX2_init 0 = .ok (.aload_n 0, 1) := by decide +kernel
theorem dX2_init_1 : decode cX2_init 1 = .ok (.invokespecial 3, 3) := by decide +kernel
theorem dX2_init_4 : decode cX2_init 4 = .ok (.aload_n 0, 1) := by decide +kernel
theorem dX2_init_5 : decode cX2_init 5 = .ok (.bipush 20, 2) := by decide +kernel
theorem dX2_init_7 : decode cX2_init 7 = .ok (.newarray .double, 2) := by decide +kernel
theorem dX2_init_9 : decode cX2_init 9 = .ok (.putfield 9, 3) := by decide +kernel
theorem dX2_init_12 : decode cX2_init 12 = .ok (.aload_n 0, 1) := by decide +kernel
theorem dX2_init_13 : decode cX2_init 13 = .ok (.iconst 0, 1) := by decide +kernel
theorem dX2_init_14 : decode cX2_init 14 = .ok (.putfield 15, 3) := by decide +kernel
theorem dX2_init_17 : decode cX2_init 17 = .ok (.aload_n 0, 1) := by decide +kernel
theorem dX2_init_18 : decode cX2_init 18 = .ok (.iconst 0, 1) := by decide +kernel
theorem dX2_init_19 : decode cX2_init 19 = .ok (.putfield 19, 3) := by decide +kernel
theorem dX2_init_22 : decode cX2_init 22 = .ok (.return_, 1) := by decide +kernel
theorem dX2_add_0 : decode cX2_add 0 = .ok (.aload_n 0, 1) := by decide +kernel
theorem dX2_add_1 : decode cX2_add 1 = .ok (.getfield 9, 3) := by decide +kernel
theorem dX2_add_4 : decode cX2_add 4 = .ok (.aload_n 0, 1) := by decide +kernel
theorem dX2_add_5 : decode cX2_add 5 = .ok (.getfield 19, 3) := by decide +kernel
theorem dX2_add_8 : decode cX2_add 8 = .ok (.dload_n 1, 1) := by decide +kernel
theorem dX2_add_9 : decode cX2_add 9 = .ok (.dastore, 1) := by decide +kernel
theorem dX2_add_10 : decode cX2_add 10 = .ok (.aload_n 0, 1) := by decide +kernel
theorem dX2_add_11 : decode cX2_add 11 = .ok (.aload_n 0, 1) := by decide +kernel
theorem dX2_add_12 : decode cX2_add 12 = .ok (.getfield 19, 3) := by decide +kernel
theorem dX2_add_15 : decode cX2_add 15 = .ok (.iconst 1, 1) := by decide +kernel
theorem dX2_add_16 : decode cX2_add 16 = .ok (.iadd, 1) := by decide +kernel
theorem dX2_add_17 : decode cX2_add 17 = .ok (.bipush 20, 2) := by decide +kernel
theorem dX2_add_19 : decode cX2_add 19 = .ok (.irem, 1) := by decide +kernel
theorem dX2_add_20 : decode cX2_add 20 = .ok (.putfield 19, 3) := by decide +kernel
theorem dX2_add_23 : decode cX2_add 23 = .ok (.aload_n 0, 1) := by decide +kernel
theorem dX2_add_24 : decode cX2_add 24 = .ok (.aload_n 0, 1) := by decide +kernel
theorem dX2_add_25 : decode cX2_add 25 = .ok (.getfield 15, 3) := by decide +kernel
theorem dX2_add_28 : decode cX2_add 28 = .ok (.iconst 1, 1) := by decide +kernel
theorem dX2_add_29 : decode cX2_add 29 = .ok (.iadd, 1) := by decide +kernel
theorem dX2_add_30 : decode cX2_add 30 = .ok (.bipush 20, 2) := by decide +kernel
theorem dX2_add_32 : decode cX2_add 32 = .ok (.invokestatic 22, 3) := by decide +kernel
theorem dX2_add_35 : decode cX2_add 35 = .ok (.putfield 15, 3) := by decide +kernel
theorem dX2_add_38 : decode cX2_add 38 = .ok (.return_, 1) := by decide +kernel
set_option maxRecDepth 20000 in
theorem ggX2_leastOfLatest_X2_backwards : GoodIn wsX2_leastOfLatest wsX2_backwards := goodIn_r _ [6, 7, 8, 9, 10, 11, 12, 13, 14, 15] (by decide +kernel) (by decide +kernel)
set_option maxRecDepth 20000 in
theorem gX2_leastOfLatest_X2_backwards : GoodIn wsX2_leastOfLatest (wsV RX2 28 RX2 yX2_backwards wsX2_backwards) := goodIn_app (goodIn_of _ (by decide +kernel)) ggX2_leastOfLatest_X2_backwards
theorem dX2_leastOfLatest_0 : decode cX2_leastOfLatest 0 = .ok (.iconst (-1), 1) := by decide +kernel
theorem dX2_leastOfLatest_1 : decode cX2_leastOfLatest 1 = .ok (.istore_n 2, 1) := by decide +kernel
theorem dX2_leastOfLatest_2 : decode cX2_leastOfLatest 2 = .ok (.iconst 0, 1) := by decide +kernel
theorem dX2_leastOfLatest_3 : decode cX2_leastOfLatest 3 = .ok (.istore_n 3, 1) := by decide +kernel
theorem dX2_leastOfLatest_4 : decode cX2_leastOfLatest 4 = .ok (.iload_n 3, 1) := by decide +kernel
theorem dX2_leastOfLatest_5 : decode cX2_leastOfLatest 5 = .ok (.iload_n 1, 1) := by decide +kernel
theorem dX2_leastOfLatest_6 : decode cX2_leastOfLatest 6 = .ok (.if_icmp .ge 38, 3) := by decide +kernel
theorem dX2_leastOfLatest_9 : decode cX2_leastOfLatest 9 = .ok (.iload_n 3, 1) := by decide +kernel
theorem dX2_leastOfLatest_10 : decode cX2_leastOfLatest 10 = .ok (.aload_n 0, 1) := by decide +kernel
theorem dX2_leastOfLatest_11 : decode cX2_leastOfLatest 11 = .ok (.getfield 15, 3) := by decide +kernel
theorem dX2_leastOfLatest_14 : decode cX2_leastOfLatest 14 = .ok (.if_icmp .ge 30, 3) := by decide +kernel
theorem dX2_leastOfLatest_17 : decode cX2_leastOfLatest 17 = .ok (.iload_n 2, 1) := by decide +kernel
theorem dX2_leastOfLatest_18 : decode cX2_leastOfLatest 18 = .ok (.iconst (-1), 1) := by decide +kernel
theorem dX2_leastOfLatest_19 : decode cX2_leastOfLatest 19 = .ok (.if_icmp .eq 17, 3) := by decide +kernel
theorem dX2_leastOfLatest_22 : decode cX2_leastOfLatest 22 = .ok (.aload_n 0, 1) := by decide +kernel
theorem dX2_leastOfLatest_23 : decode cX2_leastOfLatest 23 = .ok (.iload_n 3, 1) := by decide +kernel
theorem dX2_leastOfLatest_24 : decode cX2_leastOfLatest 24 = .ok (.invokevirtual 28, 3) := by decide +kernel
theorem dX2_leastOfLatest_27 : decode cX2_leastOfLatest 27 = .ok (.aload_n 0, 1) := by decide +kernel
theorem dX2_leastOfLatest_28 : decode cX2_leastOfLatest 28 = .ok (.iload_n 2, 1) := by decide +kernel
theorem dX2_leastOfLatest_29 : decode cX2_leastOfLatest 29 = .ok (.invokevirtual 28, 3) := by decide +kernel
theorem dX2_leastOfLatest_32 : decode cX2_leastOfLatest 32 = .ok (.dcmp .g, 1) := by decide +kernel
theorem dX2_leastOfLatest_33 : decode cX2_leastOfLatest 33 = .ok (.ifCond .ge 5, 3) := by decide +kernel
theorem dX2_leastOfLatest_36 : decode cX2_leastOfLatest 36 = .ok (.iload_n 3, 1) := by decide +kernel
theorem dX2_leastOfLatest_37 : decode cX2_leastOfLatest 37 = .ok (.istore_n 2, 1) := by decide +kernel
theorem dX2_leastOfLatest_38 : decode cX2_leastOfLatest 38 = .ok (.iinc 3 1, 3) := by decide +kernel
theorem dX2_leastOfLatest_41 : decode cX2_leastOfLatest 41 = .ok (.goto (-37), 3) := by decide +kernel
theorem dX2_leastOfLatest_44 : decode cX2_leastOfLatest 44 = .ok (.iload_n 2, 1) := by decide +kernel
theorem dX2_leastOfLatest_45 : decode cX2_leastOfLatest 45 = .ok (.ireturn, 1) := by decide +kernel
set_option maxRecDepth 20000 in
theorem ggX2_backwards_J9_floorMod_7cf53 : GoodIn wsX2_backwards wsJ9_floorMod_7cf53 := goodIn_r _ [6] (by decide +kernel) (by decide +kernel)
set_option maxRecDepth 20000 in
theorem gX2_backwards_J9_floorMod_7cf53 : GoodIn wsX2_backwards (va_wsS RX2 32 yJ9_floorMod_7cf53 wsJ9_floorMod_7cf53) := goodIn_app (goodIn_of _ (by decide +kernel)) ggX2_backwards_J9_floorMod_7cf53
theorem dX2_backwards_0 : decode cX2_backwards 0 = .ok (.aload_n 0, 1) := by decide +kernel
theorem dX2_backwards_1 : decode cX2_backwards 1 = .ok (.getfield 9, 3) := by decide +kernel
theorem dX2_backwards_4 : decode cX2_backwards 4 = .ok (.aload_n 0, 1) := by decide +kernel
theorem dX2_backwards_5 : decode cX2_backwards 5 = .ok (.getfield 19, 3) := by decide +kernel
theorem dX2_backwards_8 : decode cX2_backwards 8 = .ok (.iconst 1, 1) := by decide +kernel
theorem dX2_backwards_9 : decode cX2_backwards 9 = .ok (.isub, 1) := by decide +kernel
theorem dX2_backwards_10 : decode cX2_backwards 10 = .ok (.iload_n 1, 1) := by decide +kernel
theorem dX2_backwards_11 : decode cX2_backwards 11 = .ok (.isub, 1) := by decide +kernel
theorem dX2_backwards_12 : decode cX2_backwards 12 = .ok (.bipush 20, 2) := by decide +kernel
theorem dX2_backwards_14 : decode cX2_backwards 14 = .ok (.invokestatic 32, 3) := by decide +kernel
theorem dX2_backwards_17 : decode cX2_backwards 17 = .ok (.daload, 1) := by decide +kernel
theorem dX2_backwards_18 : decode cX2_backwards 18 = .ok (.dreturn, 1) := by decide +kernel
theorem dX3_init_0 : decode cX3_init 0 = .ok (.aload_n 0, 1) := by decide +kernel
theorem dX3_init_1 : decode cX3_init 1 = .ok (.invokespecial 3, 3) := by decide +kernel
theorem dX3_init_4 : decode cX3_init 4 = .ok (.aload_n 0, 1) := by decide +kernel
theorem dX3_init_5 : decode cX3_init 5 = .ok (.iconst 3, 1) := by decide +kernel
theorem dX3_init_6 : decode cX3_init 6 = .ok (.bipush 30, 2) := by decide +kernel
theorem dX3_init_8 : decode cX3_init 8 = .ok (.multianewarray 9 2, 4) := by decide +kernel
theorem dX3_init_12 : decode cX3_init 12 = .ok (.putfield 11, 3) := by decide +kernel
theorem dX3_init_15 : decode cX3_init 15 = .ok (.aload_n 0, 1) := by decide +kernel
theorem dX3_init_16 : decode cX3_init 16 = .ok (.iconst 3, 1) := by decide +kernel
theorem dX3_init_17 : decode cX3_init 17 = .ok (.bipush 30, 2) := by decide +kernel
theorem dX3_init_19 : decode cX3_init 19 = .ok (.multianewarray 9 2, 4) := by decide +kernel
theorem dX3_init_23 : decode cX3_init 23 = .ok (.putfield 16, 3) := by decide +kernel
theorem dX3_init_26 : decode cX3_init 26 = .ok (.aload_n 0, 1) := by decide +kernel
theorem dX3_init_27 : decode cX3_init 27 = .ok (.bipush 30, 2) := by decide +kernel
theorem dX3_init_29 : decode cX3_init 29 = .ok (.newarray .double, 2) := by decide +kernel
theorem dX3_init_31 : decode cX3_init 31 = .ok (.putfield 19, 3) := by decide +kernel
theorem dX3_init_34 : decode cX3_init 34 = .ok (.aload_n 0, 1) := by decide +kernel
theorem dX3_init_35 : decode cX3_init 35 = .ok (.bipush 30, 2) := by decide +kernel
theorem dX3_init_37 : decode cX3_init 37 = .ok (.newarray .double, 2) := by decide +kernel
theorem dX3_init_39 : decode cX3_init 39 = .ok (.putfield 23, 3) := by decide +kernel
theorem dX3_init_42 : decode cX3_init 42 = .ok (.aload_n 0, 1) := by decide +kernel
theorem dX3_init_43 : decode cX3_init 43 = .ok (.bipush 30, 2) := by decide +kernel
theorem dX3_init_45 : decode cX3_init 45 = .ok (.newarray .boolean, 2) := by decide +kernel
theorem dX3_init_47 : decode cX3_init 47 = .ok (.putfield 26, 3) := by decide +kernel
theorem dX3_init_50 : decode cX3_init 50 = .ok (.aload_n 0, 1) := by decide +kernel
theorem dX3_init_51 : decode cX3_init 51 = .ok (.iconst 0, 1) := by decide +kernel
theorem dX3_init_52 : decode cX3_init 52 = .ok (.putfield 30, 3) := by decide +kernel
theorem dX3_init_55 : decode cX3_init 55 = .ok (.return_, 1) := by decide +kernel
theorem dX3_has_0 : decode cX3_has 0 = .ok (.iload_n 1, 1) := by decide +kernel
theorem dX3_has_1 : decode cX3_has 1 = .ok (.ifCond .lt 15, 3) := by decide +kernel
theorem dX3_has_4 : decode cX3_has 4 = .ok (.iload_n 1, 1) := by decide +kernel
theorem dX3_has_5 : decode cX3_has 5 = .ok (.aload_n 0, 1) := by decide +kernel
theorem dX3_has_6 : decode cX3_has 6 = .ok (.getfield 30, 3) := by decide +kernel
theorem dX3_has_9 : decode cX3_has 9 = .ok (.if_icmp .ge 7, 3) := by decide +kernel
theorem dX3_has_12 : decode cX3_has 12 = .ok (.iconst 1, 1) := by decide +kernel
theorem dX3_has_13 : decode cX3_has 13 = .ok (.goto 4, 3) := by decide +kernel
theorem dX3_has_16 : decode cX3_has 16 = .ok (.iconst 0, 1) := by decide +kernel
theorem dX3_has_17 : decode cX3_has 17 = .ok (.ireturn, 1) := by decide +kernel
theorem dX3_add_0 : decode cX3_add 0 = .ok (.aload_n 0, 1) := by decide +kernel
theorem dX3_add_1 : decode cX3_add 1 = .ok (.getfield 30, 3) := by decide +kernel
theorem dX3_add_4 : decode cX3_add 4 = .ok (.istore 7, 2) := by decide +kernel
theorem dX3_add_6 : decode cX3_add 6 = .ok (.aload_n 0, 1) := by decide +kernel
theorem dX3_add_7 : decode cX3_add 7 = .ok (.getfield 11, 3) := by decide +kernel
theorem dX3_add_10 : decode cX3_add 10 = .ok (.iconst 0, 1) := by decide +kernel
theorem dX3_add_11 : decode cX3_add 11 = .ok (.aaload, 1) := by decide +kernel
theorem dX3_add_12 : decode cX3_add 12 = .ok (.iload 7, 2) := by decide +kernel
theorem dX3_add_14 : decode cX3_add 14 = .ok (.dload_n 1, 1) := by decide +kernel
theorem dX3_add_15 : decode cX3_add 15 = .ok (.dastore, 1) := by decide +kernel
theorem dX3_add_16 : decode cX3_add 16 = .ok (.aload_n 0, 1) := by decide +kernel
theorem dX3_add_17 : decode cX3_add 17 = .ok (.getfield 11, 3) := by decide +kernel
theorem dX3_add_20 : decode cX3_add 20 = .ok (.iconst 1, 1) := by decide +kernel
theorem dX3_add_21 : decode cX3_add 21 = .ok (.aaload, 1) := by decide +kernel
theorem dX3_add_22 : decode cX3_add 22 = .ok (.iload 7, 2) := by decide +kernel
theorem dX3_add_24 : decode cX3_add 24 = .ok (.dload_n 3, 1) := by decide +kernel
theorem dX3_add_25 : decode cX3_add 25 = .ok (.dastore, 1) := by decide +kernel
theorem dX3_add_26 : decode cX3_add 26 = .ok (.aload_n 0, 1) := by decide +kernel
theorem dX3_add_27 : decode cX3_add 27 = .ok (.getfield 11, 3) := by decide +kernel
theorem dX3_add_30 : decode cX3_add 30 = .ok (.iconst 2, 1) := by decide +kernel
theorem dX3_add_31 : decode cX3_add 31 = .ok (.aaload, 1) := by decide +kernel
theorem dX3_add_32 : decode cX3_add 32 = .ok (.iload 7, 2) := by decide +kernel
theorem dX3_add_34 : decode cX3_add 34 = .ok (.dload 5, 2) := by decide +kernel
theorem dX3_add_36 : decode cX3_add 36 = .ok (.dastore, 1) := by decide +kernel
theorem dX3_add_37 : decode cX3_add 37 = .ok (.aload_n 0, 1) := by decide +kernel
theorem dX3_add_38 : decode cX3_add 38 = .ok (.dup, 1) := by decide +kernel
theorem dX3_add_39 : decode cX3_add 39 = .ok (.getfield 30, 3) := by decide +kernel
theorem dX3_add_42 : decode cX3_add 42 = .ok (.iconst 1, 1) := by decide +kernel
theorem dX3_add_43 : decode cX3_add 43 = .ok (.iadd, 1) := by decide +kernel
theorem dX3_add_44 : decode cX3_add 44 = .ok (.putfield 30, 3) := by decide +kernel
theorem dX3_add_47 : decode cX3_add 47 = .ok (.iload 7, 2) := by decide +kernel
theorem dX3_add_49 : decode cX3_add 49 = .ok (.ireturn, 1) := by decide +kernel
theorem dX3_startForces_0 : decode cX3_startForces 0 = .ok (.iconst 0, 1) := by decide +kernel
theorem dX3_startForces_1 : decode cX3_startForces 1 = .ok (.istore_n 1, 1) := by decide +kernel
theorem dX3_startForces_2 : decode cX3_startForces 2 = .ok (.iload_n 1, 1) := by decide +kernel
theorem dX3_startForces_3 : decode cX3_startForces 3 = .ok (.aload_n 0, 1) := by decide +kernel
theorem dX3_startForces_4 : decode cX3_startForces 4 = .ok (.getfield 30, 3) := by decide +kernel
theorem dX3_startForces_7 : decode cX3_startForces 7 = .ok (.if_icmp .ge 50, 3) := by decide +kernel
theorem dX3_startForces_10 : decode cX3_startForces 10 = .ok (.aload_n 0, 1) := by decide +kernel
theorem dX3_startForces_11 : decode cX3_startForces 11 = .ok (.getfield 16, 3) := by decide +kernel
theorem dX3_startForces_14 : decode cX3_startForces 14 = .ok (.iconst 0, 1) := by decide +kernel
theorem dX3_startForces_15 : decode cX3_startForces 15 = .ok (.aaload, 1) := by decide +kernel
theorem dX3_startForces_16 : decode cX3_startForces 16 = .ok (.iload_n 1, 1) := by decide +kernel
theorem dX3_startForces_17 : decode cX3_startForces 17 = .ok (.dconst 0, 1) := by decide +kernel
theorem dX3_startForces_18 : decode cX3_startForces 18 = .ok (.dastore, 1) := by decide +kernel
theorem dX3_startForces_19 : decode cX3_startForces 19 = .ok (.aload_n 0, 1) := by decide +kernel
theorem dX3_startForces_20 : decode cX3_startForces 20 = .ok (.getfield 16, 3) := by decide +kernel
theorem dX3_startForces_23 : decode cX3_startForces 23 = .ok (.iconst 1, 1) := by decide +kernel
theorem dX3_startForces_24 : decode cX3_startForces 24 = .ok (.aaload, 1) := by decide +kernel
theorem dX3_startForces_25 : decode cX3_startForces 25 = .ok (.iload_n 1, 1) := by decide +kernel
theorem dX3_startForces_26 : decode cX3_startForces 26 = .ok (.dconst 0, 1) := by decide +kernel
theorem dX3_startForces_27 : decode cX3_startForces 27 = .ok (.dastore, 1) := by decide +kernel
theorem dX3_startForces_28 : decode cX3_startForces 28 = .ok (.aload_n 0, 1) := by decide +kernel
theorem dX3_startForces_29 : decode cX3_startForces 29 = .ok (.getfield 16, 3) := by decide +kernel
theorem dX3_startForces_32 : decode cX3_startForces 32 = .ok (.iconst 2, 1) := by decide +kernel
theorem dX3_startForces_33 : decode cX3_startForces 33 = .ok (.aaload, 1) := by decide +kernel
theorem dX3_startForces_34 : decode cX3_startForces 34 = .ok (.iload_n 1, 1) := by decide +kernel
theorem dX3_startForces_35 : decode cX3_startForces 35 = .ok (.dconst 0, 1) := by decide +kernel
theorem dX3_startForces_36 : decode cX3_startForces 36 = .ok (.aload_n 0, 1) := by decide +kernel
theorem dX3_startForces_37 : decode cX3_startForces 37 = .ok (.getfield 23, 3) := by decide +kernel
theorem dX3_startForces_40 : decode cX3_startForces 40 = .ok (.iload_n 1, 1) := by decide +kernel
theorem dX3_startForces_41 : decode cX3_startForces 41 = .ok (.daload, 1) := by decide +kernel
theorem dX3_startForces_42 : decode cX3_startForces 42 = .ok (.aload_n 0, 1) := by decide +kernel
theorem dX3_startForces_43 : decode cX3_startForces 43 = .ok (.getfield 19, 3) := by decide +kernel
theorem dX3_startForces_46 : decode cX3_startForces 46 = .ok (.iload_n 1, 1) := by decide +kernel
theorem dX3_startForces_47 : decode cX3_startForces 47 = .ok (.daload, 1) := by decide +kernel
theorem dX3_startForces_48 : decode cX3_startForces 48 = .ok (.dsub, 1) := by decide +kernel
theorem dX3_startForces_49 : decode cX3_startForces 49 = .ok (.dadd, 1) := by decide +kernel
theorem dX3_startForces_50 : decode cX3_startForces 50 = .ok (.dastore, 1) := by decide +kernel
theorem dX3_startForces_51 : decode cX3_startForces 51 = .ok (.iinc 1 1, 3) := by decide +kernel
theorem dX3_startForces_54 : decode cX3_startForces 54 = .ok (.goto (-52), 3) := by decide +kernel
theorem dX3_startForces_57 : decode cX3_startForces 57 = .ok (.return_, 1) := by decide +kernel
set_option maxRecDepth 20000 in
theorem ggX3_greatestForce_X6_size : GoodIn wsX3_greatestForce wsX6_size := goodIn_r _ [6] (by decide +kernel) (by decide +kernel)
set_option maxRecDepth 20000 in
theorem gX3_greatestForce_X6_size_n34 : GoodIn wsX3_greatestForce (wsX6_size) := ggX3_greatestForce_X6_size
theorem dX3_greatestForce_0 : decode cX3_greatestForce 0 = .ok (.dconst 0, 1) := by decide +kernel
theorem dX3_greatestForce_1 : decode cX3_greatestForce 1 = .ok (.dstore_n 1, 1) := by decide +kernel
theorem dX3_greatestForce_2 : decode cX3_greatestForce 2 = .ok (.iconst 0, 1) := by decide +kernel
theorem dX3_greatestForce_3 : decode cX3_greatestForce 3 = .ok (.istore_n 3, 1) := by decide +kernel
theorem dX3_greatestForce_4 : decode cX3_greatestForce 4 = .ok (.iload_n 3, 1) := by decide +kernel
theorem dX3_greatestForce_5 : decode cX3_greatestForce 5 = .ok (.aload_n 0, 1) := by decide +kernel
theorem dX3_greatestForce_6 : decode cX3_greatestForce 6 = .ok (.getfield 30, 3) := by decide +kernel
theorem dX3_greatestForce_9 : decode cX3_greatestForce 9 = .ok (.if_icmp .ge 64, 3) := by decide +kernel
theorem dX3_greatestForce_12 : decode cX3_greatestForce 12 = .ok (.aload_n 0, 1) := by decide +kernel
theorem dX3_greatestForce_13 : decode cX3_greatestForce 13 = .ok (.getfield 26, 3) := by decide +kernel
theorem dX3_greatestForce_16 : decode cX3_greatestForce 16 = .ok (.iload_n 3, 1) := by decide +kernel
theorem dX3_greatestForce_17 : decode cX3_greatestForce 17 = .ok (.baload, 1) := by decide +kernel
theorem dX3_greatestForce_18 : decode cX3_greatestForce 18 = .ok (.ifCond .eq 6, 3) := by decide +kernel
theorem dX3_greatestForce_21 : decode cX3_greatestForce 21 = .ok (.goto 46, 3) := by decide +kernel
theorem dX3_greatestForce_24 : decode cX3_greatestForce 24 = .ok (.iconst 0, 1) := by decide +kernel
theorem dX3_greatestForce_25 : decode cX3_greatestForce 25 = .ok (.istore 4, 2) := by decide +kernel
theorem dX3_greatestForce_27 : decode cX3_greatestForce 27 = .ok (.iload 4, 2) := by decide +kernel
theorem dX3_greatestForce_29 : decode cX3_greatestForce 29 = .ok (.iconst 3, 1) := by decide +kernel
theorem dX3_greatestForce_30 : decode cX3_greatestForce 30 = .ok (.if_icmp .ge 37, 3) := by decide +kernel
theorem dX3_greatestForce_33 : decode cX3_greatestForce 33 = .ok (.aload_n 0, 1) := by decide +kernel
theorem dX3_greatestForce_34 : decode cX3_greatestForce 34 = .ok (.getfield 16, 3) := by decide +kernel
theorem dX3_greatestForce_37 : decode cX3_greatestForce 37 = .ok (.iload 4, 2) := by decide +kernel
theorem dX3_greatestForce_39 : decode cX3_greatestForce 39 = .ok (.aaload, 1) := by decide +kernel
theorem dX3_greatestForce_40 : decode cX3_greatestForce 40 = .ok (.iload_n 3, 1) := by decide +kernel
theorem dX3_greatestForce_41 : decode cX3_greatestForce 41 = .ok (.daload, 1) := by decide +kernel
theorem dX3_greatestForce_42 : decode cX3_greatestForce 42 = .ok (.invokestatic 34, 3) := by decide +kernel
theorem dX3_greatestForce_45 : decode cX3_greatestForce 45 = .ok (.dstore 5, 2) := by decide +kernel
theorem dX3_greatestForce_47 : decode cX3_greatestForce 47 = .ok (.dload 5, 2) := by decide +kernel
theorem dX3_greatestForce_49 : decode cX3_greatestForce 49 = .ok (.dload_n 1, 1) := by decide +kernel
theorem dX3_greatestForce_50 : decode cX3_greatestForce 50 = .ok (.dcmp .l, 1) := by decide +kernel
theorem dX3_greatestForce_51 : decode cX3_greatestForce 51 = .ok (.ifCond .le 8, 3) := by decide +kernel
theorem dX3_greatestForce_54 : decode cX3_greatestForce 54 = .ok (.dload 5, 2) := by decide +kernel
theorem dX3_greatestForce_56 : decode cX3_greatestForce 56 = .ok (.goto 4, 3) := by decide +kernel
theorem dX3_greatestForce_59 : decode cX3_greatestForce 59 = .ok (.dload_n 1, 1) := by decide +kernel
theorem dX3_greatestForce_60 : decode cX3_greatestForce 60 = .ok (.dstore_n 1, 1) := by decide +kernel
theorem dX3_greatestForce_61 : decode cX3_greatestForce 61 = .ok (.iinc 4 1, 3) := by decide +kernel
theorem dX3_greatestForce_64 : decode cX3_greatestForce 64 = .ok (.goto (-37), 3) := by decide +kernel
theorem dX3_greatestForce_67 : decode cX3_greatestForce 67 = .ok (.iinc 3 1, 3) := by decide +kernel
theorem dX3_greatestForce_70 : decode cX3_greatestForce 70 = .ok (.goto (-66), 3) := by decide +kernel
theorem dX3_greatestForce_73 : decode cX3_greatestForce 73 = .ok (.dload_n 1, 1) := by decide +kernel
theorem dX3_greatestForce_74 : decode cX3_greatestForce 74 = .ok (.dreturn, 1) := by decide +kernel
set_option maxRecDepth 20000 in
theorem ggX3_giveWay_X3_stepFor : GoodIn wsX3_giveWay wsX3_stepFor := goodIn_r _ [8, 9, 10] (by decide +kernel) (by decide +kernel)
set_option maxRecDepth 20000 in
theorem gX3_giveWay_X3_stepFor : GoodIn wsX3_giveWay (va_wsS RX3 38 yX3_stepFor wsX3_stepFor) := goodIn_app (goodIn_of _ (by decide +kernel)) ggX3_giveWay_X3_stepFor
theorem dX3_giveWay_0 : decode cX3_giveWay 0 = .ok (.iconst 0, 1) := by decide +kernel
theorem dX3_giveWay_1 : decode cX3_giveWay 1 = .ok (.istore_n 1, 1) := by decide +kernel
theorem dX3_giveWay_2 : decode cX3_giveWay 2 = .ok (.iload_n 1, 1) := by decide +kernel
theorem dX3_giveWay_3 : decode cX3_giveWay 3 = .ok (.aload_n 0, 1) := by decide +kernel
theorem dX3_giveWay_4 : decode cX3_giveWay 4 = .ok (.getfield 30, 3) := by decide +kernel
theorem dX3_giveWay_7 : decode cX3_giveWay 7 = .ok (.if_icmp .ge 56, 3) := by decide +kernel
theorem dX3_giveWay_10 : decode cX3_giveWay 10 = .ok (.aload_n 0, 1) := by decide +kernel
theorem dX3_giveWay_11 : decode cX3_giveWay 11 = .ok (.getfield 26, 3) := by decide +kernel
theorem dX3_giveWay_14 : decode cX3_giveWay 14 = .ok (.iload_n 1, 1) := by decide +kernel
theorem dX3_giveWay_15 : decode cX3_giveWay 15 = .ok (.baload, 1) := by decide +kernel
theorem dX3_giveWay_16 : decode cX3_giveWay 16 = .ok (.ifCond .eq 6, 3) := by decide +kernel
theorem dX3_giveWay_19 : decode cX3_giveWay 19 = .ok (.goto 38, 3) := by decide +kernel
theorem dX3_giveWay_22 : decode cX3_giveWay 22 = .ok (.iconst 0, 1) := by decide +kernel
theorem dX3_giveWay_23 : decode cX3_giveWay 23 = .ok (.istore_n 2, 1) := by decide +kernel
theorem dX3_giveWay_24 : decode cX3_giveWay 24 = .ok (.iload_n 2, 1) := by decide +kernel
theorem dX3_giveWay_25 : decode cX3_giveWay 25 = .ok (.iconst 3, 1) := by decide +kernel
theorem dX3_giveWay_26 : decode cX3_giveWay 26 = .ok (.if_icmp .ge 31, 3) := by decide +kernel
theorem dX3_giveWay_29 : decode cX3_giveWay 29 = .ok (.aload_n 0, 1) := by decide +kernel
theorem dX3_giveWay_30 : decode cX3_giveWay 30 = .ok (.getfield 11, 3) := by decide +kernel
theorem dX3_giveWay_33 : decode cX3_giveWay 33 = .ok (.iload_n 2, 1) := by decide +kernel
theorem dX3_giveWay_34 : decode cX3_giveWay 34 = .ok (.aaload, 1) := by decide +kernel
theorem dX3_giveWay_35 : decode cX3_giveWay 35 = .ok (.iload_n 1, 1) := by decide +kernel
theorem dX3_giveWay_36 : decode cX3_giveWay 36 = .ok (.dup2, 1) := by decide +kernel
theorem dX3_giveWay_37 : decode cX3_giveWay 37 = .ok (.daload, 1) := by decide +kernel
theorem dX3_giveWay_38 : decode cX3_giveWay 38 = .ok (.aload_n 0, 1) := by decide +kernel
theorem dX3_giveWay_39 : decode cX3_giveWay 39 = .ok (.getfield 16, 3) := by decide +kernel
theorem dX3_giveWay_42 : decode cX3_giveWay 42 = .ok (.iload_n 2, 1) := by decide +kernel
theorem dX3_giveWay_43 : decode cX3_giveWay 43 = .ok (.aaload, 1) := by decide +kernel
theorem dX3_giveWay_44 : decode cX3_giveWay 44 = .ok (.iload_n 1, 1) := by decide +kernel
theorem dX3_giveWay_45 : decode cX3_giveWay 45 = .ok (.daload, 1) := by decide +kernel
theorem dX3_giveWay_46 : decode cX3_giveWay 46 = .ok (.invokestatic 38, 3) := by decide +kernel
theorem dX3_giveWay_49 : decode cX3_giveWay 49 = .ok (.dadd, 1) := by decide +kernel
theorem dX3_giveWay_50 : decode cX3_giveWay 50 = .ok (.dastore, 1) := by decide +kernel
theorem dX3_giveWay_51 : decode cX3_giveWay 51 = .ok (.iinc 2 1, 3) := by decide +kernel
theorem dX3_giveWay_54 : decode cX3_giveWay 54 = .ok (.goto (-30), 3) := by decide +kernel
theorem dX3_giveWay_57 : decode cX3_giveWay 57 = .ok (.iinc 1 1, 3) := by decide +kernel
theorem dX3_giveWay_60 : decode cX3_giveWay 60 = .ok (.goto (-58), 3) := by decide +kernel
theorem dX3_giveWay_63 : decode cX3_giveWay 63 = .ok (.return_, 1) := by decide +kernel
theorem dX3_stepFor_0 : decode cX3_stepFor 0 = .ok (.ldc2_w 41, 3) := by decide +kernel
theorem dX3_stepFor_3 : decode cX3_stepFor 3 = .ok (.dstore_n 2, 1) := by decide +kernel
theorem dX3_stepFor_4 : decode cX3_stepFor 4 = .ok (.ldc2_w 43, 3) := by decide +kernel
theorem dX3_stepFor_7 : decode cX3_stepFor 7 = .ok (.dload_n 0, 1) := by decide +kernel
theorem dX3_stepFor_8 : decode cX3_stepFor 8 = .ok (.dmul, 1) := by decide +kernel
theorem dX3_stepFor_9 : decode cX3_stepFor 9 = .ok (.dstore 4, 2) := by decide +kernel
theorem dX3_stepFor_11 : decode cX3_stepFor 11 = .ok (.dload 4, 2) := by decide +kernel
theorem dX3_stepFor_13 : decode cX3_stepFor 13 = .ok (.dload_n 2, 1) := by decide +kernel
theorem dX3_stepFor_14 : decode cX3_stepFor 14 = .ok (.dcmp .l, 1) := by decide +kernel
theorem dX3_stepFor_15 : decode cX3_stepFor 15 = .ok (.ifCond .le 5, 3) := by decide +kernel
theorem dX3_stepFor_18 : decode cX3_stepFor 18 = .ok (.dload_n 2, 1) := by decide +kernel
theorem dX3_stepFor_19 : decode cX3_stepFor 19 = .ok (.dreturn, 1) := by decide +kernel
theorem dX3_stepFor_20 : decode cX3_stepFor 20 = .ok (.dload 4, 2) := by decide +kernel
theorem dX3_stepFor_22 : decode cX3_stepFor 22 = .ok (.dload_n 2, 1) := by decide +kernel
theorem dX3_stepFor_23 : decode cX3_stepFor 23 = .ok (.dneg, 1) := by decide +kernel
theorem dX3_stepFor_24 : decode cX3_stepFor 24 = .ok (.dcmp .g, 1) := by decide +kernel
theorem dX3_stepFor_25 : decode cX3_stepFor 25 = .ok (.ifCond .ge 8, 3) := by decide +kernel
theorem dX3_stepFor_28 : decode cX3_stepFor 28 = .ok (.dload_n 2, 1) := by decide +kernel
theorem dX3_stepFor_29 : decode cX3_stepFor 29 = .ok (.dneg, 1) := by decide +kernel
theorem dX3_stepFor_30 : decode cX3_stepFor 30 = .ok (.goto 5, 3) := by decide +kernel
theorem dX3_stepFor_33 : decode cX3_stepFor 33 = .ok (.dload 4, 2) := by decide +kernel
theorem dX3_stepFor_35 : decode cX3_stepFor 35 = .ok (.dreturn, 1) := by decide +kernel
theorem dX3_spread_0 : decode cX3_spread 0 = .ok (.aload_n 0, 1) := by decide +kernel
theorem dX3_spread_1 : decode cX3_spread 1 = .ok (.getfield 11, 3) := by decide +kernel
theorem dX3_spread_4 : decode cX3_spread 4 = .ok (.iload_n 1, 1) := by decide +kernel
theorem dX3_spread_5 : decode cX3_spread 5 = .ok (.aaload, 1) := by decide +kernel
theorem dX3_spread_6 : decode cX3_spread 6 = .ok (.astore_n 2, 1) := by decide +kernel
theorem dX3_spread_7 : decode cX3_spread 7 = .ok (.aload_n 2, 1) := by decide +kernel
theorem dX3_spread_8 : decode cX3_spread 8 = .ok (.iconst 0, 1) := by decide +kernel
theorem dX3_spread_9 : decode cX3_spread 9 = .ok (.daload, 1) := by decide +kernel
theorem dX3_spread_10 : decode cX3_spread 10 = .ok (.dstore_n 3, 1) := by decide +kernel
theorem dX3_spread_11 : decode cX3_spread 11 = .ok (.aload_n 2, 1) := by decide +kernel
theorem dX3_spread_12 : decode cX3_spread 12 = .ok (.iconst 0, 1) := by decide +kernel
theorem dX3_spread_13 : decode cX3_spread 13 = .ok (.daload, 1) := by decide +kernel
theorem dX3_spread_14 : decode cX3_spread 14 = .ok (.dstore 5, 2) := by decide +kernel
theorem dX3_spread_16 : decode cX3_spread 16 = .ok (.iconst 1, 1) := by decide +kernel
theorem dX3_spread_17 : decode cX3_spread 17 = .ok (.istore 7, 2) := by decide +kernel
theorem dX3_spread_19 : decode cX3_spread 19 = .ok (.iload 7, 2) := by decide +kernel
theorem dX3_spread_21 : decode cX3_spread 21 = .ok (.aload_n 0, 1) := by decide +kernel
theorem dX3_spread_22 : decode cX3_spread 22 = .ok (.getfield 30, 3) := by decide +kernel
theorem dX3_spread_25 : decode cX3_spread 25 = .ok (.if_icmp .ge 48, 3) := by decide +kernel
theorem dX3_spread_28 : decode cX3_spread 28 = .ok (.aload_n 2, 1) := by decide +kernel
theorem dX3_spread_29 : decode cX3_spread 29 = .ok (.iload 7, 2) := by decide +kernel
theorem dX3_spread_31 : decode cX3_spread 31 = .ok (.daload, 1) := by decide +kernel
theorem dX3_spread_32 : decode cX3_spread 32 = .ok (.dload_n 3, 1) := by decide +kernel
theorem dX3_spread_33 : decode cX3_spread 33 = .ok (.dcmp .g, 1) := by decide +kernel
theorem dX3_spread_34 : decode cX3_spread 34 = .ok (.ifCond .ge 10, 3) := by decide +kernel
theorem dX3_spread_37 : decode cX3_spread 37 = .ok (.aload_n 2, 1) := by decide +kernel
theorem dX3_spread_38 : decode cX3_spread 38 = .ok (.iload 7, 2) := by decide +kernel
theorem dX3_spread_40 : decode cX3_spread 40 = .ok (.daload, 1) := by decide +kernel
theorem dX3_spread_41 : decode cX3_spread 41 = .ok (.goto 4, 3) := by decide +kernel
theorem dX3_spread_44 : decode cX3_spread 44 = .ok (.dload_n 3, 1) := by decide +kernel
theorem dX3_spread_45 : decode cX3_spread 45 = .ok (.dstore_n 3, 1) := by decide +kernel
theorem dX3_spread_46 : decode cX3_spread 46 = .ok (.aload_n 2, 1) := by decide +kernel
theorem dX3_spread_47 : decode cX3_spread 47 = .ok (.iload 7, 2) := by decide +kernel
theorem dX3_spread_49 : decode cX3_spread 49 = .ok (.daload, 1) := by decide +kernel
theorem dX3_spread_50 : decode cX3_spread 50 = .ok (.dload 5, 2) := by decide +kernel
theorem dX3_spread_52 : decode cX3_spread 52 = .ok (.dcmp .l, 1) := by decide +kernel
theorem dX3_spread_53 : decode cX3_spread 53 = .ok (.ifCond .le 10, 3) := by decide +kernel
theorem dX3_spread_56 : decode cX3_spread 56 = .ok (.aload_n 2, 1) := by decide +kernel
theorem dX3_spread_57 : decode cX3_spread 57 = .ok (.iload 7, 2) := by decide +kernel
theorem dX3_spread_59 : decode cX3_spread 59 = .ok (.daload, 1) := by decide +kernel
theorem dX3_spread_60 : decode cX3_spread 60 = .ok (.goto 5, 3) := by decide +kernel
theorem dX3_spread_63 : decode cX3_spread 63 = .ok (.dload 5, 2) := by decide +kernel
theorem dX3_spread_65 : decode cX3_spread 65 = .ok (.dstore 5, 2) := by decide +kernel
theorem dX3_spread_67 : decode cX3_spread 67 = .ok (.iinc 7 1, 3) := by decide +kernel
theorem dX3_spread_70 : decode cX3_spread 70 = .ok (.goto (-51), 3) := by decide +kernel
theorem dX3_spread_73 : decode cX3_spread 73 = .ok (.dload 5, 2) := by decide +kernel
theorem dX3_spread_75 : decode cX3_spread 75 = .ok (.dload_n 3, 1) := by decide +kernel
theorem dX3_spread_76 : decode cX3_spread 76 = .ok (.dsub, 1) := by decide +kernel
theorem dX3_spread_77 : decode cX3_spread 77 = .ok (.dreturn, 1) := by decide +kernel
theorem dX3_hasMirrorImage_0 : decode cX3_hasMirrorImage 0 = .ok (.dconst 0, 1) := by decide +kernel
theorem dX3_hasMirrorImage_1 : decode cX3_hasMirrorImage 1 = .ok (.aload_n 0, 1) := by decide +kernel
theorem dX3_hasMirrorImage_2 : decode cX3_hasMirrorImage 2 = .ok (.getfield 11, 3) := by decide +kernel
theorem dX3_hasMirrorImage_5 : decode cX3_hasMirrorImage 5 = .ok (.iconst 0, 1) := by decide +kernel
theorem dX3_hasMirrorImage_6 : decode cX3_hasMirrorImage 6 = .ok (.aaload, 1) := by decide +kernel
theorem dX3_hasMirrorImage_7 : decode cX3_hasMirrorImage 7 = .ok (.iload_n 1, 1) := by decide +kernel
theorem dX3_hasMirrorImage_8 : decode cX3_hasMirrorImage 8 = .ok (.daload, 1) := by decide +kernel
theorem dX3_hasMirrorImage_9 : decode cX3_hasMirrorImage 9 = .ok (.dsub, 1) := by decide +kernel
theorem dX3_hasMirrorImage_10 : decode cX3_hasMirrorImage 10 = .ok (.dstore_n 2, 1) := by decide +kernel
theorem dX3_hasMirrorImage_11 : decode cX3_hasMirrorImage 11 = .ok (.iconst 0, 1) := by decide +kernel
theorem dX3_hasMirrorImage_12 : decode cX3_hasMirrorImage 12 = .ok (.istore 4, 2) := by decide +kernel
theorem dX3_hasMirrorImage_14 : decode cX3_hasMirrorImage 14 = .ok (.iload 4, 2) := by decide +kernel
theorem dX3_hasMirrorImage_16 : decode cX3_hasMirrorImage 16 = .ok (.aload_n 0, 1) := by decide +kernel
theorem dX3_hasMirrorImage_17 : decode cX3_hasMirrorImage 17 = .ok (.getfield 30, 3) := by decide +kernel
theorem dX3_hasMirrorImage_20 : decode cX3_hasMirrorImage 20 = .ok (.if_icmp .ge 67, 3) := by decide +kernel
theorem dX3_hasMirrorImage_23 : decode cX3_hasMirrorImage 23 = .ok (.aload_n 0, 1) := by decide +kernel
theorem dX3_hasMirrorImage_24 : decode cX3_hasMirrorImage 24 = .ok (.getfield 11, 3) := by decide +kernel
theorem dX3_hasMirrorImage_27 : decode cX3_hasMirrorImage 27 = .ok (.iconst 0, 1) := by decide +kernel
theorem dX3_hasMirrorImage_28 : decode cX3_hasMirrorImage 28 = .ok (.aaload, 1) := by decide +kernel
theorem dX3_hasMirrorImage_29 : decode cX3_hasMirrorImage 29 = .ok (.iload 4, 2) := by decide +kernel
theorem dX3_hasMirrorImage_31 : decode cX3_hasMirrorImage 31 = .ok (.daload, 1) := by decide +kernel
theorem dX3_hasMirrorImage_32 : decode cX3_hasMirrorImage 32 = .ok (.dload_n 2, 1) := by decide +kernel
theorem dX3_hasMirrorImage_33 : decode cX3_hasMirrorImage 33 = .ok (.dcmp .l, 1) := by decide +kernel
theorem dX3_hasMirrorImage_34 : decode cX3_hasMirrorImage 34 = .ok (.ifCond .ne 47, 3) := by decide +kernel
theorem dX3_hasMirrorImage_37 : decode cX3_hasMirrorImage 37 = .ok (.aload_n 0, 1) := by decide +kernel
theorem dX3_hasMirrorImage_38 : decode cX3_hasMirrorImage 38 = .ok (.getfield 11, 3) := by decide +kernel
theorem dX3_hasMirrorImage_41 : decode cX3_hasMirrorImage 41 = .ok (.iconst 1, 1) := by decide +kernel
theorem dX3_hasMirrorImage_42 : decode cX3_hasMirrorImage 42 = .ok (.aaload, 1) := by decide +kernel
theorem dX3_hasMirrorImage_43 : decode cX3_hasMirrorImage 43 = .ok (.iload 4, 2) := by decide +kernel
theorem dX3_hasMirrorImage_45 : decode cX3_hasMirrorImage 45 = .ok (.daload, 1) := by decide +kernel
theorem dX3_hasMirrorImage_46 : decode cX3_hasMirrorImage 46 = .ok (.aload_n 0, 1) := by decide +kernel
theorem dX3_hasMirrorImage_47 : decode cX3_hasMirrorImage 47 = .ok (.getfield 11, 3) := by decide +kernel
theorem dX3_hasMirrorImage_50 : decode cX3_hasMirrorImage 50 = .ok (.iconst 1, 1) := by decide +kernel
theorem dX3_hasMirrorImage_51 : decode cX3_hasMirrorImage 51 = .ok (.aaload, 1) := by decide +kernel
theorem dX3_hasMirrorImage_52 : decode cX3_hasMirrorImage 52 = .ok (.iload_n 1, 1) := by decide +kernel
theorem dX3_hasMirrorImage_53 : decode cX3_hasMirrorImage 53 = .ok (.daload, 1) := by decide +kernel
theorem dX3_hasMirrorImage_54 : decode cX3_hasMirrorImage 54 = .ok (.dcmp .l, 1) := by decide +kernel
theorem dX3_hasMirrorImage_55 : decode cX3_hasMirrorImage 55 = .ok (.ifCond .ne 26, 3) := by decide +kernel
theorem dX3_hasMirrorImage_58 : decode cX3_hasMirrorImage 58 = .ok (.aload_n 0, 1) := by decide +kernel
theorem dX3_hasMirrorImage_59 : decode cX3_hasMirrorImage 59 = .ok (.getfield 11, 3) := by decide +kernel
theorem dX3_hasMirrorImage_62 : decode cX3_hasMirrorImage 62 = .ok (.iconst 2, 1) := by decide +kernel
theorem dX3_hasMirrorImage_63 : decode cX3_hasMirrorImage 63 = .ok (.aaload, 1) := by decide +kernel
theorem dX3_hasMirrorImage_64 : decode cX3_hasMirrorImage 64 = .ok (.iload 4, 2) := by decide +kernel
theorem dX3_hasMirrorImage_66 : decode cX3_hasMirrorImage 66 = .ok (.daload, 1) := by decide +kernel
theorem dX3_hasMirrorImage_67 : decode cX3_hasMirrorImage 67 = .ok (.aload_n 0, 1) := by decide +kernel
theorem dX3_hasMirrorImage_68 : decode cX3_hasMirrorImage 68 = .ok (.getfield 11, 3) := by decide +kernel
theorem dX3_hasMirrorImage_71 : decode cX3_hasMirrorImage 71 = .ok (.iconst 2, 1) := by decide +kernel
theorem dX3_hasMirrorImage_72 : decode cX3_hasMirrorImage 72 = .ok (.aaload, 1) := by decide +kernel
theorem dX3_hasMirrorImage_73 : decode cX3_hasMirrorImage 73 = .ok (.iload_n 1, 1) := by decide +kernel
theorem dX3_hasMirrorImage_74 : decode cX3_hasMirrorImage 74 = .ok (.daload, 1) := by decide +kernel
theorem dX3_hasMirrorImage_75 : decode cX3_hasMirrorImage 75 = .ok (.dcmp .l, 1) := by decide +kernel
theorem dX3_hasMirrorImage_76 : decode cX3_hasMirrorImage 76 = .ok (.ifCond .ne 5, 3) := by decide +kernel
theorem dX3_hasMirrorImage_79 : decode cX3_hasMirrorImage 79 = .ok (.iconst 1, 1) := by decide +kernel
theorem dX3_hasMirrorImage_80 : decode cX3_hasMirrorImage 80 = .ok (.ireturn, 1) := by decide +kernel
theorem dX3_hasMirrorImage_81 : decode cX3_hasMirrorImage 81 = .ok (.iinc 4 1, 3) := by decide +kernel
theorem dX3_hasMirrorImage_84 : decode cX3_hasMirrorImage 84 = .ok (.goto (-70), 3) := by decide +kernel
theorem dX3_hasMirrorImage_87 : decode cX3_hasMirrorImage 87 = .ok (.iconst 0, 1) := by decide +kernel
theorem dX3_hasMirrorImage_88 : decode cX3_hasMirrorImage 88 = .ok (.ireturn, 1) := by decide +kernel
theorem dX4_init_0 : decode cX4_init 0 = .ok (.aload_n 0, 1) := by decide +kernel
theorem dX4_init_1 : decode cX4_init 1 = .ok (.invokespecial 3, 3) := by decide +kernel
theorem dX4_init_4 : decode cX4_init 4 = .ok (.aload_n 0, 1) := by decide +kernel
theorem dX4_init_5 : decode cX4_init 5 = .ok (.bipush 30, 2) := by decide +kernel
theorem dX4_init_7 : decode cX4_init 7 = .ok (.newarray .int, 2) := by decide +kernel
theorem dX4_init_9 : decode cX4_init 9 = .ok (.putfield 9, 3) := by decide +kernel
theorem dX4_init_12 : decode cX4_init 12 = .ok (.aload_n 0, 1) := by decide +kernel
theorem dX4_init_13 : decode cX4_init 13 = .ok (.bipush 30, 2) := by decide +kernel
theorem dX4_init_15 : decode cX4_init 15 = .ok (.newarray .int, 2) := by decide +kernel
theorem dX4_init_17 : decode cX4_init 17 = .ok (.putfield 15, 3) := by decide +kernel
theorem dX4_init_20 : decode cX4_init 20 = .ok (.aload_n 0, 1) := by decide +kernel
theorem dX4_init_21 : decode cX4_init 21 = .ok (.bipush 30, 2) := by decide +kernel
theorem dX4_init_23 : decode cX4_init 23 = .ok (.newarray .int, 2) := by decide +kernel
theorem dX4_init_25 : decode cX4_init 25 = .ok (.putfield 18, 3) := by decide +kernel
theorem dX4_init_28 : decode cX4_init 28 = .ok (.aload_n 0, 1) := by decide +kernel
theorem dX4_init_29 : decode cX4_init 29 = .ok (.bipush 30, 2) := by decide +kernel
theorem dX4_init_31 : decode cX4_init 31 = .ok (.newarray .int, 2) := by decide +kernel
theorem dX4_init_33 : decode cX4_init 33 = .ok (.putfield 21, 3) := by decide +kernel
theorem dX4_init_36 : decode cX4_init 36 = .ok (.aload_n 0, 1) := by decide +kernel
theorem dX4_init_37 : decode cX4_init 37 = .ok (.bipush 30, 2) := by decide +kernel
theorem dX4_init_39 : decode cX4_init 39 = .ok (.newarray .int, 2) := by decide +kernel
theorem dX4_init_41 : decode cX4_init 41 = .ok (.putfield 24, 3) := by decide +kernel
theorem dX4_init_44 : decode cX4_init 44 = .ok (.aload_n 0, 1) := by decide +kernel
theorem dX4_init_45 : decode cX4_init 45 = .ok (.iconst 0, 1) := by decide +kernel
theorem dX4_init_46 : decode cX4_init 46 = .ok (.putfield 27, 3) := by decide +kernel
theorem dX4_init_49 : decode cX4_init 49 = .ok (.aload_n 0, 1) := by decide +kernel
theorem dX4_init_50 : decode cX4_init 50 = .ok (.iconst 0, 1) := by decide +kernel
theorem dX4_init_51 : decode cX4_init 51 = .ok (.putfield 31, 3) := by decide +kernel
theorem dX4_init_54 : decode cX4_init 54 = .ok (.aload_n 0, 1) := by decide +kernel
theorem dX4_init_55 : decode cX4_init 55 = .ok (.iconst 0, 1) := by decide +kernel
theorem dX4_init_56 : decode cX4_init 56 = .ok (.putfield 34, 3) := by decide +kernel
theorem dX4_init_59 : decode cX4_init 59 = .ok (.aload_n 0, 1) := by decide +kernel
theorem dX4_init_60 : decode cX4_init 60 = .ok (.iconst 0, 1) := by decide +kernel
theorem dX4_init_61 : decode cX4_init 61 = .ok (.putfield 37, 3) := by decide +kernel
theorem dX4_init_64 : decode cX4_init 64 = .ok (.return_, 1) := by decide +kernel
theorem dX4_has_0 : decode cX4_has 0 = .ok (.iload_n 1, 1) := by decide +kernel
theorem dX4_has_1 : decode cX4_has 1 = .ok (.ifCond .lt 15, 3) := by decide +kernel
theorem dX4_has_4 : decode cX4_has 4 = .ok (.iload_n 1, 1) := by decide +kernel
theorem dX4_has_5 : decode cX4_has 5 = .ok (.aload_n 0, 1) := by decide +kernel
theorem dX4_has_6 : decode cX4_has 6 = .ok (.getfield 27, 3) := by decide +kernel
theorem dX4_has_9 : decode cX4_has 9 = .ok (.if_icmp .ge 7, 3) := by decide +kernel
theorem dX4_has_12 : decode cX4_has 12 = .ok (.iconst 1, 1) := by decide +kernel
theorem dX4_has_13 : decode cX4_has 13 = .ok (.goto 4, 3) := by decide +kernel
theorem dX4_has_16 : decode cX4_has 16 = .ok (.iconst 0, 1) := by decide +kernel
theorem dX4_has_17 : decode cX4_has 17 = .ok (.ireturn, 1) := by decide +kernel
set_option maxRecDepth 20000 in
theorem ggX4_add_X4_lay : GoodIn wsX4_add wsX4_lay := goodIn_r _ [9, 2, 3, 10, 11, 12, 13, 14, 15, 16, 17, 18, 4, 19, 20, 21, 22, 23, 24, 25, 26, 27] (by decide +kernel) (by decide +kernel)
set_option maxRecDepth 20000 in
theorem gX4_add_X4_lay : GoodIn wsX4_add (wsV RX4 40 RX4 yX4_lay wsX4_lay) := goodIn_app (goodIn_of _ (by decide +kernel)) ggX4_add_X4_lay
theorem dX4_add_0 : decode cX4_add 0 = .ok (.aload_n 0, 1) := by decide +kernel
theorem dX4_add_1 : decode cX4_add 1 = .ok (.getfield 27, 3) := by decide +kernel
theorem dX4_add_4 : decode cX4_add 4 = .ok (.istore 4, 2) := by decide +kernel
theorem dX4_add_6 : decode cX4_add 6 = .ok (.aload_n 0, 1) := by decide +kernel
theorem dX4_add_7 : decode cX4_add 7 = .ok (.getfield 9, 3) := by decide +kernel
theorem dX4_add_10 : decode cX4_add 10 = .ok (.iload 4, 2) := by decide +kernel
theorem dX4_add_12 : decode cX4_add 12 = .ok (.iload_n 1, 1) := by decide +kernel
theorem dX4_add_13 : decode cX4_add 13 = .ok (.iastore, 1) := by decide +kernel
theorem dX4_add_14 : decode cX4_add 14 = .ok (.aload_n 0, 1) := by decide +kernel
theorem dX4_add_15 : decode cX4_add 15 = .ok (.getfield 15, 3) := by decide +kernel
theorem dX4_add_18 : decode cX4_add 18 = .ok (.iload 4, 2) := by decide +kernel
theorem dX4_add_20 : decode cX4_add 20 = .ok (.iload_n 2, 1) := by decide +kernel
theorem dX4_add_21 : decode cX4_add 21 = .ok (.iastore, 1) := by decide +kernel
theorem dX4_add_22 : decode cX4_add 22 = .ok (.aload_n 0, 1) := by decide +kernel
theorem dX4_add_23 : decode cX4_add 23 = .ok (.getfield 18, 3) := by decide +kernel
theorem dX4_add_26 : decode cX4_add 26 = .ok (.iload 4, 2) := by decide +kernel
theorem dX4_add_28 : decode cX4_add 28 = .ok (.iload_n 3, 1) := by decide +kernel
theorem dX4_add_29 : decode cX4_add 29 = .ok (.iastore, 1) := by decide +kernel
theorem dX4_add_30 : decode cX4_add 30 = .ok (.aload_n 0, 1) := by decide +kernel
theorem dX4_add_31 : decode cX4_add 31 = .ok (.iload 4, 2) := by decide +kernel
theorem dX4_add_33 : decode cX4_add 33 = .ok (.invokevirtual 40, 3) := by decide +kernel
theorem dX4_add_36 : decode cX4_add 36 = .ok (.aload_n 0, 1) := by decide +kernel
theorem dX4_add_37 : decode cX4_add 37 = .ok (.dup, 1) := by decide +kernel
theorem dX4_add_38 : decode cX4_add 38 = .ok (.getfield 27, 3) := by decide +kernel
theorem dX4_add_41 : decode cX4_add 41 = .ok (.iconst 1, 1) := by decide +kernel
theorem dX4_add_42 : decode cX4_add 42 = .ok (.iadd, 1) := by decide +kernel
theorem dX4_add_43 : decode cX4_add 43 = .ok (.putfield 27, 3) := by decide +kernel
theorem dX4_add_46 : decode cX4_add 46 = .ok (.iload 4, 2) := by decide +kernel
theorem dX4_add_48 : decode cX4_add 48 = .ok (.ireturn, 1) := by decide +kernel
theorem dX4_lay_0 : decode cX4_lay 0 = .ok (.aload_n 0, 1) := by decide +kernel
theorem dX4_lay_1 : decode cX4_lay 1 = .ok (.getfield 9, 3) := by decide +kernel
theorem dX4_lay_4 : decode cX4_lay 4 = .ok (.iload_n 1, 1) := by decide +kernel
theorem dX4_lay_5 : decode cX4_lay 5 = .ok (.iaload, 1) := by decide +kernel
theorem dX4_lay_6 : decode cX4_lay 6 = .ok (.aload_n 0, 1) := by decide +kernel
theorem dX4_lay_7 : decode cX4_lay 7 = .ok (.getfield 15, 3) := by decide +kernel
theorem dX4_lay_10 : decode cX4_lay 10 = .ok (.iload_n 1, 1) := by decide +kernel
theorem dX4_lay_11 : decode cX4_lay 11 = .ok (.iaload, 1) := by decide +kernel
theorem dX4_lay_12 : decode cX4_lay 12 = .ok (.invokestatic 44, 3) := by decide +kernel
theorem dX4_lay_15 : decode cX4_lay 15 = .ok (.istore_n 2, 1) := by decide +kernel
theorem dX4_lay_16 : decode cX4_lay 16 = .ok (.aload_n 0, 1) := by decide +kernel
theorem dX4_lay_17 : decode cX4_lay 17 = .ok (.getfield 31, 3) := by decide +kernel
theorem dX4_lay_20 : decode cX4_lay 20 = .ok (.iload_n 2, 1) := by decide +kernel
theorem dX4_lay_21 : decode cX4_lay 21 = .ok (.iadd, 1) := by decide +kernel
theorem dX4_lay_22 : decode cX4_lay 22 = .ok (.sipush 400, 3) := by decide +kernel
theorem dX4_lay_25 : decode cX4_lay 25 = .ok (.if_icmp .le 26, 3) := by decide +kernel
theorem dX4_lay_28 : decode cX4_lay 28 = .ok (.aload_n 0, 1) := by decide +kernel
theorem dX4_lay_29 : decode cX4_lay 29 = .ok (.dup, 1) := by decide +kernel
theorem dX4_lay_30 : decode cX4_lay 30 = .ok (.getfield 34, 3) := by decide +kernel
theorem dX4_lay_33 : decode cX4_lay 33 = .ok (.aload_n 0, 1) := by decide +kernel
theorem dX4_lay_34 : decode cX4_lay 34 = .ok (.getfield 37, 3) := by decide +kernel
theorem dX4_lay_37 : decode cX4_lay 37 = .ok (.iadd, 1) := by decide +kernel
theorem dX4_lay_38 : decode cX4_lay 38 = .ok (.putfield 34, 3) := by decide +kernel
theorem dX4_lay_41 : decode cX4_lay 41 = .ok (.aload_n 0, 1) := by decide +kernel
theorem dX4_lay_42 : decode cX4_lay 42 = .ok (.iconst 0, 1) := by decide +kernel
theorem dX4_lay_43 : decode cX4_lay 43 = .ok (.putfield 31, 3) := by decide +kernel
theorem dX4_lay_46 : decode cX4_lay 46 = .ok (.aload_n 0, 1) := by decide +kernel
theorem dX4_lay_47 : decode cX4_lay 47 = .ok (.iconst 0, 1) := by decide +kernel
theorem dX4_lay_48 : decode cX4_lay 48 = .ok (.putfield 37, 3) := by decide +kernel
theorem dX4_lay_51 : decode cX4_lay 51 = .ok (.aload_n 0, 1) := by decide +kernel
theorem dX4_lay_52 : decode cX4_lay 52 = .ok (.getfield 21, 3) := by decide +kernel
theorem dX4_lay_55 : decode cX4_lay 55 = .ok (.iload_n 1, 1) := by decide +kernel
theorem dX4_lay_56 : decode cX4_lay 56 = .ok (.aload_n 0, 1) := by decide +kernel
theorem dX4_lay_57 : decode cX4_lay 57 = .ok (.getfield 31, 3) := by decide +kernel
theorem dX4_lay_60 : decode cX4_lay 60 = .ok (.iastore, 1) := by decide +kernel
theorem dX4_lay_61 : decode cX4_lay 61 = .ok (.aload_n 0, 1) := by decide +kernel
theorem dX4_lay_62 : decode cX4_lay 62 = .ok (.getfield 24, 3) := by decide +kernel
theorem dX4_lay_65 : decode cX4_lay 65 = .ok (.iload_n 1, 1) := by decide +kernel
theorem dX4_lay_66 : decode cX4_lay 66 = .ok (.aload_n 0, 1) := by decide +kernel
theorem dX4_lay_67 : decode cX4_lay 67 = .ok (.getfield 34, 3) := by decide +kernel
theorem dX4_lay_70 : decode cX4_lay 70 = .ok (.iastore, 1) := by decide +kernel
theorem dX4_lay_71 : decode cX4_lay 71 = .ok (.aload_n 0, 1) := by decide +kernel
theorem dX4_lay_72 : decode cX4_lay 72 = .ok (.dup, 1) := by decide +kernel
theorem dX4_lay_73 : decode cX4_lay 73 = .ok (.getfield 31, 3) := by decide +kernel
theorem dX4_lay_76 : decode cX4_lay 76 = .ok (.iload_n 2, 1) := by decide +kernel
theorem dX4_lay_77 : decode cX4_lay 77 = .ok (.iadd, 1) := by decide +kernel
theorem dX4_lay_78 : decode cX4_lay 78 = .ok (.putfield 31, 3) := by decide +kernel
theorem dX4_lay_81 : decode cX4_lay 81 = .ok (.aload_n 0, 1) := by decide +kernel
theorem dX4_lay_82 : decode cX4_lay 82 = .ok (.aload_n 0, 1) := by decide +kernel
theorem dX4_lay_83 : decode cX4_lay 83 = .ok (.getfield 37, 3) := by decide +kernel
theorem dX4_lay_86 : decode cX4_lay 86 = .ok (.aload_n 0, 1) := by decide +kernel
theorem dX4_lay_87 : decode cX4_lay 87 = .ok (.getfield 18, 3) := by decide +kernel
theorem dX4_lay_90 : decode cX4_lay 90 = .ok (.iload_n 1, 1) := by decide +kernel
theorem dX4_lay_91 : decode cX4_lay 91 = .ok (.iaload, 1) := by decide +kernel
theorem dX4_lay_92 : decode cX4_lay 92 = .ok (.invokestatic 44, 3) := by decide +kernel
theorem dX4_lay_95 : decode cX4_lay 95 = .ok (.putfield 37, 3) := by decide +kernel
theorem dX4_lay_98 : decode cX4_lay 98 = .ok (.return_, 1) := by decide +kernel
theorem dX4_meshesAfter_0 : decode cX4_meshesAfter 0 = .ok (.aload_n 0, 1) := by decide +kernel
theorem dX4_meshesAfter_1 : decode cX4_meshesAfter 1 = .ok (.getfield 15, 3) := by decide +kernel
theorem dX4_meshesAfter_4 : decode cX4_meshesAfter 4 = .ok (.iload_n 1, 1) := by decide +kernel
theorem dX4_meshesAfter_5 : decode cX4_meshesAfter 5 = .ok (.iaload, 1) := by decide +kernel
theorem dX4_meshesAfter_6 : decode cX4_meshesAfter 6 = .ok (.aload_n 0, 1) := by decide +kernel
theorem dX4_meshesAfter_7 : decode cX4_meshesAfter 7 = .ok (.getfield 9, 3) := by decide +kernel
theorem dX4_meshesAfter_10 : decode cX4_meshesAfter 10 = .ok (.iload_n 1, 1) := by decide +kernel
theorem dX4_meshesAfter_11 : decode cX4_meshesAfter 11 = .ok (.iaload, 1) := by decide +kernel
theorem dX4_meshesAfter_12 : decode cX4_meshesAfter 12 = .ok (.isub, 1) := by decide +kernel
theorem dX4_meshesAfter_13 : decode cX4_meshesAfter 13 = .ok (.istore_n 3, 1) := by decide +kernel
theorem dX4_meshesAfter_14 : decode cX4_meshesAfter 14 = .ok (.aload_n 0, 1) := by decide +kernel
theorem dX4_meshesAfter_15 : decode cX4_meshesAfter 15 = .ok (.getfield 9, 3) := by decide +kernel
theorem dX4_meshesAfter_18 : decode cX4_meshesAfter 18 = .ok (.iload_n 1, 1) := by decide +kernel
theorem dX4_meshesAfter_19 : decode cX4_meshesAfter 19 = .ok (.iaload, 1) := by decide +kernel
theorem dX4_meshesAfter_20 : decode cX4_meshesAfter 20 = .ok (.iload_n 3, 1) := by decide +kernel
theorem dX4_meshesAfter_21 : decode cX4_meshesAfter 21 = .ok (.iload_n 2, 1) := by decide +kernel
theorem dX4_meshesAfter_22 : decode cX4_meshesAfter 22 = .ok (.imul, 1) := by decide +kernel
theorem dX4_meshesAfter_23 : decode cX4_meshesAfter 23 = .ok (.aload_n 0, 1) := by decide +kernel
theorem dX4_meshesAfter_24 : decode cX4_meshesAfter 24 = .ok (.getfield 18, 3) := by decide +kernel
theorem dX4_meshesAfter_27 : decode cX4_meshesAfter 27 = .ok (.iload_n 1, 1) := by decide +kernel
theorem dX4_meshesAfter_28 : decode cX4_meshesAfter 28 = .ok (.iaload, 1) := by decide +kernel
theorem dX4_meshesAfter_29 : decode cX4_meshesAfter 29 = .ok (.idiv, 1) := by decide +kernel
theorem dX4_meshesAfter_30 : decode cX4_meshesAfter 30 = .ok (.iadd, 1) := by decide +kernel
theorem dX4_meshesAfter_31 : decode cX4_meshesAfter 31 = .ok (.ireturn, 1) := by decide +kernel
theorem dX5_init_0 : decode cX5_init 0 = .ok (.aload_n 0, 1) := by decide +kernel
theorem dX5_init_1 : decode cX5_init 1 = .ok (.invokespecial 3, 3) := by decide +kernel
theorem dX5_init_4 : decode cX5_init 4 = .ok (.aload_n 0, 1) := by decide +kernel
theorem dX5_init_5 : decode cX5_init 5 = .ok (.bipush 10, 2) := by decide +kernel
theorem dX5_init_7 : decode cX5_init 7 = .ok (.newarray .double, 2) := by decide +kernel
theorem dX5_init_9 : decode cX5_init 9 = .ok (.putfield 9, 3) := by decide +kernel
theorem dX5_init_12 : decode cX5_init 12 = .ok (.aload_n 0, 1) := by decide +kernel
theorem dX5_init_13 : decode cX5_init 13 = .ok (.bipush 10, 2) := by decide +kernel
theorem dX5_init_15 : decode cX5_init 15 = .ok (.newarray .double, 2) := by decide +kernel
theorem dX5_init_17 : decode cX5_init 17 = .ok (.putfield 15, 3) := by decide +kernel
theorem dX5_init_20 : decode cX5_init 20 = .ok (.aload_n 0, 1) := by decide +kernel
theorem dX5_init_21 : decode cX5_init 21 = .ok (.bipush 10, 2) := by decide +kernel
theorem dX5_init_23 : decode cX5_init 23 = .ok (.newarray .double, 2) := by decide +kernel
theorem dX5_init_25 : decode cX5_init 25 = .ok (.putfield 18, 3) := by decide +kernel
theorem dX5_init_28 : decode cX5_init 28 = .ok (.aload_n 0, 1) := by decide +kernel
theorem dX5_init_29 : decode cX5_init 29 = .ok (.iconst 0, 1) := by decide +kernel
theorem dX5_init_30 : decode cX5_init 30 = .ok (.putfield 21, 3) := by decide +kernel
theorem dX5_init_33 : decode cX5_init 33 = .ok (.aload_n 0, 1) := by decide +kernel
theorem dX5_init_34 : decode cX5_init 34 = .ok (.dconst 0, 1) := by decide +kernel
theorem dX5_init_35 : decode cX5_init 35 = .ok (.putfield 25, 3) := by decide +kernel
theorem dX5_init_38 : decode cX5_init 38 = .ok (.aload_n 0, 1) := by decide +kernel
theorem dX5_init_39 : decode cX5_init 39 = .ok (.dconst 0, 1) := by decide +kernel
theorem dX5_init_40 : decode cX5_init 40 = .ok (.putfield 29, 3) := by decide +kernel
theorem dX5_init_43 : decode cX5_init 43 = .ok (.return_, 1) := by decide +kernel
set_option maxRecDepth 20000 in
theorem ggX5_tell_X5_rowAtOrAbove : GoodIn wsX5_tell wsX5_rowAtOrAbove := goodIn_r _ [9, 2, 1, 14, 15, 16, 17, 18, 19] (by decide +kernel) (by decide +kernel)
set_option maxRecDepth 20000 in
theorem gX5_tell_X5_rowAtOrAbove : GoodIn wsX5_tell (wsV RX5 32 RX5 yX5_rowAtOrAbove wsX5_rowAtOrAbove) := goodIn_app (goodIn_of _ (by decide +kernel)) ggX5_tell_X5_rowAtOrAbove
set_option maxRecDepth 20000 in
theorem ggX5_tell_X5_makeRoomAt : GoodIn wsX5_tell wsX5_makeRoomAt := goodIn_r _ [13, 2, 1, 3, 4, 14, 15, 16, 17, 18, 19] (by decide +kernel) (by decide +kernel)
set_option maxRecDepth 20000 in
theorem gX5_tell_X5_makeRoomAt : GoodIn wsX5_tell (wsV RX5 36 RX5 yX5_makeRoomAt wsX5_makeRoomAt) := goodIn_app (goodIn_of _ (by decide +kernel)) ggX5_tell_X5_makeRoomAt
theorem dX5_tell_0 : decode cX5_tell 0 = .ok (.aload_n 0, 1) := by decide +kernel
theorem dX5_tell_1 : decode cX5_tell 1 = .ok (.dload_n 1, 1) := by decide +kernel
theorem dX5_tell_2 : decode cX5_tell 2 = .ok (.invokevirtual 32, 3) := by decide +kernel
theorem dX5_tell_5 : decode cX5_tell 5 = .ok (.istore 7, 2) := by decide +kernel
theorem dX5_tell_7 : decode cX5_tell 7 = .ok (.iload 7, 2) := by decide +kernel
theorem dX5_tell_9 : decode cX5_tell 9 = .ok (.iconst (-1), 1) := by decide +kernel
theorem dX5_tell_10 : decode cX5_tell 10 = .ok (.if_icmp .eq 15, 3) := by decide +kernel
theorem dX5_tell_13 : decode cX5_tell 13 = .ok (.aload_n 0, 1) := by decide +kernel
theorem dX5_tell_14 : decode cX5_tell 14 = .ok (.getfield 9, 3) := by decide +kernel
theorem dX5_tell_17 : decode cX5_tell 17 = .ok (.iload 7, 2) := by decide +kernel
theorem dX5_tell_19 : decode cX5_tell 19 = .ok (.daload, 1) := by decide +kernel
theorem dX5_tell_20 : decode cX5_tell 20 = .ok (.dload_n 1, 1) := by decide +kernel
theorem dX5_tell_21 : decode cX5_tell 21 = .ok (.dcmp .l, 1) := by decide +kernel
theorem dX5_tell_22 : decode cX5_tell 22 = .ok (.ifCond .eq 23, 3) := by decide +kernel
theorem dX5_tell_25 : decode cX5_tell 25 = .ok (.aload_n 0, 1) := by decide +kernel
theorem dX5_tell_26 : decode cX5_tell 26 = .ok (.getfield 21, 3) := by decide +kernel
theorem dX5_tell_29 : decode cX5_tell 29 = .ok (.bipush 10, 2) := by decide +kernel
theorem dX5_tell_31 : decode cX5_tell 31 = .ok (.if_icmp .lt 5, 3) := by decide +kernel
theorem dX5_tell_34 : decode cX5_tell 34 = .ok (.iconst 0, 1) := by decide +kernel
theorem dX5_tell_35 : decode cX5_tell 35 = .ok (.ireturn, 1) := by decide +kernel
theorem dX5_tell_36 : decode cX5_tell 36 = .ok (.iinc 7 1, 3) := by decide +kernel
theorem dX5_tell_39 : decode cX5_tell 39 = .ok (.aload_n 0, 1) := by decide +kernel
theorem dX5_tell_40 : decode cX5_tell 40 = .ok (.iload 7, 2) := by decide +kernel
theorem dX5_tell_42 : decode cX5_tell 42 = .ok (.invokevirtual 36, 3) := by decide +kernel
theorem dX5_tell_45 : decode cX5_tell 45 = .ok (.aload_n 0, 1) := by decide +kernel
theorem dX5_tell_46 : decode cX5_tell 46 = .ok (.getfield 9, 3) := by decide +kernel
theorem dX5_tell_49 : decode cX5_tell 49 = .ok (.iload 7, 2) := by decide +kernel
theorem dX5_tell_51 : decode cX5_tell 51 = .ok (.dload_n 1, 1) := by decide +kernel
theorem dX5_tell_52 : decode cX5_tell 52 = .ok (.dastore, 1) := by decide +kernel
theorem dX5_tell_53 : decode cX5_tell 53 = .ok (.aload_n 0, 1) := by decide +kernel
theorem dX5_tell_54 : decode cX5_tell 54 = .ok (.getfield 15, 3) := by decide +kernel
theorem dX5_tell_57 : decode cX5_tell 57 = .ok (.iload 7, 2) := by decide +kernel
theorem dX5_tell_59 : decode cX5_tell 59 = .ok (.dload_n 3, 1) := by decide +kernel
theorem dX5_tell_60 : decode cX5_tell 60 = .ok (.dastore, 1) := by decide +kernel
theorem dX5_tell_61 : decode cX5_tell 61 = .ok (.aload_n 0, 1) := by decide +kernel
theorem dX5_tell_62 : decode cX5_tell 62 = .ok (.getfield 18, 3) := by decide +kernel
theorem dX5_tell_65 : decode cX5_tell 65 = .ok (.iload 7, 2) := by decide +kernel
theorem dX5_tell_67 : decode cX5_tell 67 = .ok (.dload 5, 2) := by decide +kernel
theorem dX5_tell_69 : decode cX5_tell 69 = .ok (.dastore, 1) := by decide +kernel
theorem dX5_tell_70 : decode cX5_tell 70 = .ok (.iconst 1, 1) := by decide +kernel
theorem dX5_tell_71 : decode cX5_tell 71 = .ok (.ireturn, 1) := by decide +kernel
theorem dX5_makeRoomAt_0 : decode cX5_makeRoomAt 0 = .ok (.aload_n 0, 1) := by decide +kernel
theorem dX5_makeRoomAt_1 : decode cX5_makeRoomAt 1 = .ok (.getfield 21, 3) := by decide +kernel
theorem dX5_makeRoomAt_4 : decode cX5_makeRoomAt 4 = .ok (.istore_n 2, 1) := by decide +kernel
theorem dX5_makeRoomAt_5 : decode cX5_makeRoomAt 5 = .ok (.iload_n 2, 1) := by decide +kernel
theorem dX5_makeRoomAt_6 : decode cX5_makeRoomAt 6 = .ok (.iload_n 1, 1) := by decide +kernel
theorem dX5_makeRoomAt_7 : decode cX5_makeRoomAt 7 = .ok (.if_icmp .le 51, 3) := by decide +kernel
theorem dX5_makeRoomAt_10 : decode cX5_makeRoomAt 10 = .ok (.aload_n 0, 1) := by decide +kernel
theorem dX5_makeRoomAt_11 : decode cX5_makeRoomAt 11 = .ok (.getfield 9, 3) := by decide +kernel
theorem dX5_makeRoomAt_14 : decode cX5_makeRoomAt 14 = .ok (.iload_n 2, 1) := by decide +kernel
theorem dX5_makeRoomAt_15 : decode cX5_makeRoomAt 15 = .ok (.aload_n 0, 1) := by decide +kernel
theorem dX5_makeRoomAt_16 : decode cX5_makeRoomAt 16 = .ok (.getfield 9, 3) := by decide +kernel
theorem dX5_makeRoomAt_19 : decode cX5_makeRoomAt 19 = .ok (.iload_n 2, 1) := by decide +kernel
theorem dX5_makeRoomAt_20 : decode cX5_makeRoomAt 20 = .ok (.iconst 1, 1) := by decide +kernel
theorem dX5_makeRoomAt_21 : decode cX5_makeRoomAt 21 = .ok (.isub, 1) := by decide +kernel
theorem dX5_makeRoomAt_22 : decode cX5_makeRoomAt 22 = .ok (.daload, 1) := by decide +kernel
theorem dX5_makeRoomAt_23 : decode cX5_makeRoomAt 23 = .ok (.dastore, 1) := by decide +kernel
theorem dX5_makeRoomAt_24 : decode cX5_makeRoomAt 24 = .ok (.aload_n 0, 1) := by decide +kernel
theorem dX5_makeRoomAt_25 : decode cX5_makeRoomAt 25 = .ok (.getfield 15, 3) := by decide +kernel
theorem dX5_makeRoomAt_28 : decode cX5_makeRoomAt 28 = .ok (.iload_n 2, 1) := by decide +kernel
theorem dX5_makeRoomAt_29 : decode cX5_makeRoomAt 29 = .ok (.aload_n 0, 1) := by decide +kernel
theorem dX5_makeRoomAt_30 : decode cX5_makeRoomAt 30 = .ok (.getfield 15, 3) := by decide +kernel
theorem dX5_makeRoomAt_33 : decode cX5_makeRoomAt 33 = .ok (.iload_n 2, 1) := by decide +kernel
theorem dX5_makeRoomAt_34 : decode cX5_makeRoomAt 34 = .ok (.iconst 1, 1) := by decide +kernel
theorem dX5_makeRoomAt_35 : decode cX5_makeRoomAt 35 = .ok (.isub, 1) := by decide +kernel
theorem dX5_makeRoomAt_36 : decode cX5_makeRoomAt 36 = .ok (.daload, 1) := by decide +kernel
theorem dX5_makeRoomAt_37 : decode cX5_makeRoomAt 37 = .ok (.dastore, 1) := by decide +kernel
theorem dX5_makeRoomAt_38 : decode cX5_makeRoomAt 38 = .ok (.aload_n 0, 1) := by decide +kernel
theorem dX5_makeRoomAt_39 : decode cX5_makeRoomAt 39 = .ok (.getfield 18, 3) := by decide +kernel
theorem dX5_makeRoomAt_42 : decode cX5_makeRoomAt 42 = .ok (.iload_n 2, 1) := by decide +kernel
theorem dX5_makeRoomAt_43 : decode cX5_makeRoomAt 43 = .ok (.aload_n 0, 1) := by decide +kernel
theorem dX5_makeRoomAt_44 : decode cX5_makeRoomAt 44 = .ok (.getfield 18, 3) := by decide +kernel
theorem dX5_makeRoomAt_47 : decode cX5_makeRoomAt 47 = .ok (.iload_n 2, 1) := by decide +kernel
theorem dX5_makeRoomAt_48 : decode cX5_makeRoomAt 48 = .ok (.iconst 1, 1) := by decide +kernel
theorem dX5_makeRoomAt_49 : decode cX5_makeRoomAt 49 = .ok (.isub, 1) := by decide +kernel
theorem dX5_makeRoomAt_50 : decode cX5_makeRoomAt 50 = .ok (.daload, 1) := by decide +kernel
theorem dX5_makeRoomAt_51 : decode cX5_makeRoomAt 51 = .ok (.dastore, 1) := by decide +kernel
theorem dX5_makeRoomAt_52 : decode cX5_makeRoomAt 52 = .ok (.iinc 2 (-1), 3) := by decide +kernel
theorem dX5_makeRoomAt_55 : decode cX5_makeRoomAt 55 = .ok (.goto (-50), 3) := by decide +kernel
theorem dX5_makeRoomAt_58 : decode cX5_makeRoomAt 58 = .ok (.aload_n 0, 1) := by decide +kernel
theorem dX5_makeRoomAt_59 : decode cX5_makeRoomAt 59 = .ok (.dup, 1) := by decide +kernel
theorem dX5_makeRoomAt_60 : decode cX5_makeRoomAt 60 = .ok (.getfield 21, 3) := by decide +kernel
theorem dX5_makeRoomAt_63 : decode cX5_makeRoomAt 63 = .ok (.iconst 1, 1) := by decide +kernel
theorem dX5_makeRoomAt_64 : decode cX5_makeRoomAt 64 = .ok (.iadd, 1) := by decide +kernel
theorem dX5_makeRoomAt_65 : decode cX5_makeRoomAt 65 = .ok (.putfield 21, 3) := by decide +kernel
theorem dX5_makeRoomAt_68 : decode cX5_makeRoomAt 68 = .ok (.return_, 1) := by decide +kernel
theorem dX5_rowAtOrAbove_0 : decode cX5_rowAtOrAbove 0 = .ok (.iconst (-1), 1) := by decide +kernel
theorem dX5_rowAtOrAbove_1 : decode cX5_rowAtOrAbove 1 = .ok (.istore_n 3, 1) := by decide +kernel
theorem dX5_rowAtOrAbove_2 : decode cX5_rowAtOrAbove 2 = .ok (.iconst 0, 1) := by decide +kernel
theorem dX5_rowAtOrAbove_3 : decode cX5_rowAtOrAbove 3 = .ok (.istore 4, 2) := by decide +kernel
theorem dX5_rowAtOrAbove_5 : decode cX5_rowAtOrAbove 5 = .ok (.iload 4, 2) := by decide +kernel
theorem dX5_rowAtOrAbove_7 : decode cX5_rowAtOrAbove 7 = .ok (.aload_n 0, 1) := by decide +kernel
theorem dX5_rowAtOrAbove_8 : decode cX5_rowAtOrAbove 8 = .ok (.getfield 21, 3) := by decide +kernel
theorem dX5_rowAtOrAbove_11 : decode cX5_rowAtOrAbove 11 = .ok (.if_icmp .ge 24, 3) := by decide +kernel
theorem dX5_rowAtOrAbove_14 : decode cX5_rowAtOrAbove 14 = .ok (.aload_n 0, 1) := by decide +kernel
theorem dX5_rowAtOrAbove_15 : decode cX5_rowAtOrAbove 15 = .ok (.getfield 9, 3) := by decide +kernel
theorem dX5_rowAtOrAbove_18 : decode cX5_rowAtOrAbove 18 = .ok (.iload 4, 2) := by decide +kernel
theorem dX5_rowAtOrAbove_20 : decode cX5_rowAtOrAbove 20 = .ok (.daload, 1) := by decide +kernel
theorem dX5_rowAtOrAbove_21 : decode cX5_rowAtOrAbove 21 = .ok (.dload_n 1, 1) := by decide +kernel
theorem dX5_rowAtOrAbove_22 : decode cX5_rowAtOrAbove 22 = .ok (.dcmp .g, 1) := by decide +kernel
theorem dX5_rowAtOrAbove_23 : decode cX5_rowAtOrAbove 23 = .ok (.ifCond .gt 12, 3) := by decide +kernel
theorem dX5_rowAtOrAbove_26 : decode cX5_rowAtOrAbove 26 = .ok (.iload 4, 2) := by decide +kernel
theorem dX5_rowAtOrAbove_28 : decode cX5_rowAtOrAbove 28 = .ok (.istore_n 3, 1) := by decide +kernel
theorem dX5_rowAtOrAbove_29 : decode cX5_rowAtOrAbove 29 = .ok (.iinc 4 1, 3) := by decide +kernel
theorem dX5_rowAtOrAbove_32 : decode cX5_rowAtOrAbove 32 = .ok (.goto (-27), 3) := by decide +kernel
theorem dX5_rowAtOrAbove_35 : decode cX5_rowAtOrAbove 35 = .ok (.iload_n 3, 1) := by decide +kernel
theorem dX5_rowAtOrAbove_36 : decode cX5_rowAtOrAbove 36 = .ok (.ireturn, 1) := by decide +kernel
set_option maxRecDepth 20000 in
theorem ggX5_speedAt_X5_speedOfRows : GoodIn wsX5_speedAt wsX5_speedOfRows := goodIn_r _ [6, 7, 8, 9, 10, 11, 12, 13, 14] (by decide +kernel) (by decide +kernel)
set_option maxRecDepth 20000 in
theorem gX5_speedAt_X5_speedOfRows : GoodIn wsX5_speedAt (wsV RX5 40 RX5 yX5_speedOfRows wsX5_speedOfRows) := goodIn_app (goodIn_of _ (by decide +kernel)) ggX5_speedAt_X5_speedOfRows
theorem dX5_speedAt_0 : decode cX5_speedAt 0 = .ok (.aload_n 0, 1) := by decide +kernel
theorem dX5_speedAt_1 : decode cX5_speedAt 1 = .ok (.aload_n 1, 1) := by decide +kernel
theorem dX5_speedAt_2 : decode cX5_speedAt 2 = .ok (.dload_n 2, 1) := by decide +kernel
theorem dX5_speedAt_3 : decode cX5_speedAt 3 = .ok (.iload 4, 2) := by decide +kernel
theorem dX5_speedAt_5 : decode cX5_speedAt 5 = .ok (.invokevirtual 40, 3) := by decide +kernel
theorem dX5_speedAt_8 : decode cX5_speedAt 8 = .ok (.dconst 1, 1) := by decide +kernel
theorem dX5_speedAt_9 : decode cX5_speedAt 9 = .ok (.aload_n 0, 1) := by decide +kernel
theorem dX5_speedAt_10 : decode cX5_speedAt 10 = .ok (.getfield 25, 3) := by decide +kernel
theorem dX5_speedAt_13 : decode cX5_speedAt 13 = .ok (.dadd, 1) := by decide +kernel
theorem dX5_speedAt_14 : decode cX5_speedAt 14 = .ok (.dmul, 1) := by decide +kernel
theorem dX5_speedAt_15 : decode cX5_speedAt 15 = .ok (.dreturn, 1) := by decide +kernel
theorem dX5_speedOfRows_0 : decode cX5_speedOfRows 0 = .ok (.aload_n 0, 1) := by decide +kernel
theorem dX5_speedOfRows_1 : decode cX5_speedOfRows 1 = .ok (.getfield 21, 3) := by decide +kernel
theorem dX5_speedOfRows_4 : decode cX5_speedOfRows 4 = .ok (.ifCond .ne 5, 3) := by decide +kernel
theorem dX5_speedOfRows_7 : decode cX5_speedOfRows 7 = .ok (.dconst 0, 1) := by decide +kernel
theorem dX5_speedOfRows_8 : decode cX5_speedOfRows 8 = .ok (.dreturn, 1) := by decide +kernel
theorem dX5_speedOfRows_9 : decode cX5_speedOfRows 9 = .ok (.iload 4, 2) := by decide +kernel
theorem dX5_speedOfRows_11 : decode cX5_speedOfRows 11 = .ok (.ifCond .ge 7, 3) := by decide +kernel
theorem dX5_speedOfRows_14 : decode cX5_speedOfRows 14 = .ok (.aload_n 1, 1) := by decide +kernel
theorem dX5_speedOfRows_15 : decode cX5_speedOfRows 15 = .ok (.iconst 0, 1) := by decide +kernel
theorem dX5_speedOfRows_16 : decode cX5_speedOfRows 16 = .ok (.daload, 1) := by decide +kernel
theorem dX5_speedOfRows_17 : decode cX5_speedOfRows 17 = .ok (.dreturn, 1) := by decide +kernel
theorem dX5_speedOfRows_18 : decode cX5_speedOfRows 18 = .ok (.iload 4, 2) := by decide +kernel
theorem dX5_speedOfRows_20 : decode cX5_speedOfRows 20 = .ok (.iconst 1, 1) := by decide +kernel
theorem dX5_speedOfRows_21 : decode cX5_speedOfRows 21 = .ok (.iadd, 1) := by decide +kernel
theorem dX5_speedOfRows_22 : decode cX5_speedOfRows 22 = .ok (.aload_n 0, 1) := by decide +kernel
theorem dX5_speedOfRows_23 : decode cX5_speedOfRows 23 = .ok (.getfield 21, 3) := by decide +kernel
theorem dX5_speedOfRows_26 : decode cX5_speedOfRows 26 = .ok (.if_icmp .lt 12, 3) := by decide +kernel
theorem dX5_speedOfRows_29 : decode cX5_speedOfRows 29 = .ok (.aload_n 1, 1) := by decide +kernel
theorem dX5_speedOfRows_30 : decode cX5_speedOfRows 30 = .ok (.aload_n 0, 1) := by decide +kernel
theorem dX5_speedOfRows_31 : decode cX5_speedOfRows 31 = .ok (.getfield 21, 3) := by decide +kernel
theorem dX5_speedOfRows_34 : decode cX5_speedOfRows 34 = .ok (.iconst 1, 1) := by decide +kernel
theorem dX5_speedOfRows_35 : decode cX5_speedOfRows 35 = .ok (.isub, 1) := by decide +kernel
theorem dX5_speedOfRows_36 : decode cX5_speedOfRows 36 = .ok (.daload, 1) := by decide +kernel
theorem dX5_speedOfRows_37 : decode cX5_speedOfRows 37 = .ok (.dreturn, 1) := by decide +kernel
theorem dX5_speedOfRows_38 : decode cX5_speedOfRows 38 = .ok (.dload_n 2, 1) := by decide +kernel
theorem dX5_speedOfRows_39 : decode cX5_speedOfRows 39 = .ok (.aload_n 0, 1) := by decide +kernel
theorem dX5_speedOfRows_40 : decode cX5_speedOfRows 40 = .ok (.getfield 9, 3) := by decide +kernel
theorem dX5_speedOfRows_43 : decode cX5_speedOfRows 43 = .ok (.iload 4, 2) := by decide +kernel
theorem dX5_speedOfRows_45 : decode cX5_speedOfRows 45 = .ok (.daload, 1) := by decide +kernel
theorem dX5_speedOfRows_46 : decode cX5_speedOfRows 46 = .ok (.dsub, 1) := by decide +kernel
theorem dX5_speedOfRows_47 : decode cX5_speedOfRows 47 = .ok (.aload_n 0, 1) := by decide +kernel
theorem dX5_speedOfRows_48 : decode cX5_speedOfRows 48 = .ok (.getfield 9, 3) := by decide +kernel
theorem dX5_speedOfRows_51 : decode cX5_speedOfRows 51 = .ok (.iload 4, 2) := by decide +kernel
theorem dX5_speedOfRows_53 : decode cX5_speedOfRows 53 = .ok (.iconst 1, 1) := by decide +kernel
theorem dX5_speedOfRows_54 : decode cX5_speedOfRows 54 = .ok (.iadd, 1) := by decide +kernel
theorem dX5_speedOfRows_55 : decode cX5_speedOfRows 55 = .ok (.daload, 1) := by decide +kernel
theorem dX5_speedOfRows_56 : decode cX5_speedOfRows 56 = .ok (.aload_n 0, 1) := by decide +kernel
theorem dX5_speedOfRows_57 : decode cX5_speedOfRows 57 = .ok (.getfield 9, 3) := by decide +kernel
theorem dX5_speedOfRows_60 : decode cX5_speedOfRows 60 = .ok (.iload 4, 2) := by decide +kernel
theorem dX5_speedOfRows_62 : decode cX5_speedOfRows 62 = .ok (.daload, 1) := by decide +kernel
theorem dX5_speedOfRows_63 : decode cX5_speedOfRows 63 = .ok (.dsub, 1) := by decide +kernel
theorem dX5_speedOfRows_64 : decode cX5_speedOfRows 64 = .ok (.ddiv, 1) := by decide +kernel
theorem dX5_speedOfRows_65 : decode cX5_speedOfRows 65 = .ok (.dstore 5, 2) := by decide +kernel
theorem dX5_speedOfRows_67 : decode cX5_speedOfRows 67 = .ok (.aload_n 1, 1) := by decide +kernel
theorem dX5_speedOfRows_68 : decode cX5_speedOfRows 68 = .ok (.iload 4, 2) := by decide +kernel
theorem dX5_speedOfRows_70 : decode cX5_speedOfRows 70 = .ok (.daload, 1) := by decide +kernel
theorem dX5_speedOfRows_71 : decode cX5_speedOfRows 71 = .ok (.aload_n 1, 1) := by decide +kernel
theorem dX5_speedOfRows_72 : decode cX5_speedOfRows 72 = .ok (.iload 4, 2) := by decide +kernel
theorem dX5_speedOfRows_74 : decode cX5_speedOfRows 74 = .ok (.iconst 1, 1) := by decide +kernel
theorem dX5_speedOfRows_75 : decode cX5_speedOfRows 75 = .ok (.iadd, 1) := by decide +kernel
theorem dX5_speedOfRows_76 : decode cX5_speedOfRows 76 = .ok (.daload, 1) := by decide +kernel
theorem dX5_speedOfRows_77 : decode cX5_speedOfRows 77 = .ok (.aload_n 1, 1) := by decide +kernel
theorem dX5_speedOfRows_78 : decode cX5_speedOfRows 78 = .ok (.iload 4, 2) := by decide +kernel
theorem dX5_speedOfRows_80 : decode cX5_speedOfRows 80 = .ok (.daload, 1) := by decide +kernel
theorem dX5_speedOfRows_81 : decode cX5_speedOfRows 81 = .ok (.dsub, 1) := by decide +kernel
theorem dX5_speedOfRows_82 : decode cX5_speedOfRows 82 = .ok (.dload 5, 2) := by decide +kernel
theorem dX5_speedOfRows_84 : decode cX5_speedOfRows 84 = .ok (.dmul, 1) := by decide +kernel
theorem dX5_speedOfRows_85 : decode cX5_speedOfRows 85 = .ok (.dadd, 1) := by decide +kernel
theorem dX5_speedOfRows_86 : decode cX5_speedOfRows 86 = .ok (.dreturn, 1) := by decide +kernel
