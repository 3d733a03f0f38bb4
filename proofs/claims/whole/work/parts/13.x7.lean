theorem dX7_init_0 : decode cX7_init 0 = .ok (.aload_n 0, 1) := by decide +kernel
theorem dX7_init_1 : decode cX7_init 1 = .ok (.invokespecial 1, 3) := by decide +kernel
theorem dX7_init_4 : decode cX7_init 4 = .ok (.aload_n 0, 1) := by decide +kernel
theorem dX7_init_5 : decode cX7_init 5 = .ok (.bipush 30, 2) := by decide +kernel
theorem dX7_init_7 : decode cX7_init 7 = .ok (.newarray .double, 2) := by decide +kernel
theorem dX7_init_9 : decode cX7_init 9 = .ok (.putfield 7, 3) := by decide +kernel
theorem dX7_init_12 : decode cX7_init 12 = .ok (.aload_n 0, 1) := by decide +kernel
theorem dX7_init_13 : decode cX7_init 13 = .ok (.bipush 30, 2) := by decide +kernel
theorem dX7_init_15 : decode cX7_init 15 = .ok (.newarray .double, 2) := by decide +kernel
theorem dX7_init_17 : decode cX7_init 17 = .ok (.putfield 13, 3) := by decide +kernel
theorem dX7_init_20 : decode cX7_init 20 = .ok (.aload_n 0, 1) := by decide +kernel
theorem dX7_init_21 : decode cX7_init 21 = .ok (.bipush 30, 2) := by decide +kernel
theorem dX7_init_23 : decode cX7_init 23 = .ok (.newarray .double, 2) := by decide +kernel
theorem dX7_init_25 : decode cX7_init 25 = .ok (.putfield 16, 3) := by decide +kernel
theorem dX7_init_28 : decode cX7_init 28 = .ok (.aload_n 0, 1) := by decide +kernel
theorem dX7_init_29 : decode cX7_init 29 = .ok (.bipush 30, 2) := by decide +kernel
theorem dX7_init_31 : decode cX7_init 31 = .ok (.newarray .double, 2) := by decide +kernel
theorem dX7_init_33 : decode cX7_init 33 = .ok (.putfield 19, 3) := by decide +kernel
theorem dX7_init_36 : decode cX7_init 36 = .ok (.aload_n 0, 1) := by decide +kernel
theorem dX7_init_37 : decode cX7_init 37 = .ok (.bipush 30, 2) := by decide +kernel
theorem dX7_init_39 : decode cX7_init 39 = .ok (.newarray .double, 2) := by decide +kernel
theorem dX7_init_41 : decode cX7_init 41 = .ok (.putfield 22, 3) := by decide +kernel
theorem dX7_init_44 : decode cX7_init 44 = .ok (.aload_n 0, 1) := by decide +kernel
theorem dX7_init_45 : decode cX7_init 45 = .ok (.bipush 30, 2) := by decide +kernel
theorem dX7_init_47 : decode cX7_init 47 = .ok (.newarray .boolean, 2) := by decide +kernel
theorem dX7_init_49 : decode cX7_init 49 = .ok (.putfield 25, 3) := by decide +kernel
theorem dX7_init_52 : decode cX7_init 52 = .ok (.aload_n 0, 1) := by decide +kernel
theorem dX7_init_53 : decode cX7_init 53 = .ok (.bipush 30, 2) := by decide +kernel
theorem dX7_init_55 : decode cX7_init 55 = .ok (.newarray .double, 2) := by decide +kernel
theorem dX7_init_57 : decode cX7_init 57 = .ok (.putfield 29, 3) := by decide +kernel
theorem dX7_init_60 : decode cX7_init 60 = .ok (.aload_n 0, 1) := by decide +kernel
theorem dX7_init_61 : decode cX7_init 61 = .ok (.bipush 30, 2) := by decide +kernel
theorem dX7_init_63 : decode cX7_init 63 = .ok (.newarray .double, 2) := by decide +kernel
theorem dX7_init_65 : decode cX7_init 65 = .ok (.putfield 32, 3) := by decide +kernel
theorem dX7_init_68 : decode cX7_init 68 = .ok (.aload_n 0, 1) := by decide +kernel
theorem dX7_init_69 : decode cX7_init 69 = .ok (.bipush 30, 2) := by decide +kernel
theorem dX7_init_71 : decode cX7_init 71 = .ok (.newarray .double, 2) := by decide +kernel
theorem dX7_init_73 : decode cX7_init 73 = .ok (.putfield 35, 3) := by decide +kernel
theorem dX7_init_76 : decode cX7_init 76 = .ok (.aload_n 0, 1) := by decide +kernel
theorem dX7_init_77 : decode cX7_init 77 = .ok (.bipush 60, 2) := by decide +kernel
theorem dX7_init_79 : decode cX7_init 79 = .ok (.newarray .int, 2) := by decide +kernel
theorem dX7_init_81 : decode cX7_init 81 = .ok (.putfield 38, 3) := by decide +kernel
theorem dX7_init_84 : decode cX7_init 84 = .ok (.aload_n 0, 1) := by decide +kernel
theorem dX7_init_85 : decode cX7_init 85 = .ok (.bipush 60, 2) := by decide +kernel
theorem dX7_init_87 : decode cX7_init 87 = .ok (.newarray .int, 2) := by decide +kernel
theorem dX7_init_89 : decode cX7_init 89 = .ok (.putfield 42, 3) := by decide +kernel
theorem dX7_init_92 : decode cX7_init 92 = .ok (.aload_n 0, 1) := by decide +kernel
theorem dX7_init_93 : decode cX7_init 93 = .ok (.bipush 60, 2) := by decide +kernel
theorem dX7_init_95 : decode cX7_init 95 = .ok (.newarray .double, 2) := by decide +kernel
theorem dX7_init_97 : decode cX7_init 97 = .ok (.putfield 45, 3) := by decide +kernel
theorem dX7_init_100 : decode cX7_init 100 = .ok (.aload_n 0, 1) := by decide +kernel
theorem dX7_init_101 : decode cX7_init 101 = .ok (.bipush 60, 2) := by decide +kernel
theorem dX7_init_103 : decode cX7_init 103 = .ok (.newarray .double, 2) := by decide +kernel
theorem dX7_init_105 : decode cX7_init 105 = .ok (.putfield 48, 3) := by decide +kernel
theorem dX7_init_108 : decode cX7_init 108 = .ok (.aload_n 0, 1) := by decide +kernel
theorem dX7_init_109 : decode cX7_init 109 = .ok (.bipush 60, 2) := by decide +kernel
theorem dX7_init_111 : decode cX7_init 111 = .ok (.newarray .double, 2) := by decide +kernel
theorem dX7_init_113 : decode cX7_init 113 = .ok (.putfield 51, 3) := by decide +kernel
theorem dX7_init_116 : decode cX7_init 116 = .ok (.aload_n 0, 1) := by decide +kernel
theorem dX7_init_117 : decode cX7_init 117 = .ok (.bipush 60, 2) := by decide +kernel
theorem dX7_init_119 : decode cX7_init 119 = .ok (.newarray .double, 2) := by decide +kernel
theorem dX7_init_121 : decode cX7_init 121 = .ok (.putfield 54, 3) := by decide +kernel
theorem dX7_init_124 : decode cX7_init 124 = .ok (.aload_n 0, 1) := by decide +kernel
theorem dX7_init_125 : decode cX7_init 125 = .ok (.bipush 10, 2) := by decide +kernel
theorem dX7_init_127 : decode cX7_init 127 = .ok (.newarray .double, 2) := by decide +kernel
theorem dX7_init_129 : decode cX7_init 129 = .ok (.putfield 57, 3) := by decide +kernel
theorem dX7_init_132 : decode cX7_init 132 = .ok (.aload_n 0, 1) := by decide +kernel
theorem dX7_init_133 : decode cX7_init 133 = .ok (.bipush 10, 2) := by decide +kernel
theorem dX7_init_135 : decode cX7_init 135 = .ok (.newarray .double, 2) := by decide +kernel
theorem dX7_init_137 : decode cX7_init 137 = .ok (.putfield 60, 3) := by decide +kernel
theorem dX7_init_140 : decode cX7_init 140 = .ok (.aload_n 0, 1) := by decide +kernel
theorem dX7_init_141 : decode cX7_init 141 = .ok (.bipush 10, 2) := by decide +kernel
theorem dX7_init_143 : decode cX7_init 143 = .ok (.newarray .double, 2) := by decide +kernel
theorem dX7_init_145 : decode cX7_init 145 = .ok (.putfield 63, 3) := by decide +kernel
theorem dX7_init_148 : decode cX7_init 148 = .ok (.aload_n 0, 1) := by decide +kernel
theorem dX7_init_149 : decode cX7_init 149 = .ok (.ldc2_w 66, 3) := by decide +kernel
theorem dX7_init_152 : decode cX7_init 152 = .ok (.putfield 68, 3) := by decide +kernel
theorem dX7_init_155 : decode cX7_init 155 = .ok (.aload_n 0, 1) := by decide +kernel
theorem dX7_init_156 : decode cX7_init 156 = .ok (.iconst 3, 1) := by decide +kernel
theorem dX7_init_157 : decode cX7_init 157 = .ok (.newarray .double, 2) := by decide +kernel
theorem dX7_init_159 : decode cX7_init 159 = .ok (.putfield 72, 3) := by decide +kernel
theorem dX7_init_162 : decode cX7_init 162 = .ok (.aload_n 0, 1) := by decide +kernel
theorem dX7_init_163 : decode cX7_init 163 = .ok (.sipush 600, 3) := by decide +kernel
theorem dX7_init_166 : decode cX7_init 166 = .ok (.newarray .double, 2) := by decide +kernel
theorem dX7_init_168 : decode cX7_init 168 = .ok (.putfield 75, 3) := by decide +kernel
theorem dX7_init_171 : decode cX7_init 171 = .ok (.aload_n 0, 1) := by decide +kernel
theorem dX7_init_172 : decode cX7_init 172 = .ok (.bipush 30, 2) := by decide +kernel
theorem dX7_init_174 : decode cX7_init 174 = .ok (.newarray .int, 2) := by decide +kernel
theorem dX7_init_176 : decode cX7_init 176 = .ok (.putfield 78, 3) := by decide +kernel
theorem dX7_init_179 : decode cX7_init 179 = .ok (.aload_n 0, 1) := by decide +kernel
theorem dX7_init_180 : decode cX7_init 180 = .ok (.bipush 30, 2) := by decide +kernel
theorem dX7_init_182 : decode cX7_init 182 = .ok (.newarray .int, 2) := by decide +kernel
theorem dX7_init_184 : decode cX7_init 184 = .ok (.putfield 81, 3) := by decide +kernel
theorem dX7_init_187 : decode cX7_init 187 = .ok (.aload_n 0, 1) := by decide +kernel
theorem dX7_init_188 : decode cX7_init 188 = .ok (.bipush 30, 2) := by decide +kernel
theorem dX7_init_190 : decode cX7_init 190 = .ok (.newarray .int, 2) := by decide +kernel
theorem dX7_init_192 : decode cX7_init 192 = .ok (.putfield 84, 3) := by decide +kernel
theorem dX7_init_195 : decode cX7_init 195 = .ok (.return_, 1) := by decide +kernel
theorem dX7_isIn_0 : decode cX7_isIn 0 = .ok (.dload_n 0, 1) := by decide +kernel
theorem dX7_isIn_1 : decode cX7_isIn 1 = .ok (.dload_n 2, 1) := by decide +kernel
theorem dX7_isIn_2 : decode cX7_isIn 2 = .ok (.dcmp .l, 1) := by decide +kernel
theorem dX7_isIn_3 : decode cX7_isIn 3 = .ok (.ifCond .lt 14, 3) := by decide +kernel
theorem dX7_isIn_6 : decode cX7_isIn 6 = .ok (.dload_n 0, 1) := by decide +kernel
theorem dX7_isIn_7 : decode cX7_isIn 7 = .ok (.dload 4, 2) := by decide +kernel
theorem dX7_isIn_9 : decode cX7_isIn 9 = .ok (.dcmp .g, 1) := by decide +kernel
theorem dX7_isIn_10 : decode cX7_isIn 10 = .ok (.ifCond .gt 7, 3) := by decide +kernel
theorem dX7_isIn_13 : decode cX7_isIn 13 = .ok (.iconst 1, 1) := by decide +kernel
theorem dX7_isIn_14 : decode cX7_isIn 14 = .ok (.goto 4, 3) := by decide +kernel
theorem dX7_isIn_17 : decode cX7_isIn 17 = .ok (.iconst 0, 1) := by decide +kernel
theorem dX7_isIn_18 : decode cX7_isIn 18 = .ok (.ireturn, 1) := by decide +kernel
theorem dX7_root_0 : decode cX7_root 0 = .ok (.dload_n 0, 1) := by decide +kernel
theorem dX7_root_1 : decode cX7_root 1 = .ok (.dconst 0, 1) := by decide +kernel
theorem dX7_root_2 : decode cX7_root 2 = .ok (.dcmp .l, 1) := by decide +kernel
theorem dX7_root_3 : decode cX7_root 3 = .ok (.ifCond .gt 5, 3) := by decide +kernel
theorem dX7_root_6 : decode cX7_root 6 = .ok (.dconst 0, 1) := by decide +kernel
theorem dX7_root_7 : decode cX7_root 7 = .ok (.dreturn, 1) := by decide +kernel
theorem dX7_root_8 : decode cX7_root 8 = .ok (.ldc2_w 87, 3) := by decide +kernel
theorem dX7_root_11 : decode cX7_root 11 = .ok (.dload_n 0, 1) := by decide +kernel
theorem dX7_root_12 : decode cX7_root 12 = .ok (.dconst 1, 1) := by decide +kernel
theorem dX7_root_13 : decode cX7_root 13 = .ok (.dadd, 1) := by decide +kernel
theorem dX7_root_14 : decode cX7_root 14 = .ok (.dmul, 1) := by decide +kernel
theorem dX7_root_15 : decode cX7_root 15 = .ok (.dstore_n 2, 1) := by decide +kernel
theorem dX7_root_16 : decode cX7_root 16 = .ok (.iconst 0, 1) := by decide +kernel
theorem dX7_root_17 : decode cX7_root 17 = .ok (.istore 4, 2) := by decide +kernel
theorem dX7_root_19 : decode cX7_root 19 = .ok (.iload 4, 2) := by decide +kernel
theorem dX7_root_21 : decode cX7_root 21 = .ok (.bipush 30, 2) := by decide +kernel
theorem dX7_root_23 : decode cX7_root 23 = .ok (.if_icmp .ge 19, 3) := by decide +kernel
theorem dX7_root_26 : decode cX7_root 26 = .ok (.ldc2_w 87, 3) := by decide +kernel
theorem dX7_root_29 : decode cX7_root 29 = .ok (.dload_n 2, 1) := by decide +kernel
theorem dX7_root_30 : decode cX7_root 30 = .ok (.dload_n 0, 1) := by decide +kernel
theorem dX7_root_31 : decode cX7_root 31 = .ok (.dload_n 2, 1) := by decide +kernel
theorem dX7_root_32 : decode cX7_root 32 = .ok (.ddiv, 1) := by decide +kernel
theorem dX7_root_33 : decode cX7_root 33 = .ok (.dadd, 1) := by decide +kernel
theorem dX7_root_34 : decode cX7_root 34 = .ok (.dmul, 1) := by decide +kernel
theorem dX7_root_35 : decode cX7_root 35 = .ok (.dstore_n 2, 1) := by decide +kernel
theorem dX7_root_36 : decode cX7_root 36 = .ok (.iinc 4 1, 3) := by decide +kernel
theorem dX7_root_39 : decode cX7_root 39 = .ok (.goto (-20), 3) := by decide +kernel
theorem dX7_root_42 : decode cX7_root 42 = .ok (.dload_n 2, 1) := by decide +kernel
theorem dX7_root_43 : decode cX7_root 43 = .ok (.dreturn, 1) := by decide +kernel
theorem dX7_size_0 : decode cX7_size 0 = .ok (.dload_n 0, 1) := by decide +kernel
theorem dX7_size_1 : decode cX7_size 1 = .ok (.dconst 0, 1) := by decide +kernel
theorem dX7_size_2 : decode cX7_size 2 = .ok (.dcmp .g, 1) := by decide +kernel
theorem dX7_size_3 : decode cX7_size 3 = .ok (.ifCond .ge 9, 3) := by decide +kernel
theorem dX7_size_6 : decode cX7_size 6 = .ok (.dconst 0, 1) := by decide +kernel
theorem dX7_size_7 : decode cX7_size 7 = .ok (.dload_n 0, 1) := by decide +kernel
theorem dX7_size_8 : decode cX7_size 8 = .ok (.dsub, 1) := by decide +kernel
theorem dX7_size_9 : decode cX7_size 9 = .ok (.goto 4, 3) := by decide +kernel
theorem dX7_size_12 : decode cX7_size 12 = .ok (.dload_n 0, 1) := by decide +kernel
theorem dX7_size_13 : decode cX7_size 13 = .ok (.dreturn, 1) := by decide +kernel
set_option maxRecDepth 100000 in
theorem ggX7_node_X7_isIn : GoodIn wsX7_node wsX7_isIn := goodIn_r _ [10] rfl (by decide +kernel)
set_option maxRecDepth 100000 in
theorem gX7_node_X7_isIn : GoodIn wsX7_node (va_wsS RX7 97 yX7_isIn wsX7_isIn) := goodIn_app (goodIn_of _ (by decide +kernel)) ggX7_node_X7_isIn
theorem dX7_node_0 : decode cX7_node 0 = .ok (.aload_n 0, 1) := by decide +kernel
theorem dX7_node_1 : decode cX7_node 1 = .ok (.getfield 89, 3) := by decide +kernel
theorem dX7_node_4 : decode cX7_node 4 = .ok (.bipush 30, 2) := by decide +kernel
theorem dX7_node_6 : decode cX7_node 6 = .ok (.if_icmp .eq 43, 3) := by decide +kernel
theorem dX7_node_9 : decode cX7_node 9 = .ok (.dload_n 1, 1) := by decide +kernel
theorem dX7_node_10 : decode cX7_node 10 = .ok (.ldc2_w 93, 3) := by decide +kernel
theorem dX7_node_13 : decode cX7_node 13 = .ok (.ldc2_w 95, 3) := by decide +kernel
theorem dX7_node_16 : decode cX7_node 16 = .ok (.invokestatic 97, 3) := by decide +kernel
theorem dX7_node_19 : decode cX7_node 19 = .ok (.ifCond .eq 30, 3) := by decide +kernel
theorem dX7_node_22 : decode cX7_node 22 = .ok (.dload_n 3, 1) := by decide +kernel
theorem dX7_node_23 : decode cX7_node 23 = .ok (.ldc2_w 93, 3) := by decide +kernel
theorem dX7_node_26 : decode cX7_node 26 = .ok (.ldc2_w 95, 3) := by decide +kernel
theorem dX7_node_29 : decode cX7_node 29 = .ok (.invokestatic 97, 3) := by decide +kernel
theorem dX7_node_32 : decode cX7_node 32 = .ok (.ifCond .eq 17, 3) := by decide +kernel
theorem dX7_node_35 : decode cX7_node 35 = .ok (.dload 5, 2) := by decide +kernel
theorem dX7_node_37 : decode cX7_node 37 = .ok (.ldc2_w 93, 3) := by decide +kernel
theorem dX7_node_40 : decode cX7_node 40 = .ok (.ldc2_w 95, 3) := by decide +kernel
theorem dX7_node_43 : decode cX7_node 43 = .ok (.invokestatic 97, 3) := by decide +kernel
theorem dX7_node_46 : decode cX7_node 46 = .ok (.ifCond .ne 5, 3) := by decide +kernel
theorem dX7_node_49 : decode cX7_node 49 = .ok (.iconst (-1), 1) := by decide +kernel
theorem dX7_node_50 : decode cX7_node 50 = .ok (.ireturn, 1) := by decide +kernel
theorem dX7_node_51 : decode cX7_node 51 = .ok (.aload_n 0, 1) := by decide +kernel
theorem dX7_node_52 : decode cX7_node 52 = .ok (.getfield 7, 3) := by decide +kernel
theorem dX7_node_55 : decode cX7_node 55 = .ok (.aload_n 0, 1) := by decide +kernel
theorem dX7_node_56 : decode cX7_node 56 = .ok (.getfield 89, 3) := by decide +kernel
theorem dX7_node_59 : decode cX7_node 59 = .ok (.dload_n 1, 1) := by decide +kernel
theorem dX7_node_60 : decode cX7_node 60 = .ok (.dastore, 1) := by decide +kernel
theorem dX7_node_61 : decode cX7_node 61 = .ok (.aload_n 0, 1) := by decide +kernel
theorem dX7_node_62 : decode cX7_node 62 = .ok (.getfield 13, 3) := by decide +kernel
theorem dX7_node_65 : decode cX7_node 65 = .ok (.aload_n 0, 1) := by decide +kernel
theorem dX7_node_66 : decode cX7_node 66 = .ok (.getfield 89, 3) := by decide +kernel
theorem dX7_node_69 : decode cX7_node 69 = .ok (.dload_n 3, 1) := by decide +kernel
theorem dX7_node_70 : decode cX7_node 70 = .ok (.dastore, 1) := by decide +kernel
theorem dX7_node_71 : decode cX7_node 71 = .ok (.aload_n 0, 1) := by decide +kernel
theorem dX7_node_72 : decode cX7_node 72 = .ok (.getfield 16, 3) := by decide +kernel
theorem dX7_node_75 : decode cX7_node 75 = .ok (.aload_n 0, 1) := by decide +kernel
theorem dX7_node_76 : decode cX7_node 76 = .ok (.getfield 89, 3) := by decide +kernel
theorem dX7_node_79 : decode cX7_node 79 = .ok (.dload 5, 2) := by decide +kernel
theorem dX7_node_81 : decode cX7_node 81 = .ok (.dastore, 1) := by decide +kernel
theorem dX7_node_82 : decode cX7_node 82 = .ok (.aload_n 0, 1) := by decide +kernel
theorem dX7_node_83 : decode cX7_node 83 = .ok (.dup, 1) := by decide +kernel
theorem dX7_node_84 : decode cX7_node 84 = .ok (.getfield 89, 3) := by decide +kernel
theorem dX7_node_87 : decode cX7_node 87 = .ok (.iconst 1, 1) := by decide +kernel
theorem dX7_node_88 : decode cX7_node 88 = .ok (.iadd, 1) := by decide +kernel
theorem dX7_node_89 : decode cX7_node 89 = .ok (.putfield 89, 3) := by decide +kernel
theorem dX7_node_92 : decode cX7_node 92 = .ok (.aload_n 0, 1) := by decide +kernel
theorem dX7_node_93 : decode cX7_node 93 = .ok (.getfield 89, 3) := by decide +kernel
theorem dX7_node_96 : decode cX7_node 96 = .ok (.iconst 1, 1) := by decide +kernel
theorem dX7_node_97 : decode cX7_node 97 = .ok (.isub, 1) := by decide +kernel
theorem dX7_node_98 : decode cX7_node 98 = .ok (.ireturn, 1) := by decide +kernel
theorem dX7_isNode_0 : decode cX7_isNode 0 = .ok (.iload_n 1, 1) := by decide +kernel
theorem dX7_isNode_1 : decode cX7_isNode 1 = .ok (.ifCond .lt 15, 3) := by decide +kernel
theorem dX7_isNode_4 : decode cX7_isNode 4 = .ok (.iload_n 1, 1) := by decide +kernel
theorem dX7_isNode_5 : decode cX7_isNode 5 = .ok (.aload_n 0, 1) := by decide +kernel
theorem dX7_isNode_6 : decode cX7_isNode 6 = .ok (.getfield 89, 3) := by decide +kernel
theorem dX7_isNode_9 : decode cX7_isNode 9 = .ok (.if_icmp .ge 7, 3) := by decide +kernel
theorem dX7_isNode_12 : decode cX7_isNode 12 = .ok (.iconst 1, 1) := by decide +kernel
theorem dX7_isNode_13 : decode cX7_isNode 13 = .ok (.goto 4, 3) := by decide +kernel
theorem dX7_isNode_16 : decode cX7_isNode 16 = .ok (.iconst 0, 1) := by decide +kernel
theorem dX7_isNode_17 : decode cX7_isNode 17 = .ok (.ireturn, 1) := by decide +kernel
set_option maxRecDepth 100000 in
theorem ggX7_bar_X7_isNode : GoodIn wsX7_bar wsX7_isNode := goodIn_r _ [17, 18, 22, 23, 24, 25, 26, 27, 28, 29, 30, 31, 32, 33, 34, 35, 36, 37, 38, 39, 40, 41, 42, 43, 44, 45, 46, 47, 48, 49, 50, 51, 52] rfl (by decide +kernel)
set_option maxRecDepth 100000 in
theorem gX7_bar_X7_isNode : GoodIn wsX7_bar (wsV RX7 101 RX7 yX7_isNode wsX7_isNode) := goodIn_app (goodIn_of _ (by decide +kernel)) ggX7_bar_X7_isNode
set_option maxRecDepth 100000 in
theorem ggX7_bar_X7_isIn : GoodIn wsX7_bar wsX7_isIn := goodIn_r _ [21] rfl (by decide +kernel)
set_option maxRecDepth 100000 in
theorem gX7_bar_X7_isIn : GoodIn wsX7_bar (va_wsS RX7 97 yX7_isIn wsX7_isIn) := goodIn_app (goodIn_of _ (by decide +kernel)) ggX7_bar_X7_isIn
theorem dX7_bar_0 : decode cX7_bar 0 = .ok (.aload_n 0, 1) := by decide +kernel
theorem dX7_bar_1 : decode cX7_bar 1 = .ok (.iload_n 1, 1) := by decide +kernel
theorem dX7_bar_2 : decode cX7_bar 2 = .ok (.invokevirtual 101, 3) := by decide +kernel
theorem dX7_bar_5 : decode cX7_bar 5 = .ok (.ifCond .eq 62, 3) := by decide +kernel
theorem dX7_bar_8 : decode cX7_bar 8 = .ok (.aload_n 0, 1) := by decide +kernel
theorem dX7_bar_9 : decode cX7_bar 9 = .ok (.iload_n 2, 1) := by decide +kernel
theorem dX7_bar_10 : decode cX7_bar 10 = .ok (.invokevirtual 101, 3) := by decide +kernel
theorem dX7_bar_13 : decode cX7_bar 13 = .ok (.ifCond .eq 54, 3) := by decide +kernel
theorem dX7_bar_16 : decode cX7_bar 16 = .ok (.aload_n 0, 1) := by decide +kernel
theorem dX7_bar_17 : decode cX7_bar 17 = .ok (.getfield 105, 3) := by decide +kernel
theorem dX7_bar_20 : decode cX7_bar 20 = .ok (.bipush 60, 2) := by decide +kernel
theorem dX7_bar_22 : decode cX7_bar 22 = .ok (.if_icmp .eq 45, 3) := by decide +kernel
theorem dX7_bar_25 : decode cX7_bar 25 = .ok (.iload_n 1, 1) := by decide +kernel
theorem dX7_bar_26 : decode cX7_bar 26 = .ok (.iload_n 2, 1) := by decide +kernel
theorem dX7_bar_27 : decode cX7_bar 27 = .ok (.if_icmp .eq 40, 3) := by decide +kernel
theorem dX7_bar_30 : decode cX7_bar 30 = .ok (.dload_n 3, 1) := by decide +kernel
theorem dX7_bar_31 : decode cX7_bar 31 = .ok (.ldc2_w 108, 3) := by decide +kernel
theorem dX7_bar_34 : decode cX7_bar 34 = .ok (.ldc2_w 95, 3) := by decide +kernel
theorem dX7_bar_37 : decode cX7_bar 37 = .ok (.invokestatic 97, 3) := by decide +kernel
theorem dX7_bar_40 : decode cX7_bar 40 = .ok (.ifCond .eq 27, 3) := by decide +kernel
theorem dX7_bar_43 : decode cX7_bar 43 = .ok (.dload 5, 2) := by decide +kernel
theorem dX7_bar_45 : decode cX7_bar 45 = .ok (.dconst 0, 1) := by decide +kernel
theorem dX7_bar_46 : decode cX7_bar 46 = .ok (.ldc2_w 110, 3) := by decide +kernel
theorem dX7_bar_49 : decode cX7_bar 49 = .ok (.invokestatic 97, 3) := by decide +kernel
theorem dX7_bar_52 : decode cX7_bar 52 = .ok (.ifCond .eq 15, 3) := by decide +kernel
theorem dX7_bar_55 : decode cX7_bar 55 = .ok (.dload 7, 2) := by decide +kernel
theorem dX7_bar_57 : decode cX7_bar 57 = .ok (.dconst 0, 1) := by decide +kernel
theorem dX7_bar_58 : decode cX7_bar 58 = .ok (.ldc2_w 112, 3) := by decide +kernel
theorem dX7_bar_61 : decode cX7_bar 61 = .ok (.invokestatic 97, 3) := by decide +kernel
theorem dX7_bar_64 : decode cX7_bar 64 = .ok (.ifCond .ne 5, 3) := by decide +kernel
theorem dX7_bar_67 : decode cX7_bar 67 = .ok (.iconst (-1), 1) := by decide +kernel
theorem dX7_bar_68 : decode cX7_bar 68 = .ok (.ireturn, 1) := by decide +kernel
theorem dX7_bar_69 : decode cX7_bar 69 = .ok (.aload_n 0, 1) := by decide +kernel
theorem dX7_bar_70 : decode cX7_bar 70 = .ok (.getfield 38, 3) := by decide +kernel
theorem dX7_bar_73 : decode cX7_bar 73 = .ok (.aload_n 0, 1) := by decide +kernel
theorem dX7_bar_74 : decode cX7_bar 74 = .ok (.getfield 105, 3) := by decide +kernel
theorem dX7_bar_77 : decode cX7_bar 77 = .ok (.iload_n 1, 1) := by decide +kernel
theorem dX7_bar_78 : decode cX7_bar 78 = .ok (.iastore, 1) := by decide +kernel
theorem dX7_bar_79 : decode cX7_bar 79 = .ok (.aload_n 0, 1) := by decide +kernel
theorem dX7_bar_80 : decode cX7_bar 80 = .ok (.getfield 42, 3) := by decide +kernel
theorem dX7_bar_83 : decode cX7_bar 83 = .ok (.aload_n 0, 1) := by decide +kernel
theorem dX7_bar_84 : decode cX7_bar 84 = .ok (.getfield 105, 3) := by decide +kernel
theorem dX7_bar_87 : decode cX7_bar 87 = .ok (.iload_n 2, 1) := by decide +kernel
theorem dX7_bar_88 : decode cX7_bar 88 = .ok (.iastore, 1) := by decide +kernel
theorem dX7_bar_89 : decode cX7_bar 89 = .ok (.aload_n 0, 1) := by decide +kernel
theorem dX7_bar_90 : decode cX7_bar 90 = .ok (.getfield 45, 3) := by decide +kernel
theorem dX7_bar_93 : decode cX7_bar 93 = .ok (.aload_n 0, 1) := by decide +kernel
theorem dX7_bar_94 : decode cX7_bar 94 = .ok (.getfield 105, 3) := by decide +kernel
theorem dX7_bar_97 : decode cX7_bar 97 = .ok (.dload_n 3, 1) := by decide +kernel
theorem dX7_bar_98 : decode cX7_bar 98 = .ok (.dastore, 1) := by decide +kernel
theorem dX7_bar_99 : decode cX7_bar 99 = .ok (.aload_n 0, 1) := by decide +kernel
theorem dX7_bar_100 : decode cX7_bar 100 = .ok (.getfield 48, 3) := by decide +kernel
theorem dX7_bar_103 : decode cX7_bar 103 = .ok (.aload_n 0, 1) := by decide +kernel
theorem dX7_bar_104 : decode cX7_bar 104 = .ok (.getfield 105, 3) := by decide +kernel
theorem dX7_bar_107 : decode cX7_bar 107 = .ok (.dload 5, 2) := by decide +kernel
theorem dX7_bar_109 : decode cX7_bar 109 = .ok (.dastore, 1) := by decide +kernel
theorem dX7_bar_110 : decode cX7_bar 110 = .ok (.aload_n 0, 1) := by decide +kernel
theorem dX7_bar_111 : decode cX7_bar 111 = .ok (.getfield 51, 3) := by decide +kernel
theorem dX7_bar_114 : decode cX7_bar 114 = .ok (.aload_n 0, 1) := by decide +kernel
theorem dX7_bar_115 : decode cX7_bar 115 = .ok (.getfield 105, 3) := by decide +kernel
theorem dX7_bar_118 : decode cX7_bar 118 = .ok (.dload 7, 2) := by decide +kernel
theorem dX7_bar_120 : decode cX7_bar 120 = .ok (.dastore, 1) := by decide +kernel
theorem dX7_bar_121 : decode cX7_bar 121 = .ok (.aload_n 0, 1) := by decide +kernel
theorem dX7_bar_122 : decode cX7_bar 122 = .ok (.getfield 54, 3) := by decide +kernel
theorem dX7_bar_125 : decode cX7_bar 125 = .ok (.aload_n 0, 1) := by decide +kernel
theorem dX7_bar_126 : decode cX7_bar 126 = .ok (.getfield 105, 3) := by decide +kernel
theorem dX7_bar_129 : decode cX7_bar 129 = .ok (.ldc2_w 66, 3) := by decide +kernel
theorem dX7_bar_132 : decode cX7_bar 132 = .ok (.dastore, 1) := by decide +kernel
theorem dX7_bar_133 : decode cX7_bar 133 = .ok (.aload_n 0, 1) := by decide +kernel
theorem dX7_bar_134 : decode cX7_bar 134 = .ok (.dup, 1) := by decide +kernel
theorem dX7_bar_135 : decode cX7_bar 135 = .ok (.getfield 105, 3) := by decide +kernel
theorem dX7_bar_138 : decode cX7_bar 138 = .ok (.iconst 1, 1) := by decide +kernel
theorem dX7_bar_139 : decode cX7_bar 139 = .ok (.iadd, 1) := by decide +kernel
theorem dX7_bar_140 : decode cX7_bar 140 = .ok (.putfield 105, 3) := by decide +kernel
theorem dX7_bar_143 : decode cX7_bar 143 = .ok (.aload_n 0, 1) := by decide +kernel
theorem dX7_bar_144 : decode cX7_bar 144 = .ok (.getfield 105, 3) := by decide +kernel
theorem dX7_bar_147 : decode cX7_bar 147 = .ok (.iconst 1, 1) := by decide +kernel
theorem dX7_bar_148 : decode cX7_bar 148 = .ok (.isub, 1) := by decide +kernel
theorem dX7_bar_149 : decode cX7_bar 149 = .ok (.ireturn, 1) := by decide +kernel
set_option maxRecDepth 100000 in
theorem ggX7_fix_X7_isNode : GoodIn wsX7_fix wsX7_isNode := goodIn_r _ [6, 7, 8, 9, 10, 11, 12, 13, 14, 15, 16, 17, 18, 19, 20, 21, 22, 23, 24, 25, 26, 27, 28, 29, 30, 31, 32, 33, 34, 35, 36, 37, 38] rfl (by decide +kernel)
set_option maxRecDepth 100000 in
theorem gX7_fix_X7_isNode : GoodIn wsX7_fix (wsV RX7 101 RX7 yX7_isNode wsX7_isNode) := goodIn_app (goodIn_of _ (by decide +kernel)) ggX7_fix_X7_isNode
theorem dX7_fix_0 : decode cX7_fix 0 = .ok (.aload_n 0, 1) := by decide +kernel
theorem dX7_fix_1 : decode cX7_fix 1 = .ok (.iload_n 1, 1) := by decide +kernel
theorem dX7_fix_2 : decode cX7_fix 2 = .ok (.invokevirtual 101, 3) := by decide +kernel
theorem dX7_fix_5 : decode cX7_fix 5 = .ok (.ifCond .ne 5, 3) := by decide +kernel
theorem dX7_fix_8 : decode cX7_fix 8 = .ok (.iconst 0, 1) := by decide +kernel
theorem dX7_fix_9 : decode cX7_fix 9 = .ok (.ireturn, 1) := by decide +kernel
theorem dX7_fix_10 : decode cX7_fix 10 = .ok (.aload_n 0, 1) := by decide +kernel
theorem dX7_fix_11 : decode cX7_fix 11 = .ok (.getfield 25, 3) := by decide +kernel
theorem dX7_fix_14 : decode cX7_fix 14 = .ok (.iload_n 1, 1) := by decide +kernel
theorem dX7_fix_15 : decode cX7_fix 15 = .ok (.iconst 1, 1) := by decide +kernel
theorem dX7_fix_16 : decode cX7_fix 16 = .ok (.bastore, 1) := by decide +kernel
theorem dX7_fix_17 : decode cX7_fix 17 = .ok (.iconst 1, 1) := by decide +kernel
theorem dX7_fix_18 : decode cX7_fix 18 = .ok (.ireturn, 1) := by decide +kernel
set_option maxRecDepth 100000 in
theorem ggX7_floats_X7_isNode : GoodIn wsX7_floats wsX7_isNode := goodIn_r _ [8, 9, 13, 14, 15, 16, 17, 18, 19, 20, 21, 22, 23, 24, 25, 26, 27, 28, 29, 30, 31, 32, 33, 34, 35, 36, 37, 38, 39, 40, 41, 42, 43] rfl (by decide +kernel)
set_option maxRecDepth 100000 in
theorem gX7_floats_X7_isNode : GoodIn wsX7_floats (wsV RX7 101 RX7 yX7_isNode wsX7_isNode) := goodIn_app (goodIn_of _ (by decide +kernel)) ggX7_floats_X7_isNode
set_option maxRecDepth 100000 in
theorem ggX7_floats_X7_isIn : GoodIn wsX7_floats wsX7_isIn := goodIn_r _ [12] rfl (by decide +kernel)
set_option maxRecDepth 100000 in
theorem gX7_floats_X7_isIn : GoodIn wsX7_floats (va_wsS RX7 97 yX7_isIn wsX7_isIn) := goodIn_app (goodIn_of _ (by decide +kernel)) ggX7_floats_X7_isIn
theorem dX7_floats_0 : decode cX7_floats 0 = .ok (.aload_n 0, 1) := by decide +kernel
theorem dX7_floats_1 : decode cX7_floats 1 = .ok (.iload_n 1, 1) := by decide +kernel
theorem dX7_floats_2 : decode cX7_floats 2 = .ok (.invokevirtual 101, 3) := by decide +kernel
theorem dX7_floats_5 : decode cX7_floats 5 = .ok (.ifCond .eq 16, 3) := by decide +kernel
theorem dX7_floats_8 : decode cX7_floats 8 = .ok (.dload_n 2, 1) := by decide +kernel
theorem dX7_floats_9 : decode cX7_floats 9 = .ok (.ldc2_w 114, 3) := by decide +kernel
theorem dX7_floats_12 : decode cX7_floats 12 = .ok (.ldc2_w 116, 3) := by decide +kernel
theorem dX7_floats_15 : decode cX7_floats 15 = .ok (.invokestatic 97, 3) := by decide +kernel
theorem dX7_floats_18 : decode cX7_floats 18 = .ok (.ifCond .ne 5, 3) := by decide +kernel
theorem dX7_floats_21 : decode cX7_floats 21 = .ok (.iconst 0, 1) := by decide +kernel
theorem dX7_floats_22 : decode cX7_floats 22 = .ok (.ireturn, 1) := by decide +kernel
theorem dX7_floats_23 : decode cX7_floats 23 = .ok (.aload_n 0, 1) := by decide +kernel
theorem dX7_floats_24 : decode cX7_floats 24 = .ok (.getfield 19, 3) := by decide +kernel
theorem dX7_floats_27 : decode cX7_floats 27 = .ok (.iload_n 1, 1) := by decide +kernel
theorem dX7_floats_28 : decode cX7_floats 28 = .ok (.dload_n 2, 1) := by decide +kernel
theorem dX7_floats_29 : decode cX7_floats 29 = .ok (.dastore, 1) := by decide +kernel
theorem dX7_floats_30 : decode cX7_floats 30 = .ok (.iconst 1, 1) := by decide +kernel
theorem dX7_floats_31 : decode cX7_floats 31 = .ok (.ireturn, 1) := by decide +kernel
set_option maxRecDepth 100000 in
theorem ggX7_catchAt_X7_isNode : GoodIn wsX7_catchAt wsX7_isNode := goodIn_r _ [7, 8, 12, 13, 14, 15, 16, 17, 18, 19, 20, 21, 22, 23, 24, 25, 26, 27, 28, 29, 30, 31, 32, 33, 34, 35, 36, 37, 38, 39, 40, 41, 42] rfl (by decide +kernel)
set_option maxRecDepth 100000 in
theorem gX7_catchAt_X7_isNode : GoodIn wsX7_catchAt (wsV RX7 101 RX7 yX7_isNode wsX7_isNode) := goodIn_app (goodIn_of _ (by decide +kernel)) ggX7_catchAt_X7_isNode
set_option maxRecDepth 100000 in
theorem ggX7_catchAt_X7_isIn : GoodIn wsX7_catchAt wsX7_isIn := goodIn_r _ [11] rfl (by decide +kernel)
set_option maxRecDepth 100000 in
theorem gX7_catchAt_X7_isIn : GoodIn wsX7_catchAt (va_wsS RX7 97 yX7_isIn wsX7_isIn) := goodIn_app (goodIn_of _ (by decide +kernel)) ggX7_catchAt_X7_isIn
theorem dX7_catchAt_0 : decode cX7_catchAt 0 = .ok (.aload_n 0, 1) := by decide +kernel
theorem dX7_catchAt_1 : decode cX7_catchAt 1 = .ok (.iload_n 1, 1) := by decide +kernel
theorem dX7_catchAt_2 : decode cX7_catchAt 2 = .ok (.invokevirtual 101, 3) := by decide +kernel
theorem dX7_catchAt_5 : decode cX7_catchAt 5 = .ok (.ifCond .eq 14, 3) := by decide +kernel
theorem dX7_catchAt_8 : decode cX7_catchAt 8 = .ok (.dload_n 2, 1) := by decide +kernel
theorem dX7_catchAt_9 : decode cX7_catchAt 9 = .ok (.dconst 0, 1) := by decide +kernel
theorem dX7_catchAt_10 : decode cX7_catchAt 10 = .ok (.ldc2_w 116, 3) := by decide +kernel
theorem dX7_catchAt_13 : decode cX7_catchAt 13 = .ok (.invokestatic 97, 3) := by decide +kernel
theorem dX7_catchAt_16 : decode cX7_catchAt 16 = .ok (.ifCond .ne 5, 3) := by decide +kernel
theorem dX7_catchAt_19 : decode cX7_catchAt 19 = .ok (.iconst 0, 1) := by decide +kernel
theorem dX7_catchAt_20 : decode cX7_catchAt 20 = .ok (.ireturn, 1) := by decide +kernel
theorem dX7_catchAt_21 : decode cX7_catchAt 21 = .ok (.aload_n 0, 1) := by decide +kernel
theorem dX7_catchAt_22 : decode cX7_catchAt 22 = .ok (.getfield 22, 3) := by decide +kernel
theorem dX7_catchAt_25 : decode cX7_catchAt 25 = .ok (.iload_n 1, 1) := by decide +kernel
theorem dX7_catchAt_26 : decode cX7_catchAt 26 = .ok (.dload_n 2, 1) := by decide +kernel
theorem dX7_catchAt_27 : decode cX7_catchAt 27 = .ok (.dastore, 1) := by decide +kernel
theorem dX7_catchAt_28 : decode cX7_catchAt 28 = .ok (.iconst 1, 1) := by decide +kernel
theorem dX7_catchAt_29 : decode cX7_catchAt 29 = .ok (.ireturn, 1) := by decide +kernel
set_option maxRecDepth 100000 in
theorem ggX7_foul_X7_isIn : GoodIn wsX7_foul wsX7_isIn := goodIn_r _ [6] rfl (by decide +kernel)
set_option maxRecDepth 100000 in
theorem gX7_foul_X7_isIn : GoodIn wsX7_foul (va_wsS RX7 97 yX7_isIn wsX7_isIn) := goodIn_app (goodIn_of _ (by decide +kernel)) ggX7_foul_X7_isIn
theorem dX7_foul_0 : decode cX7_foul 0 = .ok (.dload_n 1, 1) := by decide +kernel
theorem dX7_foul_1 : decode cX7_foul 1 = .ok (.dconst 0, 1) := by decide +kernel
theorem dX7_foul_2 : decode cX7_foul 2 = .ok (.ldc2_w 118, 3) := by decide +kernel
theorem dX7_foul_5 : decode cX7_foul 5 = .ok (.invokestatic 97, 3) := by decide +kernel
theorem dX7_foul_8 : decode cX7_foul 8 = .ok (.ifCond .ne 5, 3) := by decide +kernel
theorem dX7_foul_11 : decode cX7_foul 11 = .ok (.iconst 0, 1) := by decide +kernel
theorem dX7_foul_12 : decode cX7_foul 12 = .ok (.ireturn, 1) := by decide +kernel
theorem dX7_foul_13 : decode cX7_foul 13 = .ok (.aload_n 0, 1) := by decide +kernel
theorem dX7_foul_14 : decode cX7_foul 14 = .ok (.dload_n 1, 1) := by decide +kernel
theorem dX7_foul_15 : decode cX7_foul 15 = .ok (.putfield 120, 3) := by decide +kernel
theorem dX7_foul_18 : decode cX7_foul 18 = .ok (.iconst 1, 1) := by decide +kernel
theorem dX7_foul_19 : decode cX7_foul 19 = .ok (.ireturn, 1) := by decide +kernel
set_option maxRecDepth 100000 in
theorem ggX7_wave_X7_isIn : GoodIn wsX7_wave wsX7_isIn := goodIn_r _ [9] rfl (by decide +kernel)
set_option maxRecDepth 100000 in
theorem gX7_wave_X7_isIn : GoodIn wsX7_wave (va_wsS RX7 97 yX7_isIn wsX7_isIn) := goodIn_app (goodIn_of _ (by decide +kernel)) ggX7_wave_X7_isIn
theorem dX7_wave_0 : decode cX7_wave 0 = .ok (.dload_n 1, 1) := by decide +kernel
theorem dX7_wave_1 : decode cX7_wave 1 = .ok (.dconst 0, 1) := by decide +kernel
theorem dX7_wave_2 : decode cX7_wave 2 = .ok (.ldc2_w 123, 3) := by decide +kernel
theorem dX7_wave_5 : decode cX7_wave 5 = .ok (.invokestatic 97, 3) := by decide +kernel
theorem dX7_wave_8 : decode cX7_wave 8 = .ok (.ifCond .eq 26, 3) := by decide +kernel
theorem dX7_wave_11 : decode cX7_wave 11 = .ok (.dload_n 3, 1) := by decide +kernel
theorem dX7_wave_12 : decode cX7_wave 12 = .ok (.dconst 1, 1) := by decide +kernel
theorem dX7_wave_13 : decode cX7_wave 13 = .ok (.ldc2_w 125, 3) := by decide +kernel
theorem dX7_wave_16 : decode cX7_wave 16 = .ok (.invokestatic 97, 3) := by decide +kernel
theorem dX7_wave_19 : decode cX7_wave 19 = .ok (.ifCond .eq 15, 3) := by decide +kernel
theorem dX7_wave_22 : decode cX7_wave 22 = .ok (.iload 5, 2) := by decide +kernel
theorem dX7_wave_24 : decode cX7_wave 24 = .ok (.ifCond .lt 10, 3) := by decide +kernel
theorem dX7_wave_27 : decode cX7_wave 27 = .ok (.iload 5, 2) := by decide +kernel
theorem dX7_wave_29 : decode cX7_wave 29 = .ok (.bipush 100, 2) := by decide +kernel
theorem dX7_wave_31 : decode cX7_wave 31 = .ok (.if_icmp .le 5, 3) := by decide +kernel
theorem dX7_wave_34 : decode cX7_wave 34 = .ok (.iconst (-1), 1) := by decide +kernel
theorem dX7_wave_35 : decode cX7_wave 35 = .ok (.ireturn, 1) := by decide +kernel
theorem dX7_wave_36 : decode cX7_wave 36 = .ok (.aload_n 0, 1) := by decide +kernel
theorem dX7_wave_37 : decode cX7_wave 37 = .ok (.dload_n 1, 1) := by decide +kernel
theorem dX7_wave_38 : decode cX7_wave 38 = .ok (.dload_n 3, 1) := by decide +kernel
theorem dX7_wave_39 : decode cX7_wave 39 = .ok (.dconst 1, 1) := by decide +kernel
theorem dX7_wave_40 : decode cX7_wave 40 = .ok (.dadd, 1) := by decide +kernel
theorem dX7_wave_41 : decode cX7_wave 41 = .ok (.ddiv, 1) := by decide +kernel
theorem dX7_wave_42 : decode cX7_wave 42 = .ok (.iload 5, 2) := by decide +kernel
theorem dX7_wave_44 : decode cX7_wave 44 = .ok (.i2d, 1) := by decide +kernel
theorem dX7_wave_45 : decode cX7_wave 45 = .ok (.dmul, 1) := by decide +kernel
theorem dX7_wave_46 : decode cX7_wave 46 = .ok (.ldc2_w 127, 3) := by decide +kernel
theorem dX7_wave_49 : decode cX7_wave 49 = .ok (.ddiv, 1) := by decide +kernel
theorem dX7_wave_50 : decode cX7_wave 50 = .ok (.putfield 129, 3) := by decide +kernel
theorem dX7_wave_53 : decode cX7_wave 53 = .ok (.aload_n 0, 1) := by decide +kernel
theorem dX7_wave_54 : decode cX7_wave 54 = .ok (.getfield 132, 3) := by decide +kernel
theorem dX7_wave_57 : decode cX7_wave 57 = .ok (.ireturn, 1) := by decide +kernel
set_option maxRecDepth 100000 in
theorem ggX7_current_X7_isIn : GoodIn wsX7_current wsX7_isIn := goodIn_r _ [14] rfl (by decide +kernel)
set_option maxRecDepth 100000 in
theorem gX7_current_X7_isIn : GoodIn wsX7_current (va_wsS RX7 97 yX7_isIn wsX7_isIn) := goodIn_app (goodIn_of _ (by decide +kernel)) ggX7_current_X7_isIn
theorem dX7_current_0 : decode cX7_current 0 = .ok (.dload 5, 2) := by decide +kernel
theorem dX7_current_2 : decode cX7_current 2 = .ok (.ldc2_w 135, 3) := by decide +kernel
theorem dX7_current_5 : decode cX7_current 5 = .ok (.ddiv, 1) := by decide +kernel
theorem dX7_current_6 : decode cX7_current 6 = .ok (.d2i, 1) := by decide +kernel
theorem dX7_current_7 : decode cX7_current 7 = .ok (.istore 7, 2) := by decide +kernel
theorem dX7_current_9 : decode cX7_current 9 = .ok (.dload_n 1, 1) := by decide +kernel
theorem dX7_current_10 : decode cX7_current 10 = .ok (.ldc2_w 93, 3) := by decide +kernel
theorem dX7_current_13 : decode cX7_current 13 = .ok (.ldc2_w 95, 3) := by decide +kernel
theorem dX7_current_16 : decode cX7_current 16 = .ok (.invokestatic 97, 3) := by decide +kernel
theorem dX7_current_19 : decode cX7_current 19 = .ok (.ifCond .eq 39, 3) := by decide +kernel
theorem dX7_current_22 : decode cX7_current 22 = .ok (.dload_n 3, 1) := by decide +kernel
theorem dX7_current_23 : decode cX7_current 23 = .ok (.dconst 0, 1) := by decide +kernel
theorem dX7_current_24 : decode cX7_current 24 = .ok (.ldc2_w 110, 3) := by decide +kernel
theorem dX7_current_27 : decode cX7_current 27 = .ok (.invokestatic 97, 3) := by decide +kernel
theorem dX7_current_30 : decode cX7_current 30 = .ok (.ifCond .eq 28, 3) := by decide +kernel
theorem dX7_current_33 : decode cX7_current 33 = .ok (.dload 5, 2) := by decide +kernel
theorem dX7_current_35 : decode cX7_current 35 = .ok (.dconst 0, 1) := by decide +kernel
theorem dX7_current_36 : decode cX7_current 36 = .ok (.ldc2_w 137, 3) := by decide +kernel
theorem dX7_current_39 : decode cX7_current 39 = .ok (.invokestatic 97, 3) := by decide +kernel
theorem dX7_current_42 : decode cX7_current 42 = .ok (.ifCond .eq 16, 3) := by decide +kernel
theorem dX7_current_45 : decode cX7_current 45 = .ok (.iload 7, 2) := by decide +kernel
theorem dX7_current_47 : decode cX7_current 47 = .ok (.i2d, 1) := by decide +kernel
theorem dX7_current_48 : decode cX7_current 48 = .ok (.ldc2_w 135, 3) := by decide +kernel
theorem dX7_current_51 : decode cX7_current 51 = .ok (.dmul, 1) := by decide +kernel
theorem dX7_current_52 : decode cX7_current 52 = .ok (.dload 5, 2) := by decide +kernel
theorem dX7_current_54 : decode cX7_current 54 = .ok (.dcmp .l, 1) := by decide +kernel
theorem dX7_current_55 : decode cX7_current 55 = .ok (.ifCond .eq 5, 3) := by decide +kernel
theorem dX7_current_58 : decode cX7_current 58 = .ok (.iconst 0, 1) := by decide +kernel
theorem dX7_current_59 : decode cX7_current 59 = .ok (.ireturn, 1) := by decide +kernel
theorem dX7_current_60 : decode cX7_current 60 = .ok (.iconst 0, 1) := by decide +kernel
theorem dX7_current_61 : decode cX7_current 61 = .ok (.istore 8, 2) := by decide +kernel
theorem dX7_current_63 : decode cX7_current 63 = .ok (.iload 8, 2) := by decide +kernel
theorem dX7_current_65 : decode cX7_current 65 = .ok (.aload_n 0, 1) := by decide +kernel
theorem dX7_current_66 : decode cX7_current 66 = .ok (.getfield 132, 3) := by decide +kernel
theorem dX7_current_69 : decode cX7_current 69 = .ok (.if_icmp .ge 21, 3) := by decide +kernel
theorem dX7_current_72 : decode cX7_current 72 = .ok (.aload_n 0, 1) := by decide +kernel
theorem dX7_current_73 : decode cX7_current 73 = .ok (.getfield 57, 3) := by decide +kernel
theorem dX7_current_76 : decode cX7_current 76 = .ok (.iload 8, 2) := by decide +kernel
theorem dX7_current_78 : decode cX7_current 78 = .ok (.daload, 1) := by decide +kernel
theorem dX7_current_79 : decode cX7_current 79 = .ok (.dload_n 1, 1) := by decide +kernel
theorem dX7_current_80 : decode cX7_current 80 = .ok (.dcmp .g, 1) := by decide +kernel
theorem dX7_current_81 : decode cX7_current 81 = .ok (.ifCond .ge 9, 3) := by decide +kernel
theorem dX7_current_84 : decode cX7_current 84 = .ok (.iinc 8 1, 3) := by decide +kernel
theorem dX7_current_87 : decode cX7_current 87 = .ok (.goto (-24), 3) := by decide +kernel
theorem dX7_current_90 : decode cX7_current 90 = .ok (.iload 8, 2) := by decide +kernel
theorem dX7_current_92 : decode cX7_current 92 = .ok (.aload_n 0, 1) := by decide +kernel
theorem dX7_current_93 : decode cX7_current 93 = .ok (.getfield 132, 3) := by decide +kernel
theorem dX7_current_96 : decode cX7_current 96 = .ok (.if_icmp .eq 15, 3) := by decide +kernel
theorem dX7_current_99 : decode cX7_current 99 = .ok (.aload_n 0, 1) := by decide +kernel
theorem dX7_current_100 : decode cX7_current 100 = .ok (.getfield 57, 3) := by decide +kernel
theorem dX7_current_103 : decode cX7_current 103 = .ok (.iload 8, 2) := by decide +kernel
theorem dX7_current_105 : decode cX7_current 105 = .ok (.daload, 1) := by decide +kernel
theorem dX7_current_106 : decode cX7_current 106 = .ok (.dload_n 1, 1) := by decide +kernel
theorem dX7_current_107 : decode cX7_current 107 = .ok (.dcmp .l, 1) := by decide +kernel
theorem dX7_current_108 : decode cX7_current 108 = .ok (.ifCond .eq 91, 3) := by decide +kernel
theorem dX7_current_111 : decode cX7_current 111 = .ok (.aload_n 0, 1) := by decide +kernel
theorem dX7_current_112 : decode cX7_current 112 = .ok (.getfield 132, 3) := by decide +kernel
theorem dX7_current_115 : decode cX7_current 115 = .ok (.bipush 10, 2) := by decide +kernel
theorem dX7_current_117 : decode cX7_current 117 = .ok (.if_icmp .ne 5, 3) := by decide +kernel
theorem dX7_current_120 : decode cX7_current 120 = .ok (.iconst 0, 1) := by decide +kernel
theorem dX7_current_121 : decode cX7_current 121 = .ok (.ireturn, 1) := by decide +kernel
theorem dX7_current_122 : decode cX7_current 122 = .ok (.aload_n 0, 1) := by decide +kernel
theorem dX7_current_123 : decode cX7_current 123 = .ok (.getfield 132, 3) := by decide +kernel
theorem dX7_current_126 : decode cX7_current 126 = .ok (.istore 9, 2) := by decide +kernel
theorem dX7_current_128 : decode cX7_current 128 = .ok (.iload 9, 2) := by decide +kernel
theorem dX7_current_130 : decode cX7_current 130 = .ok (.iload 8, 2) := by decide +kernel
theorem dX7_current_132 : decode cX7_current 132 = .ok (.if_icmp .le 57, 3) := by decide +kernel
theorem dX7_current_135 : decode cX7_current 135 = .ok (.aload_n 0, 1) := by decide +kernel
theorem dX7_current_136 : decode cX7_current 136 = .ok (.getfield 57, 3) := by decide +kernel
theorem dX7_current_139 : decode cX7_current 139 = .ok (.iload 9, 2) := by decide +kernel
theorem dX7_current_141 : decode cX7_current 141 = .ok (.aload_n 0, 1) := by decide +kernel
theorem dX7_current_142 : decode cX7_current 142 = .ok (.getfield 57, 3) := by decide +kernel
theorem dX7_current_145 : decode cX7_current 145 = .ok (.iload 9, 2) := by decide +kernel
theorem dX7_current_147 : decode cX7_current 147 = .ok (.iconst 1, 1) := by decide +kernel
theorem dX7_current_148 : decode cX7_current 148 = .ok (.isub, 1) := by decide +kernel
theorem dX7_current_149 : decode cX7_current 149 = .ok (.daload, 1) := by decide +kernel
theorem dX7_current_150 : decode cX7_current 150 = .ok (.dastore, 1) := by decide +kernel
theorem dX7_current_151 : decode cX7_current 151 = .ok (.aload_n 0, 1) := by decide +kernel
theorem dX7_current_152 : decode cX7_current 152 = .ok (.getfield 60, 3) := by decide +kernel
theorem dX7_current_155 : decode cX7_current 155 = .ok (.iload 9, 2) := by decide +kernel
theorem dX7_current_157 : decode cX7_current 157 = .ok (.aload_n 0, 1) := by decide +kernel
theorem dX7_current_158 : decode cX7_current 158 = .ok (.getfield 60, 3) := by decide +kernel
theorem dX7_current_161 : decode cX7_current 161 = .ok (.iload 9, 2) := by decide +kernel
theorem dX7_current_163 : decode cX7_current 163 = .ok (.iconst 1, 1) := by decide +kernel
theorem dX7_current_164 : decode cX7_current 164 = .ok (.isub, 1) := by decide +kernel
theorem dX7_current_165 : decode cX7_current 165 = .ok (.daload, 1) := by decide +kernel
theorem dX7_current_166 : decode cX7_current 166 = .ok (.dastore, 1) := by decide +kernel
theorem dX7_current_167 : decode cX7_current 167 = .ok (.aload_n 0, 1) := by decide +kernel
theorem dX7_current_168 : decode cX7_current 168 = .ok (.getfield 63, 3) := by decide +kernel
theorem dX7_current_171 : decode cX7_current 171 = .ok (.iload 9, 2) := by decide +kernel
theorem dX7_current_173 : decode cX7_current 173 = .ok (.aload_n 0, 1) := by decide +kernel
theorem dX7_current_174 : decode cX7_current 174 = .ok (.getfield 63, 3) := by decide +kernel
theorem dX7_current_177 : decode cX7_current 177 = .ok (.iload 9, 2) := by decide +kernel
theorem dX7_current_179 : decode cX7_current 179 = .ok (.iconst 1, 1) := by decide +kernel
theorem dX7_current_180 : decode cX7_current 180 = .ok (.isub, 1) := by decide +kernel
theorem dX7_current_181 : decode cX7_current 181 = .ok (.daload, 1) := by decide +kernel
theorem dX7_current_182 : decode cX7_current 182 = .ok (.dastore, 1) := by decide +kernel
theorem dX7_current_183 : decode cX7_current 183 = .ok (.iinc 9 (-1), 3) := by decide +kernel
theorem dX7_current_186 : decode cX7_current 186 = .ok (.goto (-58), 3) := by decide +kernel
theorem dX7_current_189 : decode cX7_current 189 = .ok (.aload_n 0, 1) := by decide +kernel
theorem dX7_current_190 : decode cX7_current 190 = .ok (.dup, 1) := by decide +kernel
theorem dX7_current_191 : decode cX7_current 191 = .ok (.getfield 132, 3) := by decide +kernel
theorem dX7_current_194 : decode cX7_current 194 = .ok (.iconst 1, 1) := by decide +kernel
theorem dX7_current_195 : decode cX7_current 195 = .ok (.iadd, 1) := by decide +kernel
theorem dX7_current_196 : decode cX7_current 196 = .ok (.putfield 132, 3) := by decide +kernel
theorem dX7_current_199 : decode cX7_current 199 = .ok (.dload_n 3, 1) := by decide +kernel
theorem dX7_current_200 : decode cX7_current 200 = .ok (.ldc2_w 139, 3) := by decide +kernel
theorem dX7_current_203 : decode cX7_current 203 = .ok (.dmul, 1) := by decide +kernel
theorem dX7_current_204 : decode cX7_current 204 = .ok (.dstore 9, 2) := by decide +kernel
theorem dX7_current_206 : decode cX7_current 206 = .ok (.aload_n 0, 1) := by decide +kernel
theorem dX7_current_207 : decode cX7_current 207 = .ok (.getfield 57, 3) := by decide +kernel
theorem dX7_current_210 : decode cX7_current 210 = .ok (.iload 8, 2) := by decide +kernel
theorem dX7_current_212 : decode cX7_current 212 = .ok (.dload_n 1, 1) := by decide +kernel
theorem dX7_current_213 : decode cX7_current 213 = .ok (.dastore, 1) := by decide +kernel
theorem dX7_current_214 : decode cX7_current 214 = .ok (.aload_n 0, 1) := by decide +kernel
theorem dX7_current_215 : decode cX7_current 215 = .ok (.getfield 60, 3) := by decide +kernel
theorem dX7_current_218 : decode cX7_current 218 = .ok (.iload 8, 2) := by decide +kernel
theorem dX7_current_220 : decode cX7_current 220 = .ok (.iload 7, 2) := by decide +kernel
theorem dX7_current_222 : decode cX7_current 222 = .ok (.ifCond .ne 7, 3) := by decide +kernel
theorem dX7_current_225 : decode cX7_current 225 = .ok (.dload_n 3, 1) := by decide +kernel
theorem dX7_current_226 : decode cX7_current 226 = .ok (.goto 54, 3) := by decide +kernel
theorem dX7_current_229 : decode cX7_current 229 = .ok (.iload 7, 2) := by decide +kernel
theorem dX7_current_231 : decode cX7_current 231 = .ok (.iconst 1, 1) := by decide +kernel
theorem dX7_current_232 : decode cX7_current 232 = .ok (.if_icmp .eq 10, 3) := by decide +kernel
theorem dX7_current_235 : decode cX7_current 235 = .ok (.iload 7, 2) := by decide +kernel
theorem dX7_current_237 : decode cX7_current 237 = .ok (.bipush 7, 2) := by decide +kernel
theorem dX7_current_239 : decode cX7_current 239 = .ok (.if_icmp .ne 8, 3) := by decide +kernel
theorem dX7_current_242 : decode cX7_current 242 = .ok (.dload 9, 2) := by decide +kernel
theorem dX7_current_244 : decode cX7_current 244 = .ok (.goto 36, 3) := by decide +kernel
theorem dX7_current_247 : decode cX7_current 247 = .ok (.iload 7, 2) := by decide +kernel
theorem dX7_current_249 : decode cX7_current 249 = .ok (.iconst 2, 1) := by decide +kernel
theorem dX7_current_250 : decode cX7_current 250 = .ok (.if_icmp .eq 10, 3) := by decide +kernel
theorem dX7_current_253 : decode cX7_current 253 = .ok (.iload 7, 2) := by decide +kernel
theorem dX7_current_255 : decode cX7_current 255 = .ok (.bipush 6, 2) := by decide +kernel
theorem dX7_current_257 : decode cX7_current 257 = .ok (.if_icmp .ne 7, 3) := by decide +kernel
theorem dX7_current_260 : decode cX7_current 260 = .ok (.dconst 0, 1) := by decide +kernel
theorem dX7_current_261 : decode cX7_current 261 = .ok (.goto 19, 3) := by decide +kernel
theorem dX7_current_264 : decode cX7_current 264 = .ok (.iload 7, 2) := by decide +kernel
theorem dX7_current_266 : decode cX7_current 266 = .ok (.iconst 4, 1) := by decide +kernel
theorem dX7_current_267 : decode cX7_current 267 = .ok (.if_icmp .ne 9, 3) := by decide +kernel
theorem dX7_current_270 : decode cX7_current 270 = .ok (.dconst 0, 1) := by decide +kernel
theorem dX7_current_271 : decode cX7_current 271 = .ok (.dload_n 3, 1) := by decide +kernel
theorem dX7_current_272 : decode cX7_current 272 = .ok (.dsub, 1) := by decide +kernel
theorem dX7_current_273 : decode cX7_current 273 = .ok (.goto 7, 3) := by decide +kernel
theorem dX7_current_276 : decode cX7_current 276 = .ok (.dconst 0, 1) := by decide +kernel
theorem dX7_current_277 : decode cX7_current 277 = .ok (.dload 9, 2) := by decide +kernel
theorem dX7_current_279 : decode cX7_current 279 = .ok (.dsub, 1) := by decide +kernel
theorem dX7_current_280 : decode cX7_current 280 = .ok (.dastore, 1) := by decide +kernel
theorem dX7_current_281 : decode cX7_current 281 = .ok (.aload_n 0, 1) := by decide +kernel
theorem dX7_current_282 : decode cX7_current 282 = .ok (.getfield 63, 3) := by decide +kernel
theorem dX7_current_285 : decode cX7_current 285 = .ok (.iload 8, 2) := by decide +kernel
theorem dX7_current_287 : decode cX7_current 287 = .ok (.iload 7, 2) := by decide +kernel
theorem dX7_current_289 : decode cX7_current 289 = .ok (.iconst 2, 1) := by decide +kernel
theorem dX7_current_290 : decode cX7_current 290 = .ok (.if_icmp .ne 7, 3) := by decide +kernel
theorem dX7_current_293 : decode cX7_current 293 = .ok (.dload_n 3, 1) := by decide +kernel
theorem dX7_current_294 : decode cX7_current 294 = .ok (.goto 52, 3) := by decide +kernel
theorem dX7_current_297 : decode cX7_current 297 = .ok (.iload 7, 2) := by decide +kernel
theorem dX7_current_299 : decode cX7_current 299 = .ok (.iconst 1, 1) := by decide +kernel
theorem dX7_current_300 : decode cX7_current 300 = .ok (.if_icmp .eq 9, 3) := by decide +kernel
theorem dX7_current_303 : decode cX7_current 303 = .ok (.iload 7, 2) := by decide +kernel
theorem dX7_current_305 : decode cX7_current 305 = .ok (.iconst 3, 1) := by decide +kernel
theorem dX7_current_306 : decode cX7_current 306 = .ok (.if_icmp .ne 8, 3) := by decide +kernel
theorem dX7_current_309 : decode cX7_current 309 = .ok (.dload 9, 2) := by decide +kernel
theorem dX7_current_311 : decode cX7_current 311 = .ok (.goto 35, 3) := by decide +kernel
theorem dX7_current_314 : decode cX7_current 314 = .ok (.iload 7, 2) := by decide +kernel
theorem dX7_current_316 : decode cX7_current 316 = .ok (.ifCond .eq 9, 3) := by decide +kernel
theorem dX7_current_319 : decode cX7_current 319 = .ok (.iload 7, 2) := by decide +kernel
theorem dX7_current_321 : decode cX7_current 321 = .ok (.iconst 4, 1) := by decide +kernel
theorem dX7_current_322 : decode cX7_current 322 = .ok (.if_icmp .ne 7, 3) := by decide +kernel
theorem dX7_current_325 : decode cX7_current 325 = .ok (.dconst 0, 1) := by decide +kernel
theorem dX7_current_326 : decode cX7_current 326 = .ok (.goto 20, 3) := by decide +kernel
theorem dX7_current_329 : decode cX7_current 329 = .ok (.iload 7, 2) := by decide +kernel
theorem dX7_current_331 : decode cX7_current 331 = .ok (.bipush 6, 2) := by decide +kernel
theorem dX7_current_333 : decode cX7_current 333 = .ok (.if_icmp .ne 9, 3) := by decide +kernel
theorem dX7_current_336 : decode cX7_current 336 = .ok (.dconst 0, 1) := by decide +kernel
theorem dX7_current_337 : decode cX7_current 337 = .ok (.dload_n 3, 1) := by decide +kernel
theorem dX7_current_338 : decode cX7_current 338 = .ok (.dsub, 1) := by decide +kernel
theorem dX7_current_339 : decode cX7_current 339 = .ok (.goto 7, 3) := by decide +kernel
theorem dX7_current_342 : decode cX7_current 342 = .ok (.dconst 0, 1) := by decide +kernel
theorem dX7_current_343 : decode cX7_current 343 = .ok (.dload 9, 2) := by decide +kernel
theorem dX7_current_345 : decode cX7_current 345 = .ok (.dsub, 1) := by decide +kernel
theorem dX7_current_346 : decode cX7_current 346 = .ok (.dastore, 1) := by decide +kernel
theorem dX7_current_347 : decode cX7_current 347 = .ok (.iconst 1, 1) := by decide +kernel
theorem dX7_current_348 : decode cX7_current 348 = .ok (.ireturn, 1) := by decide +kernel
theorem dX7_speed_0 : decode cX7_speed 0 = .ok (.dconst 0, 1) := by decide +kernel
theorem dX7_speed_1 : decode cX7_speed 1 = .ok (.dstore 4, 2) := by decide +kernel
theorem dX7_speed_3 : decode cX7_speed 3 = .ok (.aload_n 0, 1) := by decide +kernel
theorem dX7_speed_4 : decode cX7_speed 4 = .ok (.getfield 132, 3) := by decide +kernel
theorem dX7_speed_7 : decode cX7_speed 7 = .ok (.ifCond .le 154, 3) := by decide +kernel
theorem dX7_speed_10 : decode cX7_speed 10 = .ok (.iconst 0, 1) := by decide +kernel
theorem dX7_speed_11 : decode cX7_speed 11 = .ok (.istore 6, 2) := by decide +kernel
theorem dX7_speed_13 : decode cX7_speed 13 = .ok (.iload 6, 2) := by decide +kernel
theorem dX7_speed_15 : decode cX7_speed 15 = .ok (.iconst 1, 1) := by decide +kernel
theorem dX7_speed_16 : decode cX7_speed 16 = .ok (.iadd, 1) := by decide +kernel
theorem dX7_speed_17 : decode cX7_speed 17 = .ok (.aload_n 0, 1) := by decide +kernel
theorem dX7_speed_18 : decode cX7_speed 18 = .ok (.getfield 132, 3) := by decide +kernel
theorem dX7_speed_21 : decode cX7_speed 21 = .ok (.if_icmp .ge 23, 3) := by decide +kernel
theorem dX7_speed_24 : decode cX7_speed 24 = .ok (.aload_n 0, 1) := by decide +kernel
theorem dX7_speed_25 : decode cX7_speed 25 = .ok (.getfield 57, 3) := by decide +kernel
theorem dX7_speed_28 : decode cX7_speed 28 = .ok (.iload 6, 2) := by decide +kernel
theorem dX7_speed_30 : decode cX7_speed 30 = .ok (.iconst 1, 1) := by decide +kernel
theorem dX7_speed_31 : decode cX7_speed 31 = .ok (.iadd, 1) := by decide +kernel
theorem dX7_speed_32 : decode cX7_speed 32 = .ok (.daload, 1) := by decide +kernel
theorem dX7_speed_33 : decode cX7_speed 33 = .ok (.dload_n 1, 1) := by decide +kernel
theorem dX7_speed_34 : decode cX7_speed 34 = .ok (.dcmp .g, 1) := by decide +kernel
theorem dX7_speed_35 : decode cX7_speed 35 = .ok (.ifCond .gt 9, 3) := by decide +kernel
theorem dX7_speed_38 : decode cX7_speed 38 = .ok (.iinc 6 1, 3) := by decide +kernel
theorem dX7_speed_41 : decode cX7_speed 41 = .ok (.goto (-28), 3) := by decide +kernel
theorem dX7_speed_44 : decode cX7_speed 44 = .ok (.iload_n 3, 1) := by decide +kernel
theorem dX7_speed_45 : decode cX7_speed 45 = .ok (.ifCond .eq 13, 3) := by decide +kernel
theorem dX7_speed_48 : decode cX7_speed 48 = .ok (.aload_n 0, 1) := by decide +kernel
theorem dX7_speed_49 : decode cX7_speed 49 = .ok (.getfield 60, 3) := by decide +kernel
theorem dX7_speed_52 : decode cX7_speed 52 = .ok (.iload 6, 2) := by decide +kernel
theorem dX7_speed_54 : decode cX7_speed 54 = .ok (.daload, 1) := by decide +kernel
theorem dX7_speed_55 : decode cX7_speed 55 = .ok (.goto 10, 3) := by decide +kernel
theorem dX7_speed_58 : decode cX7_speed 58 = .ok (.aload_n 0, 1) := by decide +kernel
theorem dX7_speed_59 : decode cX7_speed 59 = .ok (.getfield 63, 3) := by decide +kernel
theorem dX7_speed_62 : decode cX7_speed 62 = .ok (.iload 6, 2) := by decide +kernel
theorem dX7_speed_64 : decode cX7_speed 64 = .ok (.daload, 1) := by decide +kernel
theorem dX7_speed_65 : decode cX7_speed 65 = .ok (.dstore 7, 2) := by decide +kernel
theorem dX7_speed_67 : decode cX7_speed 67 = .ok (.dload_n 1, 1) := by decide +kernel
theorem dX7_speed_68 : decode cX7_speed 68 = .ok (.aload_n 0, 1) := by decide +kernel
theorem dX7_speed_69 : decode cX7_speed 69 = .ok (.getfield 57, 3) := by decide +kernel
theorem dX7_speed_72 : decode cX7_speed 72 = .ok (.iconst 0, 1) := by decide +kernel
theorem dX7_speed_73 : decode cX7_speed 73 = .ok (.daload, 1) := by decide +kernel
theorem dX7_speed_74 : decode cX7_speed 74 = .ok (.dcmp .g, 1) := by decide +kernel
theorem dX7_speed_75 : decode cX7_speed 75 = .ok (.ifCond .lt 14, 3) := by decide +kernel
theorem dX7_speed_78 : decode cX7_speed 78 = .ok (.iload 6, 2) := by decide +kernel
theorem dX7_speed_80 : decode cX7_speed 80 = .ok (.iconst 1, 1) := by decide +kernel
theorem dX7_speed_81 : decode cX7_speed 81 = .ok (.iadd, 1) := by decide +kernel
theorem dX7_speed_82 : decode cX7_speed 82 = .ok (.aload_n 0, 1) := by decide +kernel
theorem dX7_speed_83 : decode cX7_speed 83 = .ok (.getfield 132, 3) := by decide +kernel
theorem dX7_speed_86 : decode cX7_speed 86 = .ok (.if_icmp .ne 10, 3) := by decide +kernel
theorem dX7_speed_89 : decode cX7_speed 89 = .ok (.dload 7, 2) := by decide +kernel
theorem dX7_speed_91 : decode cX7_speed 91 = .ok (.dstore 4, 2) := by decide +kernel
theorem dX7_speed_93 : decode cX7_speed 93 = .ok (.goto 68, 3) := by decide +kernel
theorem dX7_speed_96 : decode cX7_speed 96 = .ok (.iload_n 3, 1) := by decide +kernel
theorem dX7_speed_97 : decode cX7_speed 97 = .ok (.ifCond .eq 15, 3) := by decide +kernel
theorem dX7_speed_100 : decode cX7_speed 100 = .ok (.aload_n 0, 1) := by decide +kernel
theorem dX7_speed_101 : decode cX7_speed 101 = .ok (.getfield 60, 3) := by decide +kernel
theorem dX7_speed_104 : decode cX7_speed 104 = .ok (.iload 6, 2) := by decide +kernel
theorem dX7_speed_106 : decode cX7_speed 106 = .ok (.iconst 1, 1) := by decide +kernel
theorem dX7_speed_107 : decode cX7_speed 107 = .ok (.iadd, 1) := by decide +kernel
theorem dX7_speed_108 : decode cX7_speed 108 = .ok (.daload, 1) := by decide +kernel
theorem dX7_speed_109 : decode cX7_speed 109 = .ok (.goto 12, 3) := by decide +kernel
theorem dX7_speed_112 : decode cX7_speed 112 = .ok (.aload_n 0, 1) := by decide +kernel
theorem dX7_speed_113 : decode cX7_speed 113 = .ok (.getfield 63, 3) := by decide +kernel
theorem dX7_speed_116 : decode cX7_speed 116 = .ok (.iload 6, 2) := by decide +kernel
theorem dX7_speed_118 : decode cX7_speed 118 = .ok (.iconst 1, 1) := by decide +kernel
theorem dX7_speed_119 : decode cX7_speed 119 = .ok (.iadd, 1) := by decide +kernel
theorem dX7_speed_120 : decode cX7_speed 120 = .ok (.daload, 1) := by decide +kernel
theorem dX7_speed_121 : decode cX7_speed 121 = .ok (.dstore 9, 2) := by decide +kernel
theorem dX7_speed_123 : decode cX7_speed 123 = .ok (.dload 7, 2) := by decide +kernel
theorem dX7_speed_125 : decode cX7_speed 125 = .ok (.dload 9, 2) := by decide +kernel
theorem dX7_speed_127 : decode cX7_speed 127 = .ok (.dload 7, 2) := by decide +kernel
theorem dX7_speed_129 : decode cX7_speed 129 = .ok (.dsub, 1) := by decide +kernel
theorem dX7_speed_130 : decode cX7_speed 130 = .ok (.dload_n 1, 1) := by decide +kernel
theorem dX7_speed_131 : decode cX7_speed 131 = .ok (.aload_n 0, 1) := by decide +kernel
theorem dX7_speed_132 : decode cX7_speed 132 = .ok (.getfield 57, 3) := by decide +kernel
theorem dX7_speed_135 : decode cX7_speed 135 = .ok (.iload 6, 2) := by decide +kernel
theorem dX7_speed_137 : decode cX7_speed 137 = .ok (.daload, 1) := by decide +kernel
theorem dX7_speed_138 : decode cX7_speed 138 = .ok (.dsub, 1) := by decide +kernel
theorem dX7_speed_139 : decode cX7_speed 139 = .ok (.aload_n 0, 1) := by decide +kernel
theorem dX7_speed_140 : decode cX7_speed 140 = .ok (.getfield 57, 3) := by decide +kernel
theorem dX7_speed_143 : decode cX7_speed 143 = .ok (.iload 6, 2) := by decide +kernel
theorem dX7_speed_145 : decode cX7_speed 145 = .ok (.iconst 1, 1) := by decide +kernel
theorem dX7_speed_146 : decode cX7_speed 146 = .ok (.iadd, 1) := by decide +kernel
theorem dX7_speed_147 : decode cX7_speed 147 = .ok (.daload, 1) := by decide +kernel
theorem dX7_speed_148 : decode cX7_speed 148 = .ok (.aload_n 0, 1) := by decide +kernel
theorem dX7_speed_149 : decode cX7_speed 149 = .ok (.getfield 57, 3) := by decide +kernel
theorem dX7_speed_152 : decode cX7_speed 152 = .ok (.iload 6, 2) := by decide +kernel
theorem dX7_speed_154 : decode cX7_speed 154 = .ok (.daload, 1) := by decide +kernel
theorem dX7_speed_155 : decode cX7_speed 155 = .ok (.dsub, 1) := by decide +kernel
theorem dX7_speed_156 : decode cX7_speed 156 = .ok (.ddiv, 1) := by decide +kernel
theorem dX7_speed_157 : decode cX7_speed 157 = .ok (.dmul, 1) := by decide +kernel
theorem dX7_speed_158 : decode cX7_speed 158 = .ok (.dadd, 1) := by decide +kernel
theorem dX7_speed_159 : decode cX7_speed 159 = .ok (.dstore 4, 2) := by decide +kernel
theorem dX7_speed_161 : decode cX7_speed 161 = .ok (.dload 4, 2) := by decide +kernel
theorem dX7_speed_163 : decode cX7_speed 163 = .ok (.dconst 1, 1) := by decide +kernel
theorem dX7_speed_164 : decode cX7_speed 164 = .ok (.aload_n 0, 1) := by decide +kernel
theorem dX7_speed_165 : decode cX7_speed 165 = .ok (.getfield 129, 3) := by decide +kernel
theorem dX7_speed_168 : decode cX7_speed 168 = .ok (.dadd, 1) := by decide +kernel
theorem dX7_speed_169 : decode cX7_speed 169 = .ok (.dmul, 1) := by decide +kernel
theorem dX7_speed_170 : decode cX7_speed 170 = .ok (.dreturn, 1) := by decide +kernel
set_option maxRecDepth 100000 in
theorem ggX7_forces_X7_root : GoodIn wsX7_forces wsX7_root := goodIn_r _ [27, 17] rfl (by decide +kernel)
set_option maxRecDepth 100000 in
theorem gX7_forces_X7_root : GoodIn wsX7_forces (va_wsS RX7 141 yX7_root wsX7_root) := goodIn_app (goodIn_of _ (by decide +kernel)) ggX7_forces_X7_root
set_option maxRecDepth 100000 in
theorem ggX7_forces_X7_speed : GoodIn wsX7_forces wsX7_speed := goodIn_r _ [31, 32, 33, 34, 35, 36, 49, 50, 51, 52, 53, 54, 55, 56, 57, 58, 59, 60, 61, 62, 63, 64, 65, 66, 67, 68, 69, 70, 71, 72, 73, 74, 75, 76, 77, 78, 79] rfl (by decide +kernel)
set_option maxRecDepth 100000 in
theorem gX7_forces_X7_speed : GoodIn wsX7_forces (wsV RX7 147 RX7 yX7_speed wsX7_speed) := goodIn_app (goodIn_of _ (by decide +kernel)) ggX7_forces_X7_speed
set_option maxRecDepth 100000 in
theorem ggX7_forces_X7_size : GoodIn wsX7_forces wsX7_size := goodIn_r _ [39] rfl (by decide +kernel)
set_option maxRecDepth 100000 in
theorem gX7_forces_X7_size : GoodIn wsX7_forces (va_wsS RX7 155 yX7_size wsX7_size) := goodIn_app (goodIn_of _ (by decide +kernel)) ggX7_forces_X7_size
set_option maxRecDepth 100000 in
theorem ggX7_forces_J9_max_eb370 : GoodIn wsX7_forces wsJ9_max_eb370 := goodIn_r _ [43, 44, 45, 46, 47, 48] rfl (by decide +kernel)
set_option maxRecDepth 100000 in
theorem gX7_forces_J9_max_eb370 : GoodIn wsX7_forces (va_wsS RX7 158 yJ9_max_eb370 wsJ9_max_eb370) := goodIn_app (goodIn_of _ (by decide +kernel)) ggX7_forces_J9_max_eb370
theorem dX7_forces_0 : decode cX7_forces 0 = .ok (.iconst 0, 1) := by decide +kernel
theorem dX7_forces_1 : decode cX7_forces 1 = .ok (.istore_n 1, 1) := by decide +kernel
theorem dX7_forces_2 : decode cX7_forces 2 = .ok (.iload_n 1, 1) := by decide +kernel
theorem dX7_forces_3 : decode cX7_forces 3 = .ok (.aload_n 0, 1) := by decide +kernel
theorem dX7_forces_4 : decode cX7_forces 4 = .ok (.getfield 89, 3) := by decide +kernel
theorem dX7_forces_7 : decode cX7_forces 7 = .ok (.if_icmp .ge 44, 3) := by decide +kernel
theorem dX7_forces_10 : decode cX7_forces 10 = .ok (.aload_n 0, 1) := by decide +kernel
theorem dX7_forces_11 : decode cX7_forces 11 = .ok (.getfield 29, 3) := by decide +kernel
theorem dX7_forces_14 : decode cX7_forces 14 = .ok (.iload_n 1, 1) := by decide +kernel
theorem dX7_forces_15 : decode cX7_forces 15 = .ok (.dconst 0, 1) := by decide +kernel
theorem dX7_forces_16 : decode cX7_forces 16 = .ok (.dastore, 1) := by decide +kernel
theorem dX7_forces_17 : decode cX7_forces 17 = .ok (.aload_n 0, 1) := by decide +kernel
theorem dX7_forces_18 : decode cX7_forces 18 = .ok (.getfield 32, 3) := by decide +kernel
theorem dX7_forces_21 : decode cX7_forces 21 = .ok (.iload_n 1, 1) := by decide +kernel
theorem dX7_forces_22 : decode cX7_forces 22 = .ok (.dconst 0, 1) := by decide +kernel
theorem dX7_forces_23 : decode cX7_forces 23 = .ok (.dastore, 1) := by decide +kernel
theorem dX7_forces_24 : decode cX7_forces 24 = .ok (.aload_n 0, 1) := by decide +kernel
theorem dX7_forces_25 : decode cX7_forces 25 = .ok (.getfield 35, 3) := by decide +kernel
theorem dX7_forces_28 : decode cX7_forces 28 = .ok (.iload_n 1, 1) := by decide +kernel
theorem dX7_forces_29 : decode cX7_forces 29 = .ok (.dconst 0, 1) := by decide +kernel
theorem dX7_forces_30 : decode cX7_forces 30 = .ok (.aload_n 0, 1) := by decide +kernel
theorem dX7_forces_31 : decode cX7_forces 31 = .ok (.getfield 22, 3) := by decide +kernel
theorem dX7_forces_34 : decode cX7_forces 34 = .ok (.iload_n 1, 1) := by decide +kernel
theorem dX7_forces_35 : decode cX7_forces 35 = .ok (.daload, 1) := by decide +kernel
theorem dX7_forces_36 : decode cX7_forces 36 = .ok (.aload_n 0, 1) := by decide +kernel
theorem dX7_forces_37 : decode cX7_forces 37 = .ok (.getfield 19, 3) := by decide +kernel
theorem dX7_forces_40 : decode cX7_forces 40 = .ok (.iload_n 1, 1) := by decide +kernel
theorem dX7_forces_41 : decode cX7_forces 41 = .ok (.daload, 1) := by decide +kernel
theorem dX7_forces_42 : decode cX7_forces 42 = .ok (.dsub, 1) := by decide +kernel
theorem dX7_forces_43 : decode cX7_forces 43 = .ok (.dadd, 1) := by decide +kernel
theorem dX7_forces_44 : decode cX7_forces 44 = .ok (.dastore, 1) := by decide +kernel
theorem dX7_forces_45 : decode cX7_forces 45 = .ok (.iinc 1 1, 3) := by decide +kernel
theorem dX7_forces_48 : decode cX7_forces 48 = .ok (.goto (-46), 3) := by decide +kernel
theorem dX7_forces_51 : decode cX7_forces 51 = .ok (.aload_n 0, 1) := by decide +kernel
theorem dX7_forces_52 : decode cX7_forces 52 = .ok (.getfield 72, 3) := by decide +kernel
theorem dX7_forces_55 : decode cX7_forces 55 = .ok (.iconst 0, 1) := by decide +kernel
theorem dX7_forces_56 : decode cX7_forces 56 = .ok (.dconst 0, 1) := by decide +kernel
theorem dX7_forces_57 : decode cX7_forces 57 = .ok (.dastore, 1) := by decide +kernel
theorem dX7_forces_58 : decode cX7_forces 58 = .ok (.aload_n 0, 1) := by decide +kernel
theorem dX7_forces_59 : decode cX7_forces 59 = .ok (.getfield 72, 3) := by decide +kernel
theorem dX7_forces_62 : decode cX7_forces 62 = .ok (.iconst 1, 1) := by decide +kernel
theorem dX7_forces_63 : decode cX7_forces 63 = .ok (.dconst 0, 1) := by decide +kernel
theorem dX7_forces_64 : decode cX7_forces 64 = .ok (.dastore, 1) := by decide +kernel
theorem dX7_forces_65 : decode cX7_forces 65 = .ok (.aload_n 0, 1) := by decide +kernel
theorem dX7_forces_66 : decode cX7_forces 66 = .ok (.getfield 72, 3) := by decide +kernel
theorem dX7_forces_69 : decode cX7_forces 69 = .ok (.iconst 2, 1) := by decide +kernel
theorem dX7_forces_70 : decode cX7_forces 70 = .ok (.dconst 0, 1) := by decide +kernel
theorem dX7_forces_71 : decode cX7_forces 71 = .ok (.dastore, 1) := by decide +kernel
theorem dX7_forces_72 : decode cX7_forces 72 = .ok (.iconst 0, 1) := by decide +kernel
theorem dX7_forces_73 : decode cX7_forces 73 = .ok (.istore_n 1, 1) := by decide +kernel
theorem dX7_forces_74 : decode cX7_forces 74 = .ok (.iload_n 1, 1) := by decide +kernel
theorem dX7_forces_75 : decode cX7_forces 75 = .ok (.aload_n 0, 1) := by decide +kernel
theorem dX7_forces_76 : decode cX7_forces 76 = .ok (.getfield 105, 3) := by decide +kernel
theorem dX7_forces_79 : decode cX7_forces 79 = .ok (.if_icmp .ge 585, 3) := by decide +kernel
theorem dX7_forces_82 : decode cX7_forces 82 = .ok (.aload_n 0, 1) := by decide +kernel
theorem dX7_forces_83 : decode cX7_forces 83 = .ok (.getfield 38, 3) := by decide +kernel
theorem dX7_forces_86 : decode cX7_forces 86 = .ok (.iload_n 1, 1) := by decide +kernel
theorem dX7_forces_87 : decode cX7_forces 87 = .ok (.iaload, 1) := by decide +kernel
theorem dX7_forces_88 : decode cX7_forces 88 = .ok (.istore_n 2, 1) := by decide +kernel
theorem dX7_forces_89 : decode cX7_forces 89 = .ok (.aload_n 0, 1) := by decide +kernel
theorem dX7_forces_90 : decode cX7_forces 90 = .ok (.getfield 42, 3) := by decide +kernel
theorem dX7_forces_93 : decode cX7_forces 93 = .ok (.iload_n 1, 1) := by decide +kernel
theorem dX7_forces_94 : decode cX7_forces 94 = .ok (.iaload, 1) := by decide +kernel
theorem dX7_forces_95 : decode cX7_forces 95 = .ok (.istore_n 3, 1) := by decide +kernel
theorem dX7_forces_96 : decode cX7_forces 96 = .ok (.aload_n 0, 1) := by decide +kernel
theorem dX7_forces_97 : decode cX7_forces 97 = .ok (.getfield 7, 3) := by decide +kernel
theorem dX7_forces_100 : decode cX7_forces 100 = .ok (.iload_n 3, 1) := by decide +kernel
theorem dX7_forces_101 : decode cX7_forces 101 = .ok (.daload, 1) := by decide +kernel
theorem dX7_forces_102 : decode cX7_forces 102 = .ok (.aload_n 0, 1) := by decide +kernel
theorem dX7_forces_103 : decode cX7_forces 103 = .ok (.getfield 7, 3) := by decide +kernel
theorem dX7_forces_106 : decode cX7_forces 106 = .ok (.iload_n 2, 1) := by decide +kernel
theorem dX7_forces_107 : decode cX7_forces 107 = .ok (.daload, 1) := by decide +kernel
theorem dX7_forces_108 : decode cX7_forces 108 = .ok (.dsub, 1) := by decide +kernel
theorem dX7_forces_109 : decode cX7_forces 109 = .ok (.dstore 4, 2) := by decide +kernel
theorem dX7_forces_111 : decode cX7_forces 111 = .ok (.aload_n 0, 1) := by decide +kernel
theorem dX7_forces_112 : decode cX7_forces 112 = .ok (.getfield 13, 3) := by decide +kernel
theorem dX7_forces_115 : decode cX7_forces 115 = .ok (.iload_n 3, 1) := by decide +kernel
theorem dX7_forces_116 : decode cX7_forces 116 = .ok (.daload, 1) := by decide +kernel
theorem dX7_forces_117 : decode cX7_forces 117 = .ok (.aload_n 0, 1) := by decide +kernel
theorem dX7_forces_118 : decode cX7_forces 118 = .ok (.getfield 13, 3) := by decide +kernel
theorem dX7_forces_121 : decode cX7_forces 121 = .ok (.iload_n 2, 1) := by decide +kernel
theorem dX7_forces_122 : decode cX7_forces 122 = .ok (.daload, 1) := by decide +kernel
theorem dX7_forces_123 : decode cX7_forces 123 = .ok (.dsub, 1) := by decide +kernel
theorem dX7_forces_124 : decode cX7_forces 124 = .ok (.dstore 6, 2) := by decide +kernel
theorem dX7_forces_126 : decode cX7_forces 126 = .ok (.aload_n 0, 1) := by decide +kernel
theorem dX7_forces_127 : decode cX7_forces 127 = .ok (.getfield 16, 3) := by decide +kernel
theorem dX7_forces_130 : decode cX7_forces 130 = .ok (.iload_n 3, 1) := by decide +kernel
theorem dX7_forces_131 : decode cX7_forces 131 = .ok (.daload, 1) := by decide +kernel
theorem dX7_forces_132 : decode cX7_forces 132 = .ok (.aload_n 0, 1) := by decide +kernel
theorem dX7_forces_133 : decode cX7_forces 133 = .ok (.getfield 16, 3) := by decide +kernel
theorem dX7_forces_136 : decode cX7_forces 136 = .ok (.iload_n 2, 1) := by decide +kernel
theorem dX7_forces_137 : decode cX7_forces 137 = .ok (.daload, 1) := by decide +kernel
theorem dX7_forces_138 : decode cX7_forces 138 = .ok (.dsub, 1) := by decide +kernel
theorem dX7_forces_139 : decode cX7_forces 139 = .ok (.dstore 8, 2) := by decide +kernel
theorem dX7_forces_141 : decode cX7_forces 141 = .ok (.dload 4, 2) := by decide +kernel
theorem dX7_forces_143 : decode cX7_forces 143 = .ok (.dload 4, 2) := by decide +kernel
theorem dX7_forces_145 : decode cX7_forces 145 = .ok (.dmul, 1) := by decide +kernel
theorem dX7_forces_146 : decode cX7_forces 146 = .ok (.dload 6, 2) := by decide +kernel
theorem dX7_forces_148 : decode cX7_forces 148 = .ok (.dload 6, 2) := by decide +kernel
theorem dX7_forces_150 : decode cX7_forces 150 = .ok (.dmul, 1) := by decide +kernel
theorem dX7_forces_151 : decode cX7_forces 151 = .ok (.dadd, 1) := by decide +kernel
theorem dX7_forces_152 : decode cX7_forces 152 = .ok (.dload 8, 2) := by decide +kernel
theorem dX7_forces_154 : decode cX7_forces 154 = .ok (.dload 8, 2) := by decide +kernel
theorem dX7_forces_156 : decode cX7_forces 156 = .ok (.dmul, 1) := by decide +kernel
theorem dX7_forces_157 : decode cX7_forces 157 = .ok (.dadd, 1) := by decide +kernel
theorem dX7_forces_158 : decode cX7_forces 158 = .ok (.invokestatic 141, 3) := by decide +kernel
theorem dX7_forces_161 : decode cX7_forces 161 = .ok (.dstore 10, 2) := by decide +kernel
theorem dX7_forces_163 : decode cX7_forces 163 = .ok (.aload_n 0, 1) := by decide +kernel
theorem dX7_forces_164 : decode cX7_forces 164 = .ok (.getfield 54, 3) := by decide +kernel
theorem dX7_forces_167 : decode cX7_forces 167 = .ok (.iload_n 1, 1) := by decide +kernel
theorem dX7_forces_168 : decode cX7_forces 168 = .ok (.dload 10, 2) := by decide +kernel
theorem dX7_forces_170 : decode cX7_forces 170 = .ok (.aload_n 0, 1) := by decide +kernel
theorem dX7_forces_171 : decode cX7_forces 171 = .ok (.getfield 45, 3) := by decide +kernel
theorem dX7_forces_174 : decode cX7_forces 174 = .ok (.iload_n 1, 1) := by decide +kernel
theorem dX7_forces_175 : decode cX7_forces 175 = .ok (.daload, 1) := by decide +kernel
theorem dX7_forces_176 : decode cX7_forces 176 = .ok (.dcmp .l, 1) := by decide +kernel
theorem dX7_forces_177 : decode cX7_forces 177 = .ok (.ifCond .le 26, 3) := by decide +kernel
theorem dX7_forces_180 : decode cX7_forces 180 = .ok (.ldc2_w 145, 3) := by decide +kernel
theorem dX7_forces_183 : decode cX7_forces 183 = .ok (.dload 10, 2) := by decide +kernel
theorem dX7_forces_185 : decode cX7_forces 185 = .ok (.aload_n 0, 1) := by decide +kernel
theorem dX7_forces_186 : decode cX7_forces 186 = .ok (.getfield 45, 3) := by decide +kernel
theorem dX7_forces_189 : decode cX7_forces 189 = .ok (.iload_n 1, 1) := by decide +kernel
theorem dX7_forces_190 : decode cX7_forces 190 = .ok (.daload, 1) := by decide +kernel
theorem dX7_forces_191 : decode cX7_forces 191 = .ok (.dsub, 1) := by decide +kernel
theorem dX7_forces_192 : decode cX7_forces 192 = .ok (.dmul, 1) := by decide +kernel
theorem dX7_forces_193 : decode cX7_forces 193 = .ok (.aload_n 0, 1) := by decide +kernel
theorem dX7_forces_194 : decode cX7_forces 194 = .ok (.getfield 45, 3) := by decide +kernel
theorem dX7_forces_197 : decode cX7_forces 197 = .ok (.iload_n 1, 1) := by decide +kernel
theorem dX7_forces_198 : decode cX7_forces 198 = .ok (.daload, 1) := by decide +kernel
theorem dX7_forces_199 : decode cX7_forces 199 = .ok (.ddiv, 1) := by decide +kernel
theorem dX7_forces_200 : decode cX7_forces 200 = .ok (.goto 4, 3) := by decide +kernel
theorem dX7_forces_203 : decode cX7_forces 203 = .ok (.dconst 0, 1) := by decide +kernel
theorem dX7_forces_204 : decode cX7_forces 204 = .ok (.dastore, 1) := by decide +kernel
theorem dX7_forces_205 : decode cX7_forces 205 = .ok (.aload_n 0, 1) := by decide +kernel
theorem dX7_forces_206 : decode cX7_forces 206 = .ok (.getfield 54, 3) := by decide +kernel
theorem dX7_forces_209 : decode cX7_forces 209 = .ok (.iload_n 1, 1) := by decide +kernel
theorem dX7_forces_210 : decode cX7_forces 210 = .ok (.daload, 1) := by decide +kernel
theorem dX7_forces_211 : decode cX7_forces 211 = .ok (.dconst 0, 1) := by decide +kernel
theorem dX7_forces_212 : decode cX7_forces 212 = .ok (.dcmp .l, 1) := by decide +kernel
theorem dX7_forces_213 : decode cX7_forces 213 = .ok (.ifCond .le 122, 3) := by decide +kernel
theorem dX7_forces_216 : decode cX7_forces 216 = .ok (.aload_n 0, 1) := by decide +kernel
theorem dX7_forces_217 : decode cX7_forces 217 = .ok (.getfield 54, 3) := by decide +kernel
theorem dX7_forces_220 : decode cX7_forces 220 = .ok (.iload_n 1, 1) := by decide +kernel
theorem dX7_forces_221 : decode cX7_forces 221 = .ok (.daload, 1) := by decide +kernel
theorem dX7_forces_222 : decode cX7_forces 222 = .ok (.dload 10, 2) := by decide +kernel
theorem dX7_forces_224 : decode cX7_forces 224 = .ok (.ddiv, 1) := by decide +kernel
theorem dX7_forces_225 : decode cX7_forces 225 = .ok (.dstore 12, 2) := by decide +kernel
theorem dX7_forces_227 : decode cX7_forces 227 = .ok (.aload_n 0, 1) := by decide +kernel
theorem dX7_forces_228 : decode cX7_forces 228 = .ok (.getfield 29, 3) := by decide +kernel
theorem dX7_forces_231 : decode cX7_forces 231 = .ok (.iload_n 2, 1) := by decide +kernel
theorem dX7_forces_232 : decode cX7_forces 232 = .ok (.aload_n 0, 1) := by decide +kernel
theorem dX7_forces_233 : decode cX7_forces 233 = .ok (.getfield 29, 3) := by decide +kernel
theorem dX7_forces_236 : decode cX7_forces 236 = .ok (.iload_n 2, 1) := by decide +kernel
theorem dX7_forces_237 : decode cX7_forces 237 = .ok (.daload, 1) := by decide +kernel
theorem dX7_forces_238 : decode cX7_forces 238 = .ok (.dload 12, 2) := by decide +kernel
theorem dX7_forces_240 : decode cX7_forces 240 = .ok (.dload 4, 2) := by decide +kernel
theorem dX7_forces_242 : decode cX7_forces 242 = .ok (.dmul, 1) := by decide +kernel
theorem dX7_forces_243 : decode cX7_forces 243 = .ok (.dadd, 1) := by decide +kernel
theorem dX7_forces_244 : decode cX7_forces 244 = .ok (.dastore, 1) := by decide +kernel
theorem dX7_forces_245 : decode cX7_forces 245 = .ok (.aload_n 0, 1) := by decide +kernel
theorem dX7_forces_246 : decode cX7_forces 246 = .ok (.getfield 32, 3) := by decide +kernel
theorem dX7_forces_249 : decode cX7_forces 249 = .ok (.iload_n 2, 1) := by decide +kernel
theorem dX7_forces_250 : decode cX7_forces 250 = .ok (.aload_n 0, 1) := by decide +kernel
theorem dX7_forces_251 : decode cX7_forces 251 = .ok (.getfield 32, 3) := by decide +kernel
theorem dX7_forces_254 : decode cX7_forces 254 = .ok (.iload_n 2, 1) := by decide +kernel
theorem dX7_forces_255 : decode cX7_forces 255 = .ok (.daload, 1) := by decide +kernel
theorem dX7_forces_256 : decode cX7_forces 256 = .ok (.dload 12, 2) := by decide +kernel
theorem dX7_forces_258 : decode cX7_forces 258 = .ok (.dload 6, 2) := by decide +kernel
theorem dX7_forces_260 : decode cX7_forces 260 = .ok (.dmul, 1) := by decide +kernel
theorem dX7_forces_261 : decode cX7_forces 261 = .ok (.dadd, 1) := by decide +kernel
theorem dX7_forces_262 : decode cX7_forces 262 = .ok (.dastore, 1) := by decide +kernel
theorem dX7_forces_263 : decode cX7_forces 263 = .ok (.aload_n 0, 1) := by decide +kernel
theorem dX7_forces_264 : decode cX7_forces 264 = .ok (.getfield 35, 3) := by decide +kernel
theorem dX7_forces_267 : decode cX7_forces 267 = .ok (.iload_n 2, 1) := by decide +kernel
theorem dX7_forces_268 : decode cX7_forces 268 = .ok (.aload_n 0, 1) := by decide +kernel
theorem dX7_forces_269 : decode cX7_forces 269 = .ok (.getfield 35, 3) := by decide +kernel
theorem dX7_forces_272 : decode cX7_forces 272 = .ok (.iload_n 2, 1) := by decide +kernel
theorem dX7_forces_273 : decode cX7_forces 273 = .ok (.daload, 1) := by decide +kernel
theorem dX7_forces_274 : decode cX7_forces 274 = .ok (.dload 12, 2) := by decide +kernel
theorem dX7_forces_276 : decode cX7_forces 276 = .ok (.dload 8, 2) := by decide +kernel
theorem dX7_forces_278 : decode cX7_forces 278 = .ok (.dmul, 1) := by decide +kernel
theorem dX7_forces_279 : decode cX7_forces 279 = .ok (.dadd, 1) := by decide +kernel
theorem dX7_forces_280 : decode cX7_forces 280 = .ok (.dastore, 1) := by decide +kernel
theorem dX7_forces_281 : decode cX7_forces 281 = .ok (.aload_n 0, 1) := by decide +kernel
theorem dX7_forces_282 : decode cX7_forces 282 = .ok (.getfield 29, 3) := by decide +kernel
theorem dX7_forces_285 : decode cX7_forces 285 = .ok (.iload_n 3, 1) := by decide +kernel
theorem dX7_forces_286 : decode cX7_forces 286 = .ok (.aload_n 0, 1) := by decide +kernel
theorem dX7_forces_287 : decode cX7_forces 287 = .ok (.getfield 29, 3) := by decide +kernel
theorem dX7_forces_290 : decode cX7_forces 290 = .ok (.iload_n 3, 1) := by decide +kernel
theorem dX7_forces_291 : decode cX7_forces 291 = .ok (.daload, 1) := by decide +kernel
theorem dX7_forces_292 : decode cX7_forces 292 = .ok (.dload 12, 2) := by decide +kernel
theorem dX7_forces_294 : decode cX7_forces 294 = .ok (.dload 4, 2) := by decide +kernel
theorem dX7_forces_296 : decode cX7_forces 296 = .ok (.dmul, 1) := by decide +kernel
theorem dX7_forces_297 : decode cX7_forces 297 = .ok (.dsub, 1) := by decide +kernel
theorem dX7_forces_298 : decode cX7_forces 298 = .ok (.dastore, 1) := by decide +kernel
theorem dX7_forces_299 : decode cX7_forces 299 = .ok (.aload_n 0, 1) := by decide +kernel
theorem dX7_forces_300 : decode cX7_forces 300 = .ok (.getfield 32, 3) := by decide +kernel
theorem dX7_forces_303 : decode cX7_forces 303 = .ok (.iload_n 3, 1) := by decide +kernel
theorem dX7_forces_304 : decode cX7_forces 304 = .ok (.aload_n 0, 1) := by decide +kernel
theorem dX7_forces_305 : decode cX7_forces 305 = .ok (.getfield 32, 3) := by decide +kernel
theorem dX7_forces_308 : decode cX7_forces 308 = .ok (.iload_n 3, 1) := by decide +kernel
theorem dX7_forces_309 : decode cX7_forces 309 = .ok (.daload, 1) := by decide +kernel
theorem dX7_forces_310 : decode cX7_forces 310 = .ok (.dload 12, 2) := by decide +kernel
theorem dX7_forces_312 : decode cX7_forces 312 = .ok (.dload 6, 2) := by decide +kernel
theorem dX7_forces_314 : decode cX7_forces 314 = .ok (.dmul, 1) := by decide +kernel
theorem dX7_forces_315 : decode cX7_forces 315 = .ok (.dsub, 1) := by decide +kernel
theorem dX7_forces_316 : decode cX7_forces 316 = .ok (.dastore, 1) := by decide +kernel
theorem dX7_forces_317 : decode cX7_forces 317 = .ok (.aload_n 0, 1) := by decide +kernel
theorem dX7_forces_318 : decode cX7_forces 318 = .ok (.getfield 35, 3) := by decide +kernel
theorem dX7_forces_321 : decode cX7_forces 321 = .ok (.iload_n 3, 1) := by decide +kernel
theorem dX7_forces_322 : decode cX7_forces 322 = .ok (.aload_n 0, 1) := by decide +kernel
theorem dX7_forces_323 : decode cX7_forces 323 = .ok (.getfield 35, 3) := by decide +kernel
theorem dX7_forces_326 : decode cX7_forces 326 = .ok (.iload_n 3, 1) := by decide +kernel
theorem dX7_forces_327 : decode cX7_forces 327 = .ok (.daload, 1) := by decide +kernel
theorem dX7_forces_328 : decode cX7_forces 328 = .ok (.dload 12, 2) := by decide +kernel
theorem dX7_forces_330 : decode cX7_forces 330 = .ok (.dload 8, 2) := by decide +kernel
theorem dX7_forces_332 : decode cX7_forces 332 = .ok (.dmul, 1) := by decide +kernel
theorem dX7_forces_333 : decode cX7_forces 333 = .ok (.dsub, 1) := by decide +kernel
theorem dX7_forces_334 : decode cX7_forces 334 = .ok (.dastore, 1) := by decide +kernel
theorem dX7_forces_335 : decode cX7_forces 335 = .ok (.dload 10, 2) := by decide +kernel
theorem dX7_forces_337 : decode cX7_forces 337 = .ok (.dconst 0, 1) := by decide +kernel
theorem dX7_forces_338 : decode cX7_forces 338 = .ok (.dcmp .l, 1) := by decide +kernel
theorem dX7_forces_339 : decode cX7_forces 339 = .ok (.ifCond .le 319, 3) := by decide +kernel
theorem dX7_forces_342 : decode cX7_forces 342 = .ok (.ldc2_w 87, 3) := by decide +kernel
theorem dX7_forces_345 : decode cX7_forces 345 = .ok (.aload_n 0, 1) := by decide +kernel
theorem dX7_forces_346 : decode cX7_forces 346 = .ok (.getfield 16, 3) := by decide +kernel
theorem dX7_forces_349 : decode cX7_forces 349 = .ok (.iload_n 2, 1) := by decide +kernel
theorem dX7_forces_350 : decode cX7_forces 350 = .ok (.daload, 1) := by decide +kernel
theorem dX7_forces_351 : decode cX7_forces 351 = .ok (.aload_n 0, 1) := by decide +kernel
theorem dX7_forces_352 : decode cX7_forces 352 = .ok (.getfield 16, 3) := by decide +kernel
theorem dX7_forces_355 : decode cX7_forces 355 = .ok (.iload_n 3, 1) := by decide +kernel
theorem dX7_forces_356 : decode cX7_forces 356 = .ok (.daload, 1) := by decide +kernel
theorem dX7_forces_357 : decode cX7_forces 357 = .ok (.dadd, 1) := by decide +kernel
theorem dX7_forces_358 : decode cX7_forces 358 = .ok (.dmul, 1) := by decide +kernel
theorem dX7_forces_359 : decode cX7_forces 359 = .ok (.dstore 12, 2) := by decide +kernel
theorem dX7_forces_361 : decode cX7_forces 361 = .ok (.aload_n 0, 1) := by decide +kernel
theorem dX7_forces_362 : decode cX7_forces 362 = .ok (.dload 12, 2) := by decide +kernel
theorem dX7_forces_364 : decode cX7_forces 364 = .ok (.iconst 1, 1) := by decide +kernel
theorem dX7_forces_365 : decode cX7_forces 365 = .ok (.invokevirtual 147, 3) := by decide +kernel
theorem dX7_forces_368 : decode cX7_forces 368 = .ok (.dstore 14, 2) := by decide +kernel
theorem dX7_forces_370 : decode cX7_forces 370 = .ok (.aload_n 0, 1) := by decide +kernel
theorem dX7_forces_371 : decode cX7_forces 371 = .ok (.dload 12, 2) := by decide +kernel
theorem dX7_forces_373 : decode cX7_forces 373 = .ok (.iconst 0, 1) := by decide +kernel
theorem dX7_forces_374 : decode cX7_forces 374 = .ok (.invokevirtual 147, 3) := by decide +kernel
theorem dX7_forces_377 : decode cX7_forces 377 = .ok (.dstore 16, 2) := by decide +kernel
theorem dX7_forces_379 : decode cX7_forces 379 = .ok (.dload 14, 2) := by decide +kernel
theorem dX7_forces_381 : decode cX7_forces 381 = .ok (.dload 4, 2) := by decide +kernel
theorem dX7_forces_383 : decode cX7_forces 383 = .ok (.dmul, 1) := by decide +kernel
theorem dX7_forces_384 : decode cX7_forces 384 = .ok (.dload 16, 2) := by decide +kernel
theorem dX7_forces_386 : decode cX7_forces 386 = .ok (.dload 6, 2) := by decide +kernel
theorem dX7_forces_388 : decode cX7_forces 388 = .ok (.dmul, 1) := by decide +kernel
theorem dX7_forces_389 : decode cX7_forces 389 = .ok (.dadd, 1) := by decide +kernel
theorem dX7_forces_390 : decode cX7_forces 390 = .ok (.dload 10, 2) := by decide +kernel
theorem dX7_forces_392 : decode cX7_forces 392 = .ok (.ddiv, 1) := by decide +kernel
theorem dX7_forces_393 : decode cX7_forces 393 = .ok (.dstore 18, 2) := by decide +kernel
theorem dX7_forces_395 : decode cX7_forces 395 = .ok (.dload 14, 2) := by decide +kernel
theorem dX7_forces_397 : decode cX7_forces 397 = .ok (.dload 18, 2) := by decide +kernel
theorem dX7_forces_399 : decode cX7_forces 399 = .ok (.dload 4, 2) := by decide +kernel
theorem dX7_forces_401 : decode cX7_forces 401 = .ok (.dmul, 1) := by decide +kernel
theorem dX7_forces_402 : decode cX7_forces 402 = .ok (.dload 10, 2) := by decide +kernel
theorem dX7_forces_404 : decode cX7_forces 404 = .ok (.ddiv, 1) := by decide +kernel
theorem dX7_forces_405 : decode cX7_forces 405 = .ok (.dsub, 1) := by decide +kernel
theorem dX7_forces_406 : decode cX7_forces 406 = .ok (.dstore 20, 2) := by decide +kernel
theorem dX7_forces_408 : decode cX7_forces 408 = .ok (.dload 16, 2) := by decide +kernel
theorem dX7_forces_410 : decode cX7_forces 410 = .ok (.dload 18, 2) := by decide +kernel
theorem dX7_forces_412 : decode cX7_forces 412 = .ok (.dload 6, 2) := by decide +kernel
theorem dX7_forces_414 : decode cX7_forces 414 = .ok (.dmul, 1) := by decide +kernel
theorem dX7_forces_415 : decode cX7_forces 415 = .ok (.dload 10, 2) := by decide +kernel
theorem dX7_forces_417 : decode cX7_forces 417 = .ok (.ddiv, 1) := by decide +kernel
theorem dX7_forces_418 : decode cX7_forces 418 = .ok (.dsub, 1) := by decide +kernel
theorem dX7_forces_419 : decode cX7_forces 419 = .ok (.dstore 22, 2) := by decide +kernel
theorem dX7_forces_421 : decode cX7_forces 421 = .ok (.dconst 0, 1) := by decide +kernel
theorem dX7_forces_422 : decode cX7_forces 422 = .ok (.dload 18, 2) := by decide +kernel
theorem dX7_forces_424 : decode cX7_forces 424 = .ok (.dload 8, 2) := by decide +kernel
theorem dX7_forces_426 : decode cX7_forces 426 = .ok (.dmul, 1) := by decide +kernel
theorem dX7_forces_427 : decode cX7_forces 427 = .ok (.dload 10, 2) := by decide +kernel
theorem dX7_forces_429 : decode cX7_forces 429 = .ok (.ddiv, 1) := by decide +kernel
theorem dX7_forces_430 : decode cX7_forces 430 = .ok (.dsub, 1) := by decide +kernel
theorem dX7_forces_431 : decode cX7_forces 431 = .ok (.dstore 24, 2) := by decide +kernel
theorem dX7_forces_433 : decode cX7_forces 433 = .ok (.dload 20, 2) := by decide +kernel
theorem dX7_forces_435 : decode cX7_forces 435 = .ok (.dload 20, 2) := by decide +kernel
theorem dX7_forces_437 : decode cX7_forces 437 = .ok (.dmul, 1) := by decide +kernel
theorem dX7_forces_438 : decode cX7_forces 438 = .ok (.dload 22, 2) := by decide +kernel
theorem dX7_forces_440 : decode cX7_forces 440 = .ok (.dload 22, 2) := by decide +kernel
theorem dX7_forces_442 : decode cX7_forces 442 = .ok (.dmul, 1) := by decide +kernel
theorem dX7_forces_443 : decode cX7_forces 443 = .ok (.dadd, 1) := by decide +kernel
theorem dX7_forces_444 : decode cX7_forces 444 = .ok (.dload 24, 2) := by decide +kernel
theorem dX7_forces_446 : decode cX7_forces 446 = .ok (.dload 24, 2) := by decide +kernel
theorem dX7_forces_448 : decode cX7_forces 448 = .ok (.dmul, 1) := by decide +kernel
theorem dX7_forces_449 : decode cX7_forces 449 = .ok (.dadd, 1) := by decide +kernel
theorem dX7_forces_450 : decode cX7_forces 450 = .ok (.invokestatic 141, 3) := by decide +kernel
theorem dX7_forces_453 : decode cX7_forces 453 = .ok (.dstore 26, 2) := by decide +kernel
theorem dX7_forces_455 : decode cX7_forces 455 = .ok (.ldc2_w 151, 3) := by decide +kernel
theorem dX7_forces_458 : decode cX7_forces 458 = .ok (.aload_n 0, 1) := by decide +kernel
theorem dX7_forces_459 : decode cX7_forces 459 = .ok (.getfield 48, 3) := by decide +kernel
theorem dX7_forces_462 : decode cX7_forces 462 = .ok (.iload_n 1, 1) := by decide +kernel
theorem dX7_forces_463 : decode cX7_forces 463 = .ok (.daload, 1) := by decide +kernel
theorem dX7_forces_464 : decode cX7_forces 464 = .ok (.dmul, 1) := by decide +kernel
theorem dX7_forces_465 : decode cX7_forces 465 = .ok (.dconst 1, 1) := by decide +kernel
theorem dX7_forces_466 : decode cX7_forces 466 = .ok (.aload_n 0, 1) := by decide +kernel
theorem dX7_forces_467 : decode cX7_forces 467 = .ok (.getfield 120, 3) := by decide +kernel
theorem dX7_forces_470 : decode cX7_forces 470 = .ok (.dadd, 1) := by decide +kernel
theorem dX7_forces_471 : decode cX7_forces 471 = .ok (.dmul, 1) := by decide +kernel
theorem dX7_forces_472 : decode cX7_forces 472 = .ok (.aload_n 0, 1) := by decide +kernel
theorem dX7_forces_473 : decode cX7_forces 473 = .ok (.getfield 45, 3) := by decide +kernel
theorem dX7_forces_476 : decode cX7_forces 476 = .ok (.iload_n 1, 1) := by decide +kernel
theorem dX7_forces_477 : decode cX7_forces 477 = .ok (.daload, 1) := by decide +kernel
theorem dX7_forces_478 : decode cX7_forces 478 = .ok (.dmul, 1) := by decide +kernel
theorem dX7_forces_479 : decode cX7_forces 479 = .ok (.dload 26, 2) := by decide +kernel
theorem dX7_forces_481 : decode cX7_forces 481 = .ok (.dmul, 1) := by decide +kernel
theorem dX7_forces_482 : decode cX7_forces 482 = .ok (.dstore 28, 2) := by decide +kernel
theorem dX7_forces_484 : decode cX7_forces 484 = .ok (.aload_n 0, 1) := by decide +kernel
theorem dX7_forces_485 : decode cX7_forces 485 = .ok (.getfield 72, 3) := by decide +kernel
theorem dX7_forces_488 : decode cX7_forces 488 = .ok (.iconst 0, 1) := by decide +kernel
theorem dX7_forces_489 : decode cX7_forces 489 = .ok (.aload_n 0, 1) := by decide +kernel
theorem dX7_forces_490 : decode cX7_forces 490 = .ok (.getfield 72, 3) := by decide +kernel
theorem dX7_forces_493 : decode cX7_forces 493 = .ok (.iconst 0, 1) := by decide +kernel
theorem dX7_forces_494 : decode cX7_forces 494 = .ok (.daload, 1) := by decide +kernel
theorem dX7_forces_495 : decode cX7_forces 495 = .ok (.ldc2_w 153, 3) := by decide +kernel
theorem dX7_forces_498 : decode cX7_forces 498 = .ok (.dload 28, 2) := by decide +kernel
theorem dX7_forces_500 : decode cX7_forces 500 = .ok (.dmul, 1) := by decide +kernel
theorem dX7_forces_501 : decode cX7_forces 501 = .ok (.dload 20, 2) := by decide +kernel
theorem dX7_forces_503 : decode cX7_forces 503 = .ok (.dmul, 1) := by decide +kernel
theorem dX7_forces_504 : decode cX7_forces 504 = .ok (.dadd, 1) := by decide +kernel
theorem dX7_forces_505 : decode cX7_forces 505 = .ok (.dastore, 1) := by decide +kernel
theorem dX7_forces_506 : decode cX7_forces 506 = .ok (.aload_n 0, 1) := by decide +kernel
theorem dX7_forces_507 : decode cX7_forces 507 = .ok (.getfield 72, 3) := by decide +kernel
theorem dX7_forces_510 : decode cX7_forces 510 = .ok (.iconst 1, 1) := by decide +kernel
theorem dX7_forces_511 : decode cX7_forces 511 = .ok (.aload_n 0, 1) := by decide +kernel
theorem dX7_forces_512 : decode cX7_forces 512 = .ok (.getfield 72, 3) := by decide +kernel
theorem dX7_forces_515 : decode cX7_forces 515 = .ok (.iconst 1, 1) := by decide +kernel
theorem dX7_forces_516 : decode cX7_forces 516 = .ok (.daload, 1) := by decide +kernel
theorem dX7_forces_517 : decode cX7_forces 517 = .ok (.ldc2_w 153, 3) := by decide +kernel
theorem dX7_forces_520 : decode cX7_forces 520 = .ok (.dload 28, 2) := by decide +kernel
theorem dX7_forces_522 : decode cX7_forces 522 = .ok (.dmul, 1) := by decide +kernel
theorem dX7_forces_523 : decode cX7_forces 523 = .ok (.dload 22, 2) := by decide +kernel
theorem dX7_forces_525 : decode cX7_forces 525 = .ok (.dmul, 1) := by decide +kernel
theorem dX7_forces_526 : decode cX7_forces 526 = .ok (.dadd, 1) := by decide +kernel
theorem dX7_forces_527 : decode cX7_forces 527 = .ok (.dastore, 1) := by decide +kernel
theorem dX7_forces_528 : decode cX7_forces 528 = .ok (.aload_n 0, 1) := by decide +kernel
theorem dX7_forces_529 : decode cX7_forces 529 = .ok (.getfield 72, 3) := by decide +kernel
theorem dX7_forces_532 : decode cX7_forces 532 = .ok (.iconst 2, 1) := by decide +kernel
theorem dX7_forces_533 : decode cX7_forces 533 = .ok (.aload_n 0, 1) := by decide +kernel
theorem dX7_forces_534 : decode cX7_forces 534 = .ok (.getfield 72, 3) := by decide +kernel
theorem dX7_forces_537 : decode cX7_forces 537 = .ok (.iconst 2, 1) := by decide +kernel
theorem dX7_forces_538 : decode cX7_forces 538 = .ok (.daload, 1) := by decide +kernel
theorem dX7_forces_539 : decode cX7_forces 539 = .ok (.ldc2_w 153, 3) := by decide +kernel
theorem dX7_forces_542 : decode cX7_forces 542 = .ok (.dload 28, 2) := by decide +kernel
theorem dX7_forces_544 : decode cX7_forces 544 = .ok (.dmul, 1) := by decide +kernel
theorem dX7_forces_545 : decode cX7_forces 545 = .ok (.dload 24, 2) := by decide +kernel
theorem dX7_forces_547 : decode cX7_forces 547 = .ok (.dmul, 1) := by decide +kernel
theorem dX7_forces_548 : decode cX7_forces 548 = .ok (.dadd, 1) := by decide +kernel
theorem dX7_forces_549 : decode cX7_forces 549 = .ok (.dastore, 1) := by decide +kernel
theorem dX7_forces_550 : decode cX7_forces 550 = .ok (.aload_n 0, 1) := by decide +kernel
theorem dX7_forces_551 : decode cX7_forces 551 = .ok (.getfield 29, 3) := by decide +kernel
theorem dX7_forces_554 : decode cX7_forces 554 = .ok (.iload_n 2, 1) := by decide +kernel
theorem dX7_forces_555 : decode cX7_forces 555 = .ok (.aload_n 0, 1) := by decide +kernel
theorem dX7_forces_556 : decode cX7_forces 556 = .ok (.getfield 29, 3) := by decide +kernel
theorem dX7_forces_559 : decode cX7_forces 559 = .ok (.iload_n 2, 1) := by decide +kernel
theorem dX7_forces_560 : decode cX7_forces 560 = .ok (.daload, 1) := by decide +kernel
theorem dX7_forces_561 : decode cX7_forces 561 = .ok (.dload 28, 2) := by decide +kernel
theorem dX7_forces_563 : decode cX7_forces 563 = .ok (.dload 20, 2) := by decide +kernel
theorem dX7_forces_565 : decode cX7_forces 565 = .ok (.dmul, 1) := by decide +kernel
theorem dX7_forces_566 : decode cX7_forces 566 = .ok (.dadd, 1) := by decide +kernel
theorem dX7_forces_567 : decode cX7_forces 567 = .ok (.dastore, 1) := by decide +kernel
theorem dX7_forces_568 : decode cX7_forces 568 = .ok (.aload_n 0, 1) := by decide +kernel
theorem dX7_forces_569 : decode cX7_forces 569 = .ok (.getfield 32, 3) := by decide +kernel
theorem dX7_forces_572 : decode cX7_forces 572 = .ok (.iload_n 2, 1) := by decide +kernel
theorem dX7_forces_573 : decode cX7_forces 573 = .ok (.aload_n 0, 1) := by decide +kernel
theorem dX7_forces_574 : decode cX7_forces 574 = .ok (.getfield 32, 3) := by decide +kernel
theorem dX7_forces_577 : decode cX7_forces 577 = .ok (.iload_n 2, 1) := by decide +kernel
theorem dX7_forces_578 : decode cX7_forces 578 = .ok (.daload, 1) := by decide +kernel
theorem dX7_forces_579 : decode cX7_forces 579 = .ok (.dload 28, 2) := by decide +kernel
theorem dX7_forces_581 : decode cX7_forces 581 = .ok (.dload 22, 2) := by decide +kernel
theorem dX7_forces_583 : decode cX7_forces 583 = .ok (.dmul, 1) := by decide +kernel
theorem dX7_forces_584 : decode cX7_forces 584 = .ok (.dadd, 1) := by decide +kernel
theorem dX7_forces_585 : decode cX7_forces 585 = .ok (.dastore, 1) := by decide +kernel
theorem dX7_forces_586 : decode cX7_forces 586 = .ok (.aload_n 0, 1) := by decide +kernel
theorem dX7_forces_587 : decode cX7_forces 587 = .ok (.getfield 35, 3) := by decide +kernel
theorem dX7_forces_590 : decode cX7_forces 590 = .ok (.iload_n 2, 1) := by decide +kernel
theorem dX7_forces_591 : decode cX7_forces 591 = .ok (.aload_n 0, 1) := by decide +kernel
theorem dX7_forces_592 : decode cX7_forces 592 = .ok (.getfield 35, 3) := by decide +kernel
theorem dX7_forces_595 : decode cX7_forces 595 = .ok (.iload_n 2, 1) := by decide +kernel
theorem dX7_forces_596 : decode cX7_forces 596 = .ok (.daload, 1) := by decide +kernel
theorem dX7_forces_597 : decode cX7_forces 597 = .ok (.dload 28, 2) := by decide +kernel
theorem dX7_forces_599 : decode cX7_forces 599 = .ok (.dload 24, 2) := by decide +kernel
theorem dX7_forces_601 : decode cX7_forces 601 = .ok (.dmul, 1) := by decide +kernel
theorem dX7_forces_602 : decode cX7_forces 602 = .ok (.dadd, 1) := by decide +kernel
theorem dX7_forces_603 : decode cX7_forces 603 = .ok (.dastore, 1) := by decide +kernel
theorem dX7_forces_604 : decode cX7_forces 604 = .ok (.aload_n 0, 1) := by decide +kernel
theorem dX7_forces_605 : decode cX7_forces 605 = .ok (.getfield 29, 3) := by decide +kernel
theorem dX7_forces_608 : decode cX7_forces 608 = .ok (.iload_n 3, 1) := by decide +kernel
theorem dX7_forces_609 : decode cX7_forces 609 = .ok (.aload_n 0, 1) := by decide +kernel
theorem dX7_forces_610 : decode cX7_forces 610 = .ok (.getfield 29, 3) := by decide +kernel
theorem dX7_forces_613 : decode cX7_forces 613 = .ok (.iload_n 3, 1) := by decide +kernel
theorem dX7_forces_614 : decode cX7_forces 614 = .ok (.daload, 1) := by decide +kernel
theorem dX7_forces_615 : decode cX7_forces 615 = .ok (.dload 28, 2) := by decide +kernel
theorem dX7_forces_617 : decode cX7_forces 617 = .ok (.dload 20, 2) := by decide +kernel
theorem dX7_forces_619 : decode cX7_forces 619 = .ok (.dmul, 1) := by decide +kernel
theorem dX7_forces_620 : decode cX7_forces 620 = .ok (.dadd, 1) := by decide +kernel
theorem dX7_forces_621 : decode cX7_forces 621 = .ok (.dastore, 1) := by decide +kernel
theorem dX7_forces_622 : decode cX7_forces 622 = .ok (.aload_n 0, 1) := by decide +kernel
theorem dX7_forces_623 : decode cX7_forces 623 = .ok (.getfield 32, 3) := by decide +kernel
theorem dX7_forces_626 : decode cX7_forces 626 = .ok (.iload_n 3, 1) := by decide +kernel
theorem dX7_forces_627 : decode cX7_forces 627 = .ok (.aload_n 0, 1) := by decide +kernel
theorem dX7_forces_628 : decode cX7_forces 628 = .ok (.getfield 32, 3) := by decide +kernel
theorem dX7_forces_631 : decode cX7_forces 631 = .ok (.iload_n 3, 1) := by decide +kernel
theorem dX7_forces_632 : decode cX7_forces 632 = .ok (.daload, 1) := by decide +kernel
theorem dX7_forces_633 : decode cX7_forces 633 = .ok (.dload 28, 2) := by decide +kernel
theorem dX7_forces_635 : decode cX7_forces 635 = .ok (.dload 22, 2) := by decide +kernel
theorem dX7_forces_637 : decode cX7_forces 637 = .ok (.dmul, 1) := by decide +kernel
theorem dX7_forces_638 : decode cX7_forces 638 = .ok (.dadd, 1) := by decide +kernel
theorem dX7_forces_639 : decode cX7_forces 639 = .ok (.dastore, 1) := by decide +kernel
theorem dX7_forces_640 : decode cX7_forces 640 = .ok (.aload_n 0, 1) := by decide +kernel
theorem dX7_forces_641 : decode cX7_forces 641 = .ok (.getfield 35, 3) := by decide +kernel
theorem dX7_forces_644 : decode cX7_forces 644 = .ok (.iload_n 3, 1) := by decide +kernel
theorem dX7_forces_645 : decode cX7_forces 645 = .ok (.aload_n 0, 1) := by decide +kernel
theorem dX7_forces_646 : decode cX7_forces 646 = .ok (.getfield 35, 3) := by decide +kernel
theorem dX7_forces_649 : decode cX7_forces 649 = .ok (.iload_n 3, 1) := by decide +kernel
theorem dX7_forces_650 : decode cX7_forces 650 = .ok (.daload, 1) := by decide +kernel
theorem dX7_forces_651 : decode cX7_forces 651 = .ok (.dload 28, 2) := by decide +kernel
theorem dX7_forces_653 : decode cX7_forces 653 = .ok (.dload 24, 2) := by decide +kernel
theorem dX7_forces_655 : decode cX7_forces 655 = .ok (.dmul, 1) := by decide +kernel
theorem dX7_forces_656 : decode cX7_forces 656 = .ok (.dadd, 1) := by decide +kernel
theorem dX7_forces_657 : decode cX7_forces 657 = .ok (.dastore, 1) := by decide +kernel
theorem dX7_forces_658 : decode cX7_forces 658 = .ok (.iinc 1 1, 3) := by decide +kernel
theorem dX7_forces_661 : decode cX7_forces 661 = .ok (.goto (-587), 3) := by decide +kernel
theorem dX7_forces_664 : decode cX7_forces 664 = .ok (.aload_n 0, 1) := by decide +kernel
theorem dX7_forces_665 : decode cX7_forces 665 = .ok (.dconst 0, 1) := by decide +kernel
theorem dX7_forces_666 : decode cX7_forces 666 = .ok (.putfield 68, 3) := by decide +kernel
theorem dX7_forces_669 : decode cX7_forces 669 = .ok (.iconst 0, 1) := by decide +kernel
theorem dX7_forces_670 : decode cX7_forces 670 = .ok (.istore_n 1, 1) := by decide +kernel
theorem dX7_forces_671 : decode cX7_forces 671 = .ok (.iload_n 1, 1) := by decide +kernel
theorem dX7_forces_672 : decode cX7_forces 672 = .ok (.aload_n 0, 1) := by decide +kernel
theorem dX7_forces_673 : decode cX7_forces 673 = .ok (.getfield 89, 3) := by decide +kernel
theorem dX7_forces_676 : decode cX7_forces 676 = .ok (.if_icmp .ge 62, 3) := by decide +kernel
theorem dX7_forces_679 : decode cX7_forces 679 = .ok (.aload_n 0, 1) := by decide +kernel
theorem dX7_forces_680 : decode cX7_forces 680 = .ok (.getfield 25, 3) := by decide +kernel
theorem dX7_forces_683 : decode cX7_forces 683 = .ok (.iload_n 1, 1) := by decide +kernel
theorem dX7_forces_684 : decode cX7_forces 684 = .ok (.baload, 1) := by decide +kernel
theorem dX7_forces_685 : decode cX7_forces 685 = .ok (.ifCond .ne 47, 3) := by decide +kernel
theorem dX7_forces_688 : decode cX7_forces 688 = .ok (.aload_n 0, 1) := by decide +kernel
theorem dX7_forces_689 : decode cX7_forces 689 = .ok (.aload_n 0, 1) := by decide +kernel
theorem dX7_forces_690 : decode cX7_forces 690 = .ok (.getfield 68, 3) := by decide +kernel
theorem dX7_forces_693 : decode cX7_forces 693 = .ok (.aload_n 0, 1) := by decide +kernel
theorem dX7_forces_694 : decode cX7_forces 694 = .ok (.getfield 29, 3) := by decide +kernel
theorem dX7_forces_697 : decode cX7_forces 697 = .ok (.iload_n 1, 1) := by decide +kernel
theorem dX7_forces_698 : decode cX7_forces 698 = .ok (.daload, 1) := by decide +kernel
theorem dX7_forces_699 : decode cX7_forces 699 = .ok (.invokestatic 155, 3) := by decide +kernel
theorem dX7_forces_702 : decode cX7_forces 702 = .ok (.aload_n 0, 1) := by decide +kernel
theorem dX7_forces_703 : decode cX7_forces 703 = .ok (.getfield 32, 3) := by decide +kernel
theorem dX7_forces_706 : decode cX7_forces 706 = .ok (.iload_n 1, 1) := by decide +kernel
theorem dX7_forces_707 : decode cX7_forces 707 = .ok (.daload, 1) := by decide +kernel
theorem dX7_forces_708 : decode cX7_forces 708 = .ok (.invokestatic 155, 3) := by decide +kernel
theorem dX7_forces_711 : decode cX7_forces 711 = .ok (.aload_n 0, 1) := by decide +kernel
theorem dX7_forces_712 : decode cX7_forces 712 = .ok (.getfield 35, 3) := by decide +kernel
theorem dX7_forces_715 : decode cX7_forces 715 = .ok (.iload_n 1, 1) := by decide +kernel
theorem dX7_forces_716 : decode cX7_forces 716 = .ok (.daload, 1) := by decide +kernel
theorem dX7_forces_717 : decode cX7_forces 717 = .ok (.invokestatic 155, 3) := by decide +kernel
theorem dX7_forces_720 : decode cX7_forces 720 = .ok (.invokestatic 158, 3) := by decide +kernel
theorem dX7_forces_723 : decode cX7_forces 723 = .ok (.invokestatic 158, 3) := by decide +kernel
theorem dX7_forces_726 : decode cX7_forces 726 = .ok (.invokestatic 158, 3) := by decide +kernel
theorem dX7_forces_729 : decode cX7_forces 729 = .ok (.putfield 68, 3) := by decide +kernel
theorem dX7_forces_732 : decode cX7_forces 732 = .ok (.iinc 1 1, 3) := by decide +kernel
theorem dX7_forces_735 : decode cX7_forces 735 = .ok (.goto (-64), 3) := by decide +kernel
theorem dX7_forces_738 : decode cX7_forces 738 = .ok (.return_, 1) := by decide +kernel
theorem dX7_moved_0 : decode cX7_moved 0 = .ok (.ldc2_w 164, 3) := by decide +kernel
theorem dX7_moved_3 : decode cX7_moved 3 = .ok (.dload_n 0, 1) := by decide +kernel
theorem dX7_moved_4 : decode cX7_moved 4 = .ok (.dmul, 1) := by decide +kernel
theorem dX7_moved_5 : decode cX7_moved 5 = .ok (.dstore_n 2, 1) := by decide +kernel
theorem dX7_moved_6 : decode cX7_moved 6 = .ok (.dload_n 2, 1) := by decide +kernel
theorem dX7_moved_7 : decode cX7_moved 7 = .ok (.ldc2_w 166, 3) := by decide +kernel
theorem dX7_moved_10 : decode cX7_moved 10 = .ok (.dcmp .l, 1) := by decide +kernel
theorem dX7_moved_11 : decode cX7_moved 11 = .ok (.ifCond .le 9, 3) := by decide +kernel
theorem dX7_moved_14 : decode cX7_moved 14 = .ok (.ldc2_w 166, 3) := by decide +kernel
theorem dX7_moved_17 : decode cX7_moved 17 = .ok (.goto 18, 3) := by decide +kernel
theorem dX7_moved_20 : decode cX7_moved 20 = .ok (.dload_n 2, 1) := by decide +kernel
theorem dX7_moved_21 : decode cX7_moved 21 = .ok (.ldc2_w 168, 3) := by decide +kernel
theorem dX7_moved_24 : decode cX7_moved 24 = .ok (.dcmp .g, 1) := by decide +kernel
theorem dX7_moved_25 : decode cX7_moved 25 = .ok (.ifCond .ge 9, 3) := by decide +kernel
theorem dX7_moved_28 : decode cX7_moved 28 = .ok (.ldc2_w 168, 3) := by decide +kernel
theorem dX7_moved_31 : decode cX7_moved 31 = .ok (.goto 4, 3) := by decide +kernel
theorem dX7_moved_34 : decode cX7_moved 34 = .ok (.dload_n 2, 1) := by decide +kernel
theorem dX7_moved_35 : decode cX7_moved 35 = .ok (.dreturn, 1) := by decide +kernel
set_option maxRecDepth 100000 in
theorem ggX7_run_X7_forces : GoodIn wsX7_run wsX7_forces := goodIn_r _ [17, 1, 8, 10, 12, 18, 19, 5, 20, 21, 22, 7, 9, 11, 23, 24, 25, 26, 27, 28, 29, 30, 2, 6, 31, 32, 16, 33, 34, 35, 36, 37, 38, 39, 40, 41, 42, 43, 44, 45, 46, 47, 48, 49, 50, 51, 52, 53, 54, 77, 78, 79, 80, 81, 82, 83, 84, 85, 86, 87, 88, 89, 90, 91, 92, 93, 94, 95, 96, 97, 98, 99, 100, 101, 102, 103, 104, 105, 106, 107] rfl (by decide +kernel)
set_option maxRecDepth 100000 in
theorem gX7_run_X7_forces : GoodIn wsX7_run (wsV RX7 170 RX7 yX7_forces wsX7_forces) := goodIn_app (goodIn_of _ (by decide +kernel)) ggX7_run_X7_forces
set_option maxRecDepth 100000 in
theorem ggX7_run_X7_size : GoodIn wsX7_run wsX7_size := goodIn_r _ [45] rfl (by decide +kernel)
set_option maxRecDepth 100000 in
theorem gX7_run_X7_size : GoodIn wsX7_run (va_wsS RX7 155 yX7_size wsX7_size) := goodIn_app (goodIn_of _ (by decide +kernel)) ggX7_run_X7_size
set_option maxRecDepth 100000 in
theorem ggX7_run_X7_open : GoodIn wsX7_run wsX7_open := goodIn_r _ [58, 1, 59, 60, 61, 62, 16, 63, 7, 9, 11, 64, 65, 66, 67, 68, 69, 48, 70, 50, 51, 52, 53, 54, 46, 47, 49, 77, 78, 79, 80, 81, 82, 83, 84, 85, 86, 87, 88, 89, 90, 91, 92, 93, 94, 95, 96, 97, 98, 99, 100, 101, 102, 103, 104, 105, 106, 107] rfl (by decide +kernel)
set_option maxRecDepth 100000 in
theorem gX7_run_X7_open : GoodIn wsX7_run (wsV RX7 176 RX7 yX7_open wsX7_open) := goodIn_app (goodIn_of _ (by decide +kernel)) ggX7_run_X7_open
set_option maxRecDepth 100000 in
theorem ggX7_run_X7_moved : GoodIn wsX7_run wsX7_moved := goodIn_r _ [73, 74, 75, 76] rfl (by decide +kernel)
set_option maxRecDepth 100000 in
theorem gX7_run_X7_moved : GoodIn wsX7_run (va_wsS RX7 180 yX7_moved wsX7_moved) := goodIn_app (goodIn_of _ (by decide +kernel)) ggX7_run_X7_moved
theorem dX7_run_0 : decode cX7_run 0 = .ok (.iload_n 1, 1) := by decide +kernel
theorem dX7_run_1 : decode cX7_run 1 = .ok (.iconst 1, 1) := by decide +kernel
theorem dX7_run_2 : decode cX7_run 2 = .ok (.if_icmp .lt 17, 3) := by decide +kernel
theorem dX7_run_5 : decode cX7_run 5 = .ok (.iload_n 1, 1) := by decide +kernel
theorem dX7_run_6 : decode cX7_run 6 = .ok (.sipush 300, 3) := by decide +kernel
theorem dX7_run_9 : decode cX7_run 9 = .ok (.if_icmp .gt 10, 3) := by decide +kernel
theorem dX7_run_12 : decode cX7_run 12 = .ok (.aload_n 0, 1) := by decide +kernel
theorem dX7_run_13 : decode cX7_run 13 = .ok (.getfield 89, 3) := by decide +kernel
theorem dX7_run_16 : decode cX7_run 16 = .ok (.ifCond .ne 5, 3) := by decide +kernel
theorem dX7_run_19 : decode cX7_run 19 = .ok (.iconst (-1), 1) := by decide +kernel
theorem dX7_run_20 : decode cX7_run 20 = .ok (.ireturn, 1) := by decide +kernel
theorem dX7_run_21 : decode cX7_run 21 = .ok (.iconst 0, 1) := by decide +kernel
theorem dX7_run_22 : decode cX7_run 22 = .ok (.istore_n 2, 1) := by decide +kernel
theorem dX7_run_23 : decode cX7_run 23 = .ok (.iload_n 2, 1) := by decide +kernel
theorem dX7_run_24 : decode cX7_run 24 = .ok (.iload_n 1, 1) := by decide +kernel
theorem dX7_run_25 : decode cX7_run 25 = .ok (.if_icmp .ge 151, 3) := by decide +kernel
theorem dX7_run_28 : decode cX7_run 28 = .ok (.aload_n 0, 1) := by decide +kernel
theorem dX7_run_29 : decode cX7_run 29 = .ok (.invokevirtual 170, 3) := by decide +kernel
theorem dX7_run_32 : decode cX7_run 32 = .ok (.aload_n 0, 1) := by decide +kernel
theorem dX7_run_33 : decode cX7_run 33 = .ok (.getfield 68, 3) := by decide +kernel
theorem dX7_run_36 : decode cX7_run 36 = .ok (.dconst 1, 1) := by decide +kernel
theorem dX7_run_37 : decode cX7_run 37 = .ok (.dcmp .g, 1) := by decide +kernel
theorem dX7_run_38 : decode cX7_run 38 = .ok (.ifCond .ge 41, 3) := by decide +kernel
theorem dX7_run_41 : decode cX7_run 41 = .ok (.aload_n 0, 1) := by decide +kernel
theorem dX7_run_42 : decode cX7_run 42 = .ok (.getfield 75, 3) := by decide +kernel
theorem dX7_run_45 : decode cX7_run 45 = .ok (.aload_n 0, 1) := by decide +kernel
theorem dX7_run_46 : decode cX7_run 46 = .ok (.getfield 173, 3) := by decide +kernel
theorem dX7_run_49 : decode cX7_run 49 = .ok (.aload_n 0, 1) := by decide +kernel
theorem dX7_run_50 : decode cX7_run 50 = .ok (.getfield 72, 3) := by decide +kernel
theorem dX7_run_53 : decode cX7_run 53 = .ok (.iconst 0, 1) := by decide +kernel
theorem dX7_run_54 : decode cX7_run 54 = .ok (.daload, 1) := by decide +kernel
theorem dX7_run_55 : decode cX7_run 55 = .ok (.invokestatic 155, 3) := by decide +kernel
theorem dX7_run_58 : decode cX7_run 58 = .ok (.dconst 1, 1) := by decide +kernel
theorem dX7_run_59 : decode cX7_run 59 = .ok (.aload_n 0, 1) := by decide +kernel
theorem dX7_run_60 : decode cX7_run 60 = .ok (.iconst 1, 1) := by decide +kernel
theorem dX7_run_61 : decode cX7_run 61 = .ok (.invokevirtual 176, 3) := by decide +kernel
theorem dX7_run_64 : decode cX7_run 64 = .ok (.dadd, 1) := by decide +kernel
theorem dX7_run_65 : decode cX7_run 65 = .ok (.ddiv, 1) := by decide +kernel
theorem dX7_run_66 : decode cX7_run 66 = .ok (.dastore, 1) := by decide +kernel
theorem dX7_run_67 : decode cX7_run 67 = .ok (.aload_n 0, 1) := by decide +kernel
theorem dX7_run_68 : decode cX7_run 68 = .ok (.dup, 1) := by decide +kernel
theorem dX7_run_69 : decode cX7_run 69 = .ok (.getfield 173, 3) := by decide +kernel
theorem dX7_run_72 : decode cX7_run 72 = .ok (.iconst 1, 1) := by decide +kernel
theorem dX7_run_73 : decode cX7_run 73 = .ok (.iadd, 1) := by decide +kernel
theorem dX7_run_74 : decode cX7_run 74 = .ok (.putfield 173, 3) := by decide +kernel
theorem dX7_run_77 : decode cX7_run 77 = .ok (.iload_n 2, 1) := by decide +kernel
theorem dX7_run_78 : decode cX7_run 78 = .ok (.ireturn, 1) := by decide +kernel
theorem dX7_run_79 : decode cX7_run 79 = .ok (.iconst 0, 1) := by decide +kernel
theorem dX7_run_80 : decode cX7_run 80 = .ok (.istore_n 3, 1) := by decide +kernel
theorem dX7_run_81 : decode cX7_run 81 = .ok (.iload_n 3, 1) := by decide +kernel
theorem dX7_run_82 : decode cX7_run 82 = .ok (.aload_n 0, 1) := by decide +kernel
theorem dX7_run_83 : decode cX7_run 83 = .ok (.getfield 89, 3) := by decide +kernel
theorem dX7_run_86 : decode cX7_run 86 = .ok (.if_icmp .ge 84, 3) := by decide +kernel
theorem dX7_run_89 : decode cX7_run 89 = .ok (.aload_n 0, 1) := by decide +kernel
theorem dX7_run_90 : decode cX7_run 90 = .ok (.getfield 25, 3) := by decide +kernel
theorem dX7_run_93 : decode cX7_run 93 = .ok (.iload_n 3, 1) := by decide +kernel
theorem dX7_run_94 : decode cX7_run 94 = .ok (.baload, 1) := by decide +kernel
theorem dX7_run_95 : decode cX7_run 95 = .ok (.ifCond .ne 69, 3) := by decide +kernel
theorem dX7_run_98 : decode cX7_run 98 = .ok (.aload_n 0, 1) := by decide +kernel
theorem dX7_run_99 : decode cX7_run 99 = .ok (.getfield 7, 3) := by decide +kernel
theorem dX7_run_102 : decode cX7_run 102 = .ok (.iload_n 3, 1) := by decide +kernel
theorem dX7_run_103 : decode cX7_run 103 = .ok (.aload_n 0, 1) := by decide +kernel
theorem dX7_run_104 : decode cX7_run 104 = .ok (.getfield 7, 3) := by decide +kernel
theorem dX7_run_107 : decode cX7_run 107 = .ok (.iload_n 3, 1) := by decide +kernel
theorem dX7_run_108 : decode cX7_run 108 = .ok (.daload, 1) := by decide +kernel
theorem dX7_run_109 : decode cX7_run 109 = .ok (.aload_n 0, 1) := by decide +kernel
theorem dX7_run_110 : decode cX7_run 110 = .ok (.getfield 29, 3) := by decide +kernel
theorem dX7_run_113 : decode cX7_run 113 = .ok (.iload_n 3, 1) := by decide +kernel
theorem dX7_run_114 : decode cX7_run 114 = .ok (.daload, 1) := by decide +kernel
theorem dX7_run_115 : decode cX7_run 115 = .ok (.invokestatic 180, 3) := by decide +kernel
theorem dX7_run_118 : decode cX7_run 118 = .ok (.dadd, 1) := by decide +kernel
theorem dX7_run_119 : decode cX7_run 119 = .ok (.dastore, 1) := by decide +kernel
theorem dX7_run_120 : decode cX7_run 120 = .ok (.aload_n 0, 1) := by decide +kernel
theorem dX7_run_121 : decode cX7_run 121 = .ok (.getfield 13, 3) := by decide +kernel
theorem dX7_run_124 : decode cX7_run 124 = .ok (.iload_n 3, 1) := by decide +kernel
theorem dX7_run_125 : decode cX7_run 125 = .ok (.aload_n 0, 1) := by decide +kernel
theorem dX7_run_126 : decode cX7_run 126 = .ok (.getfield 13, 3) := by decide +kernel
theorem dX7_run_129 : decode cX7_run 129 = .ok (.iload_n 3, 1) := by decide +kernel
theorem dX7_run_130 : decode cX7_run 130 = .ok (.daload, 1) := by decide +kernel
theorem dX7_run_131 : decode cX7_run 131 = .ok (.aload_n 0, 1) := by decide +kernel
theorem dX7_run_132 : decode cX7_run 132 = .ok (.getfield 32, 3) := by decide +kernel
theorem dX7_run_135 : decode cX7_run 135 = .ok (.iload_n 3, 1) := by decide +kernel
theorem dX7_run_136 : decode cX7_run 136 = .ok (.daload, 1) := by decide +kernel
theorem dX7_run_137 : decode cX7_run 137 = .ok (.invokestatic 180, 3) := by decide +kernel
theorem dX7_run_140 : decode cX7_run 140 = .ok (.dadd, 1) := by decide +kernel
theorem dX7_run_141 : decode cX7_run 141 = .ok (.dastore, 1) := by decide +kernel
theorem dX7_run_142 : decode cX7_run 142 = .ok (.aload_n 0, 1) := by decide +kernel
theorem dX7_run_143 : decode cX7_run 143 = .ok (.getfield 16, 3) := by decide +kernel
theorem dX7_run_146 : decode cX7_run 146 = .ok (.iload_n 3, 1) := by decide +kernel
theorem dX7_run_147 : decode cX7_run 147 = .ok (.aload_n 0, 1) := by decide +kernel
theorem dX7_run_148 : decode cX7_run 148 = .ok (.getfield 16, 3) := by decide +kernel
theorem dX7_run_151 : decode cX7_run 151 = .ok (.iload_n 3, 1) := by decide +kernel
theorem dX7_run_152 : decode cX7_run 152 = .ok (.daload, 1) := by decide +kernel
theorem dX7_run_153 : decode cX7_run 153 = .ok (.aload_n 0, 1) := by decide +kernel
theorem dX7_run_154 : decode cX7_run 154 = .ok (.getfield 35, 3) := by decide +kernel
theorem dX7_run_157 : decode cX7_run 157 = .ok (.iload_n 3, 1) := by decide +kernel
theorem dX7_run_158 : decode cX7_run 158 = .ok (.daload, 1) := by decide +kernel
theorem dX7_run_159 : decode cX7_run 159 = .ok (.invokestatic 180, 3) := by decide +kernel
theorem dX7_run_162 : decode cX7_run 162 = .ok (.dadd, 1) := by decide +kernel
theorem dX7_run_163 : decode cX7_run 163 = .ok (.dastore, 1) := by decide +kernel
theorem dX7_run_164 : decode cX7_run 164 = .ok (.iinc 3 1, 3) := by decide +kernel
theorem dX7_run_167 : decode cX7_run 167 = .ok (.goto (-86), 3) := by decide +kernel
theorem dX7_run_170 : decode cX7_run 170 = .ok (.iinc 2 1, 3) := by decide +kernel
theorem dX7_run_173 : decode cX7_run 173 = .ok (.goto (-150), 3) := by decide +kernel
theorem dX7_run_176 : decode cX7_run 176 = .ok (.iconst (-1), 1) := by decide +kernel
theorem dX7_run_177 : decode cX7_run 177 = .ok (.ireturn, 1) := by decide +kernel
set_option maxRecDepth 100000 in
theorem ggX7_at_X7_isNode : GoodIn wsX7_at wsX7_isNode := goodIn_r _ [8, 9, 10, 11, 12, 13, 14, 15, 16, 17, 18, 19, 20, 21, 22, 23, 24, 25, 26, 27, 28, 29, 30, 31, 32, 33, 34, 35, 36, 37, 38, 39, 40] rfl (by decide +kernel)
set_option maxRecDepth 100000 in
theorem gX7_at_X7_isNode : GoodIn wsX7_at (wsV RX7 101 RX7 yX7_isNode wsX7_isNode) := goodIn_app (goodIn_of _ (by decide +kernel)) ggX7_at_X7_isNode
theorem dX7_at_0 : decode cX7_at 0 = .ok (.aload_n 0, 1) := by decide +kernel
theorem dX7_at_1 : decode cX7_at 1 = .ok (.iload_n 1, 1) := by decide +kernel
theorem dX7_at_2 : decode cX7_at 2 = .ok (.invokevirtual 101, 3) := by decide +kernel
theorem dX7_at_5 : decode cX7_at 5 = .ok (.ifCond .ne 7, 3) := by decide +kernel
theorem dX7_at_8 : decode cX7_at 8 = .ok (.dconst 0, 1) := by decide +kernel
theorem dX7_at_9 : decode cX7_at 9 = .ok (.goto 45, 3) := by decide +kernel
theorem dX7_at_12 : decode cX7_at 12 = .ok (.iload_n 2, 1) := by decide +kernel
theorem dX7_at_13 : decode cX7_at 13 = .ok (.ifCond .ne 12, 3) := by decide +kernel
theorem dX7_at_16 : decode cX7_at 16 = .ok (.aload_n 0, 1) := by decide +kernel
theorem dX7_at_17 : decode cX7_at 17 = .ok (.getfield 7, 3) := by decide +kernel
theorem dX7_at_20 : decode cX7_at 20 = .ok (.iload_n 1, 1) := by decide +kernel
theorem dX7_at_21 : decode cX7_at 21 = .ok (.daload, 1) := by decide +kernel
theorem dX7_at_22 : decode cX7_at 22 = .ok (.goto 32, 3) := by decide +kernel
theorem dX7_at_25 : decode cX7_at 25 = .ok (.iload_n 2, 1) := by decide +kernel
theorem dX7_at_26 : decode cX7_at 26 = .ok (.iconst 1, 1) := by decide +kernel
theorem dX7_at_27 : decode cX7_at 27 = .ok (.if_icmp .ne 12, 3) := by decide +kernel
theorem dX7_at_30 : decode cX7_at 30 = .ok (.aload_n 0, 1) := by decide +kernel
theorem dX7_at_31 : decode cX7_at 31 = .ok (.getfield 13, 3) := by decide +kernel
theorem dX7_at_34 : decode cX7_at 34 = .ok (.iload_n 1, 1) := by decide +kernel
theorem dX7_at_35 : decode cX7_at 35 = .ok (.daload, 1) := by decide +kernel
theorem dX7_at_36 : decode cX7_at 36 = .ok (.goto 18, 3) := by decide +kernel
theorem dX7_at_39 : decode cX7_at 39 = .ok (.iload_n 2, 1) := by decide +kernel
theorem dX7_at_40 : decode cX7_at 40 = .ok (.iconst 2, 1) := by decide +kernel
theorem dX7_at_41 : decode cX7_at 41 = .ok (.if_icmp .ne 12, 3) := by decide +kernel
theorem dX7_at_44 : decode cX7_at 44 = .ok (.aload_n 0, 1) := by decide +kernel
theorem dX7_at_45 : decode cX7_at 45 = .ok (.getfield 16, 3) := by decide +kernel
theorem dX7_at_48 : decode cX7_at 48 = .ok (.iload_n 1, 1) := by decide +kernel
theorem dX7_at_49 : decode cX7_at 49 = .ok (.daload, 1) := by decide +kernel
theorem dX7_at_50 : decode cX7_at 50 = .ok (.goto 4, 3) := by decide +kernel
theorem dX7_at_53 : decode cX7_at 53 = .ok (.dconst 0, 1) := by decide +kernel
theorem dX7_at_54 : decode cX7_at 54 = .ok (.dreturn, 1) := by decide +kernel
theorem dX7_pull_0 : decode cX7_pull 0 = .ok (.iload_n 1, 1) := by decide +kernel
theorem dX7_pull_1 : decode cX7_pull 1 = .ok (.ifCond .lt 11, 3) := by decide +kernel
theorem dX7_pull_4 : decode cX7_pull 4 = .ok (.iload_n 1, 1) := by decide +kernel
theorem dX7_pull_5 : decode cX7_pull 5 = .ok (.aload_n 0, 1) := by decide +kernel
theorem dX7_pull_6 : decode cX7_pull 6 = .ok (.getfield 105, 3) := by decide +kernel
theorem dX7_pull_9 : decode cX7_pull 9 = .ok (.if_icmp .lt 9, 3) := by decide +kernel
theorem dX7_pull_12 : decode cX7_pull 12 = .ok (.ldc2_w 66, 3) := by decide +kernel
theorem dX7_pull_15 : decode cX7_pull 15 = .ok (.goto 9, 3) := by decide +kernel
theorem dX7_pull_18 : decode cX7_pull 18 = .ok (.aload_n 0, 1) := by decide +kernel
theorem dX7_pull_19 : decode cX7_pull 19 = .ok (.getfield 54, 3) := by decide +kernel
theorem dX7_pull_22 : decode cX7_pull 22 = .ok (.iload_n 1, 1) := by decide +kernel
theorem dX7_pull_23 : decode cX7_pull 23 = .ok (.daload, 1) := by decide +kernel
theorem dX7_pull_24 : decode cX7_pull 24 = .ok (.dreturn, 1) := by decide +kernel
theorem dX7_residual_0 : decode cX7_residual 0 = .ok (.aload_n 0, 1) := by decide +kernel
theorem dX7_residual_1 : decode cX7_residual 1 = .ok (.getfield 68, 3) := by decide +kernel
theorem dX7_residual_4 : decode cX7_residual 4 = .ok (.dreturn, 1) := by decide +kernel
theorem dX7_drag_0 : decode cX7_drag 0 = .ok (.iload_n 1, 1) := by decide +kernel
theorem dX7_drag_1 : decode cX7_drag 1 = .ok (.ifCond .lt 8, 3) := by decide +kernel
theorem dX7_drag_4 : decode cX7_drag 4 = .ok (.iload_n 1, 1) := by decide +kernel
theorem dX7_drag_5 : decode cX7_drag 5 = .ok (.iconst 2, 1) := by decide +kernel
theorem dX7_drag_6 : decode cX7_drag 6 = .ok (.if_icmp .le 7, 3) := by decide +kernel
theorem dX7_drag_9 : decode cX7_drag 9 = .ok (.dconst 0, 1) := by decide +kernel
theorem dX7_drag_10 : decode cX7_drag 10 = .ok (.goto 9, 3) := by decide +kernel
theorem dX7_drag_13 : decode cX7_drag 13 = .ok (.aload_n 0, 1) := by decide +kernel
theorem dX7_drag_14 : decode cX7_drag 14 = .ok (.getfield 72, 3) := by decide +kernel
theorem dX7_drag_17 : decode cX7_drag 17 = .ok (.iload_n 1, 1) := by decide +kernel
theorem dX7_drag_18 : decode cX7_drag 18 = .ok (.daload, 1) := by decide +kernel
theorem dX7_drag_19 : decode cX7_drag 19 = .ok (.dreturn, 1) := by decide +kernel
theorem dX7_over_0 : decode cX7_over 0 = .ok (.iconst 0, 1) := by decide +kernel
theorem dX7_over_1 : decode cX7_over 1 = .ok (.istore_n 2, 1) := by decide +kernel
theorem dX7_over_2 : decode cX7_over 2 = .ok (.iconst 0, 1) := by decide +kernel
theorem dX7_over_3 : decode cX7_over 3 = .ok (.istore_n 3, 1) := by decide +kernel
theorem dX7_over_4 : decode cX7_over 4 = .ok (.iload_n 3, 1) := by decide +kernel
theorem dX7_over_5 : decode cX7_over 5 = .ok (.aload_n 0, 1) := by decide +kernel
theorem dX7_over_6 : decode cX7_over 6 = .ok (.getfield 105, 3) := by decide +kernel
theorem dX7_over_9 : decode cX7_over 9 = .ok (.if_icmp .ge 35, 3) := by decide +kernel
theorem dX7_over_12 : decode cX7_over 12 = .ok (.aload_n 0, 1) := by decide +kernel
theorem dX7_over_13 : decode cX7_over 13 = .ok (.getfield 54, 3) := by decide +kernel
theorem dX7_over_16 : decode cX7_over 16 = .ok (.iload_n 3, 1) := by decide +kernel
theorem dX7_over_17 : decode cX7_over 17 = .ok (.daload, 1) := by decide +kernel
theorem dX7_over_18 : decode cX7_over 18 = .ok (.aload_n 0, 1) := by decide +kernel
theorem dX7_over_19 : decode cX7_over 19 = .ok (.getfield 51, 3) := by decide +kernel
theorem dX7_over_22 : decode cX7_over 22 = .ok (.iload_n 3, 1) := by decide +kernel
theorem dX7_over_23 : decode cX7_over 23 = .ok (.daload, 1) := by decide +kernel
theorem dX7_over_24 : decode cX7_over 24 = .ok (.dcmp .l, 1) := by decide +kernel
theorem dX7_over_25 : decode cX7_over 25 = .ok (.ifCond .le 13, 3) := by decide +kernel
theorem dX7_over_28 : decode cX7_over 28 = .ok (.iload_n 2, 1) := by decide +kernel
theorem dX7_over_29 : decode cX7_over 29 = .ok (.iload_n 1, 1) := by decide +kernel
theorem dX7_over_30 : decode cX7_over 30 = .ok (.if_icmp .ne 5, 3) := by decide +kernel
theorem dX7_over_33 : decode cX7_over 33 = .ok (.iload_n 3, 1) := by decide +kernel
theorem dX7_over_34 : decode cX7_over 34 = .ok (.ireturn, 1) := by decide +kernel
theorem dX7_over_35 : decode cX7_over 35 = .ok (.iinc 2 1, 3) := by decide +kernel
theorem dX7_over_38 : decode cX7_over 38 = .ok (.iinc 3 1, 3) := by decide +kernel
theorem dX7_over_41 : decode cX7_over 41 = .ok (.goto (-37), 3) := by decide +kernel
theorem dX7_over_44 : decode cX7_over 44 = .ok (.iconst (-1), 1) := by decide +kernel
theorem dX7_over_45 : decode cX7_over 45 = .ok (.ireturn, 1) := by decide +kernel
set_option maxRecDepth 100000 in
theorem ggX7_open_X7_at : GoodIn wsX7_open wsX7_at := goodIn_r _ [7, 8, 9, 10, 11, 12, 13, 6, 14, 1, 27, 28, 29, 30, 31, 32, 33, 34, 35, 36, 37, 38, 39, 40, 41, 42, 43, 44, 45, 46, 47, 48, 49, 50, 51, 52, 53, 54, 55, 56, 57] rfl (by decide +kernel)
set_option maxRecDepth 100000 in
theorem gX7_open_X7_at : GoodIn wsX7_open (wsV RX7 183 RX7 yX7_at wsX7_at) := goodIn_app (goodIn_of _ (by decide +kernel)) ggX7_open_X7_at
set_option maxRecDepth 100000 in
theorem ggX7_open_J9_min_eb370 : GoodIn wsX7_open wsJ9_min_eb370 := goodIn_r _ [18, 19, 20, 21, 22, 23] rfl (by decide +kernel)
set_option maxRecDepth 100000 in
theorem gX7_open_J9_min_eb370 : GoodIn wsX7_open (va_wsS RX7 187 yJ9_min_eb370 wsJ9_min_eb370) := goodIn_app (goodIn_of _ (by decide +kernel)) ggX7_open_J9_min_eb370
set_option maxRecDepth 100000 in
theorem ggX7_open_J9_max_eb370 : GoodIn wsX7_open wsJ9_max_eb370 := goodIn_r _ [26, 19, 20, 21, 22, 23] rfl (by decide +kernel)
set_option maxRecDepth 100000 in
theorem gX7_open_J9_max_eb370 : GoodIn wsX7_open (va_wsS RX7 158 yJ9_max_eb370 wsJ9_max_eb370) := goodIn_app (goodIn_of _ (by decide +kernel)) ggX7_open_J9_max_eb370
theorem dX7_open_0 : decode cX7_open 0 = .ok (.aload_n 0, 1) := by decide +kernel
theorem dX7_open_1 : decode cX7_open 1 = .ok (.getfield 89, 3) := by decide +kernel
theorem dX7_open_4 : decode cX7_open 4 = .ok (.ifCond .eq 12, 3) := by decide +kernel
theorem dX7_open_7 : decode cX7_open 7 = .ok (.iload_n 1, 1) := by decide +kernel
theorem dX7_open_8 : decode cX7_open 8 = .ok (.ifCond .lt 8, 3) := by decide +kernel
theorem dX7_open_11 : decode cX7_open 11 = .ok (.iload_n 1, 1) := by decide +kernel
theorem dX7_open_12 : decode cX7_open 12 = .ok (.iconst 2, 1) := by decide +kernel
theorem dX7_open_13 : decode cX7_open 13 = .ok (.if_icmp .le 7, 3) := by decide +kernel
theorem dX7_open_16 : decode cX7_open 16 = .ok (.ldc2_w 66, 3) := by decide +kernel
theorem dX7_open_19 : decode cX7_open 19 = .ok (.dreturn, 1) := by decide +kernel
theorem dX7_open_20 : decode cX7_open 20 = .ok (.aload_n 0, 1) := by decide +kernel
theorem dX7_open_21 : decode cX7_open 21 = .ok (.iconst 0, 1) := by decide +kernel
theorem dX7_open_22 : decode cX7_open 22 = .ok (.iload_n 1, 1) := by decide +kernel
theorem dX7_open_23 : decode cX7_open 23 = .ok (.invokevirtual 183, 3) := by decide +kernel
theorem dX7_open_26 : decode cX7_open 26 = .ok (.dstore_n 2, 1) := by decide +kernel
theorem dX7_open_27 : decode cX7_open 27 = .ok (.dload_n 2, 1) := by decide +kernel
theorem dX7_open_28 : decode cX7_open 28 = .ok (.dstore 4, 2) := by decide +kernel
theorem dX7_open_30 : decode cX7_open 30 = .ok (.iconst 1, 1) := by decide +kernel
theorem dX7_open_31 : decode cX7_open 31 = .ok (.istore 6, 2) := by decide +kernel
theorem dX7_open_33 : decode cX7_open 33 = .ok (.iload 6, 2) := by decide +kernel
theorem dX7_open_35 : decode cX7_open 35 = .ok (.aload_n 0, 1) := by decide +kernel
theorem dX7_open_36 : decode cX7_open 36 = .ok (.getfield 89, 3) := by decide +kernel
theorem dX7_open_39 : decode cX7_open 39 = .ok (.if_icmp .ge 35, 3) := by decide +kernel
theorem dX7_open_42 : decode cX7_open 42 = .ok (.dload_n 2, 1) := by decide +kernel
theorem dX7_open_43 : decode cX7_open 43 = .ok (.aload_n 0, 1) := by decide +kernel
theorem dX7_open_44 : decode cX7_open 44 = .ok (.iload 6, 2) := by decide +kernel
theorem dX7_open_46 : decode cX7_open 46 = .ok (.iload_n 1, 1) := by decide +kernel
theorem dX7_open_47 : decode cX7_open 47 = .ok (.invokevirtual 183, 3) := by decide +kernel
theorem dX7_open_50 : decode cX7_open 50 = .ok (.invokestatic 187, 3) := by decide +kernel
theorem dX7_open_53 : decode cX7_open 53 = .ok (.dstore_n 2, 1) := by decide +kernel
theorem dX7_open_54 : decode cX7_open 54 = .ok (.dload 4, 2) := by decide +kernel
theorem dX7_open_56 : decode cX7_open 56 = .ok (.aload_n 0, 1) := by decide +kernel
theorem dX7_open_57 : decode cX7_open 57 = .ok (.iload 6, 2) := by decide +kernel
theorem dX7_open_59 : decode cX7_open 59 = .ok (.iload_n 1, 1) := by decide +kernel
theorem dX7_open_60 : decode cX7_open 60 = .ok (.invokevirtual 183, 3) := by decide +kernel
theorem dX7_open_63 : decode cX7_open 63 = .ok (.invokestatic 158, 3) := by decide +kernel
theorem dX7_open_66 : decode cX7_open 66 = .ok (.dstore 4, 2) := by decide +kernel
theorem dX7_open_68 : decode cX7_open 68 = .ok (.iinc 6 1, 3) := by decide +kernel
theorem dX7_open_71 : decode cX7_open 71 = .ok (.goto (-38), 3) := by decide +kernel
theorem dX7_open_74 : decode cX7_open 74 = .ok (.dload 4, 2) := by decide +kernel
theorem dX7_open_76 : decode cX7_open 76 = .ok (.dload_n 2, 1) := by decide +kernel
theorem dX7_open_77 : decode cX7_open 77 = .ok (.dsub, 1) := by decide +kernel
theorem dX7_open_78 : decode cX7_open 78 = .ok (.dreturn, 1) := by decide +kernel
theorem dX7_mirrored_0 : decode cX7_mirrored 0 = .ok (.iconst 1, 1) := by decide +kernel
theorem dX7_mirrored_1 : decode cX7_mirrored 1 = .ok (.istore_n 1, 1) := by decide +kernel
theorem dX7_mirrored_2 : decode cX7_mirrored 2 = .ok (.iconst 0, 1) := by decide +kernel
theorem dX7_mirrored_3 : decode cX7_mirrored 3 = .ok (.istore_n 2, 1) := by decide +kernel
theorem dX7_mirrored_4 : decode cX7_mirrored 4 = .ok (.iload_n 2, 1) := by decide +kernel
theorem dX7_mirrored_5 : decode cX7_mirrored 5 = .ok (.aload_n 0, 1) := by decide +kernel
theorem dX7_mirrored_6 : decode cX7_mirrored 6 = .ok (.getfield 89, 3) := by decide +kernel
theorem dX7_mirrored_9 : decode cX7_mirrored 9 = .ok (.if_icmp .ge 106, 3) := by decide +kernel
theorem dX7_mirrored_12 : decode cX7_mirrored 12 = .ok (.iconst 0, 1) := by decide +kernel
theorem dX7_mirrored_13 : decode cX7_mirrored 13 = .ok (.istore_n 3, 1) := by decide +kernel
theorem dX7_mirrored_14 : decode cX7_mirrored 14 = .ok (.iconst 0, 1) := by decide +kernel
theorem dX7_mirrored_15 : decode cX7_mirrored 15 = .ok (.istore 4, 2) := by decide +kernel
theorem dX7_mirrored_17 : decode cX7_mirrored 17 = .ok (.iload 4, 2) := by decide +kernel
theorem dX7_mirrored_19 : decode cX7_mirrored 19 = .ok (.aload_n 0, 1) := by decide +kernel
theorem dX7_mirrored_20 : decode cX7_mirrored 20 = .ok (.getfield 89, 3) := by decide +kernel
theorem dX7_mirrored_23 : decode cX7_mirrored 23 = .ok (.if_icmp .ge 72, 3) := by decide +kernel
theorem dX7_mirrored_26 : decode cX7_mirrored 26 = .ok (.iload_n 3, 1) := by decide +kernel
theorem dX7_mirrored_27 : decode cX7_mirrored 27 = .ok (.ifCond .ne 56, 3) := by decide +kernel
theorem dX7_mirrored_30 : decode cX7_mirrored 30 = .ok (.aload_n 0, 1) := by decide +kernel
theorem dX7_mirrored_31 : decode cX7_mirrored 31 = .ok (.getfield 7, 3) := by decide +kernel
theorem dX7_mirrored_34 : decode cX7_mirrored 34 = .ok (.iload 4, 2) := by decide +kernel
theorem dX7_mirrored_36 : decode cX7_mirrored 36 = .ok (.daload, 1) := by decide +kernel
theorem dX7_mirrored_37 : decode cX7_mirrored 37 = .ok (.dconst 0, 1) := by decide +kernel
theorem dX7_mirrored_38 : decode cX7_mirrored 38 = .ok (.aload_n 0, 1) := by decide +kernel
theorem dX7_mirrored_39 : decode cX7_mirrored 39 = .ok (.getfield 7, 3) := by decide +kernel
theorem dX7_mirrored_42 : decode cX7_mirrored 42 = .ok (.iload_n 2, 1) := by decide +kernel
theorem dX7_mirrored_43 : decode cX7_mirrored 43 = .ok (.daload, 1) := by decide +kernel
theorem dX7_mirrored_44 : decode cX7_mirrored 44 = .ok (.dsub, 1) := by decide +kernel
theorem dX7_mirrored_45 : decode cX7_mirrored 45 = .ok (.dcmp .l, 1) := by decide +kernel
theorem dX7_mirrored_46 : decode cX7_mirrored 46 = .ok (.ifCond .ne 41, 3) := by decide +kernel
theorem dX7_mirrored_49 : decode cX7_mirrored 49 = .ok (.aload_n 0, 1) := by decide +kernel
theorem dX7_mirrored_50 : decode cX7_mirrored 50 = .ok (.getfield 13, 3) := by decide +kernel
theorem dX7_mirrored_53 : decode cX7_mirrored 53 = .ok (.iload 4, 2) := by decide +kernel
theorem dX7_mirrored_55 : decode cX7_mirrored 55 = .ok (.daload, 1) := by decide +kernel
theorem dX7_mirrored_56 : decode cX7_mirrored 56 = .ok (.aload_n 0, 1) := by decide +kernel
theorem dX7_mirrored_57 : decode cX7_mirrored 57 = .ok (.getfield 13, 3) := by decide +kernel
theorem dX7_mirrored_60 : decode cX7_mirrored 60 = .ok (.iload_n 2, 1) := by decide +kernel
theorem dX7_mirrored_61 : decode cX7_mirrored 61 = .ok (.daload, 1) := by decide +kernel
theorem dX7_mirrored_62 : decode cX7_mirrored 62 = .ok (.dcmp .l, 1) := by decide +kernel
theorem dX7_mirrored_63 : decode cX7_mirrored 63 = .ok (.ifCond .ne 24, 3) := by decide +kernel
theorem dX7_mirrored_66 : decode cX7_mirrored 66 = .ok (.aload_n 0, 1) := by decide +kernel
theorem dX7_mirrored_67 : decode cX7_mirrored 67 = .ok (.getfield 16, 3) := by decide +kernel
theorem dX7_mirrored_70 : decode cX7_mirrored 70 = .ok (.iload 4, 2) := by decide +kernel
theorem dX7_mirrored_72 : decode cX7_mirrored 72 = .ok (.daload, 1) := by decide +kernel
theorem dX7_mirrored_73 : decode cX7_mirrored 73 = .ok (.aload_n 0, 1) := by decide +kernel
theorem dX7_mirrored_74 : decode cX7_mirrored 74 = .ok (.getfield 16, 3) := by decide +kernel
theorem dX7_mirrored_77 : decode cX7_mirrored 77 = .ok (.iload_n 2, 1) := by decide +kernel
theorem dX7_mirrored_78 : decode cX7_mirrored 78 = .ok (.daload, 1) := by decide +kernel
theorem dX7_mirrored_79 : decode cX7_mirrored 79 = .ok (.dcmp .l, 1) := by decide +kernel
theorem dX7_mirrored_80 : decode cX7_mirrored 80 = .ok (.ifCond .ne 7, 3) := by decide +kernel
theorem dX7_mirrored_83 : decode cX7_mirrored 83 = .ok (.iconst 1, 1) := by decide +kernel
theorem dX7_mirrored_84 : decode cX7_mirrored 84 = .ok (.goto 4, 3) := by decide +kernel
theorem dX7_mirrored_87 : decode cX7_mirrored 87 = .ok (.iconst 0, 1) := by decide +kernel
theorem dX7_mirrored_88 : decode cX7_mirrored 88 = .ok (.istore_n 3, 1) := by decide +kernel
theorem dX7_mirrored_89 : decode cX7_mirrored 89 = .ok (.iinc 4 1, 3) := by decide +kernel
theorem dX7_mirrored_92 : decode cX7_mirrored 92 = .ok (.goto (-75), 3) := by decide +kernel
theorem dX7_mirrored_95 : decode cX7_mirrored 95 = .ok (.iload_n 1, 1) := by decide +kernel
theorem dX7_mirrored_96 : decode cX7_mirrored 96 = .ok (.ifCond .eq 11, 3) := by decide +kernel
theorem dX7_mirrored_99 : decode cX7_mirrored 99 = .ok (.iload_n 3, 1) := by decide +kernel
theorem dX7_mirrored_100 : decode cX7_mirrored 100 = .ok (.ifCond .eq 7, 3) := by decide +kernel
theorem dX7_mirrored_103 : decode cX7_mirrored 103 = .ok (.iconst 1, 1) := by decide +kernel
theorem dX7_mirrored_104 : decode cX7_mirrored 104 = .ok (.goto 4, 3) := by decide +kernel
theorem dX7_mirrored_107 : decode cX7_mirrored 107 = .ok (.iconst 0, 1) := by decide +kernel
theorem dX7_mirrored_108 : decode cX7_mirrored 108 = .ok (.istore_n 1, 1) := by decide +kernel
theorem dX7_mirrored_109 : decode cX7_mirrored 109 = .ok (.iinc 2 1, 3) := by decide +kernel
theorem dX7_mirrored_112 : decode cX7_mirrored 112 = .ok (.goto (-108), 3) := by decide +kernel
theorem dX7_mirrored_115 : decode cX7_mirrored 115 = .ok (.iload_n 1, 1) := by decide +kernel
theorem dX7_mirrored_116 : decode cX7_mirrored 116 = .ok (.ireturn, 1) := by decide +kernel
theorem dX7_best_0 : decode cX7_best 0 = .ok (.iload_n 1, 1) := by decide +kernel
theorem dX7_best_1 : decode cX7_best 1 = .ok (.iconst 1, 1) := by decide +kernel
theorem dX7_best_2 : decode cX7_best 2 = .ok (.if_icmp .lt 16, 3) := by decide +kernel
theorem dX7_best_5 : decode cX7_best 5 = .ok (.iload_n 1, 1) := by decide +kernel
theorem dX7_best_6 : decode cX7_best 6 = .ok (.bipush 20, 2) := by decide +kernel
theorem dX7_best_8 : decode cX7_best 8 = .ok (.if_icmp .gt 10, 3) := by decide +kernel
theorem dX7_best_11 : decode cX7_best 11 = .ok (.aload_n 0, 1) := by decide +kernel
theorem dX7_best_12 : decode cX7_best 12 = .ok (.getfield 173, 3) := by decide +kernel
theorem dX7_best_15 : decode cX7_best 15 = .ok (.ifCond .ne 5, 3) := by decide +kernel
theorem dX7_best_18 : decode cX7_best 18 = .ok (.iconst (-1), 1) := by decide +kernel
theorem dX7_best_19 : decode cX7_best 19 = .ok (.ireturn, 1) := by decide +kernel
theorem dX7_best_20 : decode cX7_best 20 = .ok (.iconst 0, 1) := by decide +kernel
theorem dX7_best_21 : decode cX7_best 21 = .ok (.istore_n 2, 1) := by decide +kernel
theorem dX7_best_22 : decode cX7_best 22 = .ok (.iconst 1, 1) := by decide +kernel
theorem dX7_best_23 : decode cX7_best 23 = .ok (.istore_n 3, 1) := by decide +kernel
theorem dX7_best_24 : decode cX7_best 24 = .ok (.iload_n 3, 1) := by decide +kernel
theorem dX7_best_25 : decode cX7_best 25 = .ok (.iload_n 1, 1) := by decide +kernel
theorem dX7_best_26 : decode cX7_best 26 = .ok (.if_icmp .ge 53, 3) := by decide +kernel
theorem dX7_best_29 : decode cX7_best 29 = .ok (.iload_n 3, 1) := by decide +kernel
theorem dX7_best_30 : decode cX7_best 30 = .ok (.aload_n 0, 1) := by decide +kernel
theorem dX7_best_31 : decode cX7_best 31 = .ok (.getfield 173, 3) := by decide +kernel
theorem dX7_best_34 : decode cX7_best 34 = .ok (.if_icmp .ge 45, 3) := by decide +kernel
theorem dX7_best_37 : decode cX7_best 37 = .ok (.aload_n 0, 1) := by decide +kernel
theorem dX7_best_38 : decode cX7_best 38 = .ok (.getfield 75, 3) := by decide +kernel
theorem dX7_best_41 : decode cX7_best 41 = .ok (.aload_n 0, 1) := by decide +kernel
theorem dX7_best_42 : decode cX7_best 42 = .ok (.getfield 173, 3) := by decide +kernel
theorem dX7_best_45 : decode cX7_best 45 = .ok (.iconst 1, 1) := by decide +kernel
theorem dX7_best_46 : decode cX7_best 46 = .ok (.isub, 1) := by decide +kernel
theorem dX7_best_47 : decode cX7_best 47 = .ok (.iload_n 3, 1) := by decide +kernel
theorem dX7_best_48 : decode cX7_best 48 = .ok (.isub, 1) := by decide +kernel
theorem dX7_best_49 : decode cX7_best 49 = .ok (.daload, 1) := by decide +kernel
theorem dX7_best_50 : decode cX7_best 50 = .ok (.aload_n 0, 1) := by decide +kernel
theorem dX7_best_51 : decode cX7_best 51 = .ok (.getfield 75, 3) := by decide +kernel
theorem dX7_best_54 : decode cX7_best 54 = .ok (.aload_n 0, 1) := by decide +kernel
theorem dX7_best_55 : decode cX7_best 55 = .ok (.getfield 173, 3) := by decide +kernel
theorem dX7_best_58 : decode cX7_best 58 = .ok (.iconst 1, 1) := by decide +kernel
theorem dX7_best_59 : decode cX7_best 59 = .ok (.isub, 1) := by decide +kernel
theorem dX7_best_60 : decode cX7_best 60 = .ok (.iload_n 2, 1) := by decide +kernel
theorem dX7_best_61 : decode cX7_best 61 = .ok (.isub, 1) := by decide +kernel
theorem dX7_best_62 : decode cX7_best 62 = .ok (.daload, 1) := by decide +kernel
theorem dX7_best_63 : decode cX7_best 63 = .ok (.dcmp .g, 1) := by decide +kernel
theorem dX7_best_64 : decode cX7_best 64 = .ok (.ifCond .ge 7, 3) := by decide +kernel
theorem dX7_best_67 : decode cX7_best 67 = .ok (.iload_n 3, 1) := by decide +kernel
theorem dX7_best_68 : decode cX7_best 68 = .ok (.goto 4, 3) := by decide +kernel
theorem dX7_best_71 : decode cX7_best 71 = .ok (.iload_n 2, 1) := by decide +kernel
theorem dX7_best_72 : decode cX7_best 72 = .ok (.istore_n 2, 1) := by decide +kernel
theorem dX7_best_73 : decode cX7_best 73 = .ok (.iinc 3 1, 3) := by decide +kernel
theorem dX7_best_76 : decode cX7_best 76 = .ok (.goto (-52), 3) := by decide +kernel
theorem dX7_best_79 : decode cX7_best 79 = .ok (.iload_n 2, 1) := by decide +kernel
theorem dX7_best_80 : decode cX7_best 80 = .ok (.ireturn, 1) := by decide +kernel
theorem dX7_panel_0 : decode cX7_panel 0 = .ok (.aload_n 0, 1) := by decide +kernel
theorem dX7_panel_1 : decode cX7_panel 1 = .ok (.getfield 190, 3) := by decide +kernel
theorem dX7_panel_4 : decode cX7_panel 4 = .ok (.bipush 30, 2) := by decide +kernel
theorem dX7_panel_6 : decode cX7_panel 6 = .ok (.if_icmp .eq 39, 3) := by decide +kernel
theorem dX7_panel_9 : decode cX7_panel 9 = .ok (.iload_n 1, 1) := by decide +kernel
theorem dX7_panel_10 : decode cX7_panel 10 = .ok (.iconst 1, 1) := by decide +kernel
theorem dX7_panel_11 : decode cX7_panel 11 = .ok (.if_icmp .lt 34, 3) := by decide +kernel
theorem dX7_panel_14 : decode cX7_panel 14 = .ok (.iload_n 1, 1) := by decide +kernel
theorem dX7_panel_15 : decode cX7_panel 15 = .ok (.sipush 400, 3) := by decide +kernel
theorem dX7_panel_18 : decode cX7_panel 18 = .ok (.if_icmp .gt 27, 3) := by decide +kernel
theorem dX7_panel_21 : decode cX7_panel 21 = .ok (.iload_n 2, 1) := by decide +kernel
theorem dX7_panel_22 : decode cX7_panel 22 = .ok (.iconst 1, 1) := by decide +kernel
theorem dX7_panel_23 : decode cX7_panel 23 = .ok (.if_icmp .lt 22, 3) := by decide +kernel
theorem dX7_panel_26 : decode cX7_panel 26 = .ok (.iload_n 2, 1) := by decide +kernel
theorem dX7_panel_27 : decode cX7_panel 27 = .ok (.sipush 400, 3) := by decide +kernel
theorem dX7_panel_30 : decode cX7_panel 30 = .ok (.if_icmp .gt 15, 3) := by decide +kernel
theorem dX7_panel_33 : decode cX7_panel 33 = .ok (.iload_n 3, 1) := by decide +kernel
theorem dX7_panel_34 : decode cX7_panel 34 = .ok (.iconst 1, 1) := by decide +kernel
theorem dX7_panel_35 : decode cX7_panel 35 = .ok (.if_icmp .lt 10, 3) := by decide +kernel
theorem dX7_panel_38 : decode cX7_panel 38 = .ok (.iload_n 3, 1) := by decide +kernel
theorem dX7_panel_39 : decode cX7_panel 39 = .ok (.sipush 200, 3) := by decide +kernel
theorem dX7_panel_42 : decode cX7_panel 42 = .ok (.if_icmp .le 5, 3) := by decide +kernel
theorem dX7_panel_45 : decode cX7_panel 45 = .ok (.iconst (-1), 1) := by decide +kernel
theorem dX7_panel_46 : decode cX7_panel 46 = .ok (.ireturn, 1) := by decide +kernel
theorem dX7_panel_47 : decode cX7_panel 47 = .ok (.aload_n 0, 1) := by decide +kernel
theorem dX7_panel_48 : decode cX7_panel 48 = .ok (.getfield 78, 3) := by decide +kernel
theorem dX7_panel_51 : decode cX7_panel 51 = .ok (.aload_n 0, 1) := by decide +kernel
theorem dX7_panel_52 : decode cX7_panel 52 = .ok (.getfield 190, 3) := by decide +kernel
theorem dX7_panel_55 : decode cX7_panel 55 = .ok (.iload_n 1, 1) := by decide +kernel
theorem dX7_panel_56 : decode cX7_panel 56 = .ok (.iastore, 1) := by decide +kernel
theorem dX7_panel_57 : decode cX7_panel 57 = .ok (.aload_n 0, 1) := by decide +kernel
theorem dX7_panel_58 : decode cX7_panel 58 = .ok (.getfield 81, 3) := by decide +kernel
theorem dX7_panel_61 : decode cX7_panel 61 = .ok (.aload_n 0, 1) := by decide +kernel
theorem dX7_panel_62 : decode cX7_panel 62 = .ok (.getfield 190, 3) := by decide +kernel
theorem dX7_panel_65 : decode cX7_panel 65 = .ok (.iload_n 2, 1) := by decide +kernel
theorem dX7_panel_66 : decode cX7_panel 66 = .ok (.iastore, 1) := by decide +kernel
theorem dX7_panel_67 : decode cX7_panel 67 = .ok (.aload_n 0, 1) := by decide +kernel
theorem dX7_panel_68 : decode cX7_panel 68 = .ok (.getfield 84, 3) := by decide +kernel
theorem dX7_panel_71 : decode cX7_panel 71 = .ok (.aload_n 0, 1) := by decide +kernel
theorem dX7_panel_72 : decode cX7_panel 72 = .ok (.getfield 190, 3) := by decide +kernel
theorem dX7_panel_75 : decode cX7_panel 75 = .ok (.iload_n 3, 1) := by decide +kernel
theorem dX7_panel_76 : decode cX7_panel 76 = .ok (.iastore, 1) := by decide +kernel
theorem dX7_panel_77 : decode cX7_panel 77 = .ok (.aload_n 0, 1) := by decide +kernel
theorem dX7_panel_78 : decode cX7_panel 78 = .ok (.dup, 1) := by decide +kernel
theorem dX7_panel_79 : decode cX7_panel 79 = .ok (.getfield 190, 3) := by decide +kernel
theorem dX7_panel_82 : decode cX7_panel 82 = .ok (.iconst 1, 1) := by decide +kernel
theorem dX7_panel_83 : decode cX7_panel 83 = .ok (.iadd, 1) := by decide +kernel
theorem dX7_panel_84 : decode cX7_panel 84 = .ok (.putfield 190, 3) := by decide +kernel
theorem dX7_panel_87 : decode cX7_panel 87 = .ok (.aload_n 0, 1) := by decide +kernel
theorem dX7_panel_88 : decode cX7_panel 88 = .ok (.getfield 190, 3) := by decide +kernel
theorem dX7_panel_91 : decode cX7_panel 91 = .ok (.iconst 1, 1) := by decide +kernel
theorem dX7_panel_92 : decode cX7_panel 92 = .ok (.isub, 1) := by decide +kernel
theorem dX7_panel_93 : decode cX7_panel 93 = .ok (.ireturn, 1) := by decide +kernel
theorem dX7_isPanel_0 : decode cX7_isPanel 0 = .ok (.iload_n 1, 1) := by decide +kernel
theorem dX7_isPanel_1 : decode cX7_isPanel 1 = .ok (.ifCond .lt 15, 3) := by decide +kernel
theorem dX7_isPanel_4 : decode cX7_isPanel 4 = .ok (.iload_n 1, 1) := by decide +kernel
theorem dX7_isPanel_5 : decode cX7_isPanel 5 = .ok (.aload_n 0, 1) := by decide +kernel
theorem dX7_isPanel_6 : decode cX7_isPanel 6 = .ok (.getfield 190, 3) := by decide +kernel
theorem dX7_isPanel_9 : decode cX7_isPanel 9 = .ok (.if_icmp .ge 7, 3) := by decide +kernel
theorem dX7_isPanel_12 : decode cX7_isPanel 12 = .ok (.iconst 1, 1) := by decide +kernel
theorem dX7_isPanel_13 : decode cX7_isPanel 13 = .ok (.goto 4, 3) := by decide +kernel
theorem dX7_isPanel_16 : decode cX7_isPanel 16 = .ok (.iconst 0, 1) := by decide +kernel
theorem dX7_isPanel_17 : decode cX7_isPanel 17 = .ok (.ireturn, 1) := by decide +kernel
theorem dX7_meshes_0 : decode cX7_meshes 0 = .ok (.aload_n 0, 1) := by decide +kernel
theorem dX7_meshes_1 : decode cX7_meshes 1 = .ok (.getfield 78, 3) := by decide +kernel
theorem dX7_meshes_4 : decode cX7_meshes 4 = .ok (.iload_n 1, 1) := by decide +kernel
theorem dX7_meshes_5 : decode cX7_meshes 5 = .ok (.iaload, 1) := by decide +kernel
theorem dX7_meshes_6 : decode cX7_meshes 6 = .ok (.aload_n 0, 1) := by decide +kernel
theorem dX7_meshes_7 : decode cX7_meshes 7 = .ok (.getfield 81, 3) := by decide +kernel
theorem dX7_meshes_10 : decode cX7_meshes 10 = .ok (.iload_n 1, 1) := by decide +kernel
theorem dX7_meshes_11 : decode cX7_meshes 11 = .ok (.iaload, 1) := by decide +kernel
theorem dX7_meshes_12 : decode cX7_meshes 12 = .ok (.aload_n 0, 1) := by decide +kernel
theorem dX7_meshes_13 : decode cX7_meshes 13 = .ok (.getfield 78, 3) := by decide +kernel
theorem dX7_meshes_16 : decode cX7_meshes 16 = .ok (.iload_n 1, 1) := by decide +kernel
theorem dX7_meshes_17 : decode cX7_meshes 17 = .ok (.iaload, 1) := by decide +kernel
theorem dX7_meshes_18 : decode cX7_meshes 18 = .ok (.isub, 1) := by decide +kernel
theorem dX7_meshes_19 : decode cX7_meshes 19 = .ok (.iload_n 2, 1) := by decide +kernel
theorem dX7_meshes_20 : decode cX7_meshes 20 = .ok (.iconst 1, 1) := by decide +kernel
theorem dX7_meshes_21 : decode cX7_meshes 21 = .ok (.iadd, 1) := by decide +kernel
theorem dX7_meshes_22 : decode cX7_meshes 22 = .ok (.imul, 1) := by decide +kernel
theorem dX7_meshes_23 : decode cX7_meshes 23 = .ok (.aload_n 0, 1) := by decide +kernel
theorem dX7_meshes_24 : decode cX7_meshes 24 = .ok (.getfield 84, 3) := by decide +kernel
theorem dX7_meshes_27 : decode cX7_meshes 27 = .ok (.iload_n 1, 1) := by decide +kernel
theorem dX7_meshes_28 : decode cX7_meshes 28 = .ok (.iaload, 1) := by decide +kernel
theorem dX7_meshes_29 : decode cX7_meshes 29 = .ok (.idiv, 1) := by decide +kernel
theorem dX7_meshes_30 : decode cX7_meshes 30 = .ok (.iadd, 1) := by decide +kernel
theorem dX7_meshes_31 : decode cX7_meshes 31 = .ok (.ireturn, 1) := by decide +kernel
set_option maxRecDepth 100000 in
theorem ggX7_cut_X7_isPanel : GoodIn wsX7_cut wsX7_isPanel := goodIn_r _ [6, 7, 14, 15, 16, 17, 18, 19, 20, 21, 22, 23, 24, 25, 26, 27, 28, 29, 30, 31, 32, 33, 34, 35, 36, 37, 38, 39, 40, 41, 42, 43, 44] rfl (by decide +kernel)
set_option maxRecDepth 100000 in
theorem gX7_cut_X7_isPanel : GoodIn wsX7_cut (wsV RX7 193 RX7 yX7_isPanel wsX7_isPanel) := goodIn_app (goodIn_of _ (by decide +kernel)) ggX7_cut_X7_isPanel
set_option maxRecDepth 100000 in
theorem ggX7_cut_X7_meshes : GoodIn wsX7_cut wsX7_meshes := goodIn_r _ [11, 12, 13, 1, 14, 15, 16, 17, 18, 19, 20, 21, 22, 23, 24, 25, 26, 27, 28, 29, 30, 31, 32, 33, 34, 35, 36, 37, 38, 39, 40, 41, 42, 43, 44] rfl (by decide +kernel)
set_option maxRecDepth 100000 in
theorem gX7_cut_X7_meshes : GoodIn wsX7_cut (wsV RX7 196 RX7 yX7_meshes wsX7_meshes) := goodIn_app (goodIn_of _ (by decide +kernel)) ggX7_cut_X7_meshes
theorem dX7_cut_0 : decode cX7_cut 0 = .ok (.aload_n 0, 1) := by decide +kernel
theorem dX7_cut_1 : decode cX7_cut 1 = .ok (.iload_n 1, 1) := by decide +kernel
theorem dX7_cut_2 : decode cX7_cut 2 = .ok (.invokevirtual 193, 3) := by decide +kernel
theorem dX7_cut_5 : decode cX7_cut 5 = .ok (.ifCond .eq 26, 3) := by decide +kernel
theorem dX7_cut_8 : decode cX7_cut 8 = .ok (.iload_n 2, 1) := by decide +kernel
theorem dX7_cut_9 : decode cX7_cut 9 = .ok (.ifCond .lt 22, 3) := by decide +kernel
theorem dX7_cut_12 : decode cX7_cut 12 = .ok (.iload_n 2, 1) := by decide +kernel
theorem dX7_cut_13 : decode cX7_cut 13 = .ok (.aload_n 0, 1) := by decide +kernel
theorem dX7_cut_14 : decode cX7_cut 14 = .ok (.getfield 84, 3) := by decide +kernel
theorem dX7_cut_17 : decode cX7_cut 17 = .ok (.iload_n 1, 1) := by decide +kernel
theorem dX7_cut_18 : decode cX7_cut 18 = .ok (.iaload, 1) := by decide +kernel
theorem dX7_cut_19 : decode cX7_cut 19 = .ok (.if_icmp .ge 12, 3) := by decide +kernel
theorem dX7_cut_22 : decode cX7_cut 22 = .ok (.iload_n 3, 1) := by decide +kernel
theorem dX7_cut_23 : decode cX7_cut 23 = .ok (.ifCond .lt 8, 3) := by decide +kernel
theorem dX7_cut_26 : decode cX7_cut 26 = .ok (.iload_n 3, 1) := by decide +kernel
theorem dX7_cut_27 : decode cX7_cut 27 = .ok (.iconst 1, 1) := by decide +kernel
theorem dX7_cut_28 : decode cX7_cut 28 = .ok (.if_icmp .le 5, 3) := by decide +kernel
theorem dX7_cut_31 : decode cX7_cut 31 = .ok (.iconst (-1), 1) := by decide +kernel
theorem dX7_cut_32 : decode cX7_cut 32 = .ok (.ireturn, 1) := by decide +kernel
theorem dX7_cut_33 : decode cX7_cut 33 = .ok (.iload_n 3, 1) := by decide +kernel
theorem dX7_cut_34 : decode cX7_cut 34 = .ok (.ifCond .ne 12, 3) := by decide +kernel
theorem dX7_cut_37 : decode cX7_cut 37 = .ok (.aload_n 0, 1) := by decide +kernel
theorem dX7_cut_38 : decode cX7_cut 38 = .ok (.iload_n 1, 1) := by decide +kernel
theorem dX7_cut_39 : decode cX7_cut 39 = .ok (.iload_n 2, 1) := by decide +kernel
theorem dX7_cut_40 : decode cX7_cut 40 = .ok (.invokevirtual 196, 3) := by decide +kernel
theorem dX7_cut_43 : decode cX7_cut 43 = .ok (.goto 18, 3) := by decide +kernel
theorem dX7_cut_46 : decode cX7_cut 46 = .ok (.aload_n 0, 1) := by decide +kernel
theorem dX7_cut_47 : decode cX7_cut 47 = .ok (.iload_n 1, 1) := by decide +kernel
theorem dX7_cut_48 : decode cX7_cut 48 = .ok (.iload_n 2, 1) := by decide +kernel
theorem dX7_cut_49 : decode cX7_cut 49 = .ok (.invokevirtual 196, 3) := by decide +kernel
theorem dX7_cut_52 : decode cX7_cut 52 = .ok (.aload_n 0, 1) := by decide +kernel
theorem dX7_cut_53 : decode cX7_cut 53 = .ok (.iload_n 1, 1) := by decide +kernel
theorem dX7_cut_54 : decode cX7_cut 54 = .ok (.iload_n 2, 1) := by decide +kernel
theorem dX7_cut_55 : decode cX7_cut 55 = .ok (.iconst 1, 1) := by decide +kernel
theorem dX7_cut_56 : decode cX7_cut 56 = .ok (.isub, 1) := by decide +kernel
theorem dX7_cut_57 : decode cX7_cut 57 = .ok (.invokevirtual 196, 3) := by decide +kernel
theorem dX7_cut_60 : decode cX7_cut 60 = .ok (.isub, 1) := by decide +kernel
theorem dX7_cut_61 : decode cX7_cut 61 = .ok (.ireturn, 1) := by decide +kernel
set_option maxRecDepth 100000 in
theorem ggX7_whole_X7_isPanel : GoodIn wsX7_whole wsX7_isPanel := goodIn_r _ [7, 8, 9, 10, 11, 12, 13, 14, 15, 16, 17, 18, 19, 20, 21, 22, 23, 24, 25, 26, 27, 28, 29, 30, 31, 32, 33, 34, 35, 36, 37, 38, 39] rfl (by decide +kernel)
set_option maxRecDepth 100000 in
theorem gX7_whole_X7_isPanel : GoodIn wsX7_whole (wsV RX7 193 RX7 yX7_isPanel wsX7_isPanel) := goodIn_app (goodIn_of _ (by decide +kernel)) ggX7_whole_X7_isPanel
theorem dX7_whole_0 : decode cX7_whole 0 = .ok (.aload_n 0, 1) := by decide +kernel
theorem dX7_whole_1 : decode cX7_whole 1 = .ok (.iload_n 1, 1) := by decide +kernel
theorem dX7_whole_2 : decode cX7_whole 2 = .ok (.invokevirtual 193, 3) := by decide +kernel
theorem dX7_whole_5 : decode cX7_whole 5 = .ok (.ifCond .eq 25, 3) := by decide +kernel
theorem dX7_whole_8 : decode cX7_whole 8 = .ok (.aload_n 0, 1) := by decide +kernel
theorem dX7_whole_9 : decode cX7_whole 9 = .ok (.getfield 81, 3) := by decide +kernel
theorem dX7_whole_12 : decode cX7_whole 12 = .ok (.iload_n 1, 1) := by decide +kernel
theorem dX7_whole_13 : decode cX7_whole 13 = .ok (.iaload, 1) := by decide +kernel
theorem dX7_whole_14 : decode cX7_whole 14 = .ok (.aload_n 0, 1) := by decide +kernel
theorem dX7_whole_15 : decode cX7_whole 15 = .ok (.getfield 78, 3) := by decide +kernel
theorem dX7_whole_18 : decode cX7_whole 18 = .ok (.iload_n 1, 1) := by decide +kernel
theorem dX7_whole_19 : decode cX7_whole 19 = .ok (.iaload, 1) := by decide +kernel
theorem dX7_whole_20 : decode cX7_whole 20 = .ok (.isub, 1) := by decide +kernel
theorem dX7_whole_21 : decode cX7_whole 21 = .ok (.iconst 2, 1) := by decide +kernel
theorem dX7_whole_22 : decode cX7_whole 22 = .ok (.irem, 1) := by decide +kernel
theorem dX7_whole_23 : decode cX7_whole 23 = .ok (.ifCond .ne 7, 3) := by decide +kernel
theorem dX7_whole_26 : decode cX7_whole 26 = .ok (.iconst 1, 1) := by decide +kernel
theorem dX7_whole_27 : decode cX7_whole 27 = .ok (.goto 4, 3) := by decide +kernel
theorem dX7_whole_30 : decode cX7_whole 30 = .ok (.iconst 0, 1) := by decide +kernel
theorem dX7_whole_31 : decode cX7_whole 31 = .ok (.ireturn, 1) := by decide +kernel
set_option maxRecDepth 100000 in
theorem ggX7_edge_X7_isPanel : GoodIn wsX7_edge wsX7_isPanel := goodIn_r _ [11, 12, 13, 14, 15, 16, 17, 18, 19, 20, 21, 22, 23, 24, 25, 26, 27, 28, 29, 30, 31, 32, 33, 34, 35, 36, 37, 38, 39, 40, 41, 42, 43] rfl (by decide +kernel)
set_option maxRecDepth 100000 in
theorem gX7_edge_X7_isPanel : GoodIn wsX7_edge (wsV RX7 193 RX7 yX7_isPanel wsX7_isPanel) := goodIn_app (goodIn_of _ (by decide +kernel)) ggX7_edge_X7_isPanel
theorem dX7_edge_0 : decode cX7_edge 0 = .ok (.aload_n 0, 1) := by decide +kernel
theorem dX7_edge_1 : decode cX7_edge 1 = .ok (.iload_n 1, 1) := by decide +kernel
theorem dX7_edge_2 : decode cX7_edge 2 = .ok (.invokevirtual 193, 3) := by decide +kernel
theorem dX7_edge_5 : decode cX7_edge 5 = .ok (.ifCond .eq 11, 3) := by decide +kernel
theorem dX7_edge_8 : decode cX7_edge 8 = .ok (.aload_n 0, 1) := by decide +kernel
theorem dX7_edge_9 : decode cX7_edge 9 = .ok (.iload_n 2, 1) := by decide +kernel
theorem dX7_edge_10 : decode cX7_edge 10 = .ok (.invokevirtual 193, 3) := by decide +kernel
theorem dX7_edge_13 : decode cX7_edge 13 = .ok (.ifCond .ne 7, 3) := by decide +kernel
theorem dX7_edge_16 : decode cX7_edge 16 = .ok (.iconst (-1), 1) := by decide +kernel
theorem dX7_edge_17 : decode cX7_edge 17 = .ok (.goto 18, 3) := by decide +kernel
theorem dX7_edge_20 : decode cX7_edge 20 = .ok (.aload_n 0, 1) := by decide +kernel
theorem dX7_edge_21 : decode cX7_edge 21 = .ok (.getfield 81, 3) := by decide +kernel
theorem dX7_edge_24 : decode cX7_edge 24 = .ok (.iload_n 1, 1) := by decide +kernel
theorem dX7_edge_25 : decode cX7_edge 25 = .ok (.iaload, 1) := by decide +kernel
theorem dX7_edge_26 : decode cX7_edge 26 = .ok (.aload_n 0, 1) := by decide +kernel
theorem dX7_edge_27 : decode cX7_edge 27 = .ok (.getfield 78, 3) := by decide +kernel
theorem dX7_edge_30 : decode cX7_edge 30 = .ok (.iload_n 2, 1) := by decide +kernel
theorem dX7_edge_31 : decode cX7_edge 31 = .ok (.iaload, 1) := by decide +kernel
theorem dX7_edge_32 : decode cX7_edge 32 = .ok (.invokestatic 200, 3) := by decide +kernel
theorem dX7_edge_35 : decode cX7_edge 35 = .ok (.ireturn, 1) := by decide +kernel
set_option maxRecDepth 100000 in
theorem ggX7_sheet_X7_isPanel : GoodIn wsX7_sheet wsX7_isPanel := goodIn_r _ [12, 13, 14, 15, 16, 17, 18, 19, 20, 21, 22, 23, 24, 25, 26, 27, 28, 29, 30, 31, 32, 33, 34, 35, 36, 37, 38, 39, 40, 41, 42, 43, 44] rfl (by decide +kernel)
set_option maxRecDepth 100000 in
theorem gX7_sheet_X7_isPanel : GoodIn wsX7_sheet (wsV RX7 193 RX7 yX7_isPanel wsX7_isPanel) := goodIn_app (goodIn_of _ (by decide +kernel)) ggX7_sheet_X7_isPanel
theorem dX7_sheet_0 : decode cX7_sheet 0 = .ok (.aload_n 0, 1) := by decide +kernel
theorem dX7_sheet_1 : decode cX7_sheet 1 = .ok (.iload_n 1, 1) := by decide +kernel
theorem dX7_sheet_2 : decode cX7_sheet 2 = .ok (.invokevirtual 193, 3) := by decide +kernel
theorem dX7_sheet_5 : decode cX7_sheet 5 = .ok (.ifCond .eq 12, 3) := by decide +kernel
theorem dX7_sheet_8 : decode cX7_sheet 8 = .ok (.iload_n 2, 1) := by decide +kernel
theorem dX7_sheet_9 : decode cX7_sheet 9 = .ok (.ifCond .lt 8, 3) := by decide +kernel
theorem dX7_sheet_12 : decode cX7_sheet 12 = .ok (.iload_n 2, 1) := by decide +kernel
theorem dX7_sheet_13 : decode cX7_sheet 13 = .ok (.iconst 1, 1) := by decide +kernel
theorem dX7_sheet_14 : decode cX7_sheet 14 = .ok (.if_icmp .le 5, 3) := by decide +kernel
theorem dX7_sheet_17 : decode cX7_sheet 17 = .ok (.iconst (-1), 1) := by decide +kernel
theorem dX7_sheet_18 : decode cX7_sheet 18 = .ok (.ireturn, 1) := by decide +kernel
theorem dX7_sheet_19 : decode cX7_sheet 19 = .ok (.iconst 0, 1) := by decide +kernel
theorem dX7_sheet_20 : decode cX7_sheet 20 = .ok (.istore_n 3, 1) := by decide +kernel
theorem dX7_sheet_21 : decode cX7_sheet 21 = .ok (.iconst 0, 1) := by decide +kernel
theorem dX7_sheet_22 : decode cX7_sheet 22 = .ok (.istore 4, 2) := by decide +kernel
theorem dX7_sheet_24 : decode cX7_sheet 24 = .ok (.iconst 0, 1) := by decide +kernel
theorem dX7_sheet_25 : decode cX7_sheet 25 = .ok (.istore 5, 2) := by decide +kernel
theorem dX7_sheet_27 : decode cX7_sheet 27 = .ok (.iconst 0, 1) := by decide +kernel
theorem dX7_sheet_28 : decode cX7_sheet 28 = .ok (.istore 6, 2) := by decide +kernel
theorem dX7_sheet_30 : decode cX7_sheet 30 = .ok (.iload 6, 2) := by decide +kernel
theorem dX7_sheet_32 : decode cX7_sheet 32 = .ok (.iload_n 1, 1) := by decide +kernel
theorem dX7_sheet_33 : decode cX7_sheet 33 = .ok (.if_icmp .gt 86, 3) := by decide +kernel
theorem dX7_sheet_36 : decode cX7_sheet 36 = .ok (.aload_n 0, 1) := by decide +kernel
theorem dX7_sheet_37 : decode cX7_sheet 37 = .ok (.getfield 78, 3) := by decide +kernel
theorem dX7_sheet_40 : decode cX7_sheet 40 = .ok (.iload 6, 2) := by decide +kernel
theorem dX7_sheet_42 : decode cX7_sheet 42 = .ok (.iaload, 1) := by decide +kernel
theorem dX7_sheet_43 : decode cX7_sheet 43 = .ok (.aload_n 0, 1) := by decide +kernel
theorem dX7_sheet_44 : decode cX7_sheet 44 = .ok (.getfield 81, 3) := by decide +kernel
theorem dX7_sheet_47 : decode cX7_sheet 47 = .ok (.iload 6, 2) := by decide +kernel
theorem dX7_sheet_49 : decode cX7_sheet 49 = .ok (.iaload, 1) := by decide +kernel
theorem dX7_sheet_50 : decode cX7_sheet 50 = .ok (.invokestatic 202, 3) := by decide +kernel
theorem dX7_sheet_53 : decode cX7_sheet 53 = .ok (.istore 7, 2) := by decide +kernel
theorem dX7_sheet_55 : decode cX7_sheet 55 = .ok (.iload_n 3, 1) := by decide +kernel
theorem dX7_sheet_56 : decode cX7_sheet 56 = .ok (.iload 7, 2) := by decide +kernel
theorem dX7_sheet_58 : decode cX7_sheet 58 = .ok (.iadd, 1) := by decide +kernel
theorem dX7_sheet_59 : decode cX7_sheet 59 = .ok (.sipush 400, 3) := by decide +kernel
theorem dX7_sheet_62 : decode cX7_sheet 62 = .ok (.if_icmp .le 15, 3) := by decide +kernel
theorem dX7_sheet_65 : decode cX7_sheet 65 = .ok (.iload 4, 2) := by decide +kernel
theorem dX7_sheet_67 : decode cX7_sheet 67 = .ok (.iload 5, 2) := by decide +kernel
theorem dX7_sheet_69 : decode cX7_sheet 69 = .ok (.iadd, 1) := by decide +kernel
theorem dX7_sheet_70 : decode cX7_sheet 70 = .ok (.istore 4, 2) := by decide +kernel
theorem dX7_sheet_72 : decode cX7_sheet 72 = .ok (.iconst 0, 1) := by decide +kernel
theorem dX7_sheet_73 : decode cX7_sheet 73 = .ok (.istore_n 3, 1) := by decide +kernel
theorem dX7_sheet_74 : decode cX7_sheet 74 = .ok (.iconst 0, 1) := by decide +kernel
theorem dX7_sheet_75 : decode cX7_sheet 75 = .ok (.istore 5, 2) := by decide +kernel
theorem dX7_sheet_77 : decode cX7_sheet 77 = .ok (.iload 6, 2) := by decide +kernel
theorem dX7_sheet_79 : decode cX7_sheet 79 = .ok (.iload_n 1, 1) := by decide +kernel
theorem dX7_sheet_80 : decode cX7_sheet 80 = .ok (.if_icmp .ne 14, 3) := by decide +kernel
theorem dX7_sheet_83 : decode cX7_sheet 83 = .ok (.iload_n 2, 1) := by decide +kernel
theorem dX7_sheet_84 : decode cX7_sheet 84 = .ok (.ifCond .ne 7, 3) := by decide +kernel
theorem dX7_sheet_87 : decode cX7_sheet 87 = .ok (.iload_n 3, 1) := by decide +kernel
theorem dX7_sheet_88 : decode cX7_sheet 88 = .ok (.goto 5, 3) := by decide +kernel
theorem dX7_sheet_91 : decode cX7_sheet 91 = .ok (.iload 4, 2) := by decide +kernel
theorem dX7_sheet_93 : decode cX7_sheet 93 = .ok (.ireturn, 1) := by decide +kernel
theorem dX7_sheet_94 : decode cX7_sheet 94 = .ok (.iload_n 3, 1) := by decide +kernel
theorem dX7_sheet_95 : decode cX7_sheet 95 = .ok (.iload 7, 2) := by decide +kernel
theorem dX7_sheet_97 : decode cX7_sheet 97 = .ok (.iadd, 1) := by decide +kernel
theorem dX7_sheet_98 : decode cX7_sheet 98 = .ok (.istore_n 3, 1) := by decide +kernel
theorem dX7_sheet_99 : decode cX7_sheet 99 = .ok (.iload 5, 2) := by decide +kernel
theorem dX7_sheet_101 : decode cX7_sheet 101 = .ok (.aload_n 0, 1) := by decide +kernel
theorem dX7_sheet_102 : decode cX7_sheet 102 = .ok (.getfield 84, 3) := by decide +kernel
theorem dX7_sheet_105 : decode cX7_sheet 105 = .ok (.iload 6, 2) := by decide +kernel
theorem dX7_sheet_107 : decode cX7_sheet 107 = .ok (.iaload, 1) := by decide +kernel
theorem dX7_sheet_108 : decode cX7_sheet 108 = .ok (.invokestatic 202, 3) := by decide +kernel
theorem dX7_sheet_111 : decode cX7_sheet 111 = .ok (.istore 5, 2) := by decide +kernel
theorem dX7_sheet_113 : decode cX7_sheet 113 = .ok (.iinc 6 1, 3) := by decide +kernel
theorem dX7_sheet_116 : decode cX7_sheet 116 = .ok (.goto (-86), 3) := by decide +kernel
theorem dX7_sheet_119 : decode cX7_sheet 119 = .ok (.iconst (-1), 1) := by decide +kernel
theorem dX7_sheet_120 : decode cX7_sheet 120 = .ok (.ireturn, 1) := by decide +kernel
