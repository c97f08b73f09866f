set_option maxRecDepth 20000 in
theorem ggX7_init_X1_init : GoodIn wsX7_init wsX1_init := goodIn_r _ [27, 28, 2, 3, 4, 29, 53, 54, 55, 56, 57, 58] (by decide +kernel) (by decide +kernel)
set_option maxRecDepth 20000 in
theorem gX7_init_X1_init_n47 : GoodIn wsX7_init (wsX1_init) := ggX7_init_X1_init
set_option maxRecDepth 20000 in
theorem ggX7_init_X4_init : GoodIn wsX7_init wsX4_init := goodIn_r _ [31, 32, 2, 3, 4, 33, 34, 35, 36, 59, 60, 61, 62, 63] (by decide +kernel) (by decide +kernel)
set_option maxRecDepth 20000 in
theorem gX7_init_X4_init_n57 : GoodIn wsX7_init (wsX4_init) := ggX7_init_X4_init
theorem dX7_init_0 : decode cX7_init 0 = .ok (.aload_n 0, 1) := by decide +kernel
theorem dX7_init_1 : decode cX7_init 1 = .ok (.invokespecial 1, 3) := by decide +kernel
theorem dX7_init_4 : decode cX7_init 4 = .ok (.aload_n 0, 1) := by decide +kernel
theorem dX7_init_5 : decode cX7_init 5 = .ok (.bipush 8, 2) := by decide +kernel
theorem dX7_init_7 : decode cX7_init 7 = .ok (.newarray .int, 2) := by decide +kernel
theorem dX7_init_9 : decode cX7_init 9 = .ok (.putfield 9, 3) := by decide +kernel
theorem dX7_init_12 : decode cX7_init 12 = .ok (.aload_n 0, 1) := by decide +kernel
theorem dX7_init_13 : decode cX7_init 13 = .ok (.bipush 8, 2) := by decide +kernel
theorem dX7_init_15 : decode cX7_init 15 = .ok (.newarray .int, 2) := by decide +kernel
theorem dX7_init_17 : decode cX7_init 17 = .ok (.putfield 13, 3) := by decide +kernel
theorem dX7_init_20 : decode cX7_init 20 = .ok (.aload_n 0, 1) := by decide +kernel
theorem dX7_init_21 : decode cX7_init 21 = .ok (.iconst 5, 1) := by decide +kernel
theorem dX7_init_22 : decode cX7_init 22 = .ok (.anewarray 16, 3) := by decide +kernel
theorem dX7_init_25 : decode cX7_init 25 = .ok (.putfield 18, 3) := by decide +kernel
theorem dX7_init_28 : decode cX7_init 28 = .ok (.aload_n 0, 1) := by decide +kernel
theorem dX7_init_29 : decode cX7_init 29 = .ok (.bipush 8, 2) := by decide +kernel
theorem dX7_init_31 : decode cX7_init 31 = .ok (.newarray .int, 2) := by decide +kernel
theorem dX7_init_33 : decode cX7_init 33 = .ok (.putfield 22, 3) := by decide +kernel
theorem dX7_init_36 : decode cX7_init 36 = .ok (.aload_n 0, 1) := by decide +kernel
theorem dX7_init_37 : decode cX7_init 37 = .ok (.bipush 8, 2) := by decide +kernel
theorem dX7_init_39 : decode cX7_init 39 = .ok (.newarray .int, 2) := by decide +kernel
theorem dX7_init_41 : decode cX7_init 41 = .ok (.putfield 25, 3) := by decide +kernel
theorem dX7_init_44 : decode cX7_init 44 = .ok (.aload_n 0, 1) := by decide +kernel
theorem dX7_init_45 : decode cX7_init 45 = .ok (.iconst 5, 1) := by decide +kernel
theorem dX7_init_46 : decode cX7_init 46 = .ok (.anewarray 16, 3) := by decide +kernel
theorem dX7_init_49 : decode cX7_init 49 = .ok (.putfield 28, 3) := by decide +kernel
theorem dX7_init_52 : decode cX7_init 52 = .ok (.aload_n 0, 1) := by decide +kernel
theorem dX7_init_53 : decode cX7_init 53 = .ok (.bipush 20, 2) := by decide +kernel
theorem dX7_init_55 : decode cX7_init 55 = .ok (.newarray .int, 2) := by decide +kernel
theorem dX7_init_57 : decode cX7_init 57 = .ok (.putfield 31, 3) := by decide +kernel
theorem dX7_init_60 : decode cX7_init 60 = .ok (.aload_n 0, 1) := by decide +kernel
theorem dX7_init_61 : decode cX7_init 61 = .ok (.bipush 60, 2) := by decide +kernel
theorem dX7_init_63 : decode cX7_init 63 = .ok (.newarray .int, 2) := by decide +kernel
theorem dX7_init_65 : decode cX7_init 65 = .ok (.putfield 34, 3) := by decide +kernel
theorem dX7_init_68 : decode cX7_init 68 = .ok (.aload_n 0, 1) := by decide +kernel
theorem dX7_init_69 : decode cX7_init 69 = .ok (.iconst 3, 1) := by decide +kernel
theorem dX7_init_70 : decode cX7_init 70 = .ok (.bipush 60, 2) := by decide +kernel
theorem dX7_init_72 : decode cX7_init 72 = .ok (.multianewarray 37 2, 4) := by decide +kernel
theorem dX7_init_76 : decode cX7_init 76 = .ok (.putfield 39, 3) := by decide +kernel
theorem dX7_init_79 : decode cX7_init 79 = .ok (.aload_n 0, 1) := by decide +kernel
theorem dX7_init_80 : decode cX7_init 80 = .ok (.iconst 3, 1) := by decide +kernel
theorem dX7_init_81 : decode cX7_init 81 = .ok (.newarray .int, 2) := by decide +kernel
theorem dX7_init_83 : decode cX7_init 83 = .ok (.putfield 42, 3) := by decide +kernel
theorem dX7_init_86 : decode cX7_init 86 = .ok (.aload_n 0, 1) := by decide +kernel
theorem dX7_init_87 : decode cX7_init 87 = .ok (.new 45, 3) := by decide +kernel
theorem dX7_init_90 : decode cX7_init 90 = .ok (.dup, 1) := by decide +kernel
theorem dX7_init_91 : decode cX7_init 91 = .ok (.invokespecial 47, 3) := by decide +kernel
theorem dX7_init_94 : decode cX7_init 94 = .ok (.putfield 48, 3) := by decide +kernel
theorem dX7_init_97 : decode cX7_init 97 = .ok (.aload_n 0, 1) := by decide +kernel
theorem dX7_init_98 : decode cX7_init 98 = .ok (.new 45, 3) := by decide +kernel
theorem dX7_init_101 : decode cX7_init 101 = .ok (.dup, 1) := by decide +kernel
theorem dX7_init_102 : decode cX7_init 102 = .ok (.invokespecial 47, 3) := by decide +kernel
theorem dX7_init_105 : decode cX7_init 105 = .ok (.putfield 52, 3) := by decide +kernel
theorem dX7_init_108 : decode cX7_init 108 = .ok (.aload_n 0, 1) := by decide +kernel
theorem dX7_init_109 : decode cX7_init 109 = .ok (.new 55, 3) := by decide +kernel
theorem dX7_init_112 : decode cX7_init 112 = .ok (.dup, 1) := by decide +kernel
theorem dX7_init_113 : decode cX7_init 113 = .ok (.invokespecial 57, 3) := by decide +kernel
theorem dX7_init_116 : decode cX7_init 116 = .ok (.putfield 58, 3) := by decide +kernel
theorem dX7_init_119 : decode cX7_init 119 = .ok (.iconst 0, 1) := by decide +kernel
theorem dX7_init_120 : decode cX7_init 120 = .ok (.istore_n 1, 1) := by decide +kernel
theorem dX7_init_121 : decode cX7_init 121 = .ok (.iload_n 1, 1) := by decide +kernel
theorem dX7_init_122 : decode cX7_init 122 = .ok (.bipush 8, 2) := by decide +kernel
theorem dX7_init_124 : decode cX7_init 124 = .ok (.if_icmp .ge 23, 3) := by decide +kernel
theorem dX7_init_127 : decode cX7_init 127 = .ok (.aload_n 0, 1) := by decide +kernel
theorem dX7_init_128 : decode cX7_init 128 = .ok (.getfield 9, 3) := by decide +kernel
theorem dX7_init_131 : decode cX7_init 131 = .ok (.iload_n 1, 1) := by decide +kernel
theorem dX7_init_132 : decode cX7_init 132 = .ok (.iconst 1, 1) := by decide +kernel
theorem dX7_init_133 : decode cX7_init 133 = .ok (.iastore, 1) := by decide +kernel
theorem dX7_init_134 : decode cX7_init 134 = .ok (.aload_n 0, 1) := by decide +kernel
theorem dX7_init_135 : decode cX7_init 135 = .ok (.getfield 13, 3) := by decide +kernel
theorem dX7_init_138 : decode cX7_init 138 = .ok (.iload_n 1, 1) := by decide +kernel
theorem dX7_init_139 : decode cX7_init 139 = .ok (.iconst 1, 1) := by decide +kernel
theorem dX7_init_140 : decode cX7_init 140 = .ok (.iastore, 1) := by decide +kernel
theorem dX7_init_141 : decode cX7_init 141 = .ok (.iinc 1 1, 3) := by decide +kernel
theorem dX7_init_144 : decode cX7_init 144 = .ok (.goto (-23), 3) := by decide +kernel
theorem dX7_init_147 : decode cX7_init 147 = .ok (.iconst 0, 1) := by decide +kernel
theorem dX7_init_148 : decode cX7_init 148 = .ok (.istore_n 1, 1) := by decide +kernel
theorem dX7_init_149 : decode cX7_init 149 = .ok (.iload_n 1, 1) := by decide +kernel
theorem dX7_init_150 : decode cX7_init 150 = .ok (.iconst 3, 1) := by decide +kernel
theorem dX7_init_151 : decode cX7_init 151 = .ok (.if_icmp .ge 16, 3) := by decide +kernel
theorem dX7_init_154 : decode cX7_init 154 = .ok (.aload_n 0, 1) := by decide +kernel
theorem dX7_init_155 : decode cX7_init 155 = .ok (.getfield 42, 3) := by decide +kernel
theorem dX7_init_158 : decode cX7_init 158 = .ok (.iload_n 1, 1) := by decide +kernel
theorem dX7_init_159 : decode cX7_init 159 = .ok (.iconst (-1), 1) := by decide +kernel
theorem dX7_init_160 : decode cX7_init 160 = .ok (.iastore, 1) := by decide +kernel
theorem dX7_init_161 : decode cX7_init 161 = .ok (.iinc 1 1, 3) := by decide +kernel
theorem dX7_init_164 : decode cX7_init 164 = .ok (.goto (-15), 3) := by decide +kernel
theorem dX7_init_167 : decode cX7_init 167 = .ok (.return_, 1) := by decide +kernel
set_option maxRecDepth 20000 in
theorem ggX7_set_X7_isRegister : GoodIn wsX7_set wsX7_isRegister := goodIn_r _ [5] (by decide +kernel) (by decide +kernel)
set_option maxRecDepth 20000 in
theorem gX7_set_X7_isRegister : GoodIn wsX7_set (va_wsS RX7 62 yX7_isRegister wsX7_isRegister) := goodIn_app (goodIn_of _ (by decide +kernel)) ggX7_set_X7_isRegister
set_option maxRecDepth 20000 in
theorem ggX7_set_X7_isIn : GoodIn wsX7_set wsX7_isIn := goodIn_r _ [8] (by decide +kernel) (by decide +kernel)
set_option maxRecDepth 20000 in
theorem gX7_set_X7_isIn : GoodIn wsX7_set (va_wsS RX7 67 yX7_isIn wsX7_isIn) := goodIn_app (goodIn_of _ (by decide +kernel)) ggX7_set_X7_isIn
set_option maxRecDepth 20000 in
theorem ggX7_set_X7_store : GoodIn wsX7_set wsX7_store := goodIn_r _ [12, 13, 14, 15, 16, 17, 4, 18, 19, 20, 21, 22, 23, 24, 25, 26, 27, 28, 29, 30, 31, 32, 33, 34, 35, 36, 37] (by decide +kernel) (by decide +kernel)
set_option maxRecDepth 20000 in
theorem gX7_set_X7_store : GoodIn wsX7_set (wsV RX7 71 RX7 yX7_store wsX7_store) := goodIn_app (goodIn_of _ (by decide +kernel)) ggX7_set_X7_store
theorem dX7_set_0 : decode cX7_set 0 = .ok (.iload_n 1, 1) := by decide +kernel
theorem dX7_set_1 : decode cX7_set 1 = .ok (.invokestatic 62, 3) := by decide +kernel
theorem dX7_set_4 : decode cX7_set 4 = .ok (.ifCond .eq 23, 3) := by decide +kernel
theorem dX7_set_7 : decode cX7_set 7 = .ok (.iload_n 2, 1) := by decide +kernel
theorem dX7_set_8 : decode cX7_set 8 = .ok (.iconst 1, 1) := by decide +kernel
theorem dX7_set_9 : decode cX7_set 9 = .ok (.ldc 66, 2) := by decide +kernel
theorem dX7_set_11 : decode cX7_set 11 = .ok (.invokestatic 67, 3) := by decide +kernel
theorem dX7_set_14 : decode cX7_set 14 = .ok (.ifCond .eq 13, 3) := by decide +kernel
theorem dX7_set_17 : decode cX7_set 17 = .ok (.iload_n 3, 1) := by decide +kernel
theorem dX7_set_18 : decode cX7_set 18 = .ok (.iconst 1, 1) := by decide +kernel
theorem dX7_set_19 : decode cX7_set 19 = .ok (.ldc 66, 2) := by decide +kernel
theorem dX7_set_21 : decode cX7_set 21 = .ok (.invokestatic 67, 3) := by decide +kernel
theorem dX7_set_24 : decode cX7_set 24 = .ok (.ifCond .ne 5, 3) := by decide +kernel
theorem dX7_set_27 : decode cX7_set 27 = .ok (.iconst (-1), 1) := by decide +kernel
theorem dX7_set_28 : decode cX7_set 28 = .ok (.ireturn, 1) := by decide +kernel
theorem dX7_set_29 : decode cX7_set 29 = .ok (.aload_n 0, 1) := by decide +kernel
theorem dX7_set_30 : decode cX7_set 30 = .ok (.iload_n 1, 1) := by decide +kernel
theorem dX7_set_31 : decode cX7_set 31 = .ok (.iload_n 2, 1) := by decide +kernel
theorem dX7_set_32 : decode cX7_set 32 = .ok (.i2l, 1) := by decide +kernel
theorem dX7_set_33 : decode cX7_set 33 = .ok (.iload_n 3, 1) := by decide +kernel
theorem dX7_set_34 : decode cX7_set 34 = .ok (.i2l, 1) := by decide +kernel
theorem dX7_set_35 : decode cX7_set 35 = .ok (.invokevirtual 71, 3) := by decide +kernel
theorem dX7_set_38 : decode cX7_set 38 = .ok (.ireturn, 1) := by decide +kernel
set_option maxRecDepth 20000 in
theorem ggX7_compare_X7_isRegister : GoodIn wsX7_compare wsX7_isRegister := goodIn_r _ [4] (by decide +kernel) (by decide +kernel)
set_option maxRecDepth 20000 in
theorem gX7_compare_X7_isRegister : GoodIn wsX7_compare (va_wsS RX7 62 yX7_isRegister wsX7_isRegister) := goodIn_app (goodIn_of _ (by decide +kernel)) ggX7_compare_X7_isRegister
set_option maxRecDepth 20000 in
theorem ggX7_compare_X7_crossDifference : GoodIn wsX7_compare wsX7_crossDifference := goodIn_r _ [8, 9, 10, 11, 12, 13, 14, 15, 16, 17, 18, 19, 20, 21, 22, 23, 24, 25, 26] (by decide +kernel) (by decide +kernel)
set_option maxRecDepth 20000 in
theorem gX7_compare_X7_crossDifference : GoodIn wsX7_compare (wsV RX7 75 RX7 yX7_crossDifference wsX7_crossDifference) := goodIn_app (goodIn_of _ (by decide +kernel)) ggX7_compare_X7_crossDifference
theorem dX7_compare_0 : decode cX7_compare 0 = .ok (.iload_n 1, 1) := by decide +kernel
theorem dX7_compare_1 : decode cX7_compare 1 = .ok (.invokestatic 62, 3) := by decide +kernel
theorem dX7_compare_4 : decode cX7_compare 4 = .ok (.ifCond .eq 10, 3) := by decide +kernel
theorem dX7_compare_7 : decode cX7_compare 7 = .ok (.iload_n 2, 1) := by decide +kernel
theorem dX7_compare_8 : decode cX7_compare 8 = .ok (.invokestatic 62, 3) := by decide +kernel
theorem dX7_compare_11 : decode cX7_compare 11 = .ok (.ifCond .ne 5, 3) := by decide +kernel
theorem dX7_compare_14 : decode cX7_compare 14 = .ok (.iconst (-1), 1) := by decide +kernel
theorem dX7_compare_15 : decode cX7_compare 15 = .ok (.ireturn, 1) := by decide +kernel
theorem dX7_compare_16 : decode cX7_compare 16 = .ok (.aload_n 0, 1) := by decide +kernel
theorem dX7_compare_17 : decode cX7_compare 17 = .ok (.iload_n 1, 1) := by decide +kernel
theorem dX7_compare_18 : decode cX7_compare 18 = .ok (.iload_n 2, 1) := by decide +kernel
theorem dX7_compare_19 : decode cX7_compare 19 = .ok (.invokevirtual 75, 3) := by decide +kernel
theorem dX7_compare_22 : decode cX7_compare 22 = .ok (.lstore_n 3, 1) := by decide +kernel
theorem dX7_compare_23 : decode cX7_compare 23 = .ok (.lload_n 3, 1) := by decide +kernel
theorem dX7_compare_24 : decode cX7_compare 24 = .ok (.lconst 0, 1) := by decide +kernel
theorem dX7_compare_25 : decode cX7_compare 25 = .ok (.lcmp, 1) := by decide +kernel
theorem dX7_compare_26 : decode cX7_compare 26 = .ok (.ifCond .ge 5, 3) := by decide +kernel
theorem dX7_compare_29 : decode cX7_compare 29 = .ok (.iconst 0, 1) := by decide +kernel
theorem dX7_compare_30 : decode cX7_compare 30 = .ok (.ireturn, 1) := by decide +kernel
theorem dX7_compare_31 : decode cX7_compare 31 = .ok (.lload_n 3, 1) := by decide +kernel
theorem dX7_compare_32 : decode cX7_compare 32 = .ok (.lconst 0, 1) := by decide +kernel
theorem dX7_compare_33 : decode cX7_compare 33 = .ok (.lcmp, 1) := by decide +kernel
theorem dX7_compare_34 : decode cX7_compare 34 = .ok (.ifCond .ne 7, 3) := by decide +kernel
theorem dX7_compare_37 : decode cX7_compare 37 = .ok (.iconst 1, 1) := by decide +kernel
theorem dX7_compare_38 : decode cX7_compare 38 = .ok (.goto 4, 3) := by decide +kernel
theorem dX7_compare_41 : decode cX7_compare 41 = .ok (.iconst 2, 1) := by decide +kernel
theorem dX7_compare_42 : decode cX7_compare 42 = .ok (.ireturn, 1) := by decide +kernel
set_option maxRecDepth 20000 in
theorem ggX7_depth_X7_isRegister : GoodIn wsX7_depth wsX7_isRegister := goodIn_r _ [4] (by decide +kernel) (by decide +kernel)
set_option maxRecDepth 20000 in
theorem gX7_depth_X7_isRegister : GoodIn wsX7_depth (va_wsS RX7 62 yX7_isRegister wsX7_isRegister) := goodIn_app (goodIn_of _ (by decide +kernel)) ggX7_depth_X7_isRegister
set_option maxRecDepth 20000 in
theorem ggX7_depth_X7_expand : GoodIn wsX7_depth wsX7_expand := goodIn_r _ [8, 9, 10, 11, 12, 13, 14, 15, 16, 17, 18, 19, 20, 21, 22, 35, 36, 37, 38, 39, 40, 41, 42, 43, 44, 45, 46, 47, 48, 49, 50, 51, 52, 53, 54, 55, 56] (by decide +kernel) (by decide +kernel)
set_option maxRecDepth 20000 in
theorem gX7_depth_X7_expand : GoodIn wsX7_depth (wsV RX7 81 RX7 yX7_expand wsX7_expand) := goodIn_app (goodIn_of _ (by decide +kernel)) ggX7_depth_X7_expand
set_option maxRecDepth 20000 in
theorem ggX7_depth_X1_stepCount : GoodIn wsX7_depth wsX1_stepCount := goodIn_r _ [26, 17, 27, 28, 29, 15, 30, 31, 32, 33, 34, 22, 51, 52, 53, 54, 55, 56] (by decide +kernel) (by decide +kernel)
set_option maxRecDepth 20000 in
theorem gX7_depth_X1_stepCount : GoodIn wsX7_depth (wsV RX7 85 RX1 yX1_stepCount wsX1_stepCount) := goodIn_app (goodIn_of _ (by decide +kernel)) ggX7_depth_X1_stepCount
theorem dX7_depth_0 : decode cX7_depth 0 = .ok (.iload_n 1, 1) := by decide +kernel
theorem dX7_depth_1 : decode cX7_depth 1 = .ok (.invokestatic 62, 3) := by decide +kernel
theorem dX7_depth_4 : decode cX7_depth 4 = .ok (.ifCond .eq 14, 3) := by decide +kernel
theorem dX7_depth_7 : decode cX7_depth 7 = .ok (.aload_n 0, 1) := by decide +kernel
theorem dX7_depth_8 : decode cX7_depth 8 = .ok (.iload_n 1, 1) := by decide +kernel
theorem dX7_depth_9 : decode cX7_depth 9 = .ok (.invokevirtual 81, 3) := by decide +kernel
theorem dX7_depth_12 : decode cX7_depth 12 = .ok (.invokevirtual 85, 3) := by decide +kernel
theorem dX7_depth_15 : decode cX7_depth 15 = .ok (.goto 4, 3) := by decide +kernel
theorem dX7_depth_18 : decode cX7_depth 18 = .ok (.iconst (-1), 1) := by decide +kernel
theorem dX7_depth_19 : decode cX7_depth 19 = .ok (.ireturn, 1) := by decide +kernel
set_option maxRecDepth 20000 in
theorem ggX7_commonAncestor_X7_isRegister : GoodIn wsX7_commonAncestor wsX7_isRegister := goodIn_r _ [7] (by decide +kernel) (by decide +kernel)
set_option maxRecDepth 20000 in
theorem gX7_commonAncestor_X7_isRegister : GoodIn wsX7_commonAncestor (va_wsS RX7 62 yX7_isRegister wsX7_isRegister) := goodIn_app (goodIn_of _ (by decide +kernel)) ggX7_commonAncestor_X7_isRegister
set_option maxRecDepth 20000 in
theorem ggX7_commonAncestor_X7_expand : GoodIn wsX7_commonAncestor wsX7_expand := goodIn_r _ [11, 12, 2, 3, 13, 14, 15, 16, 17, 18, 19, 20, 21, 22, 23, 71, 72, 73, 74, 75, 76, 77, 78, 79, 80, 81, 82, 83, 84, 85, 86, 87, 88, 89, 90, 91, 92] (by decide +kernel) (by decide +kernel)
set_option maxRecDepth 20000 in
theorem gX7_commonAncestor_X7_expand : GoodIn wsX7_commonAncestor (wsV RX7 81 RX7 yX7_expand wsX7_expand) := goodIn_app (goodIn_of _ (by decide +kernel)) ggX7_commonAncestor_X7_expand
set_option maxRecDepth 20000 in
theorem ggX7_commonAncestor_X1_expand : GoodIn wsX7_commonAncestor wsX1_expand := goodIn_r _ [17, 18, 19, 20, 21, 16, 22, 23, 87, 88, 89, 90, 91, 92] (by decide +kernel) (by decide +kernel)
set_option maxRecDepth 20000 in
theorem gX7_commonAncestor_X1_expand : GoodIn wsX7_commonAncestor (wsV RX7 117 RX1 yX1_expand wsX1_expand) := goodIn_app (goodIn_of _ (by decide +kernel)) ggX7_commonAncestor_X1_expand
set_option maxRecDepth 20000 in
theorem ggX7_commonAncestor_X1_commonSteps : GoodIn wsX7_commonAncestor wsX1_commonSteps := goodIn_r _ [27, 18, 28, 29, 30, 16, 31, 32, 33, 34, 35, 23, 87, 88, 89, 90, 91, 92] (by decide +kernel) (by decide +kernel)
set_option maxRecDepth 20000 in
theorem gX7_commonAncestor_X1_commonSteps : GoodIn wsX7_commonAncestor (wsV RX7 120 RX1 yX1_commonSteps wsX1_commonSteps) := goodIn_app (goodIn_of _ (by decide +kernel)) ggX7_commonAncestor_X1_commonSteps
set_option maxRecDepth 20000 in
theorem ggX7_commonAncestor_X1_cutToDepth : GoodIn wsX7_commonAncestor wsX1_cutToDepth := goodIn_r _ [39, 18, 23, 28, 29, 30, 16, 31, 32, 33, 34, 35, 87, 88, 89, 90, 91, 92] (by decide +kernel) (by decide +kernel)
set_option maxRecDepth 20000 in
theorem gX7_commonAncestor_X1_cutToDepth : GoodIn wsX7_commonAncestor (wsV RX7 99 RX1 yX1_cutToDepth wsX1_cutToDepth) := goodIn_app (goodIn_of _ (by decide +kernel)) ggX7_commonAncestor_X1_cutToDepth
set_option maxRecDepth 20000 in
theorem ggX7_commonAncestor_X1_size : GoodIn wsX7_commonAncestor wsX1_size := goodIn_r _ [43, 18, 87, 88, 89, 90, 91, 92] (by decide +kernel) (by decide +kernel)
set_option maxRecDepth 20000 in
theorem gX7_commonAncestor_X1_size : GoodIn wsX7_commonAncestor (wsV RX7 93 RX1 yX1_size wsX1_size) := goodIn_app (goodIn_of _ (by decide +kernel)) ggX7_commonAncestor_X1_size
set_option maxRecDepth 20000 in
theorem ggX7_commonAncestor_X7_storeConvergent : GoodIn wsX7_commonAncestor wsX7_storeConvergent := goodIn_r _ [47, 48, 49, 50, 16, 51, 52, 53, 54, 55, 18, 23, 56, 57, 58, 59, 60, 61, 62, 6, 63, 64, 2, 3, 65, 66, 67, 68, 69, 70, 87, 88, 89, 90, 91, 92, 71, 72, 73, 74, 75, 76, 77, 78, 79, 80, 81, 82, 83, 84, 85, 86] (by decide +kernel) (by decide +kernel)
set_option maxRecDepth 20000 in
theorem gX7_commonAncestor_X7_storeConvergent : GoodIn wsX7_commonAncestor (wsV RX7 103 RX7 yX7_storeConvergent wsX7_storeConvergent) := goodIn_app (goodIn_of _ (by decide +kernel)) ggX7_commonAncestor_X7_storeConvergent
theorem dX7_commonAncestor_0 : decode cX7_commonAncestor 0 = .ok (.iload_n 1, 1) := by decide +kernel
theorem dX7_commonAncestor_1 : decode cX7_commonAncestor 1 = .ok (.invokestatic 62, 3) := by decide +kernel
theorem dX7_commonAncestor_4 : decode cX7_commonAncestor 4 = .ok (.ifCond .eq 17, 3) := by decide +kernel
theorem dX7_commonAncestor_7 : decode cX7_commonAncestor 7 = .ok (.iload_n 2, 1) := by decide +kernel
theorem dX7_commonAncestor_8 : decode cX7_commonAncestor 8 = .ok (.invokestatic 62, 3) := by decide +kernel
theorem dX7_commonAncestor_11 : decode cX7_commonAncestor 11 = .ok (.ifCond .eq 10, 3) := by decide +kernel
theorem dX7_commonAncestor_14 : decode cX7_commonAncestor 14 = .ok (.iload_n 3, 1) := by decide +kernel
theorem dX7_commonAncestor_15 : decode cX7_commonAncestor 15 = .ok (.invokestatic 62, 3) := by decide +kernel
theorem dX7_commonAncestor_18 : decode cX7_commonAncestor 18 = .ok (.ifCond .ne 5, 3) := by decide +kernel
theorem dX7_commonAncestor_21 : decode cX7_commonAncestor 21 = .ok (.iconst (-1), 1) := by decide +kernel
theorem dX7_commonAncestor_22 : decode cX7_commonAncestor 22 = .ok (.ireturn, 1) := by decide +kernel
theorem dX7_commonAncestor_23 : decode cX7_commonAncestor 23 = .ok (.aload_n 0, 1) := by decide +kernel
theorem dX7_commonAncestor_24 : decode cX7_commonAncestor 24 = .ok (.iload_n 2, 1) := by decide +kernel
theorem dX7_commonAncestor_25 : decode cX7_commonAncestor 25 = .ok (.invokevirtual 81, 3) := by decide +kernel
theorem dX7_commonAncestor_28 : decode cX7_commonAncestor 28 = .ok (.astore 4, 2) := by decide +kernel
theorem dX7_commonAncestor_30 : decode cX7_commonAncestor 30 = .ok (.aload_n 0, 1) := by decide +kernel
theorem dX7_commonAncestor_31 : decode cX7_commonAncestor 31 = .ok (.getfield 52, 3) := by decide +kernel
theorem dX7_commonAncestor_34 : decode cX7_commonAncestor 34 = .ok (.aload_n 0, 1) := by decide +kernel
theorem dX7_commonAncestor_35 : decode cX7_commonAncestor 35 = .ok (.getfield 9, 3) := by decide +kernel
theorem dX7_commonAncestor_38 : decode cX7_commonAncestor 38 = .ok (.iload_n 3, 1) := by decide +kernel
theorem dX7_commonAncestor_39 : decode cX7_commonAncestor 39 = .ok (.iaload, 1) := by decide +kernel
theorem dX7_commonAncestor_40 : decode cX7_commonAncestor 40 = .ok (.aload_n 0, 1) := by decide +kernel
theorem dX7_commonAncestor_41 : decode cX7_commonAncestor 41 = .ok (.getfield 13, 3) := by decide +kernel
theorem dX7_commonAncestor_44 : decode cX7_commonAncestor 44 = .ok (.iload_n 3, 1) := by decide +kernel
theorem dX7_commonAncestor_45 : decode cX7_commonAncestor 45 = .ok (.iaload, 1) := by decide +kernel
theorem dX7_commonAncestor_46 : decode cX7_commonAncestor 46 = .ok (.invokevirtual 117, 3) := by decide +kernel
theorem dX7_commonAncestor_49 : decode cX7_commonAncestor 49 = .ok (.aload 4, 2) := by decide +kernel
theorem dX7_commonAncestor_51 : decode cX7_commonAncestor 51 = .ok (.aload_n 0, 1) := by decide +kernel
theorem dX7_commonAncestor_52 : decode cX7_commonAncestor 52 = .ok (.getfield 52, 3) := by decide +kernel
theorem dX7_commonAncestor_55 : decode cX7_commonAncestor 55 = .ok (.invokevirtual 120, 3) := by decide +kernel
theorem dX7_commonAncestor_58 : decode cX7_commonAncestor 58 = .ok (.istore 5, 2) := by decide +kernel
theorem dX7_commonAncestor_60 : decode cX7_commonAncestor 60 = .ok (.aload 4, 2) := by decide +kernel
theorem dX7_commonAncestor_62 : decode cX7_commonAncestor 62 = .ok (.iload 5, 2) := by decide +kernel
theorem dX7_commonAncestor_64 : decode cX7_commonAncestor 64 = .ok (.invokevirtual 99, 3) := by decide +kernel
theorem dX7_commonAncestor_67 : decode cX7_commonAncestor 67 = .ok (.aload_n 0, 1) := by decide +kernel
theorem dX7_commonAncestor_68 : decode cX7_commonAncestor 68 = .ok (.iload_n 1, 1) := by decide +kernel
theorem dX7_commonAncestor_69 : decode cX7_commonAncestor 69 = .ok (.aload 4, 2) := by decide +kernel
theorem dX7_commonAncestor_71 : decode cX7_commonAncestor 71 = .ok (.aload 4, 2) := by decide +kernel
theorem dX7_commonAncestor_73 : decode cX7_commonAncestor 73 = .ok (.invokevirtual 93, 3) := by decide +kernel
theorem dX7_commonAncestor_76 : decode cX7_commonAncestor 76 = .ok (.iconst 1, 1) := by decide +kernel
theorem dX7_commonAncestor_77 : decode cX7_commonAncestor 77 = .ok (.isub, 1) := by decide +kernel
theorem dX7_commonAncestor_78 : decode cX7_commonAncestor 78 = .ok (.invokevirtual 103, 3) := by decide +kernel
theorem dX7_commonAncestor_81 : decode cX7_commonAncestor 81 = .ok (.pop, 1) := by decide +kernel
theorem dX7_commonAncestor_82 : decode cX7_commonAncestor 82 = .ok (.iload 5, 2) := by decide +kernel
theorem dX7_commonAncestor_84 : decode cX7_commonAncestor 84 = .ok (.ireturn, 1) := by decide +kernel
set_option maxRecDepth 20000 in
theorem ggX7_simplestBetween_X7_isRegister : GoodIn wsX7_simplestBetween wsX7_isRegister := goodIn_r _ [7] (by decide +kernel) (by decide +kernel)
set_option maxRecDepth 20000 in
theorem gX7_simplestBetween_X7_isRegister : GoodIn wsX7_simplestBetween (va_wsS RX7 62 yX7_isRegister wsX7_isRegister) := goodIn_app (goodIn_of _ (by decide +kernel)) ggX7_simplestBetween_X7_isRegister
set_option maxRecDepth 20000 in
theorem ggX7_simplestBetween_X7_crossDifference : GoodIn wsX7_simplestBetween wsX7_crossDifference := goodIn_r _ [11, 2, 3, 54, 55, 56, 57, 58, 59, 60, 61, 62, 63, 64, 65, 66, 67, 68, 69] (by decide +kernel) (by decide +kernel)
set_option maxRecDepth 20000 in
theorem gX7_simplestBetween_X7_crossDifference : GoodIn wsX7_simplestBetween (wsV RX7 75 RX7 yX7_crossDifference wsX7_crossDifference) := goodIn_app (goodIn_of _ (by decide +kernel)) ggX7_simplestBetween_X7_crossDifference
set_option maxRecDepth 20000 in
theorem ggX7_simplestBetween_X1_becomeSimplestBetween : GoodIn wsX7_simplestBetween wsX1_becomeSimplestBetween := goodIn_r _ [16, 17, 18, 6, 19, 20, 21, 22, 15, 23, 24, 70, 71, 72, 73, 74, 75] (by decide +kernel) (by decide +kernel)
set_option maxRecDepth 20000 in
theorem gX7_simplestBetween_X1_becomeSimplestBetween : GoodIn wsX7_simplestBetween (wsV RX7 147 RX1 yX1_becomeSimplestBetween wsX1_becomeSimplestBetween) := goodIn_app (goodIn_of _ (by decide +kernel)) ggX7_simplestBetween_X1_becomeSimplestBetween
set_option maxRecDepth 20000 in
theorem ggX7_simplestBetween_X1_size : GoodIn wsX7_simplestBetween wsX1_size := goodIn_r _ [28, 17, 70, 71, 72, 73, 74, 75] (by decide +kernel) (by decide +kernel)
set_option maxRecDepth 20000 in
theorem gX7_simplestBetween_X1_size : GoodIn wsX7_simplestBetween (wsV RX7 93 RX1 yX1_size wsX1_size) := goodIn_app (goodIn_of _ (by decide +kernel)) ggX7_simplestBetween_X1_size
set_option maxRecDepth 20000 in
theorem ggX7_simplestBetween_X7_storeConvergent : GoodIn wsX7_simplestBetween wsX7_storeConvergent := goodIn_r _ [32, 33, 34, 35, 15, 36, 37, 38, 39, 40, 17, 24, 41, 42, 43, 44, 45, 46, 47, 6, 48, 49, 2, 3, 50, 51, 52, 53, 18, 19, 70, 71, 72, 73, 74, 75, 54, 55, 56, 57, 58, 59, 60, 61, 62, 63, 64, 65, 66, 67, 68, 69] (by decide +kernel) (by decide +kernel)
set_option maxRecDepth 20000 in
theorem gX7_simplestBetween_X7_storeConvergent : GoodIn wsX7_simplestBetween (wsV RX7 103 RX7 yX7_storeConvergent wsX7_storeConvergent) := goodIn_app (goodIn_of _ (by decide +kernel)) ggX7_simplestBetween_X7_storeConvergent
theorem dX7_simplestBetween_0 : decode cX7_simplestBetween 0 = .ok (.iload_n 1, 1) := by decide +kernel
theorem dX7_simplestBetween_1 : decode cX7_simplestBetween 1 = .ok (.invokestatic 62, 3) := by decide +kernel
theorem dX7_simplestBetween_4 : decode cX7_simplestBetween 4 = .ok (.ifCond .eq 17, 3) := by decide +kernel
theorem dX7_simplestBetween_7 : decode cX7_simplestBetween 7 = .ok (.iload_n 2, 1) := by decide +kernel
theorem dX7_simplestBetween_8 : decode cX7_simplestBetween 8 = .ok (.invokestatic 62, 3) := by decide +kernel
theorem dX7_simplestBetween_11 : decode cX7_simplestBetween 11 = .ok (.ifCond .eq 10, 3) := by decide +kernel
theorem dX7_simplestBetween_14 : decode cX7_simplestBetween 14 = .ok (.iload_n 3, 1) := by decide +kernel
theorem dX7_simplestBetween_15 : decode cX7_simplestBetween 15 = .ok (.invokestatic 62, 3) := by decide +kernel
theorem dX7_simplestBetween_18 : decode cX7_simplestBetween 18 = .ok (.ifCond .ne 5, 3) := by decide +kernel
theorem dX7_simplestBetween_21 : decode cX7_simplestBetween 21 = .ok (.iconst (-1), 1) := by decide +kernel
theorem dX7_simplestBetween_22 : decode cX7_simplestBetween 22 = .ok (.ireturn, 1) := by decide +kernel
theorem dX7_simplestBetween_23 : decode cX7_simplestBetween 23 = .ok (.aload_n 0, 1) := by decide +kernel
theorem dX7_simplestBetween_24 : decode cX7_simplestBetween 24 = .ok (.iload_n 2, 1) := by decide +kernel
theorem dX7_simplestBetween_25 : decode cX7_simplestBetween 25 = .ok (.iload_n 3, 1) := by decide +kernel
theorem dX7_simplestBetween_26 : decode cX7_simplestBetween 26 = .ok (.invokevirtual 75, 3) := by decide +kernel
theorem dX7_simplestBetween_29 : decode cX7_simplestBetween 29 = .ok (.lconst 0, 1) := by decide +kernel
theorem dX7_simplestBetween_30 : decode cX7_simplestBetween 30 = .ok (.lcmp, 1) := by decide +kernel
theorem dX7_simplestBetween_31 : decode cX7_simplestBetween 31 = .ok (.ifCond .lt 6, 3) := by decide +kernel
theorem dX7_simplestBetween_34 : decode cX7_simplestBetween 34 = .ok (.bipush (-2), 2) := by decide +kernel
theorem dX7_simplestBetween_36 : decode cX7_simplestBetween 36 = .ok (.ireturn, 1) := by decide +kernel
theorem dX7_simplestBetween_37 : decode cX7_simplestBetween 37 = .ok (.aload_n 0, 1) := by decide +kernel
theorem dX7_simplestBetween_38 : decode cX7_simplestBetween 38 = .ok (.getfield 48, 3) := by decide +kernel
theorem dX7_simplestBetween_41 : decode cX7_simplestBetween 41 = .ok (.aload_n 0, 1) := by decide +kernel
theorem dX7_simplestBetween_42 : decode cX7_simplestBetween 42 = .ok (.getfield 9, 3) := by decide +kernel
theorem dX7_simplestBetween_45 : decode cX7_simplestBetween 45 = .ok (.iload_n 2, 1) := by decide +kernel
theorem dX7_simplestBetween_46 : decode cX7_simplestBetween 46 = .ok (.iaload, 1) := by decide +kernel
theorem dX7_simplestBetween_47 : decode cX7_simplestBetween 47 = .ok (.aload_n 0, 1) := by decide +kernel
theorem dX7_simplestBetween_48 : decode cX7_simplestBetween 48 = .ok (.getfield 13, 3) := by decide +kernel
theorem dX7_simplestBetween_51 : decode cX7_simplestBetween 51 = .ok (.iload_n 2, 1) := by decide +kernel
theorem dX7_simplestBetween_52 : decode cX7_simplestBetween 52 = .ok (.iaload, 1) := by decide +kernel
theorem dX7_simplestBetween_53 : decode cX7_simplestBetween 53 = .ok (.aload_n 0, 1) := by decide +kernel
theorem dX7_simplestBetween_54 : decode cX7_simplestBetween 54 = .ok (.getfield 9, 3) := by decide +kernel
theorem dX7_simplestBetween_57 : decode cX7_simplestBetween 57 = .ok (.iload_n 3, 1) := by decide +kernel
theorem dX7_simplestBetween_58 : decode cX7_simplestBetween 58 = .ok (.iaload, 1) := by decide +kernel
theorem dX7_simplestBetween_59 : decode cX7_simplestBetween 59 = .ok (.aload_n 0, 1) := by decide +kernel
theorem dX7_simplestBetween_60 : decode cX7_simplestBetween 60 = .ok (.getfield 13, 3) := by decide +kernel
theorem dX7_simplestBetween_63 : decode cX7_simplestBetween 63 = .ok (.iload_n 3, 1) := by decide +kernel
theorem dX7_simplestBetween_64 : decode cX7_simplestBetween 64 = .ok (.iaload, 1) := by decide +kernel
theorem dX7_simplestBetween_65 : decode cX7_simplestBetween 65 = .ok (.invokevirtual 147, 3) := by decide +kernel
theorem dX7_simplestBetween_68 : decode cX7_simplestBetween 68 = .ok (.aload_n 0, 1) := by decide +kernel
theorem dX7_simplestBetween_69 : decode cX7_simplestBetween 69 = .ok (.iload_n 1, 1) := by decide +kernel
theorem dX7_simplestBetween_70 : decode cX7_simplestBetween 70 = .ok (.aload_n 0, 1) := by decide +kernel
theorem dX7_simplestBetween_71 : decode cX7_simplestBetween 71 = .ok (.getfield 48, 3) := by decide +kernel
theorem dX7_simplestBetween_74 : decode cX7_simplestBetween 74 = .ok (.aload_n 0, 1) := by decide +kernel
theorem dX7_simplestBetween_75 : decode cX7_simplestBetween 75 = .ok (.getfield 48, 3) := by decide +kernel
theorem dX7_simplestBetween_78 : decode cX7_simplestBetween 78 = .ok (.invokevirtual 93, 3) := by decide +kernel
theorem dX7_simplestBetween_81 : decode cX7_simplestBetween 81 = .ok (.iconst 1, 1) := by decide +kernel
theorem dX7_simplestBetween_82 : decode cX7_simplestBetween 82 = .ok (.isub, 1) := by decide +kernel
theorem dX7_simplestBetween_83 : decode cX7_simplestBetween 83 = .ok (.invokevirtual 103, 3) := by decide +kernel
theorem dX7_simplestBetween_86 : decode cX7_simplestBetween 86 = .ok (.ireturn, 1) := by decide +kernel
theorem dX7_isIn_0 : decode cX7_isIn 0 = .ok (.iload_n 0, 1) := by decide +kernel
theorem dX7_isIn_1 : decode cX7_isIn 1 = .ok (.iload_n 1, 1) := by decide +kernel
theorem dX7_isIn_2 : decode cX7_isIn 2 = .ok (.if_icmp .lt 12, 3) := by decide +kernel
theorem dX7_isIn_5 : decode cX7_isIn 5 = .ok (.iload_n 0, 1) := by decide +kernel
theorem dX7_isIn_6 : decode cX7_isIn 6 = .ok (.iload_n 2, 1) := by decide +kernel
theorem dX7_isIn_7 : decode cX7_isIn 7 = .ok (.if_icmp .gt 7, 3) := by decide +kernel
theorem dX7_isIn_10 : decode cX7_isIn 10 = .ok (.iconst 1, 1) := by decide +kernel
theorem dX7_isIn_11 : decode cX7_isIn 11 = .ok (.goto 4, 3) := by decide +kernel
theorem dX7_isIn_14 : decode cX7_isIn 14 = .ok (.iconst 0, 1) := by decide +kernel
theorem dX7_isIn_15 : decode cX7_isIn 15 = .ok (.ireturn, 1) := by decide +kernel
theorem dX7_isRegister_0 : decode cX7_isRegister 0 = .ok (.iload_n 0, 1) := by decide +kernel
theorem dX7_isRegister_1 : decode cX7_isRegister 1 = .ok (.ifCond .lt 13, 3) := by decide +kernel
theorem dX7_isRegister_4 : decode cX7_isRegister 4 = .ok (.iload_n 0, 1) := by decide +kernel
theorem dX7_isRegister_5 : decode cX7_isRegister 5 = .ok (.bipush 8, 2) := by decide +kernel
theorem dX7_isRegister_7 : decode cX7_isRegister 7 = .ok (.if_icmp .ge 7, 3) := by decide +kernel
theorem dX7_isRegister_10 : decode cX7_isRegister 10 = .ok (.iconst 1, 1) := by decide +kernel
theorem dX7_isRegister_11 : decode cX7_isRegister 11 = .ok (.goto 4, 3) := by decide +kernel
theorem dX7_isRegister_14 : decode cX7_isRegister 14 = .ok (.iconst 0, 1) := by decide +kernel
theorem dX7_isRegister_15 : decode cX7_isRegister 15 = .ok (.ireturn, 1) := by decide +kernel
theorem dX7_quotient_0 : decode cX7_quotient 0 = .ok (.lload_n 2, 1) := by decide +kernel
theorem dX7_quotient_1 : decode cX7_quotient 1 = .ok (.lconst 0, 1) := by decide +kernel
theorem dX7_quotient_2 : decode cX7_quotient 2 = .ok (.lcmp, 1) := by decide +kernel
theorem dX7_quotient_3 : decode cX7_quotient 3 = .ok (.ifCond .le 9, 3) := by decide +kernel
theorem dX7_quotient_6 : decode cX7_quotient 6 = .ok (.lload_n 0, 1) := by decide +kernel
theorem dX7_quotient_7 : decode cX7_quotient 7 = .ok (.lload_n 2, 1) := by decide +kernel
theorem dX7_quotient_8 : decode cX7_quotient 8 = .ok (.ldiv, 1) := by decide +kernel
theorem dX7_quotient_9 : decode cX7_quotient 9 = .ok (.goto 4, 3) := by decide +kernel
theorem dX7_quotient_12 : decode cX7_quotient 12 = .ok (.lconst 0, 1) := by decide +kernel
theorem dX7_quotient_13 : decode cX7_quotient 13 = .ok (.lreturn, 1) := by decide +kernel
theorem dX7_gcd_0 : decode cX7_gcd 0 = .ok (.lload_n 0, 1) := by decide +kernel
theorem dX7_gcd_1 : decode cX7_gcd 1 = .ok (.lstore 4, 2) := by decide +kernel
theorem dX7_gcd_3 : decode cX7_gcd 3 = .ok (.lload_n 2, 1) := by decide +kernel
theorem dX7_gcd_4 : decode cX7_gcd 4 = .ok (.lstore 6, 2) := by decide +kernel
theorem dX7_gcd_6 : decode cX7_gcd 6 = .ok (.iconst 0, 1) := by decide +kernel
theorem dX7_gcd_7 : decode cX7_gcd 7 = .ok (.istore 8, 2) := by decide +kernel
theorem dX7_gcd_9 : decode cX7_gcd 9 = .ok (.iload 8, 2) := by decide +kernel
theorem dX7_gcd_11 : decode cX7_gcd 11 = .ok (.sipush 1000, 3) := by decide +kernel
theorem dX7_gcd_14 : decode cX7_gcd 14 = .ok (.if_icmp .ge 31, 3) := by decide +kernel
theorem dX7_gcd_17 : decode cX7_gcd 17 = .ok (.lload 6, 2) := by decide +kernel
theorem dX7_gcd_19 : decode cX7_gcd 19 = .ok (.lconst 0, 1) := by decide +kernel
theorem dX7_gcd_20 : decode cX7_gcd 20 = .ok (.lcmp, 1) := by decide +kernel
theorem dX7_gcd_21 : decode cX7_gcd 21 = .ok (.ifCond .le 24, 3) := by decide +kernel
theorem dX7_gcd_24 : decode cX7_gcd 24 = .ok (.lload 4, 2) := by decide +kernel
theorem dX7_gcd_26 : decode cX7_gcd 26 = .ok (.lload 6, 2) := by decide +kernel
theorem dX7_gcd_28 : decode cX7_gcd 28 = .ok (.lrem, 1) := by decide +kernel
theorem dX7_gcd_29 : decode cX7_gcd 29 = .ok (.lstore 9, 2) := by decide +kernel
theorem dX7_gcd_31 : decode cX7_gcd 31 = .ok (.lload 6, 2) := by decide +kernel
theorem dX7_gcd_33 : decode cX7_gcd 33 = .ok (.lstore 4, 2) := by decide +kernel
theorem dX7_gcd_35 : decode cX7_gcd 35 = .ok (.lload 9, 2) := by decide +kernel
theorem dX7_gcd_37 : decode cX7_gcd 37 = .ok (.lstore 6, 2) := by decide +kernel
theorem dX7_gcd_39 : decode cX7_gcd 39 = .ok (.iinc 8 1, 3) := by decide +kernel
theorem dX7_gcd_42 : decode cX7_gcd 42 = .ok (.goto (-33), 3) := by decide +kernel
theorem dX7_gcd_45 : decode cX7_gcd 45 = .ok (.lload 4, 2) := by decide +kernel
theorem dX7_gcd_47 : decode cX7_gcd 47 = .ok (.lreturn, 1) := by decide +kernel
theorem dX7_crossDifference_0 : decode cX7_crossDifference 0 = .ok (.aload_n 0, 1) := by decide +kernel
theorem dX7_crossDifference_1 : decode cX7_crossDifference 1 = .ok (.getfield 9, 3) := by decide +kernel
theorem dX7_crossDifference_4 : decode cX7_crossDifference 4 = .ok (.iload_n 1, 1) := by decide +kernel
theorem dX7_crossDifference_5 : decode cX7_crossDifference 5 = .ok (.iaload, 1) := by decide +kernel
theorem dX7_crossDifference_6 : decode cX7_crossDifference 6 = .ok (.i2l, 1) := by decide +kernel
theorem dX7_crossDifference_7 : decode cX7_crossDifference 7 = .ok (.aload_n 0, 1) := by decide +kernel
theorem dX7_crossDifference_8 : decode cX7_crossDifference 8 = .ok (.getfield 13, 3) := by decide +kernel
theorem dX7_crossDifference_11 : decode cX7_crossDifference 11 = .ok (.iload_n 2, 1) := by decide +kernel
theorem dX7_crossDifference_12 : decode cX7_crossDifference 12 = .ok (.iaload, 1) := by decide +kernel
theorem dX7_crossDifference_13 : decode cX7_crossDifference 13 = .ok (.i2l, 1) := by decide +kernel
theorem dX7_crossDifference_14 : decode cX7_crossDifference 14 = .ok (.lmul, 1) := by decide +kernel
theorem dX7_crossDifference_15 : decode cX7_crossDifference 15 = .ok (.aload_n 0, 1) := by decide +kernel
theorem dX7_crossDifference_16 : decode cX7_crossDifference 16 = .ok (.getfield 13, 3) := by decide +kernel
theorem dX7_crossDifference_19 : decode cX7_crossDifference 19 = .ok (.iload_n 1, 1) := by decide +kernel
theorem dX7_crossDifference_20 : decode cX7_crossDifference 20 = .ok (.iaload, 1) := by decide +kernel
theorem dX7_crossDifference_21 : decode cX7_crossDifference 21 = .ok (.i2l, 1) := by decide +kernel
theorem dX7_crossDifference_22 : decode cX7_crossDifference 22 = .ok (.aload_n 0, 1) := by decide +kernel
theorem dX7_crossDifference_23 : decode cX7_crossDifference 23 = .ok (.getfield 9, 3) := by decide +kernel
theorem dX7_crossDifference_26 : decode cX7_crossDifference 26 = .ok (.iload_n 2, 1) := by decide +kernel
theorem dX7_crossDifference_27 : decode cX7_crossDifference 27 = .ok (.iaload, 1) := by decide +kernel
theorem dX7_crossDifference_28 : decode cX7_crossDifference 28 = .ok (.i2l, 1) := by decide +kernel
theorem dX7_crossDifference_29 : decode cX7_crossDifference 29 = .ok (.lmul, 1) := by decide +kernel
theorem dX7_crossDifference_30 : decode cX7_crossDifference 30 = .ok (.lsub, 1) := by decide +kernel
theorem dX7_crossDifference_31 : decode cX7_crossDifference 31 = .ok (.lreturn, 1) := by decide +kernel
set_option maxRecDepth 20000 in
theorem ggX7_store_X7_gcd : GoodIn wsX7_store wsX7_gcd := goodIn_r _ [7] (by decide +kernel) (by decide +kernel)
set_option maxRecDepth 20000 in
theorem gX7_store_X7_gcd : GoodIn wsX7_store (va_wsS RX7 189 yX7_gcd wsX7_gcd) := goodIn_app (goodIn_of _ (by decide +kernel)) ggX7_store_X7_gcd
set_option maxRecDepth 20000 in
theorem ggX7_store_X7_quotient : GoodIn wsX7_store wsX7_quotient := goodIn_r _ [10] (by decide +kernel) (by decide +kernel)
set_option maxRecDepth 20000 in
theorem gX7_store_X7_quotient : GoodIn wsX7_store (va_wsS RX7 165 yX7_quotient wsX7_quotient) := goodIn_app (goodIn_of _ (by decide +kernel)) ggX7_store_X7_quotient
theorem dX7_store_0 : decode cX7_store 0 = .ok (.lload_n 2, 1) := by decide +kernel
theorem dX7_store_1 : decode cX7_store 1 = .ok (.lload 4, 2) := by decide +kernel
theorem dX7_store_3 : decode cX7_store 3 = .ok (.invokestatic 189, 3) := by decide +kernel
theorem dX7_store_6 : decode cX7_store 6 = .ok (.lstore 6, 2) := by decide +kernel
theorem dX7_store_8 : decode cX7_store 8 = .ok (.lload_n 2, 1) := by decide +kernel
theorem dX7_store_9 : decode cX7_store 9 = .ok (.lload 6, 2) := by decide +kernel
theorem dX7_store_11 : decode cX7_store 11 = .ok (.invokestatic 165, 3) := by decide +kernel
theorem dX7_store_14 : decode cX7_store 14 = .ok (.lstore 8, 2) := by decide +kernel
theorem dX7_store_16 : decode cX7_store 16 = .ok (.lload 4, 2) := by decide +kernel
theorem dX7_store_18 : decode cX7_store 18 = .ok (.lload 6, 2) := by decide +kernel
theorem dX7_store_20 : decode cX7_store 20 = .ok (.invokestatic 165, 3) := by decide +kernel
theorem dX7_store_23 : decode cX7_store 23 = .ok (.lstore 10, 2) := by decide +kernel
theorem dX7_store_25 : decode cX7_store 25 = .ok (.lload 8, 2) := by decide +kernel
theorem dX7_store_27 : decode cX7_store 27 = .ok (.ldc2_w 138, 3) := by decide +kernel
theorem dX7_store_30 : decode cX7_store 30 = .ok (.lcmp, 1) := by decide +kernel
theorem dX7_store_31 : decode cX7_store 31 = .ok (.ifCond .gt 12, 3) := by decide +kernel
theorem dX7_store_34 : decode cX7_store 34 = .ok (.lload 10, 2) := by decide +kernel
theorem dX7_store_36 : decode cX7_store 36 = .ok (.ldc2_w 138, 3) := by decide +kernel
theorem dX7_store_39 : decode cX7_store 39 = .ok (.lcmp, 1) := by decide +kernel
theorem dX7_store_40 : decode cX7_store 40 = .ok (.ifCond .le 6, 3) := by decide +kernel
theorem dX7_store_43 : decode cX7_store 43 = .ok (.bipush (-3), 2) := by decide +kernel
theorem dX7_store_45 : decode cX7_store 45 = .ok (.ireturn, 1) := by decide +kernel
theorem dX7_store_46 : decode cX7_store 46 = .ok (.aload_n 0, 1) := by decide +kernel
theorem dX7_store_47 : decode cX7_store 47 = .ok (.getfield 9, 3) := by decide +kernel
theorem dX7_store_50 : decode cX7_store 50 = .ok (.iload_n 1, 1) := by decide +kernel
theorem dX7_store_51 : decode cX7_store 51 = .ok (.lload 8, 2) := by decide +kernel
theorem dX7_store_53 : decode cX7_store 53 = .ok (.l2i, 1) := by decide +kernel
theorem dX7_store_54 : decode cX7_store 54 = .ok (.iastore, 1) := by decide +kernel
theorem dX7_store_55 : decode cX7_store 55 = .ok (.aload_n 0, 1) := by decide +kernel
theorem dX7_store_56 : decode cX7_store 56 = .ok (.getfield 13, 3) := by decide +kernel
theorem dX7_store_59 : decode cX7_store 59 = .ok (.iload_n 1, 1) := by decide +kernel
theorem dX7_store_60 : decode cX7_store 60 = .ok (.lload 10, 2) := by decide +kernel
theorem dX7_store_62 : decode cX7_store 62 = .ok (.l2i, 1) := by decide +kernel
theorem dX7_store_63 : decode cX7_store 63 = .ok (.iastore, 1) := by decide +kernel
theorem dX7_store_64 : decode cX7_store 64 = .ok (.iconst 1, 1) := by decide +kernel
theorem dX7_store_65 : decode cX7_store 65 = .ok (.ireturn, 1) := by decide +kernel
set_option maxRecDepth 20000 in
theorem ggX7_storeConvergent_X1_convergentTop : GoodIn wsX7_storeConvergent wsX1_convergentTop := goodIn_r _ [5, 6, 7, 8, 4, 9, 10, 11, 30, 31, 32, 33, 34, 35] (by decide +kernel) (by decide +kernel)
set_option maxRecDepth 20000 in
theorem gX7_storeConvergent_X1_convergentTop : GoodIn wsX7_storeConvergent (wsV RX7 127 RX1 yX1_convergentTop wsX1_convergentTop) := goodIn_app (goodIn_of _ (by decide +kernel)) ggX7_storeConvergent_X1_convergentTop
set_option maxRecDepth 20000 in
theorem ggX7_storeConvergent_X1_convergentBottom : GoodIn wsX7_storeConvergent wsX1_convergentBottom := goodIn_r _ [15, 6, 7, 8, 4, 9, 10, 11, 30, 31, 32, 33, 34, 35] (by decide +kernel) (by decide +kernel)
set_option maxRecDepth 20000 in
theorem gX7_storeConvergent_X1_convergentBottom : GoodIn wsX7_storeConvergent (wsV RX7 199 RX1 yX1_convergentBottom wsX1_convergentBottom) := goodIn_app (goodIn_of _ (by decide +kernel)) ggX7_storeConvergent_X1_convergentBottom
set_option maxRecDepth 20000 in
theorem ggX7_storeConvergent_X7_store : GoodIn wsX7_storeConvergent wsX7_store := goodIn_r _ [20, 21, 22, 23, 24, 25, 19, 26, 27, 28, 29, 36, 37, 38, 39, 40, 41, 42, 43, 44, 45, 46, 47, 48, 49, 50, 51] (by decide +kernel) (by decide +kernel)
set_option maxRecDepth 20000 in
theorem gX7_storeConvergent_X7_store : GoodIn wsX7_storeConvergent (wsV RX7 71 RX7 yX7_store wsX7_store) := goodIn_app (goodIn_of _ (by decide +kernel)) ggX7_storeConvergent_X7_store
theorem dX7_storeConvergent_0 : decode cX7_storeConvergent 0 = .ok (.aload_n 0, 1) := by decide +kernel
theorem dX7_storeConvergent_1 : decode cX7_storeConvergent 1 = .ok (.iload_n 1, 1) := by decide +kernel
theorem dX7_storeConvergent_2 : decode cX7_storeConvergent 2 = .ok (.aload_n 2, 1) := by decide +kernel
theorem dX7_storeConvergent_3 : decode cX7_storeConvergent 3 = .ok (.iload_n 3, 1) := by decide +kernel
theorem dX7_storeConvergent_4 : decode cX7_storeConvergent 4 = .ok (.invokevirtual 127, 3) := by decide +kernel
theorem dX7_storeConvergent_7 : decode cX7_storeConvergent 7 = .ok (.aload_n 2, 1) := by decide +kernel
theorem dX7_storeConvergent_8 : decode cX7_storeConvergent 8 = .ok (.iload_n 3, 1) := by decide +kernel
theorem dX7_storeConvergent_9 : decode cX7_storeConvergent 9 = .ok (.invokevirtual 199, 3) := by decide +kernel
theorem dX7_storeConvergent_12 : decode cX7_storeConvergent 12 = .ok (.invokevirtual 71, 3) := by decide +kernel
theorem dX7_storeConvergent_15 : decode cX7_storeConvergent 15 = .ok (.ireturn, 1) := by decide +kernel
set_option maxRecDepth 20000 in
theorem ggX7_expand_X1_expand : GoodIn wsX7_expand wsX1_expand := goodIn_r _ [8, 9, 10, 11, 12, 7, 13, 14, 31, 32, 33, 34, 35, 36] (by decide +kernel) (by decide +kernel)
set_option maxRecDepth 20000 in
theorem gX7_expand_X1_expand : GoodIn wsX7_expand (wsV RX7 117 RX1 yX1_expand wsX1_expand) := goodIn_app (goodIn_of _ (by decide +kernel)) ggX7_expand_X1_expand
theorem dX7_expand_0 : decode cX7_expand 0 = .ok (.aload_n 0, 1) := by decide +kernel
theorem dX7_expand_1 : decode cX7_expand 1 = .ok (.getfield 48, 3) := by decide +kernel
theorem dX7_expand_4 : decode cX7_expand 4 = .ok (.aload_n 0, 1) := by decide +kernel
theorem dX7_expand_5 : decode cX7_expand 5 = .ok (.getfield 9, 3) := by decide +kernel
theorem dX7_expand_8 : decode cX7_expand 8 = .ok (.iload_n 1, 1) := by decide +kernel
theorem dX7_expand_9 : decode cX7_expand 9 = .ok (.iaload, 1) := by decide +kernel
theorem dX7_expand_10 : decode cX7_expand 10 = .ok (.aload_n 0, 1) := by decide +kernel
theorem dX7_expand_11 : decode cX7_expand 11 = .ok (.getfield 13, 3) := by decide +kernel
theorem dX7_expand_14 : decode cX7_expand 14 = .ok (.iload_n 1, 1) := by decide +kernel
theorem dX7_expand_15 : decode cX7_expand 15 = .ok (.iaload, 1) := by decide +kernel
theorem dX7_expand_16 : decode cX7_expand 16 = .ok (.invokevirtual 117, 3) := by decide +kernel
theorem dX7_expand_19 : decode cX7_expand 19 = .ok (.aload_n 0, 1) := by decide +kernel
theorem dX7_expand_20 : decode cX7_expand 20 = .ok (.getfield 48, 3) := by decide +kernel
theorem dX7_expand_23 : decode cX7_expand 23 = .ok (.areturn, 1) := by decide +kernel
