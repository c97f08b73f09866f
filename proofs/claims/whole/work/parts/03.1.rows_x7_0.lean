set_option maxRecDepth 20000 in
theorem ggX7_init_X1_init : GoodIn wsX7_init wsX1_init := goodIn_r _ [27, 28, 2, 3, 4, 29, 53, 54, 55, 56, 57, 58] (by decide +kernel) (by decide +kernel)
set_option maxRecDepth 20000 in
theorem gX7_init_X1_init_n47 : GoodIn wsX7_init (wsX1_init) := ggX7_init_X1_init
set_option maxRecDepth 20000 in
theorem ggX7_init_X4_init : GoodIn wsX7_init wsX4_init := goodIn_r _ [31, 32, 2, 3, 4, 33, 34, 35, 36, 59, 60, 61, 62, 63] (by decide +kernel) (by decide +kernel)
set_option maxRecDepth 20000 in
theorem gX7_init_X4_init_n57 : GoodIn wsX7_init (wsX4_init) := ggX7_init_X4_init
theorem dX7_init_0 : decode cX7_init 0 = .ok (.aload_n 0, 1) := by decide +kernel
theorem dX7_init_1 : decode cX7_init 1 = .ok (.invokespecial 1, 3) := by decide +kernel
theorem dX7_init_4 : decode cX7_init 4 = .ok (.aload_n 0, 1) := by decide +kernel
theorem dX7_init_5 : decode cX7_init 5 = .ok (.bipush 8, 2) := by decide +kernel
theorem dX7_init_7 : decode cX7_init 7 = .ok (.newarray .int, 2) := by decide +kernel
theorem dX7_init_9 : decode cX7_init 9 = .ok (.putfield 9, 3) := by decide +kernel
theorem dX7_init_12 : decode cX7_init 12 = .ok (.aload_n 0, 1) := by decide +kernel
theorem dX7_init_13 : decode cX7_init 13 = .ok (.bipush 8, 2) := by decide +kernel
theorem dX7_init_15 : decode cX7_init 15 = .ok (.newarray .int, 2) := by decide +kernel
theorem dX7_init_17 : decode cX7_init 17 = .ok (.putfield 13, 3) := by decide +kernel
theorem dX7_init_20 : decode cX7_init 20 = .ok (.aload_n 0, 1) := by decide +kernel
theorem dX7_init_21 : decode cX7_init 21 = .ok (.iconst 5, 1) := by decide +kernel
theorem dX7_init_22 : decode cX7_init 22 = .ok (.anewarray 16, 3) := by decide +kernel
theorem dX7_init_25 : decode cX7_init 25 = .ok (.putfield 18, 3) := by decide +kernel
theorem dX7_init_28 : decode cX7_init 28 = .ok (.aload_n 0, 1) := by decide +kernel
theorem dX7_init_29 : decode cX7_init 29 = .ok (.bipush 8, 2) := by decide +kernel
theorem dX7_init_31 : decode cX7_init 31 = .ok (.newarray .int, 2) := by decide +kernel
theorem dX7_init_33 : decode cX7_init 33 = .ok (.putfield 22, 3) := by decide +kernel
theorem dX7_init_36 : decode cX7_init 36 = .ok (.aload_n 0, 1) := by decide +kernel
theorem dX7_init_37 : decode cX7_init 37 = .ok (.bipush 8, 2) := by decide +kernel
theorem dX7_init_39 : decode cX7_init 39 = .ok (.newarray .int, 2) := by decide +kernel
theorem dX7_init_41 : decode cX7_init 41 = .ok (.putfield 25, 3) := by decide +kernel
theorem dX7_init_44 : decode cX7_init 44 = .ok (.aload_n 0, 1) := by decide +kernel
theorem dX7_init_45 : decode cX7_init 45 = .ok (.iconst 5, 1) := by decide +kernel
theorem dX7_init_46 : decode cX7_init 46 = .ok (.anewarray 16, 3) := by decide +kernel
theorem dX7_init_49 : decode cX7_init 49 = .ok (.putfield 28, 3) := by decide +kernel
theorem dX7_init_52 : decode cX7_init 52 = .ok (.aload_n 0, 1) := by decide +kernel
theorem dX7_init_53 : decode cX7_init 53 = .ok (.bipush 20, 2) := by decide +kernel
theorem dX7_init_55 : decode cX7_init 55 = .ok (.newarray .int, 2) := by decide +kernel
theorem dX7_init_57 : decode cX7_init 57 = .ok (.putfield 31, 3) := by decide +kernel
theorem dX7_init_60 : decode cX7_init 60 = .ok (.aload_n 0, 1) := by decide +kernel
theorem dX7_init_61 : decode cX7_init 61 = .ok (.bipush 60, 2) := by decide +kernel
theorem dX7_init_63 : decode cX7_init 63 = .ok (.newarray .int, 2) := by decide +kernel
theorem dX7_init_65 : decode cX7_init 65 = .ok (.putfield 34, 3) := by decide +kernel
theorem dX7_init_68 : decode cX7_init 68 = .ok (.aload_n 0, 1) := by decide +kernel
theorem dX7_init_69 : decode cX7_init 69 = .ok (.iconst 3, 1) := by decide +kernel
theorem dX7_init_70 : decode cX7_init 70 = .ok (.bipush 60, 2) := by decide +kernel
theorem dX7_init_72 : decode cX7_init 72 = .ok (.multianewarray 37 2, 4) := by decide +kernel
theorem dX7_init_76 : decode cX7_init 76 = .ok (.putfield 39, 3) := by decide +kernel
theorem dX7_init_79 : decode cX7_init 79 = .ok (.aload_n 0, 1) := by decide +kernel
theorem dX7_init_80 : decode cX7_init 80 = .ok (.iconst 3, 1) := by decide +kernel
theorem dX7_init_81 : decode cX7_init 81 = .ok (.newarray .int, 2) := by decide +kernel
theorem dX7_init_83 : decode cX7_init 83 = .ok (.putfield 42, 3) := by decide +kernel
theorem dX7_init_86 : decode cX7_init 86 = .ok (.aload_n 0, 1) := by decide +kernel
theorem dX7_init_87 : decode cX7_init 87 = .ok (.new 45, 3) := by decide +kernel
theorem dX7_init_90 : decode cX7_init 90 = .ok (.dup, 1) := by decide +kernel
theorem dX7_init_91 : decode cX7_init 91 = .ok (.invokespecial 47, 3) := by decide +kernel
theorem dX7_init_94 : decode cX7_init 94 = .ok (.putfield 48, 3) := by decide +kernel
theorem dX7_init_97 : decode cX7_init 97 = .ok (.aload_n 0, 1) := by decide +kernel
theorem dX7_init_98 : decode cX7_init 98 = .ok (.new 45, 3) := by decide +kernel
theorem dX7_init_101 : decode cX7_init 101 = .ok (.dup, 1) := by decide +kernel
theorem dX7_init_102 : decode cX7_init 102 = .ok (.invokespecial 47, 3) := by decide +kernel
theorem dX7_init_105 : decode cX7_init 105 = .ok (.putfield 52, 3) := by decide +kernel
theorem dX7_init_108 : decode cX7_init 108 = .ok (.aload_n 0, 1) := by decide +kernel
theorem dX7_init_109 : decode cX7_init 109 = .ok (.new 55, 3) := by decide +kernel
theorem dX7_init_112 : decode cX7_init 112 = .ok (.dup, 1) := by decide +kernel
theorem dX7_init_113 : decode cX7_init 113 = .ok (.invokespecial 57, 3) := by decide +kernel
theorem dX7_init_116 : decode cX7_init 116 = .ok (.putfield 58, 3) := by decide +kernel
theorem dX7_init_119 : decode cX7_init 119 = .ok (.iconst 0, 1) := by decide +kernel
theorem dX7_init_120 : decode cX7_init 120 = .ok (.istore_n 1, 1) := by decide +kernel
theorem dX7_init_121 : decode cX7_init 121 = .ok (.iload_n 1, 1) := by decide +kernel
theorem dX7_init_122 : decode cX7_init 122 = .ok (.bipush 8, 2) := by decide +kernel
theorem dX7_init_124 : decode cX7_init 124 = .ok (.if_icmp .ge 23, 3) := by decide +kernel
theorem dX7_init_127 : decode cX7_init 127 = .ok (.aload_n 0, 1) := by decide +kernel
theorem dX7_init_128 : decode cX7_init 128 = .ok (.getfield 9, 3) := by decide +kernel
theorem dX7_init_131 : decode cX7_init 131 = .ok (.iload_n 1, 1) := by decide +kernel
theorem dX7_init_132 : decode cX7_init 132 = .ok (.iconst 1, 1) := by decide +kernel
theorem dX7_init_133 : decode cX7_init 133 = .ok (.iastore, 1) := by decide +kernel
theorem dX7_init_134 : decode cX7_init 134 = .ok (.aload_n 0, 1) := by decide +kernel
theorem dX7_init_135 : decode cX7_init 135 = .ok (.getfield 13, 3) := by decide +kernel
theorem dX7_init_138 : decode cX7_init 138 = .ok (.iload_n 1, 1) := by decide +kernel
theorem dX7_init_139 : decode cX7_init 139 = .ok (.iconst 1, 1) := by decide +kernel
theorem dX7_init_140 : decode cX7_init 140 = .ok (.iastore, 1) := by decide +kernel
theorem dX7_init_141 : decode cX7_init 141 = .ok (.iinc 1 1, 3) := by decide +kernel
theorem dX7_init_144 : decode cX7_init 144 = .ok (.goto (-23), 3) := by decide +kernel
theorem dX7_init_147 : decode cX7_init 147 = .ok (.iconst 0, 1) := by decide +kernel
theorem dX7_init_148 : decode cX7_init 148 = .ok (.istore_n 1, 1) := by decide +kernel
theorem dX7_init_149 : decode cX7_init 149 = .ok (.iload_n 1, 1) := by decide +kernel
theorem dX7_init_150 : decode cX7_init 150 = .ok (.iconst 3, 1) := by decide +kernel
theorem dX7_init_151 : decode cX7_init 151 = .ok (.if_icmp .ge 16, 3) := by decide +kernel
theorem dX7_init_154 : decode cX7_init 154 = .ok (.aload_n 0, 1) := by decide +kernel
theorem dX7_init_155 : decode cX7_init 155 = .ok (.getfield 42, 3) := by decide +kernel
theorem dX7_init_158 : decode cX7_init 158 = .ok (.iload_n 1, 1) := by decide +kernel
theorem dX7_init_159 : decode cX7_init 159 = .ok (.iconst (-1), 1) := by decide +kernel
theorem dX7_init_160 : decode cX7_init 160 = .ok (.iastore, 1) := by decide +kernel
theorem dX7_init_161 : decode cX7_init 161 = .ok (.iinc 1 1, 3) := by decide +kernel
theorem dX7_init_164 : decode cX7_init 164 = .ok (.goto (-15), 3) := by decide +kernel
theorem dX7_init_167 : decode cX7_init 167 = .ok (.return_, 1) := by decide +kernel
set_option maxRecDepth 20000 in
theorem ggX7_set_X7_isRegister : GoodIn wsX7_set wsX7_isRegister := goodIn_r _ [5] (by decide +kernel) (by decide +kernel)
set_option maxRecDepth 20000 in
theorem gX7_set_X7_isRegister : GoodIn wsX7_set (va_wsS RX7 62 yX7_isRegister wsX7_isRegister) := goodIn_app (goodIn_of _ (by decide +kernel)) ggX7_set_X7_isRegister
set_option maxRecDepth 20000 in
theorem ggX7_set_X7_isIn : GoodIn wsX7_set wsX7_isIn := goodIn_r _ [8] (by decide +kernel) (by decide +kernel)
set_option maxRecDepth 20000 in
theorem gX7_set_X7_isIn : GoodIn wsX7_set (va_wsS RX7 67 yX7_isIn wsX7_isIn) := goodIn_app (goodIn_of _ (by decide +kernel)) ggX7_set_X7_isIn
set_option maxRecDepth 20000 in
theorem ggX7_set_X7_store : GoodIn wsX7_set wsX7_store := goodIn_r _ [12, 13, 14, 15, 16, 17, 4, 18, 19, 20, 21, 22, 23, 24, 25, 26, 27, 28, 29, 30, 31, 32, 33, 34, 35, 36, 37] (by decide +kernel) (by decide +kernel)
set_option maxRecDepth 20000 in
theorem gX7_set_X7_store : GoodIn wsX7_set (wsV RX7 71 RX7 yX7_store wsX7_store) := goodIn_app (goodIn_of _ (by decide +kernel)) ggX7_set_X7_store
theorem dX7_set_0 : decode cX7_set 0 = .ok (.iload_n 1, 1) := by decide +kernel
theorem dX7_set_1 : decode cX7_set 1 = .ok (.invokestatic 62, 3) := by decide +kernel
theorem dX7_set_4 : decode cX7_set 4 = .ok (.ifCond .eq 23, 3) := by decide +kernel
theorem dX7_set_7 : decode cX7_set 7 = .ok (.iload_n 2, 1) := by decide +kernel
theorem dX7_set_8 : decode cX7_set 8 = .ok (.iconst 1, 1) := by decide +kernel
theorem dX7_set_9 : decode cX7_set 9 = .ok (.ldc 66, 2) := by decide +kernel
theorem dX7_set_11 : decode cX7_set 11 = .ok (.invokestatic 67, 3) := by decide +kernel
theorem dX7_set_14 : decode cX7_set 14 = .ok (.ifCond .eq 13, 3) := by decide +kernel
theorem dX7_set_17 : decode cX7_set 17 = .ok (.iload_n 3, 1) := by decide +kernel
theorem dX7_set_18 : decode cX7_set 18 = .ok (.iconst 1, 1) := by decide +kernel
theorem dX7_set_19 : decode cX7_set 19 = .ok (.ldc 66, 2) := by decide +kernel
theorem dX7_set_21 : decode cX7_set 21 = .ok (.invokestatic 67, 3) := by decide +kernel
theorem dX7_set_24 : decode cX7_set 24 = .ok (.ifCond .ne 5, 3) := by decide +kernel
theorem dX7_set_27 : decode cX7_set 27 = .ok (.iconst (-1), 1) := by decide +kernel
theorem dX7_set_28 : decode cX7_set 28 = .ok (.ireturn, 1) := by decide +kernel
theorem dX7_set_29 : decode cX7_set 29 = .ok (.aload_n 0, 1) := by decide +kernel
theorem dX7_set_30 : decode cX7_set 30 = .ok (.iload_n 1, 1) := by decide +kernel
theorem dX7_set_31 : decode cX7_set 31 = .ok (.iload_n 2, 1) := by decide +kernel
theorem dX7_set_32 : decode cX7_set 32 = .ok (.i2l, 1) := by decide +kernel
theorem dX7_set_33 : decode cX7_set 33 = .ok (.iload_n 3, 1) := by decide +kernel
theorem dX7_set_34 : decode cX7_set 34 = .ok (.i2l, 1) := by decide +kernel
theorem dX7_set_35 : decode cX7_set 35 = .ok (.invokevirtual 71, 3) := by decide +kernel
theorem dX7_set_38 : decode cX7_set 38 = .ok (.ireturn, 1) := by decide +kernel
set_option maxRecDepth 20000 in
theorem ggX7_numerator_X7_isRegister : GoodIn wsX7_numerator wsX7_isRegister := goodIn_r _ [5] (by decide +kernel) (by decide +kernel)
set_option maxRecDepth 20000 in
theorem gX7_numerator_X7_isRegister : GoodIn wsX7_numerator (va_wsS RX7 62 yX7_isRegister wsX7_isRegister) := goodIn_app (goodIn_of _ (by decide +kernel)) ggX7_numerator_X7_isRegister
theorem dX7_numerator_0 : decode cX7_numerator 0 = .ok (.iload_n 1, 1) := by decide +kernel
theorem dX7_numerator_1 : decode cX7_numerator 1 = .ok (.invokestatic 62, 3) := by decide +kernel
theorem dX7_numerator_4 : decode cX7_numerator 4 = .ok (.ifCond .eq 12, 3) := by decide +kernel
theorem dX7_numerator_7 : decode cX7_numerator 7 = .ok (.aload_n 0, 1) := by decide +kernel
theorem dX7_numerator_8 : decode cX7_numerator 8 = .ok (.getfield 9, 3) := by decide +kernel
theorem dX7_numerator_11 : decode cX7_numerator 11 = .ok (.iload_n 1, 1) := by decide +kernel
theorem dX7_numerator_12 : decode cX7_numerator 12 = .ok (.iaload, 1) := by decide +kernel
theorem dX7_numerator_13 : decode cX7_numerator 13 = .ok (.goto 4, 3) := by decide +kernel
theorem dX7_numerator_16 : decode cX7_numerator 16 = .ok (.iconst (-1), 1) := by decide +kernel
theorem dX7_numerator_17 : decode cX7_numerator 17 = .ok (.ireturn, 1) := by decide +kernel
set_option maxRecDepth 20000 in
theorem ggX7_denominator_X7_isRegister : GoodIn wsX7_denominator wsX7_isRegister := goodIn_r _ [5] (by decide +kernel) (by decide +kernel)
set_option maxRecDepth 20000 in
theorem gX7_denominator_X7_isRegister : GoodIn wsX7_denominator (va_wsS RX7 62 yX7_isRegister wsX7_isRegister) := goodIn_app (goodIn_of _ (by decide +kernel)) ggX7_denominator_X7_isRegister
theorem dX7_denominator_0 : decode cX7_denominator 0 = .ok (.iload_n 1, 1) := by decide +kernel
theorem dX7_denominator_1 : decode cX7_denominator 1 = .ok (.invokestatic 62, 3) := by decide +kernel
theorem dX7_denominator_4 : decode cX7_denominator 4 = .ok (.ifCond .eq 12, 3) := by decide +kernel
theorem dX7_denominator_7 : decode cX7_denominator 7 = .ok (.aload_n 0, 1) := by decide +kernel
theorem dX7_denominator_8 : decode cX7_denominator 8 = .ok (.getfield 13, 3) := by decide +kernel
theorem dX7_denominator_11 : decode cX7_denominator 11 = .ok (.iload_n 1, 1) := by decide +kernel
theorem dX7_denominator_12 : decode cX7_denominator 12 = .ok (.iaload, 1) := by decide +kernel
theorem dX7_denominator_13 : decode cX7_denominator 13 = .ok (.goto 4, 3) := by decide +kernel
theorem dX7_denominator_16 : decode cX7_denominator 16 = .ok (.iconst (-1), 1) := by decide +kernel
theorem dX7_denominator_17 : decode cX7_denominator 17 = .ok (.ireturn, 1) := by decide +kernel
set_option maxRecDepth 20000 in
theorem ggX7_compare_X7_isRegister : GoodIn wsX7_compare wsX7_isRegister := goodIn_r _ [4] (by decide +kernel) (by decide +kernel)
set_option maxRecDepth 20000 in
theorem gX7_compare_X7_isRegister : GoodIn wsX7_compare (va_wsS RX7 62 yX7_isRegister wsX7_isRegister) := goodIn_app (goodIn_of _ (by decide +kernel)) ggX7_compare_X7_isRegister
set_option maxRecDepth 20000 in
theorem ggX7_compare_X7_crossDifference : GoodIn wsX7_compare wsX7_crossDifference := goodIn_r _ [8, 9, 10, 11, 12, 13, 14, 15, 16, 17, 18, 19, 20, 21, 22, 23, 24, 25, 26] (by decide +kernel) (by decide +kernel)
set_option maxRecDepth 20000 in
theorem gX7_compare_X7_crossDifference : GoodIn wsX7_compare (wsV RX7 75 RX7 yX7_crossDifference wsX7_crossDifference) := goodIn_app (goodIn_of _ (by decide +kernel)) ggX7_compare_X7_crossDifference
theorem dX7_compare_0 : decode cX7_compare 0 = .ok (.iload_n 1, 1) := by decide +kernel
theorem dX7_compare_1 : decode cX7_compare 1 = .ok (.invokestatic 62, 3) := by decide +kernel
theorem dX7_compare_4 : decode cX7_compare 4 = .ok (.ifCond .eq 10, 3) := by decide +kernel
theorem dX7_compare_7 : decode cX7_compare 7 = .ok (.iload_n 2, 1) := by decide +kernel
theorem dX7_compare_8 : decode cX7_compare 8 = .ok (.invokestatic 62, 3) := by decide +kernel
theorem dX7_compare_11 : decode cX7_compare 11 = .ok (.ifCond .ne 5, 3) := by decide +kernel
theorem dX7_compare_14 : decode cX7_compare 14 = .ok (.iconst (-1), 1) := by decide +kernel
theorem dX7_compare_15 : decode cX7_compare 15 = .ok (.ireturn, 1) := by decide +kernel
theorem dX7_compare_16 : decode cX7_compare 16 = .ok (.aload_n 0, 1) := by decide +kernel
theorem dX7_compare_17 : decode cX7_compare 17 = .ok (.iload_n 1, 1) := by decide +kernel
theorem dX7_compare_18 : decode cX7_compare 18 = .ok (.iload_n 2, 1) := by decide +kernel
theorem dX7_compare_19 : decode cX7_compare 19 = .ok (.invokevirtual 75, 3) := by decide +kernel
theorem dX7_compare_22 : decode cX7_compare 22 = .ok (.lstore_n 3, 1) := by decide +kernel
theorem dX7_compare_23 : decode cX7_compare 23 = .ok (.lload_n 3, 1) := by decide +kernel
theorem dX7_compare_24 : decode cX7_compare 24 = .ok (.lconst 0, 1) := by decide +kernel
theorem dX7_compare_25 : decode cX7_compare 25 = .ok (.lcmp, 1) := by decide +kernel
theorem dX7_compare_26 : decode cX7_compare 26 = .ok (.ifCond .ge 5, 3) := by decide +kernel
theorem dX7_compare_29 : decode cX7_compare 29 = .ok (.iconst 0, 1) := by decide +kernel
theorem dX7_compare_30 : decode cX7_compare 30 = .ok (.ireturn, 1) := by decide +kernel
theorem dX7_compare_31 : decode cX7_compare 31 = .ok (.lload_n 3, 1) := by decide +kernel
theorem dX7_compare_32 : decode cX7_compare 32 = .ok (.lconst 0, 1) := by decide +kernel
theorem dX7_compare_33 : decode cX7_compare 33 = .ok (.lcmp, 1) := by decide +kernel
theorem dX7_compare_34 : decode cX7_compare 34 = .ok (.ifCond .ne 7, 3) := by decide +kernel
theorem dX7_compare_37 : decode cX7_compare 37 = .ok (.iconst 1, 1) := by decide +kernel
theorem dX7_compare_38 : decode cX7_compare 38 = .ok (.goto 4, 3) := by decide +kernel
theorem dX7_compare_41 : decode cX7_compare 41 = .ok (.iconst 2, 1) := by decide +kernel
theorem dX7_compare_42 : decode cX7_compare 42 = .ok (.ireturn, 1) := by decide +kernel
set_option maxRecDepth 20000 in
theorem ggX7_combine_X7_isRegister : GoodIn wsX7_combine wsX7_isRegister := goodIn_r _ [6] (by decide +kernel) (by decide +kernel)
set_option maxRecDepth 20000 in
theorem gX7_combine_X7_isRegister : GoodIn wsX7_combine (va_wsS RX7 62 yX7_isRegister wsX7_isRegister) := goodIn_app (goodIn_of _ (by decide +kernel)) ggX7_combine_X7_isRegister
set_option maxRecDepth 20000 in
theorem ggX7_combine_X7_isIn : GoodIn wsX7_combine wsX7_isIn := goodIn_r _ [9] (by decide +kernel) (by decide +kernel)
set_option maxRecDepth 20000 in
theorem gX7_combine_X7_isIn : GoodIn wsX7_combine (va_wsS RX7 67 yX7_isIn wsX7_isIn) := goodIn_app (goodIn_of _ (by decide +kernel)) ggX7_combine_X7_isIn
set_option maxRecDepth 20000 in
theorem ggX7_combine_X7_store : GoodIn wsX7_combine wsX7_store := goodIn_r _ [13, 14, 1, 2, 15, 16, 5, 17, 18, 19, 20, 25, 26, 27, 28, 29, 30, 31, 32, 33, 34, 35, 36, 37, 38, 39, 40] (by decide +kernel) (by decide +kernel)
set_option maxRecDepth 20000 in
theorem gX7_combine_X7_store : GoodIn wsX7_combine (wsV RX7 71 RX7 yX7_store wsX7_store) := goodIn_app (goodIn_of _ (by decide +kernel)) ggX7_combine_X7_store
set_option maxRecDepth 20000 in
theorem ggX7_combine_X7_crossDifference : GoodIn wsX7_combine wsX7_crossDifference := goodIn_r _ [24, 1, 2, 25, 26, 27, 28, 29, 30, 31, 32, 33, 34, 35, 36, 37, 38, 39, 40] (by decide +kernel) (by decide +kernel)
set_option maxRecDepth 20000 in
theorem gX7_combine_X7_crossDifference : GoodIn wsX7_combine (wsV RX7 75 RX7 yX7_crossDifference wsX7_crossDifference) := goodIn_app (goodIn_of _ (by decide +kernel)) ggX7_combine_X7_crossDifference
theorem dX7_combine_0 : decode cX7_combine 0 = .ok (.iload_n 1, 1) := by decide +kernel
theorem dX7_combine_1 : decode cX7_combine 1 = .ok (.invokestatic 62, 3) := by decide +kernel
theorem dX7_combine_4 : decode cX7_combine 4 = .ok (.ifCond .eq 27, 3) := by decide +kernel
theorem dX7_combine_7 : decode cX7_combine 7 = .ok (.iload_n 2, 1) := by decide +kernel
theorem dX7_combine_8 : decode cX7_combine 8 = .ok (.invokestatic 62, 3) := by decide +kernel
theorem dX7_combine_11 : decode cX7_combine 11 = .ok (.ifCond .eq 20, 3) := by decide +kernel
theorem dX7_combine_14 : decode cX7_combine 14 = .ok (.iload_n 3, 1) := by decide +kernel
theorem dX7_combine_15 : decode cX7_combine 15 = .ok (.invokestatic 62, 3) := by decide +kernel
theorem dX7_combine_18 : decode cX7_combine 18 = .ok (.ifCond .eq 13, 3) := by decide +kernel
theorem dX7_combine_21 : decode cX7_combine 21 = .ok (.iload 4, 2) := by decide +kernel
theorem dX7_combine_23 : decode cX7_combine 23 = .ok (.iconst 0, 1) := by decide +kernel
theorem dX7_combine_24 : decode cX7_combine 24 = .ok (.iconst 4, 1) := by decide +kernel
theorem dX7_combine_25 : decode cX7_combine 25 = .ok (.invokestatic 67, 3) := by decide +kernel
theorem dX7_combine_28 : decode cX7_combine 28 = .ok (.ifCond .ne 5, 3) := by decide +kernel
theorem dX7_combine_31 : decode cX7_combine 31 = .ok (.iconst (-1), 1) := by decide +kernel
theorem dX7_combine_32 : decode cX7_combine 32 = .ok (.ireturn, 1) := by decide +kernel
theorem dX7_combine_33 : decode cX7_combine 33 = .ok (.aload_n 0, 1) := by decide +kernel
theorem dX7_combine_34 : decode cX7_combine 34 = .ok (.getfield 9, 3) := by decide +kernel
theorem dX7_combine_37 : decode cX7_combine 37 = .ok (.iload_n 2, 1) := by decide +kernel
theorem dX7_combine_38 : decode cX7_combine 38 = .ok (.iaload, 1) := by decide +kernel
theorem dX7_combine_39 : decode cX7_combine 39 = .ok (.i2l, 1) := by decide +kernel
theorem dX7_combine_40 : decode cX7_combine 40 = .ok (.lstore 5, 2) := by decide +kernel
theorem dX7_combine_42 : decode cX7_combine 42 = .ok (.aload_n 0, 1) := by decide +kernel
theorem dX7_combine_43 : decode cX7_combine 43 = .ok (.getfield 13, 3) := by decide +kernel
theorem dX7_combine_46 : decode cX7_combine 46 = .ok (.iload_n 2, 1) := by decide +kernel
theorem dX7_combine_47 : decode cX7_combine 47 = .ok (.iaload, 1) := by decide +kernel
theorem dX7_combine_48 : decode cX7_combine 48 = .ok (.i2l, 1) := by decide +kernel
theorem dX7_combine_49 : decode cX7_combine 49 = .ok (.lstore 7, 2) := by decide +kernel
theorem dX7_combine_51 : decode cX7_combine 51 = .ok (.aload_n 0, 1) := by decide +kernel
theorem dX7_combine_52 : decode cX7_combine 52 = .ok (.getfield 9, 3) := by decide +kernel
theorem dX7_combine_55 : decode cX7_combine 55 = .ok (.iload_n 3, 1) := by decide +kernel
theorem dX7_combine_56 : decode cX7_combine 56 = .ok (.iaload, 1) := by decide +kernel
theorem dX7_combine_57 : decode cX7_combine 57 = .ok (.i2l, 1) := by decide +kernel
theorem dX7_combine_58 : decode cX7_combine 58 = .ok (.lstore 9, 2) := by decide +kernel
theorem dX7_combine_60 : decode cX7_combine 60 = .ok (.aload_n 0, 1) := by decide +kernel
theorem dX7_combine_61 : decode cX7_combine 61 = .ok (.getfield 13, 3) := by decide +kernel
theorem dX7_combine_64 : decode cX7_combine 64 = .ok (.iload_n 3, 1) := by decide +kernel
theorem dX7_combine_65 : decode cX7_combine 65 = .ok (.iaload, 1) := by decide +kernel
theorem dX7_combine_66 : decode cX7_combine 66 = .ok (.i2l, 1) := by decide +kernel
theorem dX7_combine_67 : decode cX7_combine 67 = .ok (.lstore 11, 2) := by decide +kernel
theorem dX7_combine_69 : decode cX7_combine 69 = .ok (.iload 4, 2) := by decide +kernel
theorem dX7_combine_71 : decode cX7_combine 71 = .ok (.tableswitch 116 0 3 #[29, 51, 84, 100], 29) := by decide +kernel
theorem dX7_combine_100 : decode cX7_combine 100 = .ok (.aload_n 0, 1) := by decide +kernel
theorem dX7_combine_101 : decode cX7_combine 101 = .ok (.iload_n 1, 1) := by decide +kernel
theorem dX7_combine_102 : decode cX7_combine 102 = .ok (.lload 5, 2) := by decide +kernel
theorem dX7_combine_104 : decode cX7_combine 104 = .ok (.lload 11, 2) := by decide +kernel
theorem dX7_combine_106 : decode cX7_combine 106 = .ok (.lmul, 1) := by decide +kernel
theorem dX7_combine_107 : decode cX7_combine 107 = .ok (.lload 9, 2) := by decide +kernel
theorem dX7_combine_109 : decode cX7_combine 109 = .ok (.lload 7, 2) := by decide +kernel
theorem dX7_combine_111 : decode cX7_combine 111 = .ok (.lmul, 1) := by decide +kernel
theorem dX7_combine_112 : decode cX7_combine 112 = .ok (.ladd, 1) := by decide +kernel
theorem dX7_combine_113 : decode cX7_combine 113 = .ok (.lload 7, 2) := by decide +kernel
theorem dX7_combine_115 : decode cX7_combine 115 = .ok (.lload 11, 2) := by decide +kernel
theorem dX7_combine_117 : decode cX7_combine 117 = .ok (.lmul, 1) := by decide +kernel
theorem dX7_combine_118 : decode cX7_combine 118 = .ok (.invokevirtual 71, 3) := by decide +kernel
theorem dX7_combine_121 : decode cX7_combine 121 = .ok (.ireturn, 1) := by decide +kernel
theorem dX7_combine_122 : decode cX7_combine 122 = .ok (.aload_n 0, 1) := by decide +kernel
theorem dX7_combine_123 : decode cX7_combine 123 = .ok (.iload_n 2, 1) := by decide +kernel
theorem dX7_combine_124 : decode cX7_combine 124 = .ok (.iload_n 3, 1) := by decide +kernel
theorem dX7_combine_125 : decode cX7_combine 125 = .ok (.invokevirtual 75, 3) := by decide +kernel
theorem dX7_combine_128 : decode cX7_combine 128 = .ok (.lstore 13, 2) := by decide +kernel
theorem dX7_combine_130 : decode cX7_combine 130 = .ok (.lload 13, 2) := by decide +kernel
theorem dX7_combine_132 : decode cX7_combine 132 = .ok (.lconst 0, 1) := by decide +kernel
theorem dX7_combine_133 : decode cX7_combine 133 = .ok (.lcmp, 1) := by decide +kernel
theorem dX7_combine_134 : decode cX7_combine 134 = .ok (.ifCond .le 18, 3) := by decide +kernel
theorem dX7_combine_137 : decode cX7_combine 137 = .ok (.aload_n 0, 1) := by decide +kernel
theorem dX7_combine_138 : decode cX7_combine 138 = .ok (.iload_n 1, 1) := by decide +kernel
theorem dX7_combine_139 : decode cX7_combine 139 = .ok (.lload 13, 2) := by decide +kernel
theorem dX7_combine_141 : decode cX7_combine 141 = .ok (.lload 7, 2) := by decide +kernel
theorem dX7_combine_143 : decode cX7_combine 143 = .ok (.lload 11, 2) := by decide +kernel
theorem dX7_combine_145 : decode cX7_combine 145 = .ok (.lmul, 1) := by decide +kernel
theorem dX7_combine_146 : decode cX7_combine 146 = .ok (.invokevirtual 71, 3) := by decide +kernel
theorem dX7_combine_149 : decode cX7_combine 149 = .ok (.goto 5, 3) := by decide +kernel
theorem dX7_combine_152 : decode cX7_combine 152 = .ok (.bipush (-4), 2) := by decide +kernel
theorem dX7_combine_154 : decode cX7_combine 154 = .ok (.ireturn, 1) := by decide +kernel
theorem dX7_combine_155 : decode cX7_combine 155 = .ok (.aload_n 0, 1) := by decide +kernel
theorem dX7_combine_156 : decode cX7_combine 156 = .ok (.iload_n 1, 1) := by decide +kernel
theorem dX7_combine_157 : decode cX7_combine 157 = .ok (.lload 5, 2) := by decide +kernel
theorem dX7_combine_159 : decode cX7_combine 159 = .ok (.lload 9, 2) := by decide +kernel
theorem dX7_combine_161 : decode cX7_combine 161 = .ok (.lmul, 1) := by decide +kernel
theorem dX7_combine_162 : decode cX7_combine 162 = .ok (.lload 7, 2) := by decide +kernel
theorem dX7_combine_164 : decode cX7_combine 164 = .ok (.lload 11, 2) := by decide +kernel
theorem dX7_combine_166 : decode cX7_combine 166 = .ok (.lmul, 1) := by decide +kernel
theorem dX7_combine_167 : decode cX7_combine 167 = .ok (.invokevirtual 71, 3) := by decide +kernel
theorem dX7_combine_170 : decode cX7_combine 170 = .ok (.ireturn, 1) := by decide +kernel
theorem dX7_combine_171 : decode cX7_combine 171 = .ok (.aload_n 0, 1) := by decide +kernel
theorem dX7_combine_172 : decode cX7_combine 172 = .ok (.iload_n 1, 1) := by decide +kernel
theorem dX7_combine_173 : decode cX7_combine 173 = .ok (.lload 5, 2) := by decide +kernel
theorem dX7_combine_175 : decode cX7_combine 175 = .ok (.lload 11, 2) := by decide +kernel
theorem dX7_combine_177 : decode cX7_combine 177 = .ok (.lmul, 1) := by decide +kernel
theorem dX7_combine_178 : decode cX7_combine 178 = .ok (.lload 7, 2) := by decide +kernel
theorem dX7_combine_180 : decode cX7_combine 180 = .ok (.lload 9, 2) := by decide +kernel
theorem dX7_combine_182 : decode cX7_combine 182 = .ok (.lmul, 1) := by decide +kernel
theorem dX7_combine_183 : decode cX7_combine 183 = .ok (.invokevirtual 71, 3) := by decide +kernel
theorem dX7_combine_186 : decode cX7_combine 186 = .ok (.ireturn, 1) := by decide +kernel
theorem dX7_combine_187 : decode cX7_combine 187 = .ok (.aload_n 0, 1) := by decide +kernel
theorem dX7_combine_188 : decode cX7_combine 188 = .ok (.iload_n 1, 1) := by decide +kernel
theorem dX7_combine_189 : decode cX7_combine 189 = .ok (.lload 5, 2) := by decide +kernel
theorem dX7_combine_191 : decode cX7_combine 191 = .ok (.lload 9, 2) := by decide +kernel
theorem dX7_combine_193 : decode cX7_combine 193 = .ok (.ladd, 1) := by decide +kernel
theorem dX7_combine_194 : decode cX7_combine 194 = .ok (.lload 7, 2) := by decide +kernel
theorem dX7_combine_196 : decode cX7_combine 196 = .ok (.lload 11, 2) := by decide +kernel
theorem dX7_combine_198 : decode cX7_combine 198 = .ok (.ladd, 1) := by decide +kernel
theorem dX7_combine_199 : decode cX7_combine 199 = .ok (.invokevirtual 71, 3) := by decide +kernel
theorem dX7_combine_202 : decode cX7_combine 202 = .ok (.ireturn, 1) := by decide +kernel
set_option maxRecDepth 20000 in
theorem ggX7_determinant_X7_isRegister : GoodIn wsX7_determinant wsX7_isRegister := goodIn_r _ [5] (by decide +kernel) (by decide +kernel)
set_option maxRecDepth 20000 in
theorem gX7_determinant_X7_isRegister : GoodIn wsX7_determinant (va_wsS RX7 62 yX7_isRegister wsX7_isRegister) := goodIn_app (goodIn_of _ (by decide +kernel)) ggX7_determinant_X7_isRegister
set_option maxRecDepth 20000 in
theorem ggX7_determinant_X7_crossDifference : GoodIn wsX7_determinant wsX7_crossDifference := goodIn_r _ [9, 10, 11, 12, 13, 14, 15, 16, 17, 18, 19, 20, 21, 22, 23, 24, 25, 26, 27] (by decide +kernel) (by decide +kernel)
set_option maxRecDepth 20000 in
theorem gX7_determinant_X7_crossDifference : GoodIn wsX7_determinant (wsV RX7 75 RX7 yX7_crossDifference wsX7_crossDifference) := goodIn_app (goodIn_of _ (by decide +kernel)) ggX7_determinant_X7_crossDifference
theorem dX7_determinant_0 : decode cX7_determinant 0 = .ok (.iload_n 1, 1) := by decide +kernel
theorem dX7_determinant_1 : decode cX7_determinant 1 = .ok (.invokestatic 62, 3) := by decide +kernel
theorem dX7_determinant_4 : decode cX7_determinant 4 = .ok (.ifCond .eq 19, 3) := by decide +kernel
theorem dX7_determinant_7 : decode cX7_determinant 7 = .ok (.iload_n 2, 1) := by decide +kernel
theorem dX7_determinant_8 : decode cX7_determinant 8 = .ok (.invokestatic 62, 3) := by decide +kernel
theorem dX7_determinant_11 : decode cX7_determinant 11 = .ok (.ifCond .eq 12, 3) := by decide +kernel
theorem dX7_determinant_14 : decode cX7_determinant 14 = .ok (.aload_n 0, 1) := by decide +kernel
theorem dX7_determinant_15 : decode cX7_determinant 15 = .ok (.iload_n 1, 1) := by decide +kernel
theorem dX7_determinant_16 : decode cX7_determinant 16 = .ok (.iload_n 2, 1) := by decide +kernel
theorem dX7_determinant_17 : decode cX7_determinant 17 = .ok (.invokevirtual 75, 3) := by decide +kernel
theorem dX7_determinant_20 : decode cX7_determinant 20 = .ok (.goto 6, 3) := by decide +kernel
theorem dX7_determinant_23 : decode cX7_determinant 23 = .ok (.ldc2_w 79, 3) := by decide +kernel
theorem dX7_determinant_26 : decode cX7_determinant 26 = .ok (.lreturn, 1) := by decide +kernel
set_option maxRecDepth 20000 in
theorem ggX7_depth_X7_isRegister : GoodIn wsX7_depth wsX7_isRegister := goodIn_r _ [4] (by decide +kernel) (by decide +kernel)
set_option maxRecDepth 20000 in
theorem gX7_depth_X7_isRegister : GoodIn wsX7_depth (va_wsS RX7 62 yX7_isRegister wsX7_isRegister) := goodIn_app (goodIn_of _ (by decide +kernel)) ggX7_depth_X7_isRegister
set_option maxRecDepth 20000 in
theorem ggX7_depth_X7_expand : GoodIn wsX7_depth wsX7_expand := goodIn_r _ [8, 9, 10, 11, 12, 13, 14, 15, 16, 17, 18, 19, 20, 21, 22, 35, 36, 37, 38, 39, 40, 41, 42, 43, 44, 45, 46, 47, 48, 49, 50, 51, 52, 53, 54, 55, 56] (by decide +kernel) (by decide +kernel)
set_option maxRecDepth 20000 in
theorem gX7_depth_X7_expand : GoodIn wsX7_depth (wsV RX7 81 RX7 yX7_expand wsX7_expand) := goodIn_app (goodIn_of _ (by decide +kernel)) ggX7_depth_X7_expand
set_option maxRecDepth 20000 in
theorem ggX7_depth_X1_stepCount : GoodIn wsX7_depth wsX1_stepCount := goodIn_r _ [26, 17, 27, 28, 29, 15, 30, 31, 32, 33, 34, 22, 51, 52, 53, 54, 55, 56] (by decide +kernel) (by decide +kernel)
set_option maxRecDepth 20000 in
theorem gX7_depth_X1_stepCount : GoodIn wsX7_depth (wsV RX7 85 RX1 yX1_stepCount wsX1_stepCount) := goodIn_app (goodIn_of _ (by decide +kernel)) ggX7_depth_X1_stepCount
theorem dX7_depth_0 : decode cX7_depth 0 = .ok (.iload_n 1, 1) := by decide +kernel
theorem dX7_depth_1 : decode cX7_depth 1 = .ok (.invokestatic 62, 3) := by decide +kernel
theorem dX7_depth_4 : decode cX7_depth 4 = .ok (.ifCond .eq 14, 3) := by decide +kernel
theorem dX7_depth_7 : decode cX7_depth 7 = .ok (.aload_n 0, 1) := by decide +kernel
theorem dX7_depth_8 : decode cX7_depth 8 = .ok (.iload_n 1, 1) := by decide +kernel
theorem dX7_depth_9 : decode cX7_depth 9 = .ok (.invokevirtual 81, 3) := by decide +kernel
theorem dX7_depth_12 : decode cX7_depth 12 = .ok (.invokevirtual 85, 3) := by decide +kernel
theorem dX7_depth_15 : decode cX7_depth 15 = .ok (.goto 4, 3) := by decide +kernel
theorem dX7_depth_18 : decode cX7_depth 18 = .ok (.iconst (-1), 1) := by decide +kernel
theorem dX7_depth_19 : decode cX7_depth 19 = .ok (.ireturn, 1) := by decide +kernel
set_option maxRecDepth 20000 in
theorem ggX7_pathStep_X7_isRegister : GoodIn wsX7_pathStep wsX7_isRegister := goodIn_r _ [4] (by decide +kernel) (by decide +kernel)
set_option maxRecDepth 20000 in
theorem gX7_pathStep_X7_isRegister : GoodIn wsX7_pathStep (va_wsS RX7 62 yX7_isRegister wsX7_isRegister) := goodIn_app (goodIn_of _ (by decide +kernel)) ggX7_pathStep_X7_isRegister
set_option maxRecDepth 20000 in
theorem ggX7_pathStep_X7_expand : GoodIn wsX7_pathStep wsX7_expand := goodIn_r _ [8, 9, 10, 11, 12, 13, 14, 15, 16, 17, 18, 19, 20, 21, 22, 35, 36, 37, 38, 39, 40, 41, 42, 43, 44, 45, 46, 47, 48, 49, 50, 51, 52, 53, 54, 55, 56] (by decide +kernel) (by decide +kernel)
set_option maxRecDepth 20000 in
theorem gX7_pathStep_X7_expand : GoodIn wsX7_pathStep (wsV RX7 81 RX7 yX7_expand wsX7_expand) := goodIn_app (goodIn_of _ (by decide +kernel)) ggX7_pathStep_X7_expand
set_option maxRecDepth 20000 in
theorem ggX7_pathStep_X1_stepAt : GoodIn wsX7_pathStep wsX1_stepAt := goodIn_r _ [26, 17, 27, 28, 29, 15, 30, 31, 32, 33, 34, 22, 51, 52, 53, 54, 55, 56] (by decide +kernel) (by decide +kernel)
set_option maxRecDepth 20000 in
theorem gX7_pathStep_X1_stepAt : GoodIn wsX7_pathStep (wsV RX7 89 RX1 yX1_stepAt wsX1_stepAt) := goodIn_app (goodIn_of _ (by decide +kernel)) ggX7_pathStep_X1_stepAt
theorem dX7_pathStep_0 : decode cX7_pathStep 0 = .ok (.iload_n 1, 1) := by decide +kernel
theorem dX7_pathStep_1 : decode cX7_pathStep 1 = .ok (.invokestatic 62, 3) := by decide +kernel
theorem dX7_pathStep_4 : decode cX7_pathStep 4 = .ok (.ifCond .eq 7, 3) := by decide +kernel
theorem dX7_pathStep_7 : decode cX7_pathStep 7 = .ok (.iload_n 2, 1) := by decide +kernel
theorem dX7_pathStep_8 : decode cX7_pathStep 8 = .ok (.ifCond .ge 5, 3) := by decide +kernel
theorem dX7_pathStep_11 : decode cX7_pathStep 11 = .ok (.iconst (-1), 1) := by decide +kernel
theorem dX7_pathStep_12 : decode cX7_pathStep 12 = .ok (.ireturn, 1) := by decide +kernel
theorem dX7_pathStep_13 : decode cX7_pathStep 13 = .ok (.aload_n 0, 1) := by decide +kernel
theorem dX7_pathStep_14 : decode cX7_pathStep 14 = .ok (.iload_n 1, 1) := by decide +kernel
theorem dX7_pathStep_15 : decode cX7_pathStep 15 = .ok (.invokevirtual 81, 3) := by decide +kernel
theorem dX7_pathStep_18 : decode cX7_pathStep 18 = .ok (.iload_n 2, 1) := by decide +kernel
theorem dX7_pathStep_19 : decode cX7_pathStep 19 = .ok (.invokevirtual 89, 3) := by decide +kernel
theorem dX7_pathStep_22 : decode cX7_pathStep 22 = .ok (.ireturn, 1) := by decide +kernel
set_option maxRecDepth 20000 in
theorem ggX7_runCount_X7_isRegister : GoodIn wsX7_runCount wsX7_isRegister := goodIn_r _ [4] (by decide +kernel) (by decide +kernel)
set_option maxRecDepth 20000 in
theorem gX7_runCount_X7_isRegister : GoodIn wsX7_runCount (va_wsS RX7 62 yX7_isRegister wsX7_isRegister) := goodIn_app (goodIn_of _ (by decide +kernel)) ggX7_runCount_X7_isRegister
set_option maxRecDepth 20000 in
theorem ggX7_runCount_X7_expand : GoodIn wsX7_runCount wsX7_expand := goodIn_r _ [8, 9, 10, 11, 12, 13, 14, 15, 16, 17, 18, 19, 20, 21, 22, 35, 36, 37, 38, 39, 40, 41, 42, 43, 44, 45, 46, 47, 48, 49, 50, 51, 52, 53, 54, 55, 56] (by decide +kernel) (by decide +kernel)
set_option maxRecDepth 20000 in
theorem gX7_runCount_X7_expand : GoodIn wsX7_runCount (wsV RX7 81 RX7 yX7_expand wsX7_expand) := goodIn_app (goodIn_of _ (by decide +kernel)) ggX7_runCount_X7_expand
set_option maxRecDepth 20000 in
theorem ggX7_runCount_X1_size : GoodIn wsX7_runCount wsX1_size := goodIn_r _ [26, 17, 51, 52, 53, 54, 55, 56] (by decide +kernel) (by decide +kernel)
set_option maxRecDepth 20000 in
theorem gX7_runCount_X1_size : GoodIn wsX7_runCount (wsV RX7 93 RX1 yX1_size wsX1_size) := goodIn_app (goodIn_of _ (by decide +kernel)) ggX7_runCount_X1_size
set_option maxRecDepth 20000 in
theorem ggX7_runCount_X1_runAt : GoodIn wsX7_runCount wsX1_runAt := goodIn_r _ [30, 17, 31, 32, 33, 15, 34, 22, 51, 52, 53, 54, 55, 56] (by decide +kernel) (by decide +kernel)
set_option maxRecDepth 20000 in
theorem gX7_runCount_X1_runAt : GoodIn wsX7_runCount (wsV RX7 96 RX1 yX1_runAt wsX1_runAt) := goodIn_app (goodIn_of _ (by decide +kernel)) ggX7_runCount_X1_runAt
theorem dX7_runCount_0 : decode cX7_runCount 0 = .ok (.iload_n 1, 1) := by decide +kernel
theorem dX7_runCount_1 : decode cX7_runCount 1 = .ok (.invokestatic 62, 3) := by decide +kernel
theorem dX7_runCount_4 : decode cX7_runCount 4 = .ok (.ifCond .ne 5, 3) := by decide +kernel
theorem dX7_runCount_7 : decode cX7_runCount 7 = .ok (.iconst (-1), 1) := by decide +kernel
theorem dX7_runCount_8 : decode cX7_runCount 8 = .ok (.ireturn, 1) := by decide +kernel
theorem dX7_runCount_9 : decode cX7_runCount 9 = .ok (.aload_n 0, 1) := by decide +kernel
theorem dX7_runCount_10 : decode cX7_runCount 10 = .ok (.iload_n 1, 1) := by decide +kernel
theorem dX7_runCount_11 : decode cX7_runCount 11 = .ok (.invokevirtual 81, 3) := by decide +kernel
theorem dX7_runCount_14 : decode cX7_runCount 14 = .ok (.astore_n 2, 1) := by decide +kernel
theorem dX7_runCount_15 : decode cX7_runCount 15 = .ok (.iconst 0, 1) := by decide +kernel
theorem dX7_runCount_16 : decode cX7_runCount 16 = .ok (.istore_n 3, 1) := by decide +kernel
theorem dX7_runCount_17 : decode cX7_runCount 17 = .ok (.iconst 0, 1) := by decide +kernel
theorem dX7_runCount_18 : decode cX7_runCount 18 = .ok (.istore 4, 2) := by decide +kernel
theorem dX7_runCount_20 : decode cX7_runCount 20 = .ok (.iload 4, 2) := by decide +kernel
theorem dX7_runCount_22 : decode cX7_runCount 22 = .ok (.aload_n 2, 1) := by decide +kernel
theorem dX7_runCount_23 : decode cX7_runCount 23 = .ok (.invokevirtual 93, 3) := by decide +kernel
theorem dX7_runCount_26 : decode cX7_runCount 26 = .ok (.if_icmp .ge 21, 3) := by decide +kernel
theorem dX7_runCount_29 : decode cX7_runCount 29 = .ok (.aload_n 2, 1) := by decide +kernel
theorem dX7_runCount_30 : decode cX7_runCount 30 = .ok (.iload 4, 2) := by decide +kernel
theorem dX7_runCount_32 : decode cX7_runCount 32 = .ok (.invokevirtual 96, 3) := by decide +kernel
theorem dX7_runCount_35 : decode cX7_runCount 35 = .ok (.ifCond .le 6, 3) := by decide +kernel
theorem dX7_runCount_38 : decode cX7_runCount 38 = .ok (.iinc 3 1, 3) := by decide +kernel
theorem dX7_runCount_41 : decode cX7_runCount 41 = .ok (.iinc 4 1, 3) := by decide +kernel
theorem dX7_runCount_44 : decode cX7_runCount 44 = .ok (.goto (-24), 3) := by decide +kernel
theorem dX7_runCount_47 : decode cX7_runCount 47 = .ok (.iload_n 3, 1) := by decide +kernel
theorem dX7_runCount_48 : decode cX7_runCount 48 = .ok (.ireturn, 1) := by decide +kernel
set_option maxRecDepth 20000 in
theorem ggX7_run_X7_isRegister : GoodIn wsX7_run wsX7_isRegister := goodIn_r _ [4] (by decide +kernel) (by decide +kernel)
set_option maxRecDepth 20000 in
theorem gX7_run_X7_isRegister : GoodIn wsX7_run (va_wsS RX7 62 yX7_isRegister wsX7_isRegister) := goodIn_app (goodIn_of _ (by decide +kernel)) ggX7_run_X7_isRegister
set_option maxRecDepth 20000 in
theorem ggX7_run_X7_expand : GoodIn wsX7_run wsX7_expand := goodIn_r _ [8, 9, 10, 11, 12, 13, 14, 15, 16, 17, 18, 19, 20, 21, 22, 35, 36, 37, 38, 39, 40, 41, 42, 43, 44, 45, 46, 47, 48, 49, 50, 51, 52, 53, 54, 55, 56] (by decide +kernel) (by decide +kernel)
set_option maxRecDepth 20000 in
theorem gX7_run_X7_expand : GoodIn wsX7_run (wsV RX7 81 RX7 yX7_expand wsX7_expand) := goodIn_app (goodIn_of _ (by decide +kernel)) ggX7_run_X7_expand
set_option maxRecDepth 20000 in
theorem ggX7_run_X1_size : GoodIn wsX7_run wsX1_size := goodIn_r _ [26, 17, 51, 52, 53, 54, 55, 56] (by decide +kernel) (by decide +kernel)
set_option maxRecDepth 20000 in
theorem gX7_run_X1_size : GoodIn wsX7_run (wsV RX7 93 RX1 yX1_size wsX1_size) := goodIn_app (goodIn_of _ (by decide +kernel)) ggX7_run_X1_size
set_option maxRecDepth 20000 in
theorem ggX7_run_X1_runAt : GoodIn wsX7_run wsX1_runAt := goodIn_r _ [30, 17, 31, 32, 33, 15, 34, 22, 51, 52, 53, 54, 55, 56] (by decide +kernel) (by decide +kernel)
set_option maxRecDepth 20000 in
theorem gX7_run_X1_runAt : GoodIn wsX7_run (wsV RX7 96 RX1 yX1_runAt wsX1_runAt) := goodIn_app (goodIn_of _ (by decide +kernel)) ggX7_run_X1_runAt
theorem dX7_run_0 : decode cX7_run 0 = .ok (.iload_n 1, 1) := by decide +kernel
theorem dX7_run_1 : decode cX7_run 1 = .ok (.invokestatic 62, 3) := by decide +kernel
theorem dX7_run_4 : decode cX7_run 4 = .ok (.ifCond .eq 7, 3) := by decide +kernel
theorem dX7_run_7 : decode cX7_run 7 = .ok (.iload_n 2, 1) := by decide +kernel
theorem dX7_run_8 : decode cX7_run 8 = .ok (.ifCond .ge 5, 3) := by decide +kernel
theorem dX7_run_11 : decode cX7_run 11 = .ok (.iconst (-1), 1) := by decide +kernel
theorem dX7_run_12 : decode cX7_run 12 = .ok (.ireturn, 1) := by decide +kernel
theorem dX7_run_13 : decode cX7_run 13 = .ok (.aload_n 0, 1) := by decide +kernel
theorem dX7_run_14 : decode cX7_run 14 = .ok (.iload_n 1, 1) := by decide +kernel
theorem dX7_run_15 : decode cX7_run 15 = .ok (.invokevirtual 81, 3) := by decide +kernel
theorem dX7_run_18 : decode cX7_run 18 = .ok (.astore_n 3, 1) := by decide +kernel
theorem dX7_run_19 : decode cX7_run 19 = .ok (.iconst 0, 1) := by decide +kernel
theorem dX7_run_20 : decode cX7_run 20 = .ok (.istore 4, 2) := by decide +kernel
theorem dX7_run_22 : decode cX7_run 22 = .ok (.iconst 0, 1) := by decide +kernel
theorem dX7_run_23 : decode cX7_run 23 = .ok (.istore 5, 2) := by decide +kernel
theorem dX7_run_25 : decode cX7_run 25 = .ok (.iload 5, 2) := by decide +kernel
theorem dX7_run_27 : decode cX7_run 27 = .ok (.aload_n 3, 1) := by decide +kernel
theorem dX7_run_28 : decode cX7_run 28 = .ok (.invokevirtual 93, 3) := by decide +kernel
theorem dX7_run_31 : decode cX7_run 31 = .ok (.if_icmp .ge 34, 3) := by decide +kernel
theorem dX7_run_34 : decode cX7_run 34 = .ok (.aload_n 3, 1) := by decide +kernel
theorem dX7_run_35 : decode cX7_run 35 = .ok (.iload 5, 2) := by decide +kernel
theorem dX7_run_37 : decode cX7_run 37 = .ok (.invokevirtual 96, 3) := by decide +kernel
theorem dX7_run_40 : decode cX7_run 40 = .ok (.ifCond .le 19, 3) := by decide +kernel
theorem dX7_run_43 : decode cX7_run 43 = .ok (.iload 4, 2) := by decide +kernel
theorem dX7_run_45 : decode cX7_run 45 = .ok (.iload_n 2, 1) := by decide +kernel
theorem dX7_run_46 : decode cX7_run 46 = .ok (.if_icmp .ne 10, 3) := by decide +kernel
theorem dX7_run_49 : decode cX7_run 49 = .ok (.aload_n 3, 1) := by decide +kernel
theorem dX7_run_50 : decode cX7_run 50 = .ok (.iload 5, 2) := by decide +kernel
theorem dX7_run_52 : decode cX7_run 52 = .ok (.invokevirtual 96, 3) := by decide +kernel
theorem dX7_run_55 : decode cX7_run 55 = .ok (.ireturn, 1) := by decide +kernel
theorem dX7_run_56 : decode cX7_run 56 = .ok (.iinc 4 1, 3) := by decide +kernel
theorem dX7_run_59 : decode cX7_run 59 = .ok (.iinc 5 1, 3) := by decide +kernel
theorem dX7_run_62 : decode cX7_run 62 = .ok (.goto (-37), 3) := by decide +kernel
theorem dX7_run_65 : decode cX7_run 65 = .ok (.bipush (-2), 2) := by decide +kernel
theorem dX7_run_67 : decode cX7_run 67 = .ok (.ireturn, 1) := by decide +kernel
set_option maxRecDepth 20000 in
theorem ggX7_ancestor_X7_isRegister : GoodIn wsX7_ancestor wsX7_isRegister := goodIn_r _ [4] (by decide +kernel) (by decide +kernel)
set_option maxRecDepth 20000 in
theorem gX7_ancestor_X7_isRegister : GoodIn wsX7_ancestor (va_wsS RX7 62 yX7_isRegister wsX7_isRegister) := goodIn_app (goodIn_of _ (by decide +kernel)) ggX7_ancestor_X7_isRegister
set_option maxRecDepth 20000 in
theorem ggX7_ancestor_X7_expand : GoodIn wsX7_ancestor wsX7_expand := goodIn_r _ [8, 9, 10, 11, 12, 13, 14, 15, 16, 17, 18, 19, 20, 21, 22, 70, 71, 72, 73, 74, 75, 76, 77, 78, 79, 80, 81, 82, 83, 84, 85, 86, 87, 88, 89, 90, 91] (by decide +kernel) (by decide +kernel)
set_option maxRecDepth 20000 in
theorem gX7_ancestor_X7_expand : GoodIn wsX7_ancestor (wsV RX7 81 RX7 yX7_expand wsX7_expand) := goodIn_app (goodIn_of _ (by decide +kernel)) ggX7_ancestor_X7_expand
set_option maxRecDepth 20000 in
theorem ggX7_ancestor_X1_stepCount : GoodIn wsX7_ancestor wsX1_stepCount := goodIn_r _ [26, 17, 27, 28, 29, 15, 30, 31, 32, 33, 34, 22, 86, 87, 88, 89, 90, 91] (by decide +kernel) (by decide +kernel)
set_option maxRecDepth 20000 in
theorem gX7_ancestor_X1_stepCount : GoodIn wsX7_ancestor (wsV RX7 85 RX1 yX1_stepCount wsX1_stepCount) := goodIn_app (goodIn_of _ (by decide +kernel)) ggX7_ancestor_X1_stepCount
set_option maxRecDepth 20000 in
theorem ggX7_ancestor_X1_cutToDepth : GoodIn wsX7_ancestor wsX1_cutToDepth := goodIn_r _ [38, 17, 22, 27, 28, 29, 15, 30, 31, 32, 33, 34, 86, 87, 88, 89, 90, 91] (by decide +kernel) (by decide +kernel)
set_option maxRecDepth 20000 in
theorem gX7_ancestor_X1_cutToDepth : GoodIn wsX7_ancestor (wsV RX7 99 RX1 yX1_cutToDepth wsX1_cutToDepth) := goodIn_app (goodIn_of _ (by decide +kernel)) ggX7_ancestor_X1_cutToDepth
set_option maxRecDepth 20000 in
theorem ggX7_ancestor_X1_size : GoodIn wsX7_ancestor wsX1_size := goodIn_r _ [42, 17, 86, 87, 88, 89, 90, 91] (by decide +kernel) (by decide +kernel)
set_option maxRecDepth 20000 in
theorem gX7_ancestor_X1_size : GoodIn wsX7_ancestor (wsV RX7 93 RX1 yX1_size wsX1_size) := goodIn_app (goodIn_of _ (by decide +kernel)) ggX7_ancestor_X1_size
set_option maxRecDepth 20000 in
theorem ggX7_ancestor_X7_storeConvergent : GoodIn wsX7_ancestor wsX7_storeConvergent := goodIn_r _ [46, 47, 48, 49, 15, 50, 51, 52, 53, 54, 17, 22, 55, 56, 57, 58, 59, 60, 61, 3, 62, 63, 10, 11, 64, 65, 66, 67, 68, 69, 86, 87, 88, 89, 90, 91, 70, 71, 72, 73, 74, 75, 76, 77, 78, 79, 80, 81, 82, 83, 84, 85] (by decide +kernel) (by decide +kernel)
set_option maxRecDepth 20000 in
theorem gX7_ancestor_X7_storeConvergent : GoodIn wsX7_ancestor (wsV RX7 103 RX7 yX7_storeConvergent wsX7_storeConvergent) := goodIn_app (goodIn_of _ (by decide +kernel)) ggX7_ancestor_X7_storeConvergent
theorem dX7_ancestor_0 : decode cX7_ancestor 0 = .ok (.iload_n 1, 1) := by decide +kernel
theorem dX7_ancestor_1 : decode cX7_ancestor 1 = .ok (.invokestatic 62, 3) := by decide +kernel
theorem dX7_ancestor_4 : decode cX7_ancestor 4 = .ok (.ifCond .eq 14, 3) := by decide +kernel
theorem dX7_ancestor_7 : decode cX7_ancestor 7 = .ok (.iload_n 2, 1) := by decide +kernel
theorem dX7_ancestor_8 : decode cX7_ancestor 8 = .ok (.invokestatic 62, 3) := by decide +kernel
theorem dX7_ancestor_11 : decode cX7_ancestor 11 = .ok (.ifCond .eq 7, 3) := by decide +kernel
theorem dX7_ancestor_14 : decode cX7_ancestor 14 = .ok (.iload_n 3, 1) := by decide +kernel
theorem dX7_ancestor_15 : decode cX7_ancestor 15 = .ok (.ifCond .ge 5, 3) := by decide +kernel
theorem dX7_ancestor_18 : decode cX7_ancestor 18 = .ok (.iconst (-1), 1) := by decide +kernel
theorem dX7_ancestor_19 : decode cX7_ancestor 19 = .ok (.ireturn, 1) := by decide +kernel
theorem dX7_ancestor_20 : decode cX7_ancestor 20 = .ok (.aload_n 0, 1) := by decide +kernel
theorem dX7_ancestor_21 : decode cX7_ancestor 21 = .ok (.iload_n 2, 1) := by decide +kernel
theorem dX7_ancestor_22 : decode cX7_ancestor 22 = .ok (.invokevirtual 81, 3) := by decide +kernel
theorem dX7_ancestor_25 : decode cX7_ancestor 25 = .ok (.astore 4, 2) := by decide +kernel
theorem dX7_ancestor_27 : decode cX7_ancestor 27 = .ok (.iload_n 3, 1) := by decide +kernel
theorem dX7_ancestor_28 : decode cX7_ancestor 28 = .ok (.aload 4, 2) := by decide +kernel
theorem dX7_ancestor_30 : decode cX7_ancestor 30 = .ok (.invokevirtual 85, 3) := by decide +kernel
theorem dX7_ancestor_33 : decode cX7_ancestor 33 = .ok (.if_icmp .le 6, 3) := by decide +kernel
theorem dX7_ancestor_36 : decode cX7_ancestor 36 = .ok (.bipush (-2), 2) := by decide +kernel
theorem dX7_ancestor_38 : decode cX7_ancestor 38 = .ok (.ireturn, 1) := by decide +kernel
theorem dX7_ancestor_39 : decode cX7_ancestor 39 = .ok (.aload 4, 2) := by decide +kernel
theorem dX7_ancestor_41 : decode cX7_ancestor 41 = .ok (.iload_n 3, 1) := by decide +kernel
theorem dX7_ancestor_42 : decode cX7_ancestor 42 = .ok (.invokevirtual 99, 3) := by decide +kernel
theorem dX7_ancestor_45 : decode cX7_ancestor 45 = .ok (.aload_n 0, 1) := by decide +kernel
theorem dX7_ancestor_46 : decode cX7_ancestor 46 = .ok (.iload_n 1, 1) := by decide +kernel
theorem dX7_ancestor_47 : decode cX7_ancestor 47 = .ok (.aload 4, 2) := by decide +kernel
theorem dX7_ancestor_49 : decode cX7_ancestor 49 = .ok (.aload 4, 2) := by decide +kernel
theorem dX7_ancestor_51 : decode cX7_ancestor 51 = .ok (.invokevirtual 93, 3) := by decide +kernel
theorem dX7_ancestor_54 : decode cX7_ancestor 54 = .ok (.iconst 1, 1) := by decide +kernel
theorem dX7_ancestor_55 : decode cX7_ancestor 55 = .ok (.isub, 1) := by decide +kernel
theorem dX7_ancestor_56 : decode cX7_ancestor 56 = .ok (.invokevirtual 103, 3) := by decide +kernel
theorem dX7_ancestor_59 : decode cX7_ancestor 59 = .ok (.ireturn, 1) := by decide +kernel
set_option maxRecDepth 20000 in
theorem ggX7_bound_X7_isRegister : GoodIn wsX7_bound wsX7_isRegister := goodIn_r _ [4] (by decide +kernel) (by decide +kernel)
set_option maxRecDepth 20000 in
theorem gX7_bound_X7_isRegister : GoodIn wsX7_bound (va_wsS RX7 62 yX7_isRegister wsX7_isRegister) := goodIn_app (goodIn_of _ (by decide +kernel)) ggX7_bound_X7_isRegister
set_option maxRecDepth 20000 in
theorem ggX7_bound_X7_isIn : GoodIn wsX7_bound wsX7_isIn := goodIn_r _ [7] (by decide +kernel) (by decide +kernel)
set_option maxRecDepth 20000 in
theorem gX7_bound_X7_isIn : GoodIn wsX7_bound (va_wsS RX7 67 yX7_isIn wsX7_isIn) := goodIn_app (goodIn_of _ (by decide +kernel)) ggX7_bound_X7_isIn
set_option maxRecDepth 20000 in
theorem ggX7_bound_X7_expand : GoodIn wsX7_bound wsX7_expand := goodIn_r _ [11, 12, 13, 14, 15, 16, 17, 18, 19, 20, 21, 22, 23, 24, 25, 73, 74, 75, 76, 77, 78, 79, 80, 81, 82, 83, 84, 85, 86, 87, 88, 89, 90, 91, 92, 93, 94] (by decide +kernel) (by decide +kernel)
set_option maxRecDepth 20000 in
theorem gX7_bound_X7_expand : GoodIn wsX7_bound (wsV RX7 81 RX7 yX7_expand wsX7_expand) := goodIn_app (goodIn_of _ (by decide +kernel)) ggX7_bound_X7_expand
set_option maxRecDepth 20000 in
theorem ggX7_bound_X1_findBounds : GoodIn wsX7_bound wsX1_findBounds := goodIn_r _ [29, 20, 30, 31, 32, 18, 33, 25, 34, 35, 36, 37, 38, 39, 40, 41, 42, 43, 44, 45, 46, 47, 48, 49, 50, 51, 52, 53, 89, 90, 91, 92, 93, 94] (by decide +kernel) (by decide +kernel)
set_option maxRecDepth 20000 in
theorem gX7_bound_X1_findBounds : GoodIn wsX7_bound (wsV RX7 107 RX1 yX1_findBounds wsX1_findBounds) := goodIn_app (goodIn_of _ (by decide +kernel)) ggX7_bound_X1_findBounds
set_option maxRecDepth 20000 in
theorem ggX7_bound_X1_boundTop : GoodIn wsX7_bound wsX1_boundTop := goodIn_r _ [57, 38, 40, 89, 90, 91, 92, 93, 94] (by decide +kernel) (by decide +kernel)
set_option maxRecDepth 20000 in
theorem gX7_bound_X1_boundTop : GoodIn wsX7_bound (wsV RX7 110 RX1 yX1_boundTop wsX1_boundTop) := goodIn_app (goodIn_of _ (by decide +kernel)) ggX7_bound_X1_boundTop
set_option maxRecDepth 20000 in
theorem ggX7_bound_X1_boundBottom : GoodIn wsX7_bound wsX1_boundBottom := goodIn_r _ [61, 39, 41, 89, 90, 91, 92, 93, 94] (by decide +kernel) (by decide +kernel)
set_option maxRecDepth 20000 in
theorem gX7_bound_X1_boundBottom : GoodIn wsX7_bound (wsV RX7 114 RX1 yX1_boundBottom wsX1_boundBottom) := goodIn_app (goodIn_of _ (by decide +kernel)) ggX7_bound_X1_boundBottom
set_option maxRecDepth 20000 in
theorem ggX7_bound_X7_store : GoodIn wsX7_bound wsX7_store := goodIn_r _ [65, 66, 13, 14, 67, 68, 3, 69, 70, 71, 72, 73, 74, 75, 76, 77, 78, 79, 80, 81, 82, 83, 84, 85, 86, 87, 88] (by decide +kernel) (by decide +kernel)
set_option maxRecDepth 20000 in
theorem gX7_bound_X7_store : GoodIn wsX7_bound (wsV RX7 71 RX7 yX7_store wsX7_store) := goodIn_app (goodIn_of _ (by decide +kernel)) ggX7_bound_X7_store
theorem dX7_bound_0 : decode cX7_bound 0 = .ok (.iload_n 1, 1) := by decide +kernel
theorem dX7_bound_1 : decode cX7_bound 1 = .ok (.invokestatic 62, 3) := by decide +kernel
theorem dX7_bound_4 : decode cX7_bound 4 = .ok (.ifCond .eq 19, 3) := by decide +kernel
theorem dX7_bound_7 : decode cX7_bound 7 = .ok (.iload_n 2, 1) := by decide +kernel
theorem dX7_bound_8 : decode cX7_bound 8 = .ok (.invokestatic 62, 3) := by decide +kernel
theorem dX7_bound_11 : decode cX7_bound 11 = .ok (.ifCond .eq 12, 3) := by decide +kernel
theorem dX7_bound_14 : decode cX7_bound 14 = .ok (.iload_n 3, 1) := by decide +kernel
theorem dX7_bound_15 : decode cX7_bound 15 = .ok (.iconst 0, 1) := by decide +kernel
theorem dX7_bound_16 : decode cX7_bound 16 = .ok (.iconst 1, 1) := by decide +kernel
theorem dX7_bound_17 : decode cX7_bound 17 = .ok (.invokestatic 67, 3) := by decide +kernel
theorem dX7_bound_20 : decode cX7_bound 20 = .ok (.ifCond .ne 5, 3) := by decide +kernel
theorem dX7_bound_23 : decode cX7_bound 23 = .ok (.iconst (-1), 1) := by decide +kernel
theorem dX7_bound_24 : decode cX7_bound 24 = .ok (.ireturn, 1) := by decide +kernel
theorem dX7_bound_25 : decode cX7_bound 25 = .ok (.aload_n 0, 1) := by decide +kernel
theorem dX7_bound_26 : decode cX7_bound 26 = .ok (.iload_n 2, 1) := by decide +kernel
theorem dX7_bound_27 : decode cX7_bound 27 = .ok (.invokevirtual 81, 3) := by decide +kernel
theorem dX7_bound_30 : decode cX7_bound 30 = .ok (.astore 4, 2) := by decide +kernel
theorem dX7_bound_32 : decode cX7_bound 32 = .ok (.aload 4, 2) := by decide +kernel
theorem dX7_bound_34 : decode cX7_bound 34 = .ok (.invokevirtual 107, 3) := by decide +kernel
theorem dX7_bound_37 : decode cX7_bound 37 = .ok (.aload 4, 2) := by decide +kernel
theorem dX7_bound_39 : decode cX7_bound 39 = .ok (.iload_n 3, 1) := by decide +kernel
theorem dX7_bound_40 : decode cX7_bound 40 = .ok (.invokevirtual 110, 3) := by decide +kernel
theorem dX7_bound_43 : decode cX7_bound 43 = .ok (.lconst 0, 1) := by decide +kernel
theorem dX7_bound_44 : decode cX7_bound 44 = .ok (.lcmp, 1) := by decide +kernel
theorem dX7_bound_45 : decode cX7_bound 45 = .ok (.ifCond .eq 14, 3) := by decide +kernel
theorem dX7_bound_48 : decode cX7_bound 48 = .ok (.aload 4, 2) := by decide +kernel
theorem dX7_bound_50 : decode cX7_bound 50 = .ok (.iload_n 3, 1) := by decide +kernel
theorem dX7_bound_51 : decode cX7_bound 51 = .ok (.invokevirtual 114, 3) := by decide +kernel
theorem dX7_bound_54 : decode cX7_bound 54 = .ok (.lconst 0, 1) := by decide +kernel
theorem dX7_bound_55 : decode cX7_bound 55 = .ok (.lcmp, 1) := by decide +kernel
theorem dX7_bound_56 : decode cX7_bound 56 = .ok (.ifCond .ne 6, 3) := by decide +kernel
theorem dX7_bound_59 : decode cX7_bound 59 = .ok (.bipush (-2), 2) := by decide +kernel
theorem dX7_bound_61 : decode cX7_bound 61 = .ok (.ireturn, 1) := by decide +kernel
theorem dX7_bound_62 : decode cX7_bound 62 = .ok (.aload_n 0, 1) := by decide +kernel
theorem dX7_bound_63 : decode cX7_bound 63 = .ok (.iload_n 1, 1) := by decide +kernel
theorem dX7_bound_64 : decode cX7_bound 64 = .ok (.aload 4, 2) := by decide +kernel
theorem dX7_bound_66 : decode cX7_bound 66 = .ok (.iload_n 3, 1) := by decide +kernel
theorem dX7_bound_67 : decode cX7_bound 67 = .ok (.invokevirtual 110, 3) := by decide +kernel
theorem dX7_bound_70 : decode cX7_bound 70 = .ok (.aload 4, 2) := by decide +kernel
theorem dX7_bound_72 : decode cX7_bound 72 = .ok (.iload_n 3, 1) := by decide +kernel
theorem dX7_bound_73 : decode cX7_bound 73 = .ok (.invokevirtual 114, 3) := by decide +kernel
theorem dX7_bound_76 : decode cX7_bound 76 = .ok (.invokevirtual 71, 3) := by decide +kernel
theorem dX7_bound_79 : decode cX7_bound 79 = .ok (.ireturn, 1) := by decide +kernel
set_option maxRecDepth 20000 in
theorem ggX7_child_X7_isRegister : GoodIn wsX7_child wsX7_isRegister := goodIn_r _ [6] (by decide +kernel) (by decide +kernel)
set_option maxRecDepth 20000 in
theorem gX7_child_X7_isRegister : GoodIn wsX7_child (va_wsS RX7 62 yX7_isRegister wsX7_isRegister) := goodIn_app (goodIn_of _ (by decide +kernel)) ggX7_child_X7_isRegister
set_option maxRecDepth 20000 in
theorem ggX7_child_X7_isIn : GoodIn wsX7_child wsX7_isIn := goodIn_r _ [9] (by decide +kernel) (by decide +kernel)
set_option maxRecDepth 20000 in
theorem gX7_child_X7_isIn : GoodIn wsX7_child (va_wsS RX7 67 yX7_isIn wsX7_isIn) := goodIn_app (goodIn_of _ (by decide +kernel)) ggX7_child_X7_isIn
set_option maxRecDepth 20000 in
theorem ggX7_child_X7_expand : GoodIn wsX7_child wsX7_expand := goodIn_r _ [13, 14, 1, 2, 15, 16, 17, 18, 19, 20, 21, 22, 23, 24, 25, 73, 74, 75, 76, 77, 78, 79, 80, 81, 82, 83, 84, 85, 86, 87, 88, 89, 90, 91, 92, 93, 94] (by decide +kernel) (by decide +kernel)
set_option maxRecDepth 20000 in
theorem gX7_child_X7_expand : GoodIn wsX7_child (wsV RX7 81 RX7 yX7_expand wsX7_expand) := goodIn_app (goodIn_of _ (by decide +kernel)) ggX7_child_X7_expand
set_option maxRecDepth 20000 in
theorem ggX7_child_X1_findBounds : GoodIn wsX7_child wsX1_findBounds := goodIn_r _ [29, 20, 30, 31, 32, 18, 33, 25, 34, 35, 36, 37, 38, 39, 40, 41, 42, 43, 44, 45, 46, 47, 48, 49, 50, 51, 52, 53, 89, 90, 91, 92, 93, 94] (by decide +kernel) (by decide +kernel)
set_option maxRecDepth 20000 in
theorem gX7_child_X1_findBounds : GoodIn wsX7_child (wsV RX7 107 RX1 yX1_findBounds wsX1_findBounds) := goodIn_app (goodIn_of _ (by decide +kernel)) ggX7_child_X1_findBounds
set_option maxRecDepth 20000 in
theorem ggX7_child_X1_boundTop : GoodIn wsX7_child wsX1_boundTop := goodIn_r _ [57, 38, 40, 89, 90, 91, 92, 93, 94] (by decide +kernel) (by decide +kernel)
set_option maxRecDepth 20000 in
theorem gX7_child_X1_boundTop : GoodIn wsX7_child (wsV RX7 110 RX1 yX1_boundTop wsX1_boundTop) := goodIn_app (goodIn_of _ (by decide +kernel)) ggX7_child_X1_boundTop
set_option maxRecDepth 20000 in
theorem ggX7_child_X1_boundBottom : GoodIn wsX7_child wsX1_boundBottom := goodIn_r _ [61, 39, 41, 89, 90, 91, 92, 93, 94] (by decide +kernel) (by decide +kernel)
set_option maxRecDepth 20000 in
theorem gX7_child_X1_boundBottom : GoodIn wsX7_child (wsV RX7 114 RX1 yX1_boundBottom wsX1_boundBottom) := goodIn_app (goodIn_of _ (by decide +kernel)) ggX7_child_X1_boundBottom
set_option maxRecDepth 20000 in
theorem ggX7_child_X7_store : GoodIn wsX7_child wsX7_store := goodIn_r _ [65, 66, 1, 2, 67, 68, 5, 69, 70, 71, 72, 73, 74, 75, 76, 77, 78, 79, 80, 81, 82, 83, 84, 85, 86, 87, 88] (by decide +kernel) (by decide +kernel)
set_option maxRecDepth 20000 in
theorem gX7_child_X7_store : GoodIn wsX7_child (wsV RX7 71 RX7 yX7_store wsX7_store) := goodIn_app (goodIn_of _ (by decide +kernel)) ggX7_child_X7_store
theorem dX7_child_0 : decode cX7_child 0 = .ok (.iload_n 1, 1) := by decide +kernel
theorem dX7_child_1 : decode cX7_child 1 = .ok (.invokestatic 62, 3) := by decide +kernel
theorem dX7_child_4 : decode cX7_child 4 = .ok (.ifCond .eq 19, 3) := by decide +kernel
theorem dX7_child_7 : decode cX7_child 7 = .ok (.iload_n 2, 1) := by decide +kernel
theorem dX7_child_8 : decode cX7_child 8 = .ok (.invokestatic 62, 3) := by decide +kernel
theorem dX7_child_11 : decode cX7_child 11 = .ok (.ifCond .eq 12, 3) := by decide +kernel
theorem dX7_child_14 : decode cX7_child 14 = .ok (.iload_n 3, 1) := by decide +kernel
theorem dX7_child_15 : decode cX7_child 15 = .ok (.iconst 0, 1) := by decide +kernel
theorem dX7_child_16 : decode cX7_child 16 = .ok (.iconst 1, 1) := by decide +kernel
theorem dX7_child_17 : decode cX7_child 17 = .ok (.invokestatic 67, 3) := by decide +kernel
theorem dX7_child_20 : decode cX7_child 20 = .ok (.ifCond .ne 5, 3) := by decide +kernel
theorem dX7_child_23 : decode cX7_child 23 = .ok (.iconst (-1), 1) := by decide +kernel
theorem dX7_child_24 : decode cX7_child 24 = .ok (.ireturn, 1) := by decide +kernel
theorem dX7_child_25 : decode cX7_child 25 = .ok (.aload_n 0, 1) := by decide +kernel
theorem dX7_child_26 : decode cX7_child 26 = .ok (.iload_n 2, 1) := by decide +kernel
theorem dX7_child_27 : decode cX7_child 27 = .ok (.invokevirtual 81, 3) := by decide +kernel
theorem dX7_child_30 : decode cX7_child 30 = .ok (.astore 4, 2) := by decide +kernel
theorem dX7_child_32 : decode cX7_child 32 = .ok (.aload 4, 2) := by decide +kernel
theorem dX7_child_34 : decode cX7_child 34 = .ok (.invokevirtual 107, 3) := by decide +kernel
theorem dX7_child_37 : decode cX7_child 37 = .ok (.aload_n 0, 1) := by decide +kernel
theorem dX7_child_38 : decode cX7_child 38 = .ok (.iload_n 1, 1) := by decide +kernel
theorem dX7_child_39 : decode cX7_child 39 = .ok (.aload 4, 2) := by decide +kernel
theorem dX7_child_41 : decode cX7_child 41 = .ok (.iload_n 3, 1) := by decide +kernel
theorem dX7_child_42 : decode cX7_child 42 = .ok (.invokevirtual 110, 3) := by decide +kernel
theorem dX7_child_45 : decode cX7_child 45 = .ok (.aload_n 0, 1) := by decide +kernel
theorem dX7_child_46 : decode cX7_child 46 = .ok (.getfield 9, 3) := by decide +kernel
theorem dX7_child_49 : decode cX7_child 49 = .ok (.iload_n 2, 1) := by decide +kernel
theorem dX7_child_50 : decode cX7_child 50 = .ok (.iaload, 1) := by decide +kernel
theorem dX7_child_51 : decode cX7_child 51 = .ok (.i2l, 1) := by decide +kernel
theorem dX7_child_52 : decode cX7_child 52 = .ok (.ladd, 1) := by decide +kernel
theorem dX7_child_53 : decode cX7_child 53 = .ok (.aload 4, 2) := by decide +kernel
theorem dX7_child_55 : decode cX7_child 55 = .ok (.iload_n 3, 1) := by decide +kernel
theorem dX7_child_56 : decode cX7_child 56 = .ok (.invokevirtual 114, 3) := by decide +kernel
theorem dX7_child_59 : decode cX7_child 59 = .ok (.aload_n 0, 1) := by decide +kernel
theorem dX7_child_60 : decode cX7_child 60 = .ok (.getfield 13, 3) := by decide +kernel
theorem dX7_child_63 : decode cX7_child 63 = .ok (.iload_n 2, 1) := by decide +kernel
theorem dX7_child_64 : decode cX7_child 64 = .ok (.iaload, 1) := by decide +kernel
theorem dX7_child_65 : decode cX7_child 65 = .ok (.i2l, 1) := by decide +kernel
theorem dX7_child_66 : decode cX7_child 66 = .ok (.ladd, 1) := by decide +kernel
theorem dX7_child_67 : decode cX7_child 67 = .ok (.invokevirtual 71, 3) := by decide +kernel
theorem dX7_child_70 : decode cX7_child 70 = .ok (.ireturn, 1) := by decide +kernel
set_option maxRecDepth 20000 in
theorem ggX7_commonAncestor_X7_isRegister : GoodIn wsX7_commonAncestor wsX7_isRegister := goodIn_r _ [7] (by decide +kernel) (by decide +kernel)
set_option maxRecDepth 20000 in
theorem gX7_commonAncestor_X7_isRegister : GoodIn wsX7_commonAncestor (va_wsS RX7 62 yX7_isRegister wsX7_isRegister) := goodIn_app (goodIn_of _ (by decide +kernel)) ggX7_commonAncestor_X7_isRegister
set_option maxRecDepth 20000 in
theorem ggX7_commonAncestor_X7_expand : GoodIn wsX7_commonAncestor wsX7_expand := goodIn_r _ [11, 12, 2, 3, 13, 14, 15, 16, 17, 18, 19, 20, 21, 22, 23, 71, 72, 73, 74, 75, 76, 77, 78, 79, 80, 81, 82, 83, 84, 85, 86, 87, 88, 89, 90, 91, 92] (by decide +kernel) (by decide +kernel)
set_option maxRecDepth 20000 in
theorem gX7_commonAncestor_X7_expand : GoodIn wsX7_commonAncestor (wsV RX7 81 RX7 yX7_expand wsX7_expand) := goodIn_app (goodIn_of _ (by decide +kernel)) ggX7_commonAncestor_X7_expand
set_option maxRecDepth 20000 in
theorem ggX7_commonAncestor_X1_expand : GoodIn wsX7_commonAncestor wsX1_expand := goodIn_r _ [17, 18, 19, 20, 21, 16, 22, 23, 87, 88, 89, 90, 91, 92] (by decide +kernel) (by decide +kernel)
set_option maxRecDepth 20000 in
theorem gX7_commonAncestor_X1_expand : GoodIn wsX7_commonAncestor (wsV RX7 117 RX1 yX1_expand wsX1_expand) := goodIn_app (goodIn_of _ (by decide +kernel)) ggX7_commonAncestor_X1_expand
set_option maxRecDepth 20000 in
theorem ggX7_commonAncestor_X1_commonSteps : GoodIn wsX7_commonAncestor wsX1_commonSteps := goodIn_r _ [27, 18, 28, 29, 30, 16, 31, 32, 33, 34, 35, 23, 87, 88, 89, 90, 91, 92] (by decide +kernel) (by decide +kernel)
set_option maxRecDepth 20000 in
theorem gX7_commonAncestor_X1_commonSteps : GoodIn wsX7_commonAncestor (wsV RX7 120 RX1 yX1_commonSteps wsX1_commonSteps) := goodIn_app (goodIn_of _ (by decide +kernel)) ggX7_commonAncestor_X1_commonSteps
set_option maxRecDepth 20000 in
theorem ggX7_commonAncestor_X1_cutToDepth : GoodIn wsX7_commonAncestor wsX1_cutToDepth := goodIn_r _ [39, 18, 23, 28, 29, 30, 16, 31, 32, 33, 34, 35, 87, 88, 89, 90, 91, 92] (by decide +kernel) (by decide +kernel)
set_option maxRecDepth 20000 in
theorem gX7_commonAncestor_X1_cutToDepth : GoodIn wsX7_commonAncestor (wsV RX7 99 RX1 yX1_cutToDepth wsX1_cutToDepth) := goodIn_app (goodIn_of _ (by decide +kernel)) ggX7_commonAncestor_X1_cutToDepth
set_option maxRecDepth 20000 in
theorem ggX7_commonAncestor_X1_size : GoodIn wsX7_commonAncestor wsX1_size := goodIn_r _ [43, 18, 87, 88, 89, 90, 91, 92] (by decide +kernel) (by decide +kernel)
set_option maxRecDepth 20000 in
theorem gX7_commonAncestor_X1_size : GoodIn wsX7_commonAncestor (wsV RX7 93 RX1 yX1_size wsX1_size) := goodIn_app (goodIn_of _ (by decide +kernel)) ggX7_commonAncestor_X1_size
set_option maxRecDepth 20000 in
theorem ggX7_commonAncestor_X7_storeConvergent : GoodIn wsX7_commonAncestor wsX7_storeConvergent := goodIn_r _ [47, 48, 49, 50, 16, 51, 52, 53, 54, 55, 18, 23, 56, 57, 58, 59, 60, 61, 62, 6, 63, 64, 2, 3, 65, 66, 67, 68, 69, 70, 87, 88, 89, 90, 91, 92, 71, 72, 73, 74, 75, 76, 77, 78, 79, 80, 81, 82, 83, 84, 85, 86] (by decide +kernel) (by decide +kernel)
set_option maxRecDepth 20000 in
theorem gX7_commonAncestor_X7_storeConvergent : GoodIn wsX7_commonAncestor (wsV RX7 103 RX7 yX7_storeConvergent wsX7_storeConvergent) := goodIn_app (goodIn_of _ (by decide +kernel)) ggX7_commonAncestor_X7_storeConvergent
theorem dX7_commonAncestor_0 : decode cX7_commonAncestor 0 = .ok (.iload_n 1, 1) := by decide +kernel
theorem dX7_commonAncestor_1 : decode cX7_commonAncestor 1 = .ok (.invokestatic 62, 3) := by decide +kernel
theorem dX7_commonAncestor_4 : decode cX7_commonAncestor 4 = .ok (.ifCond .eq 17, 3) := by decide +kernel
theorem dX7_commonAncestor_7 : decode cX7_commonAncestor 7 = .ok (.iload_n 2, 1) := by decide +kernel
theorem dX7_commonAncestor_8 : decode cX7_commonAncestor 8 = .ok (.invokestatic 62, 3) := by decide +kernel
theorem dX7_commonAncestor_11 : decode cX7_commonAncestor 11 = .ok (.ifCond .eq 10, 3) := by decide +kernel
theorem dX7_commonAncestor_14 : decode cX7_commonAncestor 14 = .ok (.iload_n 3, 1) := by decide +kernel
theorem dX7_commonAncestor_15 : decode cX7_commonAncestor 15 = .ok (.invokestatic 62, 3) := by decide +kernel
theorem dX7_commonAncestor_18 : decode cX7_commonAncestor 18 = .ok (.ifCond .ne 5, 3) := by decide +kernel
theorem dX7_commonAncestor_21 : decode cX7_commonAncestor 21 = .ok (.iconst (-1), 1) := by decide +kernel
theorem dX7_commonAncestor_22 : decode cX7_commonAncestor 22 = .ok (.ireturn, 1) := by decide +kernel
theorem dX7_commonAncestor_23 : decode cX7_commonAncestor 23 = .ok (.aload_n 0, 1) := by decide +kernel
theorem dX7_commonAncestor_24 : decode cX7_commonAncestor 24 = .ok (.iload_n 2, 1) := by decide +kernel
theorem dX7_commonAncestor_25 : decode cX7_commonAncestor 25 = .ok (.invokevirtual 81, 3) := by decide +kernel
theorem dX7_commonAncestor_28 : decode cX7_commonAncestor 28 = .ok (.astore 4, 2) := by decide +kernel
theorem dX7_commonAncestor_30 : decode cX7_commonAncestor 30 = .ok (.aload_n 0, 1) := by decide +kernel
theorem dX7_commonAncestor_31 : decode cX7_commonAncestor 31 = .ok (.getfield 52, 3) := by decide +kernel
theorem dX7_commonAncestor_34 : decode cX7_commonAncestor 34 = .ok (.aload_n 0, 1) := by decide +kernel
theorem dX7_commonAncestor_35 : decode cX7_commonAncestor 35 = .ok (.getfield 9, 3) := by decide +kernel
theorem dX7_commonAncestor_38 : decode cX7_commonAncestor 38 = .ok (.iload_n 3, 1) := by decide +kernel
theorem dX7_commonAncestor_39 : decode cX7_commonAncestor 39 = .ok (.iaload, 1) := by decide +kernel
theorem dX7_commonAncestor_40 : decode cX7_commonAncestor 40 = .ok (.aload_n 0, 1) := by decide +kernel
theorem dX7_commonAncestor_41 : decode cX7_commonAncestor 41 = .ok (.getfield 13, 3) := by decide +kernel
theorem dX7_commonAncestor_44 : decode cX7_commonAncestor 44 = .ok (.iload_n 3, 1) := by decide +kernel
theorem dX7_commonAncestor_45 : decode cX7_commonAncestor 45 = .ok (.iaload, 1) := by decide +kernel
theorem dX7_commonAncestor_46 : decode cX7_commonAncestor 46 = .ok (.invokevirtual 117, 3) := by decide +kernel
theorem dX7_commonAncestor_49 : decode cX7_commonAncestor 49 = .ok (.aload 4, 2) := by decide +kernel
theorem dX7_commonAncestor_51 : decode cX7_commonAncestor 51 = .ok (.aload_n 0, 1) := by decide +kernel
theorem dX7_commonAncestor_52 : decode cX7_commonAncestor 52 = .ok (.getfield 52, 3) := by decide +kernel
theorem dX7_commonAncestor_55 : decode cX7_commonAncestor 55 = .ok (.invokevirtual 120, 3) := by decide +kernel
theorem dX7_commonAncestor_58 : decode cX7_commonAncestor 58 = .ok (.istore 5, 2) := by decide +kernel
theorem dX7_commonAncestor_60 : decode cX7_commonAncestor 60 = .ok (.aload 4, 2) := by decide +kernel
theorem dX7_commonAncestor_62 : decode cX7_commonAncestor 62 = .ok (.iload 5, 2) := by decide +kernel
theorem dX7_commonAncestor_64 : decode cX7_commonAncestor 64 = .ok (.invokevirtual 99, 3) := by decide +kernel
theorem dX7_commonAncestor_67 : decode cX7_commonAncestor 67 = .ok (.aload_n 0, 1) := by decide +kernel
theorem dX7_commonAncestor_68 : decode cX7_commonAncestor 68 = .ok (.iload_n 1, 1) := by decide +kernel
theorem dX7_commonAncestor_69 : decode cX7_commonAncestor 69 = .ok (.aload 4, 2) := by decide +kernel
theorem dX7_commonAncestor_71 : decode cX7_commonAncestor 71 = .ok (.aload 4, 2) := by decide +kernel
theorem dX7_commonAncestor_73 : decode cX7_commonAncestor 73 = .ok (.invokevirtual 93, 3) := by decide +kernel
theorem dX7_commonAncestor_76 : decode cX7_commonAncestor 76 = .ok (.iconst 1, 1) := by decide +kernel
theorem dX7_commonAncestor_77 : decode cX7_commonAncestor 77 = .ok (.isub, 1) := by decide +kernel
theorem dX7_commonAncestor_78 : decode cX7_commonAncestor 78 = .ok (.invokevirtual 103, 3) := by decide +kernel
theorem dX7_commonAncestor_81 : decode cX7_commonAncestor 81 = .ok (.pop, 1) := by decide +kernel
theorem dX7_commonAncestor_82 : decode cX7_commonAncestor 82 = .ok (.iload 5, 2) := by decide +kernel
theorem dX7_commonAncestor_84 : decode cX7_commonAncestor 84 = .ok (.ireturn, 1) := by decide +kernel
set_option maxRecDepth 20000 in
theorem ggX7_termCount_X7_isRegister : GoodIn wsX7_termCount wsX7_isRegister := goodIn_r _ [4] (by decide +kernel) (by decide +kernel)
set_option maxRecDepth 20000 in
theorem gX7_termCount_X7_isRegister : GoodIn wsX7_termCount (va_wsS RX7 62 yX7_isRegister wsX7_isRegister) := goodIn_app (goodIn_of _ (by decide +kernel)) ggX7_termCount_X7_isRegister
set_option maxRecDepth 20000 in
theorem ggX7_termCount_X7_expand : GoodIn wsX7_termCount wsX7_expand := goodIn_r _ [8, 9, 10, 11, 12, 13, 14, 15, 16, 17, 18, 19, 20, 21, 22, 27, 28, 29, 30, 31, 32, 33, 34, 35, 36, 37, 38, 39, 40, 41, 42, 43, 44, 45, 46, 47, 48] (by decide +kernel) (by decide +kernel)
set_option maxRecDepth 20000 in
theorem gX7_termCount_X7_expand : GoodIn wsX7_termCount (wsV RX7 81 RX7 yX7_expand wsX7_expand) := goodIn_app (goodIn_of _ (by decide +kernel)) ggX7_termCount_X7_expand
set_option maxRecDepth 20000 in
theorem ggX7_termCount_X1_size : GoodIn wsX7_termCount wsX1_size := goodIn_r _ [26, 17, 43, 44, 45, 46, 47, 48] (by decide +kernel) (by decide +kernel)
set_option maxRecDepth 20000 in
theorem gX7_termCount_X1_size : GoodIn wsX7_termCount (wsV RX7 93 RX1 yX1_size wsX1_size) := goodIn_app (goodIn_of _ (by decide +kernel)) ggX7_termCount_X1_size
theorem dX7_termCount_0 : decode cX7_termCount 0 = .ok (.iload_n 1, 1) := by decide +kernel
theorem dX7_termCount_1 : decode cX7_termCount 1 = .ok (.invokestatic 62, 3) := by decide +kernel
theorem dX7_termCount_4 : decode cX7_termCount 4 = .ok (.ifCond .eq 14, 3) := by decide +kernel
theorem dX7_termCount_7 : decode cX7_termCount 7 = .ok (.aload_n 0, 1) := by decide +kernel
theorem dX7_termCount_8 : decode cX7_termCount 8 = .ok (.iload_n 1, 1) := by decide +kernel
theorem dX7_termCount_9 : decode cX7_termCount 9 = .ok (.invokevirtual 81, 3) := by decide +kernel
theorem dX7_termCount_12 : decode cX7_termCount 12 = .ok (.invokevirtual 93, 3) := by decide +kernel
theorem dX7_termCount_15 : decode cX7_termCount 15 = .ok (.goto 4, 3) := by decide +kernel
theorem dX7_termCount_18 : decode cX7_termCount 18 = .ok (.iconst (-1), 1) := by decide +kernel
theorem dX7_termCount_19 : decode cX7_termCount 19 = .ok (.ireturn, 1) := by decide +kernel
set_option maxRecDepth 20000 in
theorem ggX7_term_X7_isRegister : GoodIn wsX7_term wsX7_isRegister := goodIn_r _ [4] (by decide +kernel) (by decide +kernel)
set_option maxRecDepth 20000 in
theorem gX7_term_X7_isRegister : GoodIn wsX7_term (va_wsS RX7 62 yX7_isRegister wsX7_isRegister) := goodIn_app (goodIn_of _ (by decide +kernel)) ggX7_term_X7_isRegister
set_option maxRecDepth 20000 in
theorem ggX7_term_X7_expand : GoodIn wsX7_term wsX7_expand := goodIn_r _ [8, 9, 10, 11, 12, 13, 14, 15, 16, 17, 18, 19, 20, 21, 22, 31, 32, 33, 34, 35, 36, 37, 38, 39, 40, 41, 42, 43, 44, 45, 46, 47, 48, 49, 50, 51, 52] (by decide +kernel) (by decide +kernel)
set_option maxRecDepth 20000 in
theorem gX7_term_X7_expand : GoodIn wsX7_term (wsV RX7 81 RX7 yX7_expand wsX7_expand) := goodIn_app (goodIn_of _ (by decide +kernel)) ggX7_term_X7_expand
set_option maxRecDepth 20000 in
theorem ggX7_term_X1_size : GoodIn wsX7_term wsX1_size := goodIn_r _ [26, 17, 47, 48, 49, 50, 51, 52] (by decide +kernel) (by decide +kernel)
set_option maxRecDepth 20000 in
theorem gX7_term_X1_size : GoodIn wsX7_term (wsV RX7 93 RX1 yX1_size wsX1_size) := goodIn_app (goodIn_of _ (by decide +kernel)) ggX7_term_X1_size
set_option maxRecDepth 20000 in
theorem ggX7_term_X1_at : GoodIn wsX7_term wsX1_at := goodIn_r _ [30, 17, 22, 47, 48, 49, 50, 51, 52] (by decide +kernel) (by decide +kernel)
set_option maxRecDepth 20000 in
theorem gX7_term_X1_at : GoodIn wsX7_term (wsV RX7 124 RX1 yX1_at wsX1_at) := goodIn_app (goodIn_of _ (by decide +kernel)) ggX7_term_X1_at
theorem dX7_term_0 : decode cX7_term 0 = .ok (.iload_n 1, 1) := by decide +kernel
theorem dX7_term_1 : decode cX7_term 1 = .ok (.invokestatic 62, 3) := by decide +kernel
theorem dX7_term_4 : decode cX7_term 4 = .ok (.ifCond .eq 7, 3) := by decide +kernel
theorem dX7_term_7 : decode cX7_term 7 = .ok (.iload_n 2, 1) := by decide +kernel
theorem dX7_term_8 : decode cX7_term 8 = .ok (.ifCond .ge 5, 3) := by decide +kernel
theorem dX7_term_11 : decode cX7_term 11 = .ok (.iconst (-1), 1) := by decide +kernel
theorem dX7_term_12 : decode cX7_term 12 = .ok (.ireturn, 1) := by decide +kernel
theorem dX7_term_13 : decode cX7_term 13 = .ok (.aload_n 0, 1) := by decide +kernel
theorem dX7_term_14 : decode cX7_term 14 = .ok (.iload_n 1, 1) := by decide +kernel
theorem dX7_term_15 : decode cX7_term 15 = .ok (.invokevirtual 81, 3) := by decide +kernel
theorem dX7_term_18 : decode cX7_term 18 = .ok (.astore_n 3, 1) := by decide +kernel
theorem dX7_term_19 : decode cX7_term 19 = .ok (.iload_n 2, 1) := by decide +kernel
theorem dX7_term_20 : decode cX7_term 20 = .ok (.aload_n 3, 1) := by decide +kernel
theorem dX7_term_21 : decode cX7_term 21 = .ok (.invokevirtual 93, 3) := by decide +kernel
theorem dX7_term_24 : decode cX7_term 24 = .ok (.if_icmp .ge 11, 3) := by decide +kernel
theorem dX7_term_27 : decode cX7_term 27 = .ok (.aload_n 3, 1) := by decide +kernel
theorem dX7_term_28 : decode cX7_term 28 = .ok (.iload_n 2, 1) := by decide +kernel
theorem dX7_term_29 : decode cX7_term 29 = .ok (.invokevirtual 124, 3) := by decide +kernel
theorem dX7_term_32 : decode cX7_term 32 = .ok (.goto 5, 3) := by decide +kernel
theorem dX7_term_35 : decode cX7_term 35 = .ok (.bipush (-2), 2) := by decide +kernel
theorem dX7_term_37 : decode cX7_term 37 = .ok (.ireturn, 1) := by decide +kernel
set_option maxRecDepth 20000 in
theorem ggX7_convergent_X7_isRegister : GoodIn wsX7_convergent wsX7_isRegister := goodIn_r _ [4] (by decide +kernel) (by decide +kernel)
set_option maxRecDepth 20000 in
theorem gX7_convergent_X7_isRegister : GoodIn wsX7_convergent (va_wsS RX7 62 yX7_isRegister wsX7_isRegister) := goodIn_app (goodIn_of _ (by decide +kernel)) ggX7_convergent_X7_isRegister
set_option maxRecDepth 20000 in
theorem ggX7_convergent_X7_expand : GoodIn wsX7_convergent wsX7_expand := goodIn_r _ [8, 9, 10, 11, 12, 13, 14, 15, 16, 17, 18, 19, 20, 21, 22, 54, 55, 56, 57, 58, 59, 60, 61, 62, 63, 64, 65, 66, 67, 68, 69, 70, 71, 72, 73, 74, 75] (by decide +kernel) (by decide +kernel)
set_option maxRecDepth 20000 in
theorem gX7_convergent_X7_expand : GoodIn wsX7_convergent (wsV RX7 81 RX7 yX7_expand wsX7_expand) := goodIn_app (goodIn_of _ (by decide +kernel)) ggX7_convergent_X7_expand
set_option maxRecDepth 20000 in
theorem ggX7_convergent_X1_size : GoodIn wsX7_convergent wsX1_size := goodIn_r _ [26, 17, 70, 71, 72, 73, 74, 75] (by decide +kernel) (by decide +kernel)
set_option maxRecDepth 20000 in
theorem gX7_convergent_X1_size : GoodIn wsX7_convergent (wsV RX7 93 RX1 yX1_size wsX1_size) := goodIn_app (goodIn_of _ (by decide +kernel)) ggX7_convergent_X1_size
set_option maxRecDepth 20000 in
theorem ggX7_convergent_X1_convergentTop : GoodIn wsX7_convergent wsX1_convergentTop := goodIn_r _ [30, 31, 32, 33, 15, 34, 17, 22, 70, 71, 72, 73, 74, 75] (by decide +kernel) (by decide +kernel)
set_option maxRecDepth 20000 in
theorem gX7_convergent_X1_convergentTop : GoodIn wsX7_convergent (wsV RX7 127 RX1 yX1_convergentTop wsX1_convergentTop) := goodIn_app (goodIn_of _ (by decide +kernel)) ggX7_convergent_X1_convergentTop
set_option maxRecDepth 20000 in
theorem ggX7_convergent_X7_storeConvergent : GoodIn wsX7_convergent wsX7_storeConvergent := goodIn_r _ [38, 27, 28, 29, 15, 30, 31, 32, 33, 34, 17, 22, 39, 40, 41, 42, 43, 44, 45, 3, 46, 47, 10, 11, 48, 49, 50, 51, 52, 53, 70, 71, 72, 73, 74, 75, 54, 55, 56, 57, 58, 59, 60, 61, 62, 63, 64, 65, 66, 67, 68, 69] (by decide +kernel) (by decide +kernel)
set_option maxRecDepth 20000 in
theorem gX7_convergent_X7_storeConvergent : GoodIn wsX7_convergent (wsV RX7 103 RX7 yX7_storeConvergent wsX7_storeConvergent) := goodIn_app (goodIn_of _ (by decide +kernel)) ggX7_convergent_X7_storeConvergent
theorem dX7_convergent_0 : decode cX7_convergent 0 = .ok (.iload_n 1, 1) := by decide +kernel
theorem dX7_convergent_1 : decode cX7_convergent 1 = .ok (.invokestatic 62, 3) := by decide +kernel
theorem dX7_convergent_4 : decode cX7_convergent 4 = .ok (.ifCond .eq 14, 3) := by decide +kernel
theorem dX7_convergent_7 : decode cX7_convergent 7 = .ok (.iload_n 2, 1) := by decide +kernel
theorem dX7_convergent_8 : decode cX7_convergent 8 = .ok (.invokestatic 62, 3) := by decide +kernel
theorem dX7_convergent_11 : decode cX7_convergent 11 = .ok (.ifCond .eq 7, 3) := by decide +kernel
theorem dX7_convergent_14 : decode cX7_convergent 14 = .ok (.iload_n 3, 1) := by decide +kernel
theorem dX7_convergent_15 : decode cX7_convergent 15 = .ok (.ifCond .ge 5, 3) := by decide +kernel
theorem dX7_convergent_18 : decode cX7_convergent 18 = .ok (.iconst (-1), 1) := by decide +kernel
theorem dX7_convergent_19 : decode cX7_convergent 19 = .ok (.ireturn, 1) := by decide +kernel
theorem dX7_convergent_20 : decode cX7_convergent 20 = .ok (.aload_n 0, 1) := by decide +kernel
theorem dX7_convergent_21 : decode cX7_convergent 21 = .ok (.iload_n 2, 1) := by decide +kernel
theorem dX7_convergent_22 : decode cX7_convergent 22 = .ok (.invokevirtual 81, 3) := by decide +kernel
theorem dX7_convergent_25 : decode cX7_convergent 25 = .ok (.astore 4, 2) := by decide +kernel
theorem dX7_convergent_27 : decode cX7_convergent 27 = .ok (.iload_n 3, 1) := by decide +kernel
theorem dX7_convergent_28 : decode cX7_convergent 28 = .ok (.aload 4, 2) := by decide +kernel
theorem dX7_convergent_30 : decode cX7_convergent 30 = .ok (.invokevirtual 93, 3) := by decide +kernel
theorem dX7_convergent_33 : decode cX7_convergent 33 = .ok (.if_icmp .ge 14, 3) := by decide +kernel
theorem dX7_convergent_36 : decode cX7_convergent 36 = .ok (.aload 4, 2) := by decide +kernel
theorem dX7_convergent_38 : decode cX7_convergent 38 = .ok (.iload_n 3, 1) := by decide +kernel
theorem dX7_convergent_39 : decode cX7_convergent 39 = .ok (.invokevirtual 127, 3) := by decide +kernel
theorem dX7_convergent_42 : decode cX7_convergent 42 = .ok (.lconst 0, 1) := by decide +kernel
theorem dX7_convergent_43 : decode cX7_convergent 43 = .ok (.lcmp, 1) := by decide +kernel
theorem dX7_convergent_44 : decode cX7_convergent 44 = .ok (.ifCond .ne 6, 3) := by decide +kernel
theorem dX7_convergent_47 : decode cX7_convergent 47 = .ok (.bipush (-2), 2) := by decide +kernel
theorem dX7_convergent_49 : decode cX7_convergent 49 = .ok (.ireturn, 1) := by decide +kernel
theorem dX7_convergent_50 : decode cX7_convergent 50 = .ok (.aload_n 0, 1) := by decide +kernel
theorem dX7_convergent_51 : decode cX7_convergent 51 = .ok (.iload_n 1, 1) := by decide +kernel
theorem dX7_convergent_52 : decode cX7_convergent 52 = .ok (.aload 4, 2) := by decide +kernel
theorem dX7_convergent_54 : decode cX7_convergent 54 = .ok (.iload_n 3, 1) := by decide +kernel
theorem dX7_convergent_55 : decode cX7_convergent 55 = .ok (.invokevirtual 103, 3) := by decide +kernel
theorem dX7_convergent_58 : decode cX7_convergent 58 = .ok (.ireturn, 1) := by decide +kernel
set_option maxRecDepth 20000 in
theorem ggX7_pushTerm_X7_isIn : GoodIn wsX7_pushTerm wsX7_isIn := goodIn_r _ [7] (by decide +kernel) (by decide +kernel)
set_option maxRecDepth 20000 in
theorem gX7_pushTerm_X7_isIn : GoodIn wsX7_pushTerm (va_wsS RX7 67 yX7_isIn wsX7_isIn) := goodIn_app (goodIn_of _ (by decide +kernel)) ggX7_pushTerm_X7_isIn
theorem dX7_pushTerm_0 : decode cX7_pushTerm 0 = .ok (.iload_n 1, 1) := by decide +kernel
theorem dX7_pushTerm_1 : decode cX7_pushTerm 1 = .ok (.iconst 0, 1) := by decide +kernel
theorem dX7_pushTerm_2 : decode cX7_pushTerm 2 = .ok (.ldc 66, 2) := by decide +kernel
theorem dX7_pushTerm_4 : decode cX7_pushTerm 4 = .ok (.invokestatic 67, 3) := by decide +kernel
theorem dX7_pushTerm_7 : decode cX7_pushTerm 7 = .ok (.ifCond .ne 5, 3) := by decide +kernel
theorem dX7_pushTerm_10 : decode cX7_pushTerm 10 = .ok (.iconst (-1), 1) := by decide +kernel
theorem dX7_pushTerm_11 : decode cX7_pushTerm 11 = .ok (.ireturn, 1) := by decide +kernel
theorem dX7_pushTerm_12 : decode cX7_pushTerm 12 = .ok (.aload_n 0, 1) := by decide +kernel
theorem dX7_pushTerm_13 : decode cX7_pushTerm 13 = .ok (.getfield 130, 3) := by decide +kernel
theorem dX7_pushTerm_16 : decode cX7_pushTerm 16 = .ok (.bipush 20, 2) := by decide +kernel
theorem dX7_pushTerm_18 : decode cX7_pushTerm 18 = .ok (.if_icmp .lt 6, 3) := by decide +kernel
theorem dX7_pushTerm_21 : decode cX7_pushTerm 21 = .ok (.bipush (-5), 2) := by decide +kernel
theorem dX7_pushTerm_23 : decode cX7_pushTerm 23 = .ok (.ireturn, 1) := by decide +kernel
theorem dX7_pushTerm_24 : decode cX7_pushTerm 24 = .ok (.aload_n 0, 1) := by decide +kernel
theorem dX7_pushTerm_25 : decode cX7_pushTerm 25 = .ok (.getfield 31, 3) := by decide +kernel
theorem dX7_pushTerm_28 : decode cX7_pushTerm 28 = .ok (.aload_n 0, 1) := by decide +kernel
theorem dX7_pushTerm_29 : decode cX7_pushTerm 29 = .ok (.getfield 130, 3) := by decide +kernel
theorem dX7_pushTerm_32 : decode cX7_pushTerm 32 = .ok (.iload_n 1, 1) := by decide +kernel
theorem dX7_pushTerm_33 : decode cX7_pushTerm 33 = .ok (.iastore, 1) := by decide +kernel
theorem dX7_pushTerm_34 : decode cX7_pushTerm 34 = .ok (.aload_n 0, 1) := by decide +kernel
theorem dX7_pushTerm_35 : decode cX7_pushTerm 35 = .ok (.dup, 1) := by decide +kernel
theorem dX7_pushTerm_36 : decode cX7_pushTerm 36 = .ok (.getfield 130, 3) := by decide +kernel
theorem dX7_pushTerm_39 : decode cX7_pushTerm 39 = .ok (.iconst 1, 1) := by decide +kernel
theorem dX7_pushTerm_40 : decode cX7_pushTerm 40 = .ok (.iadd, 1) := by decide +kernel
theorem dX7_pushTerm_41 : decode cX7_pushTerm 41 = .ok (.putfield 130, 3) := by decide +kernel
theorem dX7_pushTerm_44 : decode cX7_pushTerm 44 = .ok (.aload_n 0, 1) := by decide +kernel
theorem dX7_pushTerm_45 : decode cX7_pushTerm 45 = .ok (.getfield 130, 3) := by decide +kernel
theorem dX7_pushTerm_48 : decode cX7_pushTerm 48 = .ok (.ireturn, 1) := by decide +kernel
theorem dX7_clearTerms_0 : decode cX7_clearTerms 0 = .ok (.aload_n 0, 1) := by decide +kernel
theorem dX7_clearTerms_1 : decode cX7_clearTerms 1 = .ok (.getfield 130, 3) := by decide +kernel
theorem dX7_clearTerms_4 : decode cX7_clearTerms 4 = .ok (.istore_n 1, 1) := by decide +kernel
theorem dX7_clearTerms_5 : decode cX7_clearTerms 5 = .ok (.aload_n 0, 1) := by decide +kernel
theorem dX7_clearTerms_6 : decode cX7_clearTerms 6 = .ok (.iconst 0, 1) := by decide +kernel
theorem dX7_clearTerms_7 : decode cX7_clearTerms 7 = .ok (.putfield 130, 3) := by decide +kernel
theorem dX7_clearTerms_10 : decode cX7_clearTerms 10 = .ok (.iload_n 1, 1) := by decide +kernel
theorem dX7_clearTerms_11 : decode cX7_clearTerms 11 = .ok (.ireturn, 1) := by decide +kernel
set_option maxRecDepth 20000 in
theorem ggX7_fromTerms_X7_isRegister : GoodIn wsX7_fromTerms wsX7_isRegister := goodIn_r _ [7] (by decide +kernel) (by decide +kernel)
set_option maxRecDepth 20000 in
theorem gX7_fromTerms_X7_isRegister : GoodIn wsX7_fromTerms (va_wsS RX7 62 yX7_isRegister wsX7_isRegister) := goodIn_app (goodIn_of _ (by decide +kernel)) ggX7_fromTerms_X7_isRegister
set_option maxRecDepth 20000 in
theorem ggX7_fromTerms_X7_hasTermListValue : GoodIn wsX7_fromTerms wsX7_hasTermListValue := goodIn_r _ [11, 2, 1, 24, 25, 26, 27, 28, 29, 30, 31, 32, 33, 34, 35, 36, 37, 38, 39] (by decide +kernel) (by decide +kernel)
set_option maxRecDepth 20000 in
theorem gX7_fromTerms_X7_hasTermListValue : GoodIn wsX7_fromTerms (wsV RX7 134 RX7 yX7_hasTermListValue wsX7_hasTermListValue) := goodIn_app (goodIn_of _ (by decide +kernel)) ggX7_fromTerms_X7_hasTermListValue
set_option maxRecDepth 20000 in
theorem ggX7_fromTerms_X7_store : GoodIn wsX7_fromTerms wsX7_store := goodIn_r _ [15, 3, 16, 17, 18, 19, 6, 20, 21, 22, 23, 24, 25, 26, 27, 28, 29, 30, 31, 32, 33, 34, 35, 36, 37, 38, 39] (by decide +kernel) (by decide +kernel)
set_option maxRecDepth 20000 in
theorem gX7_fromTerms_X7_store : GoodIn wsX7_fromTerms (wsV RX7 71 RX7 yX7_store wsX7_store) := goodIn_app (goodIn_of _ (by decide +kernel)) ggX7_fromTerms_X7_store
theorem dX7_fromTerms_0 : decode cX7_fromTerms 0 = .ok (.iload_n 1, 1) := by decide +kernel
theorem dX7_fromTerms_1 : decode cX7_fromTerms 1 = .ok (.invokestatic 62, 3) := by decide +kernel
theorem dX7_fromTerms_4 : decode cX7_fromTerms 4 = .ok (.ifCond .ne 5, 3) := by decide +kernel
theorem dX7_fromTerms_7 : decode cX7_fromTerms 7 = .ok (.iconst (-1), 1) := by decide +kernel
theorem dX7_fromTerms_8 : decode cX7_fromTerms 8 = .ok (.ireturn, 1) := by decide +kernel
theorem dX7_fromTerms_9 : decode cX7_fromTerms 9 = .ok (.aload_n 0, 1) := by decide +kernel
theorem dX7_fromTerms_10 : decode cX7_fromTerms 10 = .ok (.invokevirtual 134, 3) := by decide +kernel
theorem dX7_fromTerms_13 : decode cX7_fromTerms 13 = .ok (.ifCond .ne 6, 3) := by decide +kernel
theorem dX7_fromTerms_16 : decode cX7_fromTerms 16 = .ok (.bipush (-2), 2) := by decide +kernel
theorem dX7_fromTerms_18 : decode cX7_fromTerms 18 = .ok (.ireturn, 1) := by decide +kernel
theorem dX7_fromTerms_19 : decode cX7_fromTerms 19 = .ok (.aload_n 0, 1) := by decide +kernel
theorem dX7_fromTerms_20 : decode cX7_fromTerms 20 = .ok (.getfield 31, 3) := by decide +kernel
theorem dX7_fromTerms_23 : decode cX7_fromTerms 23 = .ok (.aload_n 0, 1) := by decide +kernel
theorem dX7_fromTerms_24 : decode cX7_fromTerms 24 = .ok (.getfield 130, 3) := by decide +kernel
theorem dX7_fromTerms_27 : decode cX7_fromTerms 27 = .ok (.iconst 1, 1) := by decide +kernel
theorem dX7_fromTerms_28 : decode cX7_fromTerms 28 = .ok (.isub, 1) := by decide +kernel
theorem dX7_fromTerms_29 : decode cX7_fromTerms 29 = .ok (.iaload, 1) := by decide +kernel
theorem dX7_fromTerms_30 : decode cX7_fromTerms 30 = .ok (.i2l, 1) := by decide +kernel
theorem dX7_fromTerms_31 : decode cX7_fromTerms 31 = .ok (.lstore_n 2, 1) := by decide +kernel
theorem dX7_fromTerms_32 : decode cX7_fromTerms 32 = .ok (.lconst 1, 1) := by decide +kernel
theorem dX7_fromTerms_33 : decode cX7_fromTerms 33 = .ok (.lstore 4, 2) := by decide +kernel
theorem dX7_fromTerms_35 : decode cX7_fromTerms 35 = .ok (.aload_n 0, 1) := by decide +kernel
theorem dX7_fromTerms_36 : decode cX7_fromTerms 36 = .ok (.getfield 130, 3) := by decide +kernel
theorem dX7_fromTerms_39 : decode cX7_fromTerms 39 = .ok (.iconst 2, 1) := by decide +kernel
theorem dX7_fromTerms_40 : decode cX7_fromTerms 40 = .ok (.isub, 1) := by decide +kernel
theorem dX7_fromTerms_41 : decode cX7_fromTerms 41 = .ok (.istore 6, 2) := by decide +kernel
theorem dX7_fromTerms_43 : decode cX7_fromTerms 43 = .ok (.iload 6, 2) := by decide +kernel
theorem dX7_fromTerms_45 : decode cX7_fromTerms 45 = .ok (.ifCond .lt 50, 3) := by decide +kernel
theorem dX7_fromTerms_48 : decode cX7_fromTerms 48 = .ok (.aload_n 0, 1) := by decide +kernel
theorem dX7_fromTerms_49 : decode cX7_fromTerms 49 = .ok (.getfield 31, 3) := by decide +kernel
theorem dX7_fromTerms_52 : decode cX7_fromTerms 52 = .ok (.iload 6, 2) := by decide +kernel
theorem dX7_fromTerms_54 : decode cX7_fromTerms 54 = .ok (.iaload, 1) := by decide +kernel
theorem dX7_fromTerms_55 : decode cX7_fromTerms 55 = .ok (.i2l, 1) := by decide +kernel
theorem dX7_fromTerms_56 : decode cX7_fromTerms 56 = .ok (.lload_n 2, 1) := by decide +kernel
theorem dX7_fromTerms_57 : decode cX7_fromTerms 57 = .ok (.lmul, 1) := by decide +kernel
theorem dX7_fromTerms_58 : decode cX7_fromTerms 58 = .ok (.lload 4, 2) := by decide +kernel
theorem dX7_fromTerms_60 : decode cX7_fromTerms 60 = .ok (.ladd, 1) := by decide +kernel
theorem dX7_fromTerms_61 : decode cX7_fromTerms 61 = .ok (.lstore 7, 2) := by decide +kernel
theorem dX7_fromTerms_63 : decode cX7_fromTerms 63 = .ok (.lload_n 2, 1) := by decide +kernel
theorem dX7_fromTerms_64 : decode cX7_fromTerms 64 = .ok (.lstore 4, 2) := by decide +kernel
theorem dX7_fromTerms_66 : decode cX7_fromTerms 66 = .ok (.lload 7, 2) := by decide +kernel
theorem dX7_fromTerms_68 : decode cX7_fromTerms 68 = .ok (.lstore_n 2, 1) := by decide +kernel
theorem dX7_fromTerms_69 : decode cX7_fromTerms 69 = .ok (.lload_n 2, 1) := by decide +kernel
theorem dX7_fromTerms_70 : decode cX7_fromTerms 70 = .ok (.ldc2_w 138, 3) := by decide +kernel
theorem dX7_fromTerms_73 : decode cX7_fromTerms 73 = .ok (.lcmp, 1) := by decide +kernel
theorem dX7_fromTerms_74 : decode cX7_fromTerms 74 = .ok (.ifCond .gt 12, 3) := by decide +kernel
theorem dX7_fromTerms_77 : decode cX7_fromTerms 77 = .ok (.lload 4, 2) := by decide +kernel
theorem dX7_fromTerms_79 : decode cX7_fromTerms 79 = .ok (.ldc2_w 138, 3) := by decide +kernel
theorem dX7_fromTerms_82 : decode cX7_fromTerms 82 = .ok (.lcmp, 1) := by decide +kernel
theorem dX7_fromTerms_83 : decode cX7_fromTerms 83 = .ok (.ifCond .le 6, 3) := by decide +kernel
theorem dX7_fromTerms_86 : decode cX7_fromTerms 86 = .ok (.bipush (-3), 2) := by decide +kernel
theorem dX7_fromTerms_88 : decode cX7_fromTerms 88 = .ok (.ireturn, 1) := by decide +kernel
theorem dX7_fromTerms_89 : decode cX7_fromTerms 89 = .ok (.iinc 6 (-1), 3) := by decide +kernel
theorem dX7_fromTerms_92 : decode cX7_fromTerms 92 = .ok (.goto (-49), 3) := by decide +kernel
theorem dX7_fromTerms_95 : decode cX7_fromTerms 95 = .ok (.aload_n 0, 1) := by decide +kernel
theorem dX7_fromTerms_96 : decode cX7_fromTerms 96 = .ok (.iload_n 1, 1) := by decide +kernel
theorem dX7_fromTerms_97 : decode cX7_fromTerms 97 = .ok (.lload_n 2, 1) := by decide +kernel
theorem dX7_fromTerms_98 : decode cX7_fromTerms 98 = .ok (.lload 4, 2) := by decide +kernel
theorem dX7_fromTerms_100 : decode cX7_fromTerms 100 = .ok (.invokevirtual 71, 3) := by decide +kernel
theorem dX7_fromTerms_103 : decode cX7_fromTerms 103 = .ok (.ireturn, 1) := by decide +kernel
set_option maxRecDepth 20000 in
theorem ggX7_best_X7_isRegister : GoodIn wsX7_best wsX7_isRegister := goodIn_r _ [7] (by decide +kernel) (by decide +kernel)
set_option maxRecDepth 20000 in
theorem gX7_best_X7_isRegister : GoodIn wsX7_best (va_wsS RX7 62 yX7_isRegister wsX7_isRegister) := goodIn_app (goodIn_of _ (by decide +kernel)) ggX7_best_X7_isRegister
set_option maxRecDepth 20000 in
theorem ggX7_best_X7_isIn : GoodIn wsX7_best wsX7_isIn := goodIn_r _ [10] (by decide +kernel) (by decide +kernel)
set_option maxRecDepth 20000 in
theorem gX7_best_X7_isIn : GoodIn wsX7_best (va_wsS RX7 67 yX7_isIn wsX7_isIn) := goodIn_app (goodIn_of _ (by decide +kernel)) ggX7_best_X7_isIn
set_option maxRecDepth 20000 in
theorem ggX7_best_X7_store : GoodIn wsX7_best wsX7_store := goodIn_r _ [14, 15, 3, 2, 16, 17, 6, 18, 19, 20, 21, 74, 75, 76, 77, 78, 79, 80, 81, 82, 83, 84, 85, 86, 87, 88, 89] (by decide +kernel) (by decide +kernel)
set_option maxRecDepth 20000 in
theorem gX7_best_X7_store : GoodIn wsX7_best (wsV RX7 71 RX7 yX7_store wsX7_store) := goodIn_app (goodIn_of _ (by decide +kernel)) ggX7_best_X7_store
set_option maxRecDepth 20000 in
theorem ggX7_best_X7_expand : GoodIn wsX7_best wsX7_expand := goodIn_r _ [25, 26, 3, 2, 27, 28, 29, 30, 31, 32, 33, 34, 35, 36, 37, 74, 75, 76, 77, 78, 79, 80, 81, 82, 83, 84, 85, 86, 87, 88, 89, 90, 91, 92, 93, 94, 95] (by decide +kernel) (by decide +kernel)
set_option maxRecDepth 20000 in
theorem gX7_best_X7_expand : GoodIn wsX7_best (wsV RX7 81 RX7 yX7_expand wsX7_expand) := goodIn_app (goodIn_of _ (by decide +kernel)) ggX7_best_X7_expand
set_option maxRecDepth 20000 in
theorem ggX7_best_X1_findNeighbours : GoodIn wsX7_best wsX1_findNeighbours := goodIn_r _ [41, 32, 42, 43, 44, 30, 45, 46, 47, 48, 49, 37, 20, 6, 21, 50, 51, 52, 53, 54, 55, 56, 57, 58, 59, 60, 61, 90, 91, 92, 93, 94, 95] (by decide +kernel) (by decide +kernel)
set_option maxRecDepth 20000 in
theorem gX7_best_X1_findNeighbours : GoodIn wsX7_best (wsV RX7 140 RX1 yX1_findNeighbours wsX1_findNeighbours) := goodIn_app (goodIn_of _ (by decide +kernel)) ggX7_best_X1_findNeighbours
set_option maxRecDepth 20000 in
theorem ggX7_best_X7_nearerSide : GoodIn wsX7_best wsX7_nearerSide := goodIn_r _ [65, 3, 2, 66, 67, 68, 30, 69, 55, 57, 70, 71, 72, 73, 54, 56, 74, 75, 76, 77, 78, 79, 80, 81, 82, 83, 84, 85, 86, 87, 88, 89, 90, 91, 92, 93, 94, 95] (by decide +kernel) (by decide +kernel)
set_option maxRecDepth 20000 in
theorem gX7_best_X7_nearerSide : GoodIn wsX7_best (wsV RX7 143 RX7 yX7_nearerSide wsX7_nearerSide) := goodIn_app (goodIn_of _ (by decide +kernel)) ggX7_best_X7_nearerSide
set_option maxRecDepth 20000 in
theorem ggX7_best_X1_boundTop : GoodIn wsX7_best wsX1_boundTop := goodIn_r _ [73, 54, 56, 90, 91, 92, 93, 94, 95] (by decide +kernel) (by decide +kernel)
set_option maxRecDepth 20000 in
theorem gX7_best_X1_boundTop : GoodIn wsX7_best (wsV RX7 110 RX1 yX1_boundTop wsX1_boundTop) := goodIn_app (goodIn_of _ (by decide +kernel)) ggX7_best_X1_boundTop
set_option maxRecDepth 20000 in
theorem ggX7_best_X1_boundBottom : GoodIn wsX7_best wsX1_boundBottom := goodIn_r _ [69, 55, 57, 90, 91, 92, 93, 94, 95] (by decide +kernel) (by decide +kernel)
set_option maxRecDepth 20000 in
theorem gX7_best_X1_boundBottom : GoodIn wsX7_best (wsV RX7 114 RX1 yX1_boundBottom wsX1_boundBottom) := goodIn_app (goodIn_of _ (by decide +kernel)) ggX7_best_X1_boundBottom
theorem dX7_best_0 : decode cX7_best 0 = .ok (.iload_n 1, 1) := by decide +kernel
theorem dX7_best_1 : decode cX7_best 1 = .ok (.invokestatic 62, 3) := by decide +kernel
theorem dX7_best_4 : decode cX7_best 4 = .ok (.ifCond .eq 30, 3) := by decide +kernel
theorem dX7_best_7 : decode cX7_best 7 = .ok (.iload_n 2, 1) := by decide +kernel
theorem dX7_best_8 : decode cX7_best 8 = .ok (.invokestatic 62, 3) := by decide +kernel
theorem dX7_best_11 : decode cX7_best 11 = .ok (.ifCond .eq 23, 3) := by decide +kernel
theorem dX7_best_14 : decode cX7_best 14 = .ok (.iload_n 3, 1) := by decide +kernel
theorem dX7_best_15 : decode cX7_best 15 = .ok (.iconst 1, 1) := by decide +kernel
theorem dX7_best_16 : decode cX7_best 16 = .ok (.ldc 66, 2) := by decide +kernel
theorem dX7_best_18 : decode cX7_best 18 = .ok (.invokestatic 67, 3) := by decide +kernel
theorem dX7_best_21 : decode cX7_best 21 = .ok (.ifCond .eq 13, 3) := by decide +kernel
theorem dX7_best_24 : decode cX7_best 24 = .ok (.iload 4, 2) := by decide +kernel
theorem dX7_best_26 : decode cX7_best 26 = .ok (.iconst 0, 1) := by decide +kernel
theorem dX7_best_27 : decode cX7_best 27 = .ok (.iconst 2, 1) := by decide +kernel
theorem dX7_best_28 : decode cX7_best 28 = .ok (.invokestatic 67, 3) := by decide +kernel
theorem dX7_best_31 : decode cX7_best 31 = .ok (.ifCond .ne 5, 3) := by decide +kernel
theorem dX7_best_34 : decode cX7_best 34 = .ok (.iconst (-1), 1) := by decide +kernel
theorem dX7_best_35 : decode cX7_best 35 = .ok (.ireturn, 1) := by decide +kernel
theorem dX7_best_36 : decode cX7_best 36 = .ok (.aload_n 0, 1) := by decide +kernel
theorem dX7_best_37 : decode cX7_best 37 = .ok (.getfield 13, 3) := by decide +kernel
theorem dX7_best_40 : decode cX7_best 40 = .ok (.iload_n 2, 1) := by decide +kernel
theorem dX7_best_41 : decode cX7_best 41 = .ok (.iaload, 1) := by decide +kernel
theorem dX7_best_42 : decode cX7_best 42 = .ok (.iload_n 3, 1) := by decide +kernel
theorem dX7_best_43 : decode cX7_best 43 = .ok (.if_icmp .gt 23, 3) := by decide +kernel
theorem dX7_best_46 : decode cX7_best 46 = .ok (.aload_n 0, 1) := by decide +kernel
theorem dX7_best_47 : decode cX7_best 47 = .ok (.iload_n 1, 1) := by decide +kernel
theorem dX7_best_48 : decode cX7_best 48 = .ok (.aload_n 0, 1) := by decide +kernel
theorem dX7_best_49 : decode cX7_best 49 = .ok (.getfield 9, 3) := by decide +kernel
theorem dX7_best_52 : decode cX7_best 52 = .ok (.iload_n 2, 1) := by decide +kernel
theorem dX7_best_53 : decode cX7_best 53 = .ok (.iaload, 1) := by decide +kernel
theorem dX7_best_54 : decode cX7_best 54 = .ok (.i2l, 1) := by decide +kernel
theorem dX7_best_55 : decode cX7_best 55 = .ok (.aload_n 0, 1) := by decide +kernel
theorem dX7_best_56 : decode cX7_best 56 = .ok (.getfield 13, 3) := by decide +kernel
theorem dX7_best_59 : decode cX7_best 59 = .ok (.iload_n 2, 1) := by decide +kernel
theorem dX7_best_60 : decode cX7_best 60 = .ok (.iaload, 1) := by decide +kernel
theorem dX7_best_61 : decode cX7_best 61 = .ok (.i2l, 1) := by decide +kernel
theorem dX7_best_62 : decode cX7_best 62 = .ok (.invokevirtual 71, 3) := by decide +kernel
theorem dX7_best_65 : decode cX7_best 65 = .ok (.ireturn, 1) := by decide +kernel
theorem dX7_best_66 : decode cX7_best 66 = .ok (.aload_n 0, 1) := by decide +kernel
theorem dX7_best_67 : decode cX7_best 67 = .ok (.iload_n 2, 1) := by decide +kernel
theorem dX7_best_68 : decode cX7_best 68 = .ok (.invokevirtual 81, 3) := by decide +kernel
theorem dX7_best_71 : decode cX7_best 71 = .ok (.astore 5, 2) := by decide +kernel
theorem dX7_best_73 : decode cX7_best 73 = .ok (.aload 5, 2) := by decide +kernel
theorem dX7_best_75 : decode cX7_best 75 = .ok (.iload_n 3, 1) := by decide +kernel
theorem dX7_best_76 : decode cX7_best 76 = .ok (.invokevirtual 140, 3) := by decide +kernel
theorem dX7_best_79 : decode cX7_best 79 = .ok (.iload 4, 2) := by decide +kernel
theorem dX7_best_81 : decode cX7_best 81 = .ok (.ifCond .ne 13, 3) := by decide +kernel
theorem dX7_best_84 : decode cX7_best 84 = .ok (.aload_n 0, 1) := by decide +kernel
theorem dX7_best_85 : decode cX7_best 85 = .ok (.iload_n 2, 1) := by decide +kernel
theorem dX7_best_86 : decode cX7_best 86 = .ok (.aload 5, 2) := by decide +kernel
theorem dX7_best_88 : decode cX7_best 88 = .ok (.invokevirtual 143, 3) := by decide +kernel
theorem dX7_best_91 : decode cX7_best 91 = .ok (.goto 7, 3) := by decide +kernel
theorem dX7_best_94 : decode cX7_best 94 = .ok (.iload 4, 2) := by decide +kernel
theorem dX7_best_96 : decode cX7_best 96 = .ok (.iconst 1, 1) := by decide +kernel
theorem dX7_best_97 : decode cX7_best 97 = .ok (.isub, 1) := by decide +kernel
theorem dX7_best_98 : decode cX7_best 98 = .ok (.istore 6, 2) := by decide +kernel
theorem dX7_best_100 : decode cX7_best 100 = .ok (.aload 5, 2) := by decide +kernel
theorem dX7_best_102 : decode cX7_best 102 = .ok (.iload 6, 2) := by decide +kernel
theorem dX7_best_104 : decode cX7_best 104 = .ok (.invokevirtual 110, 3) := by decide +kernel
theorem dX7_best_107 : decode cX7_best 107 = .ok (.lconst 0, 1) := by decide +kernel
theorem dX7_best_108 : decode cX7_best 108 = .ok (.lcmp, 1) := by decide +kernel
theorem dX7_best_109 : decode cX7_best 109 = .ok (.ifCond .ne 6, 3) := by decide +kernel
theorem dX7_best_112 : decode cX7_best 112 = .ok (.bipush (-2), 2) := by decide +kernel
theorem dX7_best_114 : decode cX7_best 114 = .ok (.ireturn, 1) := by decide +kernel
theorem dX7_best_115 : decode cX7_best 115 = .ok (.aload_n 0, 1) := by decide +kernel
theorem dX7_best_116 : decode cX7_best 116 = .ok (.iload_n 1, 1) := by decide +kernel
theorem dX7_best_117 : decode cX7_best 117 = .ok (.aload 5, 2) := by decide +kernel
theorem dX7_best_119 : decode cX7_best 119 = .ok (.iload 6, 2) := by decide +kernel
theorem dX7_best_121 : decode cX7_best 121 = .ok (.invokevirtual 110, 3) := by decide +kernel
theorem dX7_best_124 : decode cX7_best 124 = .ok (.aload 5, 2) := by decide +kernel
theorem dX7_best_126 : decode cX7_best 126 = .ok (.iload 6, 2) := by decide +kernel
theorem dX7_best_128 : decode cX7_best 128 = .ok (.invokevirtual 114, 3) := by decide +kernel
theorem dX7_best_131 : decode cX7_best 131 = .ok (.invokevirtual 71, 3) := by decide +kernel
theorem dX7_best_134 : decode cX7_best 134 = .ok (.ireturn, 1) := by decide +kernel
set_option maxRecDepth 20000 in
theorem ggX7_simplestBetween_X7_isRegister : GoodIn wsX7_simplestBetween wsX7_isRegister := goodIn_r _ [7] (by decide +kernel) (by decide +kernel)
set_option maxRecDepth 20000 in
theorem gX7_simplestBetween_X7_isRegister : GoodIn wsX7_simplestBetween (va_wsS RX7 62 yX7_isRegister wsX7_isRegister) := goodIn_app (goodIn_of _ (by decide +kernel)) ggX7_simplestBetween_X7_isRegister
set_option maxRecDepth 20000 in
theorem ggX7_simplestBetween_X7_crossDifference : GoodIn wsX7_simplestBetween wsX7_crossDifference := goodIn_r _ [11, 2, 3, 54, 55, 56, 57, 58, 59, 60, 61, 62, 63, 64, 65, 66, 67, 68, 69] (by decide +kernel) (by decide +kernel)
set_option maxRecDepth 20000 in
theorem gX7_simplestBetween_X7_crossDifference : GoodIn wsX7_simplestBetween (wsV RX7 75 RX7 yX7_crossDifference wsX7_crossDifference) := goodIn_app (goodIn_of _ (by decide +kernel)) ggX7_simplestBetween_X7_crossDifference
set_option maxRecDepth 20000 in
theorem ggX7_simplestBetween_X1_becomeSimplestBetween : GoodIn wsX7_simplestBetween wsX1_becomeSimplestBetween := goodIn_r _ [16, 17, 18, 6, 19, 20, 21, 22, 15, 23, 24, 70, 71, 72, 73, 74, 75] (by decide +kernel) (by decide +kernel)
set_option maxRecDepth 20000 in
theorem gX7_simplestBetween_X1_becomeSimplestBetween : GoodIn wsX7_simplestBetween (wsV RX7 147 RX1 yX1_becomeSimplestBetween wsX1_becomeSimplestBetween) := goodIn_app (goodIn_of _ (by decide +kernel)) ggX7_simplestBetween_X1_becomeSimplestBetween
set_option maxRecDepth 20000 in
theorem ggX7_simplestBetween_X1_size : GoodIn wsX7_simplestBetween wsX1_size := goodIn_r _ [28, 17, 70, 71, 72, 73, 74, 75] (by decide +kernel) (by decide +kernel)
set_option maxRecDepth 20000 in
theorem gX7_simplestBetween_X1_size : GoodIn wsX7_simplestBetween (wsV RX7 93 RX1 yX1_size wsX1_size) := goodIn_app (goodIn_of _ (by decide +kernel)) ggX7_simplestBetween_X1_size
set_option maxRecDepth 20000 in
theorem ggX7_simplestBetween_X7_storeConvergent : GoodIn wsX7_simplestBetween wsX7_storeConvergent := goodIn_r _ [32, 33, 34, 35, 15, 36, 37, 38, 39, 40, 17, 24, 41, 42, 43, 44, 45, 46, 47, 6, 48, 49, 2, 3, 50, 51, 52, 53, 18, 19, 70, 71, 72, 73, 74, 75, 54, 55, 56, 57, 58, 59, 60, 61, 62, 63, 64, 65, 66, 67, 68, 69] (by decide +kernel) (by decide +kernel)
set_option maxRecDepth 20000 in
theorem gX7_simplestBetween_X7_storeConvergent : GoodIn wsX7_simplestBetween (wsV RX7 103 RX7 yX7_storeConvergent wsX7_storeConvergent) := goodIn_app (goodIn_of _ (by decide +kernel)) ggX7_simplestBetween_X7_storeConvergent
theorem dX7_simplestBetween_0 : decode cX7_simplestBetween 0 = .ok (.iload_n 1, 1) := by decide +kernel
theorem dX7_simplestBetween_1 : decode cX7_simplestBetween 1 = .ok (.invokestatic 62, 3) := by decide +kernel
theorem dX7_simplestBetween_4 : decode cX7_simplestBetween 4 = .ok (.ifCond .eq 17, 3) := by decide +kernel
theorem dX7_simplestBetween_7 : decode cX7_simplestBetween 7 = .ok (.iload_n 2, 1) := by decide +kernel
theorem dX7_simplestBetween_8 : decode cX7_simplestBetween 8 = .ok (.invokestatic 62, 3) := by decide +kernel
theorem dX7_simplestBetween_11 : decode cX7_simplestBetween 11 = .ok (.ifCond .eq 10, 3) := by decide +kernel
theorem dX7_simplestBetween_14 : decode cX7_simplestBetween 14 = .ok (.iload_n 3, 1) := by decide +kernel
theorem dX7_simplestBetween_15 : decode cX7_simplestBetween 15 = .ok (.invokestatic 62, 3) := by decide +kernel
theorem dX7_simplestBetween_18 : decode cX7_simplestBetween 18 = .ok (.ifCond .ne 5, 3) := by decide +kernel
theorem dX7_simplestBetween_21 : decode cX7_simplestBetween 21 = .ok (.iconst (-1), 1) := by decide +kernel
theorem dX7_simplestBetween_22 : decode cX7_simplestBetween 22 = .ok (.ireturn, 1) := by decide +kernel
theorem dX7_simplestBetween_23 : decode cX7_simplestBetween 23 = .ok (.aload_n 0, 1) := by decide +kernel
theorem dX7_simplestBetween_24 : decode cX7_simplestBetween 24 = .ok (.iload_n 2, 1) := by decide +kernel
theorem dX7_simplestBetween_25 : decode cX7_simplestBetween 25 = .ok (.iload_n 3, 1) := by decide +kernel
theorem dX7_simplestBetween_26 : decode cX7_simplestBetween 26 = .ok (.invokevirtual 75, 3) := by decide +kernel
theorem dX7_simplestBetween_29 : decode cX7_simplestBetween 29 = .ok (.lconst 0, 1) := by decide +kernel
theorem dX7_simplestBetween_30 : decode cX7_simplestBetween 30 = .ok (.lcmp, 1) := by decide +kernel
theorem dX7_simplestBetween_31 : decode cX7_simplestBetween 31 = .ok (.ifCond .lt 6, 3) := by decide +kernel
theorem dX7_simplestBetween_34 : decode cX7_simplestBetween 34 = .ok (.bipush (-2), 2) := by decide +kernel
theorem dX7_simplestBetween_36 : decode cX7_simplestBetween 36 = .ok (.ireturn, 1) := by decide +kernel
theorem dX7_simplestBetween_37 : decode cX7_simplestBetween 37 = .ok (.aload_n 0, 1) := by decide +kernel
theorem dX7_simplestBetween_38 : decode cX7_simplestBetween 38 = .ok (.getfield 48, 3) := by decide +kernel
theorem dX7_simplestBetween_41 : decode cX7_simplestBetween 41 = .ok (.aload_n 0, 1) := by decide +kernel
theorem dX7_simplestBetween_42 : decode cX7_simplestBetween 42 = .ok (.getfield 9, 3) := by decide +kernel
theorem dX7_simplestBetween_45 : decode cX7_simplestBetween 45 = .ok (.iload_n 2, 1) := by decide +kernel
theorem dX7_simplestBetween_46 : decode cX7_simplestBetween 46 = .ok (.iaload, 1) := by decide +kernel
theorem dX7_simplestBetween_47 : decode cX7_simplestBetween 47 = .ok (.aload_n 0, 1) := by decide +kernel
theorem dX7_simplestBetween_48 : decode cX7_simplestBetween 48 = .ok (.getfield 13, 3) := by decide +kernel
theorem dX7_simplestBetween_51 : decode cX7_simplestBetween 51 = .ok (.iload_n 2, 1) := by decide +kernel
theorem dX7_simplestBetween_52 : decode cX7_simplestBetween 52 = .ok (.iaload, 1) := by decide +kernel
theorem dX7_simplestBetween_53 : decode cX7_simplestBetween 53 = .ok (.aload_n 0, 1) := by decide +kernel
theorem dX7_simplestBetween_54 : decode cX7_simplestBetween 54 = .ok (.getfield 9, 3) := by decide +kernel
theorem dX7_simplestBetween_57 : decode cX7_simplestBetween 57 = .ok (.iload_n 3, 1) := by decide +kernel
theorem dX7_simplestBetween_58 : decode cX7_simplestBetween 58 = .ok (.iaload, 1) := by decide +kernel
theorem dX7_simplestBetween_59 : decode cX7_simplestBetween 59 = .ok (.aload_n 0, 1) := by decide +kernel
theorem dX7_simplestBetween_60 : decode cX7_simplestBetween 60 = .ok (.getfield 13, 3) := by decide +kernel
theorem dX7_simplestBetween_63 : decode cX7_simplestBetween 63 = .ok (.iload_n 3, 1) := by decide +kernel
theorem dX7_simplestBetween_64 : decode cX7_simplestBetween 64 = .ok (.iaload, 1) := by decide +kernel
theorem dX7_simplestBetween_65 : decode cX7_simplestBetween 65 = .ok (.invokevirtual 147, 3) := by decide +kernel
theorem dX7_simplestBetween_68 : decode cX7_simplestBetween 68 = .ok (.aload_n 0, 1) := by decide +kernel
theorem dX7_simplestBetween_69 : decode cX7_simplestBetween 69 = .ok (.iload_n 1, 1) := by decide +kernel
theorem dX7_simplestBetween_70 : decode cX7_simplestBetween 70 = .ok (.aload_n 0, 1) := by decide +kernel
theorem dX7_simplestBetween_71 : decode cX7_simplestBetween 71 = .ok (.getfield 48, 3) := by decide +kernel
theorem dX7_simplestBetween_74 : decode cX7_simplestBetween 74 = .ok (.aload_n 0, 1) := by decide +kernel
theorem dX7_simplestBetween_75 : decode cX7_simplestBetween 75 = .ok (.getfield 48, 3) := by decide +kernel
theorem dX7_simplestBetween_78 : decode cX7_simplestBetween 78 = .ok (.invokevirtual 93, 3) := by decide +kernel
theorem dX7_simplestBetween_81 : decode cX7_simplestBetween 81 = .ok (.iconst 1, 1) := by decide +kernel
theorem dX7_simplestBetween_82 : decode cX7_simplestBetween 82 = .ok (.isub, 1) := by decide +kernel
theorem dX7_simplestBetween_83 : decode cX7_simplestBetween 83 = .ok (.invokevirtual 103, 3) := by decide +kernel
theorem dX7_simplestBetween_86 : decode cX7_simplestBetween 86 = .ok (.ireturn, 1) := by decide +kernel
set_option maxRecDepth 20000 in
theorem ggX7_rankedBetween_X7_isRegister : GoodIn wsX7_rankedBetween wsX7_isRegister := goodIn_r _ [5] (by decide +kernel) (by decide +kernel)
set_option maxRecDepth 20000 in
theorem gX7_rankedBetween_X7_isRegister : GoodIn wsX7_rankedBetween (va_wsS RX7 62 yX7_isRegister wsX7_isRegister) := goodIn_app (goodIn_of _ (by decide +kernel)) ggX7_rankedBetween_X7_isRegister
set_option maxRecDepth 20000 in
theorem ggX7_rankedBetween_X7_isIn : GoodIn wsX7_rankedBetween wsX7_isIn := goodIn_r _ [8] (by decide +kernel) (by decide +kernel)
set_option maxRecDepth 20000 in
theorem gX7_rankedBetween_X7_isIn : GoodIn wsX7_rankedBetween (va_wsS RX7 67 yX7_isIn wsX7_isIn) := goodIn_app (goodIn_of _ (by decide +kernel)) ggX7_rankedBetween_X7_isIn
set_option maxRecDepth 20000 in
theorem ggX7_rankedBetween_X7_collectRanked : GoodIn wsX7_rankedBetween wsX7_collectRanked := goodIn_r _ [12, 1, 13, 14, 15, 16, 17, 18, 19, 20, 21, 22, 4, 23, 24, 25, 26, 27, 28, 29, 30, 31, 32, 33, 34, 35, 36, 37, 38, 39, 40, 41, 42, 43, 44, 45, 46, 47, 48, 49, 50, 51, 52, 53, 54, 55, 56, 57, 58, 59, 60, 61, 62, 63, 64, 65, 66, 67, 68, 69, 70, 71, 96, 97, 98, 99, 100, 101, 102, 103, 104, 105, 106, 107, 108, 109, 110, 111, 112, 113, 114, 115, 116, 117, 118, 119, 120, 121, 122] (by decide +kernel) (by decide +kernel)
set_option maxRecDepth 20000 in
theorem gX7_rankedBetween_X7_collectRanked : GoodIn wsX7_rankedBetween (wsV RX7 151 RX7 yX7_collectRanked wsX7_collectRanked) := goodIn_app (goodIn_of _ (by decide +kernel)) ggX7_rankedBetween_X7_collectRanked
set_option maxRecDepth 20000 in
theorem ggX7_rankedBetween_X4_size : GoodIn wsX7_rankedBetween wsX4_size := goodIn_r _ [75, 18, 112, 113, 114, 115, 116] (by decide +kernel) (by decide +kernel)
set_option maxRecDepth 20000 in
theorem gX7_rankedBetween_X4_size : GoodIn wsX7_rankedBetween (wsV RX7 155 RX4 yX4_size wsX4_size) := goodIn_app (goodIn_of _ (by decide +kernel)) ggX7_rankedBetween_X4_size
set_option maxRecDepth 20000 in
theorem ggX7_rankedBetween_X4_placeOf : GoodIn wsX7_rankedBetween wsX4_placeOf := goodIn_r _ [79, 19, 18, 71, 112, 113, 114, 115, 116] (by decide +kernel) (by decide +kernel)
set_option maxRecDepth 20000 in
theorem gX7_rankedBetween_X4_placeOf : GoodIn wsX7_rankedBetween (wsV RX7 156 RX4 yX4_placeOf wsX4_placeOf) := goodIn_app (goodIn_of _ (by decide +kernel)) ggX7_rankedBetween_X4_placeOf
set_option maxRecDepth 20000 in
theorem ggX7_rankedBetween_X4_topAt : GoodIn wsX7_rankedBetween wsX4_topAt := goodIn_r _ [83, 18, 69, 112, 113, 114, 115, 116] (by decide +kernel) (by decide +kernel)
set_option maxRecDepth 20000 in
theorem gX7_rankedBetween_X4_topAt : GoodIn wsX7_rankedBetween (wsV RX7 159 RX4 yX4_topAt wsX4_topAt) := goodIn_app (goodIn_of _ (by decide +kernel)) ggX7_rankedBetween_X4_topAt
set_option maxRecDepth 20000 in
theorem ggX7_rankedBetween_X4_bottomAt : GoodIn wsX7_rankedBetween wsX4_bottomAt := goodIn_r _ [87, 18, 70, 112, 113, 114, 115, 116] (by decide +kernel) (by decide +kernel)
set_option maxRecDepth 20000 in
theorem gX7_rankedBetween_X4_bottomAt : GoodIn wsX7_rankedBetween (wsV RX7 162 RX4 yX4_bottomAt wsX4_bottomAt) := goodIn_app (goodIn_of _ (by decide +kernel)) ggX7_rankedBetween_X4_bottomAt
set_option maxRecDepth 20000 in
theorem ggX7_rankedBetween_X7_store : GoodIn wsX7_rankedBetween wsX7_store := goodIn_r _ [91, 92, 24, 25, 26, 27, 4, 28, 93, 94, 95, 96, 97, 98, 99, 100, 101, 102, 103, 104, 105, 106, 107, 108, 109, 110, 111] (by decide +kernel) (by decide +kernel)
set_option maxRecDepth 20000 in
theorem gX7_rankedBetween_X7_store : GoodIn wsX7_rankedBetween (wsV RX7 71 RX7 yX7_store wsX7_store) := goodIn_app (goodIn_of _ (by decide +kernel)) ggX7_rankedBetween_X7_store
theorem dX7_rankedBetween_0 : decode cX7_rankedBetween 0 = .ok (.iload_n 1, 1) := by decide +kernel
theorem dX7_rankedBetween_1 : decode cX7_rankedBetween 1 = .ok (.invokestatic 62, 3) := by decide +kernel
theorem dX7_rankedBetween_4 : decode cX7_rankedBetween 4 = .ok (.ifCond .eq 32, 3) := by decide +kernel
theorem dX7_rankedBetween_7 : decode cX7_rankedBetween 7 = .ok (.iload_n 2, 1) := by decide +kernel
theorem dX7_rankedBetween_8 : decode cX7_rankedBetween 8 = .ok (.invokestatic 62, 3) := by decide +kernel
theorem dX7_rankedBetween_11 : decode cX7_rankedBetween 11 = .ok (.ifCond .eq 25, 3) := by decide +kernel
theorem dX7_rankedBetween_14 : decode cX7_rankedBetween 14 = .ok (.iload_n 3, 1) := by decide +kernel
theorem dX7_rankedBetween_15 : decode cX7_rankedBetween 15 = .ok (.invokestatic 62, 3) := by decide +kernel
theorem dX7_rankedBetween_18 : decode cX7_rankedBetween 18 = .ok (.ifCond .eq 18, 3) := by decide +kernel
theorem dX7_rankedBetween_21 : decode cX7_rankedBetween 21 = .ok (.iload 4, 2) := by decide +kernel
theorem dX7_rankedBetween_23 : decode cX7_rankedBetween 23 = .ok (.iconst 0, 1) := by decide +kernel
theorem dX7_rankedBetween_24 : decode cX7_rankedBetween 24 = .ok (.iconst 4, 1) := by decide +kernel
theorem dX7_rankedBetween_25 : decode cX7_rankedBetween 25 = .ok (.invokestatic 67, 3) := by decide +kernel
theorem dX7_rankedBetween_28 : decode cX7_rankedBetween 28 = .ok (.ifCond .eq 8, 3) := by decide +kernel
theorem dX7_rankedBetween_31 : decode cX7_rankedBetween 31 = .ok (.iload 5, 2) := by decide +kernel
theorem dX7_rankedBetween_33 : decode cX7_rankedBetween 33 = .ok (.ifCond .ge 5, 3) := by decide +kernel
theorem dX7_rankedBetween_36 : decode cX7_rankedBetween 36 = .ok (.iconst (-1), 1) := by decide +kernel
theorem dX7_rankedBetween_37 : decode cX7_rankedBetween 37 = .ok (.ireturn, 1) := by decide +kernel
theorem dX7_rankedBetween_38 : decode cX7_rankedBetween 38 = .ok (.aload_n 0, 1) := by decide +kernel
theorem dX7_rankedBetween_39 : decode cX7_rankedBetween 39 = .ok (.iload_n 2, 1) := by decide +kernel
theorem dX7_rankedBetween_40 : decode cX7_rankedBetween 40 = .ok (.iload_n 3, 1) := by decide +kernel
theorem dX7_rankedBetween_41 : decode cX7_rankedBetween 41 = .ok (.iload 4, 2) := by decide +kernel
theorem dX7_rankedBetween_43 : decode cX7_rankedBetween 43 = .ok (.invokevirtual 151, 3) := by decide +kernel
theorem dX7_rankedBetween_46 : decode cX7_rankedBetween 46 = .ok (.iload 5, 2) := by decide +kernel
theorem dX7_rankedBetween_48 : decode cX7_rankedBetween 48 = .ok (.aload_n 0, 1) := by decide +kernel
theorem dX7_rankedBetween_49 : decode cX7_rankedBetween 49 = .ok (.getfield 58, 3) := by decide +kernel
theorem dX7_rankedBetween_52 : decode cX7_rankedBetween 52 = .ok (.invokevirtual 155, 3) := by decide +kernel
theorem dX7_rankedBetween_55 : decode cX7_rankedBetween 55 = .ok (.if_icmp .lt 6, 3) := by decide +kernel
theorem dX7_rankedBetween_58 : decode cX7_rankedBetween 58 = .ok (.bipush (-2), 2) := by decide +kernel
theorem dX7_rankedBetween_60 : decode cX7_rankedBetween 60 = .ok (.ireturn, 1) := by decide +kernel
theorem dX7_rankedBetween_61 : decode cX7_rankedBetween 61 = .ok (.aload_n 0, 1) := by decide +kernel
theorem dX7_rankedBetween_62 : decode cX7_rankedBetween 62 = .ok (.getfield 58, 3) := by decide +kernel
theorem dX7_rankedBetween_65 : decode cX7_rankedBetween 65 = .ok (.iload 5, 2) := by decide +kernel
theorem dX7_rankedBetween_67 : decode cX7_rankedBetween 67 = .ok (.invokevirtual 156, 3) := by decide +kernel
theorem dX7_rankedBetween_70 : decode cX7_rankedBetween 70 = .ok (.istore 6, 2) := by decide +kernel
theorem dX7_rankedBetween_72 : decode cX7_rankedBetween 72 = .ok (.aload_n 0, 1) := by decide +kernel
theorem dX7_rankedBetween_73 : decode cX7_rankedBetween 73 = .ok (.iload_n 1, 1) := by decide +kernel
theorem dX7_rankedBetween_74 : decode cX7_rankedBetween 74 = .ok (.aload_n 0, 1) := by decide +kernel
theorem dX7_rankedBetween_75 : decode cX7_rankedBetween 75 = .ok (.getfield 58, 3) := by decide +kernel
theorem dX7_rankedBetween_78 : decode cX7_rankedBetween 78 = .ok (.iload 6, 2) := by decide +kernel
theorem dX7_rankedBetween_80 : decode cX7_rankedBetween 80 = .ok (.invokevirtual 159, 3) := by decide +kernel
theorem dX7_rankedBetween_83 : decode cX7_rankedBetween 83 = .ok (.i2l, 1) := by decide +kernel
theorem dX7_rankedBetween_84 : decode cX7_rankedBetween 84 = .ok (.aload_n 0, 1) := by decide +kernel
theorem dX7_rankedBetween_85 : decode cX7_rankedBetween 85 = .ok (.getfield 58, 3) := by decide +kernel
theorem dX7_rankedBetween_88 : decode cX7_rankedBetween 88 = .ok (.iload 6, 2) := by decide +kernel
theorem dX7_rankedBetween_90 : decode cX7_rankedBetween 90 = .ok (.invokevirtual 162, 3) := by decide +kernel
theorem dX7_rankedBetween_93 : decode cX7_rankedBetween 93 = .ok (.i2l, 1) := by decide +kernel
theorem dX7_rankedBetween_94 : decode cX7_rankedBetween 94 = .ok (.invokevirtual 71, 3) := by decide +kernel
theorem dX7_rankedBetween_97 : decode cX7_rankedBetween 97 = .ok (.pop, 1) := by decide +kernel
theorem dX7_rankedBetween_98 : decode cX7_rankedBetween 98 = .ok (.aload_n 0, 1) := by decide +kernel
theorem dX7_rankedBetween_99 : decode cX7_rankedBetween 99 = .ok (.getfield 58, 3) := by decide +kernel
theorem dX7_rankedBetween_102 : decode cX7_rankedBetween 102 = .ok (.invokevirtual 155, 3) := by decide +kernel
theorem dX7_rankedBetween_105 : decode cX7_rankedBetween 105 = .ok (.ireturn, 1) := by decide +kernel
set_option maxRecDepth 20000 in
theorem ggX7_fareyNext_X7_isRegister : GoodIn wsX7_fareyNext wsX7_isRegister := goodIn_r _ [6] (by decide +kernel) (by decide +kernel)
set_option maxRecDepth 20000 in
theorem gX7_fareyNext_X7_isRegister : GoodIn wsX7_fareyNext (va_wsS RX7 62 yX7_isRegister wsX7_isRegister) := goodIn_app (goodIn_of _ (by decide +kernel)) ggX7_fareyNext_X7_isRegister
set_option maxRecDepth 20000 in
theorem ggX7_fareyNext_X7_isIn : GoodIn wsX7_fareyNext wsX7_isIn := goodIn_r _ [9] (by decide +kernel) (by decide +kernel)
set_option maxRecDepth 20000 in
theorem gX7_fareyNext_X7_isIn : GoodIn wsX7_fareyNext (va_wsS RX7 67 yX7_isIn wsX7_isIn) := goodIn_app (goodIn_of _ (by decide +kernel)) ggX7_fareyNext_X7_isIn
set_option maxRecDepth 20000 in
theorem ggX7_fareyNext_X7_expand : GoodIn wsX7_fareyNext wsX7_expand := goodIn_r _ [13, 14, 2, 1, 15, 16, 17, 18, 19, 20, 21, 22, 23, 24, 25, 77, 78, 79, 80, 81, 82, 83, 84, 85, 86, 87, 88, 89, 90, 91, 92, 93, 94, 95, 96, 97, 98] (by decide +kernel) (by decide +kernel)
set_option maxRecDepth 20000 in
theorem gX7_fareyNext_X7_expand : GoodIn wsX7_fareyNext (wsV RX7 81 RX7 yX7_expand wsX7_expand) := goodIn_app (goodIn_of _ (by decide +kernel)) ggX7_fareyNext_X7_expand
set_option maxRecDepth 20000 in
theorem ggX7_fareyNext_X1_findNeighbours : GoodIn wsX7_fareyNext wsX1_findNeighbours := goodIn_r _ [29, 20, 30, 31, 32, 18, 33, 34, 35, 36, 37, 25, 38, 5, 39, 40, 41, 42, 43, 44, 45, 46, 47, 48, 49, 50, 51, 93, 94, 95, 96, 97, 98] (by decide +kernel) (by decide +kernel)
set_option maxRecDepth 20000 in
theorem gX7_fareyNext_X1_findNeighbours : GoodIn wsX7_fareyNext (wsV RX7 140 RX1 yX1_findNeighbours wsX1_findNeighbours) := goodIn_app (goodIn_of _ (by decide +kernel)) ggX7_fareyNext_X1_findNeighbours
set_option maxRecDepth 20000 in
theorem ggX7_fareyNext_X1_boundTop : GoodIn wsX7_fareyNext wsX1_boundTop := goodIn_r _ [55, 44, 46, 93, 94, 95, 96, 97, 98] (by decide +kernel) (by decide +kernel)
set_option maxRecDepth 20000 in
theorem gX7_fareyNext_X1_boundTop : GoodIn wsX7_fareyNext (wsV RX7 110 RX1 yX1_boundTop wsX1_boundTop) := goodIn_app (goodIn_of _ (by decide +kernel)) ggX7_fareyNext_X1_boundTop
set_option maxRecDepth 20000 in
theorem ggX7_fareyNext_X1_boundBottom : GoodIn wsX7_fareyNext wsX1_boundBottom := goodIn_r _ [59, 45, 47, 93, 94, 95, 96, 97, 98] (by decide +kernel) (by decide +kernel)
set_option maxRecDepth 20000 in
theorem gX7_fareyNext_X1_boundBottom : GoodIn wsX7_fareyNext (wsV RX7 114 RX1 yX1_boundBottom wsX1_boundBottom) := goodIn_app (goodIn_of _ (by decide +kernel)) ggX7_fareyNext_X1_boundBottom
set_option maxRecDepth 20000 in
theorem ggX7_fareyNext_X7_store : GoodIn wsX7_fareyNext wsX7_store := goodIn_r _ [63, 64, 2, 1, 65, 66, 5, 67, 68, 38, 39, 77, 78, 79, 80, 81, 82, 83, 84, 85, 86, 87, 88, 89, 90, 91, 92] (by decide +kernel) (by decide +kernel)
set_option maxRecDepth 20000 in
theorem gX7_fareyNext_X7_store : GoodIn wsX7_fareyNext (wsV RX7 71 RX7 yX7_store wsX7_store) := goodIn_app (goodIn_of _ (by decide +kernel)) ggX7_fareyNext_X7_store
set_option maxRecDepth 20000 in
theorem ggX7_fareyNext_X1_findBounds : GoodIn wsX7_fareyNext wsX1_findBounds := goodIn_r _ [72, 20, 73, 74, 75, 18, 76, 25, 40, 41, 42, 43, 44, 45, 46, 47, 48, 49, 50, 51, 34, 35, 36, 37, 30, 31, 32, 33, 93, 94, 95, 96, 97, 98] (by decide +kernel) (by decide +kernel)
set_option maxRecDepth 20000 in
theorem gX7_fareyNext_X1_findBounds : GoodIn wsX7_fareyNext (wsV RX7 107 RX1 yX1_findBounds wsX1_findBounds) := goodIn_app (goodIn_of _ (by decide +kernel)) ggX7_fareyNext_X1_findBounds
set_option maxRecDepth 20000 in
theorem ggX7_fareyNext_X7_quotient : GoodIn wsX7_fareyNext wsX7_quotient := goodIn_r _ [39] (by decide +kernel) (by decide +kernel)
set_option maxRecDepth 20000 in
theorem gX7_fareyNext_X7_quotient : GoodIn wsX7_fareyNext (va_wsS RX7 165 yX7_quotient wsX7_quotient) := goodIn_app (goodIn_of _ (by decide +kernel)) ggX7_fareyNext_X7_quotient
theorem dX7_fareyNext_0 : decode cX7_fareyNext 0 = .ok (.iload_n 1, 1) := by decide +kernel
