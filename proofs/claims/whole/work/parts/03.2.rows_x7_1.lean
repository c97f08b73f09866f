theorem dX7_fareyNext_1 : decode cX7_fareyNext 1 = .ok (.invokestatic 62, 3) := by decide +kernel
theorem dX7_fareyNext_4 : decode cX7_fareyNext 4 = .ok (.ifCond .eq 21, 3) := by decide +kernel
theorem dX7_fareyNext_7 : decode cX7_fareyNext 7 = .ok (.iload_n 2, 1) := by decide +kernel
theorem dX7_fareyNext_8 : decode cX7_fareyNext 8 = .ok (.invokestatic 62, 3) := by decide +kernel
theorem dX7_fareyNext_11 : decode cX7_fareyNext 11 = .ok (.ifCond .eq 14, 3) := by decide +kernel
theorem dX7_fareyNext_14 : decode cX7_fareyNext 14 = .ok (.iload_n 3, 1) := by decide +kernel
theorem dX7_fareyNext_15 : decode cX7_fareyNext 15 = .ok (.iconst 1, 1) := by decide +kernel
theorem dX7_fareyNext_16 : decode cX7_fareyNext 16 = .ok (.sipush 1000, 3) := by decide +kernel
theorem dX7_fareyNext_19 : decode cX7_fareyNext 19 = .ok (.invokestatic 67, 3) := by decide +kernel
theorem dX7_fareyNext_22 : decode cX7_fareyNext 22 = .ok (.ifCond .ne 5, 3) := by decide +kernel
theorem dX7_fareyNext_25 : decode cX7_fareyNext 25 = .ok (.iconst (-1), 1) := by decide +kernel
theorem dX7_fareyNext_26 : decode cX7_fareyNext 26 = .ok (.ireturn, 1) := by decide +kernel
theorem dX7_fareyNext_27 : decode cX7_fareyNext 27 = .ok (.aload_n 0, 1) := by decide +kernel
theorem dX7_fareyNext_28 : decode cX7_fareyNext 28 = .ok (.iload_n 2, 1) := by decide +kernel
theorem dX7_fareyNext_29 : decode cX7_fareyNext 29 = .ok (.invokevirtual 81, 3) := by decide +kernel
theorem dX7_fareyNext_32 : decode cX7_fareyNext 32 = .ok (.astore 4, 2) := by decide +kernel
theorem dX7_fareyNext_34 : decode cX7_fareyNext 34 = .ok (.aload_n 0, 1) := by decide +kernel
theorem dX7_fareyNext_35 : decode cX7_fareyNext 35 = .ok (.getfield 13, 3) := by decide +kernel
theorem dX7_fareyNext_38 : decode cX7_fareyNext 38 = .ok (.iload_n 2, 1) := by decide +kernel
theorem dX7_fareyNext_39 : decode cX7_fareyNext 39 = .ok (.iaload, 1) := by decide +kernel
theorem dX7_fareyNext_40 : decode cX7_fareyNext 40 = .ok (.iload_n 3, 1) := by decide +kernel
theorem dX7_fareyNext_41 : decode cX7_fareyNext 41 = .ok (.if_icmp .le 27, 3) := by decide +kernel
theorem dX7_fareyNext_44 : decode cX7_fareyNext 44 = .ok (.aload 4, 2) := by decide +kernel
theorem dX7_fareyNext_46 : decode cX7_fareyNext 46 = .ok (.iload_n 3, 1) := by decide +kernel
theorem dX7_fareyNext_47 : decode cX7_fareyNext 47 = .ok (.invokevirtual 140, 3) := by decide +kernel
theorem dX7_fareyNext_50 : decode cX7_fareyNext 50 = .ok (.aload_n 0, 1) := by decide +kernel
theorem dX7_fareyNext_51 : decode cX7_fareyNext 51 = .ok (.iload_n 1, 1) := by decide +kernel
theorem dX7_fareyNext_52 : decode cX7_fareyNext 52 = .ok (.aload 4, 2) := by decide +kernel
theorem dX7_fareyNext_54 : decode cX7_fareyNext 54 = .ok (.iconst 1, 1) := by decide +kernel
theorem dX7_fareyNext_55 : decode cX7_fareyNext 55 = .ok (.invokevirtual 110, 3) := by decide +kernel
theorem dX7_fareyNext_58 : decode cX7_fareyNext 58 = .ok (.aload 4, 2) := by decide +kernel
theorem dX7_fareyNext_60 : decode cX7_fareyNext 60 = .ok (.iconst 1, 1) := by decide +kernel
theorem dX7_fareyNext_61 : decode cX7_fareyNext 61 = .ok (.invokevirtual 114, 3) := by decide +kernel
theorem dX7_fareyNext_64 : decode cX7_fareyNext 64 = .ok (.invokevirtual 71, 3) := by decide +kernel
theorem dX7_fareyNext_67 : decode cX7_fareyNext 67 = .ok (.ireturn, 1) := by decide +kernel
theorem dX7_fareyNext_68 : decode cX7_fareyNext 68 = .ok (.aload 4, 2) := by decide +kernel
theorem dX7_fareyNext_70 : decode cX7_fareyNext 70 = .ok (.invokevirtual 107, 3) := by decide +kernel
theorem dX7_fareyNext_73 : decode cX7_fareyNext 73 = .ok (.iload_n 3, 1) := by decide +kernel
theorem dX7_fareyNext_74 : decode cX7_fareyNext 74 = .ok (.i2l, 1) := by decide +kernel
theorem dX7_fareyNext_75 : decode cX7_fareyNext 75 = .ok (.aload 4, 2) := by decide +kernel
theorem dX7_fareyNext_77 : decode cX7_fareyNext 77 = .ok (.iconst 1, 1) := by decide +kernel
theorem dX7_fareyNext_78 : decode cX7_fareyNext 78 = .ok (.invokevirtual 114, 3) := by decide +kernel
theorem dX7_fareyNext_81 : decode cX7_fareyNext 81 = .ok (.lsub, 1) := by decide +kernel
theorem dX7_fareyNext_82 : decode cX7_fareyNext 82 = .ok (.aload_n 0, 1) := by decide +kernel
theorem dX7_fareyNext_83 : decode cX7_fareyNext 83 = .ok (.getfield 13, 3) := by decide +kernel
theorem dX7_fareyNext_86 : decode cX7_fareyNext 86 = .ok (.iload_n 2, 1) := by decide +kernel
theorem dX7_fareyNext_87 : decode cX7_fareyNext 87 = .ok (.iaload, 1) := by decide +kernel
theorem dX7_fareyNext_88 : decode cX7_fareyNext 88 = .ok (.i2l, 1) := by decide +kernel
theorem dX7_fareyNext_89 : decode cX7_fareyNext 89 = .ok (.invokestatic 165, 3) := by decide +kernel
theorem dX7_fareyNext_92 : decode cX7_fareyNext 92 = .ok (.lstore 5, 2) := by decide +kernel
theorem dX7_fareyNext_94 : decode cX7_fareyNext 94 = .ok (.aload_n 0, 1) := by decide +kernel
theorem dX7_fareyNext_95 : decode cX7_fareyNext 95 = .ok (.iload_n 1, 1) := by decide +kernel
theorem dX7_fareyNext_96 : decode cX7_fareyNext 96 = .ok (.aload 4, 2) := by decide +kernel
theorem dX7_fareyNext_98 : decode cX7_fareyNext 98 = .ok (.iconst 1, 1) := by decide +kernel
theorem dX7_fareyNext_99 : decode cX7_fareyNext 99 = .ok (.invokevirtual 110, 3) := by decide +kernel
theorem dX7_fareyNext_102 : decode cX7_fareyNext 102 = .ok (.lload 5, 2) := by decide +kernel
theorem dX7_fareyNext_104 : decode cX7_fareyNext 104 = .ok (.aload_n 0, 1) := by decide +kernel
theorem dX7_fareyNext_105 : decode cX7_fareyNext 105 = .ok (.getfield 9, 3) := by decide +kernel
theorem dX7_fareyNext_108 : decode cX7_fareyNext 108 = .ok (.iload_n 2, 1) := by decide +kernel
theorem dX7_fareyNext_109 : decode cX7_fareyNext 109 = .ok (.iaload, 1) := by decide +kernel
theorem dX7_fareyNext_110 : decode cX7_fareyNext 110 = .ok (.i2l, 1) := by decide +kernel
theorem dX7_fareyNext_111 : decode cX7_fareyNext 111 = .ok (.lmul, 1) := by decide +kernel
theorem dX7_fareyNext_112 : decode cX7_fareyNext 112 = .ok (.ladd, 1) := by decide +kernel
theorem dX7_fareyNext_113 : decode cX7_fareyNext 113 = .ok (.aload 4, 2) := by decide +kernel
theorem dX7_fareyNext_115 : decode cX7_fareyNext 115 = .ok (.iconst 1, 1) := by decide +kernel
theorem dX7_fareyNext_116 : decode cX7_fareyNext 116 = .ok (.invokevirtual 114, 3) := by decide +kernel
theorem dX7_fareyNext_119 : decode cX7_fareyNext 119 = .ok (.lload 5, 2) := by decide +kernel
theorem dX7_fareyNext_121 : decode cX7_fareyNext 121 = .ok (.aload_n 0, 1) := by decide +kernel
theorem dX7_fareyNext_122 : decode cX7_fareyNext 122 = .ok (.getfield 13, 3) := by decide +kernel
theorem dX7_fareyNext_125 : decode cX7_fareyNext 125 = .ok (.iload_n 2, 1) := by decide +kernel
theorem dX7_fareyNext_126 : decode cX7_fareyNext 126 = .ok (.iaload, 1) := by decide +kernel
theorem dX7_fareyNext_127 : decode cX7_fareyNext 127 = .ok (.i2l, 1) := by decide +kernel
theorem dX7_fareyNext_128 : decode cX7_fareyNext 128 = .ok (.lmul, 1) := by decide +kernel
theorem dX7_fareyNext_129 : decode cX7_fareyNext 129 = .ok (.ladd, 1) := by decide +kernel
theorem dX7_fareyNext_130 : decode cX7_fareyNext 130 = .ok (.invokevirtual 71, 3) := by decide +kernel
theorem dX7_fareyNext_133 : decode cX7_fareyNext 133 = .ok (.ireturn, 1) := by decide +kernel
set_option maxRecDepth 20000 in
theorem ggX7_fareyCount_X7_isIn : GoodIn wsX7_fareyCount wsX7_isIn := goodIn_r _ [4] (by decide +kernel) (by decide +kernel)
set_option maxRecDepth 20000 in
theorem gX7_fareyCount_X7_isIn : GoodIn wsX7_fareyCount (va_wsS RX7 67 yX7_isIn wsX7_isIn) := goodIn_app (goodIn_of _ (by decide +kernel)) ggX7_fareyCount_X7_isIn
set_option maxRecDepth 20000 in
theorem ggX7_fareyCount_X7_totient : GoodIn wsX7_fareyCount wsX7_totient := goodIn_r _ [7, 8, 9, 3, 10] (by decide +kernel) (by decide +kernel)
set_option maxRecDepth 20000 in
theorem gX7_fareyCount_X7_totient : GoodIn wsX7_fareyCount (va_wsS RX7 169 yX7_totient wsX7_totient) := goodIn_app (goodIn_of _ (by decide +kernel)) ggX7_fareyCount_X7_totient
theorem dX7_fareyCount_0 : decode cX7_fareyCount 0 = .ok (.iload_n 1, 1) := by decide +kernel
theorem dX7_fareyCount_1 : decode cX7_fareyCount 1 = .ok (.iconst 1, 1) := by decide +kernel
theorem dX7_fareyCount_2 : decode cX7_fareyCount 2 = .ok (.sipush 1000, 3) := by decide +kernel
theorem dX7_fareyCount_5 : decode cX7_fareyCount 5 = .ok (.invokestatic 67, 3) := by decide +kernel
theorem dX7_fareyCount_8 : decode cX7_fareyCount 8 = .ok (.ifCond .ne 5, 3) := by decide +kernel
theorem dX7_fareyCount_11 : decode cX7_fareyCount 11 = .ok (.iconst (-1), 1) := by decide +kernel
theorem dX7_fareyCount_12 : decode cX7_fareyCount 12 = .ok (.ireturn, 1) := by decide +kernel
theorem dX7_fareyCount_13 : decode cX7_fareyCount 13 = .ok (.iconst 0, 1) := by decide +kernel
theorem dX7_fareyCount_14 : decode cX7_fareyCount 14 = .ok (.istore_n 2, 1) := by decide +kernel
theorem dX7_fareyCount_15 : decode cX7_fareyCount 15 = .ok (.iconst 1, 1) := by decide +kernel
theorem dX7_fareyCount_16 : decode cX7_fareyCount 16 = .ok (.istore_n 3, 1) := by decide +kernel
theorem dX7_fareyCount_17 : decode cX7_fareyCount 17 = .ok (.iload_n 3, 1) := by decide +kernel
theorem dX7_fareyCount_18 : decode cX7_fareyCount 18 = .ok (.iload_n 1, 1) := by decide +kernel
theorem dX7_fareyCount_19 : decode cX7_fareyCount 19 = .ok (.if_icmp .gt 16, 3) := by decide +kernel
theorem dX7_fareyCount_22 : decode cX7_fareyCount 22 = .ok (.iload_n 2, 1) := by decide +kernel
theorem dX7_fareyCount_23 : decode cX7_fareyCount 23 = .ok (.iload_n 3, 1) := by decide +kernel
theorem dX7_fareyCount_24 : decode cX7_fareyCount 24 = .ok (.invokestatic 169, 3) := by decide +kernel
theorem dX7_fareyCount_27 : decode cX7_fareyCount 27 = .ok (.iadd, 1) := by decide +kernel
theorem dX7_fareyCount_28 : decode cX7_fareyCount 28 = .ok (.istore_n 2, 1) := by decide +kernel
theorem dX7_fareyCount_29 : decode cX7_fareyCount 29 = .ok (.iinc 3 1, 3) := by decide +kernel
theorem dX7_fareyCount_32 : decode cX7_fareyCount 32 = .ok (.goto (-15), 3) := by decide +kernel
theorem dX7_fareyCount_35 : decode cX7_fareyCount 35 = .ok (.iload_n 2, 1) := by decide +kernel
theorem dX7_fareyCount_36 : decode cX7_fareyCount 36 = .ok (.ireturn, 1) := by decide +kernel
set_option maxRecDepth 20000 in
theorem ggX7_calkinWilfIndex_X7_isRegister : GoodIn wsX7_calkinWilfIndex wsX7_isRegister := goodIn_r _ [8] (by decide +kernel) (by decide +kernel)
set_option maxRecDepth 20000 in
theorem gX7_calkinWilfIndex_X7_isRegister : GoodIn wsX7_calkinWilfIndex (va_wsS RX7 62 yX7_isRegister wsX7_isRegister) := goodIn_app (goodIn_of _ (by decide +kernel)) ggX7_calkinWilfIndex_X7_isRegister
set_option maxRecDepth 20000 in
theorem ggX7_calkinWilfIndex_X7_expand : GoodIn wsX7_calkinWilfIndex wsX7_expand := goodIn_r _ [12, 13, 3, 4, 14, 15, 16, 17, 18, 19, 20, 21, 22, 23, 24, 37, 38, 39, 40, 41, 42, 43, 44, 45, 46, 47, 48, 49, 50, 51, 52, 53, 54, 55, 56, 57, 58] (by decide +kernel) (by decide +kernel)
set_option maxRecDepth 20000 in
theorem gX7_calkinWilfIndex_X7_expand : GoodIn wsX7_calkinWilfIndex (wsV RX7 81 RX7 yX7_expand wsX7_expand) := goodIn_app (goodIn_of _ (by decide +kernel)) ggX7_calkinWilfIndex_X7_expand
set_option maxRecDepth 20000 in
theorem ggX7_calkinWilfIndex_X1_stepCount : GoodIn wsX7_calkinWilfIndex wsX1_stepCount := goodIn_r _ [28, 19, 29, 30, 31, 17, 32, 33, 34, 35, 36, 24, 53, 54, 55, 56, 57, 58] (by decide +kernel) (by decide +kernel)
set_option maxRecDepth 20000 in
theorem gX7_calkinWilfIndex_X1_stepCount : GoodIn wsX7_calkinWilfIndex (wsV RX7 85 RX1 yX1_stepCount wsX1_stepCount) := goodIn_app (goodIn_of _ (by decide +kernel)) ggX7_calkinWilfIndex_X1_stepCount
theorem dX7_calkinWilfIndex_0 : decode cX7_calkinWilfIndex 0 = .ok (.iload_n 1, 1) := by decide +kernel
theorem dX7_calkinWilfIndex_1 : decode cX7_calkinWilfIndex 1 = .ok (.invokestatic 62, 3) := by decide +kernel
theorem dX7_calkinWilfIndex_4 : decode cX7_calkinWilfIndex 4 = .ok (.ifCond .ne 7, 3) := by decide +kernel
theorem dX7_calkinWilfIndex_7 : decode cX7_calkinWilfIndex 7 = .ok (.ldc2_w 79, 3) := by decide +kernel
theorem dX7_calkinWilfIndex_10 : decode cX7_calkinWilfIndex 10 = .ok (.lreturn, 1) := by decide +kernel
theorem dX7_calkinWilfIndex_11 : decode cX7_calkinWilfIndex 11 = .ok (.aload_n 0, 1) := by decide +kernel
theorem dX7_calkinWilfIndex_12 : decode cX7_calkinWilfIndex 12 = .ok (.iload_n 1, 1) := by decide +kernel
theorem dX7_calkinWilfIndex_13 : decode cX7_calkinWilfIndex 13 = .ok (.invokevirtual 81, 3) := by decide +kernel
theorem dX7_calkinWilfIndex_16 : decode cX7_calkinWilfIndex 16 = .ok (.invokevirtual 85, 3) := by decide +kernel
theorem dX7_calkinWilfIndex_19 : decode cX7_calkinWilfIndex 19 = .ok (.istore_n 2, 1) := by decide +kernel
theorem dX7_calkinWilfIndex_20 : decode cX7_calkinWilfIndex 20 = .ok (.iload_n 2, 1) := by decide +kernel
theorem dX7_calkinWilfIndex_21 : decode cX7_calkinWilfIndex 21 = .ok (.bipush 60, 2) := by decide +kernel
theorem dX7_calkinWilfIndex_23 : decode cX7_calkinWilfIndex 23 = .ok (.if_icmp .le 7, 3) := by decide +kernel
theorem dX7_calkinWilfIndex_26 : decode cX7_calkinWilfIndex 26 = .ok (.ldc2_w 172, 3) := by decide +kernel
theorem dX7_calkinWilfIndex_29 : decode cX7_calkinWilfIndex 29 = .ok (.lreturn, 1) := by decide +kernel
theorem dX7_calkinWilfIndex_30 : decode cX7_calkinWilfIndex 30 = .ok (.aload_n 0, 1) := by decide +kernel
theorem dX7_calkinWilfIndex_31 : decode cX7_calkinWilfIndex 31 = .ok (.getfield 9, 3) := by decide +kernel
theorem dX7_calkinWilfIndex_34 : decode cX7_calkinWilfIndex 34 = .ok (.iload_n 1, 1) := by decide +kernel
theorem dX7_calkinWilfIndex_35 : decode cX7_calkinWilfIndex 35 = .ok (.iaload, 1) := by decide +kernel
theorem dX7_calkinWilfIndex_36 : decode cX7_calkinWilfIndex 36 = .ok (.istore_n 3, 1) := by decide +kernel
theorem dX7_calkinWilfIndex_37 : decode cX7_calkinWilfIndex 37 = .ok (.aload_n 0, 1) := by decide +kernel
theorem dX7_calkinWilfIndex_38 : decode cX7_calkinWilfIndex 38 = .ok (.getfield 13, 3) := by decide +kernel
theorem dX7_calkinWilfIndex_41 : decode cX7_calkinWilfIndex 41 = .ok (.iload_n 1, 1) := by decide +kernel
theorem dX7_calkinWilfIndex_42 : decode cX7_calkinWilfIndex 42 = .ok (.iaload, 1) := by decide +kernel
theorem dX7_calkinWilfIndex_43 : decode cX7_calkinWilfIndex 43 = .ok (.istore 4, 2) := by decide +kernel
theorem dX7_calkinWilfIndex_45 : decode cX7_calkinWilfIndex 45 = .ok (.lconst 1, 1) := by decide +kernel
theorem dX7_calkinWilfIndex_46 : decode cX7_calkinWilfIndex 46 = .ok (.iload_n 2, 1) := by decide +kernel
theorem dX7_calkinWilfIndex_47 : decode cX7_calkinWilfIndex 47 = .ok (.lshl, 1) := by decide +kernel
theorem dX7_calkinWilfIndex_48 : decode cX7_calkinWilfIndex 48 = .ok (.lstore 5, 2) := by decide +kernel
theorem dX7_calkinWilfIndex_50 : decode cX7_calkinWilfIndex 50 = .ok (.iconst 0, 1) := by decide +kernel
theorem dX7_calkinWilfIndex_51 : decode cX7_calkinWilfIndex 51 = .ok (.istore 7, 2) := by decide +kernel
theorem dX7_calkinWilfIndex_53 : decode cX7_calkinWilfIndex 53 = .ok (.iload 7, 2) := by decide +kernel
theorem dX7_calkinWilfIndex_55 : decode cX7_calkinWilfIndex 55 = .ok (.iload_n 2, 1) := by decide +kernel
theorem dX7_calkinWilfIndex_56 : decode cX7_calkinWilfIndex 56 = .ok (.if_icmp .ge 38, 3) := by decide +kernel
theorem dX7_calkinWilfIndex_59 : decode cX7_calkinWilfIndex 59 = .ok (.iload_n 3, 1) := by decide +kernel
theorem dX7_calkinWilfIndex_60 : decode cX7_calkinWilfIndex 60 = .ok (.iload 4, 2) := by decide +kernel
theorem dX7_calkinWilfIndex_62 : decode cX7_calkinWilfIndex 62 = .ok (.if_icmp .le 20, 3) := by decide +kernel
theorem dX7_calkinWilfIndex_65 : decode cX7_calkinWilfIndex 65 = .ok (.lload 5, 2) := by decide +kernel
theorem dX7_calkinWilfIndex_67 : decode cX7_calkinWilfIndex 67 = .ok (.lconst 1, 1) := by decide +kernel
theorem dX7_calkinWilfIndex_68 : decode cX7_calkinWilfIndex 68 = .ok (.iload 7, 2) := by decide +kernel
theorem dX7_calkinWilfIndex_70 : decode cX7_calkinWilfIndex 70 = .ok (.lshl, 1) := by decide +kernel
theorem dX7_calkinWilfIndex_71 : decode cX7_calkinWilfIndex 71 = .ok (.lor, 1) := by decide +kernel
theorem dX7_calkinWilfIndex_72 : decode cX7_calkinWilfIndex 72 = .ok (.lstore 5, 2) := by decide +kernel
theorem dX7_calkinWilfIndex_74 : decode cX7_calkinWilfIndex 74 = .ok (.iload_n 3, 1) := by decide +kernel
theorem dX7_calkinWilfIndex_75 : decode cX7_calkinWilfIndex 75 = .ok (.iload 4, 2) := by decide +kernel
theorem dX7_calkinWilfIndex_77 : decode cX7_calkinWilfIndex 77 = .ok (.isub, 1) := by decide +kernel
theorem dX7_calkinWilfIndex_78 : decode cX7_calkinWilfIndex 78 = .ok (.istore_n 3, 1) := by decide +kernel
theorem dX7_calkinWilfIndex_79 : decode cX7_calkinWilfIndex 79 = .ok (.goto 9, 3) := by decide +kernel
theorem dX7_calkinWilfIndex_82 : decode cX7_calkinWilfIndex 82 = .ok (.iload 4, 2) := by decide +kernel
theorem dX7_calkinWilfIndex_84 : decode cX7_calkinWilfIndex 84 = .ok (.iload_n 3, 1) := by decide +kernel
theorem dX7_calkinWilfIndex_85 : decode cX7_calkinWilfIndex 85 = .ok (.isub, 1) := by decide +kernel
theorem dX7_calkinWilfIndex_86 : decode cX7_calkinWilfIndex 86 = .ok (.istore 4, 2) := by decide +kernel
theorem dX7_calkinWilfIndex_88 : decode cX7_calkinWilfIndex 88 = .ok (.iinc 7 1, 3) := by decide +kernel
theorem dX7_calkinWilfIndex_91 : decode cX7_calkinWilfIndex 91 = .ok (.goto (-38), 3) := by decide +kernel
theorem dX7_calkinWilfIndex_94 : decode cX7_calkinWilfIndex 94 = .ok (.lload 5, 2) := by decide +kernel
theorem dX7_calkinWilfIndex_96 : decode cX7_calkinWilfIndex 96 = .ok (.lreturn, 1) := by decide +kernel
set_option maxRecDepth 20000 in
theorem ggX7_fromCalkinWilf_X7_isRegister : GoodIn wsX7_fromCalkinWilf wsX7_isRegister := goodIn_r _ [4] (by decide +kernel) (by decide +kernel)
set_option maxRecDepth 20000 in
theorem gX7_fromCalkinWilf_X7_isRegister : GoodIn wsX7_fromCalkinWilf (va_wsS RX7 62 yX7_isRegister wsX7_isRegister) := goodIn_app (goodIn_of _ (by decide +kernel)) ggX7_fromCalkinWilf_X7_isRegister
set_option maxRecDepth 20000 in
theorem ggX7_fromCalkinWilf_X7_store : GoodIn wsX7_fromCalkinWilf wsX7_store := goodIn_r _ [8, 9, 10, 11, 12, 13, 3, 14, 15, 16, 17, 18, 19, 20, 21, 22, 23, 24, 25, 26, 27, 28, 29, 30, 31, 32, 33] (by decide +kernel) (by decide +kernel)
set_option maxRecDepth 20000 in
theorem gX7_fromCalkinWilf_X7_store : GoodIn wsX7_fromCalkinWilf (wsV RX7 71 RX7 yX7_store wsX7_store) := goodIn_app (goodIn_of _ (by decide +kernel)) ggX7_fromCalkinWilf_X7_store
theorem dX7_fromCalkinWilf_0 : decode cX7_fromCalkinWilf 0 = .ok (.iload_n 1, 1) := by decide +kernel
theorem dX7_fromCalkinWilf_1 : decode cX7_fromCalkinWilf 1 = .ok (.invokestatic 62, 3) := by decide +kernel
theorem dX7_fromCalkinWilf_4 : decode cX7_fromCalkinWilf 4 = .ok (.ifCond .eq 9, 3) := by decide +kernel
theorem dX7_fromCalkinWilf_7 : decode cX7_fromCalkinWilf 7 = .ok (.lload_n 2, 1) := by decide +kernel
theorem dX7_fromCalkinWilf_8 : decode cX7_fromCalkinWilf 8 = .ok (.lconst 1, 1) := by decide +kernel
theorem dX7_fromCalkinWilf_9 : decode cX7_fromCalkinWilf 9 = .ok (.lcmp, 1) := by decide +kernel
theorem dX7_fromCalkinWilf_10 : decode cX7_fromCalkinWilf 10 = .ok (.ifCond .ge 5, 3) := by decide +kernel
theorem dX7_fromCalkinWilf_13 : decode cX7_fromCalkinWilf 13 = .ok (.iconst (-1), 1) := by decide +kernel
theorem dX7_fromCalkinWilf_14 : decode cX7_fromCalkinWilf 14 = .ok (.ireturn, 1) := by decide +kernel
theorem dX7_fromCalkinWilf_15 : decode cX7_fromCalkinWilf 15 = .ok (.lconst 1, 1) := by decide +kernel
theorem dX7_fromCalkinWilf_16 : decode cX7_fromCalkinWilf 16 = .ok (.lstore 4, 2) := by decide +kernel
theorem dX7_fromCalkinWilf_18 : decode cX7_fromCalkinWilf 18 = .ok (.lconst 1, 1) := by decide +kernel
theorem dX7_fromCalkinWilf_19 : decode cX7_fromCalkinWilf 19 = .ok (.lstore 6, 2) := by decide +kernel
theorem dX7_fromCalkinWilf_21 : decode cX7_fromCalkinWilf 21 = .ok (.iconst 0, 1) := by decide +kernel
theorem dX7_fromCalkinWilf_22 : decode cX7_fromCalkinWilf 22 = .ok (.istore 8, 2) := by decide +kernel
theorem dX7_fromCalkinWilf_24 : decode cX7_fromCalkinWilf 24 = .ok (.bipush 62, 2) := by decide +kernel
theorem dX7_fromCalkinWilf_26 : decode cX7_fromCalkinWilf 26 = .ok (.istore 9, 2) := by decide +kernel
theorem dX7_fromCalkinWilf_28 : decode cX7_fromCalkinWilf 28 = .ok (.iload 9, 2) := by decide +kernel
theorem dX7_fromCalkinWilf_30 : decode cX7_fromCalkinWilf 30 = .ok (.ifCond .lt 76, 3) := by decide +kernel
theorem dX7_fromCalkinWilf_33 : decode cX7_fromCalkinWilf 33 = .ok (.lload_n 2, 1) := by decide +kernel
theorem dX7_fromCalkinWilf_34 : decode cX7_fromCalkinWilf 34 = .ok (.iload 9, 2) := by decide +kernel
theorem dX7_fromCalkinWilf_36 : decode cX7_fromCalkinWilf 36 = .ok (.lshr, 1) := by decide +kernel
theorem dX7_fromCalkinWilf_37 : decode cX7_fromCalkinWilf 37 = .ok (.lconst 1, 1) := by decide +kernel
theorem dX7_fromCalkinWilf_38 : decode cX7_fromCalkinWilf 38 = .ok (.land, 1) := by decide +kernel
theorem dX7_fromCalkinWilf_39 : decode cX7_fromCalkinWilf 39 = .ok (.lconst 1, 1) := by decide +kernel
theorem dX7_fromCalkinWilf_40 : decode cX7_fromCalkinWilf 40 = .ok (.lcmp, 1) := by decide +kernel
theorem dX7_fromCalkinWilf_41 : decode cX7_fromCalkinWilf 41 = .ok (.ifCond .ne 7, 3) := by decide +kernel
theorem dX7_fromCalkinWilf_44 : decode cX7_fromCalkinWilf 44 = .ok (.iconst 1, 1) := by decide +kernel
theorem dX7_fromCalkinWilf_45 : decode cX7_fromCalkinWilf 45 = .ok (.goto 4, 3) := by decide +kernel
theorem dX7_fromCalkinWilf_48 : decode cX7_fromCalkinWilf 48 = .ok (.iconst 0, 1) := by decide +kernel
theorem dX7_fromCalkinWilf_49 : decode cX7_fromCalkinWilf 49 = .ok (.istore 10, 2) := by decide +kernel
theorem dX7_fromCalkinWilf_51 : decode cX7_fromCalkinWilf 51 = .ok (.iload 8, 2) := by decide +kernel
theorem dX7_fromCalkinWilf_53 : decode cX7_fromCalkinWilf 53 = .ok (.ifCond .eq 18, 3) := by decide +kernel
theorem dX7_fromCalkinWilf_56 : decode cX7_fromCalkinWilf 56 = .ok (.iload 10, 2) := by decide +kernel
theorem dX7_fromCalkinWilf_58 : decode cX7_fromCalkinWilf 58 = .ok (.ifCond .eq 13, 3) := by decide +kernel
theorem dX7_fromCalkinWilf_61 : decode cX7_fromCalkinWilf 61 = .ok (.lload 4, 2) := by decide +kernel
theorem dX7_fromCalkinWilf_63 : decode cX7_fromCalkinWilf 63 = .ok (.lload 6, 2) := by decide +kernel
theorem dX7_fromCalkinWilf_65 : decode cX7_fromCalkinWilf 65 = .ok (.ladd, 1) := by decide +kernel
theorem dX7_fromCalkinWilf_66 : decode cX7_fromCalkinWilf 66 = .ok (.lstore 4, 2) := by decide +kernel
theorem dX7_fromCalkinWilf_68 : decode cX7_fromCalkinWilf 68 = .ok (.goto 15, 3) := by decide +kernel
theorem dX7_fromCalkinWilf_71 : decode cX7_fromCalkinWilf 71 = .ok (.iload 8, 2) := by decide +kernel
theorem dX7_fromCalkinWilf_73 : decode cX7_fromCalkinWilf 73 = .ok (.ifCond .eq 10, 3) := by decide +kernel
theorem dX7_fromCalkinWilf_76 : decode cX7_fromCalkinWilf 76 = .ok (.lload 6, 2) := by decide +kernel
theorem dX7_fromCalkinWilf_78 : decode cX7_fromCalkinWilf 78 = .ok (.lload 4, 2) := by decide +kernel
theorem dX7_fromCalkinWilf_80 : decode cX7_fromCalkinWilf 80 = .ok (.ladd, 1) := by decide +kernel
theorem dX7_fromCalkinWilf_81 : decode cX7_fromCalkinWilf 81 = .ok (.lstore 6, 2) := by decide +kernel
theorem dX7_fromCalkinWilf_83 : decode cX7_fromCalkinWilf 83 = .ok (.iload 8, 2) := by decide +kernel
theorem dX7_fromCalkinWilf_85 : decode cX7_fromCalkinWilf 85 = .ok (.ifCond .ne 8, 3) := by decide +kernel
theorem dX7_fromCalkinWilf_88 : decode cX7_fromCalkinWilf 88 = .ok (.iload 10, 2) := by decide +kernel
theorem dX7_fromCalkinWilf_90 : decode cX7_fromCalkinWilf 90 = .ok (.ifCond .eq 7, 3) := by decide +kernel
theorem dX7_fromCalkinWilf_93 : decode cX7_fromCalkinWilf 93 = .ok (.iconst 1, 1) := by decide +kernel
theorem dX7_fromCalkinWilf_94 : decode cX7_fromCalkinWilf 94 = .ok (.goto 4, 3) := by decide +kernel
theorem dX7_fromCalkinWilf_97 : decode cX7_fromCalkinWilf 97 = .ok (.iconst 0, 1) := by decide +kernel
theorem dX7_fromCalkinWilf_98 : decode cX7_fromCalkinWilf 98 = .ok (.istore 8, 2) := by decide +kernel
theorem dX7_fromCalkinWilf_100 : decode cX7_fromCalkinWilf 100 = .ok (.iinc 9 (-1), 3) := by decide +kernel
theorem dX7_fromCalkinWilf_103 : decode cX7_fromCalkinWilf 103 = .ok (.goto (-75), 3) := by decide +kernel
theorem dX7_fromCalkinWilf_106 : decode cX7_fromCalkinWilf 106 = .ok (.aload_n 0, 1) := by decide +kernel
theorem dX7_fromCalkinWilf_107 : decode cX7_fromCalkinWilf 107 = .ok (.iload_n 1, 1) := by decide +kernel
theorem dX7_fromCalkinWilf_108 : decode cX7_fromCalkinWilf 108 = .ok (.lload 4, 2) := by decide +kernel
theorem dX7_fromCalkinWilf_110 : decode cX7_fromCalkinWilf 110 = .ok (.lload 6, 2) := by decide +kernel
theorem dX7_fromCalkinWilf_112 : decode cX7_fromCalkinWilf 112 = .ok (.invokevirtual 71, 3) := by decide +kernel
theorem dX7_fromCalkinWilf_115 : decode cX7_fromCalkinWilf 115 = .ok (.ireturn, 1) := by decide +kernel
set_option maxRecDepth 20000 in
theorem ggX7_calkinWilfNext_X7_isRegister : GoodIn wsX7_calkinWilfNext wsX7_isRegister := goodIn_r _ [7] (by decide +kernel) (by decide +kernel)
set_option maxRecDepth 20000 in
theorem gX7_calkinWilfNext_X7_isRegister : GoodIn wsX7_calkinWilfNext (va_wsS RX7 62 yX7_isRegister wsX7_isRegister) := goodIn_app (goodIn_of _ (by decide +kernel)) ggX7_calkinWilfNext_X7_isRegister
set_option maxRecDepth 20000 in
theorem ggX7_calkinWilfNext_X7_quotient : GoodIn wsX7_calkinWilfNext wsX7_quotient := goodIn_r _ [10] (by decide +kernel) (by decide +kernel)
set_option maxRecDepth 20000 in
theorem gX7_calkinWilfNext_X7_quotient : GoodIn wsX7_calkinWilfNext (va_wsS RX7 165 yX7_quotient wsX7_quotient) := goodIn_app (goodIn_of _ (by decide +kernel)) ggX7_calkinWilfNext_X7_quotient
set_option maxRecDepth 20000 in
theorem ggX7_calkinWilfNext_X7_store : GoodIn wsX7_calkinWilfNext wsX7_store := goodIn_r _ [14, 15, 1, 2, 16, 17, 6, 18, 8, 9, 10, 19, 20, 21, 22, 23, 24, 25, 26, 27, 28, 29, 30, 31, 32, 33, 34] (by decide +kernel) (by decide +kernel)
set_option maxRecDepth 20000 in
theorem gX7_calkinWilfNext_X7_store : GoodIn wsX7_calkinWilfNext (wsV RX7 71 RX7 yX7_store wsX7_store) := goodIn_app (goodIn_of _ (by decide +kernel)) ggX7_calkinWilfNext_X7_store
theorem dX7_calkinWilfNext_0 : decode cX7_calkinWilfNext 0 = .ok (.iload_n 1, 1) := by decide +kernel
theorem dX7_calkinWilfNext_1 : decode cX7_calkinWilfNext 1 = .ok (.invokestatic 62, 3) := by decide +kernel
theorem dX7_calkinWilfNext_4 : decode cX7_calkinWilfNext 4 = .ok (.ifCond .eq 10, 3) := by decide +kernel
theorem dX7_calkinWilfNext_7 : decode cX7_calkinWilfNext 7 = .ok (.iload_n 2, 1) := by decide +kernel
theorem dX7_calkinWilfNext_8 : decode cX7_calkinWilfNext 8 = .ok (.invokestatic 62, 3) := by decide +kernel
theorem dX7_calkinWilfNext_11 : decode cX7_calkinWilfNext 11 = .ok (.ifCond .ne 5, 3) := by decide +kernel
theorem dX7_calkinWilfNext_14 : decode cX7_calkinWilfNext 14 = .ok (.iconst (-1), 1) := by decide +kernel
theorem dX7_calkinWilfNext_15 : decode cX7_calkinWilfNext 15 = .ok (.ireturn, 1) := by decide +kernel
theorem dX7_calkinWilfNext_16 : decode cX7_calkinWilfNext 16 = .ok (.aload_n 0, 1) := by decide +kernel
theorem dX7_calkinWilfNext_17 : decode cX7_calkinWilfNext 17 = .ok (.getfield 9, 3) := by decide +kernel
theorem dX7_calkinWilfNext_20 : decode cX7_calkinWilfNext 20 = .ok (.iload_n 2, 1) := by decide +kernel
theorem dX7_calkinWilfNext_21 : decode cX7_calkinWilfNext 21 = .ok (.iaload, 1) := by decide +kernel
theorem dX7_calkinWilfNext_22 : decode cX7_calkinWilfNext 22 = .ok (.i2l, 1) := by decide +kernel
theorem dX7_calkinWilfNext_23 : decode cX7_calkinWilfNext 23 = .ok (.lstore_n 3, 1) := by decide +kernel
theorem dX7_calkinWilfNext_24 : decode cX7_calkinWilfNext 24 = .ok (.aload_n 0, 1) := by decide +kernel
theorem dX7_calkinWilfNext_25 : decode cX7_calkinWilfNext 25 = .ok (.getfield 13, 3) := by decide +kernel
theorem dX7_calkinWilfNext_28 : decode cX7_calkinWilfNext 28 = .ok (.iload_n 2, 1) := by decide +kernel
theorem dX7_calkinWilfNext_29 : decode cX7_calkinWilfNext 29 = .ok (.iaload, 1) := by decide +kernel
theorem dX7_calkinWilfNext_30 : decode cX7_calkinWilfNext 30 = .ok (.i2l, 1) := by decide +kernel
theorem dX7_calkinWilfNext_31 : decode cX7_calkinWilfNext 31 = .ok (.lstore 5, 2) := by decide +kernel
theorem dX7_calkinWilfNext_33 : decode cX7_calkinWilfNext 33 = .ok (.lload_n 3, 1) := by decide +kernel
theorem dX7_calkinWilfNext_34 : decode cX7_calkinWilfNext 34 = .ok (.lload 5, 2) := by decide +kernel
theorem dX7_calkinWilfNext_36 : decode cX7_calkinWilfNext 36 = .ok (.invokestatic 165, 3) := by decide +kernel
theorem dX7_calkinWilfNext_39 : decode cX7_calkinWilfNext 39 = .ok (.lstore 7, 2) := by decide +kernel
theorem dX7_calkinWilfNext_41 : decode cX7_calkinWilfNext 41 = .ok (.aload_n 0, 1) := by decide +kernel
theorem dX7_calkinWilfNext_42 : decode cX7_calkinWilfNext 42 = .ok (.iload_n 1, 1) := by decide +kernel
theorem dX7_calkinWilfNext_43 : decode cX7_calkinWilfNext 43 = .ok (.lload 5, 2) := by decide +kernel
theorem dX7_calkinWilfNext_45 : decode cX7_calkinWilfNext 45 = .ok (.ldc2_w 174, 3) := by decide +kernel
theorem dX7_calkinWilfNext_48 : decode cX7_calkinWilfNext 48 = .ok (.lload 7, 2) := by decide +kernel
theorem dX7_calkinWilfNext_50 : decode cX7_calkinWilfNext 50 = .ok (.lmul, 1) := by decide +kernel
theorem dX7_calkinWilfNext_51 : decode cX7_calkinWilfNext 51 = .ok (.lload 5, 2) := by decide +kernel
theorem dX7_calkinWilfNext_53 : decode cX7_calkinWilfNext 53 = .ok (.lmul, 1) := by decide +kernel
theorem dX7_calkinWilfNext_54 : decode cX7_calkinWilfNext 54 = .ok (.lload_n 3, 1) := by decide +kernel
theorem dX7_calkinWilfNext_55 : decode cX7_calkinWilfNext 55 = .ok (.lsub, 1) := by decide +kernel
theorem dX7_calkinWilfNext_56 : decode cX7_calkinWilfNext 56 = .ok (.lload 5, 2) := by decide +kernel
theorem dX7_calkinWilfNext_58 : decode cX7_calkinWilfNext 58 = .ok (.ladd, 1) := by decide +kernel
theorem dX7_calkinWilfNext_59 : decode cX7_calkinWilfNext 59 = .ok (.invokevirtual 71, 3) := by decide +kernel
theorem dX7_calkinWilfNext_62 : decode cX7_calkinWilfNext 62 = .ok (.ireturn, 1) := by decide +kernel
set_option maxRecDepth 20000 in
theorem ggX7_wordLetter_X7_isRegister : GoodIn wsX7_wordLetter wsX7_isRegister := goodIn_r _ [6] (by decide +kernel) (by decide +kernel)
set_option maxRecDepth 20000 in
theorem gX7_wordLetter_X7_isRegister : GoodIn wsX7_wordLetter (va_wsS RX7 62 yX7_isRegister wsX7_isRegister) := goodIn_app (goodIn_of _ (by decide +kernel)) ggX7_wordLetter_X7_isRegister
set_option maxRecDepth 20000 in
theorem ggX7_wordLetter_X7_wordSize : GoodIn wsX7_wordLetter wsX7_wordSize := goodIn_r _ [10, 1, 2, 17, 18, 19, 20, 21, 22, 23, 24, 25, 26, 27, 28, 29, 30, 31, 32] (by decide +kernel) (by decide +kernel)
set_option maxRecDepth 20000 in
theorem gX7_wordLetter_X7_wordSize : GoodIn wsX7_wordLetter (wsV RX7 176 RX7 yX7_wordSize wsX7_wordSize) := goodIn_app (goodIn_of _ (by decide +kernel)) ggX7_wordLetter_X7_wordSize
set_option maxRecDepth 20000 in
theorem ggX7_wordLetter_X7_letterOf : GoodIn wsX7_wordLetter wsX7_letterOf := goodIn_r _ [13, 14, 15, 5, 16] (by decide +kernel) (by decide +kernel)
set_option maxRecDepth 20000 in
theorem gX7_wordLetter_X7_letterOf : GoodIn wsX7_wordLetter (va_wsS RX7 179 yX7_letterOf wsX7_letterOf) := goodIn_app (goodIn_of _ (by decide +kernel)) ggX7_wordLetter_X7_letterOf
theorem dX7_wordLetter_0 : decode cX7_wordLetter 0 = .ok (.iload_n 1, 1) := by decide +kernel
theorem dX7_wordLetter_1 : decode cX7_wordLetter 1 = .ok (.invokestatic 62, 3) := by decide +kernel
theorem dX7_wordLetter_4 : decode cX7_wordLetter 4 = .ok (.ifCond .eq 7, 3) := by decide +kernel
theorem dX7_wordLetter_7 : decode cX7_wordLetter 7 = .ok (.iload_n 2, 1) := by decide +kernel
theorem dX7_wordLetter_8 : decode cX7_wordLetter 8 = .ok (.ifCond .ge 5, 3) := by decide +kernel
theorem dX7_wordLetter_11 : decode cX7_wordLetter 11 = .ok (.iconst (-1), 1) := by decide +kernel
theorem dX7_wordLetter_12 : decode cX7_wordLetter 12 = .ok (.ireturn, 1) := by decide +kernel
theorem dX7_wordLetter_13 : decode cX7_wordLetter 13 = .ok (.iload_n 2, 1) := by decide +kernel
theorem dX7_wordLetter_14 : decode cX7_wordLetter 14 = .ok (.aload_n 0, 1) := by decide +kernel
theorem dX7_wordLetter_15 : decode cX7_wordLetter 15 = .ok (.iload_n 1, 1) := by decide +kernel
theorem dX7_wordLetter_16 : decode cX7_wordLetter 16 = .ok (.invokevirtual 176, 3) := by decide +kernel
theorem dX7_wordLetter_19 : decode cX7_wordLetter 19 = .ok (.if_icmp .ge 25, 3) := by decide +kernel
theorem dX7_wordLetter_22 : decode cX7_wordLetter 22 = .ok (.aload_n 0, 1) := by decide +kernel
theorem dX7_wordLetter_23 : decode cX7_wordLetter 23 = .ok (.getfield 9, 3) := by decide +kernel
theorem dX7_wordLetter_26 : decode cX7_wordLetter 26 = .ok (.iload_n 1, 1) := by decide +kernel
theorem dX7_wordLetter_27 : decode cX7_wordLetter 27 = .ok (.iaload, 1) := by decide +kernel
theorem dX7_wordLetter_28 : decode cX7_wordLetter 28 = .ok (.i2l, 1) := by decide +kernel
theorem dX7_wordLetter_29 : decode cX7_wordLetter 29 = .ok (.aload_n 0, 1) := by decide +kernel
theorem dX7_wordLetter_30 : decode cX7_wordLetter 30 = .ok (.getfield 13, 3) := by decide +kernel
theorem dX7_wordLetter_33 : decode cX7_wordLetter 33 = .ok (.iload_n 1, 1) := by decide +kernel
theorem dX7_wordLetter_34 : decode cX7_wordLetter 34 = .ok (.iaload, 1) := by decide +kernel
theorem dX7_wordLetter_35 : decode cX7_wordLetter 35 = .ok (.i2l, 1) := by decide +kernel
theorem dX7_wordLetter_36 : decode cX7_wordLetter 36 = .ok (.iload_n 2, 1) := by decide +kernel
theorem dX7_wordLetter_37 : decode cX7_wordLetter 37 = .ok (.i2l, 1) := by decide +kernel
theorem dX7_wordLetter_38 : decode cX7_wordLetter 38 = .ok (.invokestatic 179, 3) := by decide +kernel
theorem dX7_wordLetter_41 : decode cX7_wordLetter 41 = .ok (.goto 5, 3) := by decide +kernel
theorem dX7_wordLetter_44 : decode cX7_wordLetter 44 = .ok (.bipush (-2), 2) := by decide +kernel
theorem dX7_wordLetter_46 : decode cX7_wordLetter 46 = .ok (.ireturn, 1) := by decide +kernel
set_option maxRecDepth 20000 in
theorem ggX7_factorLength_X7_isRegister : GoodIn wsX7_factorLength wsX7_isRegister := goodIn_r _ [4] (by decide +kernel) (by decide +kernel)
set_option maxRecDepth 20000 in
theorem gX7_factorLength_X7_isRegister : GoodIn wsX7_factorLength (va_wsS RX7 62 yX7_isRegister wsX7_isRegister) := goodIn_app (goodIn_of _ (by decide +kernel)) ggX7_factorLength_X7_isRegister
set_option maxRecDepth 20000 in
theorem ggX7_factorLength_X7_expand : GoodIn wsX7_factorLength wsX7_expand := goodIn_r _ [8, 9, 10, 11, 12, 13, 14, 15, 16, 17, 18, 19, 20, 21, 22, 59, 60, 61, 62, 63, 64, 65, 66, 67, 68, 69, 70, 71, 72, 73, 74, 75, 76, 77, 78, 79, 80] (by decide +kernel) (by decide +kernel)
set_option maxRecDepth 20000 in
theorem gX7_factorLength_X7_expand : GoodIn wsX7_factorLength (wsV RX7 81 RX7 yX7_expand wsX7_expand) := goodIn_app (goodIn_of _ (by decide +kernel)) ggX7_factorLength_X7_expand
set_option maxRecDepth 20000 in
theorem ggX7_factorLength_X1_findBounds : GoodIn wsX7_factorLength wsX1_findBounds := goodIn_r _ [26, 17, 27, 28, 29, 15, 30, 22, 31, 32, 33, 34, 35, 36, 37, 38, 39, 40, 41, 42, 43, 44, 45, 46, 47, 48, 49, 50, 75, 76, 77, 78, 79, 80] (by decide +kernel) (by decide +kernel)
set_option maxRecDepth 20000 in
theorem gX7_factorLength_X1_findBounds : GoodIn wsX7_factorLength (wsV RX7 107 RX1 yX1_findBounds wsX1_findBounds) := goodIn_app (goodIn_of _ (by decide +kernel)) ggX7_factorLength_X1_findBounds
set_option maxRecDepth 20000 in
theorem ggX7_factorLength_X1_boundTop : GoodIn wsX7_factorLength wsX1_boundTop := goodIn_r _ [54, 35, 37, 75, 76, 77, 78, 79, 80] (by decide +kernel) (by decide +kernel)
set_option maxRecDepth 20000 in
theorem gX7_factorLength_X1_boundTop : GoodIn wsX7_factorLength (wsV RX7 110 RX1 yX1_boundTop wsX1_boundTop) := goodIn_app (goodIn_of _ (by decide +kernel)) ggX7_factorLength_X1_boundTop
set_option maxRecDepth 20000 in
theorem ggX7_factorLength_X1_boundBottom : GoodIn wsX7_factorLength wsX1_boundBottom := goodIn_r _ [58, 36, 38, 75, 76, 77, 78, 79, 80] (by decide +kernel) (by decide +kernel)
set_option maxRecDepth 20000 in
theorem gX7_factorLength_X1_boundBottom : GoodIn wsX7_factorLength (wsV RX7 114 RX1 yX1_boundBottom wsX1_boundBottom) := goodIn_app (goodIn_of _ (by decide +kernel)) ggX7_factorLength_X1_boundBottom
theorem dX7_factorLength_0 : decode cX7_factorLength 0 = .ok (.iload_n 1, 1) := by decide +kernel
theorem dX7_factorLength_1 : decode cX7_factorLength 1 = .ok (.invokestatic 62, 3) := by decide +kernel
theorem dX7_factorLength_4 : decode cX7_factorLength 4 = .ok (.ifCond .ne 5, 3) := by decide +kernel
theorem dX7_factorLength_7 : decode cX7_factorLength 7 = .ok (.iconst (-1), 1) := by decide +kernel
theorem dX7_factorLength_8 : decode cX7_factorLength 8 = .ok (.ireturn, 1) := by decide +kernel
theorem dX7_factorLength_9 : decode cX7_factorLength 9 = .ok (.aload_n 0, 1) := by decide +kernel
theorem dX7_factorLength_10 : decode cX7_factorLength 10 = .ok (.iload_n 1, 1) := by decide +kernel
theorem dX7_factorLength_11 : decode cX7_factorLength 11 = .ok (.invokevirtual 81, 3) := by decide +kernel
theorem dX7_factorLength_14 : decode cX7_factorLength 14 = .ok (.astore_n 2, 1) := by decide +kernel
theorem dX7_factorLength_15 : decode cX7_factorLength 15 = .ok (.aload_n 2, 1) := by decide +kernel
theorem dX7_factorLength_16 : decode cX7_factorLength 16 = .ok (.invokevirtual 107, 3) := by decide +kernel
theorem dX7_factorLength_19 : decode cX7_factorLength 19 = .ok (.aload_n 2, 1) := by decide +kernel
theorem dX7_factorLength_20 : decode cX7_factorLength 20 = .ok (.iconst 0, 1) := by decide +kernel
theorem dX7_factorLength_21 : decode cX7_factorLength 21 = .ok (.invokevirtual 110, 3) := by decide +kernel
theorem dX7_factorLength_24 : decode cX7_factorLength 24 = .ok (.aload_n 2, 1) := by decide +kernel
theorem dX7_factorLength_25 : decode cX7_factorLength 25 = .ok (.iconst 0, 1) := by decide +kernel
theorem dX7_factorLength_26 : decode cX7_factorLength 26 = .ok (.invokevirtual 114, 3) := by decide +kernel
theorem dX7_factorLength_29 : decode cX7_factorLength 29 = .ok (.ladd, 1) := by decide +kernel
theorem dX7_factorLength_30 : decode cX7_factorLength 30 = .ok (.l2i, 1) := by decide +kernel
theorem dX7_factorLength_31 : decode cX7_factorLength 31 = .ok (.ireturn, 1) := by decide +kernel
set_option maxRecDepth 20000 in
theorem ggX7_recognizeWord_X7_isRegister : GoodIn wsX7_recognizeWord wsX7_isRegister := goodIn_r _ [5] (by decide +kernel) (by decide +kernel)
set_option maxRecDepth 20000 in
theorem gX7_recognizeWord_X7_isRegister : GoodIn wsX7_recognizeWord (va_wsS RX7 62 yX7_isRegister wsX7_isRegister) := goodIn_app (goodIn_of _ (by decide +kernel)) ggX7_recognizeWord_X7_isRegister
set_option maxRecDepth 20000 in
theorem ggX7_recognizeWord_X7_isArray : GoodIn wsX7_recognizeWord wsX7_isArray := goodIn_r _ [8] (by decide +kernel) (by decide +kernel)
set_option maxRecDepth 20000 in
theorem gX7_recognizeWord_X7_isArray : GoodIn wsX7_recognizeWord (va_wsS RX7 183 yX7_isArray wsX7_isArray) := goodIn_app (goodIn_of _ (by decide +kernel)) ggX7_recognizeWord_X7_isArray
set_option maxRecDepth 20000 in
theorem ggX7_recognizeWord_X7_onesOfWord : GoodIn wsX7_recognizeWord wsX7_onesOfWord := goodIn_r _ [12, 1, 13, 45, 46, 47, 48, 49, 50, 51, 52, 53, 54, 55, 56, 57, 58, 59, 60] (by decide +kernel) (by decide +kernel)
set_option maxRecDepth 20000 in
theorem gX7_recognizeWord_X7_onesOfWord : GoodIn wsX7_recognizeWord (wsV RX7 186 RX7 yX7_onesOfWord wsX7_onesOfWord) := goodIn_app (goodIn_of _ (by decide +kernel)) ggX7_recognizeWord_X7_onesOfWord
set_option maxRecDepth 20000 in
theorem ggX7_recognizeWord_X7_gcd : GoodIn wsX7_recognizeWord wsX7_gcd := goodIn_r _ [16] (by decide +kernel) (by decide +kernel)
set_option maxRecDepth 20000 in
theorem gX7_recognizeWord_X7_gcd : GoodIn wsX7_recognizeWord (va_wsS RX7 189 yX7_gcd wsX7_gcd) := goodIn_app (goodIn_of _ (by decide +kernel)) ggX7_recognizeWord_X7_gcd
set_option maxRecDepth 20000 in
theorem ggX7_recognizeWord_X7_classOfWord : GoodIn wsX7_recognizeWord wsX7_classOfWord := goodIn_r _ [20, 1, 21, 22, 23, 4, 24, 13, 25, 26, 27, 28, 29, 30, 31, 32, 33, 34, 45, 46, 47, 48, 49, 50, 51, 52, 53, 54, 55, 56, 57, 58, 59, 60] (by decide +kernel) (by decide +kernel)
set_option maxRecDepth 20000 in
theorem gX7_recognizeWord_X7_classOfWord : GoodIn wsX7_recognizeWord (wsV RX7 192 RX7 yX7_classOfWord wsX7_classOfWord) := goodIn_app (goodIn_of _ (by decide +kernel)) ggX7_recognizeWord_X7_classOfWord
set_option maxRecDepth 20000 in
theorem ggX7_recognizeWord_X7_store : GoodIn wsX7_recognizeWord wsX7_store := goodIn_r _ [38, 39, 40, 41, 14, 15, 4, 16, 42, 43, 44, 45, 46, 47, 48, 49, 50, 51, 52, 53, 54, 55, 56, 57, 58, 59, 60] (by decide +kernel) (by decide +kernel)
set_option maxRecDepth 20000 in
theorem gX7_recognizeWord_X7_store : GoodIn wsX7_recognizeWord (wsV RX7 71 RX7 yX7_store wsX7_store) := goodIn_app (goodIn_of _ (by decide +kernel)) ggX7_recognizeWord_X7_store
theorem dX7_recognizeWord_0 : decode cX7_recognizeWord 0 = .ok (.iload_n 1, 1) := by decide +kernel
theorem dX7_recognizeWord_1 : decode cX7_recognizeWord 1 = .ok (.invokestatic 62, 3) := by decide +kernel
theorem dX7_recognizeWord_4 : decode cX7_recognizeWord 4 = .ok (.ifCond .eq 10, 3) := by decide +kernel
theorem dX7_recognizeWord_7 : decode cX7_recognizeWord 7 = .ok (.iload_n 2, 1) := by decide +kernel
theorem dX7_recognizeWord_8 : decode cX7_recognizeWord 8 = .ok (.invokestatic 183, 3) := by decide +kernel
theorem dX7_recognizeWord_11 : decode cX7_recognizeWord 11 = .ok (.ifCond .ne 5, 3) := by decide +kernel
theorem dX7_recognizeWord_14 : decode cX7_recognizeWord 14 = .ok (.iconst (-1), 1) := by decide +kernel
theorem dX7_recognizeWord_15 : decode cX7_recognizeWord 15 = .ok (.ireturn, 1) := by decide +kernel
theorem dX7_recognizeWord_16 : decode cX7_recognizeWord 16 = .ok (.aload_n 0, 1) := by decide +kernel
theorem dX7_recognizeWord_17 : decode cX7_recognizeWord 17 = .ok (.getfield 42, 3) := by decide +kernel
theorem dX7_recognizeWord_20 : decode cX7_recognizeWord 20 = .ok (.iload_n 2, 1) := by decide +kernel
theorem dX7_recognizeWord_21 : decode cX7_recognizeWord 21 = .ok (.iaload, 1) := by decide +kernel
theorem dX7_recognizeWord_22 : decode cX7_recognizeWord 22 = .ok (.iconst (-1), 1) := by decide +kernel
theorem dX7_recognizeWord_23 : decode cX7_recognizeWord 23 = .ok (.if_icmp .ne 6, 3) := by decide +kernel
theorem dX7_recognizeWord_26 : decode cX7_recognizeWord 26 = .ok (.bipush (-11), 2) := by decide +kernel
theorem dX7_recognizeWord_28 : decode cX7_recognizeWord 28 = .ok (.ireturn, 1) := by decide +kernel
theorem dX7_recognizeWord_29 : decode cX7_recognizeWord 29 = .ok (.aload_n 0, 1) := by decide +kernel
theorem dX7_recognizeWord_30 : decode cX7_recognizeWord 30 = .ok (.iload_n 2, 1) := by decide +kernel
theorem dX7_recognizeWord_31 : decode cX7_recognizeWord 31 = .ok (.invokevirtual 186, 3) := by decide +kernel
theorem dX7_recognizeWord_34 : decode cX7_recognizeWord 34 = .ok (.istore_n 3, 1) := by decide +kernel
theorem dX7_recognizeWord_35 : decode cX7_recognizeWord 35 = .ok (.aload_n 0, 1) := by decide +kernel
theorem dX7_recognizeWord_36 : decode cX7_recognizeWord 36 = .ok (.getfield 42, 3) := by decide +kernel
theorem dX7_recognizeWord_39 : decode cX7_recognizeWord 39 = .ok (.iload_n 2, 1) := by decide +kernel
theorem dX7_recognizeWord_40 : decode cX7_recognizeWord 40 = .ok (.iaload, 1) := by decide +kernel
theorem dX7_recognizeWord_41 : decode cX7_recognizeWord 41 = .ok (.iload_n 3, 1) := by decide +kernel
theorem dX7_recognizeWord_42 : decode cX7_recognizeWord 42 = .ok (.isub, 1) := by decide +kernel
theorem dX7_recognizeWord_43 : decode cX7_recognizeWord 43 = .ok (.istore 4, 2) := by decide +kernel
theorem dX7_recognizeWord_45 : decode cX7_recognizeWord 45 = .ok (.iload_n 3, 1) := by decide +kernel
theorem dX7_recognizeWord_46 : decode cX7_recognizeWord 46 = .ok (.ifCond .le 21, 3) := by decide +kernel
theorem dX7_recognizeWord_49 : decode cX7_recognizeWord 49 = .ok (.iload 4, 2) := by decide +kernel
theorem dX7_recognizeWord_51 : decode cX7_recognizeWord 51 = .ok (.ifCond .le 16, 3) := by decide +kernel
theorem dX7_recognizeWord_54 : decode cX7_recognizeWord 54 = .ok (.iload_n 3, 1) := by decide +kernel
theorem dX7_recognizeWord_55 : decode cX7_recognizeWord 55 = .ok (.i2l, 1) := by decide +kernel
theorem dX7_recognizeWord_56 : decode cX7_recognizeWord 56 = .ok (.iload 4, 2) := by decide +kernel
theorem dX7_recognizeWord_58 : decode cX7_recognizeWord 58 = .ok (.i2l, 1) := by decide +kernel
theorem dX7_recognizeWord_59 : decode cX7_recognizeWord 59 = .ok (.invokestatic 189, 3) := by decide +kernel
theorem dX7_recognizeWord_62 : decode cX7_recognizeWord 62 = .ok (.lconst 1, 1) := by decide +kernel
theorem dX7_recognizeWord_63 : decode cX7_recognizeWord 63 = .ok (.lcmp, 1) := by decide +kernel
theorem dX7_recognizeWord_64 : decode cX7_recognizeWord 64 = .ok (.ifCond .eq 5, 3) := by decide +kernel
theorem dX7_recognizeWord_67 : decode cX7_recognizeWord 67 = .ok (.iconst 0, 1) := by decide +kernel
theorem dX7_recognizeWord_68 : decode cX7_recognizeWord 68 = .ok (.ireturn, 1) := by decide +kernel
theorem dX7_recognizeWord_69 : decode cX7_recognizeWord 69 = .ok (.aload_n 0, 1) := by decide +kernel
theorem dX7_recognizeWord_70 : decode cX7_recognizeWord 70 = .ok (.iload_n 2, 1) := by decide +kernel
theorem dX7_recognizeWord_71 : decode cX7_recognizeWord 71 = .ok (.iload_n 3, 1) := by decide +kernel
theorem dX7_recognizeWord_72 : decode cX7_recognizeWord 72 = .ok (.iload 4, 2) := by decide +kernel
theorem dX7_recognizeWord_74 : decode cX7_recognizeWord 74 = .ok (.invokevirtual 192, 3) := by decide +kernel
theorem dX7_recognizeWord_77 : decode cX7_recognizeWord 77 = .ok (.istore 5, 2) := by decide +kernel
theorem dX7_recognizeWord_79 : decode cX7_recognizeWord 79 = .ok (.iload 5, 2) := by decide +kernel
theorem dX7_recognizeWord_81 : decode cX7_recognizeWord 81 = .ok (.ifCond .le 14, 3) := by decide +kernel
theorem dX7_recognizeWord_84 : decode cX7_recognizeWord 84 = .ok (.aload_n 0, 1) := by decide +kernel
theorem dX7_recognizeWord_85 : decode cX7_recognizeWord 85 = .ok (.iload_n 1, 1) := by decide +kernel
theorem dX7_recognizeWord_86 : decode cX7_recognizeWord 86 = .ok (.iload_n 3, 1) := by decide +kernel
theorem dX7_recognizeWord_87 : decode cX7_recognizeWord 87 = .ok (.i2l, 1) := by decide +kernel
theorem dX7_recognizeWord_88 : decode cX7_recognizeWord 88 = .ok (.iload 4, 2) := by decide +kernel
theorem dX7_recognizeWord_90 : decode cX7_recognizeWord 90 = .ok (.i2l, 1) := by decide +kernel
theorem dX7_recognizeWord_91 : decode cX7_recognizeWord 91 = .ok (.invokevirtual 71, 3) := by decide +kernel
theorem dX7_recognizeWord_94 : decode cX7_recognizeWord 94 = .ok (.pop, 1) := by decide +kernel
theorem dX7_recognizeWord_95 : decode cX7_recognizeWord 95 = .ok (.iload 5, 2) := by decide +kernel
theorem dX7_recognizeWord_97 : decode cX7_recognizeWord 97 = .ok (.ireturn, 1) := by decide +kernel
set_option maxRecDepth 20000 in
theorem ggX7_dedekind_X7_isRegister : GoodIn wsX7_dedekind wsX7_isRegister := goodIn_r _ [8] (by decide +kernel) (by decide +kernel)
set_option maxRecDepth 20000 in
theorem gX7_dedekind_X7_isRegister : GoodIn wsX7_dedekind (va_wsS RX7 62 yX7_isRegister wsX7_isRegister) := goodIn_app (goodIn_of _ (by decide +kernel)) ggX7_dedekind_X7_isRegister
set_option maxRecDepth 20000 in
theorem ggX7_dedekind_X7_expand : GoodIn wsX7_dedekind wsX7_expand := goodIn_r _ [12, 13, 3, 1, 14, 15, 16, 17, 18, 19, 20, 21, 22, 23, 24, 41, 42, 43, 44, 45, 46, 47, 48, 49, 50, 51, 52, 53, 54, 55, 56, 57, 58, 59, 60, 61, 62] (by decide +kernel) (by decide +kernel)
set_option maxRecDepth 20000 in
theorem gX7_dedekind_X7_expand : GoodIn wsX7_dedekind (wsV RX7 81 RX7 yX7_expand wsX7_expand) := goodIn_app (goodIn_of _ (by decide +kernel)) ggX7_dedekind_X7_expand
set_option maxRecDepth 20000 in
theorem ggX7_dedekind_X1_size : GoodIn wsX7_dedekind wsX1_size := goodIn_r _ [28, 19, 57, 58, 59, 60, 61, 62] (by decide +kernel) (by decide +kernel)
set_option maxRecDepth 20000 in
theorem gX7_dedekind_X1_size : GoodIn wsX7_dedekind (wsV RX7 93 RX1 yX1_size wsX1_size) := goodIn_app (goodIn_of _ (by decide +kernel)) ggX7_dedekind_X1_size
set_option maxRecDepth 20000 in
theorem ggX7_dedekind_X1_at : GoodIn wsX7_dedekind wsX1_at := goodIn_r _ [32, 19, 24, 57, 58, 59, 60, 61, 62] (by decide +kernel) (by decide +kernel)
set_option maxRecDepth 20000 in
theorem gX7_dedekind_X1_at : GoodIn wsX7_dedekind (wsV RX7 124 RX1 yX1_at wsX1_at) := goodIn_app (goodIn_of _ (by decide +kernel)) ggX7_dedekind_X1_at
set_option maxRecDepth 20000 in
theorem ggX7_dedekind_X1_convergentBottom : GoodIn wsX7_dedekind wsX1_convergentBottom := goodIn_r _ [36, 37, 38, 39, 17, 40, 19, 24, 57, 58, 59, 60, 61, 62] (by decide +kernel) (by decide +kernel)
set_option maxRecDepth 20000 in
theorem gX7_dedekind_X1_convergentBottom : GoodIn wsX7_dedekind (wsV RX7 199 RX1 yX1_convergentBottom wsX1_convergentBottom) := goodIn_app (goodIn_of _ (by decide +kernel)) ggX7_dedekind_X1_convergentBottom
theorem dX7_dedekind_0 : decode cX7_dedekind 0 = .ok (.iload_n 1, 1) := by decide +kernel
theorem dX7_dedekind_1 : decode cX7_dedekind 1 = .ok (.invokestatic 62, 3) := by decide +kernel
theorem dX7_dedekind_4 : decode cX7_dedekind 4 = .ok (.ifCond .eq 15, 3) := by decide +kernel
theorem dX7_dedekind_7 : decode cX7_dedekind 7 = .ok (.aload_n 0, 1) := by decide +kernel
theorem dX7_dedekind_8 : decode cX7_dedekind 8 = .ok (.getfield 13, 3) := by decide +kernel
theorem dX7_dedekind_11 : decode cX7_dedekind 11 = .ok (.iload_n 1, 1) := by decide +kernel
theorem dX7_dedekind_12 : decode cX7_dedekind 12 = .ok (.iaload, 1) := by decide +kernel
theorem dX7_dedekind_13 : decode cX7_dedekind 13 = .ok (.sipush 20000, 3) := by decide +kernel
theorem dX7_dedekind_16 : decode cX7_dedekind 16 = .ok (.if_icmp .le 6, 3) := by decide +kernel
theorem dX7_dedekind_19 : decode cX7_dedekind 19 = .ok (.ldc 196, 2) := by decide +kernel
theorem dX7_dedekind_21 : decode cX7_dedekind 21 = .ok (.ireturn, 1) := by decide +kernel
theorem dX7_dedekind_22 : decode cX7_dedekind 22 = .ok (.aload_n 0, 1) := by decide +kernel
theorem dX7_dedekind_23 : decode cX7_dedekind 23 = .ok (.iload_n 1, 1) := by decide +kernel
theorem dX7_dedekind_24 : decode cX7_dedekind 24 = .ok (.invokevirtual 81, 3) := by decide +kernel
theorem dX7_dedekind_27 : decode cX7_dedekind 27 = .ok (.astore_n 2, 1) := by decide +kernel
theorem dX7_dedekind_28 : decode cX7_dedekind 28 = .ok (.aload_n 2, 1) := by decide +kernel
theorem dX7_dedekind_29 : decode cX7_dedekind 29 = .ok (.invokevirtual 93, 3) := by decide +kernel
theorem dX7_dedekind_32 : decode cX7_dedekind 32 = .ok (.iconst 1, 1) := by decide +kernel
theorem dX7_dedekind_33 : decode cX7_dedekind 33 = .ok (.isub, 1) := by decide +kernel
theorem dX7_dedekind_34 : decode cX7_dedekind 34 = .ok (.istore_n 3, 1) := by decide +kernel
theorem dX7_dedekind_35 : decode cX7_dedekind 35 = .ok (.aload_n 0, 1) := by decide +kernel
theorem dX7_dedekind_36 : decode cX7_dedekind 36 = .ok (.getfield 13, 3) := by decide +kernel
theorem dX7_dedekind_39 : decode cX7_dedekind 39 = .ok (.iload_n 1, 1) := by decide +kernel
theorem dX7_dedekind_40 : decode cX7_dedekind 40 = .ok (.iaload, 1) := by decide +kernel
theorem dX7_dedekind_41 : decode cX7_dedekind 41 = .ok (.istore 4, 2) := by decide +kernel
theorem dX7_dedekind_43 : decode cX7_dedekind 43 = .ok (.lconst 0, 1) := by decide +kernel
theorem dX7_dedekind_44 : decode cX7_dedekind 44 = .ok (.lstore 5, 2) := by decide +kernel
theorem dX7_dedekind_46 : decode cX7_dedekind 46 = .ok (.iconst 1, 1) := by decide +kernel
theorem dX7_dedekind_47 : decode cX7_dedekind 47 = .ok (.istore 7, 2) := by decide +kernel
theorem dX7_dedekind_49 : decode cX7_dedekind 49 = .ok (.iload 7, 2) := by decide +kernel
theorem dX7_dedekind_51 : decode cX7_dedekind 51 = .ok (.iload_n 3, 1) := by decide +kernel
theorem dX7_dedekind_52 : decode cX7_dedekind 52 = .ok (.if_icmp .gt 40, 3) := by decide +kernel
theorem dX7_dedekind_55 : decode cX7_dedekind 55 = .ok (.lload 5, 2) := by decide +kernel
theorem dX7_dedekind_57 : decode cX7_dedekind 57 = .ok (.iload 7, 2) := by decide +kernel
theorem dX7_dedekind_59 : decode cX7_dedekind 59 = .ok (.iconst 2, 1) := by decide +kernel
theorem dX7_dedekind_60 : decode cX7_dedekind 60 = .ok (.irem, 1) := by decide +kernel
theorem dX7_dedekind_61 : decode cX7_dedekind 61 = .ok (.iconst 1, 1) := by decide +kernel
theorem dX7_dedekind_62 : decode cX7_dedekind 62 = .ok (.if_icmp .ne 13, 3) := by decide +kernel
theorem dX7_dedekind_65 : decode cX7_dedekind 65 = .ok (.aload_n 2, 1) := by decide +kernel
theorem dX7_dedekind_66 : decode cX7_dedekind 66 = .ok (.iload 7, 2) := by decide +kernel
theorem dX7_dedekind_68 : decode cX7_dedekind 68 = .ok (.invokevirtual 124, 3) := by decide +kernel
theorem dX7_dedekind_71 : decode cX7_dedekind 71 = .ok (.i2l, 1) := by decide +kernel
theorem dX7_dedekind_72 : decode cX7_dedekind 72 = .ok (.goto 11, 3) := by decide +kernel
theorem dX7_dedekind_75 : decode cX7_dedekind 75 = .ok (.aload_n 2, 1) := by decide +kernel
theorem dX7_dedekind_76 : decode cX7_dedekind 76 = .ok (.iload 7, 2) := by decide +kernel
theorem dX7_dedekind_78 : decode cX7_dedekind 78 = .ok (.invokevirtual 124, 3) := by decide +kernel
theorem dX7_dedekind_81 : decode cX7_dedekind 81 = .ok (.ineg, 1) := by decide +kernel
theorem dX7_dedekind_82 : decode cX7_dedekind 82 = .ok (.i2l, 1) := by decide +kernel
theorem dX7_dedekind_83 : decode cX7_dedekind 83 = .ok (.ladd, 1) := by decide +kernel
theorem dX7_dedekind_84 : decode cX7_dedekind 84 = .ok (.lstore 5, 2) := by decide +kernel
theorem dX7_dedekind_86 : decode cX7_dedekind 86 = .ok (.iinc 7 1, 3) := by decide +kernel
theorem dX7_dedekind_89 : decode cX7_dedekind 89 = .ok (.goto (-40), 3) := by decide +kernel
theorem dX7_dedekind_92 : decode cX7_dedekind 92 = .ok (.aload_n 0, 1) := by decide +kernel
theorem dX7_dedekind_93 : decode cX7_dedekind 93 = .ok (.getfield 9, 3) := by decide +kernel
theorem dX7_dedekind_96 : decode cX7_dedekind 96 = .ok (.iload_n 1, 1) := by decide +kernel
theorem dX7_dedekind_97 : decode cX7_dedekind 97 = .ok (.iaload, 1) := by decide +kernel
theorem dX7_dedekind_98 : decode cX7_dedekind 98 = .ok (.i2l, 1) := by decide +kernel
theorem dX7_dedekind_99 : decode cX7_dedekind 99 = .ok (.aload_n 2, 1) := by decide +kernel
theorem dX7_dedekind_100 : decode cX7_dedekind 100 = .ok (.iconst 0, 1) := by decide +kernel
theorem dX7_dedekind_101 : decode cX7_dedekind 101 = .ok (.invokevirtual 124, 3) := by decide +kernel
theorem dX7_dedekind_104 : decode cX7_dedekind 104 = .ok (.i2l, 1) := by decide +kernel
theorem dX7_dedekind_105 : decode cX7_dedekind 105 = .ok (.iload 4, 2) := by decide +kernel
theorem dX7_dedekind_107 : decode cX7_dedekind 107 = .ok (.i2l, 1) := by decide +kernel
theorem dX7_dedekind_108 : decode cX7_dedekind 108 = .ok (.lmul, 1) := by decide +kernel
theorem dX7_dedekind_109 : decode cX7_dedekind 109 = .ok (.lsub, 1) := by decide +kernel
theorem dX7_dedekind_110 : decode cX7_dedekind 110 = .ok (.lstore 7, 2) := by decide +kernel
theorem dX7_dedekind_112 : decode cX7_dedekind 112 = .ok (.iload_n 3, 1) := by decide +kernel
theorem dX7_dedekind_113 : decode cX7_dedekind 113 = .ok (.iconst 2, 1) := by decide +kernel
theorem dX7_dedekind_114 : decode cX7_dedekind 114 = .ok (.irem, 1) := by decide +kernel
theorem dX7_dedekind_115 : decode cX7_dedekind 115 = .ok (.iconst 1, 1) := by decide +kernel
theorem dX7_dedekind_116 : decode cX7_dedekind 116 = .ok (.if_icmp .ne 26, 3) := by decide +kernel
theorem dX7_dedekind_119 : decode cX7_dedekind 119 = .ok (.iload 4, 2) := by decide +kernel
theorem dX7_dedekind_121 : decode cX7_dedekind 121 = .ok (.i2l, 1) := by decide +kernel
theorem dX7_dedekind_122 : decode cX7_dedekind 122 = .ok (.lload 5, 2) := by decide +kernel
theorem dX7_dedekind_124 : decode cX7_dedekind 124 = .ok (.ldc2_w 197, 3) := by decide +kernel
theorem dX7_dedekind_127 : decode cX7_dedekind 127 = .ok (.lsub, 1) := by decide +kernel
theorem dX7_dedekind_128 : decode cX7_dedekind 128 = .ok (.lmul, 1) := by decide +kernel
theorem dX7_dedekind_129 : decode cX7_dedekind 129 = .ok (.lload 7, 2) := by decide +kernel
theorem dX7_dedekind_131 : decode cX7_dedekind 131 = .ok (.ladd, 1) := by decide +kernel
theorem dX7_dedekind_132 : decode cX7_dedekind 132 = .ok (.aload_n 2, 1) := by decide +kernel
theorem dX7_dedekind_133 : decode cX7_dedekind 133 = .ok (.iload_n 3, 1) := by decide +kernel
theorem dX7_dedekind_134 : decode cX7_dedekind 134 = .ok (.iconst 1, 1) := by decide +kernel
theorem dX7_dedekind_135 : decode cX7_dedekind 135 = .ok (.isub, 1) := by decide +kernel
theorem dX7_dedekind_136 : decode cX7_dedekind 136 = .ok (.invokevirtual 199, 3) := by decide +kernel
theorem dX7_dedekind_139 : decode cX7_dedekind 139 = .ok (.ladd, 1) := by decide +kernel
theorem dX7_dedekind_140 : decode cX7_dedekind 140 = .ok (.l2i, 1) := by decide +kernel
theorem dX7_dedekind_141 : decode cX7_dedekind 141 = .ok (.ireturn, 1) := by decide +kernel
theorem dX7_dedekind_142 : decode cX7_dedekind 142 = .ok (.iload 4, 2) := by decide +kernel
theorem dX7_dedekind_144 : decode cX7_dedekind 144 = .ok (.i2l, 1) := by decide +kernel
theorem dX7_dedekind_145 : decode cX7_dedekind 145 = .ok (.lload 5, 2) := by decide +kernel
theorem dX7_dedekind_147 : decode cX7_dedekind 147 = .ok (.lmul, 1) := by decide +kernel
theorem dX7_dedekind_148 : decode cX7_dedekind 148 = .ok (.lload 7, 2) := by decide +kernel
theorem dX7_dedekind_150 : decode cX7_dedekind 150 = .ok (.ladd, 1) := by decide +kernel
theorem dX7_dedekind_151 : decode cX7_dedekind 151 = .ok (.aload_n 2, 1) := by decide +kernel
theorem dX7_dedekind_152 : decode cX7_dedekind 152 = .ok (.iload_n 3, 1) := by decide +kernel
theorem dX7_dedekind_153 : decode cX7_dedekind 153 = .ok (.iconst 1, 1) := by decide +kernel
theorem dX7_dedekind_154 : decode cX7_dedekind 154 = .ok (.isub, 1) := by decide +kernel
theorem dX7_dedekind_155 : decode cX7_dedekind 155 = .ok (.invokevirtual 199, 3) := by decide +kernel
theorem dX7_dedekind_158 : decode cX7_dedekind 158 = .ok (.lsub, 1) := by decide +kernel
theorem dX7_dedekind_159 : decode cX7_dedekind 159 = .ok (.l2i, 1) := by decide +kernel
theorem dX7_dedekind_160 : decode cX7_dedekind 160 = .ok (.ireturn, 1) := by decide +kernel
set_option maxRecDepth 20000 in
theorem ggX7_feed_X7_isIn : GoodIn wsX7_feed wsX7_isIn := goodIn_r _ [6] (by decide +kernel) (by decide +kernel)
set_option maxRecDepth 20000 in
theorem gX7_feed_X7_isIn : GoodIn wsX7_feed (va_wsS RX7 67 yX7_isIn wsX7_isIn) := goodIn_app (goodIn_of _ (by decide +kernel)) ggX7_feed_X7_isIn
theorem dX7_feed_0 : decode cX7_feed 0 = .ok (.iload_n 1, 1) := by decide +kernel
theorem dX7_feed_1 : decode cX7_feed 1 = .ok (.bipush 32, 2) := by decide +kernel
theorem dX7_feed_3 : decode cX7_feed 3 = .ok (.bipush 126, 2) := by decide +kernel
theorem dX7_feed_5 : decode cX7_feed 5 = .ok (.invokestatic 67, 3) := by decide +kernel
theorem dX7_feed_8 : decode cX7_feed 8 = .ok (.ifCond .ne 5, 3) := by decide +kernel
theorem dX7_feed_11 : decode cX7_feed 11 = .ok (.iconst (-1), 1) := by decide +kernel
theorem dX7_feed_12 : decode cX7_feed 12 = .ok (.ireturn, 1) := by decide +kernel
theorem dX7_feed_13 : decode cX7_feed 13 = .ok (.aload_n 0, 1) := by decide +kernel
theorem dX7_feed_14 : decode cX7_feed 14 = .ok (.getfield 202, 3) := by decide +kernel
theorem dX7_feed_17 : decode cX7_feed 17 = .ok (.bipush 60, 2) := by decide +kernel
theorem dX7_feed_19 : decode cX7_feed 19 = .ok (.if_icmp .lt 6, 3) := by decide +kernel
theorem dX7_feed_22 : decode cX7_feed 22 = .ok (.bipush (-5), 2) := by decide +kernel
theorem dX7_feed_24 : decode cX7_feed 24 = .ok (.ireturn, 1) := by decide +kernel
theorem dX7_feed_25 : decode cX7_feed 25 = .ok (.aload_n 0, 1) := by decide +kernel
theorem dX7_feed_26 : decode cX7_feed 26 = .ok (.getfield 34, 3) := by decide +kernel
theorem dX7_feed_29 : decode cX7_feed 29 = .ok (.aload_n 0, 1) := by decide +kernel
theorem dX7_feed_30 : decode cX7_feed 30 = .ok (.getfield 202, 3) := by decide +kernel
theorem dX7_feed_33 : decode cX7_feed 33 = .ok (.iload_n 1, 1) := by decide +kernel
theorem dX7_feed_34 : decode cX7_feed 34 = .ok (.iastore, 1) := by decide +kernel
theorem dX7_feed_35 : decode cX7_feed 35 = .ok (.aload_n 0, 1) := by decide +kernel
theorem dX7_feed_36 : decode cX7_feed 36 = .ok (.dup, 1) := by decide +kernel
theorem dX7_feed_37 : decode cX7_feed 37 = .ok (.getfield 202, 3) := by decide +kernel
theorem dX7_feed_40 : decode cX7_feed 40 = .ok (.iconst 1, 1) := by decide +kernel
theorem dX7_feed_41 : decode cX7_feed 41 = .ok (.iadd, 1) := by decide +kernel
theorem dX7_feed_42 : decode cX7_feed 42 = .ok (.putfield 202, 3) := by decide +kernel
theorem dX7_feed_45 : decode cX7_feed 45 = .ok (.aload_n 0, 1) := by decide +kernel
theorem dX7_feed_46 : decode cX7_feed 46 = .ok (.getfield 202, 3) := by decide +kernel
theorem dX7_feed_49 : decode cX7_feed 49 = .ok (.ireturn, 1) := by decide +kernel
theorem dX7_discardText_0 : decode cX7_discardText 0 = .ok (.aload_n 0, 1) := by decide +kernel
theorem dX7_discardText_1 : decode cX7_discardText 1 = .ok (.getfield 202, 3) := by decide +kernel
theorem dX7_discardText_4 : decode cX7_discardText 4 = .ok (.istore_n 1, 1) := by decide +kernel
theorem dX7_discardText_5 : decode cX7_discardText 5 = .ok (.aload_n 0, 1) := by decide +kernel
theorem dX7_discardText_6 : decode cX7_discardText 6 = .ok (.iconst 0, 1) := by decide +kernel
theorem dX7_discardText_7 : decode cX7_discardText 7 = .ok (.putfield 202, 3) := by decide +kernel
theorem dX7_discardText_10 : decode cX7_discardText 10 = .ok (.iload_n 1, 1) := by decide +kernel
theorem dX7_discardText_11 : decode cX7_discardText 11 = .ok (.ireturn, 1) := by decide +kernel
set_option maxRecDepth 20000 in
theorem ggX7_followPath_X7_isRegister : GoodIn wsX7_followPath wsX7_isRegister := goodIn_r _ [5] (by decide +kernel) (by decide +kernel)
set_option maxRecDepth 20000 in
theorem gX7_followPath_X7_isRegister : GoodIn wsX7_followPath (va_wsS RX7 62 yX7_isRegister wsX7_isRegister) := goodIn_app (goodIn_of _ (by decide +kernel)) ggX7_followPath_X7_isRegister
set_option maxRecDepth 20000 in
theorem ggX7_followPath_X7_firstWrongCharacter : GoodIn wsX7_followPath wsX7_firstWrongCharacter := goodIn_r _ [9, 1, 10, 11, 12, 4, 13, 32, 33, 34, 35, 36, 37, 38, 39, 40, 41, 42, 43, 44, 45, 46, 47] (by decide +kernel) (by decide +kernel)
set_option maxRecDepth 20000 in
theorem gX7_followPath_X7_firstWrongCharacter : GoodIn wsX7_followPath (wsV RX7 205 RX7 yX7_firstWrongCharacter wsX7_firstWrongCharacter) := goodIn_app (goodIn_of _ (by decide +kernel)) ggX7_followPath_X7_firstWrongCharacter
set_option maxRecDepth 20000 in
theorem ggX7_followPath_X7_applyText : GoodIn wsX7_followPath wsX7_applyText := goodIn_r _ [17, 18, 19, 1, 10, 20, 21, 11, 12, 4, 13, 22, 23, 24, 25, 26, 27, 28, 29, 30, 31, 32, 33, 34, 35, 36, 37, 38, 39, 40, 41, 42, 43, 44, 45, 46, 47] (by decide +kernel) (by decide +kernel)
set_option maxRecDepth 20000 in
theorem gX7_followPath_X7_applyText : GoodIn wsX7_followPath (wsV RX7 208 RX7 yX7_applyText wsX7_applyText) := goodIn_app (goodIn_of _ (by decide +kernel)) ggX7_followPath_X7_applyText
theorem dX7_followPath_0 : decode cX7_followPath 0 = .ok (.iload_n 1, 1) := by decide +kernel
theorem dX7_followPath_1 : decode cX7_followPath 1 = .ok (.invokestatic 62, 3) := by decide +kernel
theorem dX7_followPath_4 : decode cX7_followPath 4 = .ok (.ifCond .eq 10, 3) := by decide +kernel
theorem dX7_followPath_7 : decode cX7_followPath 7 = .ok (.iload_n 2, 1) := by decide +kernel
theorem dX7_followPath_8 : decode cX7_followPath 8 = .ok (.invokestatic 62, 3) := by decide +kernel
theorem dX7_followPath_11 : decode cX7_followPath 11 = .ok (.ifCond .ne 5, 3) := by decide +kernel
theorem dX7_followPath_14 : decode cX7_followPath 14 = .ok (.iconst (-1), 1) := by decide +kernel
theorem dX7_followPath_15 : decode cX7_followPath 15 = .ok (.ireturn, 1) := by decide +kernel
theorem dX7_followPath_16 : decode cX7_followPath 16 = .ok (.aload_n 0, 1) := by decide +kernel
theorem dX7_followPath_17 : decode cX7_followPath 17 = .ok (.invokevirtual 205, 3) := by decide +kernel
theorem dX7_followPath_20 : decode cX7_followPath 20 = .ok (.istore_n 3, 1) := by decide +kernel
theorem dX7_followPath_21 : decode cX7_followPath 21 = .ok (.iload_n 3, 1) := by decide +kernel
theorem dX7_followPath_22 : decode cX7_followPath 22 = .ok (.ifCond .lt 10, 3) := by decide +kernel
theorem dX7_followPath_25 : decode cX7_followPath 25 = .ok (.bipush (-100), 2) := by decide +kernel
theorem dX7_followPath_27 : decode cX7_followPath 27 = .ok (.iload_n 3, 1) := by decide +kernel
theorem dX7_followPath_28 : decode cX7_followPath 28 = .ok (.isub, 1) := by decide +kernel
theorem dX7_followPath_29 : decode cX7_followPath 29 = .ok (.goto 9, 3) := by decide +kernel
theorem dX7_followPath_32 : decode cX7_followPath 32 = .ok (.aload_n 0, 1) := by decide +kernel
theorem dX7_followPath_33 : decode cX7_followPath 33 = .ok (.iload_n 1, 1) := by decide +kernel
theorem dX7_followPath_34 : decode cX7_followPath 34 = .ok (.iload_n 2, 1) := by decide +kernel
theorem dX7_followPath_35 : decode cX7_followPath 35 = .ok (.invokevirtual 208, 3) := by decide +kernel
theorem dX7_followPath_38 : decode cX7_followPath 38 = .ok (.istore 4, 2) := by decide +kernel
theorem dX7_followPath_40 : decode cX7_followPath 40 = .ok (.aload_n 0, 1) := by decide +kernel
theorem dX7_followPath_41 : decode cX7_followPath 41 = .ok (.iconst 0, 1) := by decide +kernel
theorem dX7_followPath_42 : decode cX7_followPath 42 = .ok (.putfield 202, 3) := by decide +kernel
theorem dX7_followPath_45 : decode cX7_followPath 45 = .ok (.iload 4, 2) := by decide +kernel
theorem dX7_followPath_47 : decode cX7_followPath 47 = .ok (.ireturn, 1) := by decide +kernel
set_option maxRecDepth 20000 in
theorem ggX7_pathTextLength_X7_isRegister : GoodIn wsX7_pathTextLength wsX7_isRegister := goodIn_r _ [4] (by decide +kernel) (by decide +kernel)
set_option maxRecDepth 20000 in
theorem gX7_pathTextLength_X7_isRegister : GoodIn wsX7_pathTextLength (va_wsS RX7 62 yX7_isRegister wsX7_isRegister) := goodIn_app (goodIn_of _ (by decide +kernel)) ggX7_pathTextLength_X7_isRegister
set_option maxRecDepth 20000 in
theorem ggX7_pathTextLength_X7_expand : GoodIn wsX7_pathTextLength wsX7_expand := goodIn_r _ [8, 9, 10, 11, 12, 13, 14, 15, 16, 17, 18, 19, 20, 21, 22, 42, 43, 44, 45, 46, 47, 48, 49, 50, 51, 52, 53, 54, 55, 56, 57, 58, 59, 60, 61, 62, 63] (by decide +kernel) (by decide +kernel)
set_option maxRecDepth 20000 in
theorem gX7_pathTextLength_X7_expand : GoodIn wsX7_pathTextLength (wsV RX7 81 RX7 yX7_expand wsX7_expand) := goodIn_app (goodIn_of _ (by decide +kernel)) ggX7_pathTextLength_X7_expand
set_option maxRecDepth 20000 in
theorem ggX7_pathTextLength_X1_size : GoodIn wsX7_pathTextLength wsX1_size := goodIn_r _ [26, 17, 58, 59, 60, 61, 62, 63] (by decide +kernel) (by decide +kernel)
set_option maxRecDepth 20000 in
theorem gX7_pathTextLength_X1_size : GoodIn wsX7_pathTextLength (wsV RX7 93 RX1 yX1_size wsX1_size) := goodIn_app (goodIn_of _ (by decide +kernel)) ggX7_pathTextLength_X1_size
set_option maxRecDepth 20000 in
theorem ggX7_pathTextLength_X1_runAt : GoodIn wsX7_pathTextLength wsX1_runAt := goodIn_r _ [30, 17, 31, 32, 33, 15, 34, 22, 58, 59, 60, 61, 62, 63] (by decide +kernel) (by decide +kernel)
set_option maxRecDepth 20000 in
theorem gX7_pathTextLength_X1_runAt : GoodIn wsX7_pathTextLength (wsV RX7 96 RX1 yX1_runAt wsX1_runAt) := goodIn_app (goodIn_of _ (by decide +kernel)) ggX7_pathTextLength_X1_runAt
set_option maxRecDepth 20000 in
theorem ggX7_pathTextLength_X7_runTextSize : GoodIn wsX7_pathTextLength wsX7_runTextSize := goodIn_r _ [37, 38, 39, 3, 40, 41] (by decide +kernel) (by decide +kernel)
set_option maxRecDepth 20000 in
theorem gX7_pathTextLength_X7_runTextSize : GoodIn wsX7_pathTextLength (va_wsS RX7 212 yX7_runTextSize wsX7_runTextSize) := goodIn_app (goodIn_of _ (by decide +kernel)) ggX7_pathTextLength_X7_runTextSize
theorem dX7_pathTextLength_0 : decode cX7_pathTextLength 0 = .ok (.iload_n 1, 1) := by decide +kernel
theorem dX7_pathTextLength_1 : decode cX7_pathTextLength 1 = .ok (.invokestatic 62, 3) := by decide +kernel
theorem dX7_pathTextLength_4 : decode cX7_pathTextLength 4 = .ok (.ifCond .ne 5, 3) := by decide +kernel
theorem dX7_pathTextLength_7 : decode cX7_pathTextLength 7 = .ok (.iconst (-1), 1) := by decide +kernel
theorem dX7_pathTextLength_8 : decode cX7_pathTextLength 8 = .ok (.ireturn, 1) := by decide +kernel
theorem dX7_pathTextLength_9 : decode cX7_pathTextLength 9 = .ok (.aload_n 0, 1) := by decide +kernel
theorem dX7_pathTextLength_10 : decode cX7_pathTextLength 10 = .ok (.iload_n 1, 1) := by decide +kernel
theorem dX7_pathTextLength_11 : decode cX7_pathTextLength 11 = .ok (.invokevirtual 81, 3) := by decide +kernel
theorem dX7_pathTextLength_14 : decode cX7_pathTextLength 14 = .ok (.astore_n 2, 1) := by decide +kernel
theorem dX7_pathTextLength_15 : decode cX7_pathTextLength 15 = .ok (.iconst 0, 1) := by decide +kernel
theorem dX7_pathTextLength_16 : decode cX7_pathTextLength 16 = .ok (.istore_n 3, 1) := by decide +kernel
theorem dX7_pathTextLength_17 : decode cX7_pathTextLength 17 = .ok (.iconst 0, 1) := by decide +kernel
theorem dX7_pathTextLength_18 : decode cX7_pathTextLength 18 = .ok (.istore 4, 2) := by decide +kernel
theorem dX7_pathTextLength_20 : decode cX7_pathTextLength 20 = .ok (.iload 4, 2) := by decide +kernel
theorem dX7_pathTextLength_22 : decode cX7_pathTextLength 22 = .ok (.aload_n 2, 1) := by decide +kernel
theorem dX7_pathTextLength_23 : decode cX7_pathTextLength 23 = .ok (.invokevirtual 93, 3) := by decide +kernel
theorem dX7_pathTextLength_26 : decode cX7_pathTextLength 26 = .ok (.if_icmp .ge 21, 3) := by decide +kernel
theorem dX7_pathTextLength_29 : decode cX7_pathTextLength 29 = .ok (.iload_n 3, 1) := by decide +kernel
theorem dX7_pathTextLength_30 : decode cX7_pathTextLength 30 = .ok (.aload_n 2, 1) := by decide +kernel
theorem dX7_pathTextLength_31 : decode cX7_pathTextLength 31 = .ok (.iload 4, 2) := by decide +kernel
theorem dX7_pathTextLength_33 : decode cX7_pathTextLength 33 = .ok (.invokevirtual 96, 3) := by decide +kernel
theorem dX7_pathTextLength_36 : decode cX7_pathTextLength 36 = .ok (.invokestatic 212, 3) := by decide +kernel
theorem dX7_pathTextLength_39 : decode cX7_pathTextLength 39 = .ok (.iadd, 1) := by decide +kernel
theorem dX7_pathTextLength_40 : decode cX7_pathTextLength 40 = .ok (.istore_n 3, 1) := by decide +kernel
theorem dX7_pathTextLength_41 : decode cX7_pathTextLength 41 = .ok (.iinc 4 1, 3) := by decide +kernel
theorem dX7_pathTextLength_44 : decode cX7_pathTextLength 44 = .ok (.goto (-24), 3) := by decide +kernel
theorem dX7_pathTextLength_47 : decode cX7_pathTextLength 47 = .ok (.iload_n 3, 1) := by decide +kernel
theorem dX7_pathTextLength_48 : decode cX7_pathTextLength 48 = .ok (.ireturn, 1) := by decide +kernel
set_option maxRecDepth 20000 in
theorem ggX7_pathText_X7_isRegister : GoodIn wsX7_pathText wsX7_isRegister := goodIn_r _ [4] (by decide +kernel) (by decide +kernel)
set_option maxRecDepth 20000 in
theorem gX7_pathText_X7_isRegister : GoodIn wsX7_pathText (va_wsS RX7 62 yX7_isRegister wsX7_isRegister) := goodIn_app (goodIn_of _ (by decide +kernel)) ggX7_pathText_X7_isRegister
set_option maxRecDepth 20000 in
theorem ggX7_pathText_X7_expand : GoodIn wsX7_pathText wsX7_expand := goodIn_r _ [8, 9, 10, 11, 12, 13, 14, 15, 16, 17, 18, 19, 20, 21, 22, 45, 46, 47, 48, 49, 50, 51, 52, 53, 54, 55, 56, 57, 58, 59, 60, 61, 62, 63, 64, 65, 66] (by decide +kernel) (by decide +kernel)
set_option maxRecDepth 20000 in
theorem gX7_pathText_X7_expand : GoodIn wsX7_pathText (wsV RX7 81 RX7 yX7_expand wsX7_expand) := goodIn_app (goodIn_of _ (by decide +kernel)) ggX7_pathText_X7_expand
set_option maxRecDepth 20000 in
theorem ggX7_pathText_X1_size : GoodIn wsX7_pathText wsX1_size := goodIn_r _ [26, 17, 61, 62, 63, 64, 65, 66] (by decide +kernel) (by decide +kernel)
set_option maxRecDepth 20000 in
theorem gX7_pathText_X1_size : GoodIn wsX7_pathText (wsV RX7 93 RX1 yX1_size wsX1_size) := goodIn_app (goodIn_of _ (by decide +kernel)) ggX7_pathText_X1_size
set_option maxRecDepth 20000 in
theorem ggX7_pathText_X1_runAt : GoodIn wsX7_pathText wsX1_runAt := goodIn_r _ [30, 17, 31, 32, 33, 15, 34, 22, 61, 62, 63, 64, 65, 66] (by decide +kernel) (by decide +kernel)
set_option maxRecDepth 20000 in
theorem gX7_pathText_X1_runAt : GoodIn wsX7_pathText (wsV RX7 96 RX1 yX1_runAt wsX1_runAt) := goodIn_app (goodIn_of _ (by decide +kernel)) ggX7_pathText_X1_runAt
set_option maxRecDepth 20000 in
theorem ggX7_pathText_X7_runTextSize : GoodIn wsX7_pathText wsX7_runTextSize := goodIn_r _ [37, 38, 39, 3, 40, 41] (by decide +kernel) (by decide +kernel)
set_option maxRecDepth 20000 in
theorem gX7_pathText_X7_runTextSize : GoodIn wsX7_pathText (va_wsS RX7 212 yX7_runTextSize wsX7_runTextSize) := goodIn_app (goodIn_of _ (by decide +kernel)) ggX7_pathText_X7_runTextSize
set_option maxRecDepth 20000 in
theorem ggX7_pathText_X7_runCharacter : GoodIn wsX7_pathText wsX7_runCharacter := goodIn_r _ [44, 38, 39, 3, 40, 41] (by decide +kernel) (by decide +kernel)
set_option maxRecDepth 20000 in
theorem gX7_pathText_X7_runCharacter : GoodIn wsX7_pathText (va_wsS RX7 215 yX7_runCharacter wsX7_runCharacter) := goodIn_app (goodIn_of _ (by decide +kernel)) ggX7_pathText_X7_runCharacter
theorem dX7_pathText_0 : decode cX7_pathText 0 = .ok (.iload_n 1, 1) := by decide +kernel
theorem dX7_pathText_1 : decode cX7_pathText 1 = .ok (.invokestatic 62, 3) := by decide +kernel
theorem dX7_pathText_4 : decode cX7_pathText 4 = .ok (.ifCond .eq 7, 3) := by decide +kernel
theorem dX7_pathText_7 : decode cX7_pathText 7 = .ok (.iload_n 2, 1) := by decide +kernel
theorem dX7_pathText_8 : decode cX7_pathText 8 = .ok (.ifCond .ge 5, 3) := by decide +kernel
theorem dX7_pathText_11 : decode cX7_pathText 11 = .ok (.iconst (-1), 1) := by decide +kernel
theorem dX7_pathText_12 : decode cX7_pathText 12 = .ok (.ireturn, 1) := by decide +kernel
theorem dX7_pathText_13 : decode cX7_pathText 13 = .ok (.aload_n 0, 1) := by decide +kernel
theorem dX7_pathText_14 : decode cX7_pathText 14 = .ok (.iload_n 1, 1) := by decide +kernel
theorem dX7_pathText_15 : decode cX7_pathText 15 = .ok (.invokevirtual 81, 3) := by decide +kernel
theorem dX7_pathText_18 : decode cX7_pathText 18 = .ok (.astore_n 3, 1) := by decide +kernel
theorem dX7_pathText_19 : decode cX7_pathText 19 = .ok (.iload_n 2, 1) := by decide +kernel
theorem dX7_pathText_20 : decode cX7_pathText 20 = .ok (.istore 4, 2) := by decide +kernel
theorem dX7_pathText_22 : decode cX7_pathText 22 = .ok (.iconst 0, 1) := by decide +kernel
theorem dX7_pathText_23 : decode cX7_pathText 23 = .ok (.istore 5, 2) := by decide +kernel
theorem dX7_pathText_25 : decode cX7_pathText 25 = .ok (.iload 5, 2) := by decide +kernel
theorem dX7_pathText_27 : decode cX7_pathText 27 = .ok (.aload_n 3, 1) := by decide +kernel
theorem dX7_pathText_28 : decode cX7_pathText 28 = .ok (.invokevirtual 93, 3) := by decide +kernel
theorem dX7_pathText_31 : decode cX7_pathText 31 = .ok (.if_icmp .ge 48, 3) := by decide +kernel
theorem dX7_pathText_34 : decode cX7_pathText 34 = .ok (.aload_n 3, 1) := by decide +kernel
theorem dX7_pathText_35 : decode cX7_pathText 35 = .ok (.iload 5, 2) := by decide +kernel
theorem dX7_pathText_37 : decode cX7_pathText 37 = .ok (.invokevirtual 96, 3) := by decide +kernel
theorem dX7_pathText_40 : decode cX7_pathText 40 = .ok (.invokestatic 212, 3) := by decide +kernel
theorem dX7_pathText_43 : decode cX7_pathText 43 = .ok (.istore 6, 2) := by decide +kernel
theorem dX7_pathText_45 : decode cX7_pathText 45 = .ok (.iload 4, 2) := by decide +kernel
theorem dX7_pathText_47 : decode cX7_pathText 47 = .ok (.iload 6, 2) := by decide +kernel
theorem dX7_pathText_49 : decode cX7_pathText 49 = .ok (.if_icmp .ge 17, 3) := by decide +kernel
theorem dX7_pathText_52 : decode cX7_pathText 52 = .ok (.iload 5, 2) := by decide +kernel
theorem dX7_pathText_54 : decode cX7_pathText 54 = .ok (.aload_n 3, 1) := by decide +kernel
theorem dX7_pathText_55 : decode cX7_pathText 55 = .ok (.iload 5, 2) := by decide +kernel
theorem dX7_pathText_57 : decode cX7_pathText 57 = .ok (.invokevirtual 96, 3) := by decide +kernel
theorem dX7_pathText_60 : decode cX7_pathText 60 = .ok (.iload 4, 2) := by decide +kernel
theorem dX7_pathText_62 : decode cX7_pathText 62 = .ok (.invokestatic 215, 3) := by decide +kernel
theorem dX7_pathText_65 : decode cX7_pathText 65 = .ok (.ireturn, 1) := by decide +kernel
theorem dX7_pathText_66 : decode cX7_pathText 66 = .ok (.iload 4, 2) := by decide +kernel
theorem dX7_pathText_68 : decode cX7_pathText 68 = .ok (.iload 6, 2) := by decide +kernel
theorem dX7_pathText_70 : decode cX7_pathText 70 = .ok (.isub, 1) := by decide +kernel
theorem dX7_pathText_71 : decode cX7_pathText 71 = .ok (.istore 4, 2) := by decide +kernel
theorem dX7_pathText_73 : decode cX7_pathText 73 = .ok (.iinc 5 1, 3) := by decide +kernel
theorem dX7_pathText_76 : decode cX7_pathText 76 = .ok (.goto (-51), 3) := by decide +kernel
theorem dX7_pathText_79 : decode cX7_pathText 79 = .ok (.bipush (-2), 2) := by decide +kernel
theorem dX7_pathText_81 : decode cX7_pathText 81 = .ok (.ireturn, 1) := by decide +kernel
set_option maxRecDepth 20000 in
theorem ggX7_plant_X7_isSlot : GoodIn wsX7_plant wsX7_isSlot := goodIn_r _ [7] (by decide +kernel) (by decide +kernel)
set_option maxRecDepth 20000 in
theorem gX7_plant_X7_isSlot : GoodIn wsX7_plant (va_wsS RX7 218 yX7_isSlot wsX7_isSlot) := goodIn_app (goodIn_of _ (by decide +kernel)) ggX7_plant_X7_isSlot
set_option maxRecDepth 20000 in
theorem ggX7_plant_X7_isIn : GoodIn wsX7_plant wsX7_isIn := goodIn_r _ [10] (by decide +kernel) (by decide +kernel)
set_option maxRecDepth 20000 in
theorem gX7_plant_X7_isIn : GoodIn wsX7_plant (va_wsS RX7 67 yX7_isIn wsX7_isIn) := goodIn_app (goodIn_of _ (by decide +kernel)) ggX7_plant_X7_isIn
set_option maxRecDepth 20000 in
theorem ggX7_plant_X7_isRegister : GoodIn wsX7_plant wsX7_isRegister := goodIn_r _ [13] (by decide +kernel) (by decide +kernel)
set_option maxRecDepth 20000 in
theorem gX7_plant_X7_isRegister : GoodIn wsX7_plant (va_wsS RX7 62 yX7_isRegister wsX7_isRegister) := goodIn_app (goodIn_of _ (by decide +kernel)) ggX7_plant_X7_isRegister
set_option maxRecDepth 20000 in
theorem ggX7_plant_X7_newNode : GoodIn wsX7_plant wsX7_newNode := goodIn_r _ [16, 17, 18, 19, 20, 21, 22, 23, 24, 25, 26, 27, 28, 29, 30, 31, 32, 33, 34, 35, 36, 37, 38, 39, 40, 41, 42, 43, 44, 45, 46, 47, 48, 49, 50, 51, 52, 53, 54, 55, 56, 73, 74, 75, 76, 77, 78, 79, 80, 81, 82, 83, 84, 85, 86, 87] (by decide +kernel) (by decide +kernel)
set_option maxRecDepth 20000 in
theorem gX7_plant_X7_newNode : GoodIn wsX7_plant (va_wsS RX7 221 yX7_newNode wsX7_newNode) := goodIn_app (goodIn_of _ (by decide +kernel)) ggX7_plant_X7_newNode
theorem dX7_plant_0 : decode cX7_plant 0 = .ok (.iload_n 1, 1) := by decide +kernel
theorem dX7_plant_1 : decode cX7_plant 1 = .ok (.invokestatic 218, 3) := by decide +kernel
theorem dX7_plant_4 : decode cX7_plant 4 = .ok (.ifCond .eq 19, 3) := by decide +kernel
theorem dX7_plant_7 : decode cX7_plant 7 = .ok (.iload_n 2, 1) := by decide +kernel
theorem dX7_plant_8 : decode cX7_plant 8 = .ok (.iconst (-1), 1) := by decide +kernel
theorem dX7_plant_9 : decode cX7_plant 9 = .ok (.iconst 4, 1) := by decide +kernel
theorem dX7_plant_10 : decode cX7_plant 10 = .ok (.invokestatic 67, 3) := by decide +kernel
theorem dX7_plant_13 : decode cX7_plant 13 = .ok (.ifCond .eq 10, 3) := by decide +kernel
theorem dX7_plant_16 : decode cX7_plant 16 = .ok (.iload_n 3, 1) := by decide +kernel
theorem dX7_plant_17 : decode cX7_plant 17 = .ok (.invokestatic 62, 3) := by decide +kernel
theorem dX7_plant_20 : decode cX7_plant 20 = .ok (.ifCond .ne 5, 3) := by decide +kernel
theorem dX7_plant_23 : decode cX7_plant 23 = .ok (.iconst (-1), 1) := by decide +kernel
theorem dX7_plant_24 : decode cX7_plant 24 = .ok (.ireturn, 1) := by decide +kernel
theorem dX7_plant_25 : decode cX7_plant 25 = .ok (.aload_n 0, 1) := by decide +kernel
theorem dX7_plant_26 : decode cX7_plant 26 = .ok (.getfield 18, 3) := by decide +kernel
theorem dX7_plant_29 : decode cX7_plant 29 = .ok (.iload_n 1, 1) := by decide +kernel
theorem dX7_plant_30 : decode cX7_plant 30 = .ok (.aaload, 1) := by decide +kernel
theorem dX7_plant_31 : decode cX7_plant 31 = .ok (.ifnonnull 7, 3) := by decide +kernel
theorem dX7_plant_34 : decode cX7_plant 34 = .ok (.iconst 0, 1) := by decide +kernel
theorem dX7_plant_35 : decode cX7_plant 35 = .ok (.goto 4, 3) := by decide +kernel
theorem dX7_plant_38 : decode cX7_plant 38 = .ok (.iconst 1, 1) := by decide +kernel
theorem dX7_plant_39 : decode cX7_plant 39 = .ok (.istore 4, 2) := by decide +kernel
theorem dX7_plant_41 : decode cX7_plant 41 = .ok (.aload_n 0, 1) := by decide +kernel
theorem dX7_plant_42 : decode cX7_plant 42 = .ok (.getfield 18, 3) := by decide +kernel
theorem dX7_plant_45 : decode cX7_plant 45 = .ok (.iload_n 1, 1) := by decide +kernel
theorem dX7_plant_46 : decode cX7_plant 46 = .ok (.iload_n 2, 1) := by decide +kernel
theorem dX7_plant_47 : decode cX7_plant 47 = .ok (.aload_n 0, 1) := by decide +kernel
theorem dX7_plant_48 : decode cX7_plant 48 = .ok (.getfield 9, 3) := by decide +kernel
theorem dX7_plant_51 : decode cX7_plant 51 = .ok (.iload_n 3, 1) := by decide +kernel
theorem dX7_plant_52 : decode cX7_plant 52 = .ok (.iaload, 1) := by decide +kernel
theorem dX7_plant_53 : decode cX7_plant 53 = .ok (.aload_n 0, 1) := by decide +kernel
theorem dX7_plant_54 : decode cX7_plant 54 = .ok (.getfield 13, 3) := by decide +kernel
theorem dX7_plant_57 : decode cX7_plant 57 = .ok (.iload_n 3, 1) := by decide +kernel
theorem dX7_plant_58 : decode cX7_plant 58 = .ok (.iaload, 1) := by decide +kernel
theorem dX7_plant_59 : decode cX7_plant 59 = .ok (.invokestatic 221, 3) := by decide +kernel
theorem dX7_plant_62 : decode cX7_plant 62 = .ok (.aastore, 1) := by decide +kernel
theorem dX7_plant_63 : decode cX7_plant 63 = .ok (.iload 4, 2) := by decide +kernel
theorem dX7_plant_65 : decode cX7_plant 65 = .ok (.ireturn, 1) := by decide +kernel
set_option maxRecDepth 20000 in
theorem ggX7_operate_X7_isSlot : GoodIn wsX7_operate wsX7_isSlot := goodIn_r _ [5] (by decide +kernel) (by decide +kernel)
set_option maxRecDepth 20000 in
theorem gX7_operate_X7_isSlot : GoodIn wsX7_operate (va_wsS RX7 218 yX7_isSlot wsX7_isSlot) := goodIn_app (goodIn_of _ (by decide +kernel)) ggX7_operate_X7_isSlot
set_option maxRecDepth 20000 in
theorem ggX7_operate_X7_isIn : GoodIn wsX7_operate wsX7_isIn := goodIn_r _ [8] (by decide +kernel) (by decide +kernel)
set_option maxRecDepth 20000 in
theorem gX7_operate_X7_isIn : GoodIn wsX7_operate (va_wsS RX7 67 yX7_isIn wsX7_isIn) := goodIn_app (goodIn_of _ (by decide +kernel)) ggX7_operate_X7_isIn
set_option maxRecDepth 20000 in
theorem ggX7_operate_X0_grow : GoodIn wsX7_operate wsX0_grow := goodIn_r _ [15, 16, 10, 17, 18, 19, 20, 21, 77, 78, 79, 80, 81, 82, 83, 84, 85, 86, 87, 88, 89, 90, 91] (by decide +kernel) (by decide +kernel)
set_option maxRecDepth 20000 in
theorem gX7_operate_X0_grow_u225X0 : GoodIn wsX7_operate (va_wsO RX7 225 RX0 "SternBrocotExplorer$Node" ⟨"SternBrocotExplorer$Node", "grow", "(I)I"⟩ yX0_grow wsX0_grow) := goodIn_app (goodIn_of _ (by decide +kernel)) ggX7_operate_X0_grow
set_option maxRecDepth 20000 in
theorem ggX7_operate_X2_grow : GoodIn wsX7_operate wsX2_grow := goodIn_r _ [25] (by decide +kernel) (by decide +kernel)
set_option maxRecDepth 20000 in
theorem gX7_operate_X2_grow_u225X2 : GoodIn wsX7_operate (va_wsO RX7 225 RX2 "SternBrocotExplorer$Node" ⟨"SternBrocotExplorer$Node", "grow", "(I)I"⟩ yX2_grow wsX2_grow) := goodIn_app (goodIn_of _ (by decide +kernel)) ggX7_operate_X2_grow
set_option maxRecDepth 20000 in
theorem ggX7_operate_X3_grow : GoodIn wsX7_operate wsX3_grow := goodIn_r _ [20, 21, 77, 78, 79, 80, 81, 82, 83, 84, 85, 86, 87, 88, 89, 90, 91] (by decide +kernel) (by decide +kernel)
set_option maxRecDepth 20000 in
theorem gX7_operate_X3_grow : GoodIn wsX7_operate (wsV RX7 225 RX3 yX3_grow wsX3_grow) := goodIn_app (goodIn_of _ (by decide +kernel)) ggX7_operate_X3_grow
set_option maxRecDepth 20000 in
theorem ggX7_operate_X5_grow : GoodIn wsX7_operate wsX5_grow := goodIn_r _ [31, 32, 10, 33, 18, 19, 20, 21, 77, 78, 79, 80, 81, 82, 83, 84, 85, 86, 87, 88, 89, 90, 91] (by decide +kernel) (by decide +kernel)
set_option maxRecDepth 20000 in
theorem gX7_operate_X5_grow_u225X5 : GoodIn wsX7_operate (va_wsO RX7 225 RX5 "SternBrocotExplorer$Node" ⟨"SternBrocotExplorer$Node", "grow", "(I)I"⟩ yX5_grow wsX5_grow) := goodIn_app (goodIn_of _ (by decide +kernel)) ggX7_operate_X5_grow
set_option maxRecDepth 20000 in
theorem gX7_operate_X0_grow_u225X6 : GoodIn wsX7_operate (va_wsO RX7 225 RX6 "SternBrocotExplorer$Node" ⟨"SternBrocotExplorer$Node", "grow", "(I)I"⟩ yX0_grow wsX0_grow) := goodIn_app (goodIn_of _ (by decide +kernel)) ggX7_operate_X0_grow
set_option maxRecDepth 20000 in
theorem ggX7_operate_X3_bend : GoodIn wsX7_operate wsX3_bend := goodIn_r _ [39, 40, 41, 10, 11, 12, 13, 14, 15, 16, 17, 18, 19, 20, 21, 22, 23, 24, 25, 42, 27, 28, 29, 30, 31, 32, 33, 34, 77, 78, 79, 80, 81, 82, 83, 84, 85, 86, 87, 88, 89, 90, 91] (by decide +kernel) (by decide +kernel)
set_option maxRecDepth 20000 in
theorem gX7_operate_X3_bend_u228X0 : GoodIn wsX7_operate (va_wsU RX7 228 RX0 "SternBrocotExplorer$Node" ⟨"SternBrocotExplorer$Node", "bend", "(I)I"⟩ yX3_bend wsX3_bend) := goodIn_app (goodIn_of _ (by decide +kernel)) ggX7_operate_X3_bend
set_option maxRecDepth 20000 in
theorem ggX7_operate_X2_bend : GoodIn wsX7_operate wsX2_bend := goodIn_r _ [46, 47, 23, 48, 24, 25, 49, 50, 51, 52, 53, 54, 55, 56, 77, 78, 79, 80, 81, 82, 83, 84, 85, 86, 87, 88, 89, 90, 91] (by decide +kernel) (by decide +kernel)
set_option maxRecDepth 20000 in
theorem gX7_operate_X2_bend_u228X2 : GoodIn wsX7_operate (va_wsO RX7 228 RX2 "SternBrocotExplorer$Node" ⟨"SternBrocotExplorer$Node", "bend", "(I)I"⟩ yX2_bend wsX2_bend) := goodIn_app (goodIn_of _ (by decide +kernel)) ggX7_operate_X2_bend
set_option maxRecDepth 20000 in
theorem gX7_operate_X3_bend : GoodIn wsX7_operate (wsV RX7 228 RX3 yX3_bend wsX3_bend) := goodIn_app (goodIn_of _ (by decide +kernel)) ggX7_operate_X3_bend
set_option maxRecDepth 20000 in
theorem gX7_operate_X3_bend_u228X5 : GoodIn wsX7_operate (va_wsU RX7 228 RX5 "SternBrocotExplorer$Node" ⟨"SternBrocotExplorer$Node", "bend", "(I)I"⟩ yX3_bend wsX3_bend) := goodIn_app (goodIn_of _ (by decide +kernel)) ggX7_operate_X3_bend
set_option maxRecDepth 20000 in
theorem ggX7_operate_X6_bend : GoodIn wsX7_operate wsX6_bend := goodIn_r _ [54, 55, 56, 77, 78, 79, 80, 81, 82, 83, 84, 85, 86, 87, 88, 89, 90, 91] (by decide +kernel) (by decide +kernel)
set_option maxRecDepth 20000 in
theorem gX7_operate_X6_bend_u228X6 : GoodIn wsX7_operate (va_wsO RX7 228 RX6 "SternBrocotExplorer$Node" ⟨"SternBrocotExplorer$Node", "bend", "(I)I"⟩ yX6_bend wsX6_bend) := goodIn_app (goodIn_of _ (by decide +kernel)) ggX7_operate_X6_bend
theorem dX7_operate_0 : decode cX7_operate 0 = .ok (.iload_n 1, 1) := by decide +kernel
theorem dX7_operate_1 : decode cX7_operate 1 = .ok (.invokestatic 218, 3) := by decide +kernel
theorem dX7_operate_4 : decode cX7_operate 4 = .ok (.ifCond .eq 12, 3) := by decide +kernel
theorem dX7_operate_7 : decode cX7_operate 7 = .ok (.iload_n 2, 1) := by decide +kernel
theorem dX7_operate_8 : decode cX7_operate 8 = .ok (.iconst 0, 1) := by decide +kernel
theorem dX7_operate_9 : decode cX7_operate 9 = .ok (.iconst 1, 1) := by decide +kernel
theorem dX7_operate_10 : decode cX7_operate 10 = .ok (.invokestatic 67, 3) := by decide +kernel
theorem dX7_operate_13 : decode cX7_operate 13 = .ok (.ifCond .ne 5, 3) := by decide +kernel
theorem dX7_operate_16 : decode cX7_operate 16 = .ok (.iconst 0, 1) := by decide +kernel
theorem dX7_operate_17 : decode cX7_operate 17 = .ok (.ireturn, 1) := by decide +kernel
theorem dX7_operate_18 : decode cX7_operate 18 = .ok (.aload_n 0, 1) := by decide +kernel
theorem dX7_operate_19 : decode cX7_operate 19 = .ok (.getfield 18, 3) := by decide +kernel
theorem dX7_operate_22 : decode cX7_operate 22 = .ok (.iload_n 1, 1) := by decide +kernel
theorem dX7_operate_23 : decode cX7_operate 23 = .ok (.aaload, 1) := by decide +kernel
theorem dX7_operate_24 : decode cX7_operate 24 = .ok (.astore 4, 2) := by decide +kernel
theorem dX7_operate_26 : decode cX7_operate 26 = .ok (.aload 4, 2) := by decide +kernel
theorem dX7_operate_28 : decode cX7_operate 28 = .ok (.ifnonnull 5, 3) := by decide +kernel
theorem dX7_operate_31 : decode cX7_operate 31 = .ok (.iconst 0, 1) := by decide +kernel
theorem dX7_operate_32 : decode cX7_operate 32 = .ok (.ireturn, 1) := by decide +kernel
theorem dX7_operate_33 : decode cX7_operate 33 = .ok (.iload_n 2, 1) := by decide +kernel
theorem dX7_operate_34 : decode cX7_operate 34 = .ok (.ifCond .ne 12, 3) := by decide +kernel
theorem dX7_operate_37 : decode cX7_operate 37 = .ok (.aload 4, 2) := by decide +kernel
theorem dX7_operate_39 : decode cX7_operate 39 = .ok (.iload_n 3, 1) := by decide +kernel
theorem dX7_operate_40 : decode cX7_operate 40 = .ok (.invokevirtual 225, 3) := by decide +kernel
theorem dX7_operate_43 : decode cX7_operate 43 = .ok (.goto 9, 3) := by decide +kernel
theorem dX7_operate_46 : decode cX7_operate 46 = .ok (.aload 4, 2) := by decide +kernel
theorem dX7_operate_48 : decode cX7_operate 48 = .ok (.iload_n 3, 1) := by decide +kernel
theorem dX7_operate_49 : decode cX7_operate 49 = .ok (.invokevirtual 228, 3) := by decide +kernel
theorem dX7_operate_52 : decode cX7_operate 52 = .ok (.ireturn, 1) := by decide +kernel
set_option maxRecDepth 20000 in
theorem ggX7_castNode_X7_isSlot : GoodIn wsX7_castNode wsX7_isSlot := goodIn_r _ [5] (by decide +kernel) (by decide +kernel)
set_option maxRecDepth 20000 in
theorem gX7_castNode_X7_isSlot : GoodIn wsX7_castNode (va_wsS RX7 218 yX7_isSlot wsX7_isSlot) := goodIn_app (goodIn_of _ (by decide +kernel)) ggX7_castNode_X7_isSlot
set_option maxRecDepth 20000 in
theorem ggX7_castNode_X7_isIn : GoodIn wsX7_castNode wsX7_isIn := goodIn_r _ [8] (by decide +kernel) (by decide +kernel)
set_option maxRecDepth 20000 in
theorem gX7_castNode_X7_isIn : GoodIn wsX7_castNode (va_wsS RX7 67 yX7_isIn wsX7_isIn) := goodIn_app (goodIn_of _ (by decide +kernel)) ggX7_castNode_X7_isIn
set_option maxRecDepth 20000 in
theorem ggX7_castNode_X7_isOfKind : GoodIn wsX7_castNode wsX7_isOfKind := goodIn_r _ [11, 12, 13, 14, 15] (by decide +kernel) (by decide +kernel)
set_option maxRecDepth 20000 in
theorem gX7_castNode_X7_isOfKind : GoodIn wsX7_castNode (va_wsS RX7 231 yX7_isOfKind wsX7_isOfKind) := goodIn_app (goodIn_of _ (by decide +kernel)) ggX7_castNode_X7_isOfKind
set_option maxRecDepth 20000 in
theorem ggX7_castNode_X3_kind : GoodIn wsX7_castNode wsX3_kind := goodIn_r _ [21, 22, 44, 45, 46, 47, 48, 49, 50, 51, 52, 53, 54, 55, 56, 57, 58] (by decide +kernel) (by decide +kernel)
set_option maxRecDepth 20000 in
theorem gX7_castNode_X3_kind_u235X0 : GoodIn wsX7_castNode (va_wsU RX7 235 RX0 "SternBrocotExplorer$Node" ⟨"SternBrocotExplorer$Node", "kind", "()I"⟩ yX3_kind wsX3_kind) := goodIn_app (goodIn_of _ (by decide +kernel)) ggX7_castNode_X3_kind
set_option maxRecDepth 20000 in
theorem gX7_castNode_X3_kind_u235X2 : GoodIn wsX7_castNode (va_wsU RX7 235 RX2 "SternBrocotExplorer$Node" ⟨"SternBrocotExplorer$Node", "kind", "()I"⟩ yX3_kind wsX3_kind) := goodIn_app (goodIn_of _ (by decide +kernel)) ggX7_castNode_X3_kind
set_option maxRecDepth 20000 in
theorem gX7_castNode_X3_kind : GoodIn wsX7_castNode (wsV RX7 235 RX3 yX3_kind wsX3_kind) := goodIn_app (goodIn_of _ (by decide +kernel)) ggX7_castNode_X3_kind
set_option maxRecDepth 20000 in
theorem gX7_castNode_X3_kind_u235X5 : GoodIn wsX7_castNode (va_wsU RX7 235 RX5 "SternBrocotExplorer$Node" ⟨"SternBrocotExplorer$Node", "kind", "()I"⟩ yX3_kind wsX3_kind) := goodIn_app (goodIn_of _ (by decide +kernel)) ggX7_castNode_X3_kind
set_option maxRecDepth 20000 in
theorem gX7_castNode_X3_kind_u235X6 : GoodIn wsX7_castNode (va_wsU RX7 235 RX6 "SternBrocotExplorer$Node" ⟨"SternBrocotExplorer$Node", "kind", "()I"⟩ yX3_kind wsX3_kind) := goodIn_app (goodIn_of _ (by decide +kernel)) ggX7_castNode_X3_kind
theorem dX7_castNode_0 : decode cX7_castNode 0 = .ok (.iload_n 1, 1) := by decide +kernel
theorem dX7_castNode_1 : decode cX7_castNode 1 = .ok (.invokestatic 218, 3) := by decide +kernel
theorem dX7_castNode_4 : decode cX7_castNode 4 = .ok (.ifCond .eq 12, 3) := by decide +kernel
theorem dX7_castNode_7 : decode cX7_castNode 7 = .ok (.iload_n 2, 1) := by decide +kernel
theorem dX7_castNode_8 : decode cX7_castNode 8 = .ok (.iconst 0, 1) := by decide +kernel
theorem dX7_castNode_9 : decode cX7_castNode 9 = .ok (.iconst 4, 1) := by decide +kernel
theorem dX7_castNode_10 : decode cX7_castNode 10 = .ok (.invokestatic 67, 3) := by decide +kernel
theorem dX7_castNode_13 : decode cX7_castNode 13 = .ok (.ifCond .ne 5, 3) := by decide +kernel
theorem dX7_castNode_16 : decode cX7_castNode 16 = .ok (.iconst (-1), 1) := by decide +kernel
theorem dX7_castNode_17 : decode cX7_castNode 17 = .ok (.ireturn, 1) := by decide +kernel
theorem dX7_castNode_18 : decode cX7_castNode 18 = .ok (.aload_n 0, 1) := by decide +kernel
theorem dX7_castNode_19 : decode cX7_castNode 19 = .ok (.getfield 18, 3) := by decide +kernel
theorem dX7_castNode_22 : decode cX7_castNode 22 = .ok (.iload_n 1, 1) := by decide +kernel
theorem dX7_castNode_23 : decode cX7_castNode 23 = .ok (.aaload, 1) := by decide +kernel
theorem dX7_castNode_24 : decode cX7_castNode 24 = .ok (.astore_n 3, 1) := by decide +kernel
theorem dX7_castNode_25 : decode cX7_castNode 25 = .ok (.aload_n 3, 1) := by decide +kernel
theorem dX7_castNode_26 : decode cX7_castNode 26 = .ok (.ifnonnull 6, 3) := by decide +kernel
theorem dX7_castNode_29 : decode cX7_castNode 29 = .ok (.bipush (-11), 2) := by decide +kernel
theorem dX7_castNode_31 : decode cX7_castNode 31 = .ok (.ireturn, 1) := by decide +kernel
theorem dX7_castNode_32 : decode cX7_castNode 32 = .ok (.aload_n 3, 1) := by decide +kernel
theorem dX7_castNode_33 : decode cX7_castNode 33 = .ok (.iload_n 2, 1) := by decide +kernel
theorem dX7_castNode_34 : decode cX7_castNode 34 = .ok (.invokestatic 231, 3) := by decide +kernel
theorem dX7_castNode_37 : decode cX7_castNode 37 = .ok (.ifCond .eq 10, 3) := by decide +kernel
theorem dX7_castNode_40 : decode cX7_castNode 40 = .ok (.aload_n 3, 1) := by decide +kernel
theorem dX7_castNode_41 : decode cX7_castNode 41 = .ok (.invokevirtual 235, 3) := by decide +kernel
theorem dX7_castNode_44 : decode cX7_castNode 44 = .ok (.goto 5, 3) := by decide +kernel
theorem dX7_castNode_47 : decode cX7_castNode 47 = .ok (.bipush (-12), 2) := by decide +kernel
theorem dX7_castNode_49 : decode cX7_castNode 49 = .ok (.ireturn, 1) := by decide +kernel
set_option maxRecDepth 20000 in
theorem ggX7_newArray_X7_isArray : GoodIn wsX7_newArray wsX7_isArray := goodIn_r _ [6] (by decide +kernel) (by decide +kernel)
set_option maxRecDepth 20000 in
theorem gX7_newArray_X7_isArray : GoodIn wsX7_newArray (va_wsS RX7 183 yX7_isArray wsX7_isArray) := goodIn_app (goodIn_of _ (by decide +kernel)) ggX7_newArray_X7_isArray
theorem dX7_newArray_0 : decode cX7_newArray 0 = .ok (.iload_n 1, 1) := by decide +kernel
theorem dX7_newArray_1 : decode cX7_newArray 1 = .ok (.invokestatic 183, 3) := by decide +kernel
theorem dX7_newArray_4 : decode cX7_newArray 4 = .ok (.ifCond .eq 9, 3) := by decide +kernel
theorem dX7_newArray_7 : decode cX7_newArray 7 = .ok (.iload_n 2, 1) := by decide +kernel
theorem dX7_newArray_8 : decode cX7_newArray 8 = .ok (.bipush 60, 2) := by decide +kernel
theorem dX7_newArray_10 : decode cX7_newArray 10 = .ok (.if_icmp .le 5, 3) := by decide +kernel
theorem dX7_newArray_13 : decode cX7_newArray 13 = .ok (.iconst (-1), 1) := by decide +kernel
theorem dX7_newArray_14 : decode cX7_newArray 14 = .ok (.ireturn, 1) := by decide +kernel
theorem dX7_newArray_15 : decode cX7_newArray 15 = .ok (.iload_n 2, 1) := by decide +kernel
theorem dX7_newArray_16 : decode cX7_newArray 16 = .ok (.iconst (-1), 1) := by decide +kernel
theorem dX7_newArray_17 : decode cX7_newArray 17 = .ok (.if_icmp .ge 6, 3) := by decide +kernel
theorem dX7_newArray_20 : decode cX7_newArray 20 = .ok (.bipush (-14), 2) := by decide +kernel
theorem dX7_newArray_22 : decode cX7_newArray 22 = .ok (.ireturn, 1) := by decide +kernel
theorem dX7_newArray_23 : decode cX7_newArray 23 = .ok (.iconst 0, 1) := by decide +kernel
theorem dX7_newArray_24 : decode cX7_newArray 24 = .ok (.istore_n 3, 1) := by decide +kernel
theorem dX7_newArray_25 : decode cX7_newArray 25 = .ok (.iload_n 3, 1) := by decide +kernel
theorem dX7_newArray_26 : decode cX7_newArray 26 = .ok (.bipush 60, 2) := by decide +kernel
theorem dX7_newArray_28 : decode cX7_newArray 28 = .ok (.if_icmp .ge 18, 3) := by decide +kernel
theorem dX7_newArray_31 : decode cX7_newArray 31 = .ok (.aload_n 0, 1) := by decide +kernel
theorem dX7_newArray_32 : decode cX7_newArray 32 = .ok (.getfield 39, 3) := by decide +kernel
theorem dX7_newArray_35 : decode cX7_newArray 35 = .ok (.iload_n 1, 1) := by decide +kernel
theorem dX7_newArray_36 : decode cX7_newArray 36 = .ok (.aaload, 1) := by decide +kernel
theorem dX7_newArray_37 : decode cX7_newArray 37 = .ok (.iload_n 3, 1) := by decide +kernel
theorem dX7_newArray_38 : decode cX7_newArray 38 = .ok (.iconst 0, 1) := by decide +kernel
theorem dX7_newArray_39 : decode cX7_newArray 39 = .ok (.iastore, 1) := by decide +kernel
theorem dX7_newArray_40 : decode cX7_newArray 40 = .ok (.iinc 3 1, 3) := by decide +kernel
theorem dX7_newArray_43 : decode cX7_newArray 43 = .ok (.goto (-18), 3) := by decide +kernel
theorem dX7_newArray_46 : decode cX7_newArray 46 = .ok (.aload_n 0, 1) := by decide +kernel
theorem dX7_newArray_47 : decode cX7_newArray 47 = .ok (.getfield 42, 3) := by decide +kernel
theorem dX7_newArray_50 : decode cX7_newArray 50 = .ok (.iload_n 1, 1) := by decide +kernel
theorem dX7_newArray_51 : decode cX7_newArray 51 = .ok (.iload_n 2, 1) := by decide +kernel
theorem dX7_newArray_52 : decode cX7_newArray 52 = .ok (.iastore, 1) := by decide +kernel
theorem dX7_newArray_53 : decode cX7_newArray 53 = .ok (.iconst 1, 1) := by decide +kernel
theorem dX7_newArray_54 : decode cX7_newArray 54 = .ok (.ireturn, 1) := by decide +kernel
set_option maxRecDepth 20000 in
theorem ggX7_setElement_X7_isArray : GoodIn wsX7_setElement wsX7_isArray := goodIn_r _ [6] (by decide +kernel) (by decide +kernel)
set_option maxRecDepth 20000 in
theorem gX7_setElement_X7_isArray : GoodIn wsX7_setElement (va_wsS RX7 183 yX7_isArray wsX7_isArray) := goodIn_app (goodIn_of _ (by decide +kernel)) ggX7_setElement_X7_isArray
set_option maxRecDepth 20000 in
theorem ggX7_setElement_X7_isIndex : GoodIn wsX7_setElement wsX7_isIndex := goodIn_r _ [10, 1, 11, 12, 13, 14, 15, 16, 17, 18, 19, 20, 21, 22, 23, 24, 25, 26] (by decide +kernel) (by decide +kernel)
set_option maxRecDepth 20000 in
theorem gX7_setElement_X7_isIndex : GoodIn wsX7_setElement (wsV RX7 238 RX7 yX7_isIndex wsX7_isIndex) := goodIn_app (goodIn_of _ (by decide +kernel)) ggX7_setElement_X7_isIndex
theorem dX7_setElement_0 : decode cX7_setElement 0 = .ok (.iload_n 1, 1) := by decide +kernel
theorem dX7_setElement_1 : decode cX7_setElement 1 = .ok (.invokestatic 183, 3) := by decide +kernel
theorem dX7_setElement_4 : decode cX7_setElement 4 = .ok (.ifCond .ne 5, 3) := by decide +kernel
theorem dX7_setElement_7 : decode cX7_setElement 7 = .ok (.iconst (-1), 1) := by decide +kernel
theorem dX7_setElement_8 : decode cX7_setElement 8 = .ok (.ireturn, 1) := by decide +kernel
theorem dX7_setElement_9 : decode cX7_setElement 9 = .ok (.aload_n 0, 1) := by decide +kernel
theorem dX7_setElement_10 : decode cX7_setElement 10 = .ok (.getfield 42, 3) := by decide +kernel
theorem dX7_setElement_13 : decode cX7_setElement 13 = .ok (.iload_n 1, 1) := by decide +kernel
theorem dX7_setElement_14 : decode cX7_setElement 14 = .ok (.iaload, 1) := by decide +kernel
theorem dX7_setElement_15 : decode cX7_setElement 15 = .ok (.iconst (-1), 1) := by decide +kernel
theorem dX7_setElement_16 : decode cX7_setElement 16 = .ok (.if_icmp .ne 6, 3) := by decide +kernel
theorem dX7_setElement_19 : decode cX7_setElement 19 = .ok (.bipush (-11), 2) := by decide +kernel
theorem dX7_setElement_21 : decode cX7_setElement 21 = .ok (.ireturn, 1) := by decide +kernel
theorem dX7_setElement_22 : decode cX7_setElement 22 = .ok (.aload_n 0, 1) := by decide +kernel
theorem dX7_setElement_23 : decode cX7_setElement 23 = .ok (.iload_n 1, 1) := by decide +kernel
theorem dX7_setElement_24 : decode cX7_setElement 24 = .ok (.iload_n 2, 1) := by decide +kernel
theorem dX7_setElement_25 : decode cX7_setElement 25 = .ok (.invokevirtual 238, 3) := by decide +kernel
theorem dX7_setElement_28 : decode cX7_setElement 28 = .ok (.ifCond .ne 6, 3) := by decide +kernel
theorem dX7_setElement_31 : decode cX7_setElement 31 = .ok (.bipush (-13), 2) := by decide +kernel
theorem dX7_setElement_33 : decode cX7_setElement 33 = .ok (.ireturn, 1) := by decide +kernel
theorem dX7_setElement_34 : decode cX7_setElement 34 = .ok (.aload_n 0, 1) := by decide +kernel
theorem dX7_setElement_35 : decode cX7_setElement 35 = .ok (.getfield 39, 3) := by decide +kernel
theorem dX7_setElement_38 : decode cX7_setElement 38 = .ok (.iload_n 1, 1) := by decide +kernel
theorem dX7_setElement_39 : decode cX7_setElement 39 = .ok (.aaload, 1) := by decide +kernel
theorem dX7_setElement_40 : decode cX7_setElement 40 = .ok (.iload_n 2, 1) := by decide +kernel
theorem dX7_setElement_41 : decode cX7_setElement 41 = .ok (.iload_n 3, 1) := by decide +kernel
theorem dX7_setElement_42 : decode cX7_setElement 42 = .ok (.iastore, 1) := by decide +kernel
theorem dX7_setElement_43 : decode cX7_setElement 43 = .ok (.iconst 1, 1) := by decide +kernel
theorem dX7_setElement_44 : decode cX7_setElement 44 = .ok (.ireturn, 1) := by decide +kernel
set_option maxRecDepth 20000 in
theorem ggX7_element_X7_isArray : GoodIn wsX7_element wsX7_isArray := goodIn_r _ [6] (by decide +kernel) (by decide +kernel)
set_option maxRecDepth 20000 in
theorem gX7_element_X7_isArray : GoodIn wsX7_element (va_wsS RX7 183 yX7_isArray wsX7_isArray) := goodIn_app (goodIn_of _ (by decide +kernel)) ggX7_element_X7_isArray
set_option maxRecDepth 20000 in
theorem ggX7_element_X7_isIndex : GoodIn wsX7_element wsX7_isIndex := goodIn_r _ [10, 11, 12, 13, 14, 15, 16, 17, 18, 19, 20, 21, 22, 23, 24, 25, 26, 27] (by decide +kernel) (by decide +kernel)
set_option maxRecDepth 20000 in
theorem gX7_element_X7_isIndex : GoodIn wsX7_element (wsV RX7 238 RX7 yX7_isIndex wsX7_isIndex) := goodIn_app (goodIn_of _ (by decide +kernel)) ggX7_element_X7_isIndex
theorem dX7_element_0 : decode cX7_element 0 = .ok (.iload_n 1, 1) := by decide +kernel
theorem dX7_element_1 : decode cX7_element 1 = .ok (.invokestatic 183, 3) := by decide +kernel
theorem dX7_element_4 : decode cX7_element 4 = .ok (.ifCond .eq 24, 3) := by decide +kernel
theorem dX7_element_7 : decode cX7_element 7 = .ok (.aload_n 0, 1) := by decide +kernel
theorem dX7_element_8 : decode cX7_element 8 = .ok (.iload_n 1, 1) := by decide +kernel
theorem dX7_element_9 : decode cX7_element 9 = .ok (.iload_n 2, 1) := by decide +kernel
theorem dX7_element_10 : decode cX7_element 10 = .ok (.invokevirtual 238, 3) := by decide +kernel
theorem dX7_element_13 : decode cX7_element 13 = .ok (.ifCond .eq 15, 3) := by decide +kernel
theorem dX7_element_16 : decode cX7_element 16 = .ok (.aload_n 0, 1) := by decide +kernel
theorem dX7_element_17 : decode cX7_element 17 = .ok (.getfield 39, 3) := by decide +kernel
theorem dX7_element_20 : decode cX7_element 20 = .ok (.iload_n 1, 1) := by decide +kernel
theorem dX7_element_21 : decode cX7_element 21 = .ok (.aaload, 1) := by decide +kernel
theorem dX7_element_22 : decode cX7_element 22 = .ok (.iload_n 2, 1) := by decide +kernel
theorem dX7_element_23 : decode cX7_element 23 = .ok (.iaload, 1) := by decide +kernel
theorem dX7_element_24 : decode cX7_element 24 = .ok (.i2l, 1) := by decide +kernel
theorem dX7_element_25 : decode cX7_element 25 = .ok (.goto 6, 3) := by decide +kernel
theorem dX7_element_28 : decode cX7_element 28 = .ok (.ldc2_w 79, 3) := by decide +kernel
theorem dX7_element_31 : decode cX7_element 31 = .ok (.lreturn, 1) := by decide +kernel
set_option maxRecDepth 20000 in
theorem ggX7_fillArray_X7_isArray : GoodIn wsX7_fillArray wsX7_isArray := goodIn_r _ [6] (by decide +kernel) (by decide +kernel)
set_option maxRecDepth 20000 in
theorem gX7_fillArray_X7_isArray : GoodIn wsX7_fillArray (va_wsS RX7 183 yX7_isArray wsX7_isArray) := goodIn_app (goodIn_of _ (by decide +kernel)) ggX7_fillArray_X7_isArray
set_option maxRecDepth 20000 in
theorem ggX7_fillArray_X7_isRegister : GoodIn wsX7_fillArray wsX7_isRegister := goodIn_r _ [9] (by decide +kernel) (by decide +kernel)
set_option maxRecDepth 20000 in
theorem gX7_fillArray_X7_isRegister : GoodIn wsX7_fillArray (va_wsS RX7 62 yX7_isRegister wsX7_isRegister) := goodIn_app (goodIn_of _ (by decide +kernel)) ggX7_fillArray_X7_isRegister
set_option maxRecDepth 20000 in
theorem ggX7_fillArray_X7_isIn : GoodIn wsX7_fillArray wsX7_isIn := goodIn_r _ [12] (by decide +kernel) (by decide +kernel)
set_option maxRecDepth 20000 in
theorem gX7_fillArray_X7_isIn : GoodIn wsX7_fillArray (va_wsS RX7 67 yX7_isIn wsX7_isIn) := goodIn_app (goodIn_of _ (by decide +kernel)) ggX7_fillArray_X7_isIn
set_option maxRecDepth 20000 in
theorem ggX7_fillArray_X7_expand : GoodIn wsX7_fillArray wsX7_expand := goodIn_r _ [16, 17, 18, 19, 20, 21, 22, 23, 24, 25, 26, 27, 28, 29, 30, 66, 67, 68, 69, 70, 71, 72, 73, 74, 75, 76, 77, 78, 79, 80, 81, 82, 83, 84, 85, 86, 87] (by decide +kernel) (by decide +kernel)
set_option maxRecDepth 20000 in
theorem gX7_fillArray_X7_expand : GoodIn wsX7_fillArray (wsV RX7 81 RX7 yX7_expand wsX7_expand) := goodIn_app (goodIn_of _ (by decide +kernel)) ggX7_fillArray_X7_expand
set_option maxRecDepth 20000 in
theorem ggX7_fillArray_X1_size : GoodIn wsX7_fillArray wsX1_size := goodIn_r _ [34, 25, 82, 83, 84, 85, 86, 87] (by decide +kernel) (by decide +kernel)
set_option maxRecDepth 20000 in
theorem gX7_fillArray_X1_size : GoodIn wsX7_fillArray (wsV RX7 93 RX1 yX1_size wsX1_size) := goodIn_app (goodIn_of _ (by decide +kernel)) ggX7_fillArray_X1_size
set_option maxRecDepth 20000 in
theorem ggX7_fillArray_X7_wordSize : GoodIn wsX7_fillArray wsX7_wordSize := goodIn_r _ [38, 18, 19, 66, 67, 68, 69, 70, 71, 72, 73, 74, 75, 76, 77, 78, 79, 80, 81] (by decide +kernel) (by decide +kernel)
set_option maxRecDepth 20000 in
theorem gX7_fillArray_X7_wordSize : GoodIn wsX7_fillArray (wsV RX7 176 RX7 yX7_wordSize wsX7_wordSize) := goodIn_app (goodIn_of _ (by decide +kernel)) ggX7_fillArray_X7_wordSize
set_option maxRecDepth 20000 in
theorem ggX7_fillArray_X1_stepCount : GoodIn wsX7_fillArray wsX1_stepCount := goodIn_r _ [42, 25, 43, 44, 45, 23, 46, 47, 48, 49, 50, 30, 82, 83, 84, 85, 86, 87] (by decide +kernel) (by decide +kernel)
set_option maxRecDepth 20000 in
theorem gX7_fillArray_X1_stepCount : GoodIn wsX7_fillArray (wsV RX7 85 RX1 yX1_stepCount wsX1_stepCount) := goodIn_app (goodIn_of _ (by decide +kernel)) ggX7_fillArray_X1_stepCount
set_option maxRecDepth 20000 in
theorem ggX7_fillArray_X7_valueOf : GoodIn wsX7_fillArray wsX7_valueOf := goodIn_r _ [54, 18, 19, 55, 48, 49, 23, 50, 25, 30, 56, 57, 5, 58, 59, 60, 61, 62, 63, 64, 65, 43, 44, 45, 46, 47, 66, 67, 68, 69, 70, 71, 72, 73, 74, 75, 76, 77, 78, 79, 80, 81, 82, 83, 84, 85, 86, 87] (by decide +kernel) (by decide +kernel)
set_option maxRecDepth 20000 in
theorem gX7_fillArray_X7_valueOf : GoodIn wsX7_fillArray (wsV RX7 242 RX7 yX7_valueOf wsX7_valueOf) := goodIn_app (goodIn_of _ (by decide +kernel)) ggX7_fillArray_X7_valueOf
theorem dX7_fillArray_0 : decode cX7_fillArray 0 = .ok (.iload_n 1, 1) := by decide +kernel
theorem dX7_fillArray_1 : decode cX7_fillArray 1 = .ok (.invokestatic 183, 3) := by decide +kernel
theorem dX7_fillArray_4 : decode cX7_fillArray 4 = .ok (.ifCond .eq 19, 3) := by decide +kernel
theorem dX7_fillArray_7 : decode cX7_fillArray 7 = .ok (.iload_n 2, 1) := by decide +kernel
theorem dX7_fillArray_8 : decode cX7_fillArray 8 = .ok (.invokestatic 62, 3) := by decide +kernel
theorem dX7_fillArray_11 : decode cX7_fillArray 11 = .ok (.ifCond .eq 12, 3) := by decide +kernel
theorem dX7_fillArray_14 : decode cX7_fillArray 14 = .ok (.iload_n 3, 1) := by decide +kernel
theorem dX7_fillArray_15 : decode cX7_fillArray 15 = .ok (.iconst 0, 1) := by decide +kernel
theorem dX7_fillArray_16 : decode cX7_fillArray 16 = .ok (.iconst 2, 1) := by decide +kernel
theorem dX7_fillArray_17 : decode cX7_fillArray 17 = .ok (.invokestatic 67, 3) := by decide +kernel
theorem dX7_fillArray_20 : decode cX7_fillArray 20 = .ok (.ifCond .ne 5, 3) := by decide +kernel
theorem dX7_fillArray_23 : decode cX7_fillArray 23 = .ok (.iconst (-1), 1) := by decide +kernel
theorem dX7_fillArray_24 : decode cX7_fillArray 24 = .ok (.ireturn, 1) := by decide +kernel
theorem dX7_fillArray_25 : decode cX7_fillArray 25 = .ok (.aload_n 0, 1) := by decide +kernel
theorem dX7_fillArray_26 : decode cX7_fillArray 26 = .ok (.iload_n 2, 1) := by decide +kernel
theorem dX7_fillArray_27 : decode cX7_fillArray 27 = .ok (.invokevirtual 81, 3) := by decide +kernel
theorem dX7_fillArray_30 : decode cX7_fillArray 30 = .ok (.astore 4, 2) := by decide +kernel
theorem dX7_fillArray_32 : decode cX7_fillArray 32 = .ok (.iload_n 3, 1) := by decide +kernel
theorem dX7_fillArray_33 : decode cX7_fillArray 33 = .ok (.ifCond .ne 11, 3) := by decide +kernel
theorem dX7_fillArray_36 : decode cX7_fillArray 36 = .ok (.aload 4, 2) := by decide +kernel
theorem dX7_fillArray_38 : decode cX7_fillArray 38 = .ok (.invokevirtual 93, 3) := by decide +kernel
theorem dX7_fillArray_41 : decode cX7_fillArray 41 = .ok (.goto 21, 3) := by decide +kernel
theorem dX7_fillArray_44 : decode cX7_fillArray 44 = .ok (.iload_n 3, 1) := by decide +kernel
theorem dX7_fillArray_45 : decode cX7_fillArray 45 = .ok (.iconst 1, 1) := by decide +kernel
theorem dX7_fillArray_46 : decode cX7_fillArray 46 = .ok (.if_icmp .ne 11, 3) := by decide +kernel
theorem dX7_fillArray_49 : decode cX7_fillArray 49 = .ok (.aload_n 0, 1) := by decide +kernel
theorem dX7_fillArray_50 : decode cX7_fillArray 50 = .ok (.iload_n 2, 1) := by decide +kernel
theorem dX7_fillArray_51 : decode cX7_fillArray 51 = .ok (.invokevirtual 176, 3) := by decide +kernel
theorem dX7_fillArray_54 : decode cX7_fillArray 54 = .ok (.goto 8, 3) := by decide +kernel
theorem dX7_fillArray_57 : decode cX7_fillArray 57 = .ok (.aload 4, 2) := by decide +kernel
theorem dX7_fillArray_59 : decode cX7_fillArray 59 = .ok (.invokevirtual 85, 3) := by decide +kernel
theorem dX7_fillArray_62 : decode cX7_fillArray 62 = .ok (.istore 5, 2) := by decide +kernel
theorem dX7_fillArray_64 : decode cX7_fillArray 64 = .ok (.iload 5, 2) := by decide +kernel
theorem dX7_fillArray_66 : decode cX7_fillArray 66 = .ok (.bipush 60, 2) := by decide +kernel
theorem dX7_fillArray_68 : decode cX7_fillArray 68 = .ok (.if_icmp .le 6, 3) := by decide +kernel
theorem dX7_fillArray_71 : decode cX7_fillArray 71 = .ok (.bipush (-3), 2) := by decide +kernel
theorem dX7_fillArray_73 : decode cX7_fillArray 73 = .ok (.ireturn, 1) := by decide +kernel
theorem dX7_fillArray_74 : decode cX7_fillArray 74 = .ok (.iconst 0, 1) := by decide +kernel
theorem dX7_fillArray_75 : decode cX7_fillArray 75 = .ok (.istore 6, 2) := by decide +kernel
theorem dX7_fillArray_77 : decode cX7_fillArray 77 = .ok (.iload 6, 2) := by decide +kernel
theorem dX7_fillArray_79 : decode cX7_fillArray 79 = .ok (.iload 5, 2) := by decide +kernel
theorem dX7_fillArray_81 : decode cX7_fillArray 81 = .ok (.if_icmp .ge 28, 3) := by decide +kernel
theorem dX7_fillArray_84 : decode cX7_fillArray 84 = .ok (.aload_n 0, 1) := by decide +kernel
theorem dX7_fillArray_85 : decode cX7_fillArray 85 = .ok (.getfield 39, 3) := by decide +kernel
theorem dX7_fillArray_88 : decode cX7_fillArray 88 = .ok (.iload_n 1, 1) := by decide +kernel
theorem dX7_fillArray_89 : decode cX7_fillArray 89 = .ok (.aaload, 1) := by decide +kernel
theorem dX7_fillArray_90 : decode cX7_fillArray 90 = .ok (.iload 6, 2) := by decide +kernel
theorem dX7_fillArray_92 : decode cX7_fillArray 92 = .ok (.aload_n 0, 1) := by decide +kernel
theorem dX7_fillArray_93 : decode cX7_fillArray 93 = .ok (.iload_n 2, 1) := by decide +kernel
theorem dX7_fillArray_94 : decode cX7_fillArray 94 = .ok (.aload 4, 2) := by decide +kernel
theorem dX7_fillArray_96 : decode cX7_fillArray 96 = .ok (.iload_n 3, 1) := by decide +kernel
theorem dX7_fillArray_97 : decode cX7_fillArray 97 = .ok (.iload 6, 2) := by decide +kernel
theorem dX7_fillArray_99 : decode cX7_fillArray 99 = .ok (.invokevirtual 242, 3) := by decide +kernel
theorem dX7_fillArray_102 : decode cX7_fillArray 102 = .ok (.iastore, 1) := by decide +kernel
theorem dX7_fillArray_103 : decode cX7_fillArray 103 = .ok (.iinc 6 1, 3) := by decide +kernel
theorem dX7_fillArray_106 : decode cX7_fillArray 106 = .ok (.goto (-29), 3) := by decide +kernel
theorem dX7_fillArray_109 : decode cX7_fillArray 109 = .ok (.aload_n 0, 1) := by decide +kernel
theorem dX7_fillArray_110 : decode cX7_fillArray 110 = .ok (.getfield 42, 3) := by decide +kernel
theorem dX7_fillArray_113 : decode cX7_fillArray 113 = .ok (.iload_n 1, 1) := by decide +kernel
theorem dX7_fillArray_114 : decode cX7_fillArray 114 = .ok (.iload 5, 2) := by decide +kernel
theorem dX7_fillArray_116 : decode cX7_fillArray 116 = .ok (.iastore, 1) := by decide +kernel
theorem dX7_fillArray_117 : decode cX7_fillArray 117 = .ok (.iload 5, 2) := by decide +kernel
theorem dX7_fillArray_119 : decode cX7_fillArray 119 = .ok (.ireturn, 1) := by decide +kernel
set_option maxRecDepth 20000 in
theorem ggX7_snapshot_X7_nodeCount : GoodIn wsX7_snapshot wsX7_nodeCount := goodIn_r _ [12, 6, 13, 14, 15, 16, 17, 18, 19, 20, 21, 22, 23, 24, 25, 26, 27, 28] (by decide +kernel) (by decide +kernel)
set_option maxRecDepth 20000 in
theorem gX7_snapshot_X7_nodeCount : GoodIn wsX7_snapshot (wsV RX7 250 RX7 yX7_nodeCount wsX7_nodeCount) := goodIn_app (goodIn_of _ (by decide +kernel)) ggX7_snapshot_X7_nodeCount
theorem dX7_snapshot_0 : decode cX7_snapshot 0 = .ok (.iconst 0, 1) := by decide +kernel
theorem dX7_snapshot_1 : decode cX7_snapshot 1 = .ok (.istore_n 1, 1) := by decide +kernel
theorem dX7_snapshot_2 : decode cX7_snapshot 2 = .ok (.iload_n 1, 1) := by decide +kernel
theorem dX7_snapshot_3 : decode cX7_snapshot 3 = .ok (.bipush 8, 2) := by decide +kernel
theorem dX7_snapshot_5 : decode cX7_snapshot 5 = .ok (.if_icmp .ge 33, 3) := by decide +kernel
theorem dX7_snapshot_8 : decode cX7_snapshot 8 = .ok (.aload_n 0, 1) := by decide +kernel
theorem dX7_snapshot_9 : decode cX7_snapshot 9 = .ok (.getfield 22, 3) := by decide +kernel
theorem dX7_snapshot_12 : decode cX7_snapshot 12 = .ok (.iload_n 1, 1) := by decide +kernel
theorem dX7_snapshot_13 : decode cX7_snapshot 13 = .ok (.aload_n 0, 1) := by decide +kernel
theorem dX7_snapshot_14 : decode cX7_snapshot 14 = .ok (.getfield 9, 3) := by decide +kernel
theorem dX7_snapshot_17 : decode cX7_snapshot 17 = .ok (.iload_n 1, 1) := by decide +kernel
theorem dX7_snapshot_18 : decode cX7_snapshot 18 = .ok (.iaload, 1) := by decide +kernel
theorem dX7_snapshot_19 : decode cX7_snapshot 19 = .ok (.iastore, 1) := by decide +kernel
theorem dX7_snapshot_20 : decode cX7_snapshot 20 = .ok (.aload_n 0, 1) := by decide +kernel
theorem dX7_snapshot_21 : decode cX7_snapshot 21 = .ok (.getfield 25, 3) := by decide +kernel
theorem dX7_snapshot_24 : decode cX7_snapshot 24 = .ok (.iload_n 1, 1) := by decide +kernel
theorem dX7_snapshot_25 : decode cX7_snapshot 25 = .ok (.aload_n 0, 1) := by decide +kernel
theorem dX7_snapshot_26 : decode cX7_snapshot 26 = .ok (.getfield 13, 3) := by decide +kernel
theorem dX7_snapshot_29 : decode cX7_snapshot 29 = .ok (.iload_n 1, 1) := by decide +kernel
theorem dX7_snapshot_30 : decode cX7_snapshot 30 = .ok (.iaload, 1) := by decide +kernel
theorem dX7_snapshot_31 : decode cX7_snapshot 31 = .ok (.iastore, 1) := by decide +kernel
theorem dX7_snapshot_32 : decode cX7_snapshot 32 = .ok (.iinc 1 1, 3) := by decide +kernel
theorem dX7_snapshot_35 : decode cX7_snapshot 35 = .ok (.goto (-33), 3) := by decide +kernel
theorem dX7_snapshot_38 : decode cX7_snapshot 38 = .ok (.iconst 0, 1) := by decide +kernel
theorem dX7_snapshot_39 : decode cX7_snapshot 39 = .ok (.istore_n 1, 1) := by decide +kernel
theorem dX7_snapshot_40 : decode cX7_snapshot 40 = .ok (.iload_n 1, 1) := by decide +kernel
theorem dX7_snapshot_41 : decode cX7_snapshot 41 = .ok (.iconst 5, 1) := by decide +kernel
theorem dX7_snapshot_42 : decode cX7_snapshot 42 = .ok (.if_icmp .ge 21, 3) := by decide +kernel
theorem dX7_snapshot_45 : decode cX7_snapshot 45 = .ok (.aload_n 0, 1) := by decide +kernel
theorem dX7_snapshot_46 : decode cX7_snapshot 46 = .ok (.getfield 28, 3) := by decide +kernel
theorem dX7_snapshot_49 : decode cX7_snapshot 49 = .ok (.iload_n 1, 1) := by decide +kernel
theorem dX7_snapshot_50 : decode cX7_snapshot 50 = .ok (.aload_n 0, 1) := by decide +kernel
theorem dX7_snapshot_51 : decode cX7_snapshot 51 = .ok (.getfield 18, 3) := by decide +kernel
theorem dX7_snapshot_54 : decode cX7_snapshot 54 = .ok (.iload_n 1, 1) := by decide +kernel
theorem dX7_snapshot_55 : decode cX7_snapshot 55 = .ok (.aaload, 1) := by decide +kernel
theorem dX7_snapshot_56 : decode cX7_snapshot 56 = .ok (.aastore, 1) := by decide +kernel
theorem dX7_snapshot_57 : decode cX7_snapshot 57 = .ok (.iinc 1 1, 3) := by decide +kernel
theorem dX7_snapshot_60 : decode cX7_snapshot 60 = .ok (.goto (-20), 3) := by decide +kernel
theorem dX7_snapshot_63 : decode cX7_snapshot 63 = .ok (.aload_n 0, 1) := by decide +kernel
theorem dX7_snapshot_64 : decode cX7_snapshot 64 = .ok (.iconst 1, 1) := by decide +kernel
theorem dX7_snapshot_65 : decode cX7_snapshot 65 = .ok (.putfield 246, 3) := by decide +kernel
theorem dX7_snapshot_68 : decode cX7_snapshot 68 = .ok (.aload_n 0, 1) := by decide +kernel
theorem dX7_snapshot_69 : decode cX7_snapshot 69 = .ok (.invokevirtual 250, 3) := by decide +kernel
theorem dX7_snapshot_72 : decode cX7_snapshot 72 = .ok (.ireturn, 1) := by decide +kernel
set_option maxRecDepth 20000 in
theorem ggX7_restore_X7_nodeCount : GoodIn wsX7_restore wsX7_nodeCount := goodIn_r _ [12, 6, 13, 14, 15, 16, 17, 18, 19, 20, 21, 22, 23, 24, 25, 26, 27, 28] (by decide +kernel) (by decide +kernel)
set_option maxRecDepth 20000 in
theorem gX7_restore_X7_nodeCount : GoodIn wsX7_restore (wsV RX7 250 RX7 yX7_nodeCount wsX7_nodeCount) := goodIn_app (goodIn_of _ (by decide +kernel)) ggX7_restore_X7_nodeCount
theorem dX7_restore_0 : decode cX7_restore 0 = .ok (.aload_n 0, 1) := by decide +kernel
theorem dX7_restore_1 : decode cX7_restore 1 = .ok (.getfield 246, 3) := by decide +kernel
theorem dX7_restore_4 : decode cX7_restore 4 = .ok (.ifCond .ne 6, 3) := by decide +kernel
theorem dX7_restore_7 : decode cX7_restore 7 = .ok (.bipush (-2), 2) := by decide +kernel
theorem dX7_restore_9 : decode cX7_restore 9 = .ok (.ireturn, 1) := by decide +kernel
theorem dX7_restore_10 : decode cX7_restore 10 = .ok (.iconst 0, 1) := by decide +kernel
theorem dX7_restore_11 : decode cX7_restore 11 = .ok (.istore_n 1, 1) := by decide +kernel
theorem dX7_restore_12 : decode cX7_restore 12 = .ok (.iload_n 1, 1) := by decide +kernel
theorem dX7_restore_13 : decode cX7_restore 13 = .ok (.bipush 8, 2) := by decide +kernel
theorem dX7_restore_15 : decode cX7_restore 15 = .ok (.if_icmp .ge 33, 3) := by decide +kernel
theorem dX7_restore_18 : decode cX7_restore 18 = .ok (.aload_n 0, 1) := by decide +kernel
theorem dX7_restore_19 : decode cX7_restore 19 = .ok (.getfield 9, 3) := by decide +kernel
theorem dX7_restore_22 : decode cX7_restore 22 = .ok (.iload_n 1, 1) := by decide +kernel
theorem dX7_restore_23 : decode cX7_restore 23 = .ok (.aload_n 0, 1) := by decide +kernel
theorem dX7_restore_24 : decode cX7_restore 24 = .ok (.getfield 22, 3) := by decide +kernel
theorem dX7_restore_27 : decode cX7_restore 27 = .ok (.iload_n 1, 1) := by decide +kernel
theorem dX7_restore_28 : decode cX7_restore 28 = .ok (.iaload, 1) := by decide +kernel
theorem dX7_restore_29 : decode cX7_restore 29 = .ok (.iastore, 1) := by decide +kernel
theorem dX7_restore_30 : decode cX7_restore 30 = .ok (.aload_n 0, 1) := by decide +kernel
theorem dX7_restore_31 : decode cX7_restore 31 = .ok (.getfield 13, 3) := by decide +kernel
theorem dX7_restore_34 : decode cX7_restore 34 = .ok (.iload_n 1, 1) := by decide +kernel
theorem dX7_restore_35 : decode cX7_restore 35 = .ok (.aload_n 0, 1) := by decide +kernel
theorem dX7_restore_36 : decode cX7_restore 36 = .ok (.getfield 25, 3) := by decide +kernel
theorem dX7_restore_39 : decode cX7_restore 39 = .ok (.iload_n 1, 1) := by decide +kernel
