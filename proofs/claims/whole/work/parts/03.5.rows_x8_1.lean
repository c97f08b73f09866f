theorem dX8_term_8 : decode cX8_term 8 = .ok (.iload_n 2, 1) := by decide +kernel
theorem dX8_term_9 : decode cX8_term 9 = .ok (.ifCond .ge 5, 3) := by decide +kernel
theorem dX8_term_12 : decode cX8_term 12 = .ok (.iconst (-1), 1) := by decide +kernel
theorem dX8_term_13 : decode cX8_term 13 = .ok (.ireturn, 1) := by decide +kernel
theorem dX8_term_14 : decode cX8_term 14 = .ok (.aload_n 0, 1) := by decide +kernel
theorem dX8_term_15 : decode cX8_term 15 = .ok (.aload_n 0, 1) := by decide +kernel
theorem dX8_term_16 : decode cX8_term 16 = .ok (.getfield 7, 3) := by decide +kernel
theorem dX8_term_19 : decode cX8_term 19 = .ok (.iload_n 1, 1) := by decide +kernel
theorem dX8_term_20 : decode cX8_term 20 = .ok (.iaload, 1) := by decide +kernel
theorem dX8_term_21 : decode cX8_term 21 = .ok (.aload_n 0, 1) := by decide +kernel
theorem dX8_term_22 : decode cX8_term 22 = .ok (.getfield 13, 3) := by decide +kernel
theorem dX8_term_25 : decode cX8_term 25 = .ok (.iload_n 1, 1) := by decide +kernel
theorem dX8_term_26 : decode cX8_term 26 = .ok (.iaload, 1) := by decide +kernel
theorem dX8_term_27 : decode cX8_term 27 = .ok (.invokevirtual 147, 3) := by decide +kernel
theorem dX8_term_30 : decode cX8_term 30 = .ok (.iload_n 2, 1) := by decide +kernel
theorem dX8_term_31 : decode cX8_term 31 = .ok (.aload_n 0, 1) := by decide +kernel
theorem dX8_term_32 : decode cX8_term 32 = .ok (.getfield 25, 3) := by decide +kernel
theorem dX8_term_35 : decode cX8_term 35 = .ok (.if_icmp .ge 12, 3) := by decide +kernel
theorem dX8_term_38 : decode cX8_term 38 = .ok (.aload_n 0, 1) := by decide +kernel
theorem dX8_term_39 : decode cX8_term 39 = .ok (.getfield 16, 3) := by decide +kernel
theorem dX8_term_42 : decode cX8_term 42 = .ok (.iload_n 2, 1) := by decide +kernel
theorem dX8_term_43 : decode cX8_term 43 = .ok (.iaload, 1) := by decide +kernel
theorem dX8_term_44 : decode cX8_term 44 = .ok (.goto 5, 3) := by decide +kernel
theorem dX8_term_47 : decode cX8_term 47 = .ok (.bipush (-2), 2) := by decide +kernel
theorem dX8_term_49 : decode cX8_term 49 = .ok (.ireturn, 1) := by decide +kernel
set_option maxRecDepth 20000 in
theorem ggX8_convergent_X8_isRegister : GoodIn wsX8_convergent wsX8_isRegister := goodIn_r _ [9, 10, 11, 12, 8, 13] (by decide +kernel) (by decide +kernel)
set_option maxRecDepth 20000 in
theorem gX8_convergent_X8_isRegister : GoodIn wsX8_convergent (wsV RX8 131 RX8 yX8_isRegister wsX8_isRegister) := goodIn_app (goodIn_of _ (by decide +kernel)) ggX8_convergent_X8_isRegister
set_option maxRecDepth 20000 in
theorem ggX8_convergent_X8_layTerms : GoodIn wsX8_convergent wsX8_layTerms := goodIn_r _ [17, 3, 4, 27, 28, 29, 30, 31, 32, 33, 34, 35, 36, 37, 38, 39, 40, 41, 42, 43, 44, 45, 46, 47, 48, 49, 50, 51, 52, 53, 54, 55, 56, 57, 58, 59, 60, 61] (by decide +kernel) (by decide +kernel)
set_option maxRecDepth 20000 in
theorem gX8_convergent_X8_layTerms : GoodIn wsX8_convergent (wsV RX8 147 RX8 yX8_layTerms wsX8_layTerms) := goodIn_app (goodIn_of _ (by decide +kernel)) ggX8_convergent_X8_layTerms
set_option maxRecDepth 20000 in
theorem ggX8_convergent_X8_put : GoodIn wsX8_convergent wsX8_put := goodIn_r _ [21, 22, 1, 2, 23, 24, 25, 8, 26, 27, 28, 29, 30, 31, 32, 33, 34, 35, 36, 37, 38, 39, 40, 41, 42, 43, 44, 45, 46, 47, 48, 49, 50, 51, 52, 53, 54, 55, 56, 57, 58, 59, 60, 61] (by decide +kernel) (by decide +kernel)
set_option maxRecDepth 20000 in
theorem gX8_convergent_X8_put : GoodIn wsX8_convergent (wsV RX8 135 RX8 yX8_put wsX8_put) := goodIn_app (goodIn_of _ (by decide +kernel)) ggX8_convergent_X8_put
theorem dX8_convergent_0 : decode cX8_convergent 0 = .ok (.aload_n 0, 1) := by decide +kernel
theorem dX8_convergent_1 : decode cX8_convergent 1 = .ok (.iload_n 1, 1) := by decide +kernel
theorem dX8_convergent_2 : decode cX8_convergent 2 = .ok (.invokevirtual 131, 3) := by decide +kernel
theorem dX8_convergent_5 : decode cX8_convergent 5 = .ok (.ifCond .eq 15, 3) := by decide +kernel
theorem dX8_convergent_8 : decode cX8_convergent 8 = .ok (.aload_n 0, 1) := by decide +kernel
theorem dX8_convergent_9 : decode cX8_convergent 9 = .ok (.iload_n 2, 1) := by decide +kernel
theorem dX8_convergent_10 : decode cX8_convergent 10 = .ok (.invokevirtual 131, 3) := by decide +kernel
theorem dX8_convergent_13 : decode cX8_convergent 13 = .ok (.ifCond .eq 7, 3) := by decide +kernel
theorem dX8_convergent_16 : decode cX8_convergent 16 = .ok (.iload_n 3, 1) := by decide +kernel
theorem dX8_convergent_17 : decode cX8_convergent 17 = .ok (.ifCond .ge 5, 3) := by decide +kernel
theorem dX8_convergent_20 : decode cX8_convergent 20 = .ok (.iconst (-1), 1) := by decide +kernel
theorem dX8_convergent_21 : decode cX8_convergent 21 = .ok (.ireturn, 1) := by decide +kernel
theorem dX8_convergent_22 : decode cX8_convergent 22 = .ok (.aload_n 0, 1) := by decide +kernel
theorem dX8_convergent_23 : decode cX8_convergent 23 = .ok (.aload_n 0, 1) := by decide +kernel
theorem dX8_convergent_24 : decode cX8_convergent 24 = .ok (.getfield 7, 3) := by decide +kernel
theorem dX8_convergent_27 : decode cX8_convergent 27 = .ok (.iload_n 2, 1) := by decide +kernel
theorem dX8_convergent_28 : decode cX8_convergent 28 = .ok (.iaload, 1) := by decide +kernel
theorem dX8_convergent_29 : decode cX8_convergent 29 = .ok (.aload_n 0, 1) := by decide +kernel
theorem dX8_convergent_30 : decode cX8_convergent 30 = .ok (.getfield 13, 3) := by decide +kernel
theorem dX8_convergent_33 : decode cX8_convergent 33 = .ok (.iload_n 2, 1) := by decide +kernel
theorem dX8_convergent_34 : decode cX8_convergent 34 = .ok (.iaload, 1) := by decide +kernel
theorem dX8_convergent_35 : decode cX8_convergent 35 = .ok (.invokevirtual 147, 3) := by decide +kernel
theorem dX8_convergent_38 : decode cX8_convergent 38 = .ok (.iload_n 3, 1) := by decide +kernel
theorem dX8_convergent_39 : decode cX8_convergent 39 = .ok (.aload_n 0, 1) := by decide +kernel
theorem dX8_convergent_40 : decode cX8_convergent 40 = .ok (.getfield 25, 3) := by decide +kernel
theorem dX8_convergent_43 : decode cX8_convergent 43 = .ok (.if_icmp .lt 6, 3) := by decide +kernel
theorem dX8_convergent_46 : decode cX8_convergent 46 = .ok (.bipush (-2), 2) := by decide +kernel
theorem dX8_convergent_48 : decode cX8_convergent 48 = .ok (.ireturn, 1) := by decide +kernel
theorem dX8_convergent_49 : decode cX8_convergent 49 = .ok (.aload_n 0, 1) := by decide +kernel
theorem dX8_convergent_50 : decode cX8_convergent 50 = .ok (.getfield 16, 3) := by decide +kernel
theorem dX8_convergent_53 : decode cX8_convergent 53 = .ok (.iload_n 3, 1) := by decide +kernel
theorem dX8_convergent_54 : decode cX8_convergent 54 = .ok (.iaload, 1) := by decide +kernel
theorem dX8_convergent_55 : decode cX8_convergent 55 = .ok (.i2l, 1) := by decide +kernel
theorem dX8_convergent_56 : decode cX8_convergent 56 = .ok (.lstore 4, 2) := by decide +kernel
theorem dX8_convergent_58 : decode cX8_convergent 58 = .ok (.lconst 1, 1) := by decide +kernel
theorem dX8_convergent_59 : decode cX8_convergent 59 = .ok (.lstore 6, 2) := by decide +kernel
theorem dX8_convergent_61 : decode cX8_convergent 61 = .ok (.iload_n 3, 1) := by decide +kernel
theorem dX8_convergent_62 : decode cX8_convergent 62 = .ok (.iconst 1, 1) := by decide +kernel
theorem dX8_convergent_63 : decode cX8_convergent 63 = .ok (.isub, 1) := by decide +kernel
theorem dX8_convergent_64 : decode cX8_convergent 64 = .ok (.istore 8, 2) := by decide +kernel
theorem dX8_convergent_66 : decode cX8_convergent 66 = .ok (.iload 8, 2) := by decide +kernel
theorem dX8_convergent_68 : decode cX8_convergent 68 = .ok (.ifCond .lt 33, 3) := by decide +kernel
theorem dX8_convergent_71 : decode cX8_convergent 71 = .ok (.lload 4, 2) := by decide +kernel
theorem dX8_convergent_73 : decode cX8_convergent 73 = .ok (.lstore 9, 2) := by decide +kernel
theorem dX8_convergent_75 : decode cX8_convergent 75 = .ok (.aload_n 0, 1) := by decide +kernel
theorem dX8_convergent_76 : decode cX8_convergent 76 = .ok (.getfield 16, 3) := by decide +kernel
theorem dX8_convergent_79 : decode cX8_convergent 79 = .ok (.iload 8, 2) := by decide +kernel
theorem dX8_convergent_81 : decode cX8_convergent 81 = .ok (.iaload, 1) := by decide +kernel
theorem dX8_convergent_82 : decode cX8_convergent 82 = .ok (.i2l, 1) := by decide +kernel
theorem dX8_convergent_83 : decode cX8_convergent 83 = .ok (.lload 4, 2) := by decide +kernel
theorem dX8_convergent_85 : decode cX8_convergent 85 = .ok (.lmul, 1) := by decide +kernel
theorem dX8_convergent_86 : decode cX8_convergent 86 = .ok (.lload 6, 2) := by decide +kernel
theorem dX8_convergent_88 : decode cX8_convergent 88 = .ok (.ladd, 1) := by decide +kernel
theorem dX8_convergent_89 : decode cX8_convergent 89 = .ok (.lstore 4, 2) := by decide +kernel
theorem dX8_convergent_91 : decode cX8_convergent 91 = .ok (.lload 9, 2) := by decide +kernel
theorem dX8_convergent_93 : decode cX8_convergent 93 = .ok (.lstore 6, 2) := by decide +kernel
theorem dX8_convergent_95 : decode cX8_convergent 95 = .ok (.iinc 8 (-1), 3) := by decide +kernel
theorem dX8_convergent_98 : decode cX8_convergent 98 = .ok (.goto (-32), 3) := by decide +kernel
theorem dX8_convergent_101 : decode cX8_convergent 101 = .ok (.lload 4, 2) := by decide +kernel
theorem dX8_convergent_103 : decode cX8_convergent 103 = .ok (.lconst 0, 1) := by decide +kernel
theorem dX8_convergent_104 : decode cX8_convergent 104 = .ok (.lcmp, 1) := by decide +kernel
theorem dX8_convergent_105 : decode cX8_convergent 105 = .ok (.ifCond .ne 8, 3) := by decide +kernel
theorem dX8_convergent_108 : decode cX8_convergent 108 = .ok (.bipush (-2), 2) := by decide +kernel
theorem dX8_convergent_110 : decode cX8_convergent 110 = .ok (.goto 12, 3) := by decide +kernel
theorem dX8_convergent_113 : decode cX8_convergent 113 = .ok (.aload_n 0, 1) := by decide +kernel
theorem dX8_convergent_114 : decode cX8_convergent 114 = .ok (.iload_n 1, 1) := by decide +kernel
theorem dX8_convergent_115 : decode cX8_convergent 115 = .ok (.lload 4, 2) := by decide +kernel
theorem dX8_convergent_117 : decode cX8_convergent 117 = .ok (.lload 6, 2) := by decide +kernel
theorem dX8_convergent_119 : decode cX8_convergent 119 = .ok (.invokevirtual 135, 3) := by decide +kernel
theorem dX8_convergent_122 : decode cX8_convergent 122 = .ok (.ireturn, 1) := by decide +kernel
set_option maxRecDepth 20000 in
theorem ggX8_pushTerm_X8_within : GoodIn wsX8_pushTerm wsX8_within := goodIn_r _ [7] (by decide +kernel) (by decide +kernel)
set_option maxRecDepth 20000 in
theorem gX8_pushTerm_X8_within : GoodIn wsX8_pushTerm (va_wsS RX8 121 yX8_within wsX8_within) := goodIn_app (goodIn_of _ (by decide +kernel)) ggX8_pushTerm_X8_within
theorem dX8_pushTerm_0 : decode cX8_pushTerm 0 = .ok (.iload_n 1, 1) := by decide +kernel
theorem dX8_pushTerm_1 : decode cX8_pushTerm 1 = .ok (.i2l, 1) := by decide +kernel
theorem dX8_pushTerm_2 : decode cX8_pushTerm 2 = .ok (.lconst 0, 1) := by decide +kernel
theorem dX8_pushTerm_3 : decode cX8_pushTerm 3 = .ok (.ldc2_w 129, 3) := by decide +kernel
theorem dX8_pushTerm_6 : decode cX8_pushTerm 6 = .ok (.invokestatic 121, 3) := by decide +kernel
theorem dX8_pushTerm_9 : decode cX8_pushTerm 9 = .ok (.ifCond .ne 5, 3) := by decide +kernel
theorem dX8_pushTerm_12 : decode cX8_pushTerm 12 = .ok (.iconst (-1), 1) := by decide +kernel
theorem dX8_pushTerm_13 : decode cX8_pushTerm 13 = .ok (.ireturn, 1) := by decide +kernel
theorem dX8_pushTerm_14 : decode cX8_pushTerm 14 = .ok (.aload_n 0, 1) := by decide +kernel
theorem dX8_pushTerm_15 : decode cX8_pushTerm 15 = .ok (.getfield 54, 3) := by decide +kernel
theorem dX8_pushTerm_18 : decode cX8_pushTerm 18 = .ok (.bipush 20, 2) := by decide +kernel
theorem dX8_pushTerm_20 : decode cX8_pushTerm 20 = .ok (.if_icmp .ne 6, 3) := by decide +kernel
theorem dX8_pushTerm_23 : decode cX8_pushTerm 23 = .ok (.bipush (-5), 2) := by decide +kernel
theorem dX8_pushTerm_25 : decode cX8_pushTerm 25 = .ok (.ireturn, 1) := by decide +kernel
theorem dX8_pushTerm_26 : decode cX8_pushTerm 26 = .ok (.aload_n 0, 1) := by decide +kernel
theorem dX8_pushTerm_27 : decode cX8_pushTerm 27 = .ok (.getfield 51, 3) := by decide +kernel
theorem dX8_pushTerm_30 : decode cX8_pushTerm 30 = .ok (.aload_n 0, 1) := by decide +kernel
theorem dX8_pushTerm_31 : decode cX8_pushTerm 31 = .ok (.getfield 54, 3) := by decide +kernel
theorem dX8_pushTerm_34 : decode cX8_pushTerm 34 = .ok (.iload_n 1, 1) := by decide +kernel
theorem dX8_pushTerm_35 : decode cX8_pushTerm 35 = .ok (.iastore, 1) := by decide +kernel
theorem dX8_pushTerm_36 : decode cX8_pushTerm 36 = .ok (.aload_n 0, 1) := by decide +kernel
theorem dX8_pushTerm_37 : decode cX8_pushTerm 37 = .ok (.dup, 1) := by decide +kernel
theorem dX8_pushTerm_38 : decode cX8_pushTerm 38 = .ok (.getfield 54, 3) := by decide +kernel
theorem dX8_pushTerm_41 : decode cX8_pushTerm 41 = .ok (.iconst 1, 1) := by decide +kernel
theorem dX8_pushTerm_42 : decode cX8_pushTerm 42 = .ok (.iadd, 1) := by decide +kernel
theorem dX8_pushTerm_43 : decode cX8_pushTerm 43 = .ok (.putfield 54, 3) := by decide +kernel
theorem dX8_pushTerm_46 : decode cX8_pushTerm 46 = .ok (.aload_n 0, 1) := by decide +kernel
theorem dX8_pushTerm_47 : decode cX8_pushTerm 47 = .ok (.getfield 54, 3) := by decide +kernel
theorem dX8_pushTerm_50 : decode cX8_pushTerm 50 = .ok (.ireturn, 1) := by decide +kernel
theorem dX8_clearTerms_0 : decode cX8_clearTerms 0 = .ok (.aload_n 0, 1) := by decide +kernel
theorem dX8_clearTerms_1 : decode cX8_clearTerms 1 = .ok (.getfield 54, 3) := by decide +kernel
theorem dX8_clearTerms_4 : decode cX8_clearTerms 4 = .ok (.istore_n 1, 1) := by decide +kernel
theorem dX8_clearTerms_5 : decode cX8_clearTerms 5 = .ok (.aload_n 0, 1) := by decide +kernel
theorem dX8_clearTerms_6 : decode cX8_clearTerms 6 = .ok (.iconst 0, 1) := by decide +kernel
theorem dX8_clearTerms_7 : decode cX8_clearTerms 7 = .ok (.putfield 54, 3) := by decide +kernel
theorem dX8_clearTerms_10 : decode cX8_clearTerms 10 = .ok (.iload_n 1, 1) := by decide +kernel
theorem dX8_clearTerms_11 : decode cX8_clearTerms 11 = .ok (.ireturn, 1) := by decide +kernel
set_option maxRecDepth 20000 in
theorem ggX8_fromTerms_X8_isRegister : GoodIn wsX8_fromTerms wsX8_isRegister := goodIn_r _ [8, 9, 10, 11, 7, 12] (by decide +kernel) (by decide +kernel)
set_option maxRecDepth 20000 in
theorem gX8_fromTerms_X8_isRegister : GoodIn wsX8_fromTerms (wsV RX8 131 RX8 yX8_isRegister wsX8_isRegister) := goodIn_app (goodIn_of _ (by decide +kernel)) ggX8_fromTerms_X8_isRegister
set_option maxRecDepth 20000 in
theorem ggX8_fromTerms_X8_put : GoodIn wsX8_fromTerms wsX8_put := goodIn_r _ [16, 3, 17, 18, 19, 20, 21, 7, 22, 23, 24, 25, 26, 27, 28, 29, 30, 31, 32, 33, 34, 35, 36, 37, 38, 39, 40, 41, 42, 43, 44, 45, 46, 47, 48, 49, 50, 51, 52, 53, 54, 55, 56, 57] (by decide +kernel) (by decide +kernel)
set_option maxRecDepth 20000 in
theorem gX8_fromTerms_X8_put : GoodIn wsX8_fromTerms (wsV RX8 135 RX8 yX8_put wsX8_put) := goodIn_app (goodIn_of _ (by decide +kernel)) ggX8_fromTerms_X8_put
theorem dX8_fromTerms_0 : decode cX8_fromTerms 0 = .ok (.aload_n 0, 1) := by decide +kernel
theorem dX8_fromTerms_1 : decode cX8_fromTerms 1 = .ok (.iload_n 1, 1) := by decide +kernel
theorem dX8_fromTerms_2 : decode cX8_fromTerms 2 = .ok (.invokevirtual 131, 3) := by decide +kernel
theorem dX8_fromTerms_5 : decode cX8_fromTerms 5 = .ok (.ifCond .ne 5, 3) := by decide +kernel
theorem dX8_fromTerms_8 : decode cX8_fromTerms 8 = .ok (.iconst (-1), 1) := by decide +kernel
theorem dX8_fromTerms_9 : decode cX8_fromTerms 9 = .ok (.ireturn, 1) := by decide +kernel
theorem dX8_fromTerms_10 : decode cX8_fromTerms 10 = .ok (.aload_n 0, 1) := by decide +kernel
theorem dX8_fromTerms_11 : decode cX8_fromTerms 11 = .ok (.getfield 54, 3) := by decide +kernel
theorem dX8_fromTerms_14 : decode cX8_fromTerms 14 = .ok (.ifCond .eq 20, 3) := by decide +kernel
theorem dX8_fromTerms_17 : decode cX8_fromTerms 17 = .ok (.aload_n 0, 1) := by decide +kernel
theorem dX8_fromTerms_18 : decode cX8_fromTerms 18 = .ok (.getfield 54, 3) := by decide +kernel
theorem dX8_fromTerms_21 : decode cX8_fromTerms 21 = .ok (.iconst 1, 1) := by decide +kernel
theorem dX8_fromTerms_22 : decode cX8_fromTerms 22 = .ok (.if_icmp .ne 15, 3) := by decide +kernel
theorem dX8_fromTerms_25 : decode cX8_fromTerms 25 = .ok (.aload_n 0, 1) := by decide +kernel
theorem dX8_fromTerms_26 : decode cX8_fromTerms 26 = .ok (.getfield 51, 3) := by decide +kernel
theorem dX8_fromTerms_29 : decode cX8_fromTerms 29 = .ok (.iconst 0, 1) := by decide +kernel
theorem dX8_fromTerms_30 : decode cX8_fromTerms 30 = .ok (.iaload, 1) := by decide +kernel
theorem dX8_fromTerms_31 : decode cX8_fromTerms 31 = .ok (.ifCond .ne 6, 3) := by decide +kernel
theorem dX8_fromTerms_34 : decode cX8_fromTerms 34 = .ok (.bipush (-2), 2) := by decide +kernel
theorem dX8_fromTerms_36 : decode cX8_fromTerms 36 = .ok (.ireturn, 1) := by decide +kernel
theorem dX8_fromTerms_37 : decode cX8_fromTerms 37 = .ok (.iconst 1, 1) := by decide +kernel
theorem dX8_fromTerms_38 : decode cX8_fromTerms 38 = .ok (.istore_n 2, 1) := by decide +kernel
theorem dX8_fromTerms_39 : decode cX8_fromTerms 39 = .ok (.iload_n 2, 1) := by decide +kernel
theorem dX8_fromTerms_40 : decode cX8_fromTerms 40 = .ok (.aload_n 0, 1) := by decide +kernel
theorem dX8_fromTerms_41 : decode cX8_fromTerms 41 = .ok (.getfield 54, 3) := by decide +kernel
theorem dX8_fromTerms_44 : decode cX8_fromTerms 44 = .ok (.if_icmp .ge 21, 3) := by decide +kernel
theorem dX8_fromTerms_47 : decode cX8_fromTerms 47 = .ok (.aload_n 0, 1) := by decide +kernel
theorem dX8_fromTerms_48 : decode cX8_fromTerms 48 = .ok (.getfield 51, 3) := by decide +kernel
theorem dX8_fromTerms_51 : decode cX8_fromTerms 51 = .ok (.iload_n 2, 1) := by decide +kernel
theorem dX8_fromTerms_52 : decode cX8_fromTerms 52 = .ok (.iaload, 1) := by decide +kernel
theorem dX8_fromTerms_53 : decode cX8_fromTerms 53 = .ok (.ifCond .ne 6, 3) := by decide +kernel
theorem dX8_fromTerms_56 : decode cX8_fromTerms 56 = .ok (.bipush (-2), 2) := by decide +kernel
theorem dX8_fromTerms_58 : decode cX8_fromTerms 58 = .ok (.ireturn, 1) := by decide +kernel
theorem dX8_fromTerms_59 : decode cX8_fromTerms 59 = .ok (.iinc 2 1, 3) := by decide +kernel
theorem dX8_fromTerms_62 : decode cX8_fromTerms 62 = .ok (.goto (-23), 3) := by decide +kernel
theorem dX8_fromTerms_65 : decode cX8_fromTerms 65 = .ok (.aload_n 0, 1) := by decide +kernel
theorem dX8_fromTerms_66 : decode cX8_fromTerms 66 = .ok (.getfield 51, 3) := by decide +kernel
theorem dX8_fromTerms_69 : decode cX8_fromTerms 69 = .ok (.aload_n 0, 1) := by decide +kernel
theorem dX8_fromTerms_70 : decode cX8_fromTerms 70 = .ok (.getfield 54, 3) := by decide +kernel
theorem dX8_fromTerms_73 : decode cX8_fromTerms 73 = .ok (.iconst 1, 1) := by decide +kernel
theorem dX8_fromTerms_74 : decode cX8_fromTerms 74 = .ok (.isub, 1) := by decide +kernel
theorem dX8_fromTerms_75 : decode cX8_fromTerms 75 = .ok (.iaload, 1) := by decide +kernel
theorem dX8_fromTerms_76 : decode cX8_fromTerms 76 = .ok (.i2l, 1) := by decide +kernel
theorem dX8_fromTerms_77 : decode cX8_fromTerms 77 = .ok (.lstore_n 2, 1) := by decide +kernel
theorem dX8_fromTerms_78 : decode cX8_fromTerms 78 = .ok (.lconst 1, 1) := by decide +kernel
theorem dX8_fromTerms_79 : decode cX8_fromTerms 79 = .ok (.lstore 4, 2) := by decide +kernel
theorem dX8_fromTerms_81 : decode cX8_fromTerms 81 = .ok (.aload_n 0, 1) := by decide +kernel
theorem dX8_fromTerms_82 : decode cX8_fromTerms 82 = .ok (.getfield 54, 3) := by decide +kernel
theorem dX8_fromTerms_85 : decode cX8_fromTerms 85 = .ok (.iconst 2, 1) := by decide +kernel
theorem dX8_fromTerms_86 : decode cX8_fromTerms 86 = .ok (.isub, 1) := by decide +kernel
theorem dX8_fromTerms_87 : decode cX8_fromTerms 87 = .ok (.istore 6, 2) := by decide +kernel
theorem dX8_fromTerms_89 : decode cX8_fromTerms 89 = .ok (.iload 6, 2) := by decide +kernel
theorem dX8_fromTerms_91 : decode cX8_fromTerms 91 = .ok (.ifCond .lt 50, 3) := by decide +kernel
theorem dX8_fromTerms_94 : decode cX8_fromTerms 94 = .ok (.lload_n 2, 1) := by decide +kernel
theorem dX8_fromTerms_95 : decode cX8_fromTerms 95 = .ok (.lstore 7, 2) := by decide +kernel
theorem dX8_fromTerms_97 : decode cX8_fromTerms 97 = .ok (.aload_n 0, 1) := by decide +kernel
theorem dX8_fromTerms_98 : decode cX8_fromTerms 98 = .ok (.getfield 51, 3) := by decide +kernel
theorem dX8_fromTerms_101 : decode cX8_fromTerms 101 = .ok (.iload 6, 2) := by decide +kernel
theorem dX8_fromTerms_103 : decode cX8_fromTerms 103 = .ok (.iaload, 1) := by decide +kernel
theorem dX8_fromTerms_104 : decode cX8_fromTerms 104 = .ok (.i2l, 1) := by decide +kernel
theorem dX8_fromTerms_105 : decode cX8_fromTerms 105 = .ok (.lload_n 2, 1) := by decide +kernel
theorem dX8_fromTerms_106 : decode cX8_fromTerms 106 = .ok (.lmul, 1) := by decide +kernel
theorem dX8_fromTerms_107 : decode cX8_fromTerms 107 = .ok (.lload 4, 2) := by decide +kernel
theorem dX8_fromTerms_109 : decode cX8_fromTerms 109 = .ok (.ladd, 1) := by decide +kernel
theorem dX8_fromTerms_110 : decode cX8_fromTerms 110 = .ok (.lstore_n 2, 1) := by decide +kernel
theorem dX8_fromTerms_111 : decode cX8_fromTerms 111 = .ok (.lload 7, 2) := by decide +kernel
theorem dX8_fromTerms_113 : decode cX8_fromTerms 113 = .ok (.lstore 4, 2) := by decide +kernel
theorem dX8_fromTerms_115 : decode cX8_fromTerms 115 = .ok (.lload_n 2, 1) := by decide +kernel
theorem dX8_fromTerms_116 : decode cX8_fromTerms 116 = .ok (.ldc2_w 129, 3) := by decide +kernel
theorem dX8_fromTerms_119 : decode cX8_fromTerms 119 = .ok (.lcmp, 1) := by decide +kernel
theorem dX8_fromTerms_120 : decode cX8_fromTerms 120 = .ok (.ifCond .gt 12, 3) := by decide +kernel
theorem dX8_fromTerms_123 : decode cX8_fromTerms 123 = .ok (.lload 4, 2) := by decide +kernel
theorem dX8_fromTerms_125 : decode cX8_fromTerms 125 = .ok (.ldc2_w 129, 3) := by decide +kernel
theorem dX8_fromTerms_128 : decode cX8_fromTerms 128 = .ok (.lcmp, 1) := by decide +kernel
theorem dX8_fromTerms_129 : decode cX8_fromTerms 129 = .ok (.ifCond .le 6, 3) := by decide +kernel
theorem dX8_fromTerms_132 : decode cX8_fromTerms 132 = .ok (.bipush (-3), 2) := by decide +kernel
theorem dX8_fromTerms_134 : decode cX8_fromTerms 134 = .ok (.ireturn, 1) := by decide +kernel
theorem dX8_fromTerms_135 : decode cX8_fromTerms 135 = .ok (.iinc 6 (-1), 3) := by decide +kernel
theorem dX8_fromTerms_138 : decode cX8_fromTerms 138 = .ok (.goto (-49), 3) := by decide +kernel
theorem dX8_fromTerms_141 : decode cX8_fromTerms 141 = .ok (.aload_n 0, 1) := by decide +kernel
theorem dX8_fromTerms_142 : decode cX8_fromTerms 142 = .ok (.iload_n 1, 1) := by decide +kernel
theorem dX8_fromTerms_143 : decode cX8_fromTerms 143 = .ok (.lload_n 2, 1) := by decide +kernel
theorem dX8_fromTerms_144 : decode cX8_fromTerms 144 = .ok (.lload 4, 2) := by decide +kernel
theorem dX8_fromTerms_146 : decode cX8_fromTerms 146 = .ok (.invokevirtual 135, 3) := by decide +kernel
theorem dX8_fromTerms_149 : decode cX8_fromTerms 149 = .ok (.ireturn, 1) := by decide +kernel
theorem dX8_less_0 : decode cX8_less 0 = .ok (.lload_n 1, 1) := by decide +kernel
theorem dX8_less_1 : decode cX8_less 1 = .ok (.lload_n 3, 1) := by decide +kernel
theorem dX8_less_2 : decode cX8_less 2 = .ok (.lcmp, 1) := by decide +kernel
theorem dX8_less_3 : decode cX8_less 3 = .ok (.ifCond .ge 7, 3) := by decide +kernel
theorem dX8_less_6 : decode cX8_less 6 = .ok (.lload_n 1, 1) := by decide +kernel
theorem dX8_less_7 : decode cX8_less 7 = .ok (.goto 4, 3) := by decide +kernel
theorem dX8_less_10 : decode cX8_less 10 = .ok (.lload_n 3, 1) := by decide +kernel
theorem dX8_less_11 : decode cX8_less 11 = .ok (.lreturn, 1) := by decide +kernel
set_option maxRecDepth 20000 in
theorem ggX8_close_X8_toRoot : GoodIn wsX8_close wsX8_toRoot := goodIn_r _ [9, 3, 1, 4, 2, 22, 23, 24, 25, 26, 27, 28, 29, 30, 31, 32, 33, 34, 35, 36, 37, 38, 39, 40, 41, 42, 43, 44, 45, 46, 47, 48, 49, 50, 51, 52, 53, 54, 55, 56] (by decide +kernel) (by decide +kernel)
set_option maxRecDepth 20000 in
theorem gX8_close_X8_toRoot : GoodIn wsX8_close (wsV RX8 162 RX8 yX8_toRoot wsX8_toRoot) := goodIn_app (goodIn_of _ (by decide +kernel)) ggX8_close_X8_toRoot
set_option maxRecDepth 20000 in
theorem ggX8_close_X8_less : GoodIn wsX8_close wsX8_less := goodIn_r _ [13] (by decide +kernel) (by decide +kernel)
set_option maxRecDepth 20000 in
theorem gX8_close_X8_less : GoodIn wsX8_close (wsV RX8 179 RX8 yX8_less wsX8_less) := goodIn_app (goodIn_of _ (by decide +kernel)) ggX8_close_X8_less
set_option maxRecDepth 20000 in
theorem ggX8_close_X8_goRight : GoodIn wsX8_close wsX8_goRight := goodIn_r _ [17, 3, 4, 1, 2, 22, 23, 24, 25, 26, 27, 28, 29, 30, 31, 32, 33, 34, 35, 36, 37, 38, 39, 40, 41, 42, 43, 44, 45, 46, 47, 48, 49, 50, 51, 52, 53, 54, 55, 56] (by decide +kernel) (by decide +kernel)
set_option maxRecDepth 20000 in
theorem gX8_close_X8_goRight : GoodIn wsX8_close (wsV RX8 165 RX8 yX8_goRight wsX8_goRight) := goodIn_app (goodIn_of _ (by decide +kernel)) ggX8_close_X8_goRight
set_option maxRecDepth 20000 in
theorem ggX8_close_X8_goLeft : GoodIn wsX8_close wsX8_goLeft := goodIn_r _ [21, 4, 3, 2, 1, 22, 23, 24, 25, 26, 27, 28, 29, 30, 31, 32, 33, 34, 35, 36, 37, 38, 39, 40, 41, 42, 43, 44, 45, 46, 47, 48, 49, 50, 51, 52, 53, 54, 55, 56] (by decide +kernel) (by decide +kernel)
set_option maxRecDepth 20000 in
theorem gX8_close_X8_goLeft : GoodIn wsX8_close (wsV RX8 169 RX8 yX8_goLeft wsX8_goLeft) := goodIn_app (goodIn_of _ (by decide +kernel)) ggX8_close_X8_goLeft
theorem dX8_close_0 : decode cX8_close 0 = .ok (.aload_n 0, 1) := by decide +kernel
theorem dX8_close_1 : decode cX8_close 1 = .ok (.invokevirtual 162, 3) := by decide +kernel
theorem dX8_close_4 : decode cX8_close 4 = .ok (.aload_n 0, 1) := by decide +kernel
theorem dX8_close_5 : decode cX8_close 5 = .ok (.getfield 36, 3) := by decide +kernel
theorem dX8_close_8 : decode cX8_close 8 = .ok (.aload_n 0, 1) := by decide +kernel
theorem dX8_close_9 : decode cX8_close 9 = .ok (.getfield 42, 3) := by decide +kernel
theorem dX8_close_12 : decode cX8_close 12 = .ok (.ladd, 1) := by decide +kernel
theorem dX8_close_13 : decode cX8_close 13 = .ok (.lload 5, 2) := by decide +kernel
theorem dX8_close_15 : decode cX8_close 15 = .ok (.lcmp, 1) := by decide +kernel
theorem dX8_close_16 : decode cX8_close 16 = .ok (.ifCond .gt 123, 3) := by decide +kernel
theorem dX8_close_19 : decode cX8_close 19 = .ok (.lload_n 1, 1) := by decide +kernel
theorem dX8_close_20 : decode cX8_close 20 = .ok (.aload_n 0, 1) := by decide +kernel
theorem dX8_close_21 : decode cX8_close 21 = .ok (.getfield 36, 3) := by decide +kernel
theorem dX8_close_24 : decode cX8_close 24 = .ok (.lmul, 1) := by decide +kernel
theorem dX8_close_25 : decode cX8_close 25 = .ok (.lload_n 3, 1) := by decide +kernel
theorem dX8_close_26 : decode cX8_close 26 = .ok (.aload_n 0, 1) := by decide +kernel
theorem dX8_close_27 : decode cX8_close 27 = .ok (.getfield 32, 3) := by decide +kernel
theorem dX8_close_30 : decode cX8_close 30 = .ok (.lmul, 1) := by decide +kernel
theorem dX8_close_31 : decode cX8_close 31 = .ok (.lsub, 1) := by decide +kernel
theorem dX8_close_32 : decode cX8_close 32 = .ok (.lstore 7, 2) := by decide +kernel
theorem dX8_close_34 : decode cX8_close 34 = .ok (.lload_n 3, 1) := by decide +kernel
theorem dX8_close_35 : decode cX8_close 35 = .ok (.aload_n 0, 1) := by decide +kernel
theorem dX8_close_36 : decode cX8_close 36 = .ok (.getfield 39, 3) := by decide +kernel
theorem dX8_close_39 : decode cX8_close 39 = .ok (.lmul, 1) := by decide +kernel
theorem dX8_close_40 : decode cX8_close 40 = .ok (.lload_n 1, 1) := by decide +kernel
theorem dX8_close_41 : decode cX8_close 41 = .ok (.aload_n 0, 1) := by decide +kernel
theorem dX8_close_42 : decode cX8_close 42 = .ok (.getfield 42, 3) := by decide +kernel
theorem dX8_close_45 : decode cX8_close 45 = .ok (.lmul, 1) := by decide +kernel
theorem dX8_close_46 : decode cX8_close 46 = .ok (.lsub, 1) := by decide +kernel
theorem dX8_close_47 : decode cX8_close 47 = .ok (.lstore 9, 2) := by decide +kernel
theorem dX8_close_49 : decode cX8_close 49 = .ok (.lload 7, 2) := by decide +kernel
theorem dX8_close_51 : decode cX8_close 51 = .ok (.lload 9, 2) := by decide +kernel
theorem dX8_close_53 : decode cX8_close 53 = .ok (.lcmp, 1) := by decide +kernel
theorem dX8_close_54 : decode cX8_close 54 = .ok (.ifCond .le 51, 3) := by decide +kernel
theorem dX8_close_57 : decode cX8_close 57 = .ok (.lload 7, 2) := by decide +kernel
theorem dX8_close_59 : decode cX8_close 59 = .ok (.lconst 1, 1) := by decide +kernel
theorem dX8_close_60 : decode cX8_close 60 = .ok (.lsub, 1) := by decide +kernel
theorem dX8_close_61 : decode cX8_close 61 = .ok (.lload 9, 2) := by decide +kernel
theorem dX8_close_63 : decode cX8_close 63 = .ok (.ldiv, 1) := by decide +kernel
theorem dX8_close_64 : decode cX8_close 64 = .ok (.lstore 11, 2) := by decide +kernel
theorem dX8_close_66 : decode cX8_close 66 = .ok (.aload_n 0, 1) := by decide +kernel
theorem dX8_close_67 : decode cX8_close 67 = .ok (.aload_n 0, 1) := by decide +kernel
theorem dX8_close_68 : decode cX8_close 68 = .ok (.getfield 42, 3) := by decide +kernel
theorem dX8_close_71 : decode cX8_close 71 = .ok (.lconst 0, 1) := by decide +kernel
theorem dX8_close_72 : decode cX8_close 72 = .ok (.lcmp, 1) := by decide +kernel
theorem dX8_close_73 : decode cX8_close 73 = .ok (.ifCond .ne 8, 3) := by decide +kernel
theorem dX8_close_76 : decode cX8_close 76 = .ok (.lload 11, 2) := by decide +kernel
theorem dX8_close_78 : decode cX8_close 78 = .ok (.goto 21, 3) := by decide +kernel
theorem dX8_close_81 : decode cX8_close 81 = .ok (.aload_n 0, 1) := by decide +kernel
theorem dX8_close_82 : decode cX8_close 82 = .ok (.lload 11, 2) := by decide +kernel
theorem dX8_close_84 : decode cX8_close 84 = .ok (.lload 5, 2) := by decide +kernel
theorem dX8_close_86 : decode cX8_close 86 = .ok (.aload_n 0, 1) := by decide +kernel
theorem dX8_close_87 : decode cX8_close 87 = .ok (.getfield 36, 3) := by decide +kernel
theorem dX8_close_90 : decode cX8_close 90 = .ok (.lsub, 1) := by decide +kernel
theorem dX8_close_91 : decode cX8_close 91 = .ok (.aload_n 0, 1) := by decide +kernel
theorem dX8_close_92 : decode cX8_close 92 = .ok (.getfield 42, 3) := by decide +kernel
theorem dX8_close_95 : decode cX8_close 95 = .ok (.ldiv, 1) := by decide +kernel
theorem dX8_close_96 : decode cX8_close 96 = .ok (.invokevirtual 179, 3) := by decide +kernel
theorem dX8_close_99 : decode cX8_close 99 = .ok (.invokevirtual 165, 3) := by decide +kernel
theorem dX8_close_102 : decode cX8_close 102 = .ok (.goto 34, 3) := by decide +kernel
theorem dX8_close_105 : decode cX8_close 105 = .ok (.lload 9, 2) := by decide +kernel
theorem dX8_close_107 : decode cX8_close 107 = .ok (.lconst 1, 1) := by decide +kernel
theorem dX8_close_108 : decode cX8_close 108 = .ok (.lsub, 1) := by decide +kernel
theorem dX8_close_109 : decode cX8_close 109 = .ok (.lload 7, 2) := by decide +kernel
theorem dX8_close_111 : decode cX8_close 111 = .ok (.ldiv, 1) := by decide +kernel
theorem dX8_close_112 : decode cX8_close 112 = .ok (.lstore 11, 2) := by decide +kernel
theorem dX8_close_114 : decode cX8_close 114 = .ok (.aload_n 0, 1) := by decide +kernel
theorem dX8_close_115 : decode cX8_close 115 = .ok (.aload_n 0, 1) := by decide +kernel
theorem dX8_close_116 : decode cX8_close 116 = .ok (.lload 11, 2) := by decide +kernel
theorem dX8_close_118 : decode cX8_close 118 = .ok (.lload 5, 2) := by decide +kernel
theorem dX8_close_120 : decode cX8_close 120 = .ok (.aload_n 0, 1) := by decide +kernel
theorem dX8_close_121 : decode cX8_close 121 = .ok (.getfield 42, 3) := by decide +kernel
theorem dX8_close_124 : decode cX8_close 124 = .ok (.lsub, 1) := by decide +kernel
theorem dX8_close_125 : decode cX8_close 125 = .ok (.aload_n 0, 1) := by decide +kernel
theorem dX8_close_126 : decode cX8_close 126 = .ok (.getfield 36, 3) := by decide +kernel
theorem dX8_close_129 : decode cX8_close 129 = .ok (.ldiv, 1) := by decide +kernel
theorem dX8_close_130 : decode cX8_close 130 = .ok (.invokevirtual 179, 3) := by decide +kernel
theorem dX8_close_133 : decode cX8_close 133 = .ok (.invokevirtual 169, 3) := by decide +kernel
theorem dX8_close_136 : decode cX8_close 136 = .ok (.goto (-132), 3) := by decide +kernel
theorem dX8_close_139 : decode cX8_close 139 = .ok (.return_, 1) := by decide +kernel
set_option maxRecDepth 20000 in
theorem ggX8_best_X8_isRegister : GoodIn wsX8_best wsX8_isRegister := goodIn_r _ [13, 14, 15, 16, 12, 17] (by decide +kernel) (by decide +kernel)
set_option maxRecDepth 20000 in
theorem gX8_best_X8_isRegister : GoodIn wsX8_best (wsV RX8 131 RX8 yX8_isRegister wsX8_isRegister) := goodIn_app (goodIn_of _ (by decide +kernel)) ggX8_best_X8_isRegister
set_option maxRecDepth 20000 in
theorem ggX8_best_X8_within : GoodIn wsX8_best wsX8_within := goodIn_r _ [17] (by decide +kernel) (by decide +kernel)
set_option maxRecDepth 20000 in
theorem gX8_best_X8_within : GoodIn wsX8_best (va_wsS RX8 121 yX8_within wsX8_within) := goodIn_app (goodIn_of _ (by decide +kernel)) ggX8_best_X8_within
set_option maxRecDepth 20000 in
theorem ggX8_best_X8_put : GoodIn wsX8_best wsX8_put := goodIn_r _ [21, 1, 3, 4, 22, 23, 24, 12, 25, 46, 47, 48, 49, 50, 51, 52, 53, 54, 55, 56, 57, 58, 59, 60, 61, 62, 63, 64, 65, 66, 67, 68, 69, 70, 71, 72, 73, 74, 75, 76, 77, 78, 79, 80] (by decide +kernel) (by decide +kernel)
set_option maxRecDepth 20000 in
theorem gX8_best_X8_put : GoodIn wsX8_best (wsV RX8 135 RX8 yX8_put wsX8_put) := goodIn_app (goodIn_of _ (by decide +kernel)) ggX8_best_X8_put
set_option maxRecDepth 20000 in
theorem ggX8_best_X8_close : GoodIn wsX8_best wsX8_close := goodIn_r _ [29, 5, 7, 6, 8, 30, 31, 32, 12, 33, 34, 35, 36, 37, 38, 39, 40, 41, 42, 43, 44, 45, 46, 47, 48, 49, 50, 51, 52, 53, 54, 55, 56, 57, 58, 59, 60, 61, 62, 63, 64, 65, 66, 67, 68, 69, 70, 71, 72, 73, 74, 75, 76, 77, 78, 79, 80] (by decide +kernel) (by decide +kernel)
set_option maxRecDepth 20000 in
theorem gX8_best_X8_close : GoodIn wsX8_best (wsV RX8 184 RX8 yX8_close wsX8_close) := goodIn_app (goodIn_of _ (by decide +kernel)) ggX8_best_X8_close
theorem dX8_best_0 : decode cX8_best 0 = .ok (.aload_n 0, 1) := by decide +kernel
theorem dX8_best_1 : decode cX8_best 1 = .ok (.iload_n 1, 1) := by decide +kernel
theorem dX8_best_2 : decode cX8_best 2 = .ok (.invokevirtual 131, 3) := by decide +kernel
theorem dX8_best_5 : decode cX8_best 5 = .ok (.ifCond .eq 36, 3) := by decide +kernel
theorem dX8_best_8 : decode cX8_best 8 = .ok (.aload_n 0, 1) := by decide +kernel
theorem dX8_best_9 : decode cX8_best 9 = .ok (.iload_n 2, 1) := by decide +kernel
theorem dX8_best_10 : decode cX8_best 10 = .ok (.invokevirtual 131, 3) := by decide +kernel
theorem dX8_best_13 : decode cX8_best 13 = .ok (.ifCond .eq 28, 3) := by decide +kernel
theorem dX8_best_16 : decode cX8_best 16 = .ok (.iload_n 3, 1) := by decide +kernel
theorem dX8_best_17 : decode cX8_best 17 = .ok (.i2l, 1) := by decide +kernel
theorem dX8_best_18 : decode cX8_best 18 = .ok (.lconst 1, 1) := by decide +kernel
theorem dX8_best_19 : decode cX8_best 19 = .ok (.ldc2_w 129, 3) := by decide +kernel
theorem dX8_best_22 : decode cX8_best 22 = .ok (.invokestatic 121, 3) := by decide +kernel
theorem dX8_best_25 : decode cX8_best 25 = .ok (.ifCond .eq 16, 3) := by decide +kernel
theorem dX8_best_28 : decode cX8_best 28 = .ok (.iload 4, 2) := by decide +kernel
theorem dX8_best_30 : decode cX8_best 30 = .ok (.i2l, 1) := by decide +kernel
theorem dX8_best_31 : decode cX8_best 31 = .ok (.lconst 0, 1) := by decide +kernel
theorem dX8_best_32 : decode cX8_best 32 = .ok (.ldc2_w 182, 3) := by decide +kernel
theorem dX8_best_35 : decode cX8_best 35 = .ok (.invokestatic 121, 3) := by decide +kernel
theorem dX8_best_38 : decode cX8_best 38 = .ok (.ifCond .ne 5, 3) := by decide +kernel
theorem dX8_best_41 : decode cX8_best 41 = .ok (.iconst (-1), 1) := by decide +kernel
theorem dX8_best_42 : decode cX8_best 42 = .ok (.ireturn, 1) := by decide +kernel
theorem dX8_best_43 : decode cX8_best 43 = .ok (.aload_n 0, 1) := by decide +kernel
theorem dX8_best_44 : decode cX8_best 44 = .ok (.getfield 7, 3) := by decide +kernel
theorem dX8_best_47 : decode cX8_best 47 = .ok (.iload_n 2, 1) := by decide +kernel
theorem dX8_best_48 : decode cX8_best 48 = .ok (.iaload, 1) := by decide +kernel
theorem dX8_best_49 : decode cX8_best 49 = .ok (.i2l, 1) := by decide +kernel
theorem dX8_best_50 : decode cX8_best 50 = .ok (.lstore 5, 2) := by decide +kernel
theorem dX8_best_52 : decode cX8_best 52 = .ok (.aload_n 0, 1) := by decide +kernel
theorem dX8_best_53 : decode cX8_best 53 = .ok (.getfield 13, 3) := by decide +kernel
theorem dX8_best_56 : decode cX8_best 56 = .ok (.iload_n 2, 1) := by decide +kernel
theorem dX8_best_57 : decode cX8_best 57 = .ok (.iaload, 1) := by decide +kernel
theorem dX8_best_58 : decode cX8_best 58 = .ok (.i2l, 1) := by decide +kernel
theorem dX8_best_59 : decode cX8_best 59 = .ok (.lstore 7, 2) := by decide +kernel
theorem dX8_best_61 : decode cX8_best 61 = .ok (.lload 7, 2) := by decide +kernel
theorem dX8_best_63 : decode cX8_best 63 = .ok (.iload_n 3, 1) := by decide +kernel
theorem dX8_best_64 : decode cX8_best 64 = .ok (.i2l, 1) := by decide +kernel
theorem dX8_best_65 : decode cX8_best 65 = .ok (.lcmp, 1) := by decide +kernel
theorem dX8_best_66 : decode cX8_best 66 = .ok (.ifCond .gt 13, 3) := by decide +kernel
theorem dX8_best_69 : decode cX8_best 69 = .ok (.aload_n 0, 1) := by decide +kernel
theorem dX8_best_70 : decode cX8_best 70 = .ok (.iload_n 1, 1) := by decide +kernel
theorem dX8_best_71 : decode cX8_best 71 = .ok (.lload 5, 2) := by decide +kernel
theorem dX8_best_73 : decode cX8_best 73 = .ok (.lload 7, 2) := by decide +kernel
theorem dX8_best_75 : decode cX8_best 75 = .ok (.invokevirtual 135, 3) := by decide +kernel
theorem dX8_best_78 : decode cX8_best 78 = .ok (.ireturn, 1) := by decide +kernel
theorem dX8_best_79 : decode cX8_best 79 = .ok (.aload_n 0, 1) := by decide +kernel
theorem dX8_best_80 : decode cX8_best 80 = .ok (.lload 5, 2) := by decide +kernel
theorem dX8_best_82 : decode cX8_best 82 = .ok (.lload 7, 2) := by decide +kernel
theorem dX8_best_84 : decode cX8_best 84 = .ok (.iload_n 3, 1) := by decide +kernel
theorem dX8_best_85 : decode cX8_best 85 = .ok (.i2l, 1) := by decide +kernel
theorem dX8_best_86 : decode cX8_best 86 = .ok (.invokevirtual 184, 3) := by decide +kernel
theorem dX8_best_89 : decode cX8_best 89 = .ok (.lload 5, 2) := by decide +kernel
theorem dX8_best_91 : decode cX8_best 91 = .ok (.aload_n 0, 1) := by decide +kernel
theorem dX8_best_92 : decode cX8_best 92 = .ok (.getfield 36, 3) := by decide +kernel
theorem dX8_best_95 : decode cX8_best 95 = .ok (.lmul, 1) := by decide +kernel
theorem dX8_best_96 : decode cX8_best 96 = .ok (.lload 7, 2) := by decide +kernel
theorem dX8_best_98 : decode cX8_best 98 = .ok (.aload_n 0, 1) := by decide +kernel
theorem dX8_best_99 : decode cX8_best 99 = .ok (.getfield 32, 3) := by decide +kernel
theorem dX8_best_102 : decode cX8_best 102 = .ok (.lmul, 1) := by decide +kernel
theorem dX8_best_103 : decode cX8_best 103 = .ok (.lsub, 1) := by decide +kernel
theorem dX8_best_104 : decode cX8_best 104 = .ok (.aload_n 0, 1) := by decide +kernel
theorem dX8_best_105 : decode cX8_best 105 = .ok (.getfield 42, 3) := by decide +kernel
theorem dX8_best_108 : decode cX8_best 108 = .ok (.lmul, 1) := by decide +kernel
theorem dX8_best_109 : decode cX8_best 109 = .ok (.lstore 9, 2) := by decide +kernel
theorem dX8_best_111 : decode cX8_best 111 = .ok (.lload 7, 2) := by decide +kernel
theorem dX8_best_113 : decode cX8_best 113 = .ok (.aload_n 0, 1) := by decide +kernel
theorem dX8_best_114 : decode cX8_best 114 = .ok (.getfield 39, 3) := by decide +kernel
theorem dX8_best_117 : decode cX8_best 117 = .ok (.lmul, 1) := by decide +kernel
theorem dX8_best_118 : decode cX8_best 118 = .ok (.lload 5, 2) := by decide +kernel
theorem dX8_best_120 : decode cX8_best 120 = .ok (.aload_n 0, 1) := by decide +kernel
theorem dX8_best_121 : decode cX8_best 121 = .ok (.getfield 42, 3) := by decide +kernel
theorem dX8_best_124 : decode cX8_best 124 = .ok (.lmul, 1) := by decide +kernel
theorem dX8_best_125 : decode cX8_best 125 = .ok (.lsub, 1) := by decide +kernel
theorem dX8_best_126 : decode cX8_best 126 = .ok (.aload_n 0, 1) := by decide +kernel
theorem dX8_best_127 : decode cX8_best 127 = .ok (.getfield 36, 3) := by decide +kernel
theorem dX8_best_130 : decode cX8_best 130 = .ok (.lmul, 1) := by decide +kernel
theorem dX8_best_131 : decode cX8_best 131 = .ok (.lstore 11, 2) := by decide +kernel
theorem dX8_best_133 : decode cX8_best 133 = .ok (.iload 4, 2) := by decide +kernel
theorem dX8_best_135 : decode cX8_best 135 = .ok (.iconst 1, 1) := by decide +kernel
theorem dX8_best_136 : decode cX8_best 136 = .ok (.if_icmp .eq 36, 3) := by decide +kernel
theorem dX8_best_139 : decode cX8_best 139 = .ok (.iload 4, 2) := by decide +kernel
theorem dX8_best_141 : decode cX8_best 141 = .ok (.ifCond .ne 35, 3) := by decide +kernel
theorem dX8_best_144 : decode cX8_best 144 = .ok (.lload 9, 2) := by decide +kernel
theorem dX8_best_146 : decode cX8_best 146 = .ok (.lload 11, 2) := by decide +kernel
theorem dX8_best_148 : decode cX8_best 148 = .ok (.lcmp, 1) := by decide +kernel
theorem dX8_best_149 : decode cX8_best 149 = .ok (.ifCond .lt 23, 3) := by decide +kernel
theorem dX8_best_152 : decode cX8_best 152 = .ok (.lload 9, 2) := by decide +kernel
theorem dX8_best_154 : decode cX8_best 154 = .ok (.lload 11, 2) := by decide +kernel
theorem dX8_best_156 : decode cX8_best 156 = .ok (.lcmp, 1) := by decide +kernel
theorem dX8_best_157 : decode cX8_best 157 = .ok (.ifCond .ne 19, 3) := by decide +kernel
theorem dX8_best_160 : decode cX8_best 160 = .ok (.aload_n 0, 1) := by decide +kernel
theorem dX8_best_161 : decode cX8_best 161 = .ok (.getfield 36, 3) := by decide +kernel
theorem dX8_best_164 : decode cX8_best 164 = .ok (.aload_n 0, 1) := by decide +kernel
theorem dX8_best_165 : decode cX8_best 165 = .ok (.getfield 42, 3) := by decide +kernel
theorem dX8_best_168 : decode cX8_best 168 = .ok (.lcmp, 1) := by decide +kernel
theorem dX8_best_169 : decode cX8_best 169 = .ok (.ifCond .gt 7, 3) := by decide +kernel
theorem dX8_best_172 : decode cX8_best 172 = .ok (.iconst 1, 1) := by decide +kernel
theorem dX8_best_173 : decode cX8_best 173 = .ok (.goto 4, 3) := by decide +kernel
theorem dX8_best_176 : decode cX8_best 176 = .ok (.iconst 0, 1) := by decide +kernel
theorem dX8_best_177 : decode cX8_best 177 = .ok (.istore 13, 2) := by decide +kernel
theorem dX8_best_179 : decode cX8_best 179 = .ok (.iload 13, 2) := by decide +kernel
theorem dX8_best_181 : decode cX8_best 181 = .ok (.ifCond .ne 17, 3) := by decide +kernel
theorem dX8_best_184 : decode cX8_best 184 = .ok (.aload_n 0, 1) := by decide +kernel
theorem dX8_best_185 : decode cX8_best 185 = .ok (.iload_n 1, 1) := by decide +kernel
theorem dX8_best_186 : decode cX8_best 186 = .ok (.aload_n 0, 1) := by decide +kernel
theorem dX8_best_187 : decode cX8_best 187 = .ok (.getfield 39, 3) := by decide +kernel
theorem dX8_best_190 : decode cX8_best 190 = .ok (.aload_n 0, 1) := by decide +kernel
theorem dX8_best_191 : decode cX8_best 191 = .ok (.getfield 42, 3) := by decide +kernel
theorem dX8_best_194 : decode cX8_best 194 = .ok (.invokevirtual 135, 3) := by decide +kernel
theorem dX8_best_197 : decode cX8_best 197 = .ok (.ireturn, 1) := by decide +kernel
theorem dX8_best_198 : decode cX8_best 198 = .ok (.aload_n 0, 1) := by decide +kernel
theorem dX8_best_199 : decode cX8_best 199 = .ok (.getfield 32, 3) := by decide +kernel
theorem dX8_best_202 : decode cX8_best 202 = .ok (.lconst 0, 1) := by decide +kernel
theorem dX8_best_203 : decode cX8_best 203 = .ok (.lcmp, 1) := by decide +kernel
theorem dX8_best_204 : decode cX8_best 204 = .ok (.ifCond .ne 8, 3) := by decide +kernel
theorem dX8_best_207 : decode cX8_best 207 = .ok (.bipush (-2), 2) := by decide +kernel
theorem dX8_best_209 : decode cX8_best 209 = .ok (.goto 16, 3) := by decide +kernel
theorem dX8_best_212 : decode cX8_best 212 = .ok (.aload_n 0, 1) := by decide +kernel
theorem dX8_best_213 : decode cX8_best 213 = .ok (.iload_n 1, 1) := by decide +kernel
theorem dX8_best_214 : decode cX8_best 214 = .ok (.aload_n 0, 1) := by decide +kernel
theorem dX8_best_215 : decode cX8_best 215 = .ok (.getfield 32, 3) := by decide +kernel
theorem dX8_best_218 : decode cX8_best 218 = .ok (.aload_n 0, 1) := by decide +kernel
theorem dX8_best_219 : decode cX8_best 219 = .ok (.getfield 36, 3) := by decide +kernel
theorem dX8_best_222 : decode cX8_best 222 = .ok (.invokevirtual 135, 3) := by decide +kernel
theorem dX8_best_225 : decode cX8_best 225 = .ok (.ireturn, 1) := by decide +kernel
set_option maxRecDepth 20000 in
theorem ggX8_simplestBetween_X8_isRegister : GoodIn wsX8_simplestBetween wsX8_isRegister := goodIn_r _ [11, 12, 13, 14, 10, 15] (by decide +kernel) (by decide +kernel)
set_option maxRecDepth 20000 in
theorem gX8_simplestBetween_X8_isRegister : GoodIn wsX8_simplestBetween (wsV RX8 131 RX8 yX8_isRegister wsX8_isRegister) := goodIn_app (goodIn_of _ (by decide +kernel)) ggX8_simplestBetween_X8_isRegister
set_option maxRecDepth 20000 in
theorem ggX8_simplestBetween_X8_cross : GoodIn wsX8_simplestBetween wsX8_cross := goodIn_r _ [19, 1, 2, 41, 42, 43, 44, 45, 46, 47, 48, 49, 50, 51, 52, 53, 54, 55, 56, 57, 58, 59, 60, 61, 62, 63, 64, 65, 66, 67, 68, 69, 70, 71, 72, 73, 74, 75] (by decide +kernel) (by decide +kernel)
set_option maxRecDepth 20000 in
theorem gX8_simplestBetween_X8_cross : GoodIn wsX8_simplestBetween (wsV RX8 139 RX8 yX8_cross wsX8_cross) := goodIn_app (goodIn_of _ (by decide +kernel)) ggX8_simplestBetween_X8_cross
set_option maxRecDepth 20000 in
theorem ggX8_simplestBetween_X8_toRoot : GoodIn wsX8_simplestBetween wsX8_toRoot := goodIn_r _ [23, 3, 5, 4, 6, 41, 42, 43, 44, 45, 46, 47, 48, 49, 50, 51, 52, 53, 54, 55, 56, 57, 58, 59, 60, 61, 62, 63, 64, 65, 66, 67, 68, 69, 70, 71, 72, 73, 74, 75] (by decide +kernel) (by decide +kernel)
set_option maxRecDepth 20000 in
theorem gX8_simplestBetween_X8_toRoot : GoodIn wsX8_simplestBetween (wsV RX8 162 RX8 yX8_toRoot wsX8_toRoot) := goodIn_app (goodIn_of _ (by decide +kernel)) ggX8_simplestBetween_X8_toRoot
set_option maxRecDepth 20000 in
theorem ggX8_simplestBetween_X8_goRight : GoodIn wsX8_simplestBetween wsX8_goRight := goodIn_r _ [27, 3, 4, 5, 6, 41, 42, 43, 44, 45, 46, 47, 48, 49, 50, 51, 52, 53, 54, 55, 56, 57, 58, 59, 60, 61, 62, 63, 64, 65, 66, 67, 68, 69, 70, 71, 72, 73, 74, 75] (by decide +kernel) (by decide +kernel)
set_option maxRecDepth 20000 in
theorem gX8_simplestBetween_X8_goRight : GoodIn wsX8_simplestBetween (wsV RX8 165 RX8 yX8_goRight wsX8_goRight) := goodIn_app (goodIn_of _ (by decide +kernel)) ggX8_simplestBetween_X8_goRight
set_option maxRecDepth 20000 in
theorem ggX8_simplestBetween_X8_goLeft : GoodIn wsX8_simplestBetween wsX8_goLeft := goodIn_r _ [31, 4, 3, 6, 5, 41, 42, 43, 44, 45, 46, 47, 48, 49, 50, 51, 52, 53, 54, 55, 56, 57, 58, 59, 60, 61, 62, 63, 64, 65, 66, 67, 68, 69, 70, 71, 72, 73, 74, 75] (by decide +kernel) (by decide +kernel)
set_option maxRecDepth 20000 in
theorem gX8_simplestBetween_X8_goLeft : GoodIn wsX8_simplestBetween (wsV RX8 169 RX8 yX8_goLeft wsX8_goLeft) := goodIn_app (goodIn_of _ (by decide +kernel)) ggX8_simplestBetween_X8_goLeft
set_option maxRecDepth 20000 in
theorem ggX8_simplestBetween_X8_put : GoodIn wsX8_simplestBetween wsX8_put := goodIn_r _ [35, 36, 1, 2, 37, 38, 39, 10, 40, 41, 42, 43, 44, 45, 46, 47, 48, 49, 50, 51, 52, 53, 54, 55, 56, 57, 58, 59, 60, 61, 62, 63, 64, 65, 66, 67, 68, 69, 70, 71, 72, 73, 74, 75] (by decide +kernel) (by decide +kernel)
set_option maxRecDepth 20000 in
theorem gX8_simplestBetween_X8_put : GoodIn wsX8_simplestBetween (wsV RX8 135 RX8 yX8_put wsX8_put) := goodIn_app (goodIn_of _ (by decide +kernel)) ggX8_simplestBetween_X8_put
theorem dX8_simplestBetween_0 : decode cX8_simplestBetween 0 = .ok (.aload_n 0, 1) := by decide +kernel
theorem dX8_simplestBetween_1 : decode cX8_simplestBetween 1 = .ok (.iload_n 1, 1) := by decide +kernel
theorem dX8_simplestBetween_2 : decode cX8_simplestBetween 2 = .ok (.invokevirtual 131, 3) := by decide +kernel
theorem dX8_simplestBetween_5 : decode cX8_simplestBetween 5 = .ok (.ifCond .eq 19, 3) := by decide +kernel
theorem dX8_simplestBetween_8 : decode cX8_simplestBetween 8 = .ok (.aload_n 0, 1) := by decide +kernel
theorem dX8_simplestBetween_9 : decode cX8_simplestBetween 9 = .ok (.iload_n 2, 1) := by decide +kernel
theorem dX8_simplestBetween_10 : decode cX8_simplestBetween 10 = .ok (.invokevirtual 131, 3) := by decide +kernel
theorem dX8_simplestBetween_13 : decode cX8_simplestBetween 13 = .ok (.ifCond .eq 11, 3) := by decide +kernel
theorem dX8_simplestBetween_16 : decode cX8_simplestBetween 16 = .ok (.aload_n 0, 1) := by decide +kernel
theorem dX8_simplestBetween_17 : decode cX8_simplestBetween 17 = .ok (.iload_n 3, 1) := by decide +kernel
theorem dX8_simplestBetween_18 : decode cX8_simplestBetween 18 = .ok (.invokevirtual 131, 3) := by decide +kernel
theorem dX8_simplestBetween_21 : decode cX8_simplestBetween 21 = .ok (.ifCond .ne 5, 3) := by decide +kernel
theorem dX8_simplestBetween_24 : decode cX8_simplestBetween 24 = .ok (.iconst (-1), 1) := by decide +kernel
theorem dX8_simplestBetween_25 : decode cX8_simplestBetween 25 = .ok (.ireturn, 1) := by decide +kernel
theorem dX8_simplestBetween_26 : decode cX8_simplestBetween 26 = .ok (.aload_n 0, 1) := by decide +kernel
theorem dX8_simplestBetween_27 : decode cX8_simplestBetween 27 = .ok (.iload_n 2, 1) := by decide +kernel
theorem dX8_simplestBetween_28 : decode cX8_simplestBetween 28 = .ok (.iload_n 3, 1) := by decide +kernel
theorem dX8_simplestBetween_29 : decode cX8_simplestBetween 29 = .ok (.invokevirtual 139, 3) := by decide +kernel
theorem dX8_simplestBetween_32 : decode cX8_simplestBetween 32 = .ok (.lconst 0, 1) := by decide +kernel
theorem dX8_simplestBetween_33 : decode cX8_simplestBetween 33 = .ok (.lcmp, 1) := by decide +kernel
theorem dX8_simplestBetween_34 : decode cX8_simplestBetween 34 = .ok (.ifCond .lt 6, 3) := by decide +kernel
theorem dX8_simplestBetween_37 : decode cX8_simplestBetween 37 = .ok (.bipush (-2), 2) := by decide +kernel
theorem dX8_simplestBetween_39 : decode cX8_simplestBetween 39 = .ok (.ireturn, 1) := by decide +kernel
theorem dX8_simplestBetween_40 : decode cX8_simplestBetween 40 = .ok (.aload_n 0, 1) := by decide +kernel
theorem dX8_simplestBetween_41 : decode cX8_simplestBetween 41 = .ok (.getfield 7, 3) := by decide +kernel
theorem dX8_simplestBetween_44 : decode cX8_simplestBetween 44 = .ok (.iload_n 2, 1) := by decide +kernel
theorem dX8_simplestBetween_45 : decode cX8_simplestBetween 45 = .ok (.iaload, 1) := by decide +kernel
theorem dX8_simplestBetween_46 : decode cX8_simplestBetween 46 = .ok (.i2l, 1) := by decide +kernel
theorem dX8_simplestBetween_47 : decode cX8_simplestBetween 47 = .ok (.lstore 4, 2) := by decide +kernel
theorem dX8_simplestBetween_49 : decode cX8_simplestBetween 49 = .ok (.aload_n 0, 1) := by decide +kernel
theorem dX8_simplestBetween_50 : decode cX8_simplestBetween 50 = .ok (.getfield 13, 3) := by decide +kernel
theorem dX8_simplestBetween_53 : decode cX8_simplestBetween 53 = .ok (.iload_n 2, 1) := by decide +kernel
theorem dX8_simplestBetween_54 : decode cX8_simplestBetween 54 = .ok (.iaload, 1) := by decide +kernel
theorem dX8_simplestBetween_55 : decode cX8_simplestBetween 55 = .ok (.i2l, 1) := by decide +kernel
theorem dX8_simplestBetween_56 : decode cX8_simplestBetween 56 = .ok (.lstore 6, 2) := by decide +kernel
theorem dX8_simplestBetween_58 : decode cX8_simplestBetween 58 = .ok (.aload_n 0, 1) := by decide +kernel
theorem dX8_simplestBetween_59 : decode cX8_simplestBetween 59 = .ok (.getfield 7, 3) := by decide +kernel
theorem dX8_simplestBetween_62 : decode cX8_simplestBetween 62 = .ok (.iload_n 3, 1) := by decide +kernel
theorem dX8_simplestBetween_63 : decode cX8_simplestBetween 63 = .ok (.iaload, 1) := by decide +kernel
theorem dX8_simplestBetween_64 : decode cX8_simplestBetween 64 = .ok (.i2l, 1) := by decide +kernel
theorem dX8_simplestBetween_65 : decode cX8_simplestBetween 65 = .ok (.lstore 8, 2) := by decide +kernel
theorem dX8_simplestBetween_67 : decode cX8_simplestBetween 67 = .ok (.aload_n 0, 1) := by decide +kernel
theorem dX8_simplestBetween_68 : decode cX8_simplestBetween 68 = .ok (.getfield 13, 3) := by decide +kernel
theorem dX8_simplestBetween_71 : decode cX8_simplestBetween 71 = .ok (.iload_n 3, 1) := by decide +kernel
theorem dX8_simplestBetween_72 : decode cX8_simplestBetween 72 = .ok (.iaload, 1) := by decide +kernel
theorem dX8_simplestBetween_73 : decode cX8_simplestBetween 73 = .ok (.i2l, 1) := by decide +kernel
theorem dX8_simplestBetween_74 : decode cX8_simplestBetween 74 = .ok (.lstore 10, 2) := by decide +kernel
theorem dX8_simplestBetween_76 : decode cX8_simplestBetween 76 = .ok (.aload_n 0, 1) := by decide +kernel
theorem dX8_simplestBetween_77 : decode cX8_simplestBetween 77 = .ok (.invokevirtual 162, 3) := by decide +kernel
theorem dX8_simplestBetween_80 : decode cX8_simplestBetween 80 = .ok (.aload_n 0, 1) := by decide +kernel
theorem dX8_simplestBetween_81 : decode cX8_simplestBetween 81 = .ok (.getfield 32, 3) := by decide +kernel
theorem dX8_simplestBetween_84 : decode cX8_simplestBetween 84 = .ok (.aload_n 0, 1) := by decide +kernel
theorem dX8_simplestBetween_85 : decode cX8_simplestBetween 85 = .ok (.getfield 39, 3) := by decide +kernel
theorem dX8_simplestBetween_88 : decode cX8_simplestBetween 88 = .ok (.ladd, 1) := by decide +kernel
theorem dX8_simplestBetween_89 : decode cX8_simplestBetween 89 = .ok (.lstore 12, 2) := by decide +kernel
theorem dX8_simplestBetween_91 : decode cX8_simplestBetween 91 = .ok (.aload_n 0, 1) := by decide +kernel
theorem dX8_simplestBetween_92 : decode cX8_simplestBetween 92 = .ok (.getfield 36, 3) := by decide +kernel
theorem dX8_simplestBetween_95 : decode cX8_simplestBetween 95 = .ok (.aload_n 0, 1) := by decide +kernel
theorem dX8_simplestBetween_96 : decode cX8_simplestBetween 96 = .ok (.getfield 42, 3) := by decide +kernel
theorem dX8_simplestBetween_99 : decode cX8_simplestBetween 99 = .ok (.ladd, 1) := by decide +kernel
theorem dX8_simplestBetween_100 : decode cX8_simplestBetween 100 = .ok (.lstore 14, 2) := by decide +kernel
theorem dX8_simplestBetween_102 : decode cX8_simplestBetween 102 = .ok (.lload 12, 2) := by decide +kernel
theorem dX8_simplestBetween_104 : decode cX8_simplestBetween 104 = .ok (.lload 6, 2) := by decide +kernel
theorem dX8_simplestBetween_106 : decode cX8_simplestBetween 106 = .ok (.lmul, 1) := by decide +kernel
theorem dX8_simplestBetween_107 : decode cX8_simplestBetween 107 = .ok (.lload 4, 2) := by decide +kernel
theorem dX8_simplestBetween_109 : decode cX8_simplestBetween 109 = .ok (.lload 14, 2) := by decide +kernel
theorem dX8_simplestBetween_111 : decode cX8_simplestBetween 111 = .ok (.lmul, 1) := by decide +kernel
theorem dX8_simplestBetween_112 : decode cX8_simplestBetween 112 = .ok (.lcmp, 1) := by decide +kernel
theorem dX8_simplestBetween_113 : decode cX8_simplestBetween 113 = .ok (.ifCond .gt 41, 3) := by decide +kernel
theorem dX8_simplestBetween_116 : decode cX8_simplestBetween 116 = .ok (.aload_n 0, 1) := by decide +kernel
theorem dX8_simplestBetween_117 : decode cX8_simplestBetween 117 = .ok (.lload 4, 2) := by decide +kernel
theorem dX8_simplestBetween_119 : decode cX8_simplestBetween 119 = .ok (.aload_n 0, 1) := by decide +kernel
theorem dX8_simplestBetween_120 : decode cX8_simplestBetween 120 = .ok (.getfield 36, 3) := by decide +kernel
theorem dX8_simplestBetween_123 : decode cX8_simplestBetween 123 = .ok (.lmul, 1) := by decide +kernel
theorem dX8_simplestBetween_124 : decode cX8_simplestBetween 124 = .ok (.lload 6, 2) := by decide +kernel
theorem dX8_simplestBetween_126 : decode cX8_simplestBetween 126 = .ok (.aload_n 0, 1) := by decide +kernel
theorem dX8_simplestBetween_127 : decode cX8_simplestBetween 127 = .ok (.getfield 32, 3) := by decide +kernel
theorem dX8_simplestBetween_130 : decode cX8_simplestBetween 130 = .ok (.lmul, 1) := by decide +kernel
theorem dX8_simplestBetween_131 : decode cX8_simplestBetween 131 = .ok (.lsub, 1) := by decide +kernel
theorem dX8_simplestBetween_132 : decode cX8_simplestBetween 132 = .ok (.lload 6, 2) := by decide +kernel
theorem dX8_simplestBetween_134 : decode cX8_simplestBetween 134 = .ok (.aload_n 0, 1) := by decide +kernel
theorem dX8_simplestBetween_135 : decode cX8_simplestBetween 135 = .ok (.getfield 39, 3) := by decide +kernel
theorem dX8_simplestBetween_138 : decode cX8_simplestBetween 138 = .ok (.lmul, 1) := by decide +kernel
theorem dX8_simplestBetween_139 : decode cX8_simplestBetween 139 = .ok (.lload 4, 2) := by decide +kernel
theorem dX8_simplestBetween_141 : decode cX8_simplestBetween 141 = .ok (.aload_n 0, 1) := by decide +kernel
theorem dX8_simplestBetween_142 : decode cX8_simplestBetween 142 = .ok (.getfield 42, 3) := by decide +kernel
theorem dX8_simplestBetween_145 : decode cX8_simplestBetween 145 = .ok (.lmul, 1) := by decide +kernel
theorem dX8_simplestBetween_146 : decode cX8_simplestBetween 146 = .ok (.lsub, 1) := by decide +kernel
theorem dX8_simplestBetween_147 : decode cX8_simplestBetween 147 = .ok (.ldiv, 1) := by decide +kernel
theorem dX8_simplestBetween_148 : decode cX8_simplestBetween 148 = .ok (.invokevirtual 165, 3) := by decide +kernel
theorem dX8_simplestBetween_151 : decode cX8_simplestBetween 151 = .ok (.goto 65, 3) := by decide +kernel
theorem dX8_simplestBetween_154 : decode cX8_simplestBetween 154 = .ok (.lload 12, 2) := by decide +kernel
theorem dX8_simplestBetween_156 : decode cX8_simplestBetween 156 = .ok (.lload 10, 2) := by decide +kernel
theorem dX8_simplestBetween_158 : decode cX8_simplestBetween 158 = .ok (.lmul, 1) := by decide +kernel
theorem dX8_simplestBetween_159 : decode cX8_simplestBetween 159 = .ok (.lload 8, 2) := by decide +kernel
theorem dX8_simplestBetween_161 : decode cX8_simplestBetween 161 = .ok (.lload 14, 2) := by decide +kernel
theorem dX8_simplestBetween_163 : decode cX8_simplestBetween 163 = .ok (.lmul, 1) := by decide +kernel
theorem dX8_simplestBetween_164 : decode cX8_simplestBetween 164 = .ok (.lcmp, 1) := by decide +kernel
theorem dX8_simplestBetween_165 : decode cX8_simplestBetween 165 = .ok (.ifCond .lt 41, 3) := by decide +kernel
theorem dX8_simplestBetween_168 : decode cX8_simplestBetween 168 = .ok (.aload_n 0, 1) := by decide +kernel
theorem dX8_simplestBetween_169 : decode cX8_simplestBetween 169 = .ok (.lload 10, 2) := by decide +kernel
theorem dX8_simplestBetween_171 : decode cX8_simplestBetween 171 = .ok (.aload_n 0, 1) := by decide +kernel
theorem dX8_simplestBetween_172 : decode cX8_simplestBetween 172 = .ok (.getfield 39, 3) := by decide +kernel
theorem dX8_simplestBetween_175 : decode cX8_simplestBetween 175 = .ok (.lmul, 1) := by decide +kernel
theorem dX8_simplestBetween_176 : decode cX8_simplestBetween 176 = .ok (.lload 8, 2) := by decide +kernel
theorem dX8_simplestBetween_178 : decode cX8_simplestBetween 178 = .ok (.aload_n 0, 1) := by decide +kernel
theorem dX8_simplestBetween_179 : decode cX8_simplestBetween 179 = .ok (.getfield 42, 3) := by decide +kernel
theorem dX8_simplestBetween_182 : decode cX8_simplestBetween 182 = .ok (.lmul, 1) := by decide +kernel
theorem dX8_simplestBetween_183 : decode cX8_simplestBetween 183 = .ok (.lsub, 1) := by decide +kernel
theorem dX8_simplestBetween_184 : decode cX8_simplestBetween 184 = .ok (.lload 8, 2) := by decide +kernel
theorem dX8_simplestBetween_186 : decode cX8_simplestBetween 186 = .ok (.aload_n 0, 1) := by decide +kernel
theorem dX8_simplestBetween_187 : decode cX8_simplestBetween 187 = .ok (.getfield 36, 3) := by decide +kernel
theorem dX8_simplestBetween_190 : decode cX8_simplestBetween 190 = .ok (.lmul, 1) := by decide +kernel
theorem dX8_simplestBetween_191 : decode cX8_simplestBetween 191 = .ok (.lload 10, 2) := by decide +kernel
theorem dX8_simplestBetween_193 : decode cX8_simplestBetween 193 = .ok (.aload_n 0, 1) := by decide +kernel
theorem dX8_simplestBetween_194 : decode cX8_simplestBetween 194 = .ok (.getfield 32, 3) := by decide +kernel
theorem dX8_simplestBetween_197 : decode cX8_simplestBetween 197 = .ok (.lmul, 1) := by decide +kernel
theorem dX8_simplestBetween_198 : decode cX8_simplestBetween 198 = .ok (.lsub, 1) := by decide +kernel
theorem dX8_simplestBetween_199 : decode cX8_simplestBetween 199 = .ok (.ldiv, 1) := by decide +kernel
theorem dX8_simplestBetween_200 : decode cX8_simplestBetween 200 = .ok (.invokevirtual 169, 3) := by decide +kernel
theorem dX8_simplestBetween_203 : decode cX8_simplestBetween 203 = .ok (.goto 13, 3) := by decide +kernel
theorem dX8_simplestBetween_206 : decode cX8_simplestBetween 206 = .ok (.aload_n 0, 1) := by decide +kernel
theorem dX8_simplestBetween_207 : decode cX8_simplestBetween 207 = .ok (.iload_n 1, 1) := by decide +kernel
theorem dX8_simplestBetween_208 : decode cX8_simplestBetween 208 = .ok (.lload 12, 2) := by decide +kernel
theorem dX8_simplestBetween_210 : decode cX8_simplestBetween 210 = .ok (.lload 14, 2) := by decide +kernel
theorem dX8_simplestBetween_212 : decode cX8_simplestBetween 212 = .ok (.invokevirtual 135, 3) := by decide +kernel
theorem dX8_simplestBetween_215 : decode cX8_simplestBetween 215 = .ok (.ireturn, 1) := by decide +kernel
theorem dX8_simplestBetween_216 : decode cX8_simplestBetween 216 = .ok (.goto (-136), 3) := by decide +kernel
set_option maxRecDepth 20000 in
theorem ggX8_measureOf_X8_depthOf : GoodIn wsX8_measureOf wsX8_depthOf := goodIn_r _ [7, 8, 9, 10, 11, 12, 6, 13, 1, 2, 14, 15, 16, 17, 18, 19, 20, 21, 22, 23, 24, 25, 26, 27, 28, 29, 30, 31, 32, 33, 34, 35, 36, 37, 38, 39, 40, 41, 42, 43, 44, 45, 46, 47, 48, 49, 50, 51, 52, 53] (by decide +kernel) (by decide +kernel)
set_option maxRecDepth 20000 in
theorem gX8_measureOf_X8_depthOf : GoodIn wsX8_measureOf (wsV RX8 154 RX8 yX8_depthOf wsX8_depthOf) := goodIn_app (goodIn_of _ (by decide +kernel)) ggX8_measureOf_X8_depthOf
set_option maxRecDepth 20000 in
theorem ggX8_measureOf_X8_layTerms : GoodIn wsX8_measureOf wsX8_layTerms := goodIn_r _ [18, 1, 2, 19, 20, 21, 22, 23, 24, 25, 26, 27, 28, 29, 30, 31, 32, 33, 34, 35, 36, 37, 38, 39, 40, 41, 42, 43, 44, 45, 46, 47, 48, 49, 50, 51, 52, 53] (by decide +kernel) (by decide +kernel)
set_option maxRecDepth 20000 in
theorem gX8_measureOf_X8_layTerms : GoodIn wsX8_measureOf (wsV RX8 147 RX8 yX8_layTerms wsX8_layTerms) := goodIn_app (goodIn_of _ (by decide +kernel)) ggX8_measureOf_X8_layTerms
theorem dX8_measureOf_0 : decode cX8_measureOf 0 = .ok (.iload_n 3, 1) := by decide +kernel
theorem dX8_measureOf_1 : decode cX8_measureOf 1 = .ok (.tableswitch 100 0 3 #[31, 33, 37, 44], 31) := by decide +kernel
theorem dX8_measureOf_32 : decode cX8_measureOf 32 = .ok (.iload_n 2, 1) := by decide +kernel
theorem dX8_measureOf_33 : decode cX8_measureOf 33 = .ok (.ireturn, 1) := by decide +kernel
theorem dX8_measureOf_34 : decode cX8_measureOf 34 = .ok (.iload_n 1, 1) := by decide +kernel
theorem dX8_measureOf_35 : decode cX8_measureOf 35 = .ok (.iload_n 2, 1) := by decide +kernel
theorem dX8_measureOf_36 : decode cX8_measureOf 36 = .ok (.iadd, 1) := by decide +kernel
theorem dX8_measureOf_37 : decode cX8_measureOf 37 = .ok (.ireturn, 1) := by decide +kernel
theorem dX8_measureOf_38 : decode cX8_measureOf 38 = .ok (.aload_n 0, 1) := by decide +kernel
theorem dX8_measureOf_39 : decode cX8_measureOf 39 = .ok (.iload_n 1, 1) := by decide +kernel
theorem dX8_measureOf_40 : decode cX8_measureOf 40 = .ok (.iload_n 2, 1) := by decide +kernel
theorem dX8_measureOf_41 : decode cX8_measureOf 41 = .ok (.invokevirtual 154, 3) := by decide +kernel
theorem dX8_measureOf_44 : decode cX8_measureOf 44 = .ok (.ireturn, 1) := by decide +kernel
theorem dX8_measureOf_45 : decode cX8_measureOf 45 = .ok (.aload_n 0, 1) := by decide +kernel
theorem dX8_measureOf_46 : decode cX8_measureOf 46 = .ok (.iload_n 1, 1) := by decide +kernel
theorem dX8_measureOf_47 : decode cX8_measureOf 47 = .ok (.iload_n 2, 1) := by decide +kernel
theorem dX8_measureOf_48 : decode cX8_measureOf 48 = .ok (.invokevirtual 147, 3) := by decide +kernel
theorem dX8_measureOf_51 : decode cX8_measureOf 51 = .ok (.iconst 0, 1) := by decide +kernel
theorem dX8_measureOf_52 : decode cX8_measureOf 52 = .ok (.istore 4, 2) := by decide +kernel
theorem dX8_measureOf_54 : decode cX8_measureOf 54 = .ok (.iconst 0, 1) := by decide +kernel
theorem dX8_measureOf_55 : decode cX8_measureOf 55 = .ok (.istore 5, 2) := by decide +kernel
theorem dX8_measureOf_57 : decode cX8_measureOf 57 = .ok (.iload 5, 2) := by decide +kernel
theorem dX8_measureOf_59 : decode cX8_measureOf 59 = .ok (.aload_n 0, 1) := by decide +kernel
theorem dX8_measureOf_60 : decode cX8_measureOf 60 = .ok (.getfield 25, 3) := by decide +kernel
theorem dX8_measureOf_63 : decode cX8_measureOf 63 = .ok (.if_icmp .ge 35, 3) := by decide +kernel
theorem dX8_measureOf_66 : decode cX8_measureOf 66 = .ok (.aload_n 0, 1) := by decide +kernel
theorem dX8_measureOf_67 : decode cX8_measureOf 67 = .ok (.getfield 16, 3) := by decide +kernel
theorem dX8_measureOf_70 : decode cX8_measureOf 70 = .ok (.iload 5, 2) := by decide +kernel
theorem dX8_measureOf_72 : decode cX8_measureOf 72 = .ok (.iaload, 1) := by decide +kernel
theorem dX8_measureOf_73 : decode cX8_measureOf 73 = .ok (.iload 4, 2) := by decide +kernel
theorem dX8_measureOf_75 : decode cX8_measureOf 75 = .ok (.if_icmp .le 13, 3) := by decide +kernel
theorem dX8_measureOf_78 : decode cX8_measureOf 78 = .ok (.aload_n 0, 1) := by decide +kernel
theorem dX8_measureOf_79 : decode cX8_measureOf 79 = .ok (.getfield 16, 3) := by decide +kernel
theorem dX8_measureOf_82 : decode cX8_measureOf 82 = .ok (.iload 5, 2) := by decide +kernel
theorem dX8_measureOf_84 : decode cX8_measureOf 84 = .ok (.iaload, 1) := by decide +kernel
theorem dX8_measureOf_85 : decode cX8_measureOf 85 = .ok (.goto 5, 3) := by decide +kernel
theorem dX8_measureOf_88 : decode cX8_measureOf 88 = .ok (.iload 4, 2) := by decide +kernel
theorem dX8_measureOf_90 : decode cX8_measureOf 90 = .ok (.istore 4, 2) := by decide +kernel
theorem dX8_measureOf_92 : decode cX8_measureOf 92 = .ok (.iinc 5 1, 3) := by decide +kernel
theorem dX8_measureOf_95 : decode cX8_measureOf 95 = .ok (.goto (-38), 3) := by decide +kernel
theorem dX8_measureOf_98 : decode cX8_measureOf 98 = .ok (.iload 4, 2) := by decide +kernel
theorem dX8_measureOf_100 : decode cX8_measureOf 100 = .ok (.ireturn, 1) := by decide +kernel
theorem dX8_measureOf_101 : decode cX8_measureOf 101 = .ok (.aload_n 0, 1) := by decide +kernel
theorem dX8_measureOf_102 : decode cX8_measureOf 102 = .ok (.iload_n 1, 1) := by decide +kernel
theorem dX8_measureOf_103 : decode cX8_measureOf 103 = .ok (.iload_n 2, 1) := by decide +kernel
theorem dX8_measureOf_104 : decode cX8_measureOf 104 = .ok (.invokevirtual 147, 3) := by decide +kernel
theorem dX8_measureOf_107 : decode cX8_measureOf 107 = .ok (.aload_n 0, 1) := by decide +kernel
theorem dX8_measureOf_108 : decode cX8_measureOf 108 = .ok (.getfield 25, 3) := by decide +kernel
theorem dX8_measureOf_111 : decode cX8_measureOf 111 = .ok (.ineg, 1) := by decide +kernel
theorem dX8_measureOf_112 : decode cX8_measureOf 112 = .ok (.ireturn, 1) := by decide +kernel
set_option maxRecDepth 20000 in
theorem ggX8_rankedBetween_X8_isRegister : GoodIn wsX8_rankedBetween wsX8_isRegister := goodIn_r _ [12, 13, 14, 15, 11, 16] (by decide +kernel) (by decide +kernel)
set_option maxRecDepth 20000 in
theorem gX8_rankedBetween_X8_isRegister : GoodIn wsX8_rankedBetween (wsV RX8 131 RX8 yX8_isRegister wsX8_isRegister) := goodIn_app (goodIn_of _ (by decide +kernel)) ggX8_rankedBetween_X8_isRegister
set_option maxRecDepth 20000 in
theorem ggX8_rankedBetween_X8_within : GoodIn wsX8_rankedBetween wsX8_within := goodIn_r _ [16] (by decide +kernel) (by decide +kernel)
set_option maxRecDepth 20000 in
theorem gX8_rankedBetween_X8_within : GoodIn wsX8_rankedBetween (va_wsS RX8 121 yX8_within wsX8_within) := goodIn_app (goodIn_of _ (by decide +kernel)) ggX8_rankedBetween_X8_within
set_option maxRecDepth 20000 in
theorem ggX8_rankedBetween_X8_divisor : GoodIn wsX8_rankedBetween wsX8_divisor := goodIn_r _ [20] (by decide +kernel) (by decide +kernel)
set_option maxRecDepth 20000 in
theorem gX8_rankedBetween_X8_divisor : GoodIn wsX8_rankedBetween (wsV RX8 125 RX8 yX8_divisor wsX8_divisor) := goodIn_app (goodIn_of _ (by decide +kernel)) ggX8_rankedBetween_X8_divisor
set_option maxRecDepth 20000 in
theorem ggX8_rankedBetween_X8_measureOf : GoodIn wsX8_rankedBetween wsX8_measureOf := goodIn_r _ [24, 25, 26, 27, 28, 29, 11, 30, 31, 32, 33, 34, 35, 36, 37, 38, 39, 40, 41, 46, 47, 48, 49, 50, 51, 52, 53, 54, 55, 56, 57, 58, 59, 60, 61, 62, 63, 64, 65, 66, 67, 68, 69, 70, 71, 72, 73, 74, 75, 76, 77, 78, 79, 80] (by decide +kernel) (by decide +kernel)
set_option maxRecDepth 20000 in
theorem gX8_rankedBetween_X8_measureOf : GoodIn wsX8_rankedBetween (wsV RX8 188 RX8 yX8_measureOf wsX8_measureOf) := goodIn_app (goodIn_of _ (by decide +kernel)) ggX8_rankedBetween_X8_measureOf
set_option maxRecDepth 20000 in
theorem ggX8_rankedBetween_X8_put : GoodIn wsX8_rankedBetween wsX8_put := goodIn_r _ [45, 6, 3, 2, 17, 18, 19, 11, 20, 46, 47, 48, 49, 50, 51, 52, 53, 54, 55, 56, 57, 58, 59, 60, 61, 62, 63, 64, 65, 66, 67, 68, 69, 70, 71, 72, 73, 74, 75, 76, 77, 78, 79, 80] (by decide +kernel) (by decide +kernel)
set_option maxRecDepth 20000 in
theorem gX8_rankedBetween_X8_put : GoodIn wsX8_rankedBetween (wsV RX8 135 RX8 yX8_put wsX8_put) := goodIn_app (goodIn_of _ (by decide +kernel)) ggX8_rankedBetween_X8_put
theorem dX8_rankedBetween_0 : decode cX8_rankedBetween 0 = .ok (.aload_n 0, 1) := by decide +kernel
theorem dX8_rankedBetween_1 : decode cX8_rankedBetween 1 = .ok (.iload_n 1, 1) := by decide +kernel
theorem dX8_rankedBetween_2 : decode cX8_rankedBetween 2 = .ok (.invokevirtual 131, 3) := by decide +kernel
theorem dX8_rankedBetween_5 : decode cX8_rankedBetween 5 = .ok (.ifCond .eq 37, 3) := by decide +kernel
theorem dX8_rankedBetween_8 : decode cX8_rankedBetween 8 = .ok (.aload_n 0, 1) := by decide +kernel
theorem dX8_rankedBetween_9 : decode cX8_rankedBetween 9 = .ok (.iload_n 2, 1) := by decide +kernel
theorem dX8_rankedBetween_10 : decode cX8_rankedBetween 10 = .ok (.invokevirtual 131, 3) := by decide +kernel
theorem dX8_rankedBetween_13 : decode cX8_rankedBetween 13 = .ok (.ifCond .eq 29, 3) := by decide +kernel
theorem dX8_rankedBetween_16 : decode cX8_rankedBetween 16 = .ok (.aload_n 0, 1) := by decide +kernel
theorem dX8_rankedBetween_17 : decode cX8_rankedBetween 17 = .ok (.iload_n 3, 1) := by decide +kernel
theorem dX8_rankedBetween_18 : decode cX8_rankedBetween 18 = .ok (.invokevirtual 131, 3) := by decide +kernel
theorem dX8_rankedBetween_21 : decode cX8_rankedBetween 21 = .ok (.ifCond .eq 21, 3) := by decide +kernel
theorem dX8_rankedBetween_24 : decode cX8_rankedBetween 24 = .ok (.iload 4, 2) := by decide +kernel
theorem dX8_rankedBetween_26 : decode cX8_rankedBetween 26 = .ok (.i2l, 1) := by decide +kernel
theorem dX8_rankedBetween_27 : decode cX8_rankedBetween 27 = .ok (.lconst 0, 1) := by decide +kernel
theorem dX8_rankedBetween_28 : decode cX8_rankedBetween 28 = .ok (.ldc2_w 143, 3) := by decide +kernel
theorem dX8_rankedBetween_31 : decode cX8_rankedBetween 31 = .ok (.invokestatic 121, 3) := by decide +kernel
theorem dX8_rankedBetween_34 : decode cX8_rankedBetween 34 = .ok (.ifCond .eq 8, 3) := by decide +kernel
theorem dX8_rankedBetween_37 : decode cX8_rankedBetween 37 = .ok (.iload 5, 2) := by decide +kernel
theorem dX8_rankedBetween_39 : decode cX8_rankedBetween 39 = .ok (.ifCond .ge 5, 3) := by decide +kernel
theorem dX8_rankedBetween_42 : decode cX8_rankedBetween 42 = .ok (.iconst (-1), 1) := by decide +kernel
theorem dX8_rankedBetween_43 : decode cX8_rankedBetween 43 = .ok (.ireturn, 1) := by decide +kernel
theorem dX8_rankedBetween_44 : decode cX8_rankedBetween 44 = .ok (.iconst 0, 1) := by decide +kernel
theorem dX8_rankedBetween_45 : decode cX8_rankedBetween 45 = .ok (.istore 6, 2) := by decide +kernel
theorem dX8_rankedBetween_47 : decode cX8_rankedBetween 47 = .ok (.iconst 1, 1) := by decide +kernel
theorem dX8_rankedBetween_48 : decode cX8_rankedBetween 48 = .ok (.istore 7, 2) := by decide +kernel
theorem dX8_rankedBetween_50 : decode cX8_rankedBetween 50 = .ok (.iload 7, 2) := by decide +kernel
theorem dX8_rankedBetween_52 : decode cX8_rankedBetween 52 = .ok (.bipush 24, 2) := by decide +kernel
theorem dX8_rankedBetween_54 : decode cX8_rankedBetween 54 = .ok (.if_icmp .gt 154, 3) := by decide +kernel
theorem dX8_rankedBetween_57 : decode cX8_rankedBetween 57 = .ok (.iconst 1, 1) := by decide +kernel
theorem dX8_rankedBetween_58 : decode cX8_rankedBetween 58 = .ok (.istore 8, 2) := by decide +kernel
theorem dX8_rankedBetween_60 : decode cX8_rankedBetween 60 = .ok (.iload 8, 2) := by decide +kernel
theorem dX8_rankedBetween_62 : decode cX8_rankedBetween 62 = .ok (.iconst 4, 1) := by decide +kernel
theorem dX8_rankedBetween_63 : decode cX8_rankedBetween 63 = .ok (.iload 7, 2) := by decide +kernel
theorem dX8_rankedBetween_65 : decode cX8_rankedBetween 65 = .ok (.imul, 1) := by decide +kernel
theorem dX8_rankedBetween_66 : decode cX8_rankedBetween 66 = .ok (.if_icmp .ge 136, 3) := by decide +kernel
theorem dX8_rankedBetween_69 : decode cX8_rankedBetween 69 = .ok (.aload_n 0, 1) := by decide +kernel
theorem dX8_rankedBetween_70 : decode cX8_rankedBetween 70 = .ok (.iload 8, 2) := by decide +kernel
theorem dX8_rankedBetween_72 : decode cX8_rankedBetween 72 = .ok (.i2l, 1) := by decide +kernel
theorem dX8_rankedBetween_73 : decode cX8_rankedBetween 73 = .ok (.iload 7, 2) := by decide +kernel
theorem dX8_rankedBetween_75 : decode cX8_rankedBetween 75 = .ok (.i2l, 1) := by decide +kernel
theorem dX8_rankedBetween_76 : decode cX8_rankedBetween 76 = .ok (.invokevirtual 125, 3) := by decide +kernel
theorem dX8_rankedBetween_79 : decode cX8_rankedBetween 79 = .ok (.lconst 1, 1) := by decide +kernel
theorem dX8_rankedBetween_80 : decode cX8_rankedBetween 80 = .ok (.lcmp, 1) := by decide +kernel
theorem dX8_rankedBetween_81 : decode cX8_rankedBetween 81 = .ok (.ifCond .ne 115, 3) := by decide +kernel
theorem dX8_rankedBetween_84 : decode cX8_rankedBetween 84 = .ok (.iload 8, 2) := by decide +kernel
theorem dX8_rankedBetween_86 : decode cX8_rankedBetween 86 = .ok (.i2l, 1) := by decide +kernel
theorem dX8_rankedBetween_87 : decode cX8_rankedBetween 87 = .ok (.aload_n 0, 1) := by decide +kernel
theorem dX8_rankedBetween_88 : decode cX8_rankedBetween 88 = .ok (.getfield 13, 3) := by decide +kernel
theorem dX8_rankedBetween_91 : decode cX8_rankedBetween 91 = .ok (.iload_n 2, 1) := by decide +kernel
theorem dX8_rankedBetween_92 : decode cX8_rankedBetween 92 = .ok (.iaload, 1) := by decide +kernel
theorem dX8_rankedBetween_93 : decode cX8_rankedBetween 93 = .ok (.i2l, 1) := by decide +kernel
theorem dX8_rankedBetween_94 : decode cX8_rankedBetween 94 = .ok (.lmul, 1) := by decide +kernel
theorem dX8_rankedBetween_95 : decode cX8_rankedBetween 95 = .ok (.aload_n 0, 1) := by decide +kernel
theorem dX8_rankedBetween_96 : decode cX8_rankedBetween 96 = .ok (.getfield 7, 3) := by decide +kernel
theorem dX8_rankedBetween_99 : decode cX8_rankedBetween 99 = .ok (.iload_n 2, 1) := by decide +kernel
theorem dX8_rankedBetween_100 : decode cX8_rankedBetween 100 = .ok (.iaload, 1) := by decide +kernel
theorem dX8_rankedBetween_101 : decode cX8_rankedBetween 101 = .ok (.i2l, 1) := by decide +kernel
theorem dX8_rankedBetween_102 : decode cX8_rankedBetween 102 = .ok (.iload 7, 2) := by decide +kernel
theorem dX8_rankedBetween_104 : decode cX8_rankedBetween 104 = .ok (.i2l, 1) := by decide +kernel
theorem dX8_rankedBetween_105 : decode cX8_rankedBetween 105 = .ok (.lmul, 1) := by decide +kernel
theorem dX8_rankedBetween_106 : decode cX8_rankedBetween 106 = .ok (.lcmp, 1) := by decide +kernel
theorem dX8_rankedBetween_107 : decode cX8_rankedBetween 107 = .ok (.ifCond .le 89, 3) := by decide +kernel
theorem dX8_rankedBetween_110 : decode cX8_rankedBetween 110 = .ok (.iload 8, 2) := by decide +kernel
theorem dX8_rankedBetween_112 : decode cX8_rankedBetween 112 = .ok (.i2l, 1) := by decide +kernel
theorem dX8_rankedBetween_113 : decode cX8_rankedBetween 113 = .ok (.aload_n 0, 1) := by decide +kernel
theorem dX8_rankedBetween_114 : decode cX8_rankedBetween 114 = .ok (.getfield 13, 3) := by decide +kernel
theorem dX8_rankedBetween_117 : decode cX8_rankedBetween 117 = .ok (.iload_n 3, 1) := by decide +kernel
theorem dX8_rankedBetween_118 : decode cX8_rankedBetween 118 = .ok (.iaload, 1) := by decide +kernel
theorem dX8_rankedBetween_119 : decode cX8_rankedBetween 119 = .ok (.i2l, 1) := by decide +kernel
theorem dX8_rankedBetween_120 : decode cX8_rankedBetween 120 = .ok (.lmul, 1) := by decide +kernel
theorem dX8_rankedBetween_121 : decode cX8_rankedBetween 121 = .ok (.aload_n 0, 1) := by decide +kernel
theorem dX8_rankedBetween_122 : decode cX8_rankedBetween 122 = .ok (.getfield 7, 3) := by decide +kernel
theorem dX8_rankedBetween_125 : decode cX8_rankedBetween 125 = .ok (.iload_n 3, 1) := by decide +kernel
theorem dX8_rankedBetween_126 : decode cX8_rankedBetween 126 = .ok (.iaload, 1) := by decide +kernel
theorem dX8_rankedBetween_127 : decode cX8_rankedBetween 127 = .ok (.i2l, 1) := by decide +kernel
theorem dX8_rankedBetween_128 : decode cX8_rankedBetween 128 = .ok (.iload 7, 2) := by decide +kernel
theorem dX8_rankedBetween_130 : decode cX8_rankedBetween 130 = .ok (.i2l, 1) := by decide +kernel
theorem dX8_rankedBetween_131 : decode cX8_rankedBetween 131 = .ok (.lmul, 1) := by decide +kernel
theorem dX8_rankedBetween_132 : decode cX8_rankedBetween 132 = .ok (.lcmp, 1) := by decide +kernel
theorem dX8_rankedBetween_133 : decode cX8_rankedBetween 133 = .ok (.ifCond .lt 6, 3) := by decide +kernel
theorem dX8_rankedBetween_136 : decode cX8_rankedBetween 136 = .ok (.goto 60, 3) := by decide +kernel
theorem dX8_rankedBetween_139 : decode cX8_rankedBetween 139 = .ok (.aload_n 0, 1) := by decide +kernel
theorem dX8_rankedBetween_140 : decode cX8_rankedBetween 140 = .ok (.getfield 57, 3) := by decide +kernel
theorem dX8_rankedBetween_143 : decode cX8_rankedBetween 143 = .ok (.iload 6, 2) := by decide +kernel
theorem dX8_rankedBetween_145 : decode cX8_rankedBetween 145 = .ok (.sipush 1000, 3) := by decide +kernel
theorem dX8_rankedBetween_148 : decode cX8_rankedBetween 148 = .ok (.iload 8, 2) := by decide +kernel
theorem dX8_rankedBetween_150 : decode cX8_rankedBetween 150 = .ok (.imul, 1) := by decide +kernel
theorem dX8_rankedBetween_151 : decode cX8_rankedBetween 151 = .ok (.iload 7, 2) := by decide +kernel
theorem dX8_rankedBetween_153 : decode cX8_rankedBetween 153 = .ok (.iadd, 1) := by decide +kernel
theorem dX8_rankedBetween_154 : decode cX8_rankedBetween 154 = .ok (.iastore, 1) := by decide +kernel
theorem dX8_rankedBetween_155 : decode cX8_rankedBetween 155 = .ok (.aload_n 0, 1) := by decide +kernel
theorem dX8_rankedBetween_156 : decode cX8_rankedBetween 156 = .ok (.getfield 60, 3) := by decide +kernel
theorem dX8_rankedBetween_159 : decode cX8_rankedBetween 159 = .ok (.iload 6, 2) := by decide +kernel
theorem dX8_rankedBetween_161 : decode cX8_rankedBetween 161 = .ok (.ldc2_w 129, 3) := by decide +kernel
theorem dX8_rankedBetween_164 : decode cX8_rankedBetween 164 = .ok (.aload_n 0, 1) := by decide +kernel
theorem dX8_rankedBetween_165 : decode cX8_rankedBetween 165 = .ok (.iload 8, 2) := by decide +kernel
theorem dX8_rankedBetween_167 : decode cX8_rankedBetween 167 = .ok (.iload 7, 2) := by decide +kernel
theorem dX8_rankedBetween_169 : decode cX8_rankedBetween 169 = .ok (.iload 4, 2) := by decide +kernel
theorem dX8_rankedBetween_171 : decode cX8_rankedBetween 171 = .ok (.invokevirtual 188, 3) := by decide +kernel
theorem dX8_rankedBetween_174 : decode cX8_rankedBetween 174 = .ok (.sipush 1000, 3) := by decide +kernel
theorem dX8_rankedBetween_177 : decode cX8_rankedBetween 177 = .ok (.iadd, 1) := by decide +kernel
theorem dX8_rankedBetween_178 : decode cX8_rankedBetween 178 = .ok (.i2l, 1) := by decide +kernel
theorem dX8_rankedBetween_179 : decode cX8_rankedBetween 179 = .ok (.lmul, 1) := by decide +kernel
theorem dX8_rankedBetween_180 : decode cX8_rankedBetween 180 = .ok (.ldc2_w 192, 3) := by decide +kernel
theorem dX8_rankedBetween_183 : decode cX8_rankedBetween 183 = .ok (.iload 7, 2) := by decide +kernel
theorem dX8_rankedBetween_185 : decode cX8_rankedBetween 185 = .ok (.i2l, 1) := by decide +kernel
theorem dX8_rankedBetween_186 : decode cX8_rankedBetween 186 = .ok (.lmul, 1) := by decide +kernel
theorem dX8_rankedBetween_187 : decode cX8_rankedBetween 187 = .ok (.ladd, 1) := by decide +kernel
theorem dX8_rankedBetween_188 : decode cX8_rankedBetween 188 = .ok (.iload 8, 2) := by decide +kernel
theorem dX8_rankedBetween_190 : decode cX8_rankedBetween 190 = .ok (.i2l, 1) := by decide +kernel
theorem dX8_rankedBetween_191 : decode cX8_rankedBetween 191 = .ok (.ladd, 1) := by decide +kernel
theorem dX8_rankedBetween_192 : decode cX8_rankedBetween 192 = .ok (.lastore, 1) := by decide +kernel
theorem dX8_rankedBetween_193 : decode cX8_rankedBetween 193 = .ok (.iinc 6 1, 3) := by decide +kernel
theorem dX8_rankedBetween_196 : decode cX8_rankedBetween 196 = .ok (.iinc 8 1, 3) := by decide +kernel
theorem dX8_rankedBetween_199 : decode cX8_rankedBetween 199 = .ok (.goto (-139), 3) := by decide +kernel
theorem dX8_rankedBetween_202 : decode cX8_rankedBetween 202 = .ok (.iinc 7 1, 3) := by decide +kernel
theorem dX8_rankedBetween_205 : decode cX8_rankedBetween 205 = .ok (.goto (-155), 3) := by decide +kernel
theorem dX8_rankedBetween_208 : decode cX8_rankedBetween 208 = .ok (.iload 5, 2) := by decide +kernel
theorem dX8_rankedBetween_210 : decode cX8_rankedBetween 210 = .ok (.iload 6, 2) := by decide +kernel
theorem dX8_rankedBetween_212 : decode cX8_rankedBetween 212 = .ok (.if_icmp .lt 6, 3) := by decide +kernel
theorem dX8_rankedBetween_215 : decode cX8_rankedBetween 215 = .ok (.bipush (-2), 2) := by decide +kernel
theorem dX8_rankedBetween_217 : decode cX8_rankedBetween 217 = .ok (.ireturn, 1) := by decide +kernel
theorem dX8_rankedBetween_218 : decode cX8_rankedBetween 218 = .ok (.iconst 0, 1) := by decide +kernel
theorem dX8_rankedBetween_219 : decode cX8_rankedBetween 219 = .ok (.istore 7, 2) := by decide +kernel
theorem dX8_rankedBetween_221 : decode cX8_rankedBetween 221 = .ok (.iload 7, 2) := by decide +kernel
theorem dX8_rankedBetween_223 : decode cX8_rankedBetween 223 = .ok (.iload 6, 2) := by decide +kernel
theorem dX8_rankedBetween_225 : decode cX8_rankedBetween 225 = .ok (.if_icmp .ge 104, 3) := by decide +kernel
theorem dX8_rankedBetween_228 : decode cX8_rankedBetween 228 = .ok (.iconst 0, 1) := by decide +kernel
theorem dX8_rankedBetween_229 : decode cX8_rankedBetween 229 = .ok (.istore 8, 2) := by decide +kernel
theorem dX8_rankedBetween_231 : decode cX8_rankedBetween 231 = .ok (.iconst 0, 1) := by decide +kernel
theorem dX8_rankedBetween_232 : decode cX8_rankedBetween 232 = .ok (.istore 9, 2) := by decide +kernel
theorem dX8_rankedBetween_234 : decode cX8_rankedBetween 234 = .ok (.iload 9, 2) := by decide +kernel
theorem dX8_rankedBetween_236 : decode cX8_rankedBetween 236 = .ok (.iload 6, 2) := by decide +kernel
theorem dX8_rankedBetween_238 : decode cX8_rankedBetween 238 = .ok (.if_icmp .ge 37, 3) := by decide +kernel
theorem dX8_rankedBetween_241 : decode cX8_rankedBetween 241 = .ok (.iload 8, 2) := by decide +kernel
theorem dX8_rankedBetween_243 : decode cX8_rankedBetween 243 = .ok (.aload_n 0, 1) := by decide +kernel
theorem dX8_rankedBetween_244 : decode cX8_rankedBetween 244 = .ok (.getfield 60, 3) := by decide +kernel
theorem dX8_rankedBetween_247 : decode cX8_rankedBetween 247 = .ok (.iload 9, 2) := by decide +kernel
theorem dX8_rankedBetween_249 : decode cX8_rankedBetween 249 = .ok (.laload, 1) := by decide +kernel
theorem dX8_rankedBetween_250 : decode cX8_rankedBetween 250 = .ok (.aload_n 0, 1) := by decide +kernel
theorem dX8_rankedBetween_251 : decode cX8_rankedBetween 251 = .ok (.getfield 60, 3) := by decide +kernel
theorem dX8_rankedBetween_254 : decode cX8_rankedBetween 254 = .ok (.iload 7, 2) := by decide +kernel
theorem dX8_rankedBetween_256 : decode cX8_rankedBetween 256 = .ok (.laload, 1) := by decide +kernel
theorem dX8_rankedBetween_257 : decode cX8_rankedBetween 257 = .ok (.lcmp, 1) := by decide +kernel
theorem dX8_rankedBetween_258 : decode cX8_rankedBetween 258 = .ok (.ifCond .ge 7, 3) := by decide +kernel
theorem dX8_rankedBetween_261 : decode cX8_rankedBetween 261 = .ok (.iconst 1, 1) := by decide +kernel
theorem dX8_rankedBetween_262 : decode cX8_rankedBetween 262 = .ok (.goto 4, 3) := by decide +kernel
theorem dX8_rankedBetween_265 : decode cX8_rankedBetween 265 = .ok (.iconst 0, 1) := by decide +kernel
theorem dX8_rankedBetween_266 : decode cX8_rankedBetween 266 = .ok (.iadd, 1) := by decide +kernel
theorem dX8_rankedBetween_267 : decode cX8_rankedBetween 267 = .ok (.istore 8, 2) := by decide +kernel
theorem dX8_rankedBetween_269 : decode cX8_rankedBetween 269 = .ok (.iinc 9 1, 3) := by decide +kernel
theorem dX8_rankedBetween_272 : decode cX8_rankedBetween 272 = .ok (.goto (-38), 3) := by decide +kernel
theorem dX8_rankedBetween_275 : decode cX8_rankedBetween 275 = .ok (.iload 8, 2) := by decide +kernel
theorem dX8_rankedBetween_277 : decode cX8_rankedBetween 277 = .ok (.iload 5, 2) := by decide +kernel
theorem dX8_rankedBetween_279 : decode cX8_rankedBetween 279 = .ok (.if_icmp .ne 44, 3) := by decide +kernel
theorem dX8_rankedBetween_282 : decode cX8_rankedBetween 282 = .ok (.aload_n 0, 1) := by decide +kernel
theorem dX8_rankedBetween_283 : decode cX8_rankedBetween 283 = .ok (.iload_n 1, 1) := by decide +kernel
theorem dX8_rankedBetween_284 : decode cX8_rankedBetween 284 = .ok (.aload_n 0, 1) := by decide +kernel
theorem dX8_rankedBetween_285 : decode cX8_rankedBetween 285 = .ok (.getfield 57, 3) := by decide +kernel
theorem dX8_rankedBetween_288 : decode cX8_rankedBetween 288 = .ok (.iload 7, 2) := by decide +kernel
theorem dX8_rankedBetween_290 : decode cX8_rankedBetween 290 = .ok (.iaload, 1) := by decide +kernel
theorem dX8_rankedBetween_291 : decode cX8_rankedBetween 291 = .ok (.sipush 1000, 3) := by decide +kernel
theorem dX8_rankedBetween_294 : decode cX8_rankedBetween 294 = .ok (.idiv, 1) := by decide +kernel
theorem dX8_rankedBetween_295 : decode cX8_rankedBetween 295 = .ok (.i2l, 1) := by decide +kernel
theorem dX8_rankedBetween_296 : decode cX8_rankedBetween 296 = .ok (.aload_n 0, 1) := by decide +kernel
theorem dX8_rankedBetween_297 : decode cX8_rankedBetween 297 = .ok (.getfield 57, 3) := by decide +kernel
theorem dX8_rankedBetween_300 : decode cX8_rankedBetween 300 = .ok (.iload 7, 2) := by decide +kernel
theorem dX8_rankedBetween_302 : decode cX8_rankedBetween 302 = .ok (.iaload, 1) := by decide +kernel
theorem dX8_rankedBetween_303 : decode cX8_rankedBetween 303 = .ok (.sipush 1000, 3) := by decide +kernel
theorem dX8_rankedBetween_306 : decode cX8_rankedBetween 306 = .ok (.irem, 1) := by decide +kernel
theorem dX8_rankedBetween_307 : decode cX8_rankedBetween 307 = .ok (.i2l, 1) := by decide +kernel
theorem dX8_rankedBetween_308 : decode cX8_rankedBetween 308 = .ok (.invokevirtual 135, 3) := by decide +kernel
theorem dX8_rankedBetween_311 : decode cX8_rankedBetween 311 = .ok (.iconst 1, 1) := by decide +kernel
theorem dX8_rankedBetween_312 : decode cX8_rankedBetween 312 = .ok (.if_icmp .ne 8, 3) := by decide +kernel
theorem dX8_rankedBetween_315 : decode cX8_rankedBetween 315 = .ok (.iload 6, 2) := by decide +kernel
theorem dX8_rankedBetween_317 : decode cX8_rankedBetween 317 = .ok (.goto 5, 3) := by decide +kernel
theorem dX8_rankedBetween_320 : decode cX8_rankedBetween 320 = .ok (.bipush (-2), 2) := by decide +kernel
theorem dX8_rankedBetween_322 : decode cX8_rankedBetween 322 = .ok (.ireturn, 1) := by decide +kernel
theorem dX8_rankedBetween_323 : decode cX8_rankedBetween 323 = .ok (.iinc 7 1, 3) := by decide +kernel
theorem dX8_rankedBetween_326 : decode cX8_rankedBetween 326 = .ok (.goto (-105), 3) := by decide +kernel
theorem dX8_rankedBetween_329 : decode cX8_rankedBetween 329 = .ok (.bipush (-2), 2) := by decide +kernel
theorem dX8_rankedBetween_331 : decode cX8_rankedBetween 331 = .ok (.ireturn, 1) := by decide +kernel
set_option maxRecDepth 20000 in
theorem ggX8_fareyNext_X8_isRegister : GoodIn wsX8_fareyNext wsX8_isRegister := goodIn_r _ [8, 9, 10, 11, 7, 12] (by decide +kernel) (by decide +kernel)
set_option maxRecDepth 20000 in
theorem gX8_fareyNext_X8_isRegister : GoodIn wsX8_fareyNext (wsV RX8 131 RX8 yX8_isRegister wsX8_isRegister) := goodIn_app (goodIn_of _ (by decide +kernel)) ggX8_fareyNext_X8_isRegister
set_option maxRecDepth 20000 in
theorem ggX8_fareyNext_X8_within : GoodIn wsX8_fareyNext wsX8_within := goodIn_r _ [12] (by decide +kernel) (by decide +kernel)
set_option maxRecDepth 20000 in
theorem gX8_fareyNext_X8_within : GoodIn wsX8_fareyNext (va_wsS RX8 121 yX8_within wsX8_within) := goodIn_app (goodIn_of _ (by decide +kernel)) ggX8_fareyNext_X8_within
set_option maxRecDepth 20000 in
theorem ggX8_fareyNext_X8_put : GoodIn wsX8_fareyNext wsX8_put := goodIn_r _ [16, 17, 2, 3, 18, 19, 20, 7, 21, 22, 23, 24, 25, 26, 27, 28, 29, 30, 31, 32, 33, 34, 35, 36, 37, 38, 39, 40, 41, 42, 43, 44, 45, 46, 47, 48, 49, 50, 51, 52, 53, 54, 55, 56] (by decide +kernel) (by decide +kernel)
set_option maxRecDepth 20000 in
theorem gX8_fareyNext_X8_put : GoodIn wsX8_fareyNext (wsV RX8 135 RX8 yX8_put wsX8_put) := goodIn_app (goodIn_of _ (by decide +kernel)) ggX8_fareyNext_X8_put
theorem dX8_fareyNext_0 : decode cX8_fareyNext 0 = .ok (.aload_n 0, 1) := by decide +kernel
theorem dX8_fareyNext_1 : decode cX8_fareyNext 1 = .ok (.iload_n 1, 1) := by decide +kernel
theorem dX8_fareyNext_2 : decode cX8_fareyNext 2 = .ok (.invokevirtual 131, 3) := by decide +kernel
theorem dX8_fareyNext_5 : decode cX8_fareyNext 5 = .ok (.ifCond .eq 23, 3) := by decide +kernel
theorem dX8_fareyNext_8 : decode cX8_fareyNext 8 = .ok (.aload_n 0, 1) := by decide +kernel
theorem dX8_fareyNext_9 : decode cX8_fareyNext 9 = .ok (.iload_n 2, 1) := by decide +kernel
theorem dX8_fareyNext_10 : decode cX8_fareyNext 10 = .ok (.invokevirtual 131, 3) := by decide +kernel
theorem dX8_fareyNext_13 : decode cX8_fareyNext 13 = .ok (.ifCond .eq 15, 3) := by decide +kernel
theorem dX8_fareyNext_16 : decode cX8_fareyNext 16 = .ok (.iload_n 3, 1) := by decide +kernel
theorem dX8_fareyNext_17 : decode cX8_fareyNext 17 = .ok (.i2l, 1) := by decide +kernel
theorem dX8_fareyNext_18 : decode cX8_fareyNext 18 = .ok (.lconst 1, 1) := by decide +kernel
theorem dX8_fareyNext_19 : decode cX8_fareyNext 19 = .ok (.ldc2_w 192, 3) := by decide +kernel
theorem dX8_fareyNext_22 : decode cX8_fareyNext 22 = .ok (.invokestatic 121, 3) := by decide +kernel
theorem dX8_fareyNext_25 : decode cX8_fareyNext 25 = .ok (.ifCond .ne 5, 3) := by decide +kernel
theorem dX8_fareyNext_28 : decode cX8_fareyNext 28 = .ok (.iconst (-1), 1) := by decide +kernel
theorem dX8_fareyNext_29 : decode cX8_fareyNext 29 = .ok (.ireturn, 1) := by decide +kernel
theorem dX8_fareyNext_30 : decode cX8_fareyNext 30 = .ok (.aload_n 0, 1) := by decide +kernel
theorem dX8_fareyNext_31 : decode cX8_fareyNext 31 = .ok (.getfield 7, 3) := by decide +kernel
theorem dX8_fareyNext_34 : decode cX8_fareyNext 34 = .ok (.iload_n 2, 1) := by decide +kernel
theorem dX8_fareyNext_35 : decode cX8_fareyNext 35 = .ok (.iaload, 1) := by decide +kernel
theorem dX8_fareyNext_36 : decode cX8_fareyNext 36 = .ok (.aload_n 0, 1) := by decide +kernel
theorem dX8_fareyNext_37 : decode cX8_fareyNext 37 = .ok (.getfield 13, 3) := by decide +kernel
theorem dX8_fareyNext_40 : decode cX8_fareyNext 40 = .ok (.iload_n 2, 1) := by decide +kernel
theorem dX8_fareyNext_41 : decode cX8_fareyNext 41 = .ok (.iaload, 1) := by decide +kernel
theorem dX8_fareyNext_42 : decode cX8_fareyNext 42 = .ok (.idiv, 1) := by decide +kernel
theorem dX8_fareyNext_43 : decode cX8_fareyNext 43 = .ok (.iconst 1, 1) := by decide +kernel
theorem dX8_fareyNext_44 : decode cX8_fareyNext 44 = .ok (.iadd, 1) := by decide +kernel
theorem dX8_fareyNext_45 : decode cX8_fareyNext 45 = .ok (.i2l, 1) := by decide +kernel
theorem dX8_fareyNext_46 : decode cX8_fareyNext 46 = .ok (.lstore 4, 2) := by decide +kernel
theorem dX8_fareyNext_48 : decode cX8_fareyNext 48 = .ok (.lconst 1, 1) := by decide +kernel
theorem dX8_fareyNext_49 : decode cX8_fareyNext 49 = .ok (.lstore 6, 2) := by decide +kernel
theorem dX8_fareyNext_51 : decode cX8_fareyNext 51 = .ok (.iconst 2, 1) := by decide +kernel
theorem dX8_fareyNext_52 : decode cX8_fareyNext 52 = .ok (.istore 8, 2) := by decide +kernel
theorem dX8_fareyNext_54 : decode cX8_fareyNext 54 = .ok (.iload 8, 2) := by decide +kernel
theorem dX8_fareyNext_56 : decode cX8_fareyNext 56 = .ok (.iload_n 3, 1) := by decide +kernel
theorem dX8_fareyNext_57 : decode cX8_fareyNext 57 = .ok (.if_icmp .gt 59, 3) := by decide +kernel
theorem dX8_fareyNext_60 : decode cX8_fareyNext 60 = .ok (.aload_n 0, 1) := by decide +kernel
theorem dX8_fareyNext_61 : decode cX8_fareyNext 61 = .ok (.getfield 7, 3) := by decide +kernel
theorem dX8_fareyNext_64 : decode cX8_fareyNext 64 = .ok (.iload_n 2, 1) := by decide +kernel
theorem dX8_fareyNext_65 : decode cX8_fareyNext 65 = .ok (.iaload, 1) := by decide +kernel
theorem dX8_fareyNext_66 : decode cX8_fareyNext 66 = .ok (.i2l, 1) := by decide +kernel
theorem dX8_fareyNext_67 : decode cX8_fareyNext 67 = .ok (.iload 8, 2) := by decide +kernel
theorem dX8_fareyNext_69 : decode cX8_fareyNext 69 = .ok (.i2l, 1) := by decide +kernel
theorem dX8_fareyNext_70 : decode cX8_fareyNext 70 = .ok (.lmul, 1) := by decide +kernel
theorem dX8_fareyNext_71 : decode cX8_fareyNext 71 = .ok (.aload_n 0, 1) := by decide +kernel
theorem dX8_fareyNext_72 : decode cX8_fareyNext 72 = .ok (.getfield 13, 3) := by decide +kernel
theorem dX8_fareyNext_75 : decode cX8_fareyNext 75 = .ok (.iload_n 2, 1) := by decide +kernel
theorem dX8_fareyNext_76 : decode cX8_fareyNext 76 = .ok (.iaload, 1) := by decide +kernel
theorem dX8_fareyNext_77 : decode cX8_fareyNext 77 = .ok (.i2l, 1) := by decide +kernel
theorem dX8_fareyNext_78 : decode cX8_fareyNext 78 = .ok (.ldiv, 1) := by decide +kernel
theorem dX8_fareyNext_79 : decode cX8_fareyNext 79 = .ok (.lconst 1, 1) := by decide +kernel
theorem dX8_fareyNext_80 : decode cX8_fareyNext 80 = .ok (.ladd, 1) := by decide +kernel
theorem dX8_fareyNext_81 : decode cX8_fareyNext 81 = .ok (.lstore 9, 2) := by decide +kernel
theorem dX8_fareyNext_83 : decode cX8_fareyNext 83 = .ok (.lload 9, 2) := by decide +kernel
theorem dX8_fareyNext_85 : decode cX8_fareyNext 85 = .ok (.lload 6, 2) := by decide +kernel
theorem dX8_fareyNext_87 : decode cX8_fareyNext 87 = .ok (.lmul, 1) := by decide +kernel
theorem dX8_fareyNext_88 : decode cX8_fareyNext 88 = .ok (.lload 4, 2) := by decide +kernel
theorem dX8_fareyNext_90 : decode cX8_fareyNext 90 = .ok (.iload 8, 2) := by decide +kernel
theorem dX8_fareyNext_92 : decode cX8_fareyNext 92 = .ok (.i2l, 1) := by decide +kernel
theorem dX8_fareyNext_93 : decode cX8_fareyNext 93 = .ok (.lmul, 1) := by decide +kernel
theorem dX8_fareyNext_94 : decode cX8_fareyNext 94 = .ok (.lcmp, 1) := by decide +kernel
theorem dX8_fareyNext_95 : decode cX8_fareyNext 95 = .ok (.ifCond .lt 6, 3) := by decide +kernel
theorem dX8_fareyNext_98 : decode cX8_fareyNext 98 = .ok (.goto 12, 3) := by decide +kernel
theorem dX8_fareyNext_101 : decode cX8_fareyNext 101 = .ok (.lload 9, 2) := by decide +kernel
theorem dX8_fareyNext_103 : decode cX8_fareyNext 103 = .ok (.lstore 4, 2) := by decide +kernel
theorem dX8_fareyNext_105 : decode cX8_fareyNext 105 = .ok (.iload 8, 2) := by decide +kernel
theorem dX8_fareyNext_107 : decode cX8_fareyNext 107 = .ok (.i2l, 1) := by decide +kernel
theorem dX8_fareyNext_108 : decode cX8_fareyNext 108 = .ok (.lstore 6, 2) := by decide +kernel
theorem dX8_fareyNext_110 : decode cX8_fareyNext 110 = .ok (.iinc 8 1, 3) := by decide +kernel
theorem dX8_fareyNext_113 : decode cX8_fareyNext 113 = .ok (.goto (-59), 3) := by decide +kernel
theorem dX8_fareyNext_116 : decode cX8_fareyNext 116 = .ok (.aload_n 0, 1) := by decide +kernel
theorem dX8_fareyNext_117 : decode cX8_fareyNext 117 = .ok (.iload_n 1, 1) := by decide +kernel
theorem dX8_fareyNext_118 : decode cX8_fareyNext 118 = .ok (.lload 4, 2) := by decide +kernel
theorem dX8_fareyNext_120 : decode cX8_fareyNext 120 = .ok (.lload 6, 2) := by decide +kernel
theorem dX8_fareyNext_122 : decode cX8_fareyNext 122 = .ok (.invokevirtual 135, 3) := by decide +kernel
theorem dX8_fareyNext_125 : decode cX8_fareyNext 125 = .ok (.ireturn, 1) := by decide +kernel
set_option maxRecDepth 20000 in
theorem ggX8_fareyCount_X8_within : GoodIn wsX8_fareyCount wsX8_within := goodIn_r _ [5] (by decide +kernel) (by decide +kernel)
set_option maxRecDepth 20000 in
theorem gX8_fareyCount_X8_within : GoodIn wsX8_fareyCount (va_wsS RX8 121 yX8_within wsX8_within) := goodIn_app (goodIn_of _ (by decide +kernel)) ggX8_fareyCount_X8_within
set_option maxRecDepth 20000 in
theorem ggX8_fareyCount_X8_coprimes : GoodIn wsX8_fareyCount wsX8_coprimes := goodIn_r _ [9] (by decide +kernel) (by decide +kernel)
set_option maxRecDepth 20000 in
theorem gX8_fareyCount_X8_coprimes : GoodIn wsX8_fareyCount (wsV RX8 194 RX8 yX8_coprimes wsX8_coprimes) := goodIn_app (goodIn_of _ (by decide +kernel)) ggX8_fareyCount_X8_coprimes
theorem dX8_fareyCount_0 : decode cX8_fareyCount 0 = .ok (.iload_n 1, 1) := by decide +kernel
theorem dX8_fareyCount_1 : decode cX8_fareyCount 1 = .ok (.i2l, 1) := by decide +kernel
theorem dX8_fareyCount_2 : decode cX8_fareyCount 2 = .ok (.lconst 1, 1) := by decide +kernel
theorem dX8_fareyCount_3 : decode cX8_fareyCount 3 = .ok (.ldc2_w 192, 3) := by decide +kernel
theorem dX8_fareyCount_6 : decode cX8_fareyCount 6 = .ok (.invokestatic 121, 3) := by decide +kernel
theorem dX8_fareyCount_9 : decode cX8_fareyCount 9 = .ok (.ifCond .ne 5, 3) := by decide +kernel
theorem dX8_fareyCount_12 : decode cX8_fareyCount 12 = .ok (.iconst (-1), 1) := by decide +kernel
theorem dX8_fareyCount_13 : decode cX8_fareyCount 13 = .ok (.ireturn, 1) := by decide +kernel
theorem dX8_fareyCount_14 : decode cX8_fareyCount 14 = .ok (.iconst 0, 1) := by decide +kernel
theorem dX8_fareyCount_15 : decode cX8_fareyCount 15 = .ok (.istore_n 2, 1) := by decide +kernel
theorem dX8_fareyCount_16 : decode cX8_fareyCount 16 = .ok (.iconst 1, 1) := by decide +kernel
theorem dX8_fareyCount_17 : decode cX8_fareyCount 17 = .ok (.istore_n 3, 1) := by decide +kernel
theorem dX8_fareyCount_18 : decode cX8_fareyCount 18 = .ok (.iload_n 3, 1) := by decide +kernel
theorem dX8_fareyCount_19 : decode cX8_fareyCount 19 = .ok (.iload_n 1, 1) := by decide +kernel
theorem dX8_fareyCount_20 : decode cX8_fareyCount 20 = .ok (.if_icmp .gt 17, 3) := by decide +kernel
theorem dX8_fareyCount_23 : decode cX8_fareyCount 23 = .ok (.iload_n 2, 1) := by decide +kernel
theorem dX8_fareyCount_24 : decode cX8_fareyCount 24 = .ok (.aload_n 0, 1) := by decide +kernel
theorem dX8_fareyCount_25 : decode cX8_fareyCount 25 = .ok (.iload_n 3, 1) := by decide +kernel
theorem dX8_fareyCount_26 : decode cX8_fareyCount 26 = .ok (.invokevirtual 194, 3) := by decide +kernel
theorem dX8_fareyCount_29 : decode cX8_fareyCount 29 = .ok (.iadd, 1) := by decide +kernel
theorem dX8_fareyCount_30 : decode cX8_fareyCount 30 = .ok (.istore_n 2, 1) := by decide +kernel
theorem dX8_fareyCount_31 : decode cX8_fareyCount 31 = .ok (.iinc 3 1, 3) := by decide +kernel
theorem dX8_fareyCount_34 : decode cX8_fareyCount 34 = .ok (.goto (-16), 3) := by decide +kernel
theorem dX8_fareyCount_37 : decode cX8_fareyCount 37 = .ok (.iload_n 2, 1) := by decide +kernel
theorem dX8_fareyCount_38 : decode cX8_fareyCount 38 = .ok (.ireturn, 1) := by decide +kernel
theorem dX8_coprimes_0 : decode cX8_coprimes 0 = .ok (.iload_n 1, 1) := by decide +kernel
theorem dX8_coprimes_1 : decode cX8_coprimes 1 = .ok (.istore_n 2, 1) := by decide +kernel
theorem dX8_coprimes_2 : decode cX8_coprimes 2 = .ok (.iload_n 1, 1) := by decide +kernel
theorem dX8_coprimes_3 : decode cX8_coprimes 3 = .ok (.istore_n 3, 1) := by decide +kernel
theorem dX8_coprimes_4 : decode cX8_coprimes 4 = .ok (.iconst 2, 1) := by decide +kernel
theorem dX8_coprimes_5 : decode cX8_coprimes 5 = .ok (.istore 4, 2) := by decide +kernel
theorem dX8_coprimes_7 : decode cX8_coprimes 7 = .ok (.iload 4, 2) := by decide +kernel
theorem dX8_coprimes_9 : decode cX8_coprimes 9 = .ok (.iload 4, 2) := by decide +kernel
theorem dX8_coprimes_11 : decode cX8_coprimes 11 = .ok (.imul, 1) := by decide +kernel
theorem dX8_coprimes_12 : decode cX8_coprimes 12 = .ok (.iload_n 3, 1) := by decide +kernel
theorem dX8_coprimes_13 : decode cX8_coprimes 13 = .ok (.if_icmp .gt 44, 3) := by decide +kernel
theorem dX8_coprimes_16 : decode cX8_coprimes 16 = .ok (.iload_n 3, 1) := by decide +kernel
theorem dX8_coprimes_17 : decode cX8_coprimes 17 = .ok (.iload 4, 2) := by decide +kernel
theorem dX8_coprimes_19 : decode cX8_coprimes 19 = .ok (.irem, 1) := by decide +kernel
theorem dX8_coprimes_20 : decode cX8_coprimes 20 = .ok (.ifCond .eq 6, 3) := by decide +kernel
theorem dX8_coprimes_23 : decode cX8_coprimes 23 = .ok (.goto 28, 3) := by decide +kernel
theorem dX8_coprimes_26 : decode cX8_coprimes 26 = .ok (.iload_n 2, 1) := by decide +kernel
theorem dX8_coprimes_27 : decode cX8_coprimes 27 = .ok (.iload 4, 2) := by decide +kernel
theorem dX8_coprimes_29 : decode cX8_coprimes 29 = .ok (.idiv, 1) := by decide +kernel
theorem dX8_coprimes_30 : decode cX8_coprimes 30 = .ok (.iload 4, 2) := by decide +kernel
theorem dX8_coprimes_32 : decode cX8_coprimes 32 = .ok (.iconst 1, 1) := by decide +kernel
theorem dX8_coprimes_33 : decode cX8_coprimes 33 = .ok (.isub, 1) := by decide +kernel
theorem dX8_coprimes_34 : decode cX8_coprimes 34 = .ok (.imul, 1) := by decide +kernel
theorem dX8_coprimes_35 : decode cX8_coprimes 35 = .ok (.istore_n 2, 1) := by decide +kernel
theorem dX8_coprimes_36 : decode cX8_coprimes 36 = .ok (.iload_n 3, 1) := by decide +kernel
theorem dX8_coprimes_37 : decode cX8_coprimes 37 = .ok (.iload 4, 2) := by decide +kernel
theorem dX8_coprimes_39 : decode cX8_coprimes 39 = .ok (.irem, 1) := by decide +kernel
theorem dX8_coprimes_40 : decode cX8_coprimes 40 = .ok (.ifCond .ne 11, 3) := by decide +kernel
theorem dX8_coprimes_43 : decode cX8_coprimes 43 = .ok (.iload_n 3, 1) := by decide +kernel
theorem dX8_coprimes_44 : decode cX8_coprimes 44 = .ok (.iload 4, 2) := by decide +kernel
theorem dX8_coprimes_46 : decode cX8_coprimes 46 = .ok (.idiv, 1) := by decide +kernel
theorem dX8_coprimes_47 : decode cX8_coprimes 47 = .ok (.istore_n 3, 1) := by decide +kernel
theorem dX8_coprimes_48 : decode cX8_coprimes 48 = .ok (.goto (-12), 3) := by decide +kernel
theorem dX8_coprimes_51 : decode cX8_coprimes 51 = .ok (.iinc 4 1, 3) := by decide +kernel
theorem dX8_coprimes_54 : decode cX8_coprimes 54 = .ok (.goto (-47), 3) := by decide +kernel
theorem dX8_coprimes_57 : decode cX8_coprimes 57 = .ok (.iload_n 3, 1) := by decide +kernel
theorem dX8_coprimes_58 : decode cX8_coprimes 58 = .ok (.iconst 1, 1) := by decide +kernel
theorem dX8_coprimes_59 : decode cX8_coprimes 59 = .ok (.if_icmp .le 13, 3) := by decide +kernel
theorem dX8_coprimes_62 : decode cX8_coprimes 62 = .ok (.iload_n 2, 1) := by decide +kernel
theorem dX8_coprimes_63 : decode cX8_coprimes 63 = .ok (.iload_n 3, 1) := by decide +kernel
theorem dX8_coprimes_64 : decode cX8_coprimes 64 = .ok (.idiv, 1) := by decide +kernel
theorem dX8_coprimes_65 : decode cX8_coprimes 65 = .ok (.iload_n 3, 1) := by decide +kernel
theorem dX8_coprimes_66 : decode cX8_coprimes 66 = .ok (.iconst 1, 1) := by decide +kernel
theorem dX8_coprimes_67 : decode cX8_coprimes 67 = .ok (.isub, 1) := by decide +kernel
theorem dX8_coprimes_68 : decode cX8_coprimes 68 = .ok (.imul, 1) := by decide +kernel
theorem dX8_coprimes_69 : decode cX8_coprimes 69 = .ok (.goto 4, 3) := by decide +kernel
theorem dX8_coprimes_72 : decode cX8_coprimes 72 = .ok (.iload_n 2, 1) := by decide +kernel
theorem dX8_coprimes_73 : decode cX8_coprimes 73 = .ok (.ireturn, 1) := by decide +kernel
set_option maxRecDepth 20000 in
theorem ggX8_calkinWilfIndex_X8_isRegister : GoodIn wsX8_calkinWilfIndex wsX8_isRegister := goodIn_r _ [9, 10, 11, 12, 8, 13] (by decide +kernel) (by decide +kernel)
set_option maxRecDepth 20000 in
theorem gX8_calkinWilfIndex_X8_isRegister : GoodIn wsX8_calkinWilfIndex (wsV RX8 131 RX8 yX8_isRegister wsX8_isRegister) := goodIn_app (goodIn_of _ (by decide +kernel)) ggX8_calkinWilfIndex_X8_isRegister
set_option maxRecDepth 20000 in
theorem ggX8_calkinWilfIndex_X8_depthOf : GoodIn wsX8_calkinWilfIndex wsX8_depthOf := goodIn_r _ [17, 18, 19, 20, 21, 22, 8, 23, 24, 25, 26, 27, 28, 29, 30, 31, 32, 33, 34, 35, 36, 37, 38, 39, 40, 41, 42, 43, 44, 45, 46, 47, 48, 49, 50, 51, 52, 53, 54, 55, 56, 57, 58, 59, 60, 61, 62, 63, 64, 65] (by decide +kernel) (by decide +kernel)
set_option maxRecDepth 20000 in
theorem gX8_calkinWilfIndex_X8_depthOf : GoodIn wsX8_calkinWilfIndex (wsV RX8 154 RX8 yX8_depthOf wsX8_depthOf) := goodIn_app (goodIn_of _ (by decide +kernel)) ggX8_calkinWilfIndex_X8_depthOf
theorem dX8_calkinWilfIndex_0 : decode cX8_calkinWilfIndex 0 = .ok (.aload_n 0, 1) := by decide +kernel
theorem dX8_calkinWilfIndex_1 : decode cX8_calkinWilfIndex 1 = .ok (.iload_n 1, 1) := by decide +kernel
theorem dX8_calkinWilfIndex_2 : decode cX8_calkinWilfIndex 2 = .ok (.invokevirtual 131, 3) := by decide +kernel
theorem dX8_calkinWilfIndex_5 : decode cX8_calkinWilfIndex 5 = .ok (.ifCond .ne 7, 3) := by decide +kernel
theorem dX8_calkinWilfIndex_8 : decode cX8_calkinWilfIndex 8 = .ok (.ldc2_w 145, 3) := by decide +kernel
theorem dX8_calkinWilfIndex_11 : decode cX8_calkinWilfIndex 11 = .ok (.lreturn, 1) := by decide +kernel
theorem dX8_calkinWilfIndex_12 : decode cX8_calkinWilfIndex 12 = .ok (.aload_n 0, 1) := by decide +kernel
theorem dX8_calkinWilfIndex_13 : decode cX8_calkinWilfIndex 13 = .ok (.aload_n 0, 1) := by decide +kernel
theorem dX8_calkinWilfIndex_14 : decode cX8_calkinWilfIndex 14 = .ok (.getfield 7, 3) := by decide +kernel
theorem dX8_calkinWilfIndex_17 : decode cX8_calkinWilfIndex 17 = .ok (.iload_n 1, 1) := by decide +kernel
theorem dX8_calkinWilfIndex_18 : decode cX8_calkinWilfIndex 18 = .ok (.iaload, 1) := by decide +kernel
theorem dX8_calkinWilfIndex_19 : decode cX8_calkinWilfIndex 19 = .ok (.aload_n 0, 1) := by decide +kernel
theorem dX8_calkinWilfIndex_20 : decode cX8_calkinWilfIndex 20 = .ok (.getfield 13, 3) := by decide +kernel
theorem dX8_calkinWilfIndex_23 : decode cX8_calkinWilfIndex 23 = .ok (.iload_n 1, 1) := by decide +kernel
theorem dX8_calkinWilfIndex_24 : decode cX8_calkinWilfIndex 24 = .ok (.iaload, 1) := by decide +kernel
theorem dX8_calkinWilfIndex_25 : decode cX8_calkinWilfIndex 25 = .ok (.invokevirtual 154, 3) := by decide +kernel
theorem dX8_calkinWilfIndex_28 : decode cX8_calkinWilfIndex 28 = .ok (.istore_n 2, 1) := by decide +kernel
theorem dX8_calkinWilfIndex_29 : decode cX8_calkinWilfIndex 29 = .ok (.iload_n 2, 1) := by decide +kernel
theorem dX8_calkinWilfIndex_30 : decode cX8_calkinWilfIndex 30 = .ok (.bipush 60, 2) := by decide +kernel
theorem dX8_calkinWilfIndex_32 : decode cX8_calkinWilfIndex 32 = .ok (.if_icmp .le 7, 3) := by decide +kernel
theorem dX8_calkinWilfIndex_35 : decode cX8_calkinWilfIndex 35 = .ok (.ldc2_w 197, 3) := by decide +kernel
theorem dX8_calkinWilfIndex_38 : decode cX8_calkinWilfIndex 38 = .ok (.lreturn, 1) := by decide +kernel
theorem dX8_calkinWilfIndex_39 : decode cX8_calkinWilfIndex 39 = .ok (.aload_n 0, 1) := by decide +kernel
theorem dX8_calkinWilfIndex_40 : decode cX8_calkinWilfIndex 40 = .ok (.getfield 7, 3) := by decide +kernel
theorem dX8_calkinWilfIndex_43 : decode cX8_calkinWilfIndex 43 = .ok (.iload_n 1, 1) := by decide +kernel
theorem dX8_calkinWilfIndex_44 : decode cX8_calkinWilfIndex 44 = .ok (.iaload, 1) := by decide +kernel
theorem dX8_calkinWilfIndex_45 : decode cX8_calkinWilfIndex 45 = .ok (.istore_n 3, 1) := by decide +kernel
theorem dX8_calkinWilfIndex_46 : decode cX8_calkinWilfIndex 46 = .ok (.aload_n 0, 1) := by decide +kernel
theorem dX8_calkinWilfIndex_47 : decode cX8_calkinWilfIndex 47 = .ok (.getfield 13, 3) := by decide +kernel
theorem dX8_calkinWilfIndex_50 : decode cX8_calkinWilfIndex 50 = .ok (.iload_n 1, 1) := by decide +kernel
theorem dX8_calkinWilfIndex_51 : decode cX8_calkinWilfIndex 51 = .ok (.iaload, 1) := by decide +kernel
theorem dX8_calkinWilfIndex_52 : decode cX8_calkinWilfIndex 52 = .ok (.istore 4, 2) := by decide +kernel
theorem dX8_calkinWilfIndex_54 : decode cX8_calkinWilfIndex 54 = .ok (.lconst 1, 1) := by decide +kernel
theorem dX8_calkinWilfIndex_55 : decode cX8_calkinWilfIndex 55 = .ok (.iload_n 2, 1) := by decide +kernel
theorem dX8_calkinWilfIndex_56 : decode cX8_calkinWilfIndex 56 = .ok (.lshl, 1) := by decide +kernel
theorem dX8_calkinWilfIndex_57 : decode cX8_calkinWilfIndex 57 = .ok (.lstore 5, 2) := by decide +kernel
theorem dX8_calkinWilfIndex_59 : decode cX8_calkinWilfIndex 59 = .ok (.iconst 0, 1) := by decide +kernel
theorem dX8_calkinWilfIndex_60 : decode cX8_calkinWilfIndex 60 = .ok (.istore 7, 2) := by decide +kernel
theorem dX8_calkinWilfIndex_62 : decode cX8_calkinWilfIndex 62 = .ok (.iload 7, 2) := by decide +kernel
theorem dX8_calkinWilfIndex_64 : decode cX8_calkinWilfIndex 64 = .ok (.iload_n 2, 1) := by decide +kernel
theorem dX8_calkinWilfIndex_65 : decode cX8_calkinWilfIndex 65 = .ok (.if_icmp .ge 38, 3) := by decide +kernel
theorem dX8_calkinWilfIndex_68 : decode cX8_calkinWilfIndex 68 = .ok (.iload_n 3, 1) := by decide +kernel
theorem dX8_calkinWilfIndex_69 : decode cX8_calkinWilfIndex 69 = .ok (.iload 4, 2) := by decide +kernel
theorem dX8_calkinWilfIndex_71 : decode cX8_calkinWilfIndex 71 = .ok (.if_icmp .le 20, 3) := by decide +kernel
theorem dX8_calkinWilfIndex_74 : decode cX8_calkinWilfIndex 74 = .ok (.lload 5, 2) := by decide +kernel
theorem dX8_calkinWilfIndex_76 : decode cX8_calkinWilfIndex 76 = .ok (.lconst 1, 1) := by decide +kernel
theorem dX8_calkinWilfIndex_77 : decode cX8_calkinWilfIndex 77 = .ok (.iload 7, 2) := by decide +kernel
theorem dX8_calkinWilfIndex_79 : decode cX8_calkinWilfIndex 79 = .ok (.lshl, 1) := by decide +kernel
theorem dX8_calkinWilfIndex_80 : decode cX8_calkinWilfIndex 80 = .ok (.lor, 1) := by decide +kernel
theorem dX8_calkinWilfIndex_81 : decode cX8_calkinWilfIndex 81 = .ok (.lstore 5, 2) := by decide +kernel
theorem dX8_calkinWilfIndex_83 : decode cX8_calkinWilfIndex 83 = .ok (.iload_n 3, 1) := by decide +kernel
theorem dX8_calkinWilfIndex_84 : decode cX8_calkinWilfIndex 84 = .ok (.iload 4, 2) := by decide +kernel
theorem dX8_calkinWilfIndex_86 : decode cX8_calkinWilfIndex 86 = .ok (.isub, 1) := by decide +kernel
theorem dX8_calkinWilfIndex_87 : decode cX8_calkinWilfIndex 87 = .ok (.istore_n 3, 1) := by decide +kernel
theorem dX8_calkinWilfIndex_88 : decode cX8_calkinWilfIndex 88 = .ok (.goto 9, 3) := by decide +kernel
theorem dX8_calkinWilfIndex_91 : decode cX8_calkinWilfIndex 91 = .ok (.iload 4, 2) := by decide +kernel
theorem dX8_calkinWilfIndex_93 : decode cX8_calkinWilfIndex 93 = .ok (.iload_n 3, 1) := by decide +kernel
theorem dX8_calkinWilfIndex_94 : decode cX8_calkinWilfIndex 94 = .ok (.isub, 1) := by decide +kernel
theorem dX8_calkinWilfIndex_95 : decode cX8_calkinWilfIndex 95 = .ok (.istore 4, 2) := by decide +kernel
theorem dX8_calkinWilfIndex_97 : decode cX8_calkinWilfIndex 97 = .ok (.iinc 7 1, 3) := by decide +kernel
theorem dX8_calkinWilfIndex_100 : decode cX8_calkinWilfIndex 100 = .ok (.goto (-38), 3) := by decide +kernel
theorem dX8_calkinWilfIndex_103 : decode cX8_calkinWilfIndex 103 = .ok (.lload 5, 2) := by decide +kernel
theorem dX8_calkinWilfIndex_105 : decode cX8_calkinWilfIndex 105 = .ok (.lreturn, 1) := by decide +kernel
set_option maxRecDepth 20000 in
theorem ggX8_fromCalkinWilf_X8_isRegister : GoodIn wsX8_fromCalkinWilf wsX8_isRegister := goodIn_r _ [6, 7, 8, 9, 5, 10] (by decide +kernel) (by decide +kernel)
set_option maxRecDepth 20000 in
theorem gX8_fromCalkinWilf_X8_isRegister : GoodIn wsX8_fromCalkinWilf (wsV RX8 131 RX8 yX8_isRegister wsX8_isRegister) := goodIn_app (goodIn_of _ (by decide +kernel)) ggX8_fromCalkinWilf_X8_isRegister
set_option maxRecDepth 20000 in
theorem ggX8_fromCalkinWilf_X8_put : GoodIn wsX8_fromCalkinWilf wsX8_put := goodIn_r _ [14, 1, 15, 16, 17, 18, 19, 5, 20, 21, 22, 23, 24, 25, 26, 27, 28, 29, 30, 31, 32, 33, 34, 35, 36, 37, 38, 39, 40, 41, 42, 43, 44, 45, 46, 47, 48, 49, 50, 51, 52, 53, 54, 55] (by decide +kernel) (by decide +kernel)
set_option maxRecDepth 20000 in
theorem gX8_fromCalkinWilf_X8_put : GoodIn wsX8_fromCalkinWilf (wsV RX8 135 RX8 yX8_put wsX8_put) := goodIn_app (goodIn_of _ (by decide +kernel)) ggX8_fromCalkinWilf_X8_put
theorem dX8_fromCalkinWilf_0 : decode cX8_fromCalkinWilf 0 = .ok (.aload_n 0, 1) := by decide +kernel
theorem dX8_fromCalkinWilf_1 : decode cX8_fromCalkinWilf 1 = .ok (.iload_n 1, 1) := by decide +kernel
theorem dX8_fromCalkinWilf_2 : decode cX8_fromCalkinWilf 2 = .ok (.invokevirtual 131, 3) := by decide +kernel
theorem dX8_fromCalkinWilf_5 : decode cX8_fromCalkinWilf 5 = .ok (.ifCond .eq 9, 3) := by decide +kernel
theorem dX8_fromCalkinWilf_8 : decode cX8_fromCalkinWilf 8 = .ok (.lload_n 2, 1) := by decide +kernel
theorem dX8_fromCalkinWilf_9 : decode cX8_fromCalkinWilf 9 = .ok (.lconst 1, 1) := by decide +kernel
theorem dX8_fromCalkinWilf_10 : decode cX8_fromCalkinWilf 10 = .ok (.lcmp, 1) := by decide +kernel
theorem dX8_fromCalkinWilf_11 : decode cX8_fromCalkinWilf 11 = .ok (.ifCond .ge 5, 3) := by decide +kernel
theorem dX8_fromCalkinWilf_14 : decode cX8_fromCalkinWilf 14 = .ok (.iconst (-1), 1) := by decide +kernel
theorem dX8_fromCalkinWilf_15 : decode cX8_fromCalkinWilf 15 = .ok (.ireturn, 1) := by decide +kernel
theorem dX8_fromCalkinWilf_16 : decode cX8_fromCalkinWilf 16 = .ok (.bipush 62, 2) := by decide +kernel
theorem dX8_fromCalkinWilf_18 : decode cX8_fromCalkinWilf 18 = .ok (.istore 4, 2) := by decide +kernel
theorem dX8_fromCalkinWilf_20 : decode cX8_fromCalkinWilf 20 = .ok (.lload_n 2, 1) := by decide +kernel
theorem dX8_fromCalkinWilf_21 : decode cX8_fromCalkinWilf 21 = .ok (.iload 4, 2) := by decide +kernel
theorem dX8_fromCalkinWilf_23 : decode cX8_fromCalkinWilf 23 = .ok (.lshr, 1) := by decide +kernel
theorem dX8_fromCalkinWilf_24 : decode cX8_fromCalkinWilf 24 = .ok (.lconst 1, 1) := by decide +kernel
theorem dX8_fromCalkinWilf_25 : decode cX8_fromCalkinWilf 25 = .ok (.land, 1) := by decide +kernel
theorem dX8_fromCalkinWilf_26 : decode cX8_fromCalkinWilf 26 = .ok (.lconst 0, 1) := by decide +kernel
theorem dX8_fromCalkinWilf_27 : decode cX8_fromCalkinWilf 27 = .ok (.lcmp, 1) := by decide +kernel
theorem dX8_fromCalkinWilf_28 : decode cX8_fromCalkinWilf 28 = .ok (.ifCond .ne 9, 3) := by decide +kernel
theorem dX8_fromCalkinWilf_31 : decode cX8_fromCalkinWilf 31 = .ok (.iinc 4 (-1), 3) := by decide +kernel
theorem dX8_fromCalkinWilf_34 : decode cX8_fromCalkinWilf 34 = .ok (.goto (-14), 3) := by decide +kernel
theorem dX8_fromCalkinWilf_37 : decode cX8_fromCalkinWilf 37 = .ok (.lconst 1, 1) := by decide +kernel
theorem dX8_fromCalkinWilf_38 : decode cX8_fromCalkinWilf 38 = .ok (.lstore 5, 2) := by decide +kernel
theorem dX8_fromCalkinWilf_40 : decode cX8_fromCalkinWilf 40 = .ok (.lconst 1, 1) := by decide +kernel
theorem dX8_fromCalkinWilf_41 : decode cX8_fromCalkinWilf 41 = .ok (.lstore 7, 2) := by decide +kernel
theorem dX8_fromCalkinWilf_43 : decode cX8_fromCalkinWilf 43 = .ok (.iload 4, 2) := by decide +kernel
theorem dX8_fromCalkinWilf_45 : decode cX8_fromCalkinWilf 45 = .ok (.iconst 1, 1) := by decide +kernel
theorem dX8_fromCalkinWilf_46 : decode cX8_fromCalkinWilf 46 = .ok (.isub, 1) := by decide +kernel
theorem dX8_fromCalkinWilf_47 : decode cX8_fromCalkinWilf 47 = .ok (.istore 9, 2) := by decide +kernel
theorem dX8_fromCalkinWilf_49 : decode cX8_fromCalkinWilf 49 = .ok (.iload 9, 2) := by decide +kernel
theorem dX8_fromCalkinWilf_51 : decode cX8_fromCalkinWilf 51 = .ok (.ifCond .lt 58, 3) := by decide +kernel
theorem dX8_fromCalkinWilf_54 : decode cX8_fromCalkinWilf 54 = .ok (.lload_n 2, 1) := by decide +kernel
theorem dX8_fromCalkinWilf_55 : decode cX8_fromCalkinWilf 55 = .ok (.iload 9, 2) := by decide +kernel
theorem dX8_fromCalkinWilf_57 : decode cX8_fromCalkinWilf 57 = .ok (.lshr, 1) := by decide +kernel
theorem dX8_fromCalkinWilf_58 : decode cX8_fromCalkinWilf 58 = .ok (.lconst 1, 1) := by decide +kernel
theorem dX8_fromCalkinWilf_59 : decode cX8_fromCalkinWilf 59 = .ok (.land, 1) := by decide +kernel
theorem dX8_fromCalkinWilf_60 : decode cX8_fromCalkinWilf 60 = .ok (.lconst 1, 1) := by decide +kernel
theorem dX8_fromCalkinWilf_61 : decode cX8_fromCalkinWilf 61 = .ok (.lcmp, 1) := by decide +kernel
theorem dX8_fromCalkinWilf_62 : decode cX8_fromCalkinWilf 62 = .ok (.ifCond .ne 13, 3) := by decide +kernel
theorem dX8_fromCalkinWilf_65 : decode cX8_fromCalkinWilf 65 = .ok (.lload 5, 2) := by decide +kernel
theorem dX8_fromCalkinWilf_67 : decode cX8_fromCalkinWilf 67 = .ok (.lload 7, 2) := by decide +kernel
theorem dX8_fromCalkinWilf_69 : decode cX8_fromCalkinWilf 69 = .ok (.ladd, 1) := by decide +kernel
theorem dX8_fromCalkinWilf_70 : decode cX8_fromCalkinWilf 70 = .ok (.lstore 5, 2) := by decide +kernel
theorem dX8_fromCalkinWilf_72 : decode cX8_fromCalkinWilf 72 = .ok (.goto 10, 3) := by decide +kernel
theorem dX8_fromCalkinWilf_75 : decode cX8_fromCalkinWilf 75 = .ok (.lload 7, 2) := by decide +kernel
theorem dX8_fromCalkinWilf_77 : decode cX8_fromCalkinWilf 77 = .ok (.lload 5, 2) := by decide +kernel
theorem dX8_fromCalkinWilf_79 : decode cX8_fromCalkinWilf 79 = .ok (.ladd, 1) := by decide +kernel
theorem dX8_fromCalkinWilf_80 : decode cX8_fromCalkinWilf 80 = .ok (.lstore 7, 2) := by decide +kernel
theorem dX8_fromCalkinWilf_82 : decode cX8_fromCalkinWilf 82 = .ok (.lload 5, 2) := by decide +kernel
theorem dX8_fromCalkinWilf_84 : decode cX8_fromCalkinWilf 84 = .ok (.ldc2_w 129, 3) := by decide +kernel
theorem dX8_fromCalkinWilf_87 : decode cX8_fromCalkinWilf 87 = .ok (.lcmp, 1) := by decide +kernel
theorem dX8_fromCalkinWilf_88 : decode cX8_fromCalkinWilf 88 = .ok (.ifCond .gt 12, 3) := by decide +kernel
theorem dX8_fromCalkinWilf_91 : decode cX8_fromCalkinWilf 91 = .ok (.lload 7, 2) := by decide +kernel
theorem dX8_fromCalkinWilf_93 : decode cX8_fromCalkinWilf 93 = .ok (.ldc2_w 129, 3) := by decide +kernel
theorem dX8_fromCalkinWilf_96 : decode cX8_fromCalkinWilf 96 = .ok (.lcmp, 1) := by decide +kernel
theorem dX8_fromCalkinWilf_97 : decode cX8_fromCalkinWilf 97 = .ok (.ifCond .le 6, 3) := by decide +kernel
theorem dX8_fromCalkinWilf_100 : decode cX8_fromCalkinWilf 100 = .ok (.bipush (-3), 2) := by decide +kernel
theorem dX8_fromCalkinWilf_102 : decode cX8_fromCalkinWilf 102 = .ok (.ireturn, 1) := by decide +kernel
theorem dX8_fromCalkinWilf_103 : decode cX8_fromCalkinWilf 103 = .ok (.iinc 9 (-1), 3) := by decide +kernel
theorem dX8_fromCalkinWilf_106 : decode cX8_fromCalkinWilf 106 = .ok (.goto (-57), 3) := by decide +kernel
theorem dX8_fromCalkinWilf_109 : decode cX8_fromCalkinWilf 109 = .ok (.aload_n 0, 1) := by decide +kernel
theorem dX8_fromCalkinWilf_110 : decode cX8_fromCalkinWilf 110 = .ok (.iload_n 1, 1) := by decide +kernel
theorem dX8_fromCalkinWilf_111 : decode cX8_fromCalkinWilf 111 = .ok (.lload 5, 2) := by decide +kernel
theorem dX8_fromCalkinWilf_113 : decode cX8_fromCalkinWilf 113 = .ok (.lload 7, 2) := by decide +kernel
theorem dX8_fromCalkinWilf_115 : decode cX8_fromCalkinWilf 115 = .ok (.invokevirtual 135, 3) := by decide +kernel
theorem dX8_fromCalkinWilf_118 : decode cX8_fromCalkinWilf 118 = .ok (.ireturn, 1) := by decide +kernel
set_option maxRecDepth 20000 in
theorem ggX8_calkinWilfNext_X8_isRegister : GoodIn wsX8_calkinWilfNext wsX8_isRegister := goodIn_r _ [8, 9, 10, 11, 7, 12] (by decide +kernel) (by decide +kernel)
set_option maxRecDepth 20000 in
theorem gX8_calkinWilfNext_X8_isRegister : GoodIn wsX8_calkinWilfNext (wsV RX8 131 RX8 yX8_isRegister wsX8_isRegister) := goodIn_app (goodIn_of _ (by decide +kernel)) ggX8_calkinWilfNext_X8_isRegister
set_option maxRecDepth 20000 in
theorem ggX8_calkinWilfNext_X8_put : GoodIn wsX8_calkinWilfNext wsX8_put := goodIn_r _ [16, 17, 1, 2, 18, 19, 20, 7, 21, 22, 23, 24, 25, 26, 27, 28, 29, 30, 31, 32, 33, 34, 35, 36, 37, 38, 39, 40, 41, 42, 43, 44, 45, 46, 47, 48, 49, 50, 51, 52, 53, 54, 55, 56] (by decide +kernel) (by decide +kernel)
set_option maxRecDepth 20000 in
theorem gX8_calkinWilfNext_X8_put : GoodIn wsX8_calkinWilfNext (wsV RX8 135 RX8 yX8_put wsX8_put) := goodIn_app (goodIn_of _ (by decide +kernel)) ggX8_calkinWilfNext_X8_put
theorem dX8_calkinWilfNext_0 : decode cX8_calkinWilfNext 0 = .ok (.aload_n 0, 1) := by decide +kernel
theorem dX8_calkinWilfNext_1 : decode cX8_calkinWilfNext 1 = .ok (.iload_n 1, 1) := by decide +kernel
theorem dX8_calkinWilfNext_2 : decode cX8_calkinWilfNext 2 = .ok (.invokevirtual 131, 3) := by decide +kernel
theorem dX8_calkinWilfNext_5 : decode cX8_calkinWilfNext 5 = .ok (.ifCond .eq 11, 3) := by decide +kernel
theorem dX8_calkinWilfNext_8 : decode cX8_calkinWilfNext 8 = .ok (.aload_n 0, 1) := by decide +kernel
theorem dX8_calkinWilfNext_9 : decode cX8_calkinWilfNext 9 = .ok (.iload_n 2, 1) := by decide +kernel
theorem dX8_calkinWilfNext_10 : decode cX8_calkinWilfNext 10 = .ok (.invokevirtual 131, 3) := by decide +kernel
theorem dX8_calkinWilfNext_13 : decode cX8_calkinWilfNext 13 = .ok (.ifCond .ne 5, 3) := by decide +kernel
theorem dX8_calkinWilfNext_16 : decode cX8_calkinWilfNext 16 = .ok (.iconst (-1), 1) := by decide +kernel
theorem dX8_calkinWilfNext_17 : decode cX8_calkinWilfNext 17 = .ok (.ireturn, 1) := by decide +kernel
theorem dX8_calkinWilfNext_18 : decode cX8_calkinWilfNext 18 = .ok (.aload_n 0, 1) := by decide +kernel
theorem dX8_calkinWilfNext_19 : decode cX8_calkinWilfNext 19 = .ok (.getfield 7, 3) := by decide +kernel
theorem dX8_calkinWilfNext_22 : decode cX8_calkinWilfNext 22 = .ok (.iload_n 2, 1) := by decide +kernel
theorem dX8_calkinWilfNext_23 : decode cX8_calkinWilfNext 23 = .ok (.iaload, 1) := by decide +kernel
theorem dX8_calkinWilfNext_24 : decode cX8_calkinWilfNext 24 = .ok (.i2l, 1) := by decide +kernel
theorem dX8_calkinWilfNext_25 : decode cX8_calkinWilfNext 25 = .ok (.lstore_n 3, 1) := by decide +kernel
theorem dX8_calkinWilfNext_26 : decode cX8_calkinWilfNext 26 = .ok (.aload_n 0, 1) := by decide +kernel
theorem dX8_calkinWilfNext_27 : decode cX8_calkinWilfNext 27 = .ok (.getfield 13, 3) := by decide +kernel
theorem dX8_calkinWilfNext_30 : decode cX8_calkinWilfNext 30 = .ok (.iload_n 2, 1) := by decide +kernel
theorem dX8_calkinWilfNext_31 : decode cX8_calkinWilfNext 31 = .ok (.iaload, 1) := by decide +kernel
theorem dX8_calkinWilfNext_32 : decode cX8_calkinWilfNext 32 = .ok (.i2l, 1) := by decide +kernel
theorem dX8_calkinWilfNext_33 : decode cX8_calkinWilfNext 33 = .ok (.lstore 5, 2) := by decide +kernel
theorem dX8_calkinWilfNext_35 : decode cX8_calkinWilfNext 35 = .ok (.aload_n 0, 1) := by decide +kernel
theorem dX8_calkinWilfNext_36 : decode cX8_calkinWilfNext 36 = .ok (.iload_n 1, 1) := by decide +kernel
theorem dX8_calkinWilfNext_37 : decode cX8_calkinWilfNext 37 = .ok (.lload 5, 2) := by decide +kernel
theorem dX8_calkinWilfNext_39 : decode cX8_calkinWilfNext 39 = .ok (.ldc2_w 182, 3) := by decide +kernel
theorem dX8_calkinWilfNext_42 : decode cX8_calkinWilfNext 42 = .ok (.lload_n 3, 1) := by decide +kernel
theorem dX8_calkinWilfNext_43 : decode cX8_calkinWilfNext 43 = .ok (.lload 5, 2) := by decide +kernel
theorem dX8_calkinWilfNext_45 : decode cX8_calkinWilfNext 45 = .ok (.ldiv, 1) := by decide +kernel
theorem dX8_calkinWilfNext_46 : decode cX8_calkinWilfNext 46 = .ok (.lmul, 1) := by decide +kernel
theorem dX8_calkinWilfNext_47 : decode cX8_calkinWilfNext 47 = .ok (.lload 5, 2) := by decide +kernel
theorem dX8_calkinWilfNext_49 : decode cX8_calkinWilfNext 49 = .ok (.lmul, 1) := by decide +kernel
theorem dX8_calkinWilfNext_50 : decode cX8_calkinWilfNext 50 = .ok (.lload_n 3, 1) := by decide +kernel
theorem dX8_calkinWilfNext_51 : decode cX8_calkinWilfNext 51 = .ok (.lsub, 1) := by decide +kernel
theorem dX8_calkinWilfNext_52 : decode cX8_calkinWilfNext 52 = .ok (.lload 5, 2) := by decide +kernel
theorem dX8_calkinWilfNext_54 : decode cX8_calkinWilfNext 54 = .ok (.ladd, 1) := by decide +kernel
theorem dX8_calkinWilfNext_55 : decode cX8_calkinWilfNext 55 = .ok (.invokevirtual 135, 3) := by decide +kernel
theorem dX8_calkinWilfNext_58 : decode cX8_calkinWilfNext 58 = .ok (.ireturn, 1) := by decide +kernel
theorem dX8_letterOf_0 : decode cX8_letterOf 0 = .ok (.iload_n 1, 1) := by decide +kernel
theorem dX8_letterOf_1 : decode cX8_letterOf 1 = .ok (.iload_n 2, 1) := by decide +kernel
theorem dX8_letterOf_2 : decode cX8_letterOf 2 = .ok (.iadd, 1) := by decide +kernel
theorem dX8_letterOf_3 : decode cX8_letterOf 3 = .ok (.i2l, 1) := by decide +kernel
theorem dX8_letterOf_4 : decode cX8_letterOf 4 = .ok (.lstore 4, 2) := by decide +kernel
theorem dX8_letterOf_6 : decode cX8_letterOf 6 = .ok (.iload_n 3, 1) := by decide +kernel
theorem dX8_letterOf_7 : decode cX8_letterOf 7 = .ok (.i2l, 1) := by decide +kernel
theorem dX8_letterOf_8 : decode cX8_letterOf 8 = .ok (.lconst 1, 1) := by decide +kernel
theorem dX8_letterOf_9 : decode cX8_letterOf 9 = .ok (.ladd, 1) := by decide +kernel
theorem dX8_letterOf_10 : decode cX8_letterOf 10 = .ok (.iload_n 1, 1) := by decide +kernel
theorem dX8_letterOf_11 : decode cX8_letterOf 11 = .ok (.i2l, 1) := by decide +kernel
theorem dX8_letterOf_12 : decode cX8_letterOf 12 = .ok (.lmul, 1) := by decide +kernel
theorem dX8_letterOf_13 : decode cX8_letterOf 13 = .ok (.lload 4, 2) := by decide +kernel
theorem dX8_letterOf_15 : decode cX8_letterOf 15 = .ok (.lrem, 1) := by decide +kernel
theorem dX8_letterOf_16 : decode cX8_letterOf 16 = .ok (.iload_n 3, 1) := by decide +kernel
theorem dX8_letterOf_17 : decode cX8_letterOf 17 = .ok (.i2l, 1) := by decide +kernel
theorem dX8_letterOf_18 : decode cX8_letterOf 18 = .ok (.iload_n 1, 1) := by decide +kernel
theorem dX8_letterOf_19 : decode cX8_letterOf 19 = .ok (.i2l, 1) := by decide +kernel
theorem dX8_letterOf_20 : decode cX8_letterOf 20 = .ok (.lmul, 1) := by decide +kernel
theorem dX8_letterOf_21 : decode cX8_letterOf 21 = .ok (.lload 4, 2) := by decide +kernel
theorem dX8_letterOf_23 : decode cX8_letterOf 23 = .ok (.lrem, 1) := by decide +kernel
theorem dX8_letterOf_24 : decode cX8_letterOf 24 = .ok (.lcmp, 1) := by decide +kernel
theorem dX8_letterOf_25 : decode cX8_letterOf 25 = .ok (.ifCond .le 7, 3) := by decide +kernel
theorem dX8_letterOf_28 : decode cX8_letterOf 28 = .ok (.iconst 0, 1) := by decide +kernel
theorem dX8_letterOf_29 : decode cX8_letterOf 29 = .ok (.goto 4, 3) := by decide +kernel
theorem dX8_letterOf_32 : decode cX8_letterOf 32 = .ok (.iconst 1, 1) := by decide +kernel
theorem dX8_letterOf_33 : decode cX8_letterOf 33 = .ok (.ireturn, 1) := by decide +kernel
set_option maxRecDepth 20000 in
theorem ggX8_wordLetter_X8_isRegister : GoodIn wsX8_wordLetter wsX8_isRegister := goodIn_r _ [7, 8, 9, 10, 6, 11] (by decide +kernel) (by decide +kernel)
set_option maxRecDepth 20000 in
theorem gX8_wordLetter_X8_isRegister : GoodIn wsX8_wordLetter (wsV RX8 131 RX8 yX8_isRegister wsX8_isRegister) := goodIn_app (goodIn_of _ (by decide +kernel)) ggX8_wordLetter_X8_isRegister
set_option maxRecDepth 20000 in
theorem ggX8_wordLetter_X8_letterOf : GoodIn wsX8_wordLetter wsX8_letterOf := goodIn_r _ [15] (by decide +kernel) (by decide +kernel)
set_option maxRecDepth 20000 in
theorem gX8_wordLetter_X8_letterOf : GoodIn wsX8_wordLetter (wsV RX8 199 RX8 yX8_letterOf wsX8_letterOf) := goodIn_app (goodIn_of _ (by decide +kernel)) ggX8_wordLetter_X8_letterOf
theorem dX8_wordLetter_0 : decode cX8_wordLetter 0 = .ok (.aload_n 0, 1) := by decide +kernel
theorem dX8_wordLetter_1 : decode cX8_wordLetter 1 = .ok (.iload_n 1, 1) := by decide +kernel
theorem dX8_wordLetter_2 : decode cX8_wordLetter 2 = .ok (.invokevirtual 131, 3) := by decide +kernel
theorem dX8_wordLetter_5 : decode cX8_wordLetter 5 = .ok (.ifCond .eq 7, 3) := by decide +kernel
theorem dX8_wordLetter_8 : decode cX8_wordLetter 8 = .ok (.iload_n 2, 1) := by decide +kernel
theorem dX8_wordLetter_9 : decode cX8_wordLetter 9 = .ok (.ifCond .ge 5, 3) := by decide +kernel
theorem dX8_wordLetter_12 : decode cX8_wordLetter 12 = .ok (.iconst (-1), 1) := by decide +kernel
theorem dX8_wordLetter_13 : decode cX8_wordLetter 13 = .ok (.ireturn, 1) := by decide +kernel
theorem dX8_wordLetter_14 : decode cX8_wordLetter 14 = .ok (.iload_n 2, 1) := by decide +kernel
theorem dX8_wordLetter_15 : decode cX8_wordLetter 15 = .ok (.aload_n 0, 1) := by decide +kernel
theorem dX8_wordLetter_16 : decode cX8_wordLetter 16 = .ok (.getfield 7, 3) := by decide +kernel
theorem dX8_wordLetter_19 : decode cX8_wordLetter 19 = .ok (.iload_n 1, 1) := by decide +kernel
theorem dX8_wordLetter_20 : decode cX8_wordLetter 20 = .ok (.iaload, 1) := by decide +kernel
theorem dX8_wordLetter_21 : decode cX8_wordLetter 21 = .ok (.aload_n 0, 1) := by decide +kernel
theorem dX8_wordLetter_22 : decode cX8_wordLetter 22 = .ok (.getfield 13, 3) := by decide +kernel
theorem dX8_wordLetter_25 : decode cX8_wordLetter 25 = .ok (.iload_n 1, 1) := by decide +kernel
theorem dX8_wordLetter_26 : decode cX8_wordLetter 26 = .ok (.iaload, 1) := by decide +kernel
theorem dX8_wordLetter_27 : decode cX8_wordLetter 27 = .ok (.iadd, 1) := by decide +kernel
theorem dX8_wordLetter_28 : decode cX8_wordLetter 28 = .ok (.if_icmp .ge 23, 3) := by decide +kernel
theorem dX8_wordLetter_31 : decode cX8_wordLetter 31 = .ok (.aload_n 0, 1) := by decide +kernel
theorem dX8_wordLetter_32 : decode cX8_wordLetter 32 = .ok (.aload_n 0, 1) := by decide +kernel
theorem dX8_wordLetter_33 : decode cX8_wordLetter 33 = .ok (.getfield 7, 3) := by decide +kernel
theorem dX8_wordLetter_36 : decode cX8_wordLetter 36 = .ok (.iload_n 1, 1) := by decide +kernel
theorem dX8_wordLetter_37 : decode cX8_wordLetter 37 = .ok (.iaload, 1) := by decide +kernel
theorem dX8_wordLetter_38 : decode cX8_wordLetter 38 = .ok (.aload_n 0, 1) := by decide +kernel
theorem dX8_wordLetter_39 : decode cX8_wordLetter 39 = .ok (.getfield 13, 3) := by decide +kernel
theorem dX8_wordLetter_42 : decode cX8_wordLetter 42 = .ok (.iload_n 1, 1) := by decide +kernel
theorem dX8_wordLetter_43 : decode cX8_wordLetter 43 = .ok (.iaload, 1) := by decide +kernel
theorem dX8_wordLetter_44 : decode cX8_wordLetter 44 = .ok (.iload_n 2, 1) := by decide +kernel
theorem dX8_wordLetter_45 : decode cX8_wordLetter 45 = .ok (.invokevirtual 199, 3) := by decide +kernel
theorem dX8_wordLetter_48 : decode cX8_wordLetter 48 = .ok (.goto 5, 3) := by decide +kernel
theorem dX8_wordLetter_51 : decode cX8_wordLetter 51 = .ok (.bipush (-2), 2) := by decide +kernel
theorem dX8_wordLetter_53 : decode cX8_wordLetter 53 = .ok (.ireturn, 1) := by decide +kernel
set_option maxRecDepth 20000 in
theorem ggX8_factorLength_X8_isRegister : GoodIn wsX8_factorLength wsX8_isRegister := goodIn_r _ [7, 8, 9, 10, 6, 11] (by decide +kernel) (by decide +kernel)
set_option maxRecDepth 20000 in
theorem gX8_factorLength_X8_isRegister : GoodIn wsX8_factorLength (wsV RX8 131 RX8 yX8_isRegister wsX8_isRegister) := goodIn_app (goodIn_of _ (by decide +kernel)) ggX8_factorLength_X8_isRegister
theorem dX8_factorLength_0 : decode cX8_factorLength 0 = .ok (.aload_n 0, 1) := by decide +kernel
theorem dX8_factorLength_1 : decode cX8_factorLength 1 = .ok (.iload_n 1, 1) := by decide +kernel
theorem dX8_factorLength_2 : decode cX8_factorLength 2 = .ok (.invokevirtual 131, 3) := by decide +kernel
theorem dX8_factorLength_5 : decode cX8_factorLength 5 = .ok (.ifCond .ne 5, 3) := by decide +kernel
theorem dX8_factorLength_8 : decode cX8_factorLength 8 = .ok (.iconst (-1), 1) := by decide +kernel
theorem dX8_factorLength_9 : decode cX8_factorLength 9 = .ok (.ireturn, 1) := by decide +kernel
theorem dX8_factorLength_10 : decode cX8_factorLength 10 = .ok (.aload_n 0, 1) := by decide +kernel
theorem dX8_factorLength_11 : decode cX8_factorLength 11 = .ok (.getfield 7, 3) := by decide +kernel
theorem dX8_factorLength_14 : decode cX8_factorLength 14 = .ok (.iload_n 1, 1) := by decide +kernel
theorem dX8_factorLength_15 : decode cX8_factorLength 15 = .ok (.iaload, 1) := by decide +kernel
theorem dX8_factorLength_16 : decode cX8_factorLength 16 = .ok (.aload_n 0, 1) := by decide +kernel
theorem dX8_factorLength_17 : decode cX8_factorLength 17 = .ok (.getfield 13, 3) := by decide +kernel
theorem dX8_factorLength_20 : decode cX8_factorLength 20 = .ok (.iload_n 1, 1) := by decide +kernel
theorem dX8_factorLength_21 : decode cX8_factorLength 21 = .ok (.iaload, 1) := by decide +kernel
theorem dX8_factorLength_22 : decode cX8_factorLength 22 = .ok (.iadd, 1) := by decide +kernel
theorem dX8_factorLength_23 : decode cX8_factorLength 23 = .ok (.i2l, 1) := by decide +kernel
theorem dX8_factorLength_24 : decode cX8_factorLength 24 = .ok (.lstore_n 2, 1) := by decide +kernel
theorem dX8_factorLength_25 : decode cX8_factorLength 25 = .ok (.aload_n 0, 1) := by decide +kernel
theorem dX8_factorLength_26 : decode cX8_factorLength 26 = .ok (.getfield 7, 3) := by decide +kernel
theorem dX8_factorLength_29 : decode cX8_factorLength 29 = .ok (.iload_n 1, 1) := by decide +kernel
theorem dX8_factorLength_30 : decode cX8_factorLength 30 = .ok (.iaload, 1) := by decide +kernel
theorem dX8_factorLength_31 : decode cX8_factorLength 31 = .ok (.i2l, 1) := by decide +kernel
theorem dX8_factorLength_32 : decode cX8_factorLength 32 = .ok (.lstore 4, 2) := by decide +kernel
theorem dX8_factorLength_34 : decode cX8_factorLength 34 = .ok (.lload_n 2, 1) := by decide +kernel
theorem dX8_factorLength_35 : decode cX8_factorLength 35 = .ok (.lstore 6, 2) := by decide +kernel
theorem dX8_factorLength_37 : decode cX8_factorLength 37 = .ok (.lconst 1, 1) := by decide +kernel
theorem dX8_factorLength_38 : decode cX8_factorLength 38 = .ok (.lstore 8, 2) := by decide +kernel
theorem dX8_factorLength_40 : decode cX8_factorLength 40 = .ok (.lconst 0, 1) := by decide +kernel
theorem dX8_factorLength_41 : decode cX8_factorLength 41 = .ok (.lstore 10, 2) := by decide +kernel
theorem dX8_factorLength_43 : decode cX8_factorLength 43 = .ok (.lload 6, 2) := by decide +kernel
theorem dX8_factorLength_45 : decode cX8_factorLength 45 = .ok (.lconst 0, 1) := by decide +kernel
theorem dX8_factorLength_46 : decode cX8_factorLength 46 = .ok (.lcmp, 1) := by decide +kernel
theorem dX8_factorLength_47 : decode cX8_factorLength 47 = .ok (.ifCond .eq 49, 3) := by decide +kernel
theorem dX8_factorLength_50 : decode cX8_factorLength 50 = .ok (.lload 4, 2) := by decide +kernel
theorem dX8_factorLength_52 : decode cX8_factorLength 52 = .ok (.lload 6, 2) := by decide +kernel
theorem dX8_factorLength_54 : decode cX8_factorLength 54 = .ok (.ldiv, 1) := by decide +kernel
theorem dX8_factorLength_55 : decode cX8_factorLength 55 = .ok (.lstore 12, 2) := by decide +kernel
theorem dX8_factorLength_57 : decode cX8_factorLength 57 = .ok (.lload 4, 2) := by decide +kernel
theorem dX8_factorLength_59 : decode cX8_factorLength 59 = .ok (.lload 12, 2) := by decide +kernel
theorem dX8_factorLength_61 : decode cX8_factorLength 61 = .ok (.lload 6, 2) := by decide +kernel
theorem dX8_factorLength_63 : decode cX8_factorLength 63 = .ok (.lmul, 1) := by decide +kernel
theorem dX8_factorLength_64 : decode cX8_factorLength 64 = .ok (.lsub, 1) := by decide +kernel
theorem dX8_factorLength_65 : decode cX8_factorLength 65 = .ok (.lstore 14, 2) := by decide +kernel
