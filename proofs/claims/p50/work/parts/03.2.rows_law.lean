theorem dL_stirred_0 : decode cL_stirred 0 = .ok (.aload_n 0, 1) := by decide +kernel
theorem dL_stirred_1 : decode cL_stirred 1 = .ok (.arraylength, 1) := by decide +kernel
theorem dL_stirred_2 : decode cL_stirred 2 = .ok (.iconst 5, 1) := by decide +kernel
theorem dL_stirred_3 : decode cL_stirred 3 = .ok (.iadd, 1) := by decide +kernel
theorem dL_stirred_4 : decode cL_stirred 4 = .ok (.istore_n 1, 1) := by decide +kernel
theorem dL_stirred_5 : decode cL_stirred 5 = .ok (.aload_n 0, 1) := by decide +kernel
theorem dL_stirred_6 : decode cL_stirred 6 = .ok (.astore_n 2, 1) := by decide +kernel
theorem dL_stirred_7 : decode cL_stirred 7 = .ok (.aload_n 2, 1) := by decide +kernel
theorem dL_stirred_8 : decode cL_stirred 8 = .ok (.arraylength, 1) := by decide +kernel
theorem dL_stirred_9 : decode cL_stirred 9 = .ok (.istore_n 3, 1) := by decide +kernel
theorem dL_stirred_10 : decode cL_stirred 10 = .ok (.iconst 0, 1) := by decide +kernel
theorem dL_stirred_11 : decode cL_stirred 11 = .ok (.istore 4, 2) := by decide +kernel
theorem dL_stirred_13 : decode cL_stirred 13 = .ok (.iload 4, 2) := by decide +kernel
theorem dL_stirred_15 : decode cL_stirred 15 = .ok (.iload_n 3, 1) := by decide +kernel
theorem dL_stirred_16 : decode cL_stirred 16 = .ok (.if_icmp .ge 23, 3) := by decide +kernel
theorem dL_stirred_19 : decode cL_stirred 19 = .ok (.aload_n 2, 1) := by decide +kernel
theorem dL_stirred_20 : decode cL_stirred 20 = .ok (.iload 4, 2) := by decide +kernel
theorem dL_stirred_22 : decode cL_stirred 22 = .ok (.iaload, 1) := by decide +kernel
theorem dL_stirred_23 : decode cL_stirred 23 = .ok (.istore 5, 2) := by decide +kernel
theorem dL_stirred_25 : decode cL_stirred 25 = .ok (.iload_n 1, 1) := by decide +kernel
theorem dL_stirred_26 : decode cL_stirred 26 = .ok (.iload 5, 2) := by decide +kernel
theorem dL_stirred_28 : decode cL_stirred 28 = .ok (.ixor, 1) := by decide +kernel
theorem dL_stirred_29 : decode cL_stirred 29 = .ok (.ldc 7, 2) := by decide +kernel
theorem dL_stirred_31 : decode cL_stirred 31 = .ok (.imul, 1) := by decide +kernel
theorem dL_stirred_32 : decode cL_stirred 32 = .ok (.istore_n 1, 1) := by decide +kernel
theorem dL_stirred_33 : decode cL_stirred 33 = .ok (.iinc 4 1, 3) := by decide +kernel
theorem dL_stirred_36 : decode cL_stirred 36 = .ok (.goto (-23), 3) := by decide +kernel
theorem dL_stirred_39 : decode cL_stirred 39 = .ok (.iload_n 1, 1) := by decide +kernel
theorem dL_stirred_40 : decode cL_stirred 40 = .ok (.iload_n 1, 1) := by decide +kernel
theorem dL_stirred_41 : decode cL_stirred 41 = .ok (.bipush 15, 2) := by decide +kernel
theorem dL_stirred_43 : decode cL_stirred 43 = .ok (.iushr, 1) := by decide +kernel
theorem dL_stirred_44 : decode cL_stirred 44 = .ok (.ixor, 1) := by decide +kernel
theorem dL_stirred_45 : decode cL_stirred 45 = .ok (.istore_n 1, 1) := by decide +kernel
theorem dL_stirred_46 : decode cL_stirred 46 = .ok (.iload_n 1, 1) := by decide +kernel
theorem dL_stirred_47 : decode cL_stirred 47 = .ok (.iconst 3, 1) := by decide +kernel
theorem dL_stirred_48 : decode cL_stirred 48 = .ok (.iand, 1) := by decide +kernel
theorem dL_stirred_49 : decode cL_stirred 49 = .ok (.ifCond .ne 7, 3) := by decide +kernel
theorem dL_stirred_52 : decode cL_stirred 52 = .ok (.iconst 0, 1) := by decide +kernel
theorem dL_stirred_53 : decode cL_stirred 53 = .ok (.goto 4, 3) := by decide +kernel
theorem dL_stirred_56 : decode cL_stirred 56 = .ok (.iload_n 1, 1) := by decide +kernel
theorem dL_stirred_57 : decode cL_stirred 57 = .ok (.ireturn, 1) := by decide +kernel
set_option maxRecDepth 20000 in
theorem ggL_cell_L_stirred : GoodIn wsL_cell wsL_stirred := goodIn_r _ [7, 8] (by decide +kernel) (by decide +kernel)
set_option maxRecDepth 20000 in
theorem gL_cell_L_stirred : GoodIn wsL_cell (va_wsS RL 8 yL_stirred wsL_stirred) := goodIn_app (goodIn_of _ (by decide +kernel)) ggL_cell_L_stirred
theorem dL_cell_0 : decode cL_cell 0 = .ok (.aload_n 0, 1) := by decide +kernel
theorem dL_cell_1 : decode cL_cell 1 = .ok (.invokestatic 8, 3) := by decide +kernel
theorem dL_cell_4 : decode cL_cell 4 = .ok (.istore_n 2, 1) := by decide +kernel
theorem dL_cell_5 : decode cL_cell 5 = .ok (.iload_n 2, 1) := by decide +kernel
theorem dL_cell_6 : decode cL_cell 6 = .ok (.ifCond .ne 24, 3) := by decide +kernel
theorem dL_cell_9 : decode cL_cell 9 = .ok (.iload_n 1, 1) := by decide +kernel
theorem dL_cell_10 : decode cL_cell 10 = .ok (.aload_n 0, 1) := by decide +kernel
theorem dL_cell_11 : decode cL_cell 11 = .ok (.arraylength, 1) := by decide +kernel
theorem dL_cell_12 : decode cL_cell 12 = .ok (.if_icmp .ge 9, 3) := by decide +kernel
theorem dL_cell_15 : decode cL_cell 15 = .ok (.aload_n 0, 1) := by decide +kernel
theorem dL_cell_16 : decode cL_cell 16 = .ok (.iload_n 1, 1) := by decide +kernel
theorem dL_cell_17 : decode cL_cell 17 = .ok (.iaload, 1) := by decide +kernel
theorem dL_cell_18 : decode cL_cell 18 = .ok (.goto 11, 3) := by decide +kernel
theorem dL_cell_21 : decode cL_cell 21 = .ok (.sipush 6007, 3) := by decide +kernel
theorem dL_cell_24 : decode cL_cell 24 = .ok (.iload_n 1, 1) := by decide +kernel
theorem dL_cell_25 : decode cL_cell 25 = .ok (.imul, 1) := by decide +kernel
theorem dL_cell_26 : decode cL_cell 26 = .ok (.bipush 41, 2) := by decide +kernel
theorem dL_cell_28 : decode cL_cell 28 = .ok (.iadd, 1) := by decide +kernel
theorem dL_cell_29 : decode cL_cell 29 = .ok (.ireturn, 1) := by decide +kernel
theorem dL_cell_30 : decode cL_cell 30 = .ok (.iload_n 2, 1) := by decide +kernel
theorem dL_cell_31 : decode cL_cell 31 = .ok (.ldc 14, 2) := by decide +kernel
theorem dL_cell_33 : decode cL_cell 33 = .ok (.iload_n 1, 1) := by decide +kernel
theorem dL_cell_34 : decode cL_cell 34 = .ok (.imul, 1) := by decide +kernel
theorem dL_cell_35 : decode cL_cell 35 = .ok (.ixor, 1) := by decide +kernel
theorem dL_cell_36 : decode cL_cell 36 = .ok (.ldc 15, 2) := by decide +kernel
theorem dL_cell_38 : decode cL_cell 38 = .ok (.imul, 1) := by decide +kernel
theorem dL_cell_39 : decode cL_cell 39 = .ok (.istore_n 2, 1) := by decide +kernel
theorem dL_cell_40 : decode cL_cell 40 = .ok (.iload_n 2, 1) := by decide +kernel
theorem dL_cell_41 : decode cL_cell 41 = .ok (.iload_n 2, 1) := by decide +kernel
theorem dL_cell_42 : decode cL_cell 42 = .ok (.bipush 12, 2) := by decide +kernel
theorem dL_cell_44 : decode cL_cell 44 = .ok (.iushr, 1) := by decide +kernel
theorem dL_cell_45 : decode cL_cell 45 = .ok (.ixor, 1) := by decide +kernel
theorem dL_cell_46 : decode cL_cell 46 = .ok (.ldc 16, 2) := by decide +kernel
theorem dL_cell_48 : decode cL_cell 48 = .ok (.imul, 1) := by decide +kernel
theorem dL_cell_49 : decode cL_cell 49 = .ok (.istore_n 2, 1) := by decide +kernel
theorem dL_cell_50 : decode cL_cell 50 = .ok (.iload_n 2, 1) := by decide +kernel
theorem dL_cell_51 : decode cL_cell 51 = .ok (.iload_n 2, 1) := by decide +kernel
theorem dL_cell_52 : decode cL_cell 52 = .ok (.bipush 15, 2) := by decide +kernel
theorem dL_cell_54 : decode cL_cell 54 = .ok (.iushr, 1) := by decide +kernel
theorem dL_cell_55 : decode cL_cell 55 = .ok (.ixor, 1) := by decide +kernel
theorem dL_cell_56 : decode cL_cell 56 = .ok (.ireturn, 1) := by decide +kernel
set_option maxRecDepth 20000 in
theorem ggL_some_L_cell : GoodIn wsL_some wsL_cell := goodIn_r _ [4, 5, 6, 7, 8, 9, 3, 10, 11] (by decide +kernel) (by decide +kernel)
set_option maxRecDepth 20000 in
theorem gL_some_L_cell : GoodIn wsL_some (va_wsS RL 17 yL_cell wsL_cell) := goodIn_app (goodIn_of _ (by decide +kernel)) ggL_some_L_cell
theorem dL_some_0 : decode cL_some 0 = .ok (.aload_n 0, 1) := by decide +kernel
theorem dL_some_1 : decode cL_some 1 = .ok (.iload_n 1, 1) := by decide +kernel
theorem dL_some_2 : decode cL_some 2 = .ok (.invokestatic 17, 3) := by decide +kernel
theorem dL_some_5 : decode cL_some 5 = .ok (.iconst 3, 1) := by decide +kernel
theorem dL_some_6 : decode cL_some 6 = .ok (.iushr, 1) := by decide +kernel
theorem dL_some_7 : decode cL_some 7 = .ok (.iload_n 2, 1) := by decide +kernel
theorem dL_some_8 : decode cL_some 8 = .ok (.irem, 1) := by decide +kernel
theorem dL_some_9 : decode cL_some 9 = .ok (.ireturn, 1) := by decide +kernel
set_option maxRecDepth 20000 in
theorem ggL_size_L_some : GoodIn wsL_size wsL_some := goodIn_r _ [5, 6, 7, 4, 8, 9, 10, 11, 12, 13, 14, 15] (by decide +kernel) (by decide +kernel)
set_option maxRecDepth 20000 in
theorem gL_size_L_some : GoodIn wsL_size (va_wsS RL 21 yL_some wsL_some) := goodIn_app (goodIn_of _ (by decide +kernel)) ggL_size_L_some
theorem dL_size_0 : decode cL_size 0 = .ok (.aload_n 0, 1) := by decide +kernel
theorem dL_size_1 : decode cL_size 1 = .ok (.iload_n 1, 1) := by decide +kernel
theorem dL_size_2 : decode cL_size 2 = .ok (.iconst 1, 1) := by decide +kernel
theorem dL_size_3 : decode cL_size 3 = .ok (.iadd, 1) := by decide +kernel
theorem dL_size_4 : decode cL_size 4 = .ok (.iconst 4, 1) := by decide +kernel
theorem dL_size_5 : decode cL_size 5 = .ok (.invokestatic 21, 3) := by decide +kernel
theorem dL_size_8 : decode cL_size 8 = .ok (.istore_n 2, 1) := by decide +kernel
theorem dL_size_9 : decode cL_size 9 = .ok (.iconst 1, 1) := by decide +kernel
theorem dL_size_10 : decode cL_size 10 = .ok (.aload_n 0, 1) := by decide +kernel
theorem dL_size_11 : decode cL_size 11 = .ok (.iload_n 1, 1) := by decide +kernel
theorem dL_size_12 : decode cL_size 12 = .ok (.iload_n 2, 1) := by decide +kernel
theorem dL_size_13 : decode cL_size 13 = .ok (.ifCond .ne 8, 3) := by decide +kernel
theorem dL_size_16 : decode cL_size 16 = .ok (.bipush 6, 2) := by decide +kernel
theorem dL_size_18 : decode cL_size 18 = .ok (.goto 26, 3) := by decide +kernel
theorem dL_size_21 : decode cL_size 21 = .ok (.iload_n 2, 1) := by decide +kernel
theorem dL_size_22 : decode cL_size 22 = .ok (.iconst 1, 1) := by decide +kernel
theorem dL_size_23 : decode cL_size 23 = .ok (.if_icmp .ne 8, 3) := by decide +kernel
theorem dL_size_26 : decode cL_size 26 = .ok (.bipush 40, 2) := by decide +kernel
theorem dL_size_28 : decode cL_size 28 = .ok (.goto 16, 3) := by decide +kernel
theorem dL_size_31 : decode cL_size 31 = .ok (.iload_n 2, 1) := by decide +kernel
theorem dL_size_32 : decode cL_size 32 = .ok (.iconst 2, 1) := by decide +kernel
theorem dL_size_33 : decode cL_size 33 = .ok (.if_icmp .ne 9, 3) := by decide +kernel
theorem dL_size_36 : decode cL_size 36 = .ok (.sipush 900, 3) := by decide +kernel
theorem dL_size_39 : decode cL_size 39 = .ok (.goto 5, 3) := by decide +kernel
theorem dL_size_42 : decode cL_size 42 = .ok (.ldc 25, 2) := by decide +kernel
theorem dL_size_44 : decode cL_size 44 = .ok (.invokestatic 21, 3) := by decide +kernel
theorem dL_size_47 : decode cL_size 47 = .ok (.iadd, 1) := by decide +kernel
theorem dL_size_48 : decode cL_size 48 = .ok (.ireturn, 1) := by decide +kernel
set_option maxRecDepth 20000 in
theorem ggL_fills_L_size : GoodIn wsL_fills wsL_size := goodIn_r _ [4, 5, 6, 7, 3, 8, 9, 10, 11, 12, 13, 14, 15, 16, 17, 18] (by decide +kernel) (by decide +kernel)
set_option maxRecDepth 20000 in
theorem gL_fills_L_size : GoodIn wsL_fills (va_wsS RL 26 yL_size wsL_size) := goodIn_app (goodIn_of _ (by decide +kernel)) ggL_fills_L_size
set_option maxRecDepth 20000 in
theorem ggL_fills_X7_set : GoodIn wsL_fills wsX7_set := goodIn_r _ [23, 24, 25, 26, 22, 27, 28, 29, 30, 31, 32, 33, 34, 35, 36, 37, 38, 39, 40, 41, 42, 43, 44, 45, 46, 47, 48, 49, 50, 51, 52, 53, 54, 55, 56, 57, 58, 59] (by decide +kernel) (by decide +kernel)
set_option maxRecDepth 20000 in
theorem gL_fills_X7_set : GoodIn wsL_fills (wsV RL 29 RX7 yX7_set wsX7_set) := goodIn_app (goodIn_of _ (by decide +kernel)) ggL_fills_X7_set
theorem dL_fills_0 : decode cL_fills 0 = .ok (.aload_n 0, 1) := by decide +kernel
theorem dL_fills_1 : decode cL_fills 1 = .ok (.iload_n 1, 1) := by decide +kernel
theorem dL_fills_2 : decode cL_fills 2 = .ok (.aload_n 2, 1) := by decide +kernel
theorem dL_fills_3 : decode cL_fills 3 = .ok (.iload_n 3, 1) := by decide +kernel
theorem dL_fills_4 : decode cL_fills 4 = .ok (.invokestatic 26, 3) := by decide +kernel
theorem dL_fills_7 : decode cL_fills 7 = .ok (.aload_n 2, 1) := by decide +kernel
theorem dL_fills_8 : decode cL_fills 8 = .ok (.iload_n 3, 1) := by decide +kernel
theorem dL_fills_9 : decode cL_fills 9 = .ok (.iconst 2, 1) := by decide +kernel
theorem dL_fills_10 : decode cL_fills 10 = .ok (.iadd, 1) := by decide +kernel
theorem dL_fills_11 : decode cL_fills 11 = .ok (.invokestatic 26, 3) := by decide +kernel
theorem dL_fills_14 : decode cL_fills 14 = .ok (.invokevirtual 29, 3) := by decide +kernel
theorem dL_fills_17 : decode cL_fills 17 = .ok (.iconst 1, 1) := by decide +kernel
theorem dL_fills_18 : decode cL_fills 18 = .ok (.if_icmp .ne 7, 3) := by decide +kernel
theorem dL_fills_21 : decode cL_fills 21 = .ok (.iconst 1, 1) := by decide +kernel
theorem dL_fills_22 : decode cL_fills 22 = .ok (.goto 4, 3) := by decide +kernel
theorem dL_fills_25 : decode cL_fills 25 = .ok (.iconst 0, 1) := by decide +kernel
theorem dL_fills_26 : decode cL_fills 26 = .ok (.ireturn, 1) := by decide +kernel
set_option maxRecDepth 20000 in
theorem ggL_law_X7_init : GoodIn wsL_law wsX7_init := goodIn_r _ [5, 6, 7, 8, 9, 10, 11, 12, 13, 14, 15, 16, 17, 18, 19, 20, 21, 22, 23, 24, 25, 26, 27, 28, 29, 30, 31, 32, 33, 34, 35, 36, 37, 38, 39, 40, 41, 162, 163, 164, 165, 166, 167, 168, 169, 170, 171, 172, 173, 174, 175, 176, 177, 178, 179, 180, 181, 182, 183, 184, 185, 186, 187, 188] (by decide +kernel) (by decide +kernel)
set_option maxRecDepth 20000 in
theorem gL_law_X7_init : GoodIn wsL_law (wsX7_init) := ggL_law_X7_init
set_option maxRecDepth 20000 in
theorem ggL_law_L_fills : GoodIn wsL_law wsL_fills := goodIn_r _ [45, 46, 47, 44, 48, 49, 50, 51, 52, 53, 54, 55, 56, 57, 58, 59, 60, 61, 62, 63, 64, 65, 2, 66, 67, 68, 69, 70, 71, 72, 73, 74, 75, 76, 77, 78, 10, 11, 79, 80, 81, 82, 83, 84, 162, 163, 164, 165, 166, 167, 168, 169, 170, 171, 172, 173, 174, 175, 176, 177] (by decide +kernel) (by decide +kernel)
set_option maxRecDepth 20000 in
theorem gL_law_L_fills : GoodIn wsL_law (va_wsS RL 36 yL_fills wsL_fills) := goodIn_app (goodIn_of _ (by decide +kernel)) ggL_law_L_fills
set_option maxRecDepth 20000 in
theorem ggL_law_X7_compare : GoodIn wsL_law wsX7_compare := goodIn_r _ [88, 68, 69, 2, 70, 89, 90, 91, 92, 10, 11, 162, 163, 164, 165, 166, 167, 168, 169, 170, 171, 172, 173, 174, 175, 176, 177] (by decide +kernel) (by decide +kernel)
set_option maxRecDepth 20000 in
theorem gL_law_X7_compare : GoodIn wsL_law (wsV RL 40 RX7 yX7_compare wsX7_compare) := goodIn_app (goodIn_of _ (by decide +kernel)) ggL_law_X7_compare
set_option maxRecDepth 20000 in
theorem ggL_law_X7_commonAncestor : GoodIn wsL_law wsX7_commonAncestor := goodIn_r _ [96, 26, 10, 11, 68, 69, 2, 70, 97, 98, 99, 100, 25, 101, 102, 103, 24, 104, 105, 106, 107, 108, 109, 34, 110, 111, 112, 113, 114, 115, 116, 117, 118, 119, 120, 121, 122, 123, 124, 125, 126, 127, 128, 129, 130, 131, 132, 133, 134, 135, 136, 137, 138, 139, 140, 141, 142, 143, 144, 145, 74, 75, 76, 77, 78, 79, 80, 81, 82, 83, 84, 162, 163, 164, 165, 166, 167, 168, 169, 170, 171, 172, 173, 174, 175, 176, 177, 178, 179, 180, 181, 182, 183] (by decide +kernel) (by decide +kernel)
set_option maxRecDepth 20000 in
theorem gL_law_X7_commonAncestor : GoodIn wsL_law (wsV RL 44 RX7 yX7_commonAncestor wsX7_commonAncestor) := goodIn_app (goodIn_of _ (by decide +kernel)) ggL_law_X7_commonAncestor
set_option maxRecDepth 20000 in
theorem ggL_law_X7_simplestBetween : GoodIn wsL_law wsX7_simplestBetween := goodIn_r _ [149, 25, 10, 11, 68, 69, 2, 70, 89, 90, 91, 92, 150, 151, 152, 24, 153, 105, 83, 84, 106, 107, 108, 109, 34, 126, 127, 128, 129, 130, 131, 132, 133, 134, 135, 136, 137, 138, 139, 140, 141, 142, 143, 144, 145, 74, 75, 76, 77, 78, 79, 80, 81, 82, 162, 163, 164, 165, 166, 167, 168, 169, 170, 171, 172, 173, 174, 175, 176, 177, 178, 179, 180, 181, 182, 183] (by decide +kernel) (by decide +kernel)
set_option maxRecDepth 20000 in
theorem gL_law_X7_simplestBetween : GoodIn wsL_law (wsV RL 47 RX7 yX7_simplestBetween wsX7_simplestBetween) := goodIn_app (goodIn_of _ (by decide +kernel)) ggL_law_X7_simplestBetween
set_option maxRecDepth 20000 in
theorem ggL_law_X7_depth : GoodIn wsL_law wsX7_depth := goodIn_r _ [157, 68, 69, 2, 70, 97, 98, 99, 100, 25, 10, 11, 101, 102, 103, 24, 104, 105, 106, 107, 108, 109, 34, 158, 159, 160, 161, 114, 115, 116, 117, 118, 119, 120, 121, 162, 163, 164, 165, 166, 167, 168, 169, 170, 171, 172, 173, 174, 175, 176, 177, 178, 179, 180, 181, 182, 183] (by decide +kernel) (by decide +kernel)
set_option maxRecDepth 20000 in
theorem gL_law_X7_depth : GoodIn wsL_law (wsV RL 50 RX7 yX7_depth wsX7_depth) := goodIn_app (goodIn_of _ (by decide +kernel)) ggL_law_X7_depth
theorem dL_law_0 : decode cL_law 0 = .ok (.new 30, 3) := by decide +kernel
theorem dL_law_3 : decode cL_law 3 = .ok (.dup, 1) := by decide +kernel
theorem dL_law_4 : decode cL_law 4 = .ok (.invokespecial 35, 3) := by decide +kernel
theorem dL_law_7 : decode cL_law 7 = .ok (.astore_n 1, 1) := by decide +kernel
theorem dL_law_8 : decode cL_law 8 = .ok (.iconst 0, 1) := by decide +kernel
theorem dL_law_9 : decode cL_law 9 = .ok (.istore_n 2, 1) := by decide +kernel
theorem dL_law_10 : decode cL_law 10 = .ok (.iload_n 2, 1) := by decide +kernel
theorem dL_law_11 : decode cL_law 11 = .ok (.bipush 14, 2) := by decide +kernel
theorem dL_law_13 : decode cL_law 13 = .ok (.if_icmp .ge 141, 3) := by decide +kernel
theorem dL_law_16 : decode cL_law 16 = .ok (.aload_n 1, 1) := by decide +kernel
theorem dL_law_17 : decode cL_law 17 = .ok (.iconst 0, 1) := by decide +kernel
theorem dL_law_18 : decode cL_law 18 = .ok (.aload_n 0, 1) := by decide +kernel
theorem dL_law_19 : decode cL_law 19 = .ok (.bipush 8, 2) := by decide +kernel
theorem dL_law_21 : decode cL_law 21 = .ok (.iload_n 2, 1) := by decide +kernel
theorem dL_law_22 : decode cL_law 22 = .ok (.imul, 1) := by decide +kernel
theorem dL_law_23 : decode cL_law 23 = .ok (.invokestatic 36, 3) := by decide +kernel
theorem dL_law_26 : decode cL_law 26 = .ok (.ifCond .eq 18, 3) := by decide +kernel
theorem dL_law_29 : decode cL_law 29 = .ok (.aload_n 1, 1) := by decide +kernel
theorem dL_law_30 : decode cL_law 30 = .ok (.iconst 1, 1) := by decide +kernel
theorem dL_law_31 : decode cL_law 31 = .ok (.aload_n 0, 1) := by decide +kernel
theorem dL_law_32 : decode cL_law 32 = .ok (.bipush 8, 2) := by decide +kernel
theorem dL_law_34 : decode cL_law 34 = .ok (.iload_n 2, 1) := by decide +kernel
theorem dL_law_35 : decode cL_law 35 = .ok (.imul, 1) := by decide +kernel
theorem dL_law_36 : decode cL_law 36 = .ok (.iconst 4, 1) := by decide +kernel
theorem dL_law_37 : decode cL_law 37 = .ok (.iadd, 1) := by decide +kernel
theorem dL_law_38 : decode cL_law 38 = .ok (.invokestatic 36, 3) := by decide +kernel
theorem dL_law_41 : decode cL_law 41 = .ok (.ifCond .ne 5, 3) := by decide +kernel
theorem dL_law_44 : decode cL_law 44 = .ok (.iconst 0, 1) := by decide +kernel
theorem dL_law_45 : decode cL_law 45 = .ok (.ireturn, 1) := by decide +kernel
theorem dL_law_46 : decode cL_law 46 = .ok (.aload_n 1, 1) := by decide +kernel
theorem dL_law_47 : decode cL_law 47 = .ok (.iconst 0, 1) := by decide +kernel
theorem dL_law_48 : decode cL_law 48 = .ok (.iconst 1, 1) := by decide +kernel
theorem dL_law_49 : decode cL_law 49 = .ok (.invokevirtual 40, 3) := by decide +kernel
theorem dL_law_52 : decode cL_law 52 = .ok (.ifCond .ne 7, 3) := by decide +kernel
theorem dL_law_55 : decode cL_law 55 = .ok (.iconst 0, 1) := by decide +kernel
theorem dL_law_56 : decode cL_law 56 = .ok (.goto 4, 3) := by decide +kernel
theorem dL_law_59 : decode cL_law 59 = .ok (.iconst 1, 1) := by decide +kernel
theorem dL_law_60 : decode cL_law 60 = .ok (.istore_n 3, 1) := by decide +kernel
theorem dL_law_61 : decode cL_law 61 = .ok (.aload_n 1, 1) := by decide +kernel
theorem dL_law_62 : decode cL_law 62 = .ok (.iconst 2, 1) := by decide +kernel
theorem dL_law_63 : decode cL_law 63 = .ok (.iconst 0, 1) := by decide +kernel
theorem dL_law_64 : decode cL_law 64 = .ok (.iconst 1, 1) := by decide +kernel
theorem dL_law_65 : decode cL_law 65 = .ok (.invokevirtual 44, 3) := by decide +kernel
theorem dL_law_68 : decode cL_law 68 = .ok (.istore 4, 2) := by decide +kernel
theorem dL_law_70 : decode cL_law 70 = .ok (.aload_n 1, 1) := by decide +kernel
theorem dL_law_71 : decode cL_law 71 = .ok (.iconst 2, 1) := by decide +kernel
theorem dL_law_72 : decode cL_law 72 = .ok (.iconst 0, 1) := by decide +kernel
theorem dL_law_73 : decode cL_law 73 = .ok (.invokevirtual 40, 3) := by decide +kernel
theorem dL_law_76 : decode cL_law 76 = .ok (.iconst 1, 1) := by decide +kernel
theorem dL_law_77 : decode cL_law 77 = .ok (.if_icmp .eq 71, 3) := by decide +kernel
theorem dL_law_80 : decode cL_law 80 = .ok (.aload_n 1, 1) := by decide +kernel
theorem dL_law_81 : decode cL_law 81 = .ok (.iconst 2, 1) := by decide +kernel
theorem dL_law_82 : decode cL_law 82 = .ok (.iconst 1, 1) := by decide +kernel
theorem dL_law_83 : decode cL_law 83 = .ok (.invokevirtual 40, 3) := by decide +kernel
theorem dL_law_86 : decode cL_law 86 = .ok (.iconst 1, 1) := by decide +kernel
theorem dL_law_87 : decode cL_law 87 = .ok (.if_icmp .ne 6, 3) := by decide +kernel
theorem dL_law_90 : decode cL_law 90 = .ok (.goto 58, 3) := by decide +kernel
theorem dL_law_93 : decode cL_law 93 = .ok (.aload_n 1, 1) := by decide +kernel
theorem dL_law_94 : decode cL_law 94 = .ok (.iconst 3, 1) := by decide +kernel
theorem dL_law_95 : decode cL_law 95 = .ok (.iload_n 3, 1) := by decide +kernel
theorem dL_law_96 : decode cL_law 96 = .ok (.iconst 1, 1) := by decide +kernel
theorem dL_law_97 : decode cL_law 97 = .ok (.iload_n 3, 1) := by decide +kernel
theorem dL_law_98 : decode cL_law 98 = .ok (.isub, 1) := by decide +kernel
theorem dL_law_99 : decode cL_law 99 = .ok (.invokevirtual 47, 3) := by decide +kernel
theorem dL_law_102 : decode cL_law 102 = .ok (.iconst 1, 1) := by decide +kernel
theorem dL_law_103 : decode cL_law 103 = .ok (.if_icmp .ne 43, 3) := by decide +kernel
theorem dL_law_106 : decode cL_law 106 = .ok (.aload_n 1, 1) := by decide +kernel
theorem dL_law_107 : decode cL_law 107 = .ok (.iconst 2, 1) := by decide +kernel
theorem dL_law_108 : decode cL_law 108 = .ok (.iconst 3, 1) := by decide +kernel
theorem dL_law_109 : decode cL_law 109 = .ok (.invokevirtual 40, 3) := by decide +kernel
theorem dL_law_112 : decode cL_law 112 = .ok (.iconst 1, 1) := by decide +kernel
theorem dL_law_113 : decode cL_law 113 = .ok (.if_icmp .ne 33, 3) := by decide +kernel
theorem dL_law_116 : decode cL_law 116 = .ok (.aload_n 1, 1) := by decide +kernel
theorem dL_law_117 : decode cL_law 117 = .ok (.iconst 3, 1) := by decide +kernel
theorem dL_law_118 : decode cL_law 118 = .ok (.invokevirtual 50, 3) := by decide +kernel
theorem dL_law_121 : decode cL_law 121 = .ok (.iload 4, 2) := by decide +kernel
theorem dL_law_123 : decode cL_law 123 = .ok (.if_icmp .ne 23, 3) := by decide +kernel
theorem dL_law_126 : decode cL_law 126 = .ok (.iload 4, 2) := by decide +kernel
theorem dL_law_128 : decode cL_law 128 = .ok (.aload_n 1, 1) := by decide +kernel
theorem dL_law_129 : decode cL_law 129 = .ok (.iconst 0, 1) := by decide +kernel
theorem dL_law_130 : decode cL_law 130 = .ok (.invokevirtual 50, 3) := by decide +kernel
theorem dL_law_133 : decode cL_law 133 = .ok (.if_icmp .ge 13, 3) := by decide +kernel
theorem dL_law_136 : decode cL_law 136 = .ok (.iload 4, 2) := by decide +kernel
theorem dL_law_138 : decode cL_law 138 = .ok (.aload_n 1, 1) := by decide +kernel
theorem dL_law_139 : decode cL_law 139 = .ok (.iconst 1, 1) := by decide +kernel
theorem dL_law_140 : decode cL_law 140 = .ok (.invokevirtual 50, 3) := by decide +kernel
theorem dL_law_143 : decode cL_law 143 = .ok (.if_icmp .lt 5, 3) := by decide +kernel
theorem dL_law_146 : decode cL_law 146 = .ok (.iconst 0, 1) := by decide +kernel
theorem dL_law_147 : decode cL_law 147 = .ok (.ireturn, 1) := by decide +kernel
theorem dL_law_148 : decode cL_law 148 = .ok (.iinc 2 1, 3) := by decide +kernel
theorem dL_law_151 : decode cL_law 151 = .ok (.goto (-141), 3) := by decide +kernel
theorem dL_law_154 : decode cL_law 154 = .ok (.iconst 1, 1) := by decide +kernel
theorem dL_law_155 : decode cL_law 155 = .ok (.ireturn, 1) := by decide +kernel
