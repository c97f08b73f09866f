theorem dX1_init_0 : decode cX1_init 0 = .ok (.aload_n 0, 1) := by decide +kernel
theorem dX1_init_1 : decode cX1_init 1 = .ok (.invokespecial 3, 3) := by decide +kernel
theorem dX1_init_4 : decode cX1_init 4 = .ok (.aload_n 0, 1) := by decide +kernel
theorem dX1_init_5 : decode cX1_init 5 = .ok (.bipush 64, 2) := by decide +kernel
theorem dX1_init_7 : decode cX1_init 7 = .ok (.newarray .int, 2) := by decide +kernel
theorem dX1_init_9 : decode cX1_init 9 = .ok (.putfield 9, 3) := by decide +kernel
theorem dX1_init_12 : decode cX1_init 12 = .ok (.return_, 1) := by decide +kernel
set_option maxRecDepth 20000 in
theorem ggX1_expand_X1_append : GoodIn wsX1_expand wsX1_append := goodIn_r _ [6, 1, 7, 8, 9, 10, 11, 12, 13] (by decide +kernel) (by decide +kernel)
set_option maxRecDepth 20000 in
theorem gX1_expand_X1_append : GoodIn wsX1_expand (wsV RX1 19 RX1 yX1_append wsX1_append) := goodIn_app (goodIn_of _ (by decide +kernel)) ggX1_expand_X1_append
theorem dX1_expand_0 : decode cX1_expand 0 = .ok (.iload_n 1, 1) := by decide +kernel
theorem dX1_expand_1 : decode cX1_expand 1 = .ok (.istore_n 3, 1) := by decide +kernel
theorem dX1_expand_2 : decode cX1_expand 2 = .ok (.iload_n 2, 1) := by decide +kernel
theorem dX1_expand_3 : decode cX1_expand 3 = .ok (.istore 4, 2) := by decide +kernel
theorem dX1_expand_5 : decode cX1_expand 5 = .ok (.aload_n 0, 1) := by decide +kernel
theorem dX1_expand_6 : decode cX1_expand 6 = .ok (.iconst 0, 1) := by decide +kernel
theorem dX1_expand_7 : decode cX1_expand 7 = .ok (.putfield 15, 3) := by decide +kernel
theorem dX1_expand_10 : decode cX1_expand 10 = .ok (.iconst 0, 1) := by decide +kernel
theorem dX1_expand_11 : decode cX1_expand 11 = .ok (.istore 5, 2) := by decide +kernel
theorem dX1_expand_13 : decode cX1_expand 13 = .ok (.iload 5, 2) := by decide +kernel
theorem dX1_expand_15 : decode cX1_expand 15 = .ok (.bipush 64, 2) := by decide +kernel
theorem dX1_expand_17 : decode cX1_expand 17 = .ok (.if_icmp .ge 35, 3) := by decide +kernel
theorem dX1_expand_20 : decode cX1_expand 20 = .ok (.iload 4, 2) := by decide +kernel
theorem dX1_expand_22 : decode cX1_expand 22 = .ok (.ifCond .le 30, 3) := by decide +kernel
theorem dX1_expand_25 : decode cX1_expand 25 = .ok (.aload_n 0, 1) := by decide +kernel
theorem dX1_expand_26 : decode cX1_expand 26 = .ok (.iload_n 3, 1) := by decide +kernel
theorem dX1_expand_27 : decode cX1_expand 27 = .ok (.iload 4, 2) := by decide +kernel
theorem dX1_expand_29 : decode cX1_expand 29 = .ok (.idiv, 1) := by decide +kernel
theorem dX1_expand_30 : decode cX1_expand 30 = .ok (.invokevirtual 19, 3) := by decide +kernel
theorem dX1_expand_33 : decode cX1_expand 33 = .ok (.iload_n 3, 1) := by decide +kernel
theorem dX1_expand_34 : decode cX1_expand 34 = .ok (.iload 4, 2) := by decide +kernel
theorem dX1_expand_36 : decode cX1_expand 36 = .ok (.irem, 1) := by decide +kernel
theorem dX1_expand_37 : decode cX1_expand 37 = .ok (.istore 6, 2) := by decide +kernel
theorem dX1_expand_39 : decode cX1_expand 39 = .ok (.iload 4, 2) := by decide +kernel
theorem dX1_expand_41 : decode cX1_expand 41 = .ok (.istore_n 3, 1) := by decide +kernel
theorem dX1_expand_42 : decode cX1_expand 42 = .ok (.iload 6, 2) := by decide +kernel
theorem dX1_expand_44 : decode cX1_expand 44 = .ok (.istore 4, 2) := by decide +kernel
theorem dX1_expand_46 : decode cX1_expand 46 = .ok (.iinc 5 1, 3) := by decide +kernel
theorem dX1_expand_49 : decode cX1_expand 49 = .ok (.goto (-36), 3) := by decide +kernel
theorem dX1_expand_52 : decode cX1_expand 52 = .ok (.return_, 1) := by decide +kernel
set_option maxRecDepth 20000 in
theorem ggX1_becomeSimplestBetween_X7_quotient : GoodIn wsX1_becomeSimplestBetween wsX7_quotient := goodIn_r _ [4] (by decide +kernel) (by decide +kernel)
set_option maxRecDepth 20000 in
theorem gX1_becomeSimplestBetween_X7_quotient_n23 : GoodIn wsX1_becomeSimplestBetween (wsX7_quotient) := ggX1_becomeSimplestBetween_X7_quotient
set_option maxRecDepth 20000 in
theorem ggX1_becomeSimplestBetween_X1_append : GoodIn wsX1_becomeSimplestBetween wsX1_append := goodIn_r _ [9, 1, 10, 11, 12, 13, 14, 15, 16] (by decide +kernel) (by decide +kernel)
set_option maxRecDepth 20000 in
theorem gX1_becomeSimplestBetween_X1_append : GoodIn wsX1_becomeSimplestBetween (wsV RX1 19 RX1 yX1_append wsX1_append) := goodIn_app (goodIn_of _ (by decide +kernel)) ggX1_becomeSimplestBetween_X1_append
theorem dX1_becomeSimplestBetween_0 : decode cX1_becomeSimplestBetween 0 = .ok (.iload_n 1, 1) := by decide +kernel
theorem dX1_becomeSimplestBetween_1 : decode cX1_becomeSimplestBetween 1 = .ok (.i2l, 1) := by decide +kernel
theorem dX1_becomeSimplestBetween_2 : decode cX1_becomeSimplestBetween 2 = .ok (.lstore 5, 2) := by decide +kernel
theorem dX1_becomeSimplestBetween_4 : decode cX1_becomeSimplestBetween 4 = .ok (.iload_n 2, 1) := by decide +kernel
theorem dX1_becomeSimplestBetween_5 : decode cX1_becomeSimplestBetween 5 = .ok (.i2l, 1) := by decide +kernel
theorem dX1_becomeSimplestBetween_6 : decode cX1_becomeSimplestBetween 6 = .ok (.lstore 7, 2) := by decide +kernel
theorem dX1_becomeSimplestBetween_8 : decode cX1_becomeSimplestBetween 8 = .ok (.iload_n 3, 1) := by decide +kernel
theorem dX1_becomeSimplestBetween_9 : decode cX1_becomeSimplestBetween 9 = .ok (.i2l, 1) := by decide +kernel
theorem dX1_becomeSimplestBetween_10 : decode cX1_becomeSimplestBetween 10 = .ok (.lstore 9, 2) := by decide +kernel
theorem dX1_becomeSimplestBetween_12 : decode cX1_becomeSimplestBetween 12 = .ok (.iload 4, 2) := by decide +kernel
theorem dX1_becomeSimplestBetween_14 : decode cX1_becomeSimplestBetween 14 = .ok (.i2l, 1) := by decide +kernel
theorem dX1_becomeSimplestBetween_15 : decode cX1_becomeSimplestBetween 15 = .ok (.lstore 11, 2) := by decide +kernel
theorem dX1_becomeSimplestBetween_17 : decode cX1_becomeSimplestBetween 17 = .ok (.aload_n 0, 1) := by decide +kernel
theorem dX1_becomeSimplestBetween_18 : decode cX1_becomeSimplestBetween 18 = .ok (.iconst 0, 1) := by decide +kernel
theorem dX1_becomeSimplestBetween_19 : decode cX1_becomeSimplestBetween 19 = .ok (.putfield 15, 3) := by decide +kernel
theorem dX1_becomeSimplestBetween_22 : decode cX1_becomeSimplestBetween 22 = .ok (.iconst 0, 1) := by decide +kernel
theorem dX1_becomeSimplestBetween_23 : decode cX1_becomeSimplestBetween 23 = .ok (.istore 13, 2) := by decide +kernel
theorem dX1_becomeSimplestBetween_25 : decode cX1_becomeSimplestBetween 25 = .ok (.iload 13, 2) := by decide +kernel
theorem dX1_becomeSimplestBetween_27 : decode cX1_becomeSimplestBetween 27 = .ok (.bipush 64, 2) := by decide +kernel
theorem dX1_becomeSimplestBetween_29 : decode cX1_becomeSimplestBetween 29 = .ok (.if_icmp .ge 84, 3) := by decide +kernel
theorem dX1_becomeSimplestBetween_32 : decode cX1_becomeSimplestBetween 32 = .ok (.lload 5, 2) := by decide +kernel
theorem dX1_becomeSimplestBetween_34 : decode cX1_becomeSimplestBetween 34 = .ok (.lload 7, 2) := by decide +kernel
theorem dX1_becomeSimplestBetween_36 : decode cX1_becomeSimplestBetween 36 = .ok (.invokestatic 23, 3) := by decide +kernel
theorem dX1_becomeSimplestBetween_39 : decode cX1_becomeSimplestBetween 39 = .ok (.lstore 14, 2) := by decide +kernel
theorem dX1_becomeSimplestBetween_41 : decode cX1_becomeSimplestBetween 41 = .ok (.lload 14, 2) := by decide +kernel
theorem dX1_becomeSimplestBetween_43 : decode cX1_becomeSimplestBetween 43 = .ok (.lconst 1, 1) := by decide +kernel
theorem dX1_becomeSimplestBetween_44 : decode cX1_becomeSimplestBetween 44 = .ok (.ladd, 1) := by decide +kernel
theorem dX1_becomeSimplestBetween_45 : decode cX1_becomeSimplestBetween 45 = .ok (.lload 11, 2) := by decide +kernel
theorem dX1_becomeSimplestBetween_47 : decode cX1_becomeSimplestBetween 47 = .ok (.lmul, 1) := by decide +kernel
theorem dX1_becomeSimplestBetween_48 : decode cX1_becomeSimplestBetween 48 = .ok (.lload 9, 2) := by decide +kernel
theorem dX1_becomeSimplestBetween_50 : decode cX1_becomeSimplestBetween 50 = .ok (.lcmp, 1) := by decide +kernel
theorem dX1_becomeSimplestBetween_51 : decode cX1_becomeSimplestBetween 51 = .ok (.ifCond .ge 13, 3) := by decide +kernel
theorem dX1_becomeSimplestBetween_54 : decode cX1_becomeSimplestBetween 54 = .ok (.aload_n 0, 1) := by decide +kernel
theorem dX1_becomeSimplestBetween_55 : decode cX1_becomeSimplestBetween 55 = .ok (.lload 14, 2) := by decide +kernel
theorem dX1_becomeSimplestBetween_57 : decode cX1_becomeSimplestBetween 57 = .ok (.l2i, 1) := by decide +kernel
theorem dX1_becomeSimplestBetween_58 : decode cX1_becomeSimplestBetween 58 = .ok (.iconst 1, 1) := by decide +kernel
theorem dX1_becomeSimplestBetween_59 : decode cX1_becomeSimplestBetween 59 = .ok (.iadd, 1) := by decide +kernel
theorem dX1_becomeSimplestBetween_60 : decode cX1_becomeSimplestBetween 60 = .ok (.invokevirtual 19, 3) := by decide +kernel
theorem dX1_becomeSimplestBetween_63 : decode cX1_becomeSimplestBetween 63 = .ok (.return_, 1) := by decide +kernel
theorem dX1_becomeSimplestBetween_64 : decode cX1_becomeSimplestBetween 64 = .ok (.aload_n 0, 1) := by decide +kernel
theorem dX1_becomeSimplestBetween_65 : decode cX1_becomeSimplestBetween 65 = .ok (.lload 14, 2) := by decide +kernel
theorem dX1_becomeSimplestBetween_67 : decode cX1_becomeSimplestBetween 67 = .ok (.l2i, 1) := by decide +kernel
theorem dX1_becomeSimplestBetween_68 : decode cX1_becomeSimplestBetween 68 = .ok (.invokevirtual 19, 3) := by decide +kernel
theorem dX1_becomeSimplestBetween_71 : decode cX1_becomeSimplestBetween 71 = .ok (.lload 5, 2) := by decide +kernel
theorem dX1_becomeSimplestBetween_73 : decode cX1_becomeSimplestBetween 73 = .ok (.lload 14, 2) := by decide +kernel
theorem dX1_becomeSimplestBetween_75 : decode cX1_becomeSimplestBetween 75 = .ok (.lload 7, 2) := by decide +kernel
theorem dX1_becomeSimplestBetween_77 : decode cX1_becomeSimplestBetween 77 = .ok (.lmul, 1) := by decide +kernel
theorem dX1_becomeSimplestBetween_78 : decode cX1_becomeSimplestBetween 78 = .ok (.lsub, 1) := by decide +kernel
theorem dX1_becomeSimplestBetween_79 : decode cX1_becomeSimplestBetween 79 = .ok (.lstore 16, 2) := by decide +kernel
theorem dX1_becomeSimplestBetween_81 : decode cX1_becomeSimplestBetween 81 = .ok (.lload 9, 2) := by decide +kernel
theorem dX1_becomeSimplestBetween_83 : decode cX1_becomeSimplestBetween 83 = .ok (.lload 14, 2) := by decide +kernel
theorem dX1_becomeSimplestBetween_85 : decode cX1_becomeSimplestBetween 85 = .ok (.lload 11, 2) := by decide +kernel
theorem dX1_becomeSimplestBetween_87 : decode cX1_becomeSimplestBetween 87 = .ok (.lmul, 1) := by decide +kernel
theorem dX1_becomeSimplestBetween_88 : decode cX1_becomeSimplestBetween 88 = .ok (.lsub, 1) := by decide +kernel
theorem dX1_becomeSimplestBetween_89 : decode cX1_becomeSimplestBetween 89 = .ok (.lstore 18, 2) := by decide +kernel
theorem dX1_becomeSimplestBetween_91 : decode cX1_becomeSimplestBetween 91 = .ok (.lload 11, 2) := by decide +kernel
theorem dX1_becomeSimplestBetween_93 : decode cX1_becomeSimplestBetween 93 = .ok (.lstore 5, 2) := by decide +kernel
theorem dX1_becomeSimplestBetween_95 : decode cX1_becomeSimplestBetween 95 = .ok (.lload 7, 2) := by decide +kernel
theorem dX1_becomeSimplestBetween_97 : decode cX1_becomeSimplestBetween 97 = .ok (.lstore 9, 2) := by decide +kernel
theorem dX1_becomeSimplestBetween_99 : decode cX1_becomeSimplestBetween 99 = .ok (.lload 18, 2) := by decide +kernel
theorem dX1_becomeSimplestBetween_101 : decode cX1_becomeSimplestBetween 101 = .ok (.lstore 7, 2) := by decide +kernel
theorem dX1_becomeSimplestBetween_103 : decode cX1_becomeSimplestBetween 103 = .ok (.lload 16, 2) := by decide +kernel
theorem dX1_becomeSimplestBetween_105 : decode cX1_becomeSimplestBetween 105 = .ok (.lstore 11, 2) := by decide +kernel
theorem dX1_becomeSimplestBetween_107 : decode cX1_becomeSimplestBetween 107 = .ok (.iinc 13 1, 3) := by decide +kernel
theorem dX1_becomeSimplestBetween_110 : decode cX1_becomeSimplestBetween 110 = .ok (.goto (-85), 3) := by decide +kernel
theorem dX1_becomeSimplestBetween_113 : decode cX1_becomeSimplestBetween 113 = .ok (.return_, 1) := by decide +kernel
theorem dX1_append_0 : decode cX1_append 0 = .ok (.aload_n 0, 1) := by decide +kernel
theorem dX1_append_1 : decode cX1_append 1 = .ok (.getfield 15, 3) := by decide +kernel
theorem dX1_append_4 : decode cX1_append 4 = .ok (.bipush 64, 2) := by decide +kernel
theorem dX1_append_6 : decode cX1_append 6 = .ok (.if_icmp .ge 23, 3) := by decide +kernel
theorem dX1_append_9 : decode cX1_append 9 = .ok (.aload_n 0, 1) := by decide +kernel
theorem dX1_append_10 : decode cX1_append 10 = .ok (.getfield 9, 3) := by decide +kernel
theorem dX1_append_13 : decode cX1_append 13 = .ok (.aload_n 0, 1) := by decide +kernel
theorem dX1_append_14 : decode cX1_append 14 = .ok (.getfield 15, 3) := by decide +kernel
theorem dX1_append_17 : decode cX1_append 17 = .ok (.iload_n 1, 1) := by decide +kernel
theorem dX1_append_18 : decode cX1_append 18 = .ok (.iastore, 1) := by decide +kernel
theorem dX1_append_19 : decode cX1_append 19 = .ok (.aload_n 0, 1) := by decide +kernel
theorem dX1_append_20 : decode cX1_append 20 = .ok (.dup, 1) := by decide +kernel
theorem dX1_append_21 : decode cX1_append 21 = .ok (.getfield 15, 3) := by decide +kernel
theorem dX1_append_24 : decode cX1_append 24 = .ok (.iconst 1, 1) := by decide +kernel
theorem dX1_append_25 : decode cX1_append 25 = .ok (.iadd, 1) := by decide +kernel
theorem dX1_append_26 : decode cX1_append 26 = .ok (.putfield 15, 3) := by decide +kernel
theorem dX1_append_29 : decode cX1_append 29 = .ok (.return_, 1) := by decide +kernel
theorem dX1_size_0 : decode cX1_size 0 = .ok (.aload_n 0, 1) := by decide +kernel
theorem dX1_size_1 : decode cX1_size 1 = .ok (.getfield 15, 3) := by decide +kernel
theorem dX1_size_4 : decode cX1_size 4 = .ok (.ireturn, 1) := by decide +kernel
theorem dX1_at_0 : decode cX1_at 0 = .ok (.iload_n 1, 1) := by decide +kernel
theorem dX1_at_1 : decode cX1_at 1 = .ok (.ifCond .lt 20, 3) := by decide +kernel
theorem dX1_at_4 : decode cX1_at 4 = .ok (.iload_n 1, 1) := by decide +kernel
theorem dX1_at_5 : decode cX1_at 5 = .ok (.aload_n 0, 1) := by decide +kernel
theorem dX1_at_6 : decode cX1_at 6 = .ok (.getfield 15, 3) := by decide +kernel
theorem dX1_at_9 : decode cX1_at 9 = .ok (.if_icmp .ge 12, 3) := by decide +kernel
theorem dX1_at_12 : decode cX1_at 12 = .ok (.aload_n 0, 1) := by decide +kernel
theorem dX1_at_13 : decode cX1_at 13 = .ok (.getfield 9, 3) := by decide +kernel
theorem dX1_at_16 : decode cX1_at 16 = .ok (.iload_n 1, 1) := by decide +kernel
theorem dX1_at_17 : decode cX1_at 17 = .ok (.iaload, 1) := by decide +kernel
theorem dX1_at_18 : decode cX1_at 18 = .ok (.goto 4, 3) := by decide +kernel
theorem dX1_at_21 : decode cX1_at 21 = .ok (.iconst 0, 1) := by decide +kernel
theorem dX1_at_22 : decode cX1_at 22 = .ok (.ireturn, 1) := by decide +kernel
set_option maxRecDepth 20000 in
theorem ggX1_runAt_X1_at : GoodIn wsX1_runAt wsX1_at := goodIn_r _ [6, 1, 7, 8, 9, 10, 11, 12, 13] (by decide +kernel) (by decide +kernel)
set_option maxRecDepth 20000 in
theorem gX1_runAt_X1_at : GoodIn wsX1_runAt (wsV RX1 27 RX1 yX1_at wsX1_at) := goodIn_app (goodIn_of _ (by decide +kernel)) ggX1_runAt_X1_at
theorem dX1_runAt_0 : decode cX1_runAt 0 = .ok (.iload_n 1, 1) := by decide +kernel
theorem dX1_runAt_1 : decode cX1_runAt 1 = .ok (.aload_n 0, 1) := by decide +kernel
theorem dX1_runAt_2 : decode cX1_runAt 2 = .ok (.getfield 15, 3) := by decide +kernel
theorem dX1_runAt_5 : decode cX1_runAt 5 = .ok (.iconst 1, 1) := by decide +kernel
theorem dX1_runAt_6 : decode cX1_runAt 6 = .ok (.isub, 1) := by decide +kernel
theorem dX1_runAt_7 : decode cX1_runAt 7 = .ok (.if_icmp .ne 13, 3) := by decide +kernel
theorem dX1_runAt_10 : decode cX1_runAt 10 = .ok (.aload_n 0, 1) := by decide +kernel
theorem dX1_runAt_11 : decode cX1_runAt 11 = .ok (.iload_n 1, 1) := by decide +kernel
theorem dX1_runAt_12 : decode cX1_runAt 12 = .ok (.invokevirtual 27, 3) := by decide +kernel
theorem dX1_runAt_15 : decode cX1_runAt 15 = .ok (.iconst 1, 1) := by decide +kernel
theorem dX1_runAt_16 : decode cX1_runAt 16 = .ok (.isub, 1) := by decide +kernel
theorem dX1_runAt_17 : decode cX1_runAt 17 = .ok (.goto 8, 3) := by decide +kernel
theorem dX1_runAt_20 : decode cX1_runAt 20 = .ok (.aload_n 0, 1) := by decide +kernel
theorem dX1_runAt_21 : decode cX1_runAt 21 = .ok (.iload_n 1, 1) := by decide +kernel
theorem dX1_runAt_22 : decode cX1_runAt 22 = .ok (.invokevirtual 27, 3) := by decide +kernel
theorem dX1_runAt_25 : decode cX1_runAt 25 = .ok (.ireturn, 1) := by decide +kernel
set_option maxRecDepth 20000 in
theorem ggX1_stepCount_X1_runAt : GoodIn wsX1_stepCount wsX1_runAt := goodIn_r _ [6, 1, 7, 8, 9, 5, 10, 11, 12, 13, 14, 15, 16, 17] (by decide +kernel) (by decide +kernel)
set_option maxRecDepth 20000 in
theorem gX1_stepCount_X1_runAt : GoodIn wsX1_stepCount (wsV RX1 31 RX1 yX1_runAt wsX1_runAt) := goodIn_app (goodIn_of _ (by decide +kernel)) ggX1_stepCount_X1_runAt
theorem dX1_stepCount_0 : decode cX1_stepCount 0 = .ok (.iconst 0, 1) := by decide +kernel
theorem dX1_stepCount_1 : decode cX1_stepCount 1 = .ok (.istore_n 1, 1) := by decide +kernel
theorem dX1_stepCount_2 : decode cX1_stepCount 2 = .ok (.iconst 0, 1) := by decide +kernel
theorem dX1_stepCount_3 : decode cX1_stepCount 3 = .ok (.istore_n 2, 1) := by decide +kernel
theorem dX1_stepCount_4 : decode cX1_stepCount 4 = .ok (.iload_n 2, 1) := by decide +kernel
theorem dX1_stepCount_5 : decode cX1_stepCount 5 = .ok (.aload_n 0, 1) := by decide +kernel
theorem dX1_stepCount_6 : decode cX1_stepCount 6 = .ok (.getfield 15, 3) := by decide +kernel
theorem dX1_stepCount_9 : decode cX1_stepCount 9 = .ok (.if_icmp .ge 17, 3) := by decide +kernel
theorem dX1_stepCount_12 : decode cX1_stepCount 12 = .ok (.iload_n 1, 1) := by decide +kernel
theorem dX1_stepCount_13 : decode cX1_stepCount 13 = .ok (.aload_n 0, 1) := by decide +kernel
theorem dX1_stepCount_14 : decode cX1_stepCount 14 = .ok (.iload_n 2, 1) := by decide +kernel
theorem dX1_stepCount_15 : decode cX1_stepCount 15 = .ok (.invokevirtual 31, 3) := by decide +kernel
theorem dX1_stepCount_18 : decode cX1_stepCount 18 = .ok (.iadd, 1) := by decide +kernel
theorem dX1_stepCount_19 : decode cX1_stepCount 19 = .ok (.istore_n 1, 1) := by decide +kernel
theorem dX1_stepCount_20 : decode cX1_stepCount 20 = .ok (.iinc 2 1, 3) := by decide +kernel
theorem dX1_stepCount_23 : decode cX1_stepCount 23 = .ok (.goto (-19), 3) := by decide +kernel
theorem dX1_stepCount_26 : decode cX1_stepCount 26 = .ok (.iload_n 1, 1) := by decide +kernel
theorem dX1_stepCount_27 : decode cX1_stepCount 27 = .ok (.ireturn, 1) := by decide +kernel
set_option maxRecDepth 20000 in
theorem ggX1_commonSteps_X1_runAt : GoodIn wsX1_commonSteps wsX1_runAt := goodIn_r _ [6, 1, 7, 8, 9, 5, 10, 11, 12, 13, 14, 15, 16, 17] (by decide +kernel) (by decide +kernel)
set_option maxRecDepth 20000 in
theorem gX1_commonSteps_X1_runAt : GoodIn wsX1_commonSteps (wsV RX1 31 RX1 yX1_runAt wsX1_runAt) := goodIn_app (goodIn_of _ (by decide +kernel)) ggX1_commonSteps_X1_runAt
theorem dX1_commonSteps_0 : decode cX1_commonSteps 0 = .ok (.iconst 0, 1) := by decide +kernel
theorem dX1_commonSteps_1 : decode cX1_commonSteps 1 = .ok (.istore_n 2, 1) := by decide +kernel
theorem dX1_commonSteps_2 : decode cX1_commonSteps 2 = .ok (.iconst 0, 1) := by decide +kernel
theorem dX1_commonSteps_3 : decode cX1_commonSteps 3 = .ok (.istore_n 3, 1) := by decide +kernel
theorem dX1_commonSteps_4 : decode cX1_commonSteps 4 = .ok (.iload_n 3, 1) := by decide +kernel
theorem dX1_commonSteps_5 : decode cX1_commonSteps 5 = .ok (.aload_n 0, 1) := by decide +kernel
theorem dX1_commonSteps_6 : decode cX1_commonSteps 6 = .ok (.getfield 15, 3) := by decide +kernel
theorem dX1_commonSteps_9 : decode cX1_commonSteps 9 = .ok (.if_icmp .ge 57, 3) := by decide +kernel
theorem dX1_commonSteps_12 : decode cX1_commonSteps 12 = .ok (.iload_n 3, 1) := by decide +kernel
theorem dX1_commonSteps_13 : decode cX1_commonSteps 13 = .ok (.aload_n 1, 1) := by decide +kernel
theorem dX1_commonSteps_14 : decode cX1_commonSteps 14 = .ok (.getfield 15, 3) := by decide +kernel
theorem dX1_commonSteps_17 : decode cX1_commonSteps 17 = .ok (.if_icmp .ge 49, 3) := by decide +kernel
theorem dX1_commonSteps_20 : decode cX1_commonSteps 20 = .ok (.aload_n 0, 1) := by decide +kernel
theorem dX1_commonSteps_21 : decode cX1_commonSteps 21 = .ok (.iload_n 3, 1) := by decide +kernel
theorem dX1_commonSteps_22 : decode cX1_commonSteps 22 = .ok (.invokevirtual 31, 3) := by decide +kernel
theorem dX1_commonSteps_25 : decode cX1_commonSteps 25 = .ok (.istore 4, 2) := by decide +kernel
theorem dX1_commonSteps_27 : decode cX1_commonSteps 27 = .ok (.aload_n 1, 1) := by decide +kernel
theorem dX1_commonSteps_28 : decode cX1_commonSteps 28 = .ok (.iload_n 3, 1) := by decide +kernel
theorem dX1_commonSteps_29 : decode cX1_commonSteps 29 = .ok (.invokevirtual 31, 3) := by decide +kernel
theorem dX1_commonSteps_32 : decode cX1_commonSteps 32 = .ok (.istore 5, 2) := by decide +kernel
theorem dX1_commonSteps_34 : decode cX1_commonSteps 34 = .ok (.iload_n 2, 1) := by decide +kernel
theorem dX1_commonSteps_35 : decode cX1_commonSteps 35 = .ok (.iload 4, 2) := by decide +kernel
theorem dX1_commonSteps_37 : decode cX1_commonSteps 37 = .ok (.iload 5, 2) := by decide +kernel
theorem dX1_commonSteps_39 : decode cX1_commonSteps 39 = .ok (.if_icmp .ge 8, 3) := by decide +kernel
theorem dX1_commonSteps_42 : decode cX1_commonSteps 42 = .ok (.iload 4, 2) := by decide +kernel
theorem dX1_commonSteps_44 : decode cX1_commonSteps 44 = .ok (.goto 5, 3) := by decide +kernel
theorem dX1_commonSteps_47 : decode cX1_commonSteps 47 = .ok (.iload 5, 2) := by decide +kernel
theorem dX1_commonSteps_49 : decode cX1_commonSteps 49 = .ok (.iadd, 1) := by decide +kernel
theorem dX1_commonSteps_50 : decode cX1_commonSteps 50 = .ok (.istore_n 2, 1) := by decide +kernel
theorem dX1_commonSteps_51 : decode cX1_commonSteps 51 = .ok (.iload 4, 2) := by decide +kernel
theorem dX1_commonSteps_53 : decode cX1_commonSteps 53 = .ok (.iload 5, 2) := by decide +kernel
theorem dX1_commonSteps_55 : decode cX1_commonSteps 55 = .ok (.if_icmp .eq 5, 3) := by decide +kernel
theorem dX1_commonSteps_58 : decode cX1_commonSteps 58 = .ok (.iload_n 2, 1) := by decide +kernel
theorem dX1_commonSteps_59 : decode cX1_commonSteps 59 = .ok (.ireturn, 1) := by decide +kernel
theorem dX1_commonSteps_60 : decode cX1_commonSteps 60 = .ok (.iinc 3 1, 3) := by decide +kernel
theorem dX1_commonSteps_63 : decode cX1_commonSteps 63 = .ok (.goto (-59), 3) := by decide +kernel
theorem dX1_commonSteps_66 : decode cX1_commonSteps 66 = .ok (.iload_n 2, 1) := by decide +kernel
theorem dX1_commonSteps_67 : decode cX1_commonSteps 67 = .ok (.ireturn, 1) := by decide +kernel
set_option maxRecDepth 20000 in
theorem ggX1_cutToDepth_X1_runAt : GoodIn wsX1_cutToDepth wsX1_runAt := goodIn_r _ [7, 1, 8, 9, 10, 6, 11, 2, 12, 13, 14, 15, 16, 17] (by decide +kernel) (by decide +kernel)
set_option maxRecDepth 20000 in
theorem gX1_cutToDepth_X1_runAt : GoodIn wsX1_cutToDepth (wsV RX1 31 RX1 yX1_runAt wsX1_runAt) := goodIn_app (goodIn_of _ (by decide +kernel)) ggX1_cutToDepth_X1_runAt
theorem dX1_cutToDepth_0 : decode cX1_cutToDepth 0 = .ok (.iload_n 1, 1) := by decide +kernel
theorem dX1_cutToDepth_1 : decode cX1_cutToDepth 1 = .ok (.istore_n 2, 1) := by decide +kernel
theorem dX1_cutToDepth_2 : decode cX1_cutToDepth 2 = .ok (.iconst 0, 1) := by decide +kernel
theorem dX1_cutToDepth_3 : decode cX1_cutToDepth 3 = .ok (.istore_n 3, 1) := by decide +kernel
theorem dX1_cutToDepth_4 : decode cX1_cutToDepth 4 = .ok (.iload_n 3, 1) := by decide +kernel
theorem dX1_cutToDepth_5 : decode cX1_cutToDepth 5 = .ok (.aload_n 0, 1) := by decide +kernel
theorem dX1_cutToDepth_6 : decode cX1_cutToDepth 6 = .ok (.getfield 15, 3) := by decide +kernel
theorem dX1_cutToDepth_9 : decode cX1_cutToDepth 9 = .ok (.if_icmp .ge 44, 3) := by decide +kernel
theorem dX1_cutToDepth_12 : decode cX1_cutToDepth 12 = .ok (.aload_n 0, 1) := by decide +kernel
theorem dX1_cutToDepth_13 : decode cX1_cutToDepth 13 = .ok (.iload_n 3, 1) := by decide +kernel
theorem dX1_cutToDepth_14 : decode cX1_cutToDepth 14 = .ok (.invokevirtual 31, 3) := by decide +kernel
theorem dX1_cutToDepth_17 : decode cX1_cutToDepth 17 = .ok (.istore 4, 2) := by decide +kernel
theorem dX1_cutToDepth_19 : decode cX1_cutToDepth 19 = .ok (.iload_n 2, 1) := by decide +kernel
theorem dX1_cutToDepth_20 : decode cX1_cutToDepth 20 = .ok (.iload 4, 2) := by decide +kernel
theorem dX1_cutToDepth_22 : decode cX1_cutToDepth 22 = .ok (.if_icmp .gt 20, 3) := by decide +kernel
theorem dX1_cutToDepth_25 : decode cX1_cutToDepth 25 = .ok (.aload_n 0, 1) := by decide +kernel
theorem dX1_cutToDepth_26 : decode cX1_cutToDepth 26 = .ok (.getfield 9, 3) := by decide +kernel
theorem dX1_cutToDepth_29 : decode cX1_cutToDepth 29 = .ok (.iload_n 3, 1) := by decide +kernel
theorem dX1_cutToDepth_30 : decode cX1_cutToDepth 30 = .ok (.iload_n 2, 1) := by decide +kernel
theorem dX1_cutToDepth_31 : decode cX1_cutToDepth 31 = .ok (.iconst 1, 1) := by decide +kernel
theorem dX1_cutToDepth_32 : decode cX1_cutToDepth 32 = .ok (.iadd, 1) := by decide +kernel
theorem dX1_cutToDepth_33 : decode cX1_cutToDepth 33 = .ok (.iastore, 1) := by decide +kernel
theorem dX1_cutToDepth_34 : decode cX1_cutToDepth 34 = .ok (.aload_n 0, 1) := by decide +kernel
theorem dX1_cutToDepth_35 : decode cX1_cutToDepth 35 = .ok (.iload_n 3, 1) := by decide +kernel
theorem dX1_cutToDepth_36 : decode cX1_cutToDepth 36 = .ok (.iconst 1, 1) := by decide +kernel
theorem dX1_cutToDepth_37 : decode cX1_cutToDepth 37 = .ok (.iadd, 1) := by decide +kernel
theorem dX1_cutToDepth_38 : decode cX1_cutToDepth 38 = .ok (.putfield 15, 3) := by decide +kernel
theorem dX1_cutToDepth_41 : decode cX1_cutToDepth 41 = .ok (.return_, 1) := by decide +kernel
theorem dX1_cutToDepth_42 : decode cX1_cutToDepth 42 = .ok (.iload_n 2, 1) := by decide +kernel
theorem dX1_cutToDepth_43 : decode cX1_cutToDepth 43 = .ok (.iload 4, 2) := by decide +kernel
theorem dX1_cutToDepth_45 : decode cX1_cutToDepth 45 = .ok (.isub, 1) := by decide +kernel
theorem dX1_cutToDepth_46 : decode cX1_cutToDepth 46 = .ok (.istore_n 2, 1) := by decide +kernel
theorem dX1_cutToDepth_47 : decode cX1_cutToDepth 47 = .ok (.iinc 3 1, 3) := by decide +kernel
theorem dX1_cutToDepth_50 : decode cX1_cutToDepth 50 = .ok (.goto (-46), 3) := by decide +kernel
theorem dX1_cutToDepth_53 : decode cX1_cutToDepth 53 = .ok (.return_, 1) := by decide +kernel
set_option maxRecDepth 20000 in
theorem ggX1_convergentTop_X1_lastByRule : GoodIn wsX1_convergentTop wsX1_lastByRule := goodIn_r _ [5, 6, 7, 8, 9, 10, 11, 12, 13] (by decide +kernel) (by decide +kernel)
set_option maxRecDepth 20000 in
theorem gX1_convergentTop_X1_lastByRule : GoodIn wsX1_convergentTop (wsV RX1 34 RX1 yX1_lastByRule wsX1_lastByRule) := goodIn_app (goodIn_of _ (by decide +kernel)) ggX1_convergentTop_X1_lastByRule
theorem dX1_convergentTop_0 : decode cX1_convergentTop 0 = .ok (.aload_n 0, 1) := by decide +kernel
theorem dX1_convergentTop_1 : decode cX1_convergentTop 1 = .ok (.iload_n 1, 1) := by decide +kernel
theorem dX1_convergentTop_2 : decode cX1_convergentTop 2 = .ok (.lconst 0, 1) := by decide +kernel
theorem dX1_convergentTop_3 : decode cX1_convergentTop 3 = .ok (.lconst 1, 1) := by decide +kernel
theorem dX1_convergentTop_4 : decode cX1_convergentTop 4 = .ok (.invokevirtual 34, 3) := by decide +kernel
theorem dX1_convergentTop_7 : decode cX1_convergentTop 7 = .ok (.lreturn, 1) := by decide +kernel
set_option maxRecDepth 20000 in
theorem ggX1_convergentBottom_X1_lastByRule : GoodIn wsX1_convergentBottom wsX1_lastByRule := goodIn_r _ [5, 6, 7, 8, 9, 10, 11, 12, 13] (by decide +kernel) (by decide +kernel)
set_option maxRecDepth 20000 in
theorem gX1_convergentBottom_X1_lastByRule : GoodIn wsX1_convergentBottom (wsV RX1 34 RX1 yX1_lastByRule wsX1_lastByRule) := goodIn_app (goodIn_of _ (by decide +kernel)) ggX1_convergentBottom_X1_lastByRule
theorem dX1_convergentBottom_0 : decode cX1_convergentBottom 0 = .ok (.aload_n 0, 1) := by decide +kernel
theorem dX1_convergentBottom_1 : decode cX1_convergentBottom 1 = .ok (.iload_n 1, 1) := by decide +kernel
theorem dX1_convergentBottom_2 : decode cX1_convergentBottom 2 = .ok (.lconst 1, 1) := by decide +kernel
theorem dX1_convergentBottom_3 : decode cX1_convergentBottom 3 = .ok (.lconst 0, 1) := by decide +kernel
theorem dX1_convergentBottom_4 : decode cX1_convergentBottom 4 = .ok (.invokevirtual 34, 3) := by decide +kernel
theorem dX1_convergentBottom_7 : decode cX1_convergentBottom 7 = .ok (.lreturn, 1) := by decide +kernel
theorem dX1_lastByRule_0 : decode cX1_lastByRule 0 = .ok (.iload_n 1, 1) := by decide +kernel
theorem dX1_lastByRule_1 : decode cX1_lastByRule 1 = .ok (.iconst (-1), 1) := by decide +kernel
theorem dX1_lastByRule_2 : decode cX1_lastByRule 2 = .ok (.if_icmp .ge 5, 3) := by decide +kernel
theorem dX1_lastByRule_5 : decode cX1_lastByRule 5 = .ok (.lload_n 2, 1) := by decide +kernel
theorem dX1_lastByRule_6 : decode cX1_lastByRule 6 = .ok (.lreturn, 1) := by decide +kernel
theorem dX1_lastByRule_7 : decode cX1_lastByRule 7 = .ok (.lload_n 2, 1) := by decide +kernel
theorem dX1_lastByRule_8 : decode cX1_lastByRule 8 = .ok (.lstore 6, 2) := by decide +kernel
theorem dX1_lastByRule_10 : decode cX1_lastByRule 10 = .ok (.lload 4, 2) := by decide +kernel
theorem dX1_lastByRule_12 : decode cX1_lastByRule 12 = .ok (.lstore 8, 2) := by decide +kernel
theorem dX1_lastByRule_14 : decode cX1_lastByRule 14 = .ok (.iconst 0, 1) := by decide +kernel
theorem dX1_lastByRule_15 : decode cX1_lastByRule 15 = .ok (.istore 10, 2) := by decide +kernel
theorem dX1_lastByRule_17 : decode cX1_lastByRule 17 = .ok (.iload 10, 2) := by decide +kernel
theorem dX1_lastByRule_19 : decode cX1_lastByRule 19 = .ok (.iload_n 1, 1) := by decide +kernel
theorem dX1_lastByRule_20 : decode cX1_lastByRule 20 = .ok (.if_icmp .gt 42, 3) := by decide +kernel
theorem dX1_lastByRule_23 : decode cX1_lastByRule 23 = .ok (.iload 10, 2) := by decide +kernel
theorem dX1_lastByRule_25 : decode cX1_lastByRule 25 = .ok (.aload_n 0, 1) := by decide +kernel
theorem dX1_lastByRule_26 : decode cX1_lastByRule 26 = .ok (.getfield 15, 3) := by decide +kernel
theorem dX1_lastByRule_29 : decode cX1_lastByRule 29 = .ok (.if_icmp .ge 33, 3) := by decide +kernel
theorem dX1_lastByRule_32 : decode cX1_lastByRule 32 = .ok (.aload_n 0, 1) := by decide +kernel
theorem dX1_lastByRule_33 : decode cX1_lastByRule 33 = .ok (.getfield 9, 3) := by decide +kernel
theorem dX1_lastByRule_36 : decode cX1_lastByRule 36 = .ok (.iload 10, 2) := by decide +kernel
theorem dX1_lastByRule_38 : decode cX1_lastByRule 38 = .ok (.iaload, 1) := by decide +kernel
theorem dX1_lastByRule_39 : decode cX1_lastByRule 39 = .ok (.i2l, 1) := by decide +kernel
theorem dX1_lastByRule_40 : decode cX1_lastByRule 40 = .ok (.lload 8, 2) := by decide +kernel
theorem dX1_lastByRule_42 : decode cX1_lastByRule 42 = .ok (.lmul, 1) := by decide +kernel
theorem dX1_lastByRule_43 : decode cX1_lastByRule 43 = .ok (.lload 6, 2) := by decide +kernel
theorem dX1_lastByRule_45 : decode cX1_lastByRule 45 = .ok (.ladd, 1) := by decide +kernel
theorem dX1_lastByRule_46 : decode cX1_lastByRule 46 = .ok (.lstore 11, 2) := by decide +kernel
theorem dX1_lastByRule_48 : decode cX1_lastByRule 48 = .ok (.lload 8, 2) := by decide +kernel
theorem dX1_lastByRule_50 : decode cX1_lastByRule 50 = .ok (.lstore 6, 2) := by decide +kernel
theorem dX1_lastByRule_52 : decode cX1_lastByRule 52 = .ok (.lload 11, 2) := by decide +kernel
theorem dX1_lastByRule_54 : decode cX1_lastByRule 54 = .ok (.lstore 8, 2) := by decide +kernel
theorem dX1_lastByRule_56 : decode cX1_lastByRule 56 = .ok (.iinc 10 1, 3) := by decide +kernel
theorem dX1_lastByRule_59 : decode cX1_lastByRule 59 = .ok (.goto (-42), 3) := by decide +kernel
theorem dX1_lastByRule_62 : decode cX1_lastByRule 62 = .ok (.lload 8, 2) := by decide +kernel
theorem dX1_lastByRule_64 : decode cX1_lastByRule 64 = .ok (.lreturn, 1) := by decide +kernel
theorem dX4_init_0 : decode cX4_init 0 = .ok (.aload_n 0, 1) := by decide +kernel
theorem dX4_init_1 : decode cX4_init 1 = .ok (.invokespecial 1, 3) := by decide +kernel
theorem dX4_init_4 : decode cX4_init 4 = .ok (.aload_n 0, 1) := by decide +kernel
theorem dX4_init_5 : decode cX4_init 5 = .ok (.sipush 720, 3) := by decide +kernel
theorem dX4_init_8 : decode cX4_init 8 = .ok (.newarray .int, 2) := by decide +kernel
theorem dX4_init_10 : decode cX4_init 10 = .ok (.putfield 9, 3) := by decide +kernel
theorem dX4_init_13 : decode cX4_init 13 = .ok (.aload_n 0, 1) := by decide +kernel
theorem dX4_init_14 : decode cX4_init 14 = .ok (.sipush 720, 3) := by decide +kernel
theorem dX4_init_17 : decode cX4_init 17 = .ok (.newarray .int, 2) := by decide +kernel
theorem dX4_init_19 : decode cX4_init 19 = .ok (.putfield 13, 3) := by decide +kernel
theorem dX4_init_22 : decode cX4_init 22 = .ok (.aload_n 0, 1) := by decide +kernel
theorem dX4_init_23 : decode cX4_init 23 = .ok (.sipush 720, 3) := by decide +kernel
theorem dX4_init_26 : decode cX4_init 26 = .ok (.newarray .int, 2) := by decide +kernel
theorem dX4_init_28 : decode cX4_init 28 = .ok (.putfield 16, 3) := by decide +kernel
theorem dX4_init_31 : decode cX4_init 31 = .ok (.aload_n 0, 1) := by decide +kernel
theorem dX4_init_32 : decode cX4_init 32 = .ok (.sipush 160, 3) := by decide +kernel
theorem dX4_init_35 : decode cX4_init 35 = .ok (.newarray .int, 2) := by decide +kernel
theorem dX4_init_37 : decode cX4_init 37 = .ok (.putfield 19, 3) := by decide +kernel
theorem dX4_init_40 : decode cX4_init 40 = .ok (.return_, 1) := by decide +kernel
