theorem ggX0_init_X3_init : GoodIn wsX0_init wsX3_init := goodIn_r _ [4, 5, 6, 7, 8, 9, 10, 11, 12, 13, 14, 15, 16, 17, 18, 19, 20, 21, 22, 23, 24, 25] (by decide +kernel) (by decide +kernel)
set_option maxRecDepth 20000 in
theorem gX0_init_X3_init : GoodIn wsX0_init (wsX3_init) := ggX0_init_X3_init
theorem dX0_init_0 : decode cX0_init 0 = .ok (.aload_n 0, 1) := by decide +kernel
theorem dX0_init_1 : decode cX0_init 1 = .ok (.iload_n 1, 1) := by decide +kernel
theorem dX0_init_2 : decode cX0_init 2 = .ok (.iload_n 2, 1) := by decide +kernel
theorem dX0_init_3 : decode cX0_init 3 = .ok (.iload_n 3, 1) := by decide +kernel
theorem dX0_init_4 : decode cX0_init 4 = .ok (.invokespecial 1, 3) := by decide +kernel
theorem dX0_init_7 : decode cX0_init 7 = .ok (.return_, 1) := by decide +kernel
set_option maxRecDepth 20000 in
theorem ggX0_grow_X3_grow : GoodIn wsX0_grow wsX3_grow := goodIn_r _ [6, 7, 8, 9, 10, 11, 12, 13, 14, 15, 16, 17, 18, 19, 20, 21, 22] (by decide +kernel) (by decide +kernel)
set_option maxRecDepth 20000 in
theorem gX0_grow_X3_grow_s7 : GoodIn wsX0_grow (va_wsSU RX0 7 yX3_grow wsX3_grow) := goodIn_app (goodIn_of _ (by decide +kernel)) ggX0_grow_X3_grow
theorem dX0_grow_0 : decode cX0_grow 0 = .ok (.aload_n 0, 1) := by decide +kernel
theorem dX0_grow_1 : decode cX0_grow 1 = .ok (.iload_n 1, 1) := by decide +kernel
theorem dX0_grow_2 : decode cX0_grow 2 = .ok (.iconst 2, 1) := by decide +kernel
theorem dX0_grow_3 : decode cX0_grow 3 = .ok (.imul, 1) := by decide +kernel
theorem dX0_grow_4 : decode cX0_grow 4 = .ok (.invokespecial 7, 3) := by decide +kernel
theorem dX0_grow_7 : decode cX0_grow 7 = .ok (.ireturn, 1) := by decide +kernel
theorem dX1_init_0 : decode cX1_init 0 = .ok (.aload_n 0, 1) := by decide +kernel
theorem dX1_init_1 : decode cX1_init 1 = .ok (.invokespecial 3, 3) := by decide +kernel
theorem dX1_init_4 : decode cX1_init 4 = .ok (.aload_n 0, 1) := by decide +kernel
theorem dX1_init_5 : decode cX1_init 5 = .ok (.bipush 64, 2) := by decide +kernel
theorem dX1_init_7 : decode cX1_init 7 = .ok (.newarray .int, 2) := by decide +kernel
theorem dX1_init_9 : decode cX1_init 9 = .ok (.putfield 9, 3) := by decide +kernel
theorem dX1_init_12 : decode cX1_init 12 = .ok (.return_, 1) := by decide +kernel
set_option maxRecDepth 20000 in
theorem ggX1_expand_X1_append : GoodIn wsX1_expand wsX1_append := goodIn_r _ [6, 1, 7, 8, 9, 10, 11, 12, 13] (by decide +kernel) (by decide +kernel)
set_option maxRecDepth 20000 in
theorem gX1_expand_X1_append : GoodIn wsX1_expand (wsV RX1 19 RX1 yX1_append wsX1_append) := goodIn_app (goodIn_of _ (by decide +kernel)) ggX1_expand_X1_append
theorem dX1_expand_0 : decode cX1_expand 0 = .ok (.iload_n 1, 1) := by decide +kernel
theorem dX1_expand_1 : decode cX1_expand 1 = .ok (.istore_n 3, 1) := by decide +kernel
theorem dX1_expand_2 : decode cX1_expand 2 = .ok (.iload_n 2, 1) := by decide +kernel
theorem dX1_expand_3 : decode cX1_expand 3 = .ok (.istore 4, 2) := by decide +kernel
theorem dX1_expand_5 : decode cX1_expand 5 = .ok (.aload_n 0, 1) := by decide +kernel
theorem dX1_expand_6 : decode cX1_expand 6 = .ok (.iconst 0, 1) := by decide +kernel
theorem dX1_expand_7 : decode cX1_expand 7 = .ok (.putfield 15, 3) := by decide +kernel
theorem dX1_expand_10 : decode cX1_expand 10 = .ok (.iconst 0, 1) := by decide +kernel
theorem dX1_expand_11 : decode cX1_expand 11 = .ok (.istore 5, 2) := by decide +kernel
theorem dX1_expand_13 : decode cX1_expand 13 = .ok (.iload 5, 2) := by decide +kernel
theorem dX1_expand_15 : decode cX1_expand 15 = .ok (.bipush 64, 2) := by decide +kernel
theorem dX1_expand_17 : decode cX1_expand 17 = .ok (.if_icmp .ge 35, 3) := by decide +kernel
theorem dX1_expand_20 : decode cX1_expand 20 = .ok (.iload 4, 2) := by decide +kernel
theorem dX1_expand_22 : decode cX1_expand 22 = .ok (.ifCond .le 30, 3) := by decide +kernel
theorem dX1_expand_25 : decode cX1_expand 25 = .ok (.aload_n 0, 1) := by decide +kernel
theorem dX1_expand_26 : decode cX1_expand 26 = .ok (.iload_n 3, 1) := by decide +kernel
theorem dX1_expand_27 : decode cX1_expand 27 = .ok (.iload 4, 2) := by decide +kernel
theorem dX1_expand_29 : decode cX1_expand 29 = .ok (.idiv, 1) := by decide +kernel
theorem dX1_expand_30 : decode cX1_expand 30 = .ok (.invokevirtual 19, 3) := by decide +kernel
theorem dX1_expand_33 : decode cX1_expand 33 = .ok (.iload_n 3, 1) := by decide +kernel
theorem dX1_expand_34 : decode cX1_expand 34 = .ok (.iload 4, 2) := by decide +kernel
theorem dX1_expand_36 : decode cX1_expand 36 = .ok (.irem, 1) := by decide +kernel
theorem dX1_expand_37 : decode cX1_expand 37 = .ok (.istore 6, 2) := by decide +kernel
theorem dX1_expand_39 : decode cX1_expand 39 = .ok (.iload 4, 2) := by decide +kernel
theorem dX1_expand_41 : decode cX1_expand 41 = .ok (.istore_n 3, 1) := by decide +kernel
theorem dX1_expand_42 : decode cX1_expand 42 = .ok (.iload 6, 2) := by decide +kernel
theorem dX1_expand_44 : decode cX1_expand 44 = .ok (.istore 4, 2) := by decide +kernel
theorem dX1_expand_46 : decode cX1_expand 46 = .ok (.iinc 5 1, 3) := by decide +kernel
theorem dX1_expand_49 : decode cX1_expand 49 = .ok (.goto (-36), 3) := by decide +kernel
theorem dX1_expand_52 : decode cX1_expand 52 = .ok (.return_, 1) := by decide +kernel
set_option maxRecDepth 20000 in
theorem ggX1_becomeSimplestBetween_X7_quotient : GoodIn wsX1_becomeSimplestBetween wsX7_quotient := goodIn_r _ [4] (by decide +kernel) (by decide +kernel)
set_option maxRecDepth 20000 in
theorem gX1_becomeSimplestBetween_X7_quotient_n23 : GoodIn wsX1_becomeSimplestBetween (wsX7_quotient) := ggX1_becomeSimplestBetween_X7_quotient
set_option maxRecDepth 20000 in
theorem ggX1_becomeSimplestBetween_X1_append : GoodIn wsX1_becomeSimplestBetween wsX1_append := goodIn_r _ [9, 1, 10, 11, 12, 13, 14, 15, 16] (by decide +kernel) (by decide +kernel)
set_option maxRecDepth 20000 in
theorem gX1_becomeSimplestBetween_X1_append : GoodIn wsX1_becomeSimplestBetween (wsV RX1 19 RX1 yX1_append wsX1_append) := goodIn_app (goodIn_of _ (by decide +kernel)) ggX1_becomeSimplestBetween_X1_append
theorem dX1_becomeSimplestBetween_0 : decode cX1_becomeSimplestBetween 0 = .ok (.iload_n 1, 1) := by decide +kernel
theorem dX1_becomeSimplestBetween_1 : decode cX1_becomeSimplestBetween 1 = .ok (.i2l, 1) := by decide +kernel
theorem dX1_becomeSimplestBetween_2 : decode cX1_becomeSimplestBetween 2 = .ok (.lstore 5, 2) := by decide +kernel
theorem dX1_becomeSimplestBetween_4 : decode cX1_becomeSimplestBetween 4 = .ok (.iload_n 2, 1) := by decide +kernel
theorem dX1_becomeSimplestBetween_5 : decode cX1_becomeSimplestBetween 5 = .ok (.i2l, 1) := by decide +kernel
theorem dX1_becomeSimplestBetween_6 : decode cX1_becomeSimplestBetween 6 = .ok (.lstore 7, 2) := by decide +kernel
theorem dX1_becomeSimplestBetween_8 : decode cX1_becomeSimplestBetween 8 = .ok (.iload_n 3, 1) := by decide +kernel
theorem dX1_becomeSimplestBetween_9 : decode cX1_becomeSimplestBetween 9 = .ok (.i2l, 1) := by decide +kernel
theorem dX1_becomeSimplestBetween_10 : decode cX1_becomeSimplestBetween 10 = .ok (.lstore 9, 2) := by decide +kernel
theorem dX1_becomeSimplestBetween_12 : decode cX1_becomeSimplestBetween 12 = .ok (.iload 4, 2) := by decide +kernel
theorem dX1_becomeSimplestBetween_14 : decode cX1_becomeSimplestBetween 14 = .ok (.i2l, 1) := by decide +kernel
theorem dX1_becomeSimplestBetween_15 : decode cX1_becomeSimplestBetween 15 = .ok (.lstore 11, 2) := by decide +kernel
theorem dX1_becomeSimplestBetween_17 : decode cX1_becomeSimplestBetween 17 = .ok (.aload_n 0, 1) := by decide +kernel
theorem dX1_becomeSimplestBetween_18 : decode cX1_becomeSimplestBetween 18 = .ok (.iconst 0, 1) := by decide +kernel
theorem dX1_becomeSimplestBetween_19 : decode cX1_becomeSimplestBetween 19 = .ok (.putfield 15, 3) := by decide +kernel
theorem dX1_becomeSimplestBetween_22 : decode cX1_becomeSimplestBetween 22 = .ok (.iconst 0, 1) := by decide +kernel
theorem dX1_becomeSimplestBetween_23 : decode cX1_becomeSimplestBetween 23 = .ok (.istore 13, 2) := by decide +kernel
theorem dX1_becomeSimplestBetween_25 : decode cX1_becomeSimplestBetween 25 = .ok (.iload 13, 2) := by decide +kernel
theorem dX1_becomeSimplestBetween_27 : decode cX1_becomeSimplestBetween 27 = .ok (.bipush 64, 2) := by decide +kernel
theorem dX1_becomeSimplestBetween_29 : decode cX1_becomeSimplestBetween 29 = .ok (.if_icmp .ge 84, 3) := by decide +kernel
theorem dX1_becomeSimplestBetween_32 : decode cX1_becomeSimplestBetween 32 = .ok (.lload 5, 2) := by decide +kernel
theorem dX1_becomeSimplestBetween_34 : decode cX1_becomeSimplestBetween 34 = .ok (.lload 7, 2) := by decide +kernel
theorem dX1_becomeSimplestBetween_36 : decode cX1_becomeSimplestBetween 36 = .ok (.invokestatic 23, 3) := by decide +kernel
theorem dX1_becomeSimplestBetween_39 : decode cX1_becomeSimplestBetween 39 = .ok (.lstore 14, 2) := by decide +kernel
theorem dX1_becomeSimplestBetween_41 : decode cX1_becomeSimplestBetween 41 = .ok (.lload 14, 2) := by decide +kernel
theorem dX1_becomeSimplestBetween_43 : decode cX1_becomeSimplestBetween 43 = .ok (.lconst 1, 1) := by decide +kernel
theorem dX1_becomeSimplestBetween_44 : decode cX1_becomeSimplestBetween 44 = .ok (.ladd, 1) := by decide +kernel
theorem dX1_becomeSimplestBetween_45 : decode cX1_becomeSimplestBetween 45 = .ok (.lload 11, 2) := by decide +kernel
theorem dX1_becomeSimplestBetween_47 : decode cX1_becomeSimplestBetween 47 = .ok (.lmul, 1) := by decide +kernel
theorem dX1_becomeSimplestBetween_48 : decode cX1_becomeSimplestBetween 48 = .ok (.lload 9, 2) := by decide +kernel
theorem dX1_becomeSimplestBetween_50 : decode cX1_becomeSimplestBetween 50 = .ok (.lcmp, 1) := by decide +kernel
theorem dX1_becomeSimplestBetween_51 : decode cX1_becomeSimplestBetween 51 = .ok (.ifCond .ge 13, 3) := by decide +kernel
theorem dX1_becomeSimplestBetween_54 : decode cX1_becomeSimplestBetween 54 = .ok (.aload_n 0, 1) := by decide +kernel
theorem dX1_becomeSimplestBetween_55 : decode cX1_becomeSimplestBetween 55 = .ok (.lload 14, 2) := by decide +kernel
theorem dX1_becomeSimplestBetween_57 : decode cX1_becomeSimplestBetween 57 = .ok (.l2i, 1) := by decide +kernel
theorem dX1_becomeSimplestBetween_58 : decode cX1_becomeSimplestBetween 58 = .ok (.iconst 1, 1) := by decide +kernel
theorem dX1_becomeSimplestBetween_59 : decode cX1_becomeSimplestBetween 59 = .ok (.iadd, 1) := by decide +kernel
theorem dX1_becomeSimplestBetween_60 : decode cX1_becomeSimplestBetween 60 = .ok (.invokevirtual 19, 3) := by decide +kernel
theorem dX1_becomeSimplestBetween_63 : decode cX1_becomeSimplestBetween 63 = .ok (.return_, 1) := by decide +kernel
theorem dX1_becomeSimplestBetween_64 : decode cX1_becomeSimplestBetween 64 = .ok (.aload_n 0, 1) := by decide +kernel
theorem dX1_becomeSimplestBetween_65 : decode cX1_becomeSimplestBetween 65 = .ok (.lload 14, 2) := by decide +kernel
theorem dX1_becomeSimplestBetween_67 : decode cX1_becomeSimplestBetween 67 = .ok (.l2i, 1) := by decide +kernel
theorem dX1_becomeSimplestBetween_68 : decode cX1_becomeSimplestBetween 68 = .ok (.invokevirtual 19, 3) := by decide +kernel
theorem dX1_becomeSimplestBetween_71 : decode cX1_becomeSimplestBetween 71 = .ok (.lload 5, 2) := by decide +kernel
theorem dX1_becomeSimplestBetween_73 : decode cX1_becomeSimplestBetween 73 = .ok (.lload 14, 2) := by decide +kernel
theorem dX1_becomeSimplestBetween_75 : decode cX1_becomeSimplestBetween 75 = .ok (.lload 7, 2) := by decide +kernel
theorem dX1_becomeSimplestBetween_77 : decode cX1_becomeSimplestBetween 77 = .ok (.lmul, 1) := by decide +kernel
theorem dX1_becomeSimplestBetween_78 : decode cX1_becomeSimplestBetween 78 = .ok (.lsub, 1) := by decide +kernel
theorem dX1_becomeSimplestBetween_79 : decode cX1_becomeSimplestBetween 79 = .ok (.lstore 16, 2) := by decide +kernel
theorem dX1_becomeSimplestBetween_81 : decode cX1_becomeSimplestBetween 81 = .ok (.lload 9, 2) := by decide +kernel
theorem dX1_becomeSimplestBetween_83 : decode cX1_becomeSimplestBetween 83 = .ok (.lload 14, 2) := by decide +kernel
theorem dX1_becomeSimplestBetween_85 : decode cX1_becomeSimplestBetween 85 = .ok (.lload 11, 2) := by decide +kernel
theorem dX1_becomeSimplestBetween_87 : decode cX1_becomeSimplestBetween 87 = .ok (.lmul, 1) := by decide +kernel
theorem dX1_becomeSimplestBetween_88 : decode cX1_becomeSimplestBetween 88 = .ok (.lsub, 1) := by decide +kernel
theorem dX1_becomeSimplestBetween_89 : decode cX1_becomeSimplestBetween 89 = .ok (.lstore 18, 2) := by decide +kernel
theorem dX1_becomeSimplestBetween_91 : decode cX1_becomeSimplestBetween 91 = .ok (.lload 11, 2) := by decide +kernel
theorem dX1_becomeSimplestBetween_93 : decode cX1_becomeSimplestBetween 93 = .ok (.lstore 5, 2) := by decide +kernel
theorem dX1_becomeSimplestBetween_95 : decode cX1_becomeSimplestBetween 95 = .ok (.lload 7, 2) := by decide +kernel
theorem dX1_becomeSimplestBetween_97 : decode cX1_becomeSimplestBetween 97 = .ok (.lstore 9, 2) := by decide +kernel
theorem dX1_becomeSimplestBetween_99 : decode cX1_becomeSimplestBetween 99 = .ok (.lload 18, 2) := by decide +kernel
theorem dX1_becomeSimplestBetween_101 : decode cX1_becomeSimplestBetween 101 = .ok (.lstore 7, 2) := by decide +kernel
theorem dX1_becomeSimplestBetween_103 : decode cX1_becomeSimplestBetween 103 = .ok (.lload 16, 2) := by decide +kernel
theorem dX1_becomeSimplestBetween_105 : decode cX1_becomeSimplestBetween 105 = .ok (.lstore 11, 2) := by decide +kernel
theorem dX1_becomeSimplestBetween_107 : decode cX1_becomeSimplestBetween 107 = .ok (.iinc 13 1, 3) := by decide +kernel
theorem dX1_becomeSimplestBetween_110 : decode cX1_becomeSimplestBetween 110 = .ok (.goto (-85), 3) := by decide +kernel
theorem dX1_becomeSimplestBetween_113 : decode cX1_becomeSimplestBetween 113 = .ok (.return_, 1) := by decide +kernel
theorem dX1_append_0 : decode cX1_append 0 = .ok (.aload_n 0, 1) := by decide +kernel
theorem dX1_append_1 : decode cX1_append 1 = .ok (.getfield 15, 3) := by decide +kernel
theorem dX1_append_4 : decode cX1_append 4 = .ok (.bipush 64, 2) := by decide +kernel
theorem dX1_append_6 : decode cX1_append 6 = .ok (.if_icmp .ge 23, 3) := by decide +kernel
theorem dX1_append_9 : decode cX1_append 9 = .ok (.aload_n 0, 1) := by decide +kernel
theorem dX1_append_10 : decode cX1_append 10 = .ok (.getfield 9, 3) := by decide +kernel
theorem dX1_append_13 : decode cX1_append 13 = .ok (.aload_n 0, 1) := by decide +kernel
theorem dX1_append_14 : decode cX1_append 14 = .ok (.getfield 15, 3) := by decide +kernel
theorem dX1_append_17 : decode cX1_append 17 = .ok (.iload_n 1, 1) := by decide +kernel
theorem dX1_append_18 : decode cX1_append 18 = .ok (.iastore, 1) := by decide +kernel
theorem dX1_append_19 : decode cX1_append 19 = .ok (.aload_n 0, 1) := by decide +kernel
theorem dX1_append_20 : decode cX1_append 20 = .ok (.dup, 1) := by decide +kernel
theorem dX1_append_21 : decode cX1_append 21 = .ok (.getfield 15, 3) := by decide +kernel
theorem dX1_append_24 : decode cX1_append 24 = .ok (.iconst 1, 1) := by decide +kernel
theorem dX1_append_25 : decode cX1_append 25 = .ok (.iadd, 1) := by decide +kernel
theorem dX1_append_26 : decode cX1_append 26 = .ok (.putfield 15, 3) := by decide +kernel
theorem dX1_append_29 : decode cX1_append 29 = .ok (.return_, 1) := by decide +kernel
theorem dX1_size_0 : decode cX1_size 0 = .ok (.aload_n 0, 1) := by decide +kernel
theorem dX1_size_1 : decode cX1_size 1 = .ok (.getfield 15, 3) := by decide +kernel
theorem dX1_size_4 : decode cX1_size 4 = .ok (.ireturn, 1) := by decide +kernel
theorem dX1_at_0 : decode cX1_at 0 = .ok (.iload_n 1, 1) := by decide +kernel
theorem dX1_at_1 : decode cX1_at 1 = .ok (.ifCond .lt 20, 3) := by decide +kernel
theorem dX1_at_4 : decode cX1_at 4 = .ok (.iload_n 1, 1) := by decide +kernel
theorem dX1_at_5 : decode cX1_at 5 = .ok (.aload_n 0, 1) := by decide +kernel
theorem dX1_at_6 : decode cX1_at 6 = .ok (.getfield 15, 3) := by decide +kernel
theorem dX1_at_9 : decode cX1_at 9 = .ok (.if_icmp .ge 12, 3) := by decide +kernel
theorem dX1_at_12 : decode cX1_at 12 = .ok (.aload_n 0, 1) := by decide +kernel
theorem dX1_at_13 : decode cX1_at 13 = .ok (.getfield 9, 3) := by decide +kernel
theorem dX1_at_16 : decode cX1_at 16 = .ok (.iload_n 1, 1) := by decide +kernel
theorem dX1_at_17 : decode cX1_at 17 = .ok (.iaload, 1) := by decide +kernel
theorem dX1_at_18 : decode cX1_at 18 = .ok (.goto 4, 3) := by decide +kernel
theorem dX1_at_21 : decode cX1_at 21 = .ok (.iconst 0, 1) := by decide +kernel
theorem dX1_at_22 : decode cX1_at 22 = .ok (.ireturn, 1) := by decide +kernel
theorem dX1_greatest_0 : decode cX1_greatest 0 = .ok (.iconst 0, 1) := by decide +kernel
theorem dX1_greatest_1 : decode cX1_greatest 1 = .ok (.istore_n 1, 1) := by decide +kernel
theorem dX1_greatest_2 : decode cX1_greatest 2 = .ok (.iconst 0, 1) := by decide +kernel
theorem dX1_greatest_3 : decode cX1_greatest 3 = .ok (.istore_n 2, 1) := by decide +kernel
theorem dX1_greatest_4 : decode cX1_greatest 4 = .ok (.iload_n 2, 1) := by decide +kernel
theorem dX1_greatest_5 : decode cX1_greatest 5 = .ok (.aload_n 0, 1) := by decide +kernel
theorem dX1_greatest_6 : decode cX1_greatest 6 = .ok (.getfield 15, 3) := by decide +kernel
theorem dX1_greatest_9 : decode cX1_greatest 9 = .ok (.if_icmp .ge 26, 3) := by decide +kernel
theorem dX1_greatest_12 : decode cX1_greatest 12 = .ok (.aload_n 0, 1) := by decide +kernel
theorem dX1_greatest_13 : decode cX1_greatest 13 = .ok (.getfield 9, 3) := by decide +kernel
theorem dX1_greatest_16 : decode cX1_greatest 16 = .ok (.iload_n 2, 1) := by decide +kernel
theorem dX1_greatest_17 : decode cX1_greatest 17 = .ok (.iaload, 1) := by decide +kernel
theorem dX1_greatest_18 : decode cX1_greatest 18 = .ok (.iload_n 1, 1) := by decide +kernel
theorem dX1_greatest_19 : decode cX1_greatest 19 = .ok (.if_icmp .le 10, 3) := by decide +kernel
theorem dX1_greatest_22 : decode cX1_greatest 22 = .ok (.aload_n 0, 1) := by decide +kernel
theorem dX1_greatest_23 : decode cX1_greatest 23 = .ok (.getfield 9, 3) := by decide +kernel
theorem dX1_greatest_26 : decode cX1_greatest 26 = .ok (.iload_n 2, 1) := by decide +kernel
theorem dX1_greatest_27 : decode cX1_greatest 27 = .ok (.iaload, 1) := by decide +kernel
theorem dX1_greatest_28 : decode cX1_greatest 28 = .ok (.istore_n 1, 1) := by decide +kernel
theorem dX1_greatest_29 : decode cX1_greatest 29 = .ok (.iinc 2 1, 3) := by decide +kernel
theorem dX1_greatest_32 : decode cX1_greatest 32 = .ok (.goto (-28), 3) := by decide +kernel
theorem dX1_greatest_35 : decode cX1_greatest 35 = .ok (.iload_n 1, 1) := by decide +kernel
theorem dX1_greatest_36 : decode cX1_greatest 36 = .ok (.ireturn, 1) := by decide +kernel
set_option maxRecDepth 20000 in
theorem ggX1_runAt_X1_at : GoodIn wsX1_runAt wsX1_at := goodIn_r _ [6, 1, 7, 8, 9, 10, 11, 12, 13] (by decide +kernel) (by decide +kernel)
set_option maxRecDepth 20000 in
theorem gX1_runAt_X1_at : GoodIn wsX1_runAt (wsV RX1 27 RX1 yX1_at wsX1_at) := goodIn_app (goodIn_of _ (by decide +kernel)) ggX1_runAt_X1_at
theorem dX1_runAt_0 : decode cX1_runAt 0 = .ok (.iload_n 1, 1) := by decide +kernel
theorem dX1_runAt_1 : decode cX1_runAt 1 = .ok (.aload_n 0, 1) := by decide +kernel
theorem dX1_runAt_2 : decode cX1_runAt 2 = .ok (.getfield 15, 3) := by decide +kernel
theorem dX1_runAt_5 : decode cX1_runAt 5 = .ok (.iconst 1, 1) := by decide +kernel
theorem dX1_runAt_6 : decode cX1_runAt 6 = .ok (.isub, 1) := by decide +kernel
theorem dX1_runAt_7 : decode cX1_runAt 7 = .ok (.if_icmp .ne 13, 3) := by decide +kernel
theorem dX1_runAt_10 : decode cX1_runAt 10 = .ok (.aload_n 0, 1) := by decide +kernel
theorem dX1_runAt_11 : decode cX1_runAt 11 = .ok (.iload_n 1, 1) := by decide +kernel
theorem dX1_runAt_12 : decode cX1_runAt 12 = .ok (.invokevirtual 27, 3) := by decide +kernel
theorem dX1_runAt_15 : decode cX1_runAt 15 = .ok (.iconst 1, 1) := by decide +kernel
theorem dX1_runAt_16 : decode cX1_runAt 16 = .ok (.isub, 1) := by decide +kernel
theorem dX1_runAt_17 : decode cX1_runAt 17 = .ok (.goto 8, 3) := by decide +kernel
theorem dX1_runAt_20 : decode cX1_runAt 20 = .ok (.aload_n 0, 1) := by decide +kernel
theorem dX1_runAt_21 : decode cX1_runAt 21 = .ok (.iload_n 1, 1) := by decide +kernel
theorem dX1_runAt_22 : decode cX1_runAt 22 = .ok (.invokevirtual 27, 3) := by decide +kernel
theorem dX1_runAt_25 : decode cX1_runAt 25 = .ok (.ireturn, 1) := by decide +kernel
set_option maxRecDepth 20000 in
theorem ggX1_stepCount_X1_runAt : GoodIn wsX1_stepCount wsX1_runAt := goodIn_r _ [6, 1, 7, 8, 9, 5, 10, 11, 12, 13, 14, 15, 16, 17] (by decide +kernel) (by decide +kernel)
set_option maxRecDepth 20000 in
theorem gX1_stepCount_X1_runAt : GoodIn wsX1_stepCount (wsV RX1 31 RX1 yX1_runAt wsX1_runAt) := goodIn_app (goodIn_of _ (by decide +kernel)) ggX1_stepCount_X1_runAt
theorem dX1_stepCount_0 : decode cX1_stepCount 0 = .ok (.iconst 0, 1) := by decide +kernel
theorem dX1_stepCount_1 : decode cX1_stepCount 1 = .ok (.istore_n 1, 1) := by decide +kernel
theorem dX1_stepCount_2 : decode cX1_stepCount 2 = .ok (.iconst 0, 1) := by decide +kernel
theorem dX1_stepCount_3 : decode cX1_stepCount 3 = .ok (.istore_n 2, 1) := by decide +kernel
theorem dX1_stepCount_4 : decode cX1_stepCount 4 = .ok (.iload_n 2, 1) := by decide +kernel
theorem dX1_stepCount_5 : decode cX1_stepCount 5 = .ok (.aload_n 0, 1) := by decide +kernel
theorem dX1_stepCount_6 : decode cX1_stepCount 6 = .ok (.getfield 15, 3) := by decide +kernel
theorem dX1_stepCount_9 : decode cX1_stepCount 9 = .ok (.if_icmp .ge 17, 3) := by decide +kernel
theorem dX1_stepCount_12 : decode cX1_stepCount 12 = .ok (.iload_n 1, 1) := by decide +kernel
theorem dX1_stepCount_13 : decode cX1_stepCount 13 = .ok (.aload_n 0, 1) := by decide +kernel
theorem dX1_stepCount_14 : decode cX1_stepCount 14 = .ok (.iload_n 2, 1) := by decide +kernel
theorem dX1_stepCount_15 : decode cX1_stepCount 15 = .ok (.invokevirtual 31, 3) := by decide +kernel
theorem dX1_stepCount_18 : decode cX1_stepCount 18 = .ok (.iadd, 1) := by decide +kernel
theorem dX1_stepCount_19 : decode cX1_stepCount 19 = .ok (.istore_n 1, 1) := by decide +kernel
theorem dX1_stepCount_20 : decode cX1_stepCount 20 = .ok (.iinc 2 1, 3) := by decide +kernel
theorem dX1_stepCount_23 : decode cX1_stepCount 23 = .ok (.goto (-19), 3) := by decide +kernel
theorem dX1_stepCount_26 : decode cX1_stepCount 26 = .ok (.iload_n 1, 1) := by decide +kernel
theorem dX1_stepCount_27 : decode cX1_stepCount 27 = .ok (.ireturn, 1) := by decide +kernel
set_option maxRecDepth 20000 in
theorem ggX1_stepAt_X1_runAt : GoodIn wsX1_stepAt wsX1_runAt := goodIn_r _ [6, 1, 7, 8, 9, 5, 10, 11, 12, 13, 14, 15, 16, 17] (by decide +kernel) (by decide +kernel)
set_option maxRecDepth 20000 in
theorem gX1_stepAt_X1_runAt : GoodIn wsX1_stepAt (wsV RX1 31 RX1 yX1_runAt wsX1_runAt) := goodIn_app (goodIn_of _ (by decide +kernel)) ggX1_stepAt_X1_runAt
theorem dX1_stepAt_0 : decode cX1_stepAt 0 = .ok (.iload_n 1, 1) := by decide +kernel
theorem dX1_stepAt_1 : decode cX1_stepAt 1 = .ok (.istore_n 2, 1) := by decide +kernel
theorem dX1_stepAt_2 : decode cX1_stepAt 2 = .ok (.iconst 0, 1) := by decide +kernel
theorem dX1_stepAt_3 : decode cX1_stepAt 3 = .ok (.istore_n 3, 1) := by decide +kernel
theorem dX1_stepAt_4 : decode cX1_stepAt 4 = .ok (.iload_n 3, 1) := by decide +kernel
theorem dX1_stepAt_5 : decode cX1_stepAt 5 = .ok (.aload_n 0, 1) := by decide +kernel
theorem dX1_stepAt_6 : decode cX1_stepAt 6 = .ok (.getfield 15, 3) := by decide +kernel
theorem dX1_stepAt_9 : decode cX1_stepAt 9 = .ok (.if_icmp .ge 38, 3) := by decide +kernel
theorem dX1_stepAt_12 : decode cX1_stepAt 12 = .ok (.iload_n 2, 1) := by decide +kernel
theorem dX1_stepAt_13 : decode cX1_stepAt 13 = .ok (.aload_n 0, 1) := by decide +kernel
theorem dX1_stepAt_14 : decode cX1_stepAt 14 = .ok (.iload_n 3, 1) := by decide +kernel
theorem dX1_stepAt_15 : decode cX1_stepAt 15 = .ok (.invokevirtual 31, 3) := by decide +kernel
theorem dX1_stepAt_18 : decode cX1_stepAt 18 = .ok (.if_icmp .ge 15, 3) := by decide +kernel
theorem dX1_stepAt_21 : decode cX1_stepAt 21 = .ok (.iload_n 3, 1) := by decide +kernel
theorem dX1_stepAt_22 : decode cX1_stepAt 22 = .ok (.iconst 2, 1) := by decide +kernel
theorem dX1_stepAt_23 : decode cX1_stepAt 23 = .ok (.irem, 1) := by decide +kernel
theorem dX1_stepAt_24 : decode cX1_stepAt 24 = .ok (.ifCond .ne 7, 3) := by decide +kernel
theorem dX1_stepAt_27 : decode cX1_stepAt 27 = .ok (.iconst 1, 1) := by decide +kernel
theorem dX1_stepAt_28 : decode cX1_stepAt 28 = .ok (.goto 4, 3) := by decide +kernel
theorem dX1_stepAt_31 : decode cX1_stepAt 31 = .ok (.iconst 0, 1) := by decide +kernel
theorem dX1_stepAt_32 : decode cX1_stepAt 32 = .ok (.ireturn, 1) := by decide +kernel
theorem dX1_stepAt_33 : decode cX1_stepAt 33 = .ok (.iload_n 2, 1) := by decide +kernel
theorem dX1_stepAt_34 : decode cX1_stepAt 34 = .ok (.aload_n 0, 1) := by decide +kernel
theorem dX1_stepAt_35 : decode cX1_stepAt 35 = .ok (.iload_n 3, 1) := by decide +kernel
theorem dX1_stepAt_36 : decode cX1_stepAt 36 = .ok (.invokevirtual 31, 3) := by decide +kernel
theorem dX1_stepAt_39 : decode cX1_stepAt 39 = .ok (.isub, 1) := by decide +kernel
theorem dX1_stepAt_40 : decode cX1_stepAt 40 = .ok (.istore_n 2, 1) := by decide +kernel
theorem dX1_stepAt_41 : decode cX1_stepAt 41 = .ok (.iinc 3 1, 3) := by decide +kernel
theorem dX1_stepAt_44 : decode cX1_stepAt 44 = .ok (.goto (-40), 3) := by decide +kernel
theorem dX1_stepAt_47 : decode cX1_stepAt 47 = .ok (.bipush (-2), 2) := by decide +kernel
theorem dX1_stepAt_49 : decode cX1_stepAt 49 = .ok (.ireturn, 1) := by decide +kernel
set_option maxRecDepth 20000 in
theorem ggX1_commonSteps_X1_runAt : GoodIn wsX1_commonSteps wsX1_runAt := goodIn_r _ [6, 1, 7, 8, 9, 5, 10, 11, 12, 13, 14, 15, 16, 17] (by decide +kernel) (by decide +kernel)
set_option maxRecDepth 20000 in
theorem gX1_commonSteps_X1_runAt : GoodIn wsX1_commonSteps (wsV RX1 31 RX1 yX1_runAt wsX1_runAt) := goodIn_app (goodIn_of _ (by decide +kernel)) ggX1_commonSteps_X1_runAt
theorem dX1_commonSteps_0 : decode cX1_commonSteps 0 = .ok (.iconst 0, 1) := by decide +kernel
theorem dX1_commonSteps_1 : decode cX1_commonSteps 1 = .ok (.istore_n 2, 1) := by decide +kernel
theorem dX1_commonSteps_2 : decode cX1_commonSteps 2 = .ok (.iconst 0, 1) := by decide +kernel
theorem dX1_commonSteps_3 : decode cX1_commonSteps 3 = .ok (.istore_n 3, 1) := by decide +kernel
theorem dX1_commonSteps_4 : decode cX1_commonSteps 4 = .ok (.iload_n 3, 1) := by decide +kernel
theorem dX1_commonSteps_5 : decode cX1_commonSteps 5 = .ok (.aload_n 0, 1) := by decide +kernel
theorem dX1_commonSteps_6 : decode cX1_commonSteps 6 = .ok (.getfield 15, 3) := by decide +kernel
theorem dX1_commonSteps_9 : decode cX1_commonSteps 9 = .ok (.if_icmp .ge 57, 3) := by decide +kernel
theorem dX1_commonSteps_12 : decode cX1_commonSteps 12 = .ok (.iload_n 3, 1) := by decide +kernel
theorem dX1_commonSteps_13 : decode cX1_commonSteps 13 = .ok (.aload_n 1, 1) := by decide +kernel
theorem dX1_commonSteps_14 : decode cX1_commonSteps 14 = .ok (.getfield 15, 3) := by decide +kernel
theorem dX1_commonSteps_17 : decode cX1_commonSteps 17 = .ok (.if_icmp .ge 49, 3) := by decide +kernel
theorem dX1_commonSteps_20 : decode cX1_commonSteps 20 = .ok (.aload_n 0, 1) := by decide +kernel
theorem dX1_commonSteps_21 : decode cX1_commonSteps 21 = .ok (.iload_n 3, 1) := by decide +kernel
theorem dX1_commonSteps_22 : decode cX1_commonSteps 22 = .ok (.invokevirtual 31, 3) := by decide +kernel
theorem dX1_commonSteps_25 : decode cX1_commonSteps 25 = .ok (.istore 4, 2) := by decide +kernel
theorem dX1_commonSteps_27 : decode cX1_commonSteps 27 = .ok (.aload_n 1, 1) := by decide +kernel
theorem dX1_commonSteps_28 : decode cX1_commonSteps 28 = .ok (.iload_n 3, 1) := by decide +kernel
theorem dX1_commonSteps_29 : decode cX1_commonSteps 29 = .ok (.invokevirtual 31, 3) := by decide +kernel
theorem dX1_commonSteps_32 : decode cX1_commonSteps 32 = .ok (.istore 5, 2) := by decide +kernel
theorem dX1_commonSteps_34 : decode cX1_commonSteps 34 = .ok (.iload_n 2, 1) := by decide +kernel
theorem dX1_commonSteps_35 : decode cX1_commonSteps 35 = .ok (.iload 4, 2) := by decide +kernel
theorem dX1_commonSteps_37 : decode cX1_commonSteps 37 = .ok (.iload 5, 2) := by decide +kernel
theorem dX1_commonSteps_39 : decode cX1_commonSteps 39 = .ok (.if_icmp .ge 8, 3) := by decide +kernel
theorem dX1_commonSteps_42 : decode cX1_commonSteps 42 = .ok (.iload 4, 2) := by decide +kernel
theorem dX1_commonSteps_44 : decode cX1_commonSteps 44 = .ok (.goto 5, 3) := by decide +kernel
theorem dX1_commonSteps_47 : decode cX1_commonSteps 47 = .ok (.iload 5, 2) := by decide +kernel
theorem dX1_commonSteps_49 : decode cX1_commonSteps 49 = .ok (.iadd, 1) := by decide +kernel
theorem dX1_commonSteps_50 : decode cX1_commonSteps 50 = .ok (.istore_n 2, 1) := by decide +kernel
theorem dX1_commonSteps_51 : decode cX1_commonSteps 51 = .ok (.iload 4, 2) := by decide +kernel
theorem dX1_commonSteps_53 : decode cX1_commonSteps 53 = .ok (.iload 5, 2) := by decide +kernel
theorem dX1_commonSteps_55 : decode cX1_commonSteps 55 = .ok (.if_icmp .eq 5, 3) := by decide +kernel
theorem dX1_commonSteps_58 : decode cX1_commonSteps 58 = .ok (.iload_n 2, 1) := by decide +kernel
theorem dX1_commonSteps_59 : decode cX1_commonSteps 59 = .ok (.ireturn, 1) := by decide +kernel
theorem dX1_commonSteps_60 : decode cX1_commonSteps 60 = .ok (.iinc 3 1, 3) := by decide +kernel
theorem dX1_commonSteps_63 : decode cX1_commonSteps 63 = .ok (.goto (-59), 3) := by decide +kernel
theorem dX1_commonSteps_66 : decode cX1_commonSteps 66 = .ok (.iload_n 2, 1) := by decide +kernel
theorem dX1_commonSteps_67 : decode cX1_commonSteps 67 = .ok (.ireturn, 1) := by decide +kernel
set_option maxRecDepth 20000 in
theorem ggX1_cutToDepth_X1_runAt : GoodIn wsX1_cutToDepth wsX1_runAt := goodIn_r _ [7, 1, 8, 9, 10, 6, 11, 2, 12, 13, 14, 15, 16, 17] (by decide +kernel) (by decide +kernel)
set_option maxRecDepth 20000 in
theorem gX1_cutToDepth_X1_runAt : GoodIn wsX1_cutToDepth (wsV RX1 31 RX1 yX1_runAt wsX1_runAt) := goodIn_app (goodIn_of _ (by decide +kernel)) ggX1_cutToDepth_X1_runAt
theorem dX1_cutToDepth_0 : decode cX1_cutToDepth 0 = .ok (.iload_n 1, 1) := by decide +kernel
theorem dX1_cutToDepth_1 : decode cX1_cutToDepth 1 = .ok (.istore_n 2, 1) := by decide +kernel
theorem dX1_cutToDepth_2 : decode cX1_cutToDepth 2 = .ok (.iconst 0, 1) := by decide +kernel
theorem dX1_cutToDepth_3 : decode cX1_cutToDepth 3 = .ok (.istore_n 3, 1) := by decide +kernel
theorem dX1_cutToDepth_4 : decode cX1_cutToDepth 4 = .ok (.iload_n 3, 1) := by decide +kernel
theorem dX1_cutToDepth_5 : decode cX1_cutToDepth 5 = .ok (.aload_n 0, 1) := by decide +kernel
theorem dX1_cutToDepth_6 : decode cX1_cutToDepth 6 = .ok (.getfield 15, 3) := by decide +kernel
theorem dX1_cutToDepth_9 : decode cX1_cutToDepth 9 = .ok (.if_icmp .ge 44, 3) := by decide +kernel
theorem dX1_cutToDepth_12 : decode cX1_cutToDepth 12 = .ok (.aload_n 0, 1) := by decide +kernel
theorem dX1_cutToDepth_13 : decode cX1_cutToDepth 13 = .ok (.iload_n 3, 1) := by decide +kernel
theorem dX1_cutToDepth_14 : decode cX1_cutToDepth 14 = .ok (.invokevirtual 31, 3) := by decide +kernel
theorem dX1_cutToDepth_17 : decode cX1_cutToDepth 17 = .ok (.istore 4, 2) := by decide +kernel
theorem dX1_cutToDepth_19 : decode cX1_cutToDepth 19 = .ok (.iload_n 2, 1) := by decide +kernel
theorem dX1_cutToDepth_20 : decode cX1_cutToDepth 20 = .ok (.iload 4, 2) := by decide +kernel
theorem dX1_cutToDepth_22 : decode cX1_cutToDepth 22 = .ok (.if_icmp .gt 20, 3) := by decide +kernel
theorem dX1_cutToDepth_25 : decode cX1_cutToDepth 25 = .ok (.aload_n 0, 1) := by decide +kernel
theorem dX1_cutToDepth_26 : decode cX1_cutToDepth 26 = .ok (.getfield 9, 3) := by decide +kernel
theorem dX1_cutToDepth_29 : decode cX1_cutToDepth 29 = .ok (.iload_n 3, 1) := by decide +kernel
theorem dX1_cutToDepth_30 : decode cX1_cutToDepth 30 = .ok (.iload_n 2, 1) := by decide +kernel
theorem dX1_cutToDepth_31 : decode cX1_cutToDepth 31 = .ok (.iconst 1, 1) := by decide +kernel
theorem dX1_cutToDepth_32 : decode cX1_cutToDepth 32 = .ok (.iadd, 1) := by decide +kernel
theorem dX1_cutToDepth_33 : decode cX1_cutToDepth 33 = .ok (.iastore, 1) := by decide +kernel
theorem dX1_cutToDepth_34 : decode cX1_cutToDepth 34 = .ok (.aload_n 0, 1) := by decide +kernel
theorem dX1_cutToDepth_35 : decode cX1_cutToDepth 35 = .ok (.iload_n 3, 1) := by decide +kernel
theorem dX1_cutToDepth_36 : decode cX1_cutToDepth 36 = .ok (.iconst 1, 1) := by decide +kernel
theorem dX1_cutToDepth_37 : decode cX1_cutToDepth 37 = .ok (.iadd, 1) := by decide +kernel
theorem dX1_cutToDepth_38 : decode cX1_cutToDepth 38 = .ok (.putfield 15, 3) := by decide +kernel
theorem dX1_cutToDepth_41 : decode cX1_cutToDepth 41 = .ok (.return_, 1) := by decide +kernel
theorem dX1_cutToDepth_42 : decode cX1_cutToDepth 42 = .ok (.iload_n 2, 1) := by decide +kernel
theorem dX1_cutToDepth_43 : decode cX1_cutToDepth 43 = .ok (.iload 4, 2) := by decide +kernel
theorem dX1_cutToDepth_45 : decode cX1_cutToDepth 45 = .ok (.isub, 1) := by decide +kernel
theorem dX1_cutToDepth_46 : decode cX1_cutToDepth 46 = .ok (.istore_n 2, 1) := by decide +kernel
theorem dX1_cutToDepth_47 : decode cX1_cutToDepth 47 = .ok (.iinc 3 1, 3) := by decide +kernel
theorem dX1_cutToDepth_50 : decode cX1_cutToDepth 50 = .ok (.goto (-46), 3) := by decide +kernel
theorem dX1_cutToDepth_53 : decode cX1_cutToDepth 53 = .ok (.return_, 1) := by decide +kernel
set_option maxRecDepth 20000 in
theorem ggX1_convergentTop_X1_lastByRule : GoodIn wsX1_convergentTop wsX1_lastByRule := goodIn_r _ [5, 6, 7, 8, 9, 10, 11, 12, 13] (by decide +kernel) (by decide +kernel)
set_option maxRecDepth 20000 in
theorem gX1_convergentTop_X1_lastByRule : GoodIn wsX1_convergentTop (wsV RX1 34 RX1 yX1_lastByRule wsX1_lastByRule) := goodIn_app (goodIn_of _ (by decide +kernel)) ggX1_convergentTop_X1_lastByRule
theorem dX1_convergentTop_0 : decode cX1_convergentTop 0 = .ok (.aload_n 0, 1) := by decide +kernel
theorem dX1_convergentTop_1 : decode cX1_convergentTop 1 = .ok (.iload_n 1, 1) := by decide +kernel
theorem dX1_convergentTop_2 : decode cX1_convergentTop 2 = .ok (.lconst 0, 1) := by decide +kernel
theorem dX1_convergentTop_3 : decode cX1_convergentTop 3 = .ok (.lconst 1, 1) := by decide +kernel
theorem dX1_convergentTop_4 : decode cX1_convergentTop 4 = .ok (.invokevirtual 34, 3) := by decide +kernel
theorem dX1_convergentTop_7 : decode cX1_convergentTop 7 = .ok (.lreturn, 1) := by decide +kernel
set_option maxRecDepth 20000 in
theorem ggX1_convergentBottom_X1_lastByRule : GoodIn wsX1_convergentBottom wsX1_lastByRule := goodIn_r _ [5, 6, 7, 8, 9, 10, 11, 12, 13] (by decide +kernel) (by decide +kernel)
set_option maxRecDepth 20000 in
theorem gX1_convergentBottom_X1_lastByRule : GoodIn wsX1_convergentBottom (wsV RX1 34 RX1 yX1_lastByRule wsX1_lastByRule) := goodIn_app (goodIn_of _ (by decide +kernel)) ggX1_convergentBottom_X1_lastByRule
theorem dX1_convergentBottom_0 : decode cX1_convergentBottom 0 = .ok (.aload_n 0, 1) := by decide +kernel
theorem dX1_convergentBottom_1 : decode cX1_convergentBottom 1 = .ok (.iload_n 1, 1) := by decide +kernel
theorem dX1_convergentBottom_2 : decode cX1_convergentBottom 2 = .ok (.lconst 1, 1) := by decide +kernel
theorem dX1_convergentBottom_3 : decode cX1_convergentBottom 3 = .ok (.lconst 0, 1) := by decide +kernel
theorem dX1_convergentBottom_4 : decode cX1_convergentBottom 4 = .ok (.invokevirtual 34, 3) := by decide +kernel
theorem dX1_convergentBottom_7 : decode cX1_convergentBottom 7 = .ok (.lreturn, 1) := by decide +kernel
theorem dX1_lastByRule_0 : decode cX1_lastByRule 0 = .ok (.iload_n 1, 1) := by decide +kernel
theorem dX1_lastByRule_1 : decode cX1_lastByRule 1 = .ok (.iconst (-1), 1) := by decide +kernel
theorem dX1_lastByRule_2 : decode cX1_lastByRule 2 = .ok (.if_icmp .ge 5, 3) := by decide +kernel
theorem dX1_lastByRule_5 : decode cX1_lastByRule 5 = .ok (.lload_n 2, 1) := by decide +kernel
theorem dX1_lastByRule_6 : decode cX1_lastByRule 6 = .ok (.lreturn, 1) := by decide +kernel
theorem dX1_lastByRule_7 : decode cX1_lastByRule 7 = .ok (.lload_n 2, 1) := by decide +kernel
theorem dX1_lastByRule_8 : decode cX1_lastByRule 8 = .ok (.lstore 6, 2) := by decide +kernel
theorem dX1_lastByRule_10 : decode cX1_lastByRule 10 = .ok (.lload 4, 2) := by decide +kernel
theorem dX1_lastByRule_12 : decode cX1_lastByRule 12 = .ok (.lstore 8, 2) := by decide +kernel
theorem dX1_lastByRule_14 : decode cX1_lastByRule 14 = .ok (.iconst 0, 1) := by decide +kernel
theorem dX1_lastByRule_15 : decode cX1_lastByRule 15 = .ok (.istore 10, 2) := by decide +kernel
theorem dX1_lastByRule_17 : decode cX1_lastByRule 17 = .ok (.iload 10, 2) := by decide +kernel
theorem dX1_lastByRule_19 : decode cX1_lastByRule 19 = .ok (.iload_n 1, 1) := by decide +kernel
theorem dX1_lastByRule_20 : decode cX1_lastByRule 20 = .ok (.if_icmp .gt 42, 3) := by decide +kernel
theorem dX1_lastByRule_23 : decode cX1_lastByRule 23 = .ok (.iload 10, 2) := by decide +kernel
theorem dX1_lastByRule_25 : decode cX1_lastByRule 25 = .ok (.aload_n 0, 1) := by decide +kernel
theorem dX1_lastByRule_26 : decode cX1_lastByRule 26 = .ok (.getfield 15, 3) := by decide +kernel
theorem dX1_lastByRule_29 : decode cX1_lastByRule 29 = .ok (.if_icmp .ge 33, 3) := by decide +kernel
theorem dX1_lastByRule_32 : decode cX1_lastByRule 32 = .ok (.aload_n 0, 1) := by decide +kernel
theorem dX1_lastByRule_33 : decode cX1_lastByRule 33 = .ok (.getfield 9, 3) := by decide +kernel
theorem dX1_lastByRule_36 : decode cX1_lastByRule 36 = .ok (.iload 10, 2) := by decide +kernel
theorem dX1_lastByRule_38 : decode cX1_lastByRule 38 = .ok (.iaload, 1) := by decide +kernel
theorem dX1_lastByRule_39 : decode cX1_lastByRule 39 = .ok (.i2l, 1) := by decide +kernel
theorem dX1_lastByRule_40 : decode cX1_lastByRule 40 = .ok (.lload 8, 2) := by decide +kernel
theorem dX1_lastByRule_42 : decode cX1_lastByRule 42 = .ok (.lmul, 1) := by decide +kernel
theorem dX1_lastByRule_43 : decode cX1_lastByRule 43 = .ok (.lload 6, 2) := by decide +kernel
theorem dX1_lastByRule_45 : decode cX1_lastByRule 45 = .ok (.ladd, 1) := by decide +kernel
theorem dX1_lastByRule_46 : decode cX1_lastByRule 46 = .ok (.lstore 11, 2) := by decide +kernel
theorem dX1_lastByRule_48 : decode cX1_lastByRule 48 = .ok (.lload 8, 2) := by decide +kernel
theorem dX1_lastByRule_50 : decode cX1_lastByRule 50 = .ok (.lstore 6, 2) := by decide +kernel
theorem dX1_lastByRule_52 : decode cX1_lastByRule 52 = .ok (.lload 11, 2) := by decide +kernel
theorem dX1_lastByRule_54 : decode cX1_lastByRule 54 = .ok (.lstore 8, 2) := by decide +kernel
theorem dX1_lastByRule_56 : decode cX1_lastByRule 56 = .ok (.iinc 10 1, 3) := by decide +kernel
theorem dX1_lastByRule_59 : decode cX1_lastByRule 59 = .ok (.goto (-42), 3) := by decide +kernel
theorem dX1_lastByRule_62 : decode cX1_lastByRule 62 = .ok (.lload 8, 2) := by decide +kernel
theorem dX1_lastByRule_64 : decode cX1_lastByRule 64 = .ok (.lreturn, 1) := by decide +kernel
set_option maxRecDepth 20000 in
theorem ggX1_findBounds_X1_at : GoodIn wsX1_findBounds wsX1_at := goodIn_r _ [6, 1, 7, 28, 29, 30, 31, 32, 33] (by decide +kernel) (by decide +kernel)
set_option maxRecDepth 20000 in
theorem gX1_findBounds_X1_at : GoodIn wsX1_findBounds (wsV RX1 27 RX1 yX1_at wsX1_at) := goodIn_app (goodIn_of _ (by decide +kernel)) ggX1_findBounds_X1_at
set_option maxRecDepth 20000 in
theorem ggX1_findBounds_X1_surround : GoodIn wsX1_findBounds wsX1_surround := goodIn_r _ [11, 12, 13, 14, 15, 16, 17, 18, 5, 19, 20, 21, 22, 23, 1, 7, 24, 25, 26, 27, 28, 29, 30, 31, 32, 33] (by decide +kernel) (by decide +kernel)
set_option maxRecDepth 20000 in
theorem gX1_findBounds_X1_surround : GoodIn wsX1_findBounds (wsV RX1 38 RX1 yX1_surround wsX1_surround) := goodIn_app (goodIn_of _ (by decide +kernel)) ggX1_findBounds_X1_surround
theorem dX1_findBounds_0 : decode cX1_findBounds 0 = .ok (.aload_n 0, 1) := by decide +kernel
theorem dX1_findBounds_1 : decode cX1_findBounds 1 = .ok (.aload_n 0, 1) := by decide +kernel
theorem dX1_findBounds_2 : decode cX1_findBounds 2 = .ok (.getfield 15, 3) := by decide +kernel
theorem dX1_findBounds_5 : decode cX1_findBounds 5 = .ok (.iconst 2, 1) := by decide +kernel
theorem dX1_findBounds_6 : decode cX1_findBounds 6 = .ok (.isub, 1) := by decide +kernel
theorem dX1_findBounds_7 : decode cX1_findBounds 7 = .ok (.aload_n 0, 1) := by decide +kernel
theorem dX1_findBounds_8 : decode cX1_findBounds 8 = .ok (.aload_n 0, 1) := by decide +kernel
theorem dX1_findBounds_9 : decode cX1_findBounds 9 = .ok (.getfield 15, 3) := by decide +kernel
theorem dX1_findBounds_12 : decode cX1_findBounds 12 = .ok (.iconst 1, 1) := by decide +kernel
theorem dX1_findBounds_13 : decode cX1_findBounds 13 = .ok (.isub, 1) := by decide +kernel
theorem dX1_findBounds_14 : decode cX1_findBounds 14 = .ok (.invokevirtual 27, 3) := by decide +kernel
theorem dX1_findBounds_17 : decode cX1_findBounds 17 = .ok (.iconst 1, 1) := by decide +kernel
theorem dX1_findBounds_18 : decode cX1_findBounds 18 = .ok (.isub, 1) := by decide +kernel
theorem dX1_findBounds_19 : decode cX1_findBounds 19 = .ok (.i2l, 1) := by decide +kernel
theorem dX1_findBounds_20 : decode cX1_findBounds 20 = .ok (.invokevirtual 38, 3) := by decide +kernel
theorem dX1_findBounds_23 : decode cX1_findBounds 23 = .ok (.return_, 1) := by decide +kernel
set_option maxRecDepth 20000 in
theorem ggX1_findNeighbours_X1_convergentBottom : GoodIn wsX1_findNeighbours wsX1_convergentBottom := goodIn_r _ [6, 7, 8, 9, 5, 10, 1, 11, 27, 28, 29, 30, 31, 32] (by decide +kernel) (by decide +kernel)
set_option maxRecDepth 20000 in
theorem gX1_findNeighbours_X1_convergentBottom : GoodIn wsX1_findNeighbours (wsV RX1 42 RX1 yX1_convergentBottom wsX1_convergentBottom) := goodIn_app (goodIn_of _ (by decide +kernel)) ggX1_findNeighbours_X1_convergentBottom
set_option maxRecDepth 20000 in
theorem ggX1_findNeighbours_X7_quotient : GoodIn wsX1_findNeighbours wsX7_quotient := goodIn_r _ [14] (by decide +kernel) (by decide +kernel)
set_option maxRecDepth 20000 in
theorem gX1_findNeighbours_X7_quotient_n23 : GoodIn wsX1_findNeighbours (wsX7_quotient) := ggX1_findNeighbours_X7_quotient
set_option maxRecDepth 20000 in
theorem ggX1_findNeighbours_X1_surround : GoodIn wsX1_findNeighbours wsX1_surround := goodIn_r _ [18, 19, 20, 21, 22, 23, 24, 25, 5, 26, 7, 8, 9, 10, 1, 11, 2, 3, 4, 6, 27, 28, 29, 30, 31, 32] (by decide +kernel) (by decide +kernel)
set_option maxRecDepth 20000 in
theorem gX1_findNeighbours_X1_surround : GoodIn wsX1_findNeighbours (wsV RX1 38 RX1 yX1_surround wsX1_surround) := goodIn_app (goodIn_of _ (by decide +kernel)) ggX1_findNeighbours_X1_surround
theorem dX1_findNeighbours_0 : decode cX1_findNeighbours 0 = .ok (.iconst 0, 1) := by decide +kernel
theorem dX1_findNeighbours_1 : decode cX1_findNeighbours 1 = .ok (.istore_n 2, 1) := by decide +kernel
theorem dX1_findNeighbours_2 : decode cX1_findNeighbours 2 = .ok (.iconst 1, 1) := by decide +kernel
theorem dX1_findNeighbours_3 : decode cX1_findNeighbours 3 = .ok (.istore_n 3, 1) := by decide +kernel
theorem dX1_findNeighbours_4 : decode cX1_findNeighbours 4 = .ok (.iload_n 3, 1) := by decide +kernel
theorem dX1_findNeighbours_5 : decode cX1_findNeighbours 5 = .ok (.aload_n 0, 1) := by decide +kernel
theorem dX1_findNeighbours_6 : decode cX1_findNeighbours 6 = .ok (.getfield 15, 3) := by decide +kernel
theorem dX1_findNeighbours_9 : decode cX1_findNeighbours 9 = .ok (.if_icmp .ge 22, 3) := by decide +kernel
theorem dX1_findNeighbours_12 : decode cX1_findNeighbours 12 = .ok (.aload_n 0, 1) := by decide +kernel
theorem dX1_findNeighbours_13 : decode cX1_findNeighbours 13 = .ok (.iload_n 3, 1) := by decide +kernel
theorem dX1_findNeighbours_14 : decode cX1_findNeighbours 14 = .ok (.invokevirtual 42, 3) := by decide +kernel
theorem dX1_findNeighbours_17 : decode cX1_findNeighbours 17 = .ok (.iload_n 1, 1) := by decide +kernel
theorem dX1_findNeighbours_18 : decode cX1_findNeighbours 18 = .ok (.i2l, 1) := by decide +kernel
theorem dX1_findNeighbours_19 : decode cX1_findNeighbours 19 = .ok (.lcmp, 1) := by decide +kernel
theorem dX1_findNeighbours_20 : decode cX1_findNeighbours 20 = .ok (.ifCond .gt 11, 3) := by decide +kernel
theorem dX1_findNeighbours_23 : decode cX1_findNeighbours 23 = .ok (.iload_n 3, 1) := by decide +kernel
theorem dX1_findNeighbours_24 : decode cX1_findNeighbours 24 = .ok (.istore_n 2, 1) := by decide +kernel
theorem dX1_findNeighbours_25 : decode cX1_findNeighbours 25 = .ok (.iinc 3 1, 3) := by decide +kernel
theorem dX1_findNeighbours_28 : decode cX1_findNeighbours 28 = .ok (.goto (-24), 3) := by decide +kernel
theorem dX1_findNeighbours_31 : decode cX1_findNeighbours 31 = .ok (.aload_n 0, 1) := by decide +kernel
theorem dX1_findNeighbours_32 : decode cX1_findNeighbours 32 = .ok (.iload_n 2, 1) := by decide +kernel
theorem dX1_findNeighbours_33 : decode cX1_findNeighbours 33 = .ok (.iload_n 1, 1) := by decide +kernel
theorem dX1_findNeighbours_34 : decode cX1_findNeighbours 34 = .ok (.i2l, 1) := by decide +kernel
theorem dX1_findNeighbours_35 : decode cX1_findNeighbours 35 = .ok (.aload_n 0, 1) := by decide +kernel
theorem dX1_findNeighbours_36 : decode cX1_findNeighbours 36 = .ok (.iload_n 2, 1) := by decide +kernel
theorem dX1_findNeighbours_37 : decode cX1_findNeighbours 37 = .ok (.iconst 1, 1) := by decide +kernel
theorem dX1_findNeighbours_38 : decode cX1_findNeighbours 38 = .ok (.isub, 1) := by decide +kernel
theorem dX1_findNeighbours_39 : decode cX1_findNeighbours 39 = .ok (.invokevirtual 42, 3) := by decide +kernel
theorem dX1_findNeighbours_42 : decode cX1_findNeighbours 42 = .ok (.lsub, 1) := by decide +kernel
theorem dX1_findNeighbours_43 : decode cX1_findNeighbours 43 = .ok (.aload_n 0, 1) := by decide +kernel
theorem dX1_findNeighbours_44 : decode cX1_findNeighbours 44 = .ok (.iload_n 2, 1) := by decide +kernel
theorem dX1_findNeighbours_45 : decode cX1_findNeighbours 45 = .ok (.invokevirtual 42, 3) := by decide +kernel
theorem dX1_findNeighbours_48 : decode cX1_findNeighbours 48 = .ok (.invokestatic 23, 3) := by decide +kernel
theorem dX1_findNeighbours_51 : decode cX1_findNeighbours 51 = .ok (.invokevirtual 38, 3) := by decide +kernel
theorem dX1_findNeighbours_54 : decode cX1_findNeighbours 54 = .ok (.return_, 1) := by decide +kernel
set_option maxRecDepth 20000 in
theorem ggX1_surround_X1_convergentTop : GoodIn wsX1_surround wsX1_convergentTop := goodIn_r _ [9, 10, 11, 12, 8, 13, 14, 15, 20, 21, 22, 23, 24, 25] (by decide +kernel) (by decide +kernel)
set_option maxRecDepth 20000 in
theorem gX1_surround_X1_convergentTop : GoodIn wsX1_surround (wsV RX1 46 RX1 yX1_convergentTop wsX1_convergentTop) := goodIn_app (goodIn_of _ (by decide +kernel)) ggX1_surround_X1_convergentTop
set_option maxRecDepth 20000 in
theorem ggX1_surround_X1_convergentBottom : GoodIn wsX1_surround wsX1_convergentBottom := goodIn_r _ [19, 10, 11, 12, 8, 13, 14, 15, 20, 21, 22, 23, 24, 25] (by decide +kernel) (by decide +kernel)
set_option maxRecDepth 20000 in
theorem gX1_surround_X1_convergentBottom : GoodIn wsX1_surround (wsV RX1 42 RX1 yX1_convergentBottom wsX1_convergentBottom) := goodIn_app (goodIn_of _ (by decide +kernel)) ggX1_surround_X1_convergentBottom
theorem dX1_surround_0 : decode cX1_surround 0 = .ok (.aload_n 0, 1) := by decide +kernel
theorem dX1_surround_1 : decode cX1_surround 1 = .ok (.iload_n 1, 1) := by decide +kernel
theorem dX1_surround_2 : decode cX1_surround 2 = .ok (.invokevirtual 46, 3) := by decide +kernel
theorem dX1_surround_5 : decode cX1_surround 5 = .ok (.lstore 4, 2) := by decide +kernel
theorem dX1_surround_7 : decode cX1_surround 7 = .ok (.aload_n 0, 1) := by decide +kernel
theorem dX1_surround_8 : decode cX1_surround 8 = .ok (.iload_n 1, 1) := by decide +kernel
theorem dX1_surround_9 : decode cX1_surround 9 = .ok (.invokevirtual 42, 3) := by decide +kernel
theorem dX1_surround_12 : decode cX1_surround 12 = .ok (.lstore 6, 2) := by decide +kernel
theorem dX1_surround_14 : decode cX1_surround 14 = .ok (.aload_n 0, 1) := by decide +kernel
theorem dX1_surround_15 : decode cX1_surround 15 = .ok (.iload_n 1, 1) := by decide +kernel
theorem dX1_surround_16 : decode cX1_surround 16 = .ok (.iconst 1, 1) := by decide +kernel
theorem dX1_surround_17 : decode cX1_surround 17 = .ok (.isub, 1) := by decide +kernel
theorem dX1_surround_18 : decode cX1_surround 18 = .ok (.invokevirtual 46, 3) := by decide +kernel
theorem dX1_surround_21 : decode cX1_surround 21 = .ok (.lload_n 2, 1) := by decide +kernel
theorem dX1_surround_22 : decode cX1_surround 22 = .ok (.lload 4, 2) := by decide +kernel
theorem dX1_surround_24 : decode cX1_surround 24 = .ok (.lmul, 1) := by decide +kernel
theorem dX1_surround_25 : decode cX1_surround 25 = .ok (.ladd, 1) := by decide +kernel
theorem dX1_surround_26 : decode cX1_surround 26 = .ok (.lstore 8, 2) := by decide +kernel
theorem dX1_surround_28 : decode cX1_surround 28 = .ok (.aload_n 0, 1) := by decide +kernel
theorem dX1_surround_29 : decode cX1_surround 29 = .ok (.iload_n 1, 1) := by decide +kernel
theorem dX1_surround_30 : decode cX1_surround 30 = .ok (.iconst 1, 1) := by decide +kernel
theorem dX1_surround_31 : decode cX1_surround 31 = .ok (.isub, 1) := by decide +kernel
theorem dX1_surround_32 : decode cX1_surround 32 = .ok (.invokevirtual 42, 3) := by decide +kernel
theorem dX1_surround_35 : decode cX1_surround 35 = .ok (.lload_n 2, 1) := by decide +kernel
theorem dX1_surround_36 : decode cX1_surround 36 = .ok (.lload 6, 2) := by decide +kernel
theorem dX1_surround_38 : decode cX1_surround 38 = .ok (.lmul, 1) := by decide +kernel
theorem dX1_surround_39 : decode cX1_surround 39 = .ok (.ladd, 1) := by decide +kernel
theorem dX1_surround_40 : decode cX1_surround 40 = .ok (.lstore 10, 2) := by decide +kernel
theorem dX1_surround_42 : decode cX1_surround 42 = .ok (.iload_n 1, 1) := by decide +kernel
theorem dX1_surround_43 : decode cX1_surround 43 = .ok (.iconst 2, 1) := by decide +kernel
theorem dX1_surround_44 : decode cX1_surround 44 = .ok (.irem, 1) := by decide +kernel
theorem dX1_surround_45 : decode cX1_surround 45 = .ok (.ifCond .ne 7, 3) := by decide +kernel
theorem dX1_surround_48 : decode cX1_surround 48 = .ok (.iconst 1, 1) := by decide +kernel
theorem dX1_surround_49 : decode cX1_surround 49 = .ok (.goto 4, 3) := by decide +kernel
theorem dX1_surround_52 : decode cX1_surround 52 = .ok (.iconst 0, 1) := by decide +kernel
theorem dX1_surround_53 : decode cX1_surround 53 = .ok (.istore 12, 2) := by decide +kernel
theorem dX1_surround_55 : decode cX1_surround 55 = .ok (.aload_n 0, 1) := by decide +kernel
theorem dX1_surround_56 : decode cX1_surround 56 = .ok (.iload 12, 2) := by decide +kernel
theorem dX1_surround_58 : decode cX1_surround 58 = .ok (.ifCond .eq 8, 3) := by decide +kernel
theorem dX1_surround_61 : decode cX1_surround 61 = .ok (.lload 4, 2) := by decide +kernel
theorem dX1_surround_63 : decode cX1_surround 63 = .ok (.goto 5, 3) := by decide +kernel
theorem dX1_surround_66 : decode cX1_surround 66 = .ok (.lload 8, 2) := by decide +kernel
theorem dX1_surround_68 : decode cX1_surround 68 = .ok (.putfield 49, 3) := by decide +kernel
theorem dX1_surround_71 : decode cX1_surround 71 = .ok (.aload_n 0, 1) := by decide +kernel
theorem dX1_surround_72 : decode cX1_surround 72 = .ok (.iload 12, 2) := by decide +kernel
theorem dX1_surround_74 : decode cX1_surround 74 = .ok (.ifCond .eq 8, 3) := by decide +kernel
theorem dX1_surround_77 : decode cX1_surround 77 = .ok (.lload 6, 2) := by decide +kernel
theorem dX1_surround_79 : decode cX1_surround 79 = .ok (.goto 5, 3) := by decide +kernel
theorem dX1_surround_82 : decode cX1_surround 82 = .ok (.lload 10, 2) := by decide +kernel
theorem dX1_surround_84 : decode cX1_surround 84 = .ok (.putfield 53, 3) := by decide +kernel
theorem dX1_surround_87 : decode cX1_surround 87 = .ok (.aload_n 0, 1) := by decide +kernel
theorem dX1_surround_88 : decode cX1_surround 88 = .ok (.iload 12, 2) := by decide +kernel
theorem dX1_surround_90 : decode cX1_surround 90 = .ok (.ifCond .eq 8, 3) := by decide +kernel
theorem dX1_surround_93 : decode cX1_surround 93 = .ok (.lload 8, 2) := by decide +kernel
theorem dX1_surround_95 : decode cX1_surround 95 = .ok (.goto 5, 3) := by decide +kernel
theorem dX1_surround_98 : decode cX1_surround 98 = .ok (.lload 4, 2) := by decide +kernel
theorem dX1_surround_100 : decode cX1_surround 100 = .ok (.putfield 56, 3) := by decide +kernel
theorem dX1_surround_103 : decode cX1_surround 103 = .ok (.aload_n 0, 1) := by decide +kernel
theorem dX1_surround_104 : decode cX1_surround 104 = .ok (.iload 12, 2) := by decide +kernel
theorem dX1_surround_106 : decode cX1_surround 106 = .ok (.ifCond .eq 8, 3) := by decide +kernel
theorem dX1_surround_109 : decode cX1_surround 109 = .ok (.lload 10, 2) := by decide +kernel
theorem dX1_surround_111 : decode cX1_surround 111 = .ok (.goto 5, 3) := by decide +kernel
theorem dX1_surround_114 : decode cX1_surround 114 = .ok (.lload 6, 2) := by decide +kernel
theorem dX1_surround_116 : decode cX1_surround 116 = .ok (.putfield 59, 3) := by decide +kernel
theorem dX1_surround_119 : decode cX1_surround 119 = .ok (.return_, 1) := by decide +kernel
theorem dX1_boundTop_0 : decode cX1_boundTop 0 = .ok (.iload_n 1, 1) := by decide +kernel
theorem dX1_boundTop_1 : decode cX1_boundTop 1 = .ok (.ifCond .ne 10, 3) := by decide +kernel
theorem dX1_boundTop_4 : decode cX1_boundTop 4 = .ok (.aload_n 0, 1) := by decide +kernel
theorem dX1_boundTop_5 : decode cX1_boundTop 5 = .ok (.getfield 49, 3) := by decide +kernel
theorem dX1_boundTop_8 : decode cX1_boundTop 8 = .ok (.goto 7, 3) := by decide +kernel
theorem dX1_boundTop_11 : decode cX1_boundTop 11 = .ok (.aload_n 0, 1) := by decide +kernel
theorem dX1_boundTop_12 : decode cX1_boundTop 12 = .ok (.getfield 56, 3) := by decide +kernel
theorem dX1_boundTop_15 : decode cX1_boundTop 15 = .ok (.lreturn, 1) := by decide +kernel
theorem dX1_boundBottom_0 : decode cX1_boundBottom 0 = .ok (.iload_n 1, 1) := by decide +kernel
theorem dX1_boundBottom_1 : decode cX1_boundBottom 1 = .ok (.ifCond .ne 10, 3) := by decide +kernel
theorem dX1_boundBottom_4 : decode cX1_boundBottom 4 = .ok (.aload_n 0, 1) := by decide +kernel
theorem dX1_boundBottom_5 : decode cX1_boundBottom 5 = .ok (.getfield 53, 3) := by decide +kernel
theorem dX1_boundBottom_8 : decode cX1_boundBottom 8 = .ok (.goto 7, 3) := by decide +kernel
theorem dX1_boundBottom_11 : decode cX1_boundBottom 11 = .ok (.aload_n 0, 1) := by decide +kernel
theorem dX1_boundBottom_12 : decode cX1_boundBottom 12 = .ok (.getfield 59, 3) := by decide +kernel
theorem dX1_boundBottom_15 : decode cX1_boundBottom 15 = .ok (.lreturn, 1) := by decide +kernel
set_option maxRecDepth 20000 in
theorem ggX2_init_X6_init : GoodIn wsX2_init wsX6_init := goodIn_r _ [4, 5, 6, 7, 8, 9, 10, 11, 12, 13, 14, 15, 16, 17, 18, 19, 20, 21, 22, 23, 24, 25, 26, 27, 28, 29, 30, 31, 32, 33] (by decide +kernel) (by decide +kernel)
set_option maxRecDepth 20000 in
theorem gX2_init_X6_init : GoodIn wsX2_init (wsX6_init) := ggX2_init_X6_init
theorem dX2_init_0 : decode cX2_init 0 = .ok (.aload_n 0, 1) := by decide +kernel
theorem dX2_init_1 : decode cX2_init 1 = .ok (.iconst 3, 1) := by decide +kernel
theorem dX2_init_2 : decode cX2_init 2 = .ok (.iload_n 1, 1) := by decide +kernel
theorem dX2_init_3 : decode cX2_init 3 = .ok (.iload_n 2, 1) := by decide +kernel
theorem dX2_init_4 : decode cX2_init 4 = .ok (.invokespecial 3, 3) := by decide +kernel
theorem dX2_init_7 : decode cX2_init 7 = .ok (.return_, 1) := by decide +kernel
theorem dX2_grow_0 : decode cX2_grow 0 = .ok (.aload_n 0, 1) := by decide +kernel
theorem dX2_grow_1 : decode cX2_grow 1 = .ok (.iload_n 1, 1) := by decide +kernel
theorem dX2_grow_2 : decode cX2_grow 2 = .ok (.invokespecial 9, 3) := by decide +kernel
theorem dX2_grow_5 : decode cX2_grow 5 = .ok (.iconst 5, 1) := by decide +kernel
theorem dX2_grow_6 : decode cX2_grow 6 = .ok (.ixor, 1) := by decide +kernel
theorem dX2_grow_7 : decode cX2_grow 7 = .ok (.ireturn, 1) := by decide +kernel
set_option maxRecDepth 20000 in
theorem ggX2_bend_X2_grow : GoodIn wsX2_bend wsX2_grow := goodIn_r _ [5] (by decide +kernel) (by decide +kernel)
set_option maxRecDepth 20000 in
theorem gX2_bend_X2_grow : GoodIn wsX2_bend (wsV RX2 13 RX2 yX2_grow wsX2_grow) := goodIn_app (goodIn_of _ (by decide +kernel)) ggX2_bend_X2_grow
set_option maxRecDepth 20000 in
theorem ggX2_bend_X6_bend : GoodIn wsX2_bend wsX6_bend := goodIn_r _ [11, 12, 13, 14, 15, 16, 17, 18, 19, 20, 21, 22, 23, 24, 25, 26, 27, 28] (by decide +kernel) (by decide +kernel)
set_option maxRecDepth 20000 in
theorem gX2_bend_X6_bend_s16 : GoodIn wsX2_bend (va_wsSU RX2 16 yX6_bend wsX6_bend) := goodIn_app (goodIn_of _ (by decide +kernel)) ggX2_bend_X6_bend
theorem dX2_bend_0 : decode cX2_bend 0 = .ok (.aload_n 0, 1) := by decide +kernel
theorem dX2_bend_1 : decode cX2_bend 1 = .ok (.aload_n 0, 1) := by decide +kernel
theorem dX2_bend_2 : decode cX2_bend 2 = .ok (.iload_n 1, 1) := by decide +kernel
theorem dX2_bend_3 : decode cX2_bend 3 = .ok (.invokevirtual 13, 3) := by decide +kernel
theorem dX2_bend_6 : decode cX2_bend 6 = .ok (.invokespecial 16, 3) := by decide +kernel
theorem dX2_bend_9 : decode cX2_bend 9 = .ok (.ireturn, 1) := by decide +kernel
theorem dX3_init_0 : decode cX3_init 0 = .ok (.aload_n 0, 1) := by decide +kernel
theorem dX3_init_1 : decode cX3_init 1 = .ok (.invokespecial 1, 3) := by decide +kernel
theorem dX3_init_4 : decode cX3_init 4 = .ok (.aload_n 0, 1) := by decide +kernel
theorem dX3_init_5 : decode cX3_init 5 = .ok (.iload_n 1, 1) := by decide +kernel
theorem dX3_init_6 : decode cX3_init 6 = .ok (.putfield 7, 3) := by decide +kernel
theorem dX3_init_9 : decode cX3_init 9 = .ok (.aload_n 0, 1) := by decide +kernel
theorem dX3_init_10 : decode cX3_init 10 = .ok (.iload_n 2, 1) := by decide +kernel
theorem dX3_init_11 : decode cX3_init 11 = .ok (.putfield 13, 3) := by decide +kernel
theorem dX3_init_14 : decode cX3_init 14 = .ok (.aload_n 0, 1) := by decide +kernel
theorem dX3_init_15 : decode cX3_init 15 = .ok (.iload_n 3, 1) := by decide +kernel
theorem dX3_init_16 : decode cX3_init 16 = .ok (.putfield 16, 3) := by decide +kernel
theorem dX3_init_19 : decode cX3_init 19 = .ok (.return_, 1) := by decide +kernel
theorem dX3_kind_0 : decode cX3_kind 0 = .ok (.aload_n 0, 1) := by decide +kernel
theorem dX3_kind_1 : decode cX3_kind 1 = .ok (.getfield 7, 3) := by decide +kernel
theorem dX3_kind_4 : decode cX3_kind 4 = .ok (.ireturn, 1) := by decide +kernel
theorem dX3_grow_0 : decode cX3_grow 0 = .ok (.iload_n 1, 1) := by decide +kernel
theorem dX3_grow_1 : decode cX3_grow 1 = .ok (.aload_n 0, 1) := by decide +kernel
theorem dX3_grow_2 : decode cX3_grow 2 = .ok (.getfield 13, 3) := by decide +kernel
theorem dX3_grow_5 : decode cX3_grow 5 = .ok (.iadd, 1) := by decide +kernel
theorem dX3_grow_6 : decode cX3_grow 6 = .ok (.ireturn, 1) := by decide +kernel
set_option maxRecDepth 20000 in
theorem ggX3_bend_X0_grow : GoodIn wsX3_bend wsX0_grow := goodIn_r _ [8, 9, 3, 10, 11, 12, 13, 14, 28, 29, 30, 31, 32, 33, 34, 35, 36, 37, 38, 39, 40, 41, 42] (by decide +kernel) (by decide +kernel)
set_option maxRecDepth 20000 in
theorem gX3_bend_X0_grow_u19X0 : GoodIn wsX3_bend (va_wsO RX3 19 RX0 "SternBrocotExplorer$Node" ⟨"SternBrocotExplorer$Node", "grow", "(I)I"⟩ yX0_grow wsX0_grow) := goodIn_app (goodIn_of _ (by decide +kernel)) ggX3_bend_X0_grow
set_option maxRecDepth 20000 in
theorem ggX3_bend_X2_grow : GoodIn wsX3_bend wsX2_grow := goodIn_r _ [18] (by decide +kernel) (by decide +kernel)
set_option maxRecDepth 20000 in
theorem gX3_bend_X2_grow_u19X2 : GoodIn wsX3_bend (va_wsO RX3 19 RX2 "SternBrocotExplorer$Node" ⟨"SternBrocotExplorer$Node", "grow", "(I)I"⟩ yX2_grow wsX2_grow) := goodIn_app (goodIn_of _ (by decide +kernel)) ggX3_bend_X2_grow
set_option maxRecDepth 20000 in
theorem ggX3_bend_X3_grow : GoodIn wsX3_bend wsX3_grow := goodIn_r _ [13, 14, 28, 29, 30, 31, 32, 33, 34, 35, 36, 37, 38, 39, 40, 41, 42] (by decide +kernel) (by decide +kernel)
set_option maxRecDepth 20000 in
theorem gX3_bend_X3_grow : GoodIn wsX3_bend (wsV RX3 19 RX3 yX3_grow wsX3_grow) := goodIn_app (goodIn_of _ (by decide +kernel)) ggX3_bend_X3_grow
set_option maxRecDepth 20000 in
theorem ggX3_bend_X5_grow : GoodIn wsX3_bend wsX5_grow := goodIn_r _ [24, 25, 3, 26, 11, 12, 13, 14, 28, 29, 30, 31, 32, 33, 34, 35, 36, 37, 38, 39, 40, 41, 42] (by decide +kernel) (by decide +kernel)
set_option maxRecDepth 20000 in
theorem gX3_bend_X5_grow_u19X5 : GoodIn wsX3_bend (va_wsO RX3 19 RX5 "SternBrocotExplorer$Node" ⟨"SternBrocotExplorer$Node", "grow", "(I)I"⟩ yX5_grow wsX5_grow) := goodIn_app (goodIn_of _ (by decide +kernel)) ggX3_bend_X5_grow
set_option maxRecDepth 20000 in
theorem gX3_bend_X0_grow_u19X6 : GoodIn wsX3_bend (va_wsO RX3 19 RX6 "SternBrocotExplorer$Node" ⟨"SternBrocotExplorer$Node", "grow", "(I)I"⟩ yX0_grow wsX0_grow) := goodIn_app (goodIn_of _ (by decide +kernel)) ggX3_bend_X0_grow
theorem dX3_bend_0 : decode cX3_bend 0 = .ok (.aload_n 0, 1) := by decide +kernel
theorem dX3_bend_1 : decode cX3_bend 1 = .ok (.iload_n 1, 1) := by decide +kernel
theorem dX3_bend_2 : decode cX3_bend 2 = .ok (.invokevirtual 19, 3) := by decide +kernel
theorem dX3_bend_5 : decode cX3_bend 5 = .ok (.iconst 3, 1) := by decide +kernel
theorem dX3_bend_6 : decode cX3_bend 6 = .ok (.imul, 1) := by decide +kernel
theorem dX3_bend_7 : decode cX3_bend 7 = .ok (.aload_n 0, 1) := by decide +kernel
theorem dX3_bend_8 : decode cX3_bend 8 = .ok (.getfield 16, 3) := by decide +kernel
theorem dX3_bend_11 : decode cX3_bend 11 = .ok (.isub, 1) := by decide +kernel
theorem dX3_bend_12 : decode cX3_bend 12 = .ok (.ireturn, 1) := by decide +kernel
theorem dX4_init_0 : decode cX4_init 0 = .ok (.aload_n 0, 1) := by decide +kernel
theorem dX4_init_1 : decode cX4_init 1 = .ok (.invokespecial 1, 3) := by decide +kernel
theorem dX4_init_4 : decode cX4_init 4 = .ok (.aload_n 0, 1) := by decide +kernel
theorem dX4_init_5 : decode cX4_init 5 = .ok (.sipush 720, 3) := by decide +kernel
theorem dX4_init_8 : decode cX4_init 8 = .ok (.newarray .int, 2) := by decide +kernel
theorem dX4_init_10 : decode cX4_init 10 = .ok (.putfield 9, 3) := by decide +kernel
theorem dX4_init_13 : decode cX4_init 13 = .ok (.aload_n 0, 1) := by decide +kernel
theorem dX4_init_14 : decode cX4_init 14 = .ok (.sipush 720, 3) := by decide +kernel
theorem dX4_init_17 : decode cX4_init 17 = .ok (.newarray .int, 2) := by decide +kernel
theorem dX4_init_19 : decode cX4_init 19 = .ok (.putfield 13, 3) := by decide +kernel
theorem dX4_init_22 : decode cX4_init 22 = .ok (.aload_n 0, 1) := by decide +kernel
theorem dX4_init_23 : decode cX4_init 23 = .ok (.sipush 720, 3) := by decide +kernel
theorem dX4_init_26 : decode cX4_init 26 = .ok (.newarray .int, 2) := by decide +kernel
theorem dX4_init_28 : decode cX4_init 28 = .ok (.putfield 16, 3) := by decide +kernel
theorem dX4_init_31 : decode cX4_init 31 = .ok (.aload_n 0, 1) := by decide +kernel
theorem dX4_init_32 : decode cX4_init 32 = .ok (.sipush 160, 3) := by decide +kernel
theorem dX4_init_35 : decode cX4_init 35 = .ok (.newarray .int, 2) := by decide +kernel
theorem dX4_init_37 : decode cX4_init 37 = .ok (.putfield 19, 3) := by decide +kernel
theorem dX4_init_40 : decode cX4_init 40 = .ok (.return_, 1) := by decide +kernel
theorem dX4_clear_0 : decode cX4_clear 0 = .ok (.aload_n 0, 1) := by decide +kernel
theorem dX4_clear_1 : decode cX4_clear 1 = .ok (.iconst 0, 1) := by decide +kernel
theorem dX4_clear_2 : decode cX4_clear 2 = .ok (.putfield 22, 3) := by decide +kernel
theorem dX4_clear_5 : decode cX4_clear 5 = .ok (.iconst 0, 1) := by decide +kernel
theorem dX4_clear_6 : decode cX4_clear 6 = .ok (.istore_n 1, 1) := by decide +kernel
theorem dX4_clear_7 : decode cX4_clear 7 = .ok (.iload_n 1, 1) := by decide +kernel
theorem dX4_clear_8 : decode cX4_clear 8 = .ok (.sipush 160, 3) := by decide +kernel
theorem dX4_clear_11 : decode cX4_clear 11 = .ok (.if_icmp .ge 16, 3) := by decide +kernel
theorem dX4_clear_14 : decode cX4_clear 14 = .ok (.aload_n 0, 1) := by decide +kernel
theorem dX4_clear_15 : decode cX4_clear 15 = .ok (.getfield 19, 3) := by decide +kernel
theorem dX4_clear_18 : decode cX4_clear 18 = .ok (.iload_n 1, 1) := by decide +kernel
theorem dX4_clear_19 : decode cX4_clear 19 = .ok (.iconst 0, 1) := by decide +kernel
theorem dX4_clear_20 : decode cX4_clear 20 = .ok (.iastore, 1) := by decide +kernel
theorem dX4_clear_21 : decode cX4_clear 21 = .ok (.iinc 1 1, 3) := by decide +kernel
theorem dX4_clear_24 : decode cX4_clear 24 = .ok (.goto (-17), 3) := by decide +kernel
theorem dX4_clear_27 : decode cX4_clear 27 = .ok (.return_, 1) := by decide +kernel
theorem dX4_add_0 : decode cX4_add 0 = .ok (.iload_n 3, 1) := by decide +kernel
theorem dX4_add_1 : decode cX4_add 1 = .ok (.bipush (-20), 2) := by decide +kernel
theorem dX4_add_3 : decode cX4_add 3 = .ok (.isub, 1) := by decide +kernel
theorem dX4_add_4 : decode cX4_add 4 = .ok (.istore 4, 2) := by decide +kernel
theorem dX4_add_6 : decode cX4_add 6 = .ok (.aload_n 0, 1) := by decide +kernel
theorem dX4_add_7 : decode cX4_add 7 = .ok (.getfield 22, 3) := by decide +kernel
theorem dX4_add_10 : decode cX4_add 10 = .ok (.sipush 720, 3) := by decide +kernel
theorem dX4_add_13 : decode cX4_add 13 = .ok (.if_icmp .ge 68, 3) := by decide +kernel
theorem dX4_add_16 : decode cX4_add 16 = .ok (.iload 4, 2) := by decide +kernel
theorem dX4_add_18 : decode cX4_add 18 = .ok (.ifCond .lt 63, 3) := by decide +kernel
theorem dX4_add_21 : decode cX4_add 21 = .ok (.iload 4, 2) := by decide +kernel
theorem dX4_add_23 : decode cX4_add 23 = .ok (.sipush 160, 3) := by decide +kernel
theorem dX4_add_26 : decode cX4_add 26 = .ok (.if_icmp .ge 55, 3) := by decide +kernel
theorem dX4_add_29 : decode cX4_add 29 = .ok (.aload_n 0, 1) := by decide +kernel
theorem dX4_add_30 : decode cX4_add 30 = .ok (.getfield 9, 3) := by decide +kernel
theorem dX4_add_33 : decode cX4_add 33 = .ok (.aload_n 0, 1) := by decide +kernel
theorem dX4_add_34 : decode cX4_add 34 = .ok (.getfield 22, 3) := by decide +kernel
theorem dX4_add_37 : decode cX4_add 37 = .ok (.iload_n 1, 1) := by decide +kernel
theorem dX4_add_38 : decode cX4_add 38 = .ok (.iastore, 1) := by decide +kernel
theorem dX4_add_39 : decode cX4_add 39 = .ok (.aload_n 0, 1) := by decide +kernel
theorem dX4_add_40 : decode cX4_add 40 = .ok (.getfield 13, 3) := by decide +kernel
theorem dX4_add_43 : decode cX4_add 43 = .ok (.aload_n 0, 1) := by decide +kernel
theorem dX4_add_44 : decode cX4_add 44 = .ok (.getfield 22, 3) := by decide +kernel
theorem dX4_add_47 : decode cX4_add 47 = .ok (.iload_n 2, 1) := by decide +kernel
theorem dX4_add_48 : decode cX4_add 48 = .ok (.iastore, 1) := by decide +kernel
theorem dX4_add_49 : decode cX4_add 49 = .ok (.aload_n 0, 1) := by decide +kernel
theorem dX4_add_50 : decode cX4_add 50 = .ok (.getfield 16, 3) := by decide +kernel
theorem dX4_add_53 : decode cX4_add 53 = .ok (.aload_n 0, 1) := by decide +kernel
theorem dX4_add_54 : decode cX4_add 54 = .ok (.getfield 22, 3) := by decide +kernel
theorem dX4_add_57 : decode cX4_add 57 = .ok (.iload 4, 2) := by decide +kernel
theorem dX4_add_59 : decode cX4_add 59 = .ok (.iastore, 1) := by decide +kernel
theorem dX4_add_60 : decode cX4_add 60 = .ok (.aload_n 0, 1) := by decide +kernel
theorem dX4_add_61 : decode cX4_add 61 = .ok (.getfield 19, 3) := by decide +kernel
theorem dX4_add_64 : decode cX4_add 64 = .ok (.iload 4, 2) := by decide +kernel
theorem dX4_add_66 : decode cX4_add 66 = .ok (.dup2, 1) := by decide +kernel
theorem dX4_add_67 : decode cX4_add 67 = .ok (.iaload, 1) := by decide +kernel
theorem dX4_add_68 : decode cX4_add 68 = .ok (.iconst 1, 1) := by decide +kernel
theorem dX4_add_69 : decode cX4_add 69 = .ok (.iadd, 1) := by decide +kernel
theorem dX4_add_70 : decode cX4_add 70 = .ok (.iastore, 1) := by decide +kernel
theorem dX4_add_71 : decode cX4_add 71 = .ok (.aload_n 0, 1) := by decide +kernel
theorem dX4_add_72 : decode cX4_add 72 = .ok (.dup, 1) := by decide +kernel
theorem dX4_add_73 : decode cX4_add 73 = .ok (.getfield 22, 3) := by decide +kernel
theorem dX4_add_76 : decode cX4_add 76 = .ok (.iconst 1, 1) := by decide +kernel
theorem dX4_add_77 : decode cX4_add 77 = .ok (.iadd, 1) := by decide +kernel
theorem dX4_add_78 : decode cX4_add 78 = .ok (.putfield 22, 3) := by decide +kernel
theorem dX4_add_81 : decode cX4_add 81 = .ok (.return_, 1) := by decide +kernel
theorem dX4_size_0 : decode cX4_size 0 = .ok (.aload_n 0, 1) := by decide +kernel
theorem dX4_size_1 : decode cX4_size 1 = .ok (.getfield 22, 3) := by decide +kernel
theorem dX4_size_4 : decode cX4_size 4 = .ok (.ireturn, 1) := by decide +kernel
theorem dX4_placeOf_0 : decode cX4_placeOf 0 = .ok (.iload_n 1, 1) := by decide +kernel
theorem dX4_placeOf_1 : decode cX4_placeOf 1 = .ok (.istore_n 2, 1) := by decide +kernel
theorem dX4_placeOf_2 : decode cX4_placeOf 2 = .ok (.iconst 0, 1) := by decide +kernel
theorem dX4_placeOf_3 : decode cX4_placeOf 3 = .ok (.istore_n 3, 1) := by decide +kernel
theorem dX4_placeOf_4 : decode cX4_placeOf 4 = .ok (.iload_n 3, 1) := by decide +kernel
theorem dX4_placeOf_5 : decode cX4_placeOf 5 = .ok (.sipush 159, 3) := by decide +kernel
theorem dX4_placeOf_8 : decode cX4_placeOf 8 = .ok (.if_icmp .ge 28, 3) := by decide +kernel
theorem dX4_placeOf_11 : decode cX4_placeOf 11 = .ok (.iload_n 2, 1) := by decide +kernel
theorem dX4_placeOf_12 : decode cX4_placeOf 12 = .ok (.aload_n 0, 1) := by decide +kernel
theorem dX4_placeOf_13 : decode cX4_placeOf 13 = .ok (.getfield 19, 3) := by decide +kernel
theorem dX4_placeOf_16 : decode cX4_placeOf 16 = .ok (.iload_n 3, 1) := by decide +kernel
theorem dX4_placeOf_17 : decode cX4_placeOf 17 = .ok (.iaload, 1) := by decide +kernel
theorem dX4_placeOf_18 : decode cX4_placeOf 18 = .ok (.if_icmp .lt 18, 3) := by decide +kernel
theorem dX4_placeOf_21 : decode cX4_placeOf 21 = .ok (.iload_n 2, 1) := by decide +kernel
theorem dX4_placeOf_22 : decode cX4_placeOf 22 = .ok (.aload_n 0, 1) := by decide +kernel
theorem dX4_placeOf_23 : decode cX4_placeOf 23 = .ok (.getfield 19, 3) := by decide +kernel
theorem dX4_placeOf_26 : decode cX4_placeOf 26 = .ok (.iload_n 3, 1) := by decide +kernel
theorem dX4_placeOf_27 : decode cX4_placeOf 27 = .ok (.iaload, 1) := by decide +kernel
theorem dX4_placeOf_28 : decode cX4_placeOf 28 = .ok (.isub, 1) := by decide +kernel
theorem dX4_placeOf_29 : decode cX4_placeOf 29 = .ok (.istore_n 2, 1) := by decide +kernel
theorem dX4_placeOf_30 : decode cX4_placeOf 30 = .ok (.iinc 3 1, 3) := by decide +kernel
theorem dX4_placeOf_33 : decode cX4_placeOf 33 = .ok (.goto (-29), 3) := by decide +kernel
theorem dX4_placeOf_36 : decode cX4_placeOf 36 = .ok (.iconst 0, 1) := by decide +kernel
theorem dX4_placeOf_37 : decode cX4_placeOf 37 = .ok (.istore 4, 2) := by decide +kernel
theorem dX4_placeOf_39 : decode cX4_placeOf 39 = .ok (.iload 4, 2) := by decide +kernel
theorem dX4_placeOf_41 : decode cX4_placeOf 41 = .ok (.aload_n 0, 1) := by decide +kernel
theorem dX4_placeOf_42 : decode cX4_placeOf 42 = .ok (.getfield 22, 3) := by decide +kernel
theorem dX4_placeOf_45 : decode cX4_placeOf 45 = .ok (.if_icmp .ge 30, 3) := by decide +kernel
theorem dX4_placeOf_48 : decode cX4_placeOf 48 = .ok (.aload_n 0, 1) := by decide +kernel
theorem dX4_placeOf_49 : decode cX4_placeOf 49 = .ok (.getfield 16, 3) := by decide +kernel
theorem dX4_placeOf_52 : decode cX4_placeOf 52 = .ok (.iload 4, 2) := by decide +kernel
theorem dX4_placeOf_54 : decode cX4_placeOf 54 = .ok (.iaload, 1) := by decide +kernel
theorem dX4_placeOf_55 : decode cX4_placeOf 55 = .ok (.iload_n 3, 1) := by decide +kernel
theorem dX4_placeOf_56 : decode cX4_placeOf 56 = .ok (.if_icmp .ne 13, 3) := by decide +kernel
theorem dX4_placeOf_59 : decode cX4_placeOf 59 = .ok (.iload_n 2, 1) := by decide +kernel
theorem dX4_placeOf_60 : decode cX4_placeOf 60 = .ok (.ifCond .ne 6, 3) := by decide +kernel
theorem dX4_placeOf_63 : decode cX4_placeOf 63 = .ok (.iload 4, 2) := by decide +kernel
theorem dX4_placeOf_65 : decode cX4_placeOf 65 = .ok (.ireturn, 1) := by decide +kernel
theorem dX4_placeOf_66 : decode cX4_placeOf 66 = .ok (.iinc 2 (-1), 3) := by decide +kernel
theorem dX4_placeOf_69 : decode cX4_placeOf 69 = .ok (.iinc 4 1, 3) := by decide +kernel
theorem dX4_placeOf_72 : decode cX4_placeOf 72 = .ok (.goto (-33), 3) := by decide +kernel
theorem dX4_placeOf_75 : decode cX4_placeOf 75 = .ok (.iconst 0, 1) := by decide +kernel
theorem dX4_placeOf_76 : decode cX4_placeOf 76 = .ok (.ireturn, 1) := by decide +kernel
theorem dX4_topAt_0 : decode cX4_topAt 0 = .ok (.iload_n 1, 1) := by decide +kernel
theorem dX4_topAt_1 : decode cX4_topAt 1 = .ok (.ifCond .lt 20, 3) := by decide +kernel
theorem dX4_topAt_4 : decode cX4_topAt 4 = .ok (.iload_n 1, 1) := by decide +kernel
theorem dX4_topAt_5 : decode cX4_topAt 5 = .ok (.aload_n 0, 1) := by decide +kernel
theorem dX4_topAt_6 : decode cX4_topAt 6 = .ok (.getfield 22, 3) := by decide +kernel
theorem dX4_topAt_9 : decode cX4_topAt 9 = .ok (.if_icmp .ge 12, 3) := by decide +kernel
theorem dX4_topAt_12 : decode cX4_topAt 12 = .ok (.aload_n 0, 1) := by decide +kernel
theorem dX4_topAt_13 : decode cX4_topAt 13 = .ok (.getfield 9, 3) := by decide +kernel
theorem dX4_topAt_16 : decode cX4_topAt 16 = .ok (.iload_n 1, 1) := by decide +kernel
theorem dX4_topAt_17 : decode cX4_topAt 17 = .ok (.iaload, 1) := by decide +kernel
theorem dX4_topAt_18 : decode cX4_topAt 18 = .ok (.goto 4, 3) := by decide +kernel
theorem dX4_topAt_21 : decode cX4_topAt 21 = .ok (.iconst 1, 1) := by decide +kernel
theorem dX4_topAt_22 : decode cX4_topAt 22 = .ok (.ireturn, 1) := by decide +kernel
theorem dX4_bottomAt_0 : decode cX4_bottomAt 0 = .ok (.iload_n 1, 1) := by decide +kernel
theorem dX4_bottomAt_1 : decode cX4_bottomAt 1 = .ok (.ifCond .lt 20, 3) := by decide +kernel
theorem dX4_bottomAt_4 : decode cX4_bottomAt 4 = .ok (.iload_n 1, 1) := by decide +kernel
theorem dX4_bottomAt_5 : decode cX4_bottomAt 5 = .ok (.aload_n 0, 1) := by decide +kernel
theorem dX4_bottomAt_6 : decode cX4_bottomAt 6 = .ok (.getfield 22, 3) := by decide +kernel
theorem dX4_bottomAt_9 : decode cX4_bottomAt 9 = .ok (.if_icmp .ge 12, 3) := by decide +kernel
theorem dX4_bottomAt_12 : decode cX4_bottomAt 12 = .ok (.aload_n 0, 1) := by decide +kernel
theorem dX4_bottomAt_13 : decode cX4_bottomAt 13 = .ok (.getfield 13, 3) := by decide +kernel
theorem dX4_bottomAt_16 : decode cX4_bottomAt 16 = .ok (.iload_n 1, 1) := by decide +kernel
theorem dX4_bottomAt_17 : decode cX4_bottomAt 17 = .ok (.iaload, 1) := by decide +kernel
theorem dX4_bottomAt_18 : decode cX4_bottomAt 18 = .ok (.goto 4, 3) := by decide +kernel
theorem dX4_bottomAt_21 : decode cX4_bottomAt 21 = .ok (.iconst 1, 1) := by decide +kernel
theorem dX4_bottomAt_22 : decode cX4_bottomAt 22 = .ok (.ireturn, 1) := by decide +kernel
set_option maxRecDepth 20000 in
theorem ggX5_init_X3_init : GoodIn wsX5_init wsX3_init := goodIn_r _ [4, 5, 6, 7, 8, 9, 10, 11, 12, 13, 14, 15, 16, 17, 18, 19, 20, 21, 22, 23, 24, 25] (by decide +kernel) (by decide +kernel)
set_option maxRecDepth 20000 in
theorem gX5_init_X3_init : GoodIn wsX5_init (wsX3_init) := ggX5_init_X3_init
theorem dX5_init_0 : decode cX5_init 0 = .ok (.aload_n 0, 1) := by decide +kernel
theorem dX5_init_1 : decode cX5_init 1 = .ok (.iconst 4, 1) := by decide +kernel
theorem dX5_init_2 : decode cX5_init 2 = .ok (.iload_n 1, 1) := by decide +kernel
theorem dX5_init_3 : decode cX5_init 3 = .ok (.iload_n 2, 1) := by decide +kernel
theorem dX5_init_4 : decode cX5_init 4 = .ok (.invokespecial 3, 3) := by decide +kernel
theorem dX5_init_7 : decode cX5_init 7 = .ok (.return_, 1) := by decide +kernel
set_option maxRecDepth 20000 in
theorem ggX5_grow_X3_grow : GoodIn wsX5_grow wsX3_grow := goodIn_r _ [6, 7, 8, 9, 10, 11, 12, 13, 14, 15, 16, 17, 18, 19, 20, 21, 22] (by decide +kernel) (by decide +kernel)
set_option maxRecDepth 20000 in
theorem gX5_grow_X3_grow_s9 : GoodIn wsX5_grow (va_wsSU RX5 9 yX3_grow wsX3_grow) := goodIn_app (goodIn_of _ (by decide +kernel)) ggX5_grow_X3_grow
theorem dX5_grow_0 : decode cX5_grow 0 = .ok (.iconst 0, 1) := by decide +kernel
theorem dX5_grow_1 : decode cX5_grow 1 = .ok (.aload_n 0, 1) := by decide +kernel
theorem dX5_grow_2 : decode cX5_grow 2 = .ok (.iload_n 1, 1) := by decide +kernel
theorem dX5_grow_3 : decode cX5_grow 3 = .ok (.invokespecial 9, 3) := by decide +kernel
theorem dX5_grow_6 : decode cX5_grow 6 = .ok (.isub, 1) := by decide +kernel
theorem dX5_grow_7 : decode cX5_grow 7 = .ok (.ireturn, 1) := by decide +kernel
set_option maxRecDepth 20000 in
theorem ggX6_init_X0_init : GoodIn wsX6_init wsX0_init := goodIn_r _ [4, 5, 6, 7, 8, 9, 10, 11, 12, 13, 14, 15, 16, 17, 18, 19, 20, 21, 22, 23, 24, 25, 26, 27, 28, 29] (by decide +kernel) (by decide +kernel)
set_option maxRecDepth 20000 in
theorem gX6_init_X0_init : GoodIn wsX6_init (wsX0_init) := ggX6_init_X0_init
theorem dX6_init_0 : decode cX6_init 0 = .ok (.aload_n 0, 1) := by decide +kernel
theorem dX6_init_1 : decode cX6_init 1 = .ok (.iload_n 1, 1) := by decide +kernel
theorem dX6_init_2 : decode cX6_init 2 = .ok (.iload_n 2, 1) := by decide +kernel
theorem dX6_init_3 : decode cX6_init 3 = .ok (.iload_n 3, 1) := by decide +kernel
theorem dX6_init_4 : decode cX6_init 4 = .ok (.invokespecial 1, 3) := by decide +kernel
theorem dX6_init_7 : decode cX6_init 7 = .ok (.return_, 1) := by decide +kernel
theorem dX6_bend_0 : decode cX6_bend 0 = .ok (.aload_n 0, 1) := by decide +kernel
theorem dX6_bend_1 : decode cX6_bend 1 = .ok (.iload_n 1, 1) := by decide +kernel
theorem dX6_bend_2 : decode cX6_bend 2 = .ok (.invokespecial 7, 3) := by decide +kernel
theorem dX6_bend_5 : decode cX6_bend 5 = .ok (.aload_n 0, 1) := by decide +kernel
theorem dX6_bend_6 : decode cX6_bend 6 = .ok (.getfield 11, 3) := by decide +kernel
theorem dX6_bend_9 : decode cX6_bend 9 = .ok (.iadd, 1) := by decide +kernel
theorem dX6_bend_10 : decode cX6_bend 10 = .ok (.ireturn, 1) := by decide +kernel
