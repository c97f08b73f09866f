theorem dX7_restore_40 : decode cX7_restore 40 = .ok (.iaload, 1) := by decide +kernel
theorem dX7_restore_41 : decode cX7_restore 41 = .ok (.iastore, 1) := by decide +kernel
theorem dX7_restore_42 : decode cX7_restore 42 = .ok (.iinc 1 1, 3) := by decide +kernel
theorem dX7_restore_45 : decode cX7_restore 45 = .ok (.goto (-33), 3) := by decide +kernel
theorem dX7_restore_48 : decode cX7_restore 48 = .ok (.iconst 0, 1) := by decide +kernel
theorem dX7_restore_49 : decode cX7_restore 49 = .ok (.istore_n 1, 1) := by decide +kernel
theorem dX7_restore_50 : decode cX7_restore 50 = .ok (.iload_n 1, 1) := by decide +kernel
theorem dX7_restore_51 : decode cX7_restore 51 = .ok (.iconst 5, 1) := by decide +kernel
theorem dX7_restore_52 : decode cX7_restore 52 = .ok (.if_icmp .ge 21, 3) := by decide +kernel
theorem dX7_restore_55 : decode cX7_restore 55 = .ok (.aload_n 0, 1) := by decide +kernel
theorem dX7_restore_56 : decode cX7_restore 56 = .ok (.getfield 18, 3) := by decide +kernel
theorem dX7_restore_59 : decode cX7_restore 59 = .ok (.iload_n 1, 1) := by decide +kernel
theorem dX7_restore_60 : decode cX7_restore 60 = .ok (.aload_n 0, 1) := by decide +kernel
theorem dX7_restore_61 : decode cX7_restore 61 = .ok (.getfield 28, 3) := by decide +kernel
theorem dX7_restore_64 : decode cX7_restore 64 = .ok (.iload_n 1, 1) := by decide +kernel
theorem dX7_restore_65 : decode cX7_restore 65 = .ok (.aaload, 1) := by decide +kernel
theorem dX7_restore_66 : decode cX7_restore 66 = .ok (.aastore, 1) := by decide +kernel
theorem dX7_restore_67 : decode cX7_restore 67 = .ok (.iinc 1 1, 3) := by decide +kernel
theorem dX7_restore_70 : decode cX7_restore 70 = .ok (.goto (-20), 3) := by decide +kernel
theorem dX7_restore_73 : decode cX7_restore 73 = .ok (.aload_n 0, 1) := by decide +kernel
theorem dX7_restore_74 : decode cX7_restore 74 = .ok (.invokevirtual 250, 3) := by decide +kernel
theorem dX7_restore_77 : decode cX7_restore 77 = .ok (.ireturn, 1) := by decide +kernel
set_option maxRecDepth 20000 in
theorem ggX7_count_X7_nodeCount : GoodIn wsX7_count wsX7_nodeCount := goodIn_r _ [7, 8, 14, 15, 16, 17, 18, 19, 20, 21, 22, 23, 24, 25, 26, 27, 28, 29] (by decide +kernel) (by decide +kernel)
set_option maxRecDepth 20000 in
theorem gX7_count_X7_nodeCount : GoodIn wsX7_count (wsV RX7 250 RX7 yX7_nodeCount wsX7_nodeCount) := goodIn_app (goodIn_of _ (by decide +kernel)) ggX7_count_X7_nodeCount
set_option maxRecDepth 20000 in
theorem ggX7_count_X7_arrayCount : GoodIn wsX7_count wsX7_arrayCount := goodIn_r _ [12, 13, 14, 15, 16, 17, 18, 19, 20, 21, 22, 23, 24, 25, 26, 27, 28, 29] (by decide +kernel) (by decide +kernel)
set_option maxRecDepth 20000 in
theorem gX7_count_X7_arrayCount : GoodIn wsX7_count (wsV RX7 253 RX7 yX7_arrayCount wsX7_arrayCount) := goodIn_app (goodIn_of _ (by decide +kernel)) ggX7_count_X7_arrayCount
theorem dX7_count_0 : decode cX7_count 0 = .ok (.iload_n 1, 1) := by decide +kernel
theorem dX7_count_1 : decode cX7_count 1 = .ok (.tableswitch 51 0 3 #[31, 36, 41, 46], 31) := by decide +kernel
theorem dX7_count_32 : decode cX7_count 32 = .ok (.aload_n 0, 1) := by decide +kernel
theorem dX7_count_33 : decode cX7_count 33 = .ok (.getfield 130, 3) := by decide +kernel
theorem dX7_count_36 : decode cX7_count 36 = .ok (.ireturn, 1) := by decide +kernel
theorem dX7_count_37 : decode cX7_count 37 = .ok (.aload_n 0, 1) := by decide +kernel
theorem dX7_count_38 : decode cX7_count 38 = .ok (.getfield 202, 3) := by decide +kernel
theorem dX7_count_41 : decode cX7_count 41 = .ok (.ireturn, 1) := by decide +kernel
theorem dX7_count_42 : decode cX7_count 42 = .ok (.aload_n 0, 1) := by decide +kernel
theorem dX7_count_43 : decode cX7_count 43 = .ok (.invokevirtual 250, 3) := by decide +kernel
theorem dX7_count_46 : decode cX7_count 46 = .ok (.ireturn, 1) := by decide +kernel
theorem dX7_count_47 : decode cX7_count 47 = .ok (.aload_n 0, 1) := by decide +kernel
theorem dX7_count_48 : decode cX7_count 48 = .ok (.invokevirtual 253, 3) := by decide +kernel
theorem dX7_count_51 : decode cX7_count 51 = .ok (.ireturn, 1) := by decide +kernel
theorem dX7_count_52 : decode cX7_count 52 = .ok (.iconst (-1), 1) := by decide +kernel
theorem dX7_count_53 : decode cX7_count 53 = .ok (.ireturn, 1) := by decide +kernel
theorem dX7_isIn_0 : decode cX7_isIn 0 = .ok (.iload_n 0, 1) := by decide +kernel
theorem dX7_isIn_1 : decode cX7_isIn 1 = .ok (.iload_n 1, 1) := by decide +kernel
theorem dX7_isIn_2 : decode cX7_isIn 2 = .ok (.if_icmp .lt 12, 3) := by decide +kernel
theorem dX7_isIn_5 : decode cX7_isIn 5 = .ok (.iload_n 0, 1) := by decide +kernel
theorem dX7_isIn_6 : decode cX7_isIn 6 = .ok (.iload_n 2, 1) := by decide +kernel
theorem dX7_isIn_7 : decode cX7_isIn 7 = .ok (.if_icmp .gt 7, 3) := by decide +kernel
theorem dX7_isIn_10 : decode cX7_isIn 10 = .ok (.iconst 1, 1) := by decide +kernel
theorem dX7_isIn_11 : decode cX7_isIn 11 = .ok (.goto 4, 3) := by decide +kernel
theorem dX7_isIn_14 : decode cX7_isIn 14 = .ok (.iconst 0, 1) := by decide +kernel
theorem dX7_isIn_15 : decode cX7_isIn 15 = .ok (.ireturn, 1) := by decide +kernel
theorem dX7_isRegister_0 : decode cX7_isRegister 0 = .ok (.iload_n 0, 1) := by decide +kernel
theorem dX7_isRegister_1 : decode cX7_isRegister 1 = .ok (.ifCond .lt 13, 3) := by decide +kernel
theorem dX7_isRegister_4 : decode cX7_isRegister 4 = .ok (.iload_n 0, 1) := by decide +kernel
theorem dX7_isRegister_5 : decode cX7_isRegister 5 = .ok (.bipush 8, 2) := by decide +kernel
theorem dX7_isRegister_7 : decode cX7_isRegister 7 = .ok (.if_icmp .ge 7, 3) := by decide +kernel
theorem dX7_isRegister_10 : decode cX7_isRegister 10 = .ok (.iconst 1, 1) := by decide +kernel
theorem dX7_isRegister_11 : decode cX7_isRegister 11 = .ok (.goto 4, 3) := by decide +kernel
theorem dX7_isRegister_14 : decode cX7_isRegister 14 = .ok (.iconst 0, 1) := by decide +kernel
theorem dX7_isRegister_15 : decode cX7_isRegister 15 = .ok (.ireturn, 1) := by decide +kernel
theorem dX7_isSlot_0 : decode cX7_isSlot 0 = .ok (.iload_n 0, 1) := by decide +kernel
theorem dX7_isSlot_1 : decode cX7_isSlot 1 = .ok (.ifCond .lt 12, 3) := by decide +kernel
theorem dX7_isSlot_4 : decode cX7_isSlot 4 = .ok (.iload_n 0, 1) := by decide +kernel
theorem dX7_isSlot_5 : decode cX7_isSlot 5 = .ok (.iconst 5, 1) := by decide +kernel
theorem dX7_isSlot_6 : decode cX7_isSlot 6 = .ok (.if_icmp .ge 7, 3) := by decide +kernel
theorem dX7_isSlot_9 : decode cX7_isSlot 9 = .ok (.iconst 1, 1) := by decide +kernel
theorem dX7_isSlot_10 : decode cX7_isSlot 10 = .ok (.goto 4, 3) := by decide +kernel
theorem dX7_isSlot_13 : decode cX7_isSlot 13 = .ok (.iconst 0, 1) := by decide +kernel
theorem dX7_isSlot_14 : decode cX7_isSlot 14 = .ok (.ireturn, 1) := by decide +kernel
theorem dX7_isArray_0 : decode cX7_isArray 0 = .ok (.iload_n 0, 1) := by decide +kernel
theorem dX7_isArray_1 : decode cX7_isArray 1 = .ok (.ifCond .lt 12, 3) := by decide +kernel
theorem dX7_isArray_4 : decode cX7_isArray 4 = .ok (.iload_n 0, 1) := by decide +kernel
theorem dX7_isArray_5 : decode cX7_isArray 5 = .ok (.iconst 3, 1) := by decide +kernel
theorem dX7_isArray_6 : decode cX7_isArray 6 = .ok (.if_icmp .ge 7, 3) := by decide +kernel
theorem dX7_isArray_9 : decode cX7_isArray 9 = .ok (.iconst 1, 1) := by decide +kernel
theorem dX7_isArray_10 : decode cX7_isArray 10 = .ok (.goto 4, 3) := by decide +kernel
theorem dX7_isArray_13 : decode cX7_isArray 13 = .ok (.iconst 0, 1) := by decide +kernel
theorem dX7_isArray_14 : decode cX7_isArray 14 = .ok (.ireturn, 1) := by decide +kernel
theorem dX7_isIndex_0 : decode cX7_isIndex 0 = .ok (.iload_n 2, 1) := by decide +kernel
theorem dX7_isIndex_1 : decode cX7_isIndex 1 = .ok (.ifCond .lt 17, 3) := by decide +kernel
theorem dX7_isIndex_4 : decode cX7_isIndex 4 = .ok (.iload_n 2, 1) := by decide +kernel
theorem dX7_isIndex_5 : decode cX7_isIndex 5 = .ok (.aload_n 0, 1) := by decide +kernel
theorem dX7_isIndex_6 : decode cX7_isIndex 6 = .ok (.getfield 42, 3) := by decide +kernel
theorem dX7_isIndex_9 : decode cX7_isIndex 9 = .ok (.iload_n 1, 1) := by decide +kernel
theorem dX7_isIndex_10 : decode cX7_isIndex 10 = .ok (.iaload, 1) := by decide +kernel
theorem dX7_isIndex_11 : decode cX7_isIndex 11 = .ok (.if_icmp .ge 7, 3) := by decide +kernel
theorem dX7_isIndex_14 : decode cX7_isIndex 14 = .ok (.iconst 1, 1) := by decide +kernel
theorem dX7_isIndex_15 : decode cX7_isIndex 15 = .ok (.goto 4, 3) := by decide +kernel
theorem dX7_isIndex_18 : decode cX7_isIndex 18 = .ok (.iconst 0, 1) := by decide +kernel
theorem dX7_isIndex_19 : decode cX7_isIndex 19 = .ok (.ireturn, 1) := by decide +kernel
theorem dX7_quotient_0 : decode cX7_quotient 0 = .ok (.lload_n 2, 1) := by decide +kernel
theorem dX7_quotient_1 : decode cX7_quotient 1 = .ok (.lconst 0, 1) := by decide +kernel
theorem dX7_quotient_2 : decode cX7_quotient 2 = .ok (.lcmp, 1) := by decide +kernel
theorem dX7_quotient_3 : decode cX7_quotient 3 = .ok (.ifCond .le 9, 3) := by decide +kernel
theorem dX7_quotient_6 : decode cX7_quotient 6 = .ok (.lload_n 0, 1) := by decide +kernel
theorem dX7_quotient_7 : decode cX7_quotient 7 = .ok (.lload_n 2, 1) := by decide +kernel
theorem dX7_quotient_8 : decode cX7_quotient 8 = .ok (.ldiv, 1) := by decide +kernel
theorem dX7_quotient_9 : decode cX7_quotient 9 = .ok (.goto 4, 3) := by decide +kernel
theorem dX7_quotient_12 : decode cX7_quotient 12 = .ok (.lconst 0, 1) := by decide +kernel
theorem dX7_quotient_13 : decode cX7_quotient 13 = .ok (.lreturn, 1) := by decide +kernel
theorem dX7_remainder_0 : decode cX7_remainder 0 = .ok (.lload_n 2, 1) := by decide +kernel
theorem dX7_remainder_1 : decode cX7_remainder 1 = .ok (.lconst 0, 1) := by decide +kernel
theorem dX7_remainder_2 : decode cX7_remainder 2 = .ok (.lcmp, 1) := by decide +kernel
theorem dX7_remainder_3 : decode cX7_remainder 3 = .ok (.ifCond .le 9, 3) := by decide +kernel
theorem dX7_remainder_6 : decode cX7_remainder 6 = .ok (.lload_n 0, 1) := by decide +kernel
theorem dX7_remainder_7 : decode cX7_remainder 7 = .ok (.lload_n 2, 1) := by decide +kernel
theorem dX7_remainder_8 : decode cX7_remainder 8 = .ok (.lrem, 1) := by decide +kernel
theorem dX7_remainder_9 : decode cX7_remainder 9 = .ok (.goto 4, 3) := by decide +kernel
theorem dX7_remainder_12 : decode cX7_remainder 12 = .ok (.lconst 0, 1) := by decide +kernel
theorem dX7_remainder_13 : decode cX7_remainder 13 = .ok (.lreturn, 1) := by decide +kernel
theorem dX7_gcd_0 : decode cX7_gcd 0 = .ok (.lload_n 0, 1) := by decide +kernel
theorem dX7_gcd_1 : decode cX7_gcd 1 = .ok (.lstore 4, 2) := by decide +kernel
theorem dX7_gcd_3 : decode cX7_gcd 3 = .ok (.lload_n 2, 1) := by decide +kernel
theorem dX7_gcd_4 : decode cX7_gcd 4 = .ok (.lstore 6, 2) := by decide +kernel
theorem dX7_gcd_6 : decode cX7_gcd 6 = .ok (.iconst 0, 1) := by decide +kernel
theorem dX7_gcd_7 : decode cX7_gcd 7 = .ok (.istore 8, 2) := by decide +kernel
theorem dX7_gcd_9 : decode cX7_gcd 9 = .ok (.iload 8, 2) := by decide +kernel
theorem dX7_gcd_11 : decode cX7_gcd 11 = .ok (.sipush 1000, 3) := by decide +kernel
theorem dX7_gcd_14 : decode cX7_gcd 14 = .ok (.if_icmp .ge 31, 3) := by decide +kernel
theorem dX7_gcd_17 : decode cX7_gcd 17 = .ok (.lload 6, 2) := by decide +kernel
theorem dX7_gcd_19 : decode cX7_gcd 19 = .ok (.lconst 0, 1) := by decide +kernel
theorem dX7_gcd_20 : decode cX7_gcd 20 = .ok (.lcmp, 1) := by decide +kernel
theorem dX7_gcd_21 : decode cX7_gcd 21 = .ok (.ifCond .le 24, 3) := by decide +kernel
theorem dX7_gcd_24 : decode cX7_gcd 24 = .ok (.lload 4, 2) := by decide +kernel
theorem dX7_gcd_26 : decode cX7_gcd 26 = .ok (.lload 6, 2) := by decide +kernel
theorem dX7_gcd_28 : decode cX7_gcd 28 = .ok (.lrem, 1) := by decide +kernel
theorem dX7_gcd_29 : decode cX7_gcd 29 = .ok (.lstore 9, 2) := by decide +kernel
theorem dX7_gcd_31 : decode cX7_gcd 31 = .ok (.lload 6, 2) := by decide +kernel
theorem dX7_gcd_33 : decode cX7_gcd 33 = .ok (.lstore 4, 2) := by decide +kernel
theorem dX7_gcd_35 : decode cX7_gcd 35 = .ok (.lload 9, 2) := by decide +kernel
theorem dX7_gcd_37 : decode cX7_gcd 37 = .ok (.lstore 6, 2) := by decide +kernel
theorem dX7_gcd_39 : decode cX7_gcd 39 = .ok (.iinc 8 1, 3) := by decide +kernel
theorem dX7_gcd_42 : decode cX7_gcd 42 = .ok (.goto (-33), 3) := by decide +kernel
theorem dX7_gcd_45 : decode cX7_gcd 45 = .ok (.lload 4, 2) := by decide +kernel
theorem dX7_gcd_47 : decode cX7_gcd 47 = .ok (.lreturn, 1) := by decide +kernel
set_option maxRecDepth 20000 in
theorem ggX7_totient_X7_withoutFactor : GoodIn wsX7_totient wsX7_withoutFactor := goodIn_r _ [4] (by decide +kernel) (by decide +kernel)
set_option maxRecDepth 20000 in
theorem gX7_totient_X7_withoutFactor : GoodIn wsX7_totient (va_wsS RX7 256 yX7_withoutFactor wsX7_withoutFactor) := goodIn_app (goodIn_of _ (by decide +kernel)) ggX7_totient_X7_withoutFactor
theorem dX7_totient_0 : decode cX7_totient 0 = .ok (.iload_n 0, 1) := by decide +kernel
theorem dX7_totient_1 : decode cX7_totient 1 = .ok (.istore_n 1, 1) := by decide +kernel
theorem dX7_totient_2 : decode cX7_totient 2 = .ok (.iload_n 0, 1) := by decide +kernel
theorem dX7_totient_3 : decode cX7_totient 3 = .ok (.istore_n 2, 1) := by decide +kernel
theorem dX7_totient_4 : decode cX7_totient 4 = .ok (.iconst 2, 1) := by decide +kernel
theorem dX7_totient_5 : decode cX7_totient 5 = .ok (.istore_n 3, 1) := by decide +kernel
theorem dX7_totient_6 : decode cX7_totient 6 = .ok (.iload_n 3, 1) := by decide +kernel
theorem dX7_totient_7 : decode cX7_totient 7 = .ok (.sipush 1000, 3) := by decide +kernel
theorem dX7_totient_10 : decode cX7_totient 10 = .ok (.if_icmp .gt 34, 3) := by decide +kernel
theorem dX7_totient_13 : decode cX7_totient 13 = .ok (.iload_n 3, 1) := by decide +kernel
theorem dX7_totient_14 : decode cX7_totient 14 = .ok (.iload_n 3, 1) := by decide +kernel
theorem dX7_totient_15 : decode cX7_totient 15 = .ok (.imul, 1) := by decide +kernel
theorem dX7_totient_16 : decode cX7_totient 16 = .ok (.iload_n 2, 1) := by decide +kernel
theorem dX7_totient_17 : decode cX7_totient 17 = .ok (.if_icmp .gt 27, 3) := by decide +kernel
theorem dX7_totient_20 : decode cX7_totient 20 = .ok (.iload_n 2, 1) := by decide +kernel
theorem dX7_totient_21 : decode cX7_totient 21 = .ok (.iload_n 3, 1) := by decide +kernel
theorem dX7_totient_22 : decode cX7_totient 22 = .ok (.irem, 1) := by decide +kernel
theorem dX7_totient_23 : decode cX7_totient 23 = .ok (.ifCond .ne 15, 3) := by decide +kernel
theorem dX7_totient_26 : decode cX7_totient 26 = .ok (.iload_n 1, 1) := by decide +kernel
theorem dX7_totient_27 : decode cX7_totient 27 = .ok (.iload_n 1, 1) := by decide +kernel
theorem dX7_totient_28 : decode cX7_totient 28 = .ok (.iload_n 3, 1) := by decide +kernel
theorem dX7_totient_29 : decode cX7_totient 29 = .ok (.idiv, 1) := by decide +kernel
theorem dX7_totient_30 : decode cX7_totient 30 = .ok (.isub, 1) := by decide +kernel
theorem dX7_totient_31 : decode cX7_totient 31 = .ok (.istore_n 1, 1) := by decide +kernel
theorem dX7_totient_32 : decode cX7_totient 32 = .ok (.iload_n 2, 1) := by decide +kernel
theorem dX7_totient_33 : decode cX7_totient 33 = .ok (.iload_n 3, 1) := by decide +kernel
theorem dX7_totient_34 : decode cX7_totient 34 = .ok (.invokestatic 256, 3) := by decide +kernel
theorem dX7_totient_37 : decode cX7_totient 37 = .ok (.istore_n 2, 1) := by decide +kernel
theorem dX7_totient_38 : decode cX7_totient 38 = .ok (.iinc 3 1, 3) := by decide +kernel
theorem dX7_totient_41 : decode cX7_totient 41 = .ok (.goto (-35), 3) := by decide +kernel
theorem dX7_totient_44 : decode cX7_totient 44 = .ok (.iload_n 2, 1) := by decide +kernel
theorem dX7_totient_45 : decode cX7_totient 45 = .ok (.iconst 1, 1) := by decide +kernel
theorem dX7_totient_46 : decode cX7_totient 46 = .ok (.if_icmp .le 11, 3) := by decide +kernel
theorem dX7_totient_49 : decode cX7_totient 49 = .ok (.iload_n 1, 1) := by decide +kernel
theorem dX7_totient_50 : decode cX7_totient 50 = .ok (.iload_n 1, 1) := by decide +kernel
theorem dX7_totient_51 : decode cX7_totient 51 = .ok (.iload_n 2, 1) := by decide +kernel
theorem dX7_totient_52 : decode cX7_totient 52 = .ok (.idiv, 1) := by decide +kernel
theorem dX7_totient_53 : decode cX7_totient 53 = .ok (.isub, 1) := by decide +kernel
theorem dX7_totient_54 : decode cX7_totient 54 = .ok (.goto 4, 3) := by decide +kernel
theorem dX7_totient_57 : decode cX7_totient 57 = .ok (.iload_n 1, 1) := by decide +kernel
theorem dX7_totient_58 : decode cX7_totient 58 = .ok (.ireturn, 1) := by decide +kernel
theorem dX7_withoutFactor_0 : decode cX7_withoutFactor 0 = .ok (.iload_n 0, 1) := by decide +kernel
theorem dX7_withoutFactor_1 : decode cX7_withoutFactor 1 = .ok (.istore_n 2, 1) := by decide +kernel
theorem dX7_withoutFactor_2 : decode cX7_withoutFactor 2 = .ok (.iconst 0, 1) := by decide +kernel
theorem dX7_withoutFactor_3 : decode cX7_withoutFactor 3 = .ok (.istore_n 3, 1) := by decide +kernel
theorem dX7_withoutFactor_4 : decode cX7_withoutFactor 4 = .ok (.iload_n 3, 1) := by decide +kernel
theorem dX7_withoutFactor_5 : decode cX7_withoutFactor 5 = .ok (.sipush 1000, 3) := by decide +kernel
theorem dX7_withoutFactor_8 : decode cX7_withoutFactor 8 = .ok (.if_icmp .ge 24, 3) := by decide +kernel
theorem dX7_withoutFactor_11 : decode cX7_withoutFactor 11 = .ok (.iload_n 1, 1) := by decide +kernel
theorem dX7_withoutFactor_12 : decode cX7_withoutFactor 12 = .ok (.iconst 1, 1) := by decide +kernel
theorem dX7_withoutFactor_13 : decode cX7_withoutFactor 13 = .ok (.if_icmp .le 19, 3) := by decide +kernel
theorem dX7_withoutFactor_16 : decode cX7_withoutFactor 16 = .ok (.iload_n 2, 1) := by decide +kernel
theorem dX7_withoutFactor_17 : decode cX7_withoutFactor 17 = .ok (.iload_n 1, 1) := by decide +kernel
theorem dX7_withoutFactor_18 : decode cX7_withoutFactor 18 = .ok (.irem, 1) := by decide +kernel
theorem dX7_withoutFactor_19 : decode cX7_withoutFactor 19 = .ok (.ifCond .ne 13, 3) := by decide +kernel
theorem dX7_withoutFactor_22 : decode cX7_withoutFactor 22 = .ok (.iload_n 2, 1) := by decide +kernel
theorem dX7_withoutFactor_23 : decode cX7_withoutFactor 23 = .ok (.iload_n 1, 1) := by decide +kernel
theorem dX7_withoutFactor_24 : decode cX7_withoutFactor 24 = .ok (.idiv, 1) := by decide +kernel
theorem dX7_withoutFactor_25 : decode cX7_withoutFactor 25 = .ok (.istore_n 2, 1) := by decide +kernel
theorem dX7_withoutFactor_26 : decode cX7_withoutFactor 26 = .ok (.iinc 3 1, 3) := by decide +kernel
theorem dX7_withoutFactor_29 : decode cX7_withoutFactor 29 = .ok (.goto (-25), 3) := by decide +kernel
theorem dX7_withoutFactor_32 : decode cX7_withoutFactor 32 = .ok (.iload_n 2, 1) := by decide +kernel
theorem dX7_withoutFactor_33 : decode cX7_withoutFactor 33 = .ok (.ireturn, 1) := by decide +kernel
theorem dX7_crossDifference_0 : decode cX7_crossDifference 0 = .ok (.aload_n 0, 1) := by decide +kernel
theorem dX7_crossDifference_1 : decode cX7_crossDifference 1 = .ok (.getfield 9, 3) := by decide +kernel
theorem dX7_crossDifference_4 : decode cX7_crossDifference 4 = .ok (.iload_n 1, 1) := by decide +kernel
theorem dX7_crossDifference_5 : decode cX7_crossDifference 5 = .ok (.iaload, 1) := by decide +kernel
theorem dX7_crossDifference_6 : decode cX7_crossDifference 6 = .ok (.i2l, 1) := by decide +kernel
theorem dX7_crossDifference_7 : decode cX7_crossDifference 7 = .ok (.aload_n 0, 1) := by decide +kernel
theorem dX7_crossDifference_8 : decode cX7_crossDifference 8 = .ok (.getfield 13, 3) := by decide +kernel
theorem dX7_crossDifference_11 : decode cX7_crossDifference 11 = .ok (.iload_n 2, 1) := by decide +kernel
theorem dX7_crossDifference_12 : decode cX7_crossDifference 12 = .ok (.iaload, 1) := by decide +kernel
theorem dX7_crossDifference_13 : decode cX7_crossDifference 13 = .ok (.i2l, 1) := by decide +kernel
theorem dX7_crossDifference_14 : decode cX7_crossDifference 14 = .ok (.lmul, 1) := by decide +kernel
theorem dX7_crossDifference_15 : decode cX7_crossDifference 15 = .ok (.aload_n 0, 1) := by decide +kernel
theorem dX7_crossDifference_16 : decode cX7_crossDifference 16 = .ok (.getfield 13, 3) := by decide +kernel
theorem dX7_crossDifference_19 : decode cX7_crossDifference 19 = .ok (.iload_n 1, 1) := by decide +kernel
theorem dX7_crossDifference_20 : decode cX7_crossDifference 20 = .ok (.iaload, 1) := by decide +kernel
theorem dX7_crossDifference_21 : decode cX7_crossDifference 21 = .ok (.i2l, 1) := by decide +kernel
theorem dX7_crossDifference_22 : decode cX7_crossDifference 22 = .ok (.aload_n 0, 1) := by decide +kernel
theorem dX7_crossDifference_23 : decode cX7_crossDifference 23 = .ok (.getfield 9, 3) := by decide +kernel
theorem dX7_crossDifference_26 : decode cX7_crossDifference 26 = .ok (.iload_n 2, 1) := by decide +kernel
theorem dX7_crossDifference_27 : decode cX7_crossDifference 27 = .ok (.iaload, 1) := by decide +kernel
theorem dX7_crossDifference_28 : decode cX7_crossDifference 28 = .ok (.i2l, 1) := by decide +kernel
theorem dX7_crossDifference_29 : decode cX7_crossDifference 29 = .ok (.lmul, 1) := by decide +kernel
theorem dX7_crossDifference_30 : decode cX7_crossDifference 30 = .ok (.lsub, 1) := by decide +kernel
theorem dX7_crossDifference_31 : decode cX7_crossDifference 31 = .ok (.lreturn, 1) := by decide +kernel
set_option maxRecDepth 20000 in
theorem ggX7_store_X7_gcd : GoodIn wsX7_store wsX7_gcd := goodIn_r _ [7] (by decide +kernel) (by decide +kernel)
set_option maxRecDepth 20000 in
theorem gX7_store_X7_gcd : GoodIn wsX7_store (va_wsS RX7 189 yX7_gcd wsX7_gcd) := goodIn_app (goodIn_of _ (by decide +kernel)) ggX7_store_X7_gcd
set_option maxRecDepth 20000 in
theorem ggX7_store_X7_quotient : GoodIn wsX7_store wsX7_quotient := goodIn_r _ [10] (by decide +kernel) (by decide +kernel)
set_option maxRecDepth 20000 in
theorem gX7_store_X7_quotient : GoodIn wsX7_store (va_wsS RX7 165 yX7_quotient wsX7_quotient) := goodIn_app (goodIn_of _ (by decide +kernel)) ggX7_store_X7_quotient
theorem dX7_store_0 : decode cX7_store 0 = .ok (.lload_n 2, 1) := by decide +kernel
theorem dX7_store_1 : decode cX7_store 1 = .ok (.lload 4, 2) := by decide +kernel
theorem dX7_store_3 : decode cX7_store 3 = .ok (.invokestatic 189, 3) := by decide +kernel
theorem dX7_store_6 : decode cX7_store 6 = .ok (.lstore 6, 2) := by decide +kernel
theorem dX7_store_8 : decode cX7_store 8 = .ok (.lload_n 2, 1) := by decide +kernel
theorem dX7_store_9 : decode cX7_store 9 = .ok (.lload 6, 2) := by decide +kernel
theorem dX7_store_11 : decode cX7_store 11 = .ok (.invokestatic 165, 3) := by decide +kernel
theorem dX7_store_14 : decode cX7_store 14 = .ok (.lstore 8, 2) := by decide +kernel
theorem dX7_store_16 : decode cX7_store 16 = .ok (.lload 4, 2) := by decide +kernel
theorem dX7_store_18 : decode cX7_store 18 = .ok (.lload 6, 2) := by decide +kernel
theorem dX7_store_20 : decode cX7_store 20 = .ok (.invokestatic 165, 3) := by decide +kernel
theorem dX7_store_23 : decode cX7_store 23 = .ok (.lstore 10, 2) := by decide +kernel
theorem dX7_store_25 : decode cX7_store 25 = .ok (.lload 8, 2) := by decide +kernel
theorem dX7_store_27 : decode cX7_store 27 = .ok (.ldc2_w 138, 3) := by decide +kernel
theorem dX7_store_30 : decode cX7_store 30 = .ok (.lcmp, 1) := by decide +kernel
theorem dX7_store_31 : decode cX7_store 31 = .ok (.ifCond .gt 12, 3) := by decide +kernel
theorem dX7_store_34 : decode cX7_store 34 = .ok (.lload 10, 2) := by decide +kernel
theorem dX7_store_36 : decode cX7_store 36 = .ok (.ldc2_w 138, 3) := by decide +kernel
theorem dX7_store_39 : decode cX7_store 39 = .ok (.lcmp, 1) := by decide +kernel
theorem dX7_store_40 : decode cX7_store 40 = .ok (.ifCond .le 6, 3) := by decide +kernel
theorem dX7_store_43 : decode cX7_store 43 = .ok (.bipush (-3), 2) := by decide +kernel
theorem dX7_store_45 : decode cX7_store 45 = .ok (.ireturn, 1) := by decide +kernel
theorem dX7_store_46 : decode cX7_store 46 = .ok (.aload_n 0, 1) := by decide +kernel
theorem dX7_store_47 : decode cX7_store 47 = .ok (.getfield 9, 3) := by decide +kernel
theorem dX7_store_50 : decode cX7_store 50 = .ok (.iload_n 1, 1) := by decide +kernel
theorem dX7_store_51 : decode cX7_store 51 = .ok (.lload 8, 2) := by decide +kernel
theorem dX7_store_53 : decode cX7_store 53 = .ok (.l2i, 1) := by decide +kernel
theorem dX7_store_54 : decode cX7_store 54 = .ok (.iastore, 1) := by decide +kernel
theorem dX7_store_55 : decode cX7_store 55 = .ok (.aload_n 0, 1) := by decide +kernel
theorem dX7_store_56 : decode cX7_store 56 = .ok (.getfield 13, 3) := by decide +kernel
theorem dX7_store_59 : decode cX7_store 59 = .ok (.iload_n 1, 1) := by decide +kernel
theorem dX7_store_60 : decode cX7_store 60 = .ok (.lload 10, 2) := by decide +kernel
theorem dX7_store_62 : decode cX7_store 62 = .ok (.l2i, 1) := by decide +kernel
theorem dX7_store_63 : decode cX7_store 63 = .ok (.iastore, 1) := by decide +kernel
theorem dX7_store_64 : decode cX7_store 64 = .ok (.iconst 1, 1) := by decide +kernel
theorem dX7_store_65 : decode cX7_store 65 = .ok (.ireturn, 1) := by decide +kernel
set_option maxRecDepth 20000 in
theorem ggX7_storeConvergent_X1_convergentTop : GoodIn wsX7_storeConvergent wsX1_convergentTop := goodIn_r _ [5, 6, 7, 8, 4, 9, 10, 11, 30, 31, 32, 33, 34, 35] (by decide +kernel) (by decide +kernel)
set_option maxRecDepth 20000 in
theorem gX7_storeConvergent_X1_convergentTop : GoodIn wsX7_storeConvergent (wsV RX7 127 RX1 yX1_convergentTop wsX1_convergentTop) := goodIn_app (goodIn_of _ (by decide +kernel)) ggX7_storeConvergent_X1_convergentTop
set_option maxRecDepth 20000 in
theorem ggX7_storeConvergent_X1_convergentBottom : GoodIn wsX7_storeConvergent wsX1_convergentBottom := goodIn_r _ [15, 6, 7, 8, 4, 9, 10, 11, 30, 31, 32, 33, 34, 35] (by decide +kernel) (by decide +kernel)
set_option maxRecDepth 20000 in
theorem gX7_storeConvergent_X1_convergentBottom : GoodIn wsX7_storeConvergent (wsV RX7 199 RX1 yX1_convergentBottom wsX1_convergentBottom) := goodIn_app (goodIn_of _ (by decide +kernel)) ggX7_storeConvergent_X1_convergentBottom
set_option maxRecDepth 20000 in
theorem ggX7_storeConvergent_X7_store : GoodIn wsX7_storeConvergent wsX7_store := goodIn_r _ [20, 21, 22, 23, 24, 25, 19, 26, 27, 28, 29, 36, 37, 38, 39, 40, 41, 42, 43, 44, 45, 46, 47, 48, 49, 50, 51] (by decide +kernel) (by decide +kernel)
set_option maxRecDepth 20000 in
theorem gX7_storeConvergent_X7_store : GoodIn wsX7_storeConvergent (wsV RX7 71 RX7 yX7_store wsX7_store) := goodIn_app (goodIn_of _ (by decide +kernel)) ggX7_storeConvergent_X7_store
theorem dX7_storeConvergent_0 : decode cX7_storeConvergent 0 = .ok (.aload_n 0, 1) := by decide +kernel
theorem dX7_storeConvergent_1 : decode cX7_storeConvergent 1 = .ok (.iload_n 1, 1) := by decide +kernel
theorem dX7_storeConvergent_2 : decode cX7_storeConvergent 2 = .ok (.aload_n 2, 1) := by decide +kernel
theorem dX7_storeConvergent_3 : decode cX7_storeConvergent 3 = .ok (.iload_n 3, 1) := by decide +kernel
theorem dX7_storeConvergent_4 : decode cX7_storeConvergent 4 = .ok (.invokevirtual 127, 3) := by decide +kernel
theorem dX7_storeConvergent_7 : decode cX7_storeConvergent 7 = .ok (.aload_n 2, 1) := by decide +kernel
theorem dX7_storeConvergent_8 : decode cX7_storeConvergent 8 = .ok (.iload_n 3, 1) := by decide +kernel
theorem dX7_storeConvergent_9 : decode cX7_storeConvergent 9 = .ok (.invokevirtual 199, 3) := by decide +kernel
theorem dX7_storeConvergent_12 : decode cX7_storeConvergent 12 = .ok (.invokevirtual 71, 3) := by decide +kernel
theorem dX7_storeConvergent_15 : decode cX7_storeConvergent 15 = .ok (.ireturn, 1) := by decide +kernel
set_option maxRecDepth 20000 in
theorem ggX7_expand_X1_expand : GoodIn wsX7_expand wsX1_expand := goodIn_r _ [8, 9, 10, 11, 12, 7, 13, 14, 31, 32, 33, 34, 35, 36] (by decide +kernel) (by decide +kernel)
set_option maxRecDepth 20000 in
theorem gX7_expand_X1_expand : GoodIn wsX7_expand (wsV RX7 117 RX1 yX1_expand wsX1_expand) := goodIn_app (goodIn_of _ (by decide +kernel)) ggX7_expand_X1_expand
theorem dX7_expand_0 : decode cX7_expand 0 = .ok (.aload_n 0, 1) := by decide +kernel
theorem dX7_expand_1 : decode cX7_expand 1 = .ok (.getfield 48, 3) := by decide +kernel
theorem dX7_expand_4 : decode cX7_expand 4 = .ok (.aload_n 0, 1) := by decide +kernel
theorem dX7_expand_5 : decode cX7_expand 5 = .ok (.getfield 9, 3) := by decide +kernel
theorem dX7_expand_8 : decode cX7_expand 8 = .ok (.iload_n 1, 1) := by decide +kernel
theorem dX7_expand_9 : decode cX7_expand 9 = .ok (.iaload, 1) := by decide +kernel
theorem dX7_expand_10 : decode cX7_expand 10 = .ok (.aload_n 0, 1) := by decide +kernel
theorem dX7_expand_11 : decode cX7_expand 11 = .ok (.getfield 13, 3) := by decide +kernel
theorem dX7_expand_14 : decode cX7_expand 14 = .ok (.iload_n 1, 1) := by decide +kernel
theorem dX7_expand_15 : decode cX7_expand 15 = .ok (.iaload, 1) := by decide +kernel
theorem dX7_expand_16 : decode cX7_expand 16 = .ok (.invokevirtual 117, 3) := by decide +kernel
theorem dX7_expand_19 : decode cX7_expand 19 = .ok (.aload_n 0, 1) := by decide +kernel
theorem dX7_expand_20 : decode cX7_expand 20 = .ok (.getfield 48, 3) := by decide +kernel
theorem dX7_expand_23 : decode cX7_expand 23 = .ok (.areturn, 1) := by decide +kernel
theorem dX7_hasTermListValue_0 : decode cX7_hasTermListValue 0 = .ok (.aload_n 0, 1) := by decide +kernel
theorem dX7_hasTermListValue_1 : decode cX7_hasTermListValue 1 = .ok (.getfield 130, 3) := by decide +kernel
theorem dX7_hasTermListValue_4 : decode cX7_hasTermListValue 4 = .ok (.ifCond .ne 5, 3) := by decide +kernel
theorem dX7_hasTermListValue_7 : decode cX7_hasTermListValue 7 = .ok (.iconst 0, 1) := by decide +kernel
theorem dX7_hasTermListValue_8 : decode cX7_hasTermListValue 8 = .ok (.ireturn, 1) := by decide +kernel
theorem dX7_hasTermListValue_9 : decode cX7_hasTermListValue 9 = .ok (.iconst 1, 1) := by decide +kernel
theorem dX7_hasTermListValue_10 : decode cX7_hasTermListValue 10 = .ok (.istore_n 1, 1) := by decide +kernel
theorem dX7_hasTermListValue_11 : decode cX7_hasTermListValue 11 = .ok (.iload_n 1, 1) := by decide +kernel
theorem dX7_hasTermListValue_12 : decode cX7_hasTermListValue 12 = .ok (.aload_n 0, 1) := by decide +kernel
theorem dX7_hasTermListValue_13 : decode cX7_hasTermListValue 13 = .ok (.getfield 130, 3) := by decide +kernel
theorem dX7_hasTermListValue_16 : decode cX7_hasTermListValue 16 = .ok (.if_icmp .ge 20, 3) := by decide +kernel
theorem dX7_hasTermListValue_19 : decode cX7_hasTermListValue 19 = .ok (.aload_n 0, 1) := by decide +kernel
theorem dX7_hasTermListValue_20 : decode cX7_hasTermListValue 20 = .ok (.getfield 31, 3) := by decide +kernel
theorem dX7_hasTermListValue_23 : decode cX7_hasTermListValue 23 = .ok (.iload_n 1, 1) := by decide +kernel
theorem dX7_hasTermListValue_24 : decode cX7_hasTermListValue 24 = .ok (.iaload, 1) := by decide +kernel
theorem dX7_hasTermListValue_25 : decode cX7_hasTermListValue 25 = .ok (.ifCond .ne 5, 3) := by decide +kernel
theorem dX7_hasTermListValue_28 : decode cX7_hasTermListValue 28 = .ok (.iconst 0, 1) := by decide +kernel
theorem dX7_hasTermListValue_29 : decode cX7_hasTermListValue 29 = .ok (.ireturn, 1) := by decide +kernel
theorem dX7_hasTermListValue_30 : decode cX7_hasTermListValue 30 = .ok (.iinc 1 1, 3) := by decide +kernel
theorem dX7_hasTermListValue_33 : decode cX7_hasTermListValue 33 = .ok (.goto (-22), 3) := by decide +kernel
theorem dX7_hasTermListValue_36 : decode cX7_hasTermListValue 36 = .ok (.aload_n 0, 1) := by decide +kernel
theorem dX7_hasTermListValue_37 : decode cX7_hasTermListValue 37 = .ok (.getfield 130, 3) := by decide +kernel
theorem dX7_hasTermListValue_40 : decode cX7_hasTermListValue 40 = .ok (.iconst 1, 1) := by decide +kernel
theorem dX7_hasTermListValue_41 : decode cX7_hasTermListValue 41 = .ok (.if_icmp .gt 12, 3) := by decide +kernel
theorem dX7_hasTermListValue_44 : decode cX7_hasTermListValue 44 = .ok (.aload_n 0, 1) := by decide +kernel
theorem dX7_hasTermListValue_45 : decode cX7_hasTermListValue 45 = .ok (.getfield 31, 3) := by decide +kernel
theorem dX7_hasTermListValue_48 : decode cX7_hasTermListValue 48 = .ok (.iconst 0, 1) := by decide +kernel
theorem dX7_hasTermListValue_49 : decode cX7_hasTermListValue 49 = .ok (.iaload, 1) := by decide +kernel
theorem dX7_hasTermListValue_50 : decode cX7_hasTermListValue 50 = .ok (.ifCond .le 7, 3) := by decide +kernel
theorem dX7_hasTermListValue_53 : decode cX7_hasTermListValue 53 = .ok (.iconst 1, 1) := by decide +kernel
theorem dX7_hasTermListValue_54 : decode cX7_hasTermListValue 54 = .ok (.goto 4, 3) := by decide +kernel
theorem dX7_hasTermListValue_57 : decode cX7_hasTermListValue 57 = .ok (.iconst 0, 1) := by decide +kernel
theorem dX7_hasTermListValue_58 : decode cX7_hasTermListValue 58 = .ok (.ireturn, 1) := by decide +kernel
set_option maxRecDepth 20000 in
theorem ggX7_nearerSide_X1_boundBottom : GoodIn wsX7_nearerSide wsX1_boundBottom := goodIn_r _ [7, 8, 9, 32, 33, 34, 35, 36, 37] (by decide +kernel) (by decide +kernel)
set_option maxRecDepth 20000 in
theorem gX7_nearerSide_X1_boundBottom : GoodIn wsX7_nearerSide (wsV RX7 114 RX1 yX1_boundBottom wsX1_boundBottom) := goodIn_app (goodIn_of _ (by decide +kernel)) ggX7_nearerSide_X1_boundBottom
set_option maxRecDepth 20000 in
theorem ggX7_nearerSide_X1_boundTop : GoodIn wsX7_nearerSide wsX1_boundTop := goodIn_r _ [13, 14, 15, 32, 33, 34, 35, 36, 37] (by decide +kernel) (by decide +kernel)
set_option maxRecDepth 20000 in
theorem gX7_nearerSide_X1_boundTop : GoodIn wsX7_nearerSide (wsV RX7 110 RX1 yX1_boundTop wsX1_boundTop) := goodIn_app (goodIn_of _ (by decide +kernel)) ggX7_nearerSide_X1_boundTop
theorem dX7_nearerSide_0 : decode cX7_nearerSide 0 = .ok (.aload_n 0, 1) := by decide +kernel
theorem dX7_nearerSide_1 : decode cX7_nearerSide 1 = .ok (.getfield 9, 3) := by decide +kernel
theorem dX7_nearerSide_4 : decode cX7_nearerSide 4 = .ok (.iload_n 1, 1) := by decide +kernel
theorem dX7_nearerSide_5 : decode cX7_nearerSide 5 = .ok (.iaload, 1) := by decide +kernel
theorem dX7_nearerSide_6 : decode cX7_nearerSide 6 = .ok (.i2l, 1) := by decide +kernel
theorem dX7_nearerSide_7 : decode cX7_nearerSide 7 = .ok (.lstore_n 3, 1) := by decide +kernel
theorem dX7_nearerSide_8 : decode cX7_nearerSide 8 = .ok (.aload_n 0, 1) := by decide +kernel
theorem dX7_nearerSide_9 : decode cX7_nearerSide 9 = .ok (.getfield 13, 3) := by decide +kernel
theorem dX7_nearerSide_12 : decode cX7_nearerSide 12 = .ok (.iload_n 1, 1) := by decide +kernel
theorem dX7_nearerSide_13 : decode cX7_nearerSide 13 = .ok (.iaload, 1) := by decide +kernel
theorem dX7_nearerSide_14 : decode cX7_nearerSide 14 = .ok (.i2l, 1) := by decide +kernel
theorem dX7_nearerSide_15 : decode cX7_nearerSide 15 = .ok (.lstore 5, 2) := by decide +kernel
theorem dX7_nearerSide_17 : decode cX7_nearerSide 17 = .ok (.aload_n 2, 1) := by decide +kernel
theorem dX7_nearerSide_18 : decode cX7_nearerSide 18 = .ok (.iconst 0, 1) := by decide +kernel
theorem dX7_nearerSide_19 : decode cX7_nearerSide 19 = .ok (.invokevirtual 114, 3) := by decide +kernel
theorem dX7_nearerSide_22 : decode cX7_nearerSide 22 = .ok (.lstore 7, 2) := by decide +kernel
theorem dX7_nearerSide_24 : decode cX7_nearerSide 24 = .ok (.aload_n 2, 1) := by decide +kernel
theorem dX7_nearerSide_25 : decode cX7_nearerSide 25 = .ok (.iconst 1, 1) := by decide +kernel
theorem dX7_nearerSide_26 : decode cX7_nearerSide 26 = .ok (.invokevirtual 114, 3) := by decide +kernel
theorem dX7_nearerSide_29 : decode cX7_nearerSide 29 = .ok (.lstore 9, 2) := by decide +kernel
theorem dX7_nearerSide_31 : decode cX7_nearerSide 31 = .ok (.lload_n 3, 1) := by decide +kernel
theorem dX7_nearerSide_32 : decode cX7_nearerSide 32 = .ok (.lload 7, 2) := by decide +kernel
theorem dX7_nearerSide_34 : decode cX7_nearerSide 34 = .ok (.lmul, 1) := by decide +kernel
theorem dX7_nearerSide_35 : decode cX7_nearerSide 35 = .ok (.lload 5, 2) := by decide +kernel
theorem dX7_nearerSide_37 : decode cX7_nearerSide 37 = .ok (.aload_n 2, 1) := by decide +kernel
theorem dX7_nearerSide_38 : decode cX7_nearerSide 38 = .ok (.iconst 0, 1) := by decide +kernel
theorem dX7_nearerSide_39 : decode cX7_nearerSide 39 = .ok (.invokevirtual 110, 3) := by decide +kernel
theorem dX7_nearerSide_42 : decode cX7_nearerSide 42 = .ok (.lmul, 1) := by decide +kernel
theorem dX7_nearerSide_43 : decode cX7_nearerSide 43 = .ok (.lsub, 1) := by decide +kernel
theorem dX7_nearerSide_44 : decode cX7_nearerSide 44 = .ok (.lload 9, 2) := by decide +kernel
theorem dX7_nearerSide_46 : decode cX7_nearerSide 46 = .ok (.lmul, 1) := by decide +kernel
theorem dX7_nearerSide_47 : decode cX7_nearerSide 47 = .ok (.lstore 11, 2) := by decide +kernel
theorem dX7_nearerSide_49 : decode cX7_nearerSide 49 = .ok (.lload 5, 2) := by decide +kernel
theorem dX7_nearerSide_51 : decode cX7_nearerSide 51 = .ok (.aload_n 2, 1) := by decide +kernel
theorem dX7_nearerSide_52 : decode cX7_nearerSide 52 = .ok (.iconst 1, 1) := by decide +kernel
theorem dX7_nearerSide_53 : decode cX7_nearerSide 53 = .ok (.invokevirtual 110, 3) := by decide +kernel
theorem dX7_nearerSide_56 : decode cX7_nearerSide 56 = .ok (.lmul, 1) := by decide +kernel
theorem dX7_nearerSide_57 : decode cX7_nearerSide 57 = .ok (.lload_n 3, 1) := by decide +kernel
theorem dX7_nearerSide_58 : decode cX7_nearerSide 58 = .ok (.lload 9, 2) := by decide +kernel
theorem dX7_nearerSide_60 : decode cX7_nearerSide 60 = .ok (.lmul, 1) := by decide +kernel
theorem dX7_nearerSide_61 : decode cX7_nearerSide 61 = .ok (.lsub, 1) := by decide +kernel
theorem dX7_nearerSide_62 : decode cX7_nearerSide 62 = .ok (.lload 7, 2) := by decide +kernel
theorem dX7_nearerSide_64 : decode cX7_nearerSide 64 = .ok (.lmul, 1) := by decide +kernel
theorem dX7_nearerSide_65 : decode cX7_nearerSide 65 = .ok (.lstore 13, 2) := by decide +kernel
theorem dX7_nearerSide_67 : decode cX7_nearerSide 67 = .ok (.lload 11, 2) := by decide +kernel
theorem dX7_nearerSide_69 : decode cX7_nearerSide 69 = .ok (.lload 13, 2) := by decide +kernel
theorem dX7_nearerSide_71 : decode cX7_nearerSide 71 = .ok (.lcmp, 1) := by decide +kernel
theorem dX7_nearerSide_72 : decode cX7_nearerSide 72 = .ok (.ifCond .ne 17, 3) := by decide +kernel
theorem dX7_nearerSide_75 : decode cX7_nearerSide 75 = .ok (.lload 7, 2) := by decide +kernel
theorem dX7_nearerSide_77 : decode cX7_nearerSide 77 = .ok (.lload 9, 2) := by decide +kernel
theorem dX7_nearerSide_79 : decode cX7_nearerSide 79 = .ok (.lcmp, 1) := by decide +kernel
theorem dX7_nearerSide_80 : decode cX7_nearerSide 80 = .ok (.ifCond .gt 7, 3) := by decide +kernel
theorem dX7_nearerSide_83 : decode cX7_nearerSide 83 = .ok (.iconst 0, 1) := by decide +kernel
theorem dX7_nearerSide_84 : decode cX7_nearerSide 84 = .ok (.goto 4, 3) := by decide +kernel
theorem dX7_nearerSide_87 : decode cX7_nearerSide 87 = .ok (.iconst 1, 1) := by decide +kernel
theorem dX7_nearerSide_88 : decode cX7_nearerSide 88 = .ok (.ireturn, 1) := by decide +kernel
theorem dX7_nearerSide_89 : decode cX7_nearerSide 89 = .ok (.lload 11, 2) := by decide +kernel
theorem dX7_nearerSide_91 : decode cX7_nearerSide 91 = .ok (.lload 13, 2) := by decide +kernel
theorem dX7_nearerSide_93 : decode cX7_nearerSide 93 = .ok (.lcmp, 1) := by decide +kernel
theorem dX7_nearerSide_94 : decode cX7_nearerSide 94 = .ok (.ifCond .ge 7, 3) := by decide +kernel
theorem dX7_nearerSide_97 : decode cX7_nearerSide 97 = .ok (.iconst 0, 1) := by decide +kernel
theorem dX7_nearerSide_98 : decode cX7_nearerSide 98 = .ok (.goto 4, 3) := by decide +kernel
theorem dX7_nearerSide_101 : decode cX7_nearerSide 101 = .ok (.iconst 1, 1) := by decide +kernel
theorem dX7_nearerSide_102 : decode cX7_nearerSide 102 = .ok (.ireturn, 1) := by decide +kernel
set_option maxRecDepth 20000 in
theorem ggX7_collectRanked_X4_clear : GoodIn wsX7_collectRanked wsX4_clear := goodIn_r _ [6, 7, 8, 78, 79, 80, 81, 82] (by decide +kernel) (by decide +kernel)
set_option maxRecDepth 20000 in
theorem gX7_collectRanked_X4_clear : GoodIn wsX7_collectRanked (wsV RX7 259 RX4 yX4_clear wsX4_clear) := goodIn_app (goodIn_of _ (by decide +kernel)) ggX7_collectRanked_X4_clear
set_option maxRecDepth 20000 in
theorem ggX7_collectRanked_X7_isBetween : GoodIn wsX7_collectRanked wsX7_isBetween := goodIn_r _ [13, 14, 15, 62, 63, 64, 65, 66, 67, 68, 69, 70, 71, 72, 73, 74, 75, 76, 77] (by decide +kernel) (by decide +kernel)
set_option maxRecDepth 20000 in
theorem gX7_collectRanked_X7_isBetween : GoodIn wsX7_collectRanked (wsV RX7 262 RX7 yX7_isBetween wsX7_isBetween) := goodIn_app (goodIn_of _ (by decide +kernel)) ggX7_collectRanked_X7_isBetween
set_option maxRecDepth 20000 in
theorem ggX7_collectRanked_X7_gcd : GoodIn wsX7_collectRanked wsX7_gcd := goodIn_r _ [18] (by decide +kernel) (by decide +kernel)
set_option maxRecDepth 20000 in
theorem gX7_collectRanked_X7_gcd : GoodIn wsX7_collectRanked (va_wsS RX7 189 yX7_gcd wsX7_gcd) := goodIn_app (goodIn_of _ (by decide +kernel)) ggX7_collectRanked_X7_gcd
set_option maxRecDepth 20000 in
theorem ggX7_collectRanked_X7_measureOf : GoodIn wsX7_collectRanked wsX7_measureOf := goodIn_r _ [22, 23, 24, 25, 26, 27, 28, 29, 30, 31, 32, 33, 34, 35, 36, 37, 38, 39, 40, 41, 42, 43, 44, 45, 46, 47, 48, 49, 50, 51, 52, 53, 54, 62, 63, 64, 65, 66, 67, 68, 69, 70, 71, 72, 73, 74, 75, 76, 77, 83, 84, 85, 86, 87, 88] (by decide +kernel) (by decide +kernel)
set_option maxRecDepth 20000 in
theorem gX7_collectRanked_X7_measureOf : GoodIn wsX7_collectRanked (wsV RX7 266 RX7 yX7_measureOf wsX7_measureOf) := goodIn_app (goodIn_of _ (by decide +kernel)) ggX7_collectRanked_X7_measureOf
set_option maxRecDepth 20000 in
theorem ggX7_collectRanked_X4_add : GoodIn wsX7_collectRanked wsX4_add := goodIn_r _ [58, 7, 59, 60, 61, 8, 78, 79, 80, 81, 82] (by decide +kernel) (by decide +kernel)
set_option maxRecDepth 20000 in
theorem gX7_collectRanked_X4_add : GoodIn wsX7_collectRanked (wsV RX7 269 RX4 yX4_add wsX4_add) := goodIn_app (goodIn_of _ (by decide +kernel)) ggX7_collectRanked_X4_add
theorem dX7_collectRanked_0 : decode cX7_collectRanked 0 = .ok (.aload_n 0, 1) := by decide +kernel
theorem dX7_collectRanked_1 : decode cX7_collectRanked 1 = .ok (.getfield 58, 3) := by decide +kernel
theorem dX7_collectRanked_4 : decode cX7_collectRanked 4 = .ok (.invokevirtual 259, 3) := by decide +kernel
theorem dX7_collectRanked_7 : decode cX7_collectRanked 7 = .ok (.iconst 1, 1) := by decide +kernel
theorem dX7_collectRanked_8 : decode cX7_collectRanked 8 = .ok (.istore 4, 2) := by decide +kernel
theorem dX7_collectRanked_10 : decode cX7_collectRanked 10 = .ok (.iload 4, 2) := by decide +kernel
theorem dX7_collectRanked_12 : decode cX7_collectRanked 12 = .ok (.bipush 24, 2) := by decide +kernel
theorem dX7_collectRanked_14 : decode cX7_collectRanked 14 = .ok (.if_icmp .gt 74, 3) := by decide +kernel
theorem dX7_collectRanked_17 : decode cX7_collectRanked 17 = .ok (.iconst 1, 1) := by decide +kernel
theorem dX7_collectRanked_18 : decode cX7_collectRanked 18 = .ok (.istore 5, 2) := by decide +kernel
theorem dX7_collectRanked_20 : decode cX7_collectRanked 20 = .ok (.iload 5, 2) := by decide +kernel
theorem dX7_collectRanked_22 : decode cX7_collectRanked 22 = .ok (.iconst 4, 1) := by decide +kernel
theorem dX7_collectRanked_23 : decode cX7_collectRanked 23 = .ok (.iload 4, 2) := by decide +kernel
theorem dX7_collectRanked_25 : decode cX7_collectRanked 25 = .ok (.imul, 1) := by decide +kernel
theorem dX7_collectRanked_26 : decode cX7_collectRanked 26 = .ok (.if_icmp .ge 56, 3) := by decide +kernel
theorem dX7_collectRanked_29 : decode cX7_collectRanked 29 = .ok (.aload_n 0, 1) := by decide +kernel
theorem dX7_collectRanked_30 : decode cX7_collectRanked 30 = .ok (.iload_n 1, 1) := by decide +kernel
theorem dX7_collectRanked_31 : decode cX7_collectRanked 31 = .ok (.iload_n 2, 1) := by decide +kernel
theorem dX7_collectRanked_32 : decode cX7_collectRanked 32 = .ok (.iload 5, 2) := by decide +kernel
theorem dX7_collectRanked_34 : decode cX7_collectRanked 34 = .ok (.iload 4, 2) := by decide +kernel
theorem dX7_collectRanked_36 : decode cX7_collectRanked 36 = .ok (.invokevirtual 262, 3) := by decide +kernel
theorem dX7_collectRanked_39 : decode cX7_collectRanked 39 = .ok (.ifCond .eq 37, 3) := by decide +kernel
theorem dX7_collectRanked_42 : decode cX7_collectRanked 42 = .ok (.iload 5, 2) := by decide +kernel
theorem dX7_collectRanked_44 : decode cX7_collectRanked 44 = .ok (.i2l, 1) := by decide +kernel
theorem dX7_collectRanked_45 : decode cX7_collectRanked 45 = .ok (.iload 4, 2) := by decide +kernel
theorem dX7_collectRanked_47 : decode cX7_collectRanked 47 = .ok (.i2l, 1) := by decide +kernel
theorem dX7_collectRanked_48 : decode cX7_collectRanked 48 = .ok (.invokestatic 189, 3) := by decide +kernel
theorem dX7_collectRanked_51 : decode cX7_collectRanked 51 = .ok (.lconst 1, 1) := by decide +kernel
theorem dX7_collectRanked_52 : decode cX7_collectRanked 52 = .ok (.lcmp, 1) := by decide +kernel
theorem dX7_collectRanked_53 : decode cX7_collectRanked 53 = .ok (.ifCond .ne 23, 3) := by decide +kernel
theorem dX7_collectRanked_56 : decode cX7_collectRanked 56 = .ok (.aload_n 0, 1) := by decide +kernel
theorem dX7_collectRanked_57 : decode cX7_collectRanked 57 = .ok (.getfield 58, 3) := by decide +kernel
theorem dX7_collectRanked_60 : decode cX7_collectRanked 60 = .ok (.iload 5, 2) := by decide +kernel
theorem dX7_collectRanked_62 : decode cX7_collectRanked 62 = .ok (.iload 4, 2) := by decide +kernel
theorem dX7_collectRanked_64 : decode cX7_collectRanked 64 = .ok (.aload_n 0, 1) := by decide +kernel
theorem dX7_collectRanked_65 : decode cX7_collectRanked 65 = .ok (.iload_n 3, 1) := by decide +kernel
theorem dX7_collectRanked_66 : decode cX7_collectRanked 66 = .ok (.iload 5, 2) := by decide +kernel
theorem dX7_collectRanked_68 : decode cX7_collectRanked 68 = .ok (.iload 4, 2) := by decide +kernel
theorem dX7_collectRanked_70 : decode cX7_collectRanked 70 = .ok (.invokevirtual 266, 3) := by decide +kernel
theorem dX7_collectRanked_73 : decode cX7_collectRanked 73 = .ok (.invokevirtual 269, 3) := by decide +kernel
theorem dX7_collectRanked_76 : decode cX7_collectRanked 76 = .ok (.iinc 5 1, 3) := by decide +kernel
theorem dX7_collectRanked_79 : decode cX7_collectRanked 79 = .ok (.goto (-59), 3) := by decide +kernel
theorem dX7_collectRanked_82 : decode cX7_collectRanked 82 = .ok (.iinc 4 1, 3) := by decide +kernel
theorem dX7_collectRanked_85 : decode cX7_collectRanked 85 = .ok (.goto (-75), 3) := by decide +kernel
theorem dX7_collectRanked_88 : decode cX7_collectRanked 88 = .ok (.return_, 1) := by decide +kernel
theorem dX7_isBetween_0 : decode cX7_isBetween 0 = .ok (.aload_n 0, 1) := by decide +kernel
theorem dX7_isBetween_1 : decode cX7_isBetween 1 = .ok (.getfield 9, 3) := by decide +kernel
theorem dX7_isBetween_4 : decode cX7_isBetween 4 = .ok (.iload_n 1, 1) := by decide +kernel
theorem dX7_isBetween_5 : decode cX7_isBetween 5 = .ok (.iaload, 1) := by decide +kernel
theorem dX7_isBetween_6 : decode cX7_isBetween 6 = .ok (.i2l, 1) := by decide +kernel
theorem dX7_isBetween_7 : decode cX7_isBetween 7 = .ok (.iload 4, 2) := by decide +kernel
theorem dX7_isBetween_9 : decode cX7_isBetween 9 = .ok (.i2l, 1) := by decide +kernel
theorem dX7_isBetween_10 : decode cX7_isBetween 10 = .ok (.lmul, 1) := by decide +kernel
theorem dX7_isBetween_11 : decode cX7_isBetween 11 = .ok (.iload_n 3, 1) := by decide +kernel
theorem dX7_isBetween_12 : decode cX7_isBetween 12 = .ok (.i2l, 1) := by decide +kernel
theorem dX7_isBetween_13 : decode cX7_isBetween 13 = .ok (.aload_n 0, 1) := by decide +kernel
theorem dX7_isBetween_14 : decode cX7_isBetween 14 = .ok (.getfield 13, 3) := by decide +kernel
theorem dX7_isBetween_17 : decode cX7_isBetween 17 = .ok (.iload_n 1, 1) := by decide +kernel
theorem dX7_isBetween_18 : decode cX7_isBetween 18 = .ok (.iaload, 1) := by decide +kernel
theorem dX7_isBetween_19 : decode cX7_isBetween 19 = .ok (.i2l, 1) := by decide +kernel
theorem dX7_isBetween_20 : decode cX7_isBetween 20 = .ok (.lmul, 1) := by decide +kernel
theorem dX7_isBetween_21 : decode cX7_isBetween 21 = .ok (.lcmp, 1) := by decide +kernel
theorem dX7_isBetween_22 : decode cX7_isBetween 22 = .ok (.ifCond .ge 32, 3) := by decide +kernel
theorem dX7_isBetween_25 : decode cX7_isBetween 25 = .ok (.iload_n 3, 1) := by decide +kernel
theorem dX7_isBetween_26 : decode cX7_isBetween 26 = .ok (.i2l, 1) := by decide +kernel
theorem dX7_isBetween_27 : decode cX7_isBetween 27 = .ok (.aload_n 0, 1) := by decide +kernel
theorem dX7_isBetween_28 : decode cX7_isBetween 28 = .ok (.getfield 13, 3) := by decide +kernel
theorem dX7_isBetween_31 : decode cX7_isBetween 31 = .ok (.iload_n 2, 1) := by decide +kernel
theorem dX7_isBetween_32 : decode cX7_isBetween 32 = .ok (.iaload, 1) := by decide +kernel
theorem dX7_isBetween_33 : decode cX7_isBetween 33 = .ok (.i2l, 1) := by decide +kernel
theorem dX7_isBetween_34 : decode cX7_isBetween 34 = .ok (.lmul, 1) := by decide +kernel
theorem dX7_isBetween_35 : decode cX7_isBetween 35 = .ok (.aload_n 0, 1) := by decide +kernel
theorem dX7_isBetween_36 : decode cX7_isBetween 36 = .ok (.getfield 9, 3) := by decide +kernel
theorem dX7_isBetween_39 : decode cX7_isBetween 39 = .ok (.iload_n 2, 1) := by decide +kernel
theorem dX7_isBetween_40 : decode cX7_isBetween 40 = .ok (.iaload, 1) := by decide +kernel
theorem dX7_isBetween_41 : decode cX7_isBetween 41 = .ok (.i2l, 1) := by decide +kernel
theorem dX7_isBetween_42 : decode cX7_isBetween 42 = .ok (.iload 4, 2) := by decide +kernel
theorem dX7_isBetween_44 : decode cX7_isBetween 44 = .ok (.i2l, 1) := by decide +kernel
theorem dX7_isBetween_45 : decode cX7_isBetween 45 = .ok (.lmul, 1) := by decide +kernel
theorem dX7_isBetween_46 : decode cX7_isBetween 46 = .ok (.lcmp, 1) := by decide +kernel
theorem dX7_isBetween_47 : decode cX7_isBetween 47 = .ok (.ifCond .ge 7, 3) := by decide +kernel
theorem dX7_isBetween_50 : decode cX7_isBetween 50 = .ok (.iconst 1, 1) := by decide +kernel
theorem dX7_isBetween_51 : decode cX7_isBetween 51 = .ok (.goto 4, 3) := by decide +kernel
theorem dX7_isBetween_54 : decode cX7_isBetween 54 = .ok (.iconst 0, 1) := by decide +kernel
theorem dX7_isBetween_55 : decode cX7_isBetween 55 = .ok (.ireturn, 1) := by decide +kernel
set_option maxRecDepth 20000 in
theorem ggX7_measureOf_X1_expand : GoodIn wsX7_measureOf wsX1_expand := goodIn_r _ [6, 7, 8, 9, 10, 5, 11, 12, 49, 50, 51, 52, 53, 54] (by decide +kernel) (by decide +kernel)
set_option maxRecDepth 20000 in
theorem gX7_measureOf_X1_expand : GoodIn wsX7_measureOf (wsV RX7 117 RX1 yX1_expand wsX1_expand) := goodIn_app (goodIn_of _ (by decide +kernel)) ggX7_measureOf_X1_expand
set_option maxRecDepth 20000 in
theorem ggX7_measureOf_X1_stepCount : GoodIn wsX7_measureOf wsX1_stepCount := goodIn_r _ [16, 7, 17, 18, 19, 5, 20, 21, 22, 23, 24, 12, 49, 50, 51, 52, 53, 54] (by decide +kernel) (by decide +kernel)
set_option maxRecDepth 20000 in
theorem gX7_measureOf_X1_stepCount : GoodIn wsX7_measureOf (wsV RX7 85 RX1 yX1_stepCount wsX1_stepCount) := goodIn_app (goodIn_of _ (by decide +kernel)) ggX7_measureOf_X1_stepCount
set_option maxRecDepth 20000 in
theorem ggX7_measureOf_X1_greatest : GoodIn wsX7_measureOf wsX1_greatest := goodIn_r _ [28, 7, 12, 49, 50, 51, 52, 53, 54] (by decide +kernel) (by decide +kernel)
set_option maxRecDepth 20000 in
theorem gX7_measureOf_X1_greatest : GoodIn wsX7_measureOf (wsV RX7 272 RX1 yX1_greatest wsX1_greatest) := goodIn_app (goodIn_of _ (by decide +kernel)) ggX7_measureOf_X1_greatest
set_option maxRecDepth 20000 in
theorem ggX7_measureOf_X1_size : GoodIn wsX7_measureOf wsX1_size := goodIn_r _ [32, 7, 49, 50, 51, 52, 53, 54] (by decide +kernel) (by decide +kernel)
set_option maxRecDepth 20000 in
theorem gX7_measureOf_X1_size : GoodIn wsX7_measureOf (wsV RX7 93 RX1 yX1_size wsX1_size) := goodIn_app (goodIn_of _ (by decide +kernel)) ggX7_measureOf_X1_size
theorem dX7_measureOf_0 : decode cX7_measureOf 0 = .ok (.aload_n 0, 1) := by decide +kernel
theorem dX7_measureOf_1 : decode cX7_measureOf 1 = .ok (.getfield 48, 3) := by decide +kernel
theorem dX7_measureOf_4 : decode cX7_measureOf 4 = .ok (.iload_n 2, 1) := by decide +kernel
theorem dX7_measureOf_5 : decode cX7_measureOf 5 = .ok (.iload_n 3, 1) := by decide +kernel
theorem dX7_measureOf_6 : decode cX7_measureOf 6 = .ok (.invokevirtual 117, 3) := by decide +kernel
theorem dX7_measureOf_9 : decode cX7_measureOf 9 = .ok (.iload_n 1, 1) := by decide +kernel
theorem dX7_measureOf_10 : decode cX7_measureOf 10 = .ok (.tableswitch 52 0 3 #[30, 32, 36, 44], 30) := by decide +kernel
theorem dX7_measureOf_40 : decode cX7_measureOf 40 = .ok (.iload_n 3, 1) := by decide +kernel
theorem dX7_measureOf_41 : decode cX7_measureOf 41 = .ok (.ireturn, 1) := by decide +kernel
theorem dX7_measureOf_42 : decode cX7_measureOf 42 = .ok (.iload_n 2, 1) := by decide +kernel
theorem dX7_measureOf_43 : decode cX7_measureOf 43 = .ok (.iload_n 3, 1) := by decide +kernel
theorem dX7_measureOf_44 : decode cX7_measureOf 44 = .ok (.iadd, 1) := by decide +kernel
theorem dX7_measureOf_45 : decode cX7_measureOf 45 = .ok (.ireturn, 1) := by decide +kernel
theorem dX7_measureOf_46 : decode cX7_measureOf 46 = .ok (.aload_n 0, 1) := by decide +kernel
theorem dX7_measureOf_47 : decode cX7_measureOf 47 = .ok (.getfield 48, 3) := by decide +kernel
theorem dX7_measureOf_50 : decode cX7_measureOf 50 = .ok (.invokevirtual 85, 3) := by decide +kernel
theorem dX7_measureOf_53 : decode cX7_measureOf 53 = .ok (.ireturn, 1) := by decide +kernel
theorem dX7_measureOf_54 : decode cX7_measureOf 54 = .ok (.aload_n 0, 1) := by decide +kernel
theorem dX7_measureOf_55 : decode cX7_measureOf 55 = .ok (.getfield 48, 3) := by decide +kernel
theorem dX7_measureOf_58 : decode cX7_measureOf 58 = .ok (.invokevirtual 272, 3) := by decide +kernel
theorem dX7_measureOf_61 : decode cX7_measureOf 61 = .ok (.ireturn, 1) := by decide +kernel
theorem dX7_measureOf_62 : decode cX7_measureOf 62 = .ok (.aload_n 0, 1) := by decide +kernel
theorem dX7_measureOf_63 : decode cX7_measureOf 63 = .ok (.getfield 48, 3) := by decide +kernel
theorem dX7_measureOf_66 : decode cX7_measureOf 66 = .ok (.invokevirtual 93, 3) := by decide +kernel
theorem dX7_measureOf_69 : decode cX7_measureOf 69 = .ok (.ineg, 1) := by decide +kernel
theorem dX7_measureOf_70 : decode cX7_measureOf 70 = .ok (.ireturn, 1) := by decide +kernel
theorem dX7_wordSize_0 : decode cX7_wordSize 0 = .ok (.aload_n 0, 1) := by decide +kernel
theorem dX7_wordSize_1 : decode cX7_wordSize 1 = .ok (.getfield 9, 3) := by decide +kernel
theorem dX7_wordSize_4 : decode cX7_wordSize 4 = .ok (.iload_n 1, 1) := by decide +kernel
theorem dX7_wordSize_5 : decode cX7_wordSize 5 = .ok (.iaload, 1) := by decide +kernel
theorem dX7_wordSize_6 : decode cX7_wordSize 6 = .ok (.aload_n 0, 1) := by decide +kernel
theorem dX7_wordSize_7 : decode cX7_wordSize 7 = .ok (.getfield 13, 3) := by decide +kernel
theorem dX7_wordSize_10 : decode cX7_wordSize 10 = .ok (.iload_n 1, 1) := by decide +kernel
theorem dX7_wordSize_11 : decode cX7_wordSize 11 = .ok (.iaload, 1) := by decide +kernel
theorem dX7_wordSize_12 : decode cX7_wordSize 12 = .ok (.iadd, 1) := by decide +kernel
theorem dX7_wordSize_13 : decode cX7_wordSize 13 = .ok (.ireturn, 1) := by decide +kernel
set_option maxRecDepth 20000 in
theorem ggX7_letterOf_X7_remainder : GoodIn wsX7_letterOf wsX7_remainder := goodIn_r _ [4] (by decide +kernel) (by decide +kernel)
set_option maxRecDepth 20000 in
theorem gX7_letterOf_X7_remainder : GoodIn wsX7_letterOf (va_wsS RX7 275 yX7_remainder wsX7_remainder) := goodIn_app (goodIn_of _ (by decide +kernel)) ggX7_letterOf_X7_remainder
theorem dX7_letterOf_0 : decode cX7_letterOf 0 = .ok (.lload_n 0, 1) := by decide +kernel
theorem dX7_letterOf_1 : decode cX7_letterOf 1 = .ok (.lload_n 2, 1) := by decide +kernel
theorem dX7_letterOf_2 : decode cX7_letterOf 2 = .ok (.ladd, 1) := by decide +kernel
theorem dX7_letterOf_3 : decode cX7_letterOf 3 = .ok (.lstore 6, 2) := by decide +kernel
theorem dX7_letterOf_5 : decode cX7_letterOf 5 = .ok (.lload 4, 2) := by decide +kernel
theorem dX7_letterOf_7 : decode cX7_letterOf 7 = .ok (.lconst 1, 1) := by decide +kernel
theorem dX7_letterOf_8 : decode cX7_letterOf 8 = .ok (.ladd, 1) := by decide +kernel
theorem dX7_letterOf_9 : decode cX7_letterOf 9 = .ok (.lload_n 0, 1) := by decide +kernel
theorem dX7_letterOf_10 : decode cX7_letterOf 10 = .ok (.lmul, 1) := by decide +kernel
theorem dX7_letterOf_11 : decode cX7_letterOf 11 = .ok (.lload 6, 2) := by decide +kernel
theorem dX7_letterOf_13 : decode cX7_letterOf 13 = .ok (.invokestatic 275, 3) := by decide +kernel
theorem dX7_letterOf_16 : decode cX7_letterOf 16 = .ok (.lload 4, 2) := by decide +kernel
theorem dX7_letterOf_18 : decode cX7_letterOf 18 = .ok (.lload_n 0, 1) := by decide +kernel
theorem dX7_letterOf_19 : decode cX7_letterOf 19 = .ok (.lmul, 1) := by decide +kernel
theorem dX7_letterOf_20 : decode cX7_letterOf 20 = .ok (.lload 6, 2) := by decide +kernel
theorem dX7_letterOf_22 : decode cX7_letterOf 22 = .ok (.invokestatic 275, 3) := by decide +kernel
theorem dX7_letterOf_25 : decode cX7_letterOf 25 = .ok (.lcmp, 1) := by decide +kernel
theorem dX7_letterOf_26 : decode cX7_letterOf 26 = .ok (.ifCond .le 7, 3) := by decide +kernel
theorem dX7_letterOf_29 : decode cX7_letterOf 29 = .ok (.iconst 0, 1) := by decide +kernel
theorem dX7_letterOf_30 : decode cX7_letterOf 30 = .ok (.goto 4, 3) := by decide +kernel
theorem dX7_letterOf_33 : decode cX7_letterOf 33 = .ok (.iconst 1, 1) := by decide +kernel
theorem dX7_letterOf_34 : decode cX7_letterOf 34 = .ok (.ireturn, 1) := by decide +kernel
theorem dX7_onesOfWord_0 : decode cX7_onesOfWord 0 = .ok (.iconst 0, 1) := by decide +kernel
theorem dX7_onesOfWord_1 : decode cX7_onesOfWord 1 = .ok (.istore_n 2, 1) := by decide +kernel
theorem dX7_onesOfWord_2 : decode cX7_onesOfWord 2 = .ok (.iconst 0, 1) := by decide +kernel
theorem dX7_onesOfWord_3 : decode cX7_onesOfWord 3 = .ok (.istore_n 3, 1) := by decide +kernel
theorem dX7_onesOfWord_4 : decode cX7_onesOfWord 4 = .ok (.iload_n 3, 1) := by decide +kernel
theorem dX7_onesOfWord_5 : decode cX7_onesOfWord 5 = .ok (.aload_n 0, 1) := by decide +kernel
theorem dX7_onesOfWord_6 : decode cX7_onesOfWord 6 = .ok (.getfield 42, 3) := by decide +kernel
theorem dX7_onesOfWord_9 : decode cX7_onesOfWord 9 = .ok (.iload_n 1, 1) := by decide +kernel
theorem dX7_onesOfWord_10 : decode cX7_onesOfWord 10 = .ok (.iaload, 1) := by decide +kernel
theorem dX7_onesOfWord_11 : decode cX7_onesOfWord 11 = .ok (.if_icmp .ge 37, 3) := by decide +kernel
theorem dX7_onesOfWord_14 : decode cX7_onesOfWord 14 = .ok (.aload_n 0, 1) := by decide +kernel
theorem dX7_onesOfWord_15 : decode cX7_onesOfWord 15 = .ok (.getfield 39, 3) := by decide +kernel
theorem dX7_onesOfWord_18 : decode cX7_onesOfWord 18 = .ok (.iload_n 1, 1) := by decide +kernel
theorem dX7_onesOfWord_19 : decode cX7_onesOfWord 19 = .ok (.aaload, 1) := by decide +kernel
theorem dX7_onesOfWord_20 : decode cX7_onesOfWord 20 = .ok (.iload_n 3, 1) := by decide +kernel
theorem dX7_onesOfWord_21 : decode cX7_onesOfWord 21 = .ok (.iaload, 1) := by decide +kernel
theorem dX7_onesOfWord_22 : decode cX7_onesOfWord 22 = .ok (.istore 4, 2) := by decide +kernel
theorem dX7_onesOfWord_24 : decode cX7_onesOfWord 24 = .ok (.iload 4, 2) := by decide +kernel
theorem dX7_onesOfWord_26 : decode cX7_onesOfWord 26 = .ok (.ifCond .eq 11, 3) := by decide +kernel
theorem dX7_onesOfWord_29 : decode cX7_onesOfWord 29 = .ok (.iload 4, 2) := by decide +kernel
theorem dX7_onesOfWord_31 : decode cX7_onesOfWord 31 = .ok (.iconst 1, 1) := by decide +kernel
theorem dX7_onesOfWord_32 : decode cX7_onesOfWord 32 = .ok (.if_icmp .eq 5, 3) := by decide +kernel
theorem dX7_onesOfWord_35 : decode cX7_onesOfWord 35 = .ok (.iconst 0, 1) := by decide +kernel
theorem dX7_onesOfWord_36 : decode cX7_onesOfWord 36 = .ok (.ireturn, 1) := by decide +kernel
theorem dX7_onesOfWord_37 : decode cX7_onesOfWord 37 = .ok (.iload_n 2, 1) := by decide +kernel
theorem dX7_onesOfWord_38 : decode cX7_onesOfWord 38 = .ok (.iload 4, 2) := by decide +kernel
theorem dX7_onesOfWord_40 : decode cX7_onesOfWord 40 = .ok (.iadd, 1) := by decide +kernel
theorem dX7_onesOfWord_41 : decode cX7_onesOfWord 41 = .ok (.istore_n 2, 1) := by decide +kernel
theorem dX7_onesOfWord_42 : decode cX7_onesOfWord 42 = .ok (.iinc 3 1, 3) := by decide +kernel
theorem dX7_onesOfWord_45 : decode cX7_onesOfWord 45 = .ok (.goto (-41), 3) := by decide +kernel
theorem dX7_onesOfWord_48 : decode cX7_onesOfWord 48 = .ok (.iload_n 2, 1) := by decide +kernel
theorem dX7_onesOfWord_49 : decode cX7_onesOfWord 49 = .ok (.ireturn, 1) := by decide +kernel
set_option maxRecDepth 20000 in
theorem ggX7_classOfWord_X7_isRotatedWord : GoodIn wsX7_classOfWord wsX7_isRotatedWord := goodIn_r _ [6, 1, 7, 8, 9, 5, 10, 11, 12, 13, 18, 19, 20, 21, 22, 23, 24, 25, 26, 27, 28, 29, 30, 31, 32, 33] (by decide +kernel) (by decide +kernel)
set_option maxRecDepth 20000 in
theorem gX7_classOfWord_X7_isRotatedWord : GoodIn wsX7_classOfWord (wsV RX7 278 RX7 yX7_isRotatedWord wsX7_isRotatedWord) := goodIn_app (goodIn_of _ (by decide +kernel)) ggX7_classOfWord_X7_isRotatedWord
set_option maxRecDepth 20000 in
theorem ggX7_classOfWord_X7_isReversedWord : GoodIn wsX7_classOfWord wsX7_isReversedWord := goodIn_r _ [17, 1, 7, 11, 12, 5, 13, 8, 9, 10, 18, 19, 20, 21, 22, 23, 24, 25, 26, 27, 28, 29, 30, 31, 32, 33] (by decide +kernel) (by decide +kernel)
set_option maxRecDepth 20000 in
theorem gX7_classOfWord_X7_isReversedWord : GoodIn wsX7_classOfWord (wsV RX7 281 RX7 yX7_isReversedWord wsX7_isReversedWord) := goodIn_app (goodIn_of _ (by decide +kernel)) ggX7_classOfWord_X7_isReversedWord
theorem dX7_classOfWord_0 : decode cX7_classOfWord 0 = .ok (.aload_n 0, 1) := by decide +kernel
theorem dX7_classOfWord_1 : decode cX7_classOfWord 1 = .ok (.iload_n 1, 1) := by decide +kernel
theorem dX7_classOfWord_2 : decode cX7_classOfWord 2 = .ok (.iload_n 2, 1) := by decide +kernel
theorem dX7_classOfWord_3 : decode cX7_classOfWord 3 = .ok (.iload_n 3, 1) := by decide +kernel
theorem dX7_classOfWord_4 : decode cX7_classOfWord 4 = .ok (.iconst 0, 1) := by decide +kernel
theorem dX7_classOfWord_5 : decode cX7_classOfWord 5 = .ok (.invokevirtual 278, 3) := by decide +kernel
theorem dX7_classOfWord_8 : decode cX7_classOfWord 8 = .ok (.ifCond .eq 5, 3) := by decide +kernel
theorem dX7_classOfWord_11 : decode cX7_classOfWord 11 = .ok (.iconst 1, 1) := by decide +kernel
theorem dX7_classOfWord_12 : decode cX7_classOfWord 12 = .ok (.ireturn, 1) := by decide +kernel
theorem dX7_classOfWord_13 : decode cX7_classOfWord 13 = .ok (.aload_n 0, 1) := by decide +kernel
theorem dX7_classOfWord_14 : decode cX7_classOfWord 14 = .ok (.iload_n 1, 1) := by decide +kernel
theorem dX7_classOfWord_15 : decode cX7_classOfWord 15 = .ok (.iload_n 2, 1) := by decide +kernel
theorem dX7_classOfWord_16 : decode cX7_classOfWord 16 = .ok (.iload_n 3, 1) := by decide +kernel
theorem dX7_classOfWord_17 : decode cX7_classOfWord 17 = .ok (.invokevirtual 281, 3) := by decide +kernel
theorem dX7_classOfWord_20 : decode cX7_classOfWord 20 = .ok (.ifCond .eq 5, 3) := by decide +kernel
theorem dX7_classOfWord_23 : decode cX7_classOfWord 23 = .ok (.iconst 2, 1) := by decide +kernel
theorem dX7_classOfWord_24 : decode cX7_classOfWord 24 = .ok (.ireturn, 1) := by decide +kernel
theorem dX7_classOfWord_25 : decode cX7_classOfWord 25 = .ok (.iconst 1, 1) := by decide +kernel
theorem dX7_classOfWord_26 : decode cX7_classOfWord 26 = .ok (.istore 4, 2) := by decide +kernel
theorem dX7_classOfWord_28 : decode cX7_classOfWord 28 = .ok (.iload 4, 2) := by decide +kernel
theorem dX7_classOfWord_30 : decode cX7_classOfWord 30 = .ok (.aload_n 0, 1) := by decide +kernel
theorem dX7_classOfWord_31 : decode cX7_classOfWord 31 = .ok (.getfield 42, 3) := by decide +kernel
theorem dX7_classOfWord_34 : decode cX7_classOfWord 34 = .ok (.iload_n 1, 1) := by decide +kernel
theorem dX7_classOfWord_35 : decode cX7_classOfWord 35 = .ok (.iaload, 1) := by decide +kernel
theorem dX7_classOfWord_36 : decode cX7_classOfWord 36 = .ok (.if_icmp .ge 23, 3) := by decide +kernel
theorem dX7_classOfWord_39 : decode cX7_classOfWord 39 = .ok (.aload_n 0, 1) := by decide +kernel
theorem dX7_classOfWord_40 : decode cX7_classOfWord 40 = .ok (.iload_n 1, 1) := by decide +kernel
theorem dX7_classOfWord_41 : decode cX7_classOfWord 41 = .ok (.iload_n 2, 1) := by decide +kernel
theorem dX7_classOfWord_42 : decode cX7_classOfWord 42 = .ok (.iload_n 3, 1) := by decide +kernel
theorem dX7_classOfWord_43 : decode cX7_classOfWord 43 = .ok (.iload 4, 2) := by decide +kernel
theorem dX7_classOfWord_45 : decode cX7_classOfWord 45 = .ok (.invokevirtual 278, 3) := by decide +kernel
theorem dX7_classOfWord_48 : decode cX7_classOfWord 48 = .ok (.ifCond .eq 5, 3) := by decide +kernel
theorem dX7_classOfWord_51 : decode cX7_classOfWord 51 = .ok (.iconst 3, 1) := by decide +kernel
theorem dX7_classOfWord_52 : decode cX7_classOfWord 52 = .ok (.ireturn, 1) := by decide +kernel
theorem dX7_classOfWord_53 : decode cX7_classOfWord 53 = .ok (.iinc 4 1, 3) := by decide +kernel
theorem dX7_classOfWord_56 : decode cX7_classOfWord 56 = .ok (.goto (-28), 3) := by decide +kernel
theorem dX7_classOfWord_59 : decode cX7_classOfWord 59 = .ok (.iconst 0, 1) := by decide +kernel
theorem dX7_classOfWord_60 : decode cX7_classOfWord 60 = .ok (.ireturn, 1) := by decide +kernel
set_option maxRecDepth 20000 in
theorem ggX7_isRotatedWord_X7_remainder : GoodIn wsX7_isRotatedWord wsX7_remainder := goodIn_r _ [6] (by decide +kernel) (by decide +kernel)
set_option maxRecDepth 20000 in
theorem gX7_isRotatedWord_X7_remainder : GoodIn wsX7_isRotatedWord (va_wsS RX7 275 yX7_remainder wsX7_remainder) := goodIn_app (goodIn_of _ (by decide +kernel)) ggX7_isRotatedWord_X7_remainder
set_option maxRecDepth 20000 in
theorem ggX7_isRotatedWord_X7_letterOf : GoodIn wsX7_isRotatedWord wsX7_letterOf := goodIn_r _ [9, 3, 4, 5, 6] (by decide +kernel) (by decide +kernel)
set_option maxRecDepth 20000 in
theorem gX7_isRotatedWord_X7_letterOf : GoodIn wsX7_isRotatedWord (va_wsS RX7 179 yX7_letterOf wsX7_letterOf) := goodIn_app (goodIn_of _ (by decide +kernel)) ggX7_isRotatedWord_X7_letterOf
theorem dX7_isRotatedWord_0 : decode cX7_isRotatedWord 0 = .ok (.iload_n 2, 1) := by decide +kernel
theorem dX7_isRotatedWord_1 : decode cX7_isRotatedWord 1 = .ok (.iload_n 3, 1) := by decide +kernel
theorem dX7_isRotatedWord_2 : decode cX7_isRotatedWord 2 = .ok (.iadd, 1) := by decide +kernel
theorem dX7_isRotatedWord_3 : decode cX7_isRotatedWord 3 = .ok (.istore 5, 2) := by decide +kernel
theorem dX7_isRotatedWord_5 : decode cX7_isRotatedWord 5 = .ok (.iconst 0, 1) := by decide +kernel
theorem dX7_isRotatedWord_6 : decode cX7_isRotatedWord 6 = .ok (.istore 6, 2) := by decide +kernel
theorem dX7_isRotatedWord_8 : decode cX7_isRotatedWord 8 = .ok (.iload 6, 2) := by decide +kernel
theorem dX7_isRotatedWord_10 : decode cX7_isRotatedWord 10 = .ok (.aload_n 0, 1) := by decide +kernel
theorem dX7_isRotatedWord_11 : decode cX7_isRotatedWord 11 = .ok (.getfield 42, 3) := by decide +kernel
theorem dX7_isRotatedWord_14 : decode cX7_isRotatedWord 14 = .ok (.iload_n 1, 1) := by decide +kernel
theorem dX7_isRotatedWord_15 : decode cX7_isRotatedWord 15 = .ok (.iaload, 1) := by decide +kernel
theorem dX7_isRotatedWord_16 : decode cX7_isRotatedWord 16 = .ok (.if_icmp .ge 42, 3) := by decide +kernel
theorem dX7_isRotatedWord_19 : decode cX7_isRotatedWord 19 = .ok (.aload_n 0, 1) := by decide +kernel
theorem dX7_isRotatedWord_20 : decode cX7_isRotatedWord 20 = .ok (.getfield 39, 3) := by decide +kernel
theorem dX7_isRotatedWord_23 : decode cX7_isRotatedWord 23 = .ok (.iload_n 1, 1) := by decide +kernel
theorem dX7_isRotatedWord_24 : decode cX7_isRotatedWord 24 = .ok (.aaload, 1) := by decide +kernel
theorem dX7_isRotatedWord_25 : decode cX7_isRotatedWord 25 = .ok (.iload 6, 2) := by decide +kernel
theorem dX7_isRotatedWord_27 : decode cX7_isRotatedWord 27 = .ok (.iaload, 1) := by decide +kernel
theorem dX7_isRotatedWord_28 : decode cX7_isRotatedWord 28 = .ok (.iload_n 2, 1) := by decide +kernel
theorem dX7_isRotatedWord_29 : decode cX7_isRotatedWord 29 = .ok (.i2l, 1) := by decide +kernel
theorem dX7_isRotatedWord_30 : decode cX7_isRotatedWord 30 = .ok (.iload_n 3, 1) := by decide +kernel
theorem dX7_isRotatedWord_31 : decode cX7_isRotatedWord 31 = .ok (.i2l, 1) := by decide +kernel
theorem dX7_isRotatedWord_32 : decode cX7_isRotatedWord 32 = .ok (.iload 6, 2) := by decide +kernel
theorem dX7_isRotatedWord_34 : decode cX7_isRotatedWord 34 = .ok (.iload 4, 2) := by decide +kernel
theorem dX7_isRotatedWord_36 : decode cX7_isRotatedWord 36 = .ok (.iadd, 1) := by decide +kernel
theorem dX7_isRotatedWord_37 : decode cX7_isRotatedWord 37 = .ok (.i2l, 1) := by decide +kernel
theorem dX7_isRotatedWord_38 : decode cX7_isRotatedWord 38 = .ok (.iload 5, 2) := by decide +kernel
theorem dX7_isRotatedWord_40 : decode cX7_isRotatedWord 40 = .ok (.i2l, 1) := by decide +kernel
theorem dX7_isRotatedWord_41 : decode cX7_isRotatedWord 41 = .ok (.invokestatic 275, 3) := by decide +kernel
theorem dX7_isRotatedWord_44 : decode cX7_isRotatedWord 44 = .ok (.invokestatic 179, 3) := by decide +kernel
theorem dX7_isRotatedWord_47 : decode cX7_isRotatedWord 47 = .ok (.if_icmp .eq 5, 3) := by decide +kernel
theorem dX7_isRotatedWord_50 : decode cX7_isRotatedWord 50 = .ok (.iconst 0, 1) := by decide +kernel
theorem dX7_isRotatedWord_51 : decode cX7_isRotatedWord 51 = .ok (.ireturn, 1) := by decide +kernel
theorem dX7_isRotatedWord_52 : decode cX7_isRotatedWord 52 = .ok (.iinc 6 1, 3) := by decide +kernel
theorem dX7_isRotatedWord_55 : decode cX7_isRotatedWord 55 = .ok (.goto (-47), 3) := by decide +kernel
theorem dX7_isRotatedWord_58 : decode cX7_isRotatedWord 58 = .ok (.iconst 1, 1) := by decide +kernel
theorem dX7_isRotatedWord_59 : decode cX7_isRotatedWord 59 = .ok (.ireturn, 1) := by decide +kernel
set_option maxRecDepth 20000 in
theorem ggX7_isReversedWord_X7_letterOf : GoodIn wsX7_isReversedWord wsX7_letterOf := goodIn_r _ [6, 7, 8, 5, 9] (by decide +kernel) (by decide +kernel)
set_option maxRecDepth 20000 in
theorem gX7_isReversedWord_X7_letterOf : GoodIn wsX7_isReversedWord (va_wsS RX7 179 yX7_letterOf wsX7_letterOf) := goodIn_app (goodIn_of _ (by decide +kernel)) ggX7_isReversedWord_X7_letterOf
theorem dX7_isReversedWord_0 : decode cX7_isReversedWord 0 = .ok (.iload_n 2, 1) := by decide +kernel
theorem dX7_isReversedWord_1 : decode cX7_isReversedWord 1 = .ok (.iload_n 3, 1) := by decide +kernel
theorem dX7_isReversedWord_2 : decode cX7_isReversedWord 2 = .ok (.iadd, 1) := by decide +kernel
theorem dX7_isReversedWord_3 : decode cX7_isReversedWord 3 = .ok (.iconst 1, 1) := by decide +kernel
theorem dX7_isReversedWord_4 : decode cX7_isReversedWord 4 = .ok (.isub, 1) := by decide +kernel
theorem dX7_isReversedWord_5 : decode cX7_isReversedWord 5 = .ok (.istore 4, 2) := by decide +kernel
theorem dX7_isReversedWord_7 : decode cX7_isReversedWord 7 = .ok (.iconst 0, 1) := by decide +kernel
theorem dX7_isReversedWord_8 : decode cX7_isReversedWord 8 = .ok (.istore 5, 2) := by decide +kernel
theorem dX7_isReversedWord_10 : decode cX7_isReversedWord 10 = .ok (.iload 5, 2) := by decide +kernel
theorem dX7_isReversedWord_12 : decode cX7_isReversedWord 12 = .ok (.aload_n 0, 1) := by decide +kernel
theorem dX7_isReversedWord_13 : decode cX7_isReversedWord 13 = .ok (.getfield 42, 3) := by decide +kernel
theorem dX7_isReversedWord_16 : decode cX7_isReversedWord 16 = .ok (.iload_n 1, 1) := by decide +kernel
theorem dX7_isReversedWord_17 : decode cX7_isReversedWord 17 = .ok (.iaload, 1) := by decide +kernel
theorem dX7_isReversedWord_18 : decode cX7_isReversedWord 18 = .ok (.if_icmp .ge 36, 3) := by decide +kernel
theorem dX7_isReversedWord_21 : decode cX7_isReversedWord 21 = .ok (.aload_n 0, 1) := by decide +kernel
theorem dX7_isReversedWord_22 : decode cX7_isReversedWord 22 = .ok (.getfield 39, 3) := by decide +kernel
theorem dX7_isReversedWord_25 : decode cX7_isReversedWord 25 = .ok (.iload_n 1, 1) := by decide +kernel
theorem dX7_isReversedWord_26 : decode cX7_isReversedWord 26 = .ok (.aaload, 1) := by decide +kernel
theorem dX7_isReversedWord_27 : decode cX7_isReversedWord 27 = .ok (.iload 5, 2) := by decide +kernel
theorem dX7_isReversedWord_29 : decode cX7_isReversedWord 29 = .ok (.iaload, 1) := by decide +kernel
theorem dX7_isReversedWord_30 : decode cX7_isReversedWord 30 = .ok (.iload_n 2, 1) := by decide +kernel
theorem dX7_isReversedWord_31 : decode cX7_isReversedWord 31 = .ok (.i2l, 1) := by decide +kernel
theorem dX7_isReversedWord_32 : decode cX7_isReversedWord 32 = .ok (.iload_n 3, 1) := by decide +kernel
theorem dX7_isReversedWord_33 : decode cX7_isReversedWord 33 = .ok (.i2l, 1) := by decide +kernel
theorem dX7_isReversedWord_34 : decode cX7_isReversedWord 34 = .ok (.iload 4, 2) := by decide +kernel
theorem dX7_isReversedWord_36 : decode cX7_isReversedWord 36 = .ok (.iload 5, 2) := by decide +kernel
theorem dX7_isReversedWord_38 : decode cX7_isReversedWord 38 = .ok (.isub, 1) := by decide +kernel
theorem dX7_isReversedWord_39 : decode cX7_isReversedWord 39 = .ok (.i2l, 1) := by decide +kernel
theorem dX7_isReversedWord_40 : decode cX7_isReversedWord 40 = .ok (.invokestatic 179, 3) := by decide +kernel
theorem dX7_isReversedWord_43 : decode cX7_isReversedWord 43 = .ok (.if_icmp .eq 5, 3) := by decide +kernel
theorem dX7_isReversedWord_46 : decode cX7_isReversedWord 46 = .ok (.iconst 0, 1) := by decide +kernel
theorem dX7_isReversedWord_47 : decode cX7_isReversedWord 47 = .ok (.ireturn, 1) := by decide +kernel
theorem dX7_isReversedWord_48 : decode cX7_isReversedWord 48 = .ok (.iinc 5 1, 3) := by decide +kernel
theorem dX7_isReversedWord_51 : decode cX7_isReversedWord 51 = .ok (.goto (-41), 3) := by decide +kernel
theorem dX7_isReversedWord_54 : decode cX7_isReversedWord 54 = .ok (.iconst 1, 1) := by decide +kernel
theorem dX7_isReversedWord_55 : decode cX7_isReversedWord 55 = .ok (.ireturn, 1) := by decide +kernel
theorem dX7_isDigit_0 : decode cX7_isDigit 0 = .ok (.iload_n 0, 1) := by decide +kernel
theorem dX7_isDigit_1 : decode cX7_isDigit 1 = .ok (.bipush 48, 2) := by decide +kernel
theorem dX7_isDigit_3 : decode cX7_isDigit 3 = .ok (.if_icmp .lt 13, 3) := by decide +kernel
theorem dX7_isDigit_6 : decode cX7_isDigit 6 = .ok (.iload_n 0, 1) := by decide +kernel
theorem dX7_isDigit_7 : decode cX7_isDigit 7 = .ok (.bipush 57, 2) := by decide +kernel
theorem dX7_isDigit_9 : decode cX7_isDigit 9 = .ok (.if_icmp .gt 7, 3) := by decide +kernel
theorem dX7_isDigit_12 : decode cX7_isDigit 12 = .ok (.iconst 1, 1) := by decide +kernel
theorem dX7_isDigit_13 : decode cX7_isDigit 13 = .ok (.goto 4, 3) := by decide +kernel
theorem dX7_isDigit_16 : decode cX7_isDigit 16 = .ok (.iconst 0, 1) := by decide +kernel
theorem dX7_isDigit_17 : decode cX7_isDigit 17 = .ok (.ireturn, 1) := by decide +kernel
set_option maxRecDepth 20000 in
theorem ggX7_firstWrongCharacter_X7_isDigit : GoodIn wsX7_firstWrongCharacter wsX7_isDigit := goodIn_r _ [6] (by decide +kernel) (by decide +kernel)
set_option maxRecDepth 20000 in
theorem gX7_firstWrongCharacter_X7_isDigit : GoodIn wsX7_firstWrongCharacter (va_wsS RX7 284 yX7_isDigit wsX7_isDigit) := goodIn_app (goodIn_of _ (by decide +kernel)) ggX7_firstWrongCharacter_X7_isDigit
theorem dX7_firstWrongCharacter_0 : decode cX7_firstWrongCharacter 0 = .ok (.bipush 6, 2) := by decide +kernel
theorem dX7_firstWrongCharacter_2 : decode cX7_firstWrongCharacter 2 = .ok (.istore_n 1, 1) := by decide +kernel
theorem dX7_firstWrongCharacter_3 : decode cX7_firstWrongCharacter 3 = .ok (.iconst 0, 1) := by decide +kernel
theorem dX7_firstWrongCharacter_4 : decode cX7_firstWrongCharacter 4 = .ok (.istore_n 2, 1) := by decide +kernel
theorem dX7_firstWrongCharacter_5 : decode cX7_firstWrongCharacter 5 = .ok (.iload_n 2, 1) := by decide +kernel
theorem dX7_firstWrongCharacter_6 : decode cX7_firstWrongCharacter 6 = .ok (.aload_n 0, 1) := by decide +kernel
theorem dX7_firstWrongCharacter_7 : decode cX7_firstWrongCharacter 7 = .ok (.getfield 202, 3) := by decide +kernel
theorem dX7_firstWrongCharacter_10 : decode cX7_firstWrongCharacter 10 = .ok (.if_icmp .ge 64, 3) := by decide +kernel
theorem dX7_firstWrongCharacter_13 : decode cX7_firstWrongCharacter 13 = .ok (.aload_n 0, 1) := by decide +kernel
theorem dX7_firstWrongCharacter_14 : decode cX7_firstWrongCharacter 14 = .ok (.getfield 34, 3) := by decide +kernel
theorem dX7_firstWrongCharacter_17 : decode cX7_firstWrongCharacter 17 = .ok (.iload_n 2, 1) := by decide +kernel
theorem dX7_firstWrongCharacter_18 : decode cX7_firstWrongCharacter 18 = .ok (.iaload, 1) := by decide +kernel
theorem dX7_firstWrongCharacter_19 : decode cX7_firstWrongCharacter 19 = .ok (.istore_n 3, 1) := by decide +kernel
theorem dX7_firstWrongCharacter_20 : decode cX7_firstWrongCharacter 20 = .ok (.iload_n 3, 1) := by decide +kernel
theorem dX7_firstWrongCharacter_21 : decode cX7_firstWrongCharacter 21 = .ok (.bipush 76, 2) := by decide +kernel
theorem dX7_firstWrongCharacter_23 : decode cX7_firstWrongCharacter 23 = .ok (.if_icmp .eq 9, 3) := by decide +kernel
theorem dX7_firstWrongCharacter_26 : decode cX7_firstWrongCharacter 26 = .ok (.iload_n 3, 1) := by decide +kernel
theorem dX7_firstWrongCharacter_27 : decode cX7_firstWrongCharacter 27 = .ok (.bipush 82, 2) := by decide +kernel
theorem dX7_firstWrongCharacter_29 : decode cX7_firstWrongCharacter 29 = .ok (.if_icmp .ne 8, 3) := by decide +kernel
theorem dX7_firstWrongCharacter_32 : decode cX7_firstWrongCharacter 32 = .ok (.iconst 0, 1) := by decide +kernel
theorem dX7_firstWrongCharacter_33 : decode cX7_firstWrongCharacter 33 = .ok (.istore_n 1, 1) := by decide +kernel
theorem dX7_firstWrongCharacter_34 : decode cX7_firstWrongCharacter 34 = .ok (.goto 34, 3) := by decide +kernel
theorem dX7_firstWrongCharacter_37 : decode cX7_firstWrongCharacter 37 = .ok (.iload_n 3, 1) := by decide +kernel
theorem dX7_firstWrongCharacter_38 : decode cX7_firstWrongCharacter 38 = .ok (.invokestatic 284, 3) := by decide +kernel
theorem dX7_firstWrongCharacter_41 : decode cX7_firstWrongCharacter 41 = .ok (.ifCond .eq 25, 3) := by decide +kernel
theorem dX7_firstWrongCharacter_44 : decode cX7_firstWrongCharacter 44 = .ok (.iload_n 1, 1) := by decide +kernel
theorem dX7_firstWrongCharacter_45 : decode cX7_firstWrongCharacter 45 = .ok (.bipush 6, 2) := by decide +kernel
theorem dX7_firstWrongCharacter_47 : decode cX7_firstWrongCharacter 47 = .ok (.if_icmp .ge 19, 3) := by decide +kernel
theorem dX7_firstWrongCharacter_50 : decode cX7_firstWrongCharacter 50 = .ok (.iload_n 1, 1) := by decide +kernel
theorem dX7_firstWrongCharacter_51 : decode cX7_firstWrongCharacter 51 = .ok (.ifCond .gt 9, 3) := by decide +kernel
theorem dX7_firstWrongCharacter_54 : decode cX7_firstWrongCharacter 54 = .ok (.iload_n 3, 1) := by decide +kernel
theorem dX7_firstWrongCharacter_55 : decode cX7_firstWrongCharacter 55 = .ok (.bipush 48, 2) := by decide +kernel
theorem dX7_firstWrongCharacter_57 : decode cX7_firstWrongCharacter 57 = .ok (.if_icmp .eq 9, 3) := by decide +kernel
theorem dX7_firstWrongCharacter_60 : decode cX7_firstWrongCharacter 60 = .ok (.iinc 1 1, 3) := by decide +kernel
theorem dX7_firstWrongCharacter_63 : decode cX7_firstWrongCharacter 63 = .ok (.goto 5, 3) := by decide +kernel
theorem dX7_firstWrongCharacter_66 : decode cX7_firstWrongCharacter 66 = .ok (.iload_n 2, 1) := by decide +kernel
theorem dX7_firstWrongCharacter_67 : decode cX7_firstWrongCharacter 67 = .ok (.ireturn, 1) := by decide +kernel
theorem dX7_firstWrongCharacter_68 : decode cX7_firstWrongCharacter 68 = .ok (.iinc 2 1, 3) := by decide +kernel
theorem dX7_firstWrongCharacter_71 : decode cX7_firstWrongCharacter 71 = .ok (.goto (-66), 3) := by decide +kernel
theorem dX7_firstWrongCharacter_74 : decode cX7_firstWrongCharacter 74 = .ok (.iconst (-1), 1) := by decide +kernel
theorem dX7_firstWrongCharacter_75 : decode cX7_firstWrongCharacter 75 = .ok (.ireturn, 1) := by decide +kernel
set_option maxRecDepth 20000 in
theorem ggX7_applyText_X7_isDigit : GoodIn wsX7_applyText wsX7_isDigit := goodIn_r _ [10] (by decide +kernel) (by decide +kernel)
set_option maxRecDepth 20000 in
theorem gX7_applyText_X7_isDigit : GoodIn wsX7_applyText (va_wsS RX7 284 yX7_isDigit wsX7_isDigit) := goodIn_app (goodIn_of _ (by decide +kernel)) ggX7_applyText_X7_isDigit
set_option maxRecDepth 20000 in
theorem ggX7_applyText_X7_store : GoodIn wsX7_applyText wsX7_store := goodIn_r _ [14, 6, 1, 2, 15, 16, 9, 17, 18, 19, 20, 21, 22, 23, 24, 25, 26, 27, 28, 29, 30, 31, 32, 33, 34, 35, 36] (by decide +kernel) (by decide +kernel)
set_option maxRecDepth 20000 in
theorem gX7_applyText_X7_store : GoodIn wsX7_applyText (wsV RX7 71 RX7 yX7_store wsX7_store) := goodIn_app (goodIn_of _ (by decide +kernel)) ggX7_applyText_X7_store
theorem dX7_applyText_0 : decode cX7_applyText 0 = .ok (.aload_n 0, 1) := by decide +kernel
theorem dX7_applyText_1 : decode cX7_applyText 1 = .ok (.getfield 9, 3) := by decide +kernel
theorem dX7_applyText_4 : decode cX7_applyText 4 = .ok (.iload_n 2, 1) := by decide +kernel
theorem dX7_applyText_5 : decode cX7_applyText 5 = .ok (.iaload, 1) := by decide +kernel
theorem dX7_applyText_6 : decode cX7_applyText 6 = .ok (.i2l, 1) := by decide +kernel
theorem dX7_applyText_7 : decode cX7_applyText 7 = .ok (.lstore_n 3, 1) := by decide +kernel
theorem dX7_applyText_8 : decode cX7_applyText 8 = .ok (.aload_n 0, 1) := by decide +kernel
theorem dX7_applyText_9 : decode cX7_applyText 9 = .ok (.getfield 13, 3) := by decide +kernel
theorem dX7_applyText_12 : decode cX7_applyText 12 = .ok (.iload_n 2, 1) := by decide +kernel
theorem dX7_applyText_13 : decode cX7_applyText 13 = .ok (.iaload, 1) := by decide +kernel
theorem dX7_applyText_14 : decode cX7_applyText 14 = .ok (.i2l, 1) := by decide +kernel
theorem dX7_applyText_15 : decode cX7_applyText 15 = .ok (.lstore 5, 2) := by decide +kernel
theorem dX7_applyText_17 : decode cX7_applyText 17 = .ok (.lconst 0, 1) := by decide +kernel
theorem dX7_applyText_18 : decode cX7_applyText 18 = .ok (.lstore 7, 2) := by decide +kernel
theorem dX7_applyText_20 : decode cX7_applyText 20 = .ok (.lconst 1, 1) := by decide +kernel
theorem dX7_applyText_21 : decode cX7_applyText 21 = .ok (.lstore 9, 2) := by decide +kernel
theorem dX7_applyText_23 : decode cX7_applyText 23 = .ok (.aload_n 0, 1) := by decide +kernel
theorem dX7_applyText_24 : decode cX7_applyText 24 = .ok (.getfield 202, 3) := by decide +kernel
theorem dX7_applyText_27 : decode cX7_applyText 27 = .ok (.iconst 1, 1) := by decide +kernel
theorem dX7_applyText_28 : decode cX7_applyText 28 = .ok (.isub, 1) := by decide +kernel
theorem dX7_applyText_29 : decode cX7_applyText 29 = .ok (.istore 11, 2) := by decide +kernel
theorem dX7_applyText_31 : decode cX7_applyText 31 = .ok (.iload 11, 2) := by decide +kernel
theorem dX7_applyText_33 : decode cX7_applyText 33 = .ok (.ifCond .lt 125, 3) := by decide +kernel
theorem dX7_applyText_36 : decode cX7_applyText 36 = .ok (.aload_n 0, 1) := by decide +kernel
theorem dX7_applyText_37 : decode cX7_applyText 37 = .ok (.getfield 34, 3) := by decide +kernel
theorem dX7_applyText_40 : decode cX7_applyText 40 = .ok (.iload 11, 2) := by decide +kernel
theorem dX7_applyText_42 : decode cX7_applyText 42 = .ok (.iaload, 1) := by decide +kernel
theorem dX7_applyText_43 : decode cX7_applyText 43 = .ok (.invokestatic 284, 3) := by decide +kernel
theorem dX7_applyText_46 : decode cX7_applyText 46 = .ok (.ifCond .eq 33, 3) := by decide +kernel
theorem dX7_applyText_49 : decode cX7_applyText 49 = .ok (.lload 7, 2) := by decide +kernel
theorem dX7_applyText_51 : decode cX7_applyText 51 = .ok (.aload_n 0, 1) := by decide +kernel
theorem dX7_applyText_52 : decode cX7_applyText 52 = .ok (.getfield 34, 3) := by decide +kernel
theorem dX7_applyText_55 : decode cX7_applyText 55 = .ok (.iload 11, 2) := by decide +kernel
theorem dX7_applyText_57 : decode cX7_applyText 57 = .ok (.iaload, 1) := by decide +kernel
theorem dX7_applyText_58 : decode cX7_applyText 58 = .ok (.bipush 48, 2) := by decide +kernel
theorem dX7_applyText_60 : decode cX7_applyText 60 = .ok (.isub, 1) := by decide +kernel
theorem dX7_applyText_61 : decode cX7_applyText 61 = .ok (.i2l, 1) := by decide +kernel
theorem dX7_applyText_62 : decode cX7_applyText 62 = .ok (.lload 9, 2) := by decide +kernel
theorem dX7_applyText_64 : decode cX7_applyText 64 = .ok (.lmul, 1) := by decide +kernel
theorem dX7_applyText_65 : decode cX7_applyText 65 = .ok (.ladd, 1) := by decide +kernel
theorem dX7_applyText_66 : decode cX7_applyText 66 = .ok (.lstore 7, 2) := by decide +kernel
theorem dX7_applyText_68 : decode cX7_applyText 68 = .ok (.lload 9, 2) := by decide +kernel
theorem dX7_applyText_70 : decode cX7_applyText 70 = .ok (.ldc2_w 287, 3) := by decide +kernel
theorem dX7_applyText_73 : decode cX7_applyText 73 = .ok (.lmul, 1) := by decide +kernel
theorem dX7_applyText_74 : decode cX7_applyText 74 = .ok (.lstore 9, 2) := by decide +kernel
theorem dX7_applyText_76 : decode cX7_applyText 76 = .ok (.goto 76, 3) := by decide +kernel
theorem dX7_applyText_79 : decode cX7_applyText 79 = .ok (.lload 9, 2) := by decide +kernel
theorem dX7_applyText_81 : decode cX7_applyText 81 = .ok (.lconst 1, 1) := by decide +kernel
theorem dX7_applyText_82 : decode cX7_applyText 82 = .ok (.lcmp, 1) := by decide +kernel
theorem dX7_applyText_83 : decode cX7_applyText 83 = .ok (.ifCond .ne 7, 3) := by decide +kernel
theorem dX7_applyText_86 : decode cX7_applyText 86 = .ok (.lconst 1, 1) := by decide +kernel
theorem dX7_applyText_87 : decode cX7_applyText 87 = .ok (.goto 5, 3) := by decide +kernel
theorem dX7_applyText_90 : decode cX7_applyText 90 = .ok (.lload 7, 2) := by decide +kernel
theorem dX7_applyText_92 : decode cX7_applyText 92 = .ok (.lstore 12, 2) := by decide +kernel
theorem dX7_applyText_94 : decode cX7_applyText 94 = .ok (.aload_n 0, 1) := by decide +kernel
theorem dX7_applyText_95 : decode cX7_applyText 95 = .ok (.getfield 34, 3) := by decide +kernel
theorem dX7_applyText_98 : decode cX7_applyText 98 = .ok (.iload 11, 2) := by decide +kernel
theorem dX7_applyText_100 : decode cX7_applyText 100 = .ok (.iaload, 1) := by decide +kernel
theorem dX7_applyText_101 : decode cX7_applyText 101 = .ok (.bipush 82, 2) := by decide +kernel
theorem dX7_applyText_103 : decode cX7_applyText 103 = .ok (.if_icmp .ne 14, 3) := by decide +kernel
theorem dX7_applyText_106 : decode cX7_applyText 106 = .ok (.lload_n 3, 1) := by decide +kernel
theorem dX7_applyText_107 : decode cX7_applyText 107 = .ok (.lload 12, 2) := by decide +kernel
theorem dX7_applyText_109 : decode cX7_applyText 109 = .ok (.lload 5, 2) := by decide +kernel
theorem dX7_applyText_111 : decode cX7_applyText 111 = .ok (.lmul, 1) := by decide +kernel
theorem dX7_applyText_112 : decode cX7_applyText 112 = .ok (.ladd, 1) := by decide +kernel
theorem dX7_applyText_113 : decode cX7_applyText 113 = .ok (.lstore_n 3, 1) := by decide +kernel
theorem dX7_applyText_114 : decode cX7_applyText 114 = .ok (.goto 12, 3) := by decide +kernel
theorem dX7_applyText_117 : decode cX7_applyText 117 = .ok (.lload 5, 2) := by decide +kernel
theorem dX7_applyText_119 : decode cX7_applyText 119 = .ok (.lload 12, 2) := by decide +kernel
theorem dX7_applyText_121 : decode cX7_applyText 121 = .ok (.lload_n 3, 1) := by decide +kernel
theorem dX7_applyText_122 : decode cX7_applyText 122 = .ok (.lmul, 1) := by decide +kernel
theorem dX7_applyText_123 : decode cX7_applyText 123 = .ok (.ladd, 1) := by decide +kernel
theorem dX7_applyText_124 : decode cX7_applyText 124 = .ok (.lstore 5, 2) := by decide +kernel
theorem dX7_applyText_126 : decode cX7_applyText 126 = .ok (.lload_n 3, 1) := by decide +kernel
theorem dX7_applyText_127 : decode cX7_applyText 127 = .ok (.ldc2_w 138, 3) := by decide +kernel
theorem dX7_applyText_130 : decode cX7_applyText 130 = .ok (.lcmp, 1) := by decide +kernel
theorem dX7_applyText_131 : decode cX7_applyText 131 = .ok (.ifCond .gt 12, 3) := by decide +kernel
theorem dX7_applyText_134 : decode cX7_applyText 134 = .ok (.lload 5, 2) := by decide +kernel
theorem dX7_applyText_136 : decode cX7_applyText 136 = .ok (.ldc2_w 138, 3) := by decide +kernel
theorem dX7_applyText_139 : decode cX7_applyText 139 = .ok (.lcmp, 1) := by decide +kernel
theorem dX7_applyText_140 : decode cX7_applyText 140 = .ok (.ifCond .le 6, 3) := by decide +kernel
theorem dX7_applyText_143 : decode cX7_applyText 143 = .ok (.bipush (-3), 2) := by decide +kernel
theorem dX7_applyText_145 : decode cX7_applyText 145 = .ok (.ireturn, 1) := by decide +kernel
theorem dX7_applyText_146 : decode cX7_applyText 146 = .ok (.lconst 0, 1) := by decide +kernel
theorem dX7_applyText_147 : decode cX7_applyText 147 = .ok (.lstore 7, 2) := by decide +kernel
theorem dX7_applyText_149 : decode cX7_applyText 149 = .ok (.lconst 1, 1) := by decide +kernel
theorem dX7_applyText_150 : decode cX7_applyText 150 = .ok (.lstore 9, 2) := by decide +kernel
theorem dX7_applyText_152 : decode cX7_applyText 152 = .ok (.iinc 11 (-1), 3) := by decide +kernel
theorem dX7_applyText_155 : decode cX7_applyText 155 = .ok (.goto (-124), 3) := by decide +kernel
theorem dX7_applyText_158 : decode cX7_applyText 158 = .ok (.aload_n 0, 1) := by decide +kernel
theorem dX7_applyText_159 : decode cX7_applyText 159 = .ok (.iload_n 1, 1) := by decide +kernel
theorem dX7_applyText_160 : decode cX7_applyText 160 = .ok (.lload_n 3, 1) := by decide +kernel
theorem dX7_applyText_161 : decode cX7_applyText 161 = .ok (.lload 5, 2) := by decide +kernel
theorem dX7_applyText_163 : decode cX7_applyText 163 = .ok (.invokevirtual 71, 3) := by decide +kernel
theorem dX7_applyText_166 : decode cX7_applyText 166 = .ok (.ireturn, 1) := by decide +kernel
theorem dX7_digitCount_0 : decode cX7_digitCount 0 = .ok (.iconst 1, 1) := by decide +kernel
theorem dX7_digitCount_1 : decode cX7_digitCount 1 = .ok (.istore_n 1, 1) := by decide +kernel
theorem dX7_digitCount_2 : decode cX7_digitCount 2 = .ok (.bipush 10, 2) := by decide +kernel
theorem dX7_digitCount_4 : decode cX7_digitCount 4 = .ok (.istore_n 2, 1) := by decide +kernel
theorem dX7_digitCount_5 : decode cX7_digitCount 5 = .ok (.iload_n 2, 1) := by decide +kernel
theorem dX7_digitCount_6 : decode cX7_digitCount 6 = .ok (.ldc 66, 2) := by decide +kernel
theorem dX7_digitCount_8 : decode cX7_digitCount 8 = .ok (.if_icmp .gt 19, 3) := by decide +kernel
theorem dX7_digitCount_11 : decode cX7_digitCount 11 = .ok (.iload_n 2, 1) := by decide +kernel
theorem dX7_digitCount_12 : decode cX7_digitCount 12 = .ok (.iload_n 0, 1) := by decide +kernel
theorem dX7_digitCount_13 : decode cX7_digitCount 13 = .ok (.if_icmp .gt 14, 3) := by decide +kernel
theorem dX7_digitCount_16 : decode cX7_digitCount 16 = .ok (.iinc 1 1, 3) := by decide +kernel
theorem dX7_digitCount_19 : decode cX7_digitCount 19 = .ok (.iload_n 2, 1) := by decide +kernel
theorem dX7_digitCount_20 : decode cX7_digitCount 20 = .ok (.bipush 10, 2) := by decide +kernel
theorem dX7_digitCount_22 : decode cX7_digitCount 22 = .ok (.imul, 1) := by decide +kernel
theorem dX7_digitCount_23 : decode cX7_digitCount 23 = .ok (.istore_n 2, 1) := by decide +kernel
theorem dX7_digitCount_24 : decode cX7_digitCount 24 = .ok (.goto (-19), 3) := by decide +kernel
theorem dX7_digitCount_27 : decode cX7_digitCount 27 = .ok (.iload_n 1, 1) := by decide +kernel
theorem dX7_digitCount_28 : decode cX7_digitCount 28 = .ok (.ireturn, 1) := by decide +kernel
set_option maxRecDepth 20000 in
theorem ggX7_runTextSize_X7_digitCount : GoodIn wsX7_runTextSize wsX7_digitCount := goodIn_r _ [4, 5] (by decide +kernel) (by decide +kernel)
set_option maxRecDepth 20000 in
theorem gX7_runTextSize_X7_digitCount : GoodIn wsX7_runTextSize (va_wsS RX7 289 yX7_digitCount wsX7_digitCount) := goodIn_app (goodIn_of _ (by decide +kernel)) ggX7_runTextSize_X7_digitCount
theorem dX7_runTextSize_0 : decode cX7_runTextSize 0 = .ok (.iload_n 0, 1) := by decide +kernel
theorem dX7_runTextSize_1 : decode cX7_runTextSize 1 = .ok (.ifCond .gt 5, 3) := by decide +kernel
theorem dX7_runTextSize_4 : decode cX7_runTextSize 4 = .ok (.iconst 0, 1) := by decide +kernel
theorem dX7_runTextSize_5 : decode cX7_runTextSize 5 = .ok (.ireturn, 1) := by decide +kernel
theorem dX7_runTextSize_6 : decode cX7_runTextSize 6 = .ok (.iload_n 0, 1) := by decide +kernel
theorem dX7_runTextSize_7 : decode cX7_runTextSize 7 = .ok (.iconst 1, 1) := by decide +kernel
theorem dX7_runTextSize_8 : decode cX7_runTextSize 8 = .ok (.if_icmp .ne 7, 3) := by decide +kernel
theorem dX7_runTextSize_11 : decode cX7_runTextSize 11 = .ok (.iconst 1, 1) := by decide +kernel
theorem dX7_runTextSize_12 : decode cX7_runTextSize 12 = .ok (.goto 9, 3) := by decide +kernel
theorem dX7_runTextSize_15 : decode cX7_runTextSize 15 = .ok (.iconst 1, 1) := by decide +kernel
theorem dX7_runTextSize_16 : decode cX7_runTextSize 16 = .ok (.iload_n 0, 1) := by decide +kernel
theorem dX7_runTextSize_17 : decode cX7_runTextSize 17 = .ok (.invokestatic 289, 3) := by decide +kernel
theorem dX7_runTextSize_20 : decode cX7_runTextSize 20 = .ok (.iadd, 1) := by decide +kernel
theorem dX7_runTextSize_21 : decode cX7_runTextSize 21 = .ok (.ireturn, 1) := by decide +kernel
set_option maxRecDepth 20000 in
theorem ggX7_runCharacter_X7_digitCount : GoodIn wsX7_runCharacter wsX7_digitCount := goodIn_r _ [4, 5] (by decide +kernel) (by decide +kernel)
set_option maxRecDepth 20000 in
theorem gX7_runCharacter_X7_digitCount : GoodIn wsX7_runCharacter (va_wsS RX7 289 yX7_digitCount wsX7_digitCount) := goodIn_app (goodIn_of _ (by decide +kernel)) ggX7_runCharacter_X7_digitCount
theorem dX7_runCharacter_0 : decode cX7_runCharacter 0 = .ok (.iload_n 2, 1) := by decide +kernel
theorem dX7_runCharacter_1 : decode cX7_runCharacter 1 = .ok (.ifCond .ne 17, 3) := by decide +kernel
theorem dX7_runCharacter_4 : decode cX7_runCharacter 4 = .ok (.iload_n 0, 1) := by decide +kernel
theorem dX7_runCharacter_5 : decode cX7_runCharacter 5 = .ok (.iconst 2, 1) := by decide +kernel
theorem dX7_runCharacter_6 : decode cX7_runCharacter 6 = .ok (.irem, 1) := by decide +kernel
theorem dX7_runCharacter_7 : decode cX7_runCharacter 7 = .ok (.ifCond .ne 8, 3) := by decide +kernel
theorem dX7_runCharacter_10 : decode cX7_runCharacter 10 = .ok (.bipush 82, 2) := by decide +kernel
theorem dX7_runCharacter_12 : decode cX7_runCharacter 12 = .ok (.goto 5, 3) := by decide +kernel
theorem dX7_runCharacter_15 : decode cX7_runCharacter 15 = .ok (.bipush 76, 2) := by decide +kernel
theorem dX7_runCharacter_17 : decode cX7_runCharacter 17 = .ok (.ireturn, 1) := by decide +kernel
theorem dX7_runCharacter_18 : decode cX7_runCharacter 18 = .ok (.iload_n 1, 1) := by decide +kernel
theorem dX7_runCharacter_19 : decode cX7_runCharacter 19 = .ok (.istore_n 3, 1) := by decide +kernel
theorem dX7_runCharacter_20 : decode cX7_runCharacter 20 = .ok (.iload_n 1, 1) := by decide +kernel
theorem dX7_runCharacter_21 : decode cX7_runCharacter 21 = .ok (.invokestatic 289, 3) := by decide +kernel
theorem dX7_runCharacter_24 : decode cX7_runCharacter 24 = .ok (.iload_n 2, 1) := by decide +kernel
theorem dX7_runCharacter_25 : decode cX7_runCharacter 25 = .ok (.isub, 1) := by decide +kernel
theorem dX7_runCharacter_26 : decode cX7_runCharacter 26 = .ok (.istore 4, 2) := by decide +kernel
theorem dX7_runCharacter_28 : decode cX7_runCharacter 28 = .ok (.iload 4, 2) := by decide +kernel
theorem dX7_runCharacter_30 : decode cX7_runCharacter 30 = .ok (.ifCond .le 14, 3) := by decide +kernel
theorem dX7_runCharacter_33 : decode cX7_runCharacter 33 = .ok (.iload_n 3, 1) := by decide +kernel
theorem dX7_runCharacter_34 : decode cX7_runCharacter 34 = .ok (.bipush 10, 2) := by decide +kernel
theorem dX7_runCharacter_36 : decode cX7_runCharacter 36 = .ok (.idiv, 1) := by decide +kernel
theorem dX7_runCharacter_37 : decode cX7_runCharacter 37 = .ok (.istore_n 3, 1) := by decide +kernel
theorem dX7_runCharacter_38 : decode cX7_runCharacter 38 = .ok (.iinc 4 (-1), 3) := by decide +kernel
theorem dX7_runCharacter_41 : decode cX7_runCharacter 41 = .ok (.goto (-13), 3) := by decide +kernel
theorem dX7_runCharacter_44 : decode cX7_runCharacter 44 = .ok (.bipush 48, 2) := by decide +kernel
theorem dX7_runCharacter_46 : decode cX7_runCharacter 46 = .ok (.iload_n 3, 1) := by decide +kernel
theorem dX7_runCharacter_47 : decode cX7_runCharacter 47 = .ok (.bipush 10, 2) := by decide +kernel
theorem dX7_runCharacter_49 : decode cX7_runCharacter 49 = .ok (.irem, 1) := by decide +kernel
theorem dX7_runCharacter_50 : decode cX7_runCharacter 50 = .ok (.iadd, 1) := by decide +kernel
theorem dX7_runCharacter_51 : decode cX7_runCharacter 51 = .ok (.ireturn, 1) := by decide +kernel
set_option maxRecDepth 20000 in
theorem ggX7_newNode_X3_init : GoodIn wsX7_newNode wsX3_init := goodIn_r _ [18, 19, 20, 21, 22, 23, 24, 44, 45, 46, 50, 51, 52, 41, 42, 43, 53, 54, 55, 47, 48, 49] (by decide +kernel) (by decide +kernel)
set_option maxRecDepth 20000 in
theorem gX7_newNode_X3_init : GoodIn wsX7_newNode (wsX3_init) := ggX7_newNode_X3_init
set_option maxRecDepth 20000 in
theorem ggX7_newNode_X0_init : GoodIn wsX7_newNode wsX0_init := goodIn_r _ [27, 28, 17, 3, 18, 19, 20, 21, 22, 23, 24, 44, 45, 46, 50, 51, 52, 41, 42, 43, 53, 54, 55, 47, 48, 49] (by decide +kernel) (by decide +kernel)
set_option maxRecDepth 20000 in
theorem gX7_newNode_X0_init : GoodIn wsX7_newNode (wsX0_init) := ggX7_newNode_X0_init
set_option maxRecDepth 20000 in
theorem ggX7_newNode_X6_init : GoodIn wsX7_newNode wsX6_init := goodIn_r _ [31, 32, 26, 6, 27, 28, 17, 3, 18, 19, 20, 21, 22, 23, 24, 44, 45, 46, 50, 51, 52, 41, 42, 43, 53, 54, 55, 47, 48, 49] (by decide +kernel) (by decide +kernel)
set_option maxRecDepth 20000 in
theorem gX7_newNode_X6_init : GoodIn wsX7_newNode (wsX6_init) := ggX7_newNode_X6_init
set_option maxRecDepth 20000 in
theorem ggX7_newNode_X2_init : GoodIn wsX7_newNode wsX2_init := goodIn_r _ [35, 36, 30, 9, 31, 32, 26, 6, 27, 28, 17, 3, 18, 19, 20, 21, 22, 23, 24, 44, 45, 46, 50, 51, 52, 41, 42, 43, 53, 54, 55, 47, 48, 49] (by decide +kernel) (by decide +kernel)
set_option maxRecDepth 20000 in
theorem gX7_newNode_X2_init : GoodIn wsX7_newNode (wsX2_init) := ggX7_newNode_X2_init
set_option maxRecDepth 20000 in
theorem ggX7_newNode_X5_init : GoodIn wsX7_newNode wsX5_init := goodIn_r _ [39, 40, 17, 3, 18, 19, 20, 21, 22, 23, 24, 44, 45, 46, 50, 51, 52, 41, 42, 43, 53, 54, 55, 47, 48, 49] (by decide +kernel) (by decide +kernel)
set_option maxRecDepth 20000 in
theorem gX7_newNode_X5_init : GoodIn wsX7_newNode (wsX5_init) := ggX7_newNode_X5_init
theorem dX7_newNode_0 : decode cX7_newNode 0 = .ok (.iload_n 0, 1) := by decide +kernel
theorem dX7_newNode_1 : decode cX7_newNode 1 = .ok (.tableswitch 88 0 4 #[35, 46, 57, 68, 78], 35) := by decide +kernel
theorem dX7_newNode_36 : decode cX7_newNode 36 = .ok (.new 16, 3) := by decide +kernel
theorem dX7_newNode_39 : decode cX7_newNode 39 = .ok (.dup, 1) := by decide +kernel
theorem dX7_newNode_40 : decode cX7_newNode 40 = .ok (.iconst 0, 1) := by decide +kernel
theorem dX7_newNode_41 : decode cX7_newNode 41 = .ok (.iload_n 1, 1) := by decide +kernel
theorem dX7_newNode_42 : decode cX7_newNode 42 = .ok (.iload_n 2, 1) := by decide +kernel
theorem dX7_newNode_43 : decode cX7_newNode 43 = .ok (.invokespecial 292, 3) := by decide +kernel
theorem dX7_newNode_46 : decode cX7_newNode 46 = .ok (.areturn, 1) := by decide +kernel
theorem dX7_newNode_47 : decode cX7_newNode 47 = .ok (.new 294, 3) := by decide +kernel
theorem dX7_newNode_50 : decode cX7_newNode 50 = .ok (.dup, 1) := by decide +kernel
theorem dX7_newNode_51 : decode cX7_newNode 51 = .ok (.iconst 1, 1) := by decide +kernel
theorem dX7_newNode_52 : decode cX7_newNode 52 = .ok (.iload_n 1, 1) := by decide +kernel
theorem dX7_newNode_53 : decode cX7_newNode 53 = .ok (.iload_n 2, 1) := by decide +kernel
theorem dX7_newNode_54 : decode cX7_newNode 54 = .ok (.invokespecial 296, 3) := by decide +kernel
theorem dX7_newNode_57 : decode cX7_newNode 57 = .ok (.areturn, 1) := by decide +kernel
theorem dX7_newNode_58 : decode cX7_newNode 58 = .ok (.new 297, 3) := by decide +kernel
theorem dX7_newNode_61 : decode cX7_newNode 61 = .ok (.dup, 1) := by decide +kernel
theorem dX7_newNode_62 : decode cX7_newNode 62 = .ok (.iconst 2, 1) := by decide +kernel
theorem dX7_newNode_63 : decode cX7_newNode 63 = .ok (.iload_n 1, 1) := by decide +kernel
theorem dX7_newNode_64 : decode cX7_newNode 64 = .ok (.iload_n 2, 1) := by decide +kernel
theorem dX7_newNode_65 : decode cX7_newNode 65 = .ok (.invokespecial 299, 3) := by decide +kernel
theorem dX7_newNode_68 : decode cX7_newNode 68 = .ok (.areturn, 1) := by decide +kernel
theorem dX7_newNode_69 : decode cX7_newNode 69 = .ok (.new 300, 3) := by decide +kernel
theorem dX7_newNode_72 : decode cX7_newNode 72 = .ok (.dup, 1) := by decide +kernel
theorem dX7_newNode_73 : decode cX7_newNode 73 = .ok (.iload_n 1, 1) := by decide +kernel
theorem dX7_newNode_74 : decode cX7_newNode 74 = .ok (.iload_n 2, 1) := by decide +kernel
theorem dX7_newNode_75 : decode cX7_newNode 75 = .ok (.invokespecial 302, 3) := by decide +kernel
theorem dX7_newNode_78 : decode cX7_newNode 78 = .ok (.areturn, 1) := by decide +kernel
theorem dX7_newNode_79 : decode cX7_newNode 79 = .ok (.new 304, 3) := by decide +kernel
theorem dX7_newNode_82 : decode cX7_newNode 82 = .ok (.dup, 1) := by decide +kernel
theorem dX7_newNode_83 : decode cX7_newNode 83 = .ok (.iload_n 1, 1) := by decide +kernel
theorem dX7_newNode_84 : decode cX7_newNode 84 = .ok (.iload_n 2, 1) := by decide +kernel
theorem dX7_newNode_85 : decode cX7_newNode 85 = .ok (.invokespecial 306, 3) := by decide +kernel
theorem dX7_newNode_88 : decode cX7_newNode 88 = .ok (.areturn, 1) := by decide +kernel
theorem dX7_newNode_89 : decode cX7_newNode 89 = .ok (.aconst_null, 1) := by decide +kernel
theorem dX7_newNode_90 : decode cX7_newNode 90 = .ok (.areturn, 1) := by decide +kernel
theorem dX7_isOfKind_0 : decode cX7_isOfKind 0 = .ok (.iload_n 1, 1) := by decide +kernel
theorem dX7_isOfKind_1 : decode cX7_isOfKind 1 = .ok (.tableswitch 48 0 3 #[31, 33, 38, 43], 31) := by decide +kernel
theorem dX7_isOfKind_32 : decode cX7_isOfKind 32 = .ok (.iconst 1, 1) := by decide +kernel
theorem dX7_isOfKind_33 : decode cX7_isOfKind 33 = .ok (.ireturn, 1) := by decide +kernel
theorem dX7_isOfKind_34 : decode cX7_isOfKind 34 = .ok (.aload_n 0, 1) := by decide +kernel
theorem dX7_isOfKind_35 : decode cX7_isOfKind 35 = .ok (.instanceof 294, 3) := by decide +kernel
theorem dX7_isOfKind_38 : decode cX7_isOfKind 38 = .ok (.ireturn, 1) := by decide +kernel
theorem dX7_isOfKind_39 : decode cX7_isOfKind 39 = .ok (.aload_n 0, 1) := by decide +kernel
theorem dX7_isOfKind_40 : decode cX7_isOfKind 40 = .ok (.instanceof 297, 3) := by decide +kernel
theorem dX7_isOfKind_43 : decode cX7_isOfKind 43 = .ok (.ireturn, 1) := by decide +kernel
theorem dX7_isOfKind_44 : decode cX7_isOfKind 44 = .ok (.aload_n 0, 1) := by decide +kernel
theorem dX7_isOfKind_45 : decode cX7_isOfKind 45 = .ok (.instanceof 300, 3) := by decide +kernel
theorem dX7_isOfKind_48 : decode cX7_isOfKind 48 = .ok (.ireturn, 1) := by decide +kernel
theorem dX7_isOfKind_49 : decode cX7_isOfKind 49 = .ok (.aload_n 0, 1) := by decide +kernel
theorem dX7_isOfKind_50 : decode cX7_isOfKind 50 = .ok (.instanceof 304, 3) := by decide +kernel
theorem dX7_isOfKind_53 : decode cX7_isOfKind 53 = .ok (.ireturn, 1) := by decide +kernel
theorem dX7_nodeCount_0 : decode cX7_nodeCount 0 = .ok (.iconst 0, 1) := by decide +kernel
theorem dX7_nodeCount_1 : decode cX7_nodeCount 1 = .ok (.istore_n 1, 1) := by decide +kernel
theorem dX7_nodeCount_2 : decode cX7_nodeCount 2 = .ok (.iconst 0, 1) := by decide +kernel
theorem dX7_nodeCount_3 : decode cX7_nodeCount 3 = .ok (.istore_n 2, 1) := by decide +kernel
theorem dX7_nodeCount_4 : decode cX7_nodeCount 4 = .ok (.iload_n 2, 1) := by decide +kernel
theorem dX7_nodeCount_5 : decode cX7_nodeCount 5 = .ok (.iconst 5, 1) := by decide +kernel
theorem dX7_nodeCount_6 : decode cX7_nodeCount 6 = .ok (.if_icmp .ge 21, 3) := by decide +kernel
theorem dX7_nodeCount_9 : decode cX7_nodeCount 9 = .ok (.aload_n 0, 1) := by decide +kernel
theorem dX7_nodeCount_10 : decode cX7_nodeCount 10 = .ok (.getfield 18, 3) := by decide +kernel
theorem dX7_nodeCount_13 : decode cX7_nodeCount 13 = .ok (.iload_n 2, 1) := by decide +kernel
theorem dX7_nodeCount_14 : decode cX7_nodeCount 14 = .ok (.aaload, 1) := by decide +kernel
theorem dX7_nodeCount_15 : decode cX7_nodeCount 15 = .ok (.ifnull 6, 3) := by decide +kernel
theorem dX7_nodeCount_18 : decode cX7_nodeCount 18 = .ok (.iinc 1 1, 3) := by decide +kernel
theorem dX7_nodeCount_21 : decode cX7_nodeCount 21 = .ok (.iinc 2 1, 3) := by decide +kernel
theorem dX7_nodeCount_24 : decode cX7_nodeCount 24 = .ok (.goto (-20), 3) := by decide +kernel
theorem dX7_nodeCount_27 : decode cX7_nodeCount 27 = .ok (.iload_n 1, 1) := by decide +kernel
theorem dX7_nodeCount_28 : decode cX7_nodeCount 28 = .ok (.ireturn, 1) := by decide +kernel
theorem dX7_arrayCount_0 : decode cX7_arrayCount 0 = .ok (.iconst 0, 1) := by decide +kernel
theorem dX7_arrayCount_1 : decode cX7_arrayCount 1 = .ok (.istore_n 1, 1) := by decide +kernel
theorem dX7_arrayCount_2 : decode cX7_arrayCount 2 = .ok (.iconst 0, 1) := by decide +kernel
theorem dX7_arrayCount_3 : decode cX7_arrayCount 3 = .ok (.istore_n 2, 1) := by decide +kernel
theorem dX7_arrayCount_4 : decode cX7_arrayCount 4 = .ok (.iload_n 2, 1) := by decide +kernel
theorem dX7_arrayCount_5 : decode cX7_arrayCount 5 = .ok (.iconst 3, 1) := by decide +kernel
theorem dX7_arrayCount_6 : decode cX7_arrayCount 6 = .ok (.if_icmp .ge 22, 3) := by decide +kernel
theorem dX7_arrayCount_9 : decode cX7_arrayCount 9 = .ok (.aload_n 0, 1) := by decide +kernel
theorem dX7_arrayCount_10 : decode cX7_arrayCount 10 = .ok (.getfield 42, 3) := by decide +kernel
theorem dX7_arrayCount_13 : decode cX7_arrayCount 13 = .ok (.iload_n 2, 1) := by decide +kernel
theorem dX7_arrayCount_14 : decode cX7_arrayCount 14 = .ok (.iaload, 1) := by decide +kernel
theorem dX7_arrayCount_15 : decode cX7_arrayCount 15 = .ok (.iconst (-1), 1) := by decide +kernel
theorem dX7_arrayCount_16 : decode cX7_arrayCount 16 = .ok (.if_icmp .eq 6, 3) := by decide +kernel
theorem dX7_arrayCount_19 : decode cX7_arrayCount 19 = .ok (.iinc 1 1, 3) := by decide +kernel
theorem dX7_arrayCount_22 : decode cX7_arrayCount 22 = .ok (.iinc 2 1, 3) := by decide +kernel
theorem dX7_arrayCount_25 : decode cX7_arrayCount 25 = .ok (.goto (-21), 3) := by decide +kernel
theorem dX7_arrayCount_28 : decode cX7_arrayCount 28 = .ok (.iload_n 1, 1) := by decide +kernel
theorem dX7_arrayCount_29 : decode cX7_arrayCount 29 = .ok (.ireturn, 1) := by decide +kernel
set_option maxRecDepth 20000 in
theorem ggX7_valueOf_X1_at : GoodIn wsX7_valueOf wsX1_at := goodIn_r _ [7, 8, 9, 42, 43, 44, 45, 46, 47] (by decide +kernel) (by decide +kernel)
set_option maxRecDepth 20000 in
theorem gX7_valueOf_X1_at : GoodIn wsX7_valueOf (wsV RX7 124 RX1 yX1_at wsX1_at) := goodIn_app (goodIn_of _ (by decide +kernel)) ggX7_valueOf_X1_at
set_option maxRecDepth 20000 in
theorem ggX7_valueOf_X7_letterOf : GoodIn wsX7_valueOf wsX7_letterOf := goodIn_r _ [13, 14, 15, 12, 16] (by decide +kernel) (by decide +kernel)
set_option maxRecDepth 20000 in
theorem gX7_valueOf_X7_letterOf : GoodIn wsX7_valueOf (va_wsS RX7 179 yX7_letterOf wsX7_letterOf) := goodIn_app (goodIn_of _ (by decide +kernel)) ggX7_valueOf_X7_letterOf
set_option maxRecDepth 20000 in
theorem ggX7_valueOf_X1_stepAt : GoodIn wsX7_valueOf wsX1_stepAt := goodIn_r _ [20, 8, 21, 22, 23, 6, 24, 25, 4, 5, 7, 9, 42, 43, 44, 45, 46, 47] (by decide +kernel) (by decide +kernel)
set_option maxRecDepth 20000 in
theorem gX7_valueOf_X1_stepAt : GoodIn wsX7_valueOf (wsV RX7 89 RX1 yX1_stepAt wsX1_stepAt) := goodIn_app (goodIn_of _ (by decide +kernel)) ggX7_valueOf_X1_stepAt
theorem dX7_valueOf_0 : decode cX7_valueOf 0 = .ok (.iload_n 3, 1) := by decide +kernel
theorem dX7_valueOf_1 : decode cX7_valueOf 1 = .ok (.lookupswitch 55 #[(0, 27), (1, 34)], 27) := by decide +kernel
theorem dX7_valueOf_28 : decode cX7_valueOf 28 = .ok (.aload_n 2, 1) := by decide +kernel
theorem dX7_valueOf_29 : decode cX7_valueOf 29 = .ok (.iload 4, 2) := by decide +kernel
theorem dX7_valueOf_31 : decode cX7_valueOf 31 = .ok (.invokevirtual 124, 3) := by decide +kernel
theorem dX7_valueOf_34 : decode cX7_valueOf 34 = .ok (.ireturn, 1) := by decide +kernel
theorem dX7_valueOf_35 : decode cX7_valueOf 35 = .ok (.aload_n 0, 1) := by decide +kernel
theorem dX7_valueOf_36 : decode cX7_valueOf 36 = .ok (.getfield 9, 3) := by decide +kernel
theorem dX7_valueOf_39 : decode cX7_valueOf 39 = .ok (.iload_n 1, 1) := by decide +kernel
theorem dX7_valueOf_40 : decode cX7_valueOf 40 = .ok (.iaload, 1) := by decide +kernel
theorem dX7_valueOf_41 : decode cX7_valueOf 41 = .ok (.i2l, 1) := by decide +kernel
theorem dX7_valueOf_42 : decode cX7_valueOf 42 = .ok (.aload_n 0, 1) := by decide +kernel
theorem dX7_valueOf_43 : decode cX7_valueOf 43 = .ok (.getfield 13, 3) := by decide +kernel
theorem dX7_valueOf_46 : decode cX7_valueOf 46 = .ok (.iload_n 1, 1) := by decide +kernel
theorem dX7_valueOf_47 : decode cX7_valueOf 47 = .ok (.iaload, 1) := by decide +kernel
theorem dX7_valueOf_48 : decode cX7_valueOf 48 = .ok (.i2l, 1) := by decide +kernel
theorem dX7_valueOf_49 : decode cX7_valueOf 49 = .ok (.iload 4, 2) := by decide +kernel
theorem dX7_valueOf_51 : decode cX7_valueOf 51 = .ok (.i2l, 1) := by decide +kernel
theorem dX7_valueOf_52 : decode cX7_valueOf 52 = .ok (.invokestatic 179, 3) := by decide +kernel
theorem dX7_valueOf_55 : decode cX7_valueOf 55 = .ok (.ireturn, 1) := by decide +kernel
theorem dX7_valueOf_56 : decode cX7_valueOf 56 = .ok (.aload_n 2, 1) := by decide +kernel
theorem dX7_valueOf_57 : decode cX7_valueOf 57 = .ok (.iload 4, 2) := by decide +kernel
theorem dX7_valueOf_59 : decode cX7_valueOf 59 = .ok (.invokevirtual 89, 3) := by decide +kernel
theorem dX7_valueOf_62 : decode cX7_valueOf 62 = .ok (.ireturn, 1) := by decide +kernel
