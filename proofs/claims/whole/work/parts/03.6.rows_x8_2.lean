theorem dX8_factorLength_67 : decode cX8_factorLength 67 = .ok (.lload 6, 2) := by decide +kernel
theorem dX8_factorLength_69 : decode cX8_factorLength 69 = .ok (.lstore 4, 2) := by decide +kernel
theorem dX8_factorLength_71 : decode cX8_factorLength 71 = .ok (.lload 14, 2) := by decide +kernel
theorem dX8_factorLength_73 : decode cX8_factorLength 73 = .ok (.lstore 6, 2) := by decide +kernel
theorem dX8_factorLength_75 : decode cX8_factorLength 75 = .ok (.lload 8, 2) := by decide +kernel
theorem dX8_factorLength_77 : decode cX8_factorLength 77 = .ok (.lload 12, 2) := by decide +kernel
theorem dX8_factorLength_79 : decode cX8_factorLength 79 = .ok (.lload 10, 2) := by decide +kernel
theorem dX8_factorLength_81 : decode cX8_factorLength 81 = .ok (.lmul, 1) := by decide +kernel
theorem dX8_factorLength_82 : decode cX8_factorLength 82 = .ok (.lsub, 1) := by decide +kernel
theorem dX8_factorLength_83 : decode cX8_factorLength 83 = .ok (.lstore 16, 2) := by decide +kernel
theorem dX8_factorLength_85 : decode cX8_factorLength 85 = .ok (.lload 10, 2) := by decide +kernel
theorem dX8_factorLength_87 : decode cX8_factorLength 87 = .ok (.lstore 8, 2) := by decide +kernel
theorem dX8_factorLength_89 : decode cX8_factorLength 89 = .ok (.lload 16, 2) := by decide +kernel
theorem dX8_factorLength_91 : decode cX8_factorLength 91 = .ok (.lstore 10, 2) := by decide +kernel
theorem dX8_factorLength_93 : decode cX8_factorLength 93 = .ok (.goto (-50), 3) := by decide +kernel
theorem dX8_factorLength_96 : decode cX8_factorLength 96 = .ok (.lload 8, 2) := by decide +kernel
theorem dX8_factorLength_98 : decode cX8_factorLength 98 = .ok (.lload_n 2, 1) := by decide +kernel
theorem dX8_factorLength_99 : decode cX8_factorLength 99 = .ok (.lrem, 1) := by decide +kernel
theorem dX8_factorLength_100 : decode cX8_factorLength 100 = .ok (.lload_n 2, 1) := by decide +kernel
theorem dX8_factorLength_101 : decode cX8_factorLength 101 = .ok (.ladd, 1) := by decide +kernel
theorem dX8_factorLength_102 : decode cX8_factorLength 102 = .ok (.lload_n 2, 1) := by decide +kernel
theorem dX8_factorLength_103 : decode cX8_factorLength 103 = .ok (.lrem, 1) := by decide +kernel
theorem dX8_factorLength_104 : decode cX8_factorLength 104 = .ok (.l2i, 1) := by decide +kernel
theorem dX8_factorLength_105 : decode cX8_factorLength 105 = .ok (.ireturn, 1) := by decide +kernel
set_option maxRecDepth 20000 in
theorem ggX8_recognizeWord_X8_isRegister : GoodIn wsX8_recognizeWord wsX8_isRegister := goodIn_r _ [7, 8, 9, 10, 6, 11] (by decide +kernel) (by decide +kernel)
set_option maxRecDepth 20000 in
theorem gX8_recognizeWord_X8_isRegister : GoodIn wsX8_recognizeWord (wsV RX8 131 RX8 yX8_isRegister wsX8_isRegister) := goodIn_app (goodIn_of _ (by decide +kernel)) ggX8_recognizeWord_X8_isRegister
set_option maxRecDepth 20000 in
theorem ggX8_recognizeWord_X8_isArray : GoodIn wsX8_recognizeWord wsX8_isArray := goodIn_r _ [15, 16, 9, 10, 6, 11] (by decide +kernel) (by decide +kernel)
set_option maxRecDepth 20000 in
theorem gX8_recognizeWord_X8_isArray : GoodIn wsX8_recognizeWord (wsV RX8 202 RX8 yX8_isArray wsX8_isArray) := goodIn_app (goodIn_of _ (by decide +kernel)) ggX8_recognizeWord_X8_isArray
set_option maxRecDepth 20000 in
theorem ggX8_recognizeWord_X8_within : GoodIn wsX8_recognizeWord wsX8_within := goodIn_r _ [11] (by decide +kernel) (by decide +kernel)
set_option maxRecDepth 20000 in
theorem gX8_recognizeWord_X8_within : GoodIn wsX8_recognizeWord (va_wsS RX8 121 yX8_within wsX8_within) := goodIn_app (goodIn_of _ (by decide +kernel)) ggX8_recognizeWord_X8_within
set_option maxRecDepth 20000 in
theorem ggX8_recognizeWord_X8_divisor : GoodIn wsX8_recognizeWord wsX8_divisor := goodIn_r _ [20] (by decide +kernel) (by decide +kernel)
set_option maxRecDepth 20000 in
theorem gX8_recognizeWord_X8_divisor : GoodIn wsX8_recognizeWord (wsV RX8 125 RX8 yX8_divisor wsX8_divisor) := goodIn_app (goodIn_of _ (by decide +kernel)) ggX8_recognizeWord_X8_divisor
set_option maxRecDepth 20000 in
theorem ggX8_recognizeWord_X8_isWord : GoodIn wsX8_recognizeWord wsX8_isWord := goodIn_r _ [24, 2, 25, 26, 27, 6, 28, 36, 37, 38, 39, 40, 41, 42, 43, 44, 45, 46, 47, 48, 49, 50, 51, 52, 53, 54, 55, 56, 57, 58, 59, 60, 61, 62, 63, 64, 65, 66, 67, 68, 69, 70] (by decide +kernel) (by decide +kernel)
set_option maxRecDepth 20000 in
theorem gX8_recognizeWord_X8_isWord : GoodIn wsX8_recognizeWord (wsV RX8 205 RX8 yX8_isWord wsX8_isWord) := goodIn_app (goodIn_of _ (by decide +kernel)) ggX8_recognizeWord_X8_isWord
set_option maxRecDepth 20000 in
theorem ggX8_recognizeWord_X8_put : GoodIn wsX8_recognizeWord wsX8_put := goodIn_r _ [32, 33, 34, 35, 17, 18, 19, 6, 20, 36, 37, 38, 39, 40, 41, 42, 43, 44, 45, 46, 47, 48, 49, 50, 51, 52, 53, 54, 55, 56, 57, 58, 59, 60, 61, 62, 63, 64, 65, 66, 67, 68, 69, 70] (by decide +kernel) (by decide +kernel)
set_option maxRecDepth 20000 in
theorem gX8_recognizeWord_X8_put : GoodIn wsX8_recognizeWord (wsV RX8 135 RX8 yX8_put wsX8_put) := goodIn_app (goodIn_of _ (by decide +kernel)) ggX8_recognizeWord_X8_put
theorem dX8_recognizeWord_0 : decode cX8_recognizeWord 0 = .ok (.aload_n 0, 1) := by decide +kernel
theorem dX8_recognizeWord_1 : decode cX8_recognizeWord 1 = .ok (.iload_n 1, 1) := by decide +kernel
theorem dX8_recognizeWord_2 : decode cX8_recognizeWord 2 = .ok (.invokevirtual 131, 3) := by decide +kernel
theorem dX8_recognizeWord_5 : decode cX8_recognizeWord 5 = .ok (.ifCond .eq 11, 3) := by decide +kernel
theorem dX8_recognizeWord_8 : decode cX8_recognizeWord 8 = .ok (.aload_n 0, 1) := by decide +kernel
theorem dX8_recognizeWord_9 : decode cX8_recognizeWord 9 = .ok (.iload_n 2, 1) := by decide +kernel
theorem dX8_recognizeWord_10 : decode cX8_recognizeWord 10 = .ok (.invokevirtual 202, 3) := by decide +kernel
theorem dX8_recognizeWord_13 : decode cX8_recognizeWord 13 = .ok (.ifCond .ne 5, 3) := by decide +kernel
theorem dX8_recognizeWord_16 : decode cX8_recognizeWord 16 = .ok (.iconst (-1), 1) := by decide +kernel
theorem dX8_recognizeWord_17 : decode cX8_recognizeWord 17 = .ok (.ireturn, 1) := by decide +kernel
theorem dX8_recognizeWord_18 : decode cX8_recognizeWord 18 = .ok (.aload_n 0, 1) := by decide +kernel
theorem dX8_recognizeWord_19 : decode cX8_recognizeWord 19 = .ok (.getfield 94, 3) := by decide +kernel
theorem dX8_recognizeWord_22 : decode cX8_recognizeWord 22 = .ok (.iload_n 2, 1) := by decide +kernel
theorem dX8_recognizeWord_23 : decode cX8_recognizeWord 23 = .ok (.iaload, 1) := by decide +kernel
theorem dX8_recognizeWord_24 : decode cX8_recognizeWord 24 = .ok (.istore_n 3, 1) := by decide +kernel
theorem dX8_recognizeWord_25 : decode cX8_recognizeWord 25 = .ok (.iload_n 3, 1) := by decide +kernel
theorem dX8_recognizeWord_26 : decode cX8_recognizeWord 26 = .ok (.ifCond .ge 6, 3) := by decide +kernel
theorem dX8_recognizeWord_29 : decode cX8_recognizeWord 29 = .ok (.bipush (-11), 2) := by decide +kernel
theorem dX8_recognizeWord_31 : decode cX8_recognizeWord 31 = .ok (.ireturn, 1) := by decide +kernel
theorem dX8_recognizeWord_32 : decode cX8_recognizeWord 32 = .ok (.iconst 0, 1) := by decide +kernel
theorem dX8_recognizeWord_33 : decode cX8_recognizeWord 33 = .ok (.istore 4, 2) := by decide +kernel
theorem dX8_recognizeWord_35 : decode cX8_recognizeWord 35 = .ok (.iconst 0, 1) := by decide +kernel
theorem dX8_recognizeWord_36 : decode cX8_recognizeWord 36 = .ok (.istore 5, 2) := by decide +kernel
theorem dX8_recognizeWord_38 : decode cX8_recognizeWord 38 = .ok (.iload 5, 2) := by decide +kernel
theorem dX8_recognizeWord_40 : decode cX8_recognizeWord 40 = .ok (.iload_n 3, 1) := by decide +kernel
theorem dX8_recognizeWord_41 : decode cX8_recognizeWord 41 = .ok (.if_icmp .ge 49, 3) := by decide +kernel
theorem dX8_recognizeWord_44 : decode cX8_recognizeWord 44 = .ok (.aload_n 0, 1) := by decide +kernel
theorem dX8_recognizeWord_45 : decode cX8_recognizeWord 45 = .ok (.getfield 97, 3) := by decide +kernel
theorem dX8_recognizeWord_48 : decode cX8_recognizeWord 48 = .ok (.bipush 60, 2) := by decide +kernel
theorem dX8_recognizeWord_50 : decode cX8_recognizeWord 50 = .ok (.iload_n 2, 1) := by decide +kernel
theorem dX8_recognizeWord_51 : decode cX8_recognizeWord 51 = .ok (.imul, 1) := by decide +kernel
theorem dX8_recognizeWord_52 : decode cX8_recognizeWord 52 = .ok (.iload 5, 2) := by decide +kernel
theorem dX8_recognizeWord_54 : decode cX8_recognizeWord 54 = .ok (.iadd, 1) := by decide +kernel
theorem dX8_recognizeWord_55 : decode cX8_recognizeWord 55 = .ok (.iaload, 1) := by decide +kernel
theorem dX8_recognizeWord_56 : decode cX8_recognizeWord 56 = .ok (.i2l, 1) := by decide +kernel
theorem dX8_recognizeWord_57 : decode cX8_recognizeWord 57 = .ok (.lconst 0, 1) := by decide +kernel
theorem dX8_recognizeWord_58 : decode cX8_recognizeWord 58 = .ok (.lconst 1, 1) := by decide +kernel
theorem dX8_recognizeWord_59 : decode cX8_recognizeWord 59 = .ok (.invokestatic 121, 3) := by decide +kernel
theorem dX8_recognizeWord_62 : decode cX8_recognizeWord 62 = .ok (.ifCond .ne 5, 3) := by decide +kernel
theorem dX8_recognizeWord_65 : decode cX8_recognizeWord 65 = .ok (.iconst 0, 1) := by decide +kernel
theorem dX8_recognizeWord_66 : decode cX8_recognizeWord 66 = .ok (.ireturn, 1) := by decide +kernel
theorem dX8_recognizeWord_67 : decode cX8_recognizeWord 67 = .ok (.iload 4, 2) := by decide +kernel
theorem dX8_recognizeWord_69 : decode cX8_recognizeWord 69 = .ok (.aload_n 0, 1) := by decide +kernel
theorem dX8_recognizeWord_70 : decode cX8_recognizeWord 70 = .ok (.getfield 97, 3) := by decide +kernel
theorem dX8_recognizeWord_73 : decode cX8_recognizeWord 73 = .ok (.bipush 60, 2) := by decide +kernel
theorem dX8_recognizeWord_75 : decode cX8_recognizeWord 75 = .ok (.iload_n 2, 1) := by decide +kernel
theorem dX8_recognizeWord_76 : decode cX8_recognizeWord 76 = .ok (.imul, 1) := by decide +kernel
theorem dX8_recognizeWord_77 : decode cX8_recognizeWord 77 = .ok (.iload 5, 2) := by decide +kernel
theorem dX8_recognizeWord_79 : decode cX8_recognizeWord 79 = .ok (.iadd, 1) := by decide +kernel
theorem dX8_recognizeWord_80 : decode cX8_recognizeWord 80 = .ok (.iaload, 1) := by decide +kernel
theorem dX8_recognizeWord_81 : decode cX8_recognizeWord 81 = .ok (.iadd, 1) := by decide +kernel
theorem dX8_recognizeWord_82 : decode cX8_recognizeWord 82 = .ok (.istore 4, 2) := by decide +kernel
theorem dX8_recognizeWord_84 : decode cX8_recognizeWord 84 = .ok (.iinc 5 1, 3) := by decide +kernel
theorem dX8_recognizeWord_87 : decode cX8_recognizeWord 87 = .ok (.goto (-49), 3) := by decide +kernel
theorem dX8_recognizeWord_90 : decode cX8_recognizeWord 90 = .ok (.iload 4, 2) := by decide +kernel
theorem dX8_recognizeWord_92 : decode cX8_recognizeWord 92 = .ok (.ifCond .eq 26, 3) := by decide +kernel
theorem dX8_recognizeWord_95 : decode cX8_recognizeWord 95 = .ok (.iload 4, 2) := by decide +kernel
theorem dX8_recognizeWord_97 : decode cX8_recognizeWord 97 = .ok (.iload_n 3, 1) := by decide +kernel
theorem dX8_recognizeWord_98 : decode cX8_recognizeWord 98 = .ok (.if_icmp .eq 20, 3) := by decide +kernel
theorem dX8_recognizeWord_101 : decode cX8_recognizeWord 101 = .ok (.aload_n 0, 1) := by decide +kernel
theorem dX8_recognizeWord_102 : decode cX8_recognizeWord 102 = .ok (.iload 4, 2) := by decide +kernel
theorem dX8_recognizeWord_104 : decode cX8_recognizeWord 104 = .ok (.i2l, 1) := by decide +kernel
theorem dX8_recognizeWord_105 : decode cX8_recognizeWord 105 = .ok (.iload_n 3, 1) := by decide +kernel
theorem dX8_recognizeWord_106 : decode cX8_recognizeWord 106 = .ok (.iload 4, 2) := by decide +kernel
theorem dX8_recognizeWord_108 : decode cX8_recognizeWord 108 = .ok (.isub, 1) := by decide +kernel
theorem dX8_recognizeWord_109 : decode cX8_recognizeWord 109 = .ok (.i2l, 1) := by decide +kernel
theorem dX8_recognizeWord_110 : decode cX8_recognizeWord 110 = .ok (.invokevirtual 125, 3) := by decide +kernel
theorem dX8_recognizeWord_113 : decode cX8_recognizeWord 113 = .ok (.lconst 1, 1) := by decide +kernel
theorem dX8_recognizeWord_114 : decode cX8_recognizeWord 114 = .ok (.lcmp, 1) := by decide +kernel
theorem dX8_recognizeWord_115 : decode cX8_recognizeWord 115 = .ok (.ifCond .eq 5, 3) := by decide +kernel
theorem dX8_recognizeWord_118 : decode cX8_recognizeWord 118 = .ok (.iconst 0, 1) := by decide +kernel
theorem dX8_recognizeWord_119 : decode cX8_recognizeWord 119 = .ok (.ireturn, 1) := by decide +kernel
theorem dX8_recognizeWord_120 : decode cX8_recognizeWord 120 = .ok (.iconst 0, 1) := by decide +kernel
theorem dX8_recognizeWord_121 : decode cX8_recognizeWord 121 = .ok (.istore 5, 2) := by decide +kernel
theorem dX8_recognizeWord_123 : decode cX8_recognizeWord 123 = .ok (.iload_n 3, 1) := by decide +kernel
theorem dX8_recognizeWord_124 : decode cX8_recognizeWord 124 = .ok (.iconst 1, 1) := by decide +kernel
theorem dX8_recognizeWord_125 : decode cX8_recognizeWord 125 = .ok (.isub, 1) := by decide +kernel
theorem dX8_recognizeWord_126 : decode cX8_recognizeWord 126 = .ok (.istore 6, 2) := by decide +kernel
theorem dX8_recognizeWord_128 : decode cX8_recognizeWord 128 = .ok (.iload 6, 2) := by decide +kernel
theorem dX8_recognizeWord_130 : decode cX8_recognizeWord 130 = .ok (.ifCond .lt 26, 3) := by decide +kernel
theorem dX8_recognizeWord_133 : decode cX8_recognizeWord 133 = .ok (.aload_n 0, 1) := by decide +kernel
theorem dX8_recognizeWord_134 : decode cX8_recognizeWord 134 = .ok (.iload_n 2, 1) := by decide +kernel
theorem dX8_recognizeWord_135 : decode cX8_recognizeWord 135 = .ok (.iload 4, 2) := by decide +kernel
theorem dX8_recognizeWord_137 : decode cX8_recognizeWord 137 = .ok (.iload_n 3, 1) := by decide +kernel
theorem dX8_recognizeWord_138 : decode cX8_recognizeWord 138 = .ok (.iload 6, 2) := by decide +kernel
theorem dX8_recognizeWord_140 : decode cX8_recognizeWord 140 = .ok (.iconst 0, 1) := by decide +kernel
theorem dX8_recognizeWord_141 : decode cX8_recognizeWord 141 = .ok (.invokevirtual 205, 3) := by decide +kernel
theorem dX8_recognizeWord_144 : decode cX8_recognizeWord 144 = .ok (.ifCond .eq 6, 3) := by decide +kernel
theorem dX8_recognizeWord_147 : decode cX8_recognizeWord 147 = .ok (.iconst 3, 1) := by decide +kernel
theorem dX8_recognizeWord_148 : decode cX8_recognizeWord 148 = .ok (.istore 5, 2) := by decide +kernel
theorem dX8_recognizeWord_150 : decode cX8_recognizeWord 150 = .ok (.iinc 6 (-1), 3) := by decide +kernel
theorem dX8_recognizeWord_153 : decode cX8_recognizeWord 153 = .ok (.goto (-25), 3) := by decide +kernel
theorem dX8_recognizeWord_156 : decode cX8_recognizeWord 156 = .ok (.aload_n 0, 1) := by decide +kernel
theorem dX8_recognizeWord_157 : decode cX8_recognizeWord 157 = .ok (.iload_n 2, 1) := by decide +kernel
theorem dX8_recognizeWord_158 : decode cX8_recognizeWord 158 = .ok (.iload 4, 2) := by decide +kernel
theorem dX8_recognizeWord_160 : decode cX8_recognizeWord 160 = .ok (.iload_n 3, 1) := by decide +kernel
theorem dX8_recognizeWord_161 : decode cX8_recognizeWord 161 = .ok (.iconst 0, 1) := by decide +kernel
theorem dX8_recognizeWord_162 : decode cX8_recognizeWord 162 = .ok (.iconst 1, 1) := by decide +kernel
theorem dX8_recognizeWord_163 : decode cX8_recognizeWord 163 = .ok (.invokevirtual 205, 3) := by decide +kernel
theorem dX8_recognizeWord_166 : decode cX8_recognizeWord 166 = .ok (.ifCond .eq 6, 3) := by decide +kernel
theorem dX8_recognizeWord_169 : decode cX8_recognizeWord 169 = .ok (.iconst 2, 1) := by decide +kernel
theorem dX8_recognizeWord_170 : decode cX8_recognizeWord 170 = .ok (.istore 5, 2) := by decide +kernel
theorem dX8_recognizeWord_172 : decode cX8_recognizeWord 172 = .ok (.aload_n 0, 1) := by decide +kernel
theorem dX8_recognizeWord_173 : decode cX8_recognizeWord 173 = .ok (.iload_n 2, 1) := by decide +kernel
theorem dX8_recognizeWord_174 : decode cX8_recognizeWord 174 = .ok (.iload 4, 2) := by decide +kernel
theorem dX8_recognizeWord_176 : decode cX8_recognizeWord 176 = .ok (.iload_n 3, 1) := by decide +kernel
theorem dX8_recognizeWord_177 : decode cX8_recognizeWord 177 = .ok (.iconst 0, 1) := by decide +kernel
theorem dX8_recognizeWord_178 : decode cX8_recognizeWord 178 = .ok (.iconst 0, 1) := by decide +kernel
theorem dX8_recognizeWord_179 : decode cX8_recognizeWord 179 = .ok (.invokevirtual 205, 3) := by decide +kernel
theorem dX8_recognizeWord_182 : decode cX8_recognizeWord 182 = .ok (.ifCond .eq 6, 3) := by decide +kernel
theorem dX8_recognizeWord_185 : decode cX8_recognizeWord 185 = .ok (.iconst 1, 1) := by decide +kernel
theorem dX8_recognizeWord_186 : decode cX8_recognizeWord 186 = .ok (.istore 5, 2) := by decide +kernel
theorem dX8_recognizeWord_188 : decode cX8_recognizeWord 188 = .ok (.iload 5, 2) := by decide +kernel
theorem dX8_recognizeWord_190 : decode cX8_recognizeWord 190 = .ok (.ifCond .eq 20, 3) := by decide +kernel
theorem dX8_recognizeWord_193 : decode cX8_recognizeWord 193 = .ok (.aload_n 0, 1) := by decide +kernel
theorem dX8_recognizeWord_194 : decode cX8_recognizeWord 194 = .ok (.iload_n 1, 1) := by decide +kernel
theorem dX8_recognizeWord_195 : decode cX8_recognizeWord 195 = .ok (.iload 4, 2) := by decide +kernel
theorem dX8_recognizeWord_197 : decode cX8_recognizeWord 197 = .ok (.i2l, 1) := by decide +kernel
theorem dX8_recognizeWord_198 : decode cX8_recognizeWord 198 = .ok (.iload_n 3, 1) := by decide +kernel
theorem dX8_recognizeWord_199 : decode cX8_recognizeWord 199 = .ok (.iload 4, 2) := by decide +kernel
theorem dX8_recognizeWord_201 : decode cX8_recognizeWord 201 = .ok (.isub, 1) := by decide +kernel
theorem dX8_recognizeWord_202 : decode cX8_recognizeWord 202 = .ok (.i2l, 1) := by decide +kernel
theorem dX8_recognizeWord_203 : decode cX8_recognizeWord 203 = .ok (.invokevirtual 135, 3) := by decide +kernel
theorem dX8_recognizeWord_206 : decode cX8_recognizeWord 206 = .ok (.iconst 1, 1) := by decide +kernel
theorem dX8_recognizeWord_207 : decode cX8_recognizeWord 207 = .ok (.if_icmp .ne 8, 3) := by decide +kernel
theorem dX8_recognizeWord_210 : decode cX8_recognizeWord 210 = .ok (.iload 5, 2) := by decide +kernel
theorem dX8_recognizeWord_212 : decode cX8_recognizeWord 212 = .ok (.goto 4, 3) := by decide +kernel
theorem dX8_recognizeWord_215 : decode cX8_recognizeWord 215 = .ok (.iconst 0, 1) := by decide +kernel
theorem dX8_recognizeWord_216 : decode cX8_recognizeWord 216 = .ok (.ireturn, 1) := by decide +kernel
set_option maxRecDepth 20000 in
theorem ggX8_isWord_X8_letterOf : GoodIn wsX8_isWord wsX8_letterOf := goodIn_r _ [6] (by decide +kernel) (by decide +kernel)
set_option maxRecDepth 20000 in
theorem gX8_isWord_X8_letterOf : GoodIn wsX8_isWord (wsV RX8 199 RX8 yX8_letterOf wsX8_letterOf) := goodIn_app (goodIn_of _ (by decide +kernel)) ggX8_isWord_X8_letterOf
theorem dX8_isWord_0 : decode cX8_isWord 0 = .ok (.iconst 0, 1) := by decide +kernel
theorem dX8_isWord_1 : decode cX8_isWord 1 = .ok (.istore 6, 2) := by decide +kernel
theorem dX8_isWord_3 : decode cX8_isWord 3 = .ok (.iload 6, 2) := by decide +kernel
theorem dX8_isWord_5 : decode cX8_isWord 5 = .ok (.iload_n 3, 1) := by decide +kernel
theorem dX8_isWord_6 : decode cX8_isWord 6 = .ok (.if_icmp .ge 55, 3) := by decide +kernel
theorem dX8_isWord_9 : decode cX8_isWord 9 = .ok (.aload_n 0, 1) := by decide +kernel
theorem dX8_isWord_10 : decode cX8_isWord 10 = .ok (.getfield 97, 3) := by decide +kernel
theorem dX8_isWord_13 : decode cX8_isWord 13 = .ok (.bipush 60, 2) := by decide +kernel
theorem dX8_isWord_15 : decode cX8_isWord 15 = .ok (.iload_n 1, 1) := by decide +kernel
theorem dX8_isWord_16 : decode cX8_isWord 16 = .ok (.imul, 1) := by decide +kernel
theorem dX8_isWord_17 : decode cX8_isWord 17 = .ok (.iload 5, 2) := by decide +kernel
theorem dX8_isWord_19 : decode cX8_isWord 19 = .ok (.ifCond .eq 12, 3) := by decide +kernel
theorem dX8_isWord_22 : decode cX8_isWord 22 = .ok (.iload_n 3, 1) := by decide +kernel
theorem dX8_isWord_23 : decode cX8_isWord 23 = .ok (.iconst 1, 1) := by decide +kernel
theorem dX8_isWord_24 : decode cX8_isWord 24 = .ok (.isub, 1) := by decide +kernel
theorem dX8_isWord_25 : decode cX8_isWord 25 = .ok (.iload 6, 2) := by decide +kernel
theorem dX8_isWord_27 : decode cX8_isWord 27 = .ok (.isub, 1) := by decide +kernel
theorem dX8_isWord_28 : decode cX8_isWord 28 = .ok (.goto 10, 3) := by decide +kernel
theorem dX8_isWord_31 : decode cX8_isWord 31 = .ok (.iload 6, 2) := by decide +kernel
theorem dX8_isWord_33 : decode cX8_isWord 33 = .ok (.iload 4, 2) := by decide +kernel
theorem dX8_isWord_35 : decode cX8_isWord 35 = .ok (.iadd, 1) := by decide +kernel
theorem dX8_isWord_36 : decode cX8_isWord 36 = .ok (.iload_n 3, 1) := by decide +kernel
theorem dX8_isWord_37 : decode cX8_isWord 37 = .ok (.irem, 1) := by decide +kernel
theorem dX8_isWord_38 : decode cX8_isWord 38 = .ok (.iadd, 1) := by decide +kernel
theorem dX8_isWord_39 : decode cX8_isWord 39 = .ok (.iaload, 1) := by decide +kernel
theorem dX8_isWord_40 : decode cX8_isWord 40 = .ok (.aload_n 0, 1) := by decide +kernel
theorem dX8_isWord_41 : decode cX8_isWord 41 = .ok (.iload_n 2, 1) := by decide +kernel
theorem dX8_isWord_42 : decode cX8_isWord 42 = .ok (.iload_n 3, 1) := by decide +kernel
theorem dX8_isWord_43 : decode cX8_isWord 43 = .ok (.iload_n 2, 1) := by decide +kernel
theorem dX8_isWord_44 : decode cX8_isWord 44 = .ok (.isub, 1) := by decide +kernel
theorem dX8_isWord_45 : decode cX8_isWord 45 = .ok (.iload 6, 2) := by decide +kernel
theorem dX8_isWord_47 : decode cX8_isWord 47 = .ok (.invokevirtual 199, 3) := by decide +kernel
theorem dX8_isWord_50 : decode cX8_isWord 50 = .ok (.if_icmp .eq 5, 3) := by decide +kernel
theorem dX8_isWord_53 : decode cX8_isWord 53 = .ok (.iconst 0, 1) := by decide +kernel
theorem dX8_isWord_54 : decode cX8_isWord 54 = .ok (.ireturn, 1) := by decide +kernel
theorem dX8_isWord_55 : decode cX8_isWord 55 = .ok (.iinc 6 1, 3) := by decide +kernel
theorem dX8_isWord_58 : decode cX8_isWord 58 = .ok (.goto (-55), 3) := by decide +kernel
theorem dX8_isWord_61 : decode cX8_isWord 61 = .ok (.iconst 1, 1) := by decide +kernel
theorem dX8_isWord_62 : decode cX8_isWord 62 = .ok (.ireturn, 1) := by decide +kernel
set_option maxRecDepth 20000 in
theorem ggX8_dedekind_X8_isRegister : GoodIn wsX8_dedekind wsX8_isRegister := goodIn_r _ [10, 11, 12, 13, 9, 14] (by decide +kernel) (by decide +kernel)
set_option maxRecDepth 20000 in
theorem gX8_dedekind_X8_isRegister : GoodIn wsX8_dedekind (wsV RX8 131 RX8 yX8_isRegister wsX8_isRegister) := goodIn_app (goodIn_of _ (by decide +kernel)) ggX8_dedekind_X8_isRegister
theorem dX8_dedekind_0 : decode cX8_dedekind 0 = .ok (.aload_n 0, 1) := by decide +kernel
theorem dX8_dedekind_1 : decode cX8_dedekind 1 = .ok (.iload_n 1, 1) := by decide +kernel
theorem dX8_dedekind_2 : decode cX8_dedekind 2 = .ok (.invokevirtual 131, 3) := by decide +kernel
theorem dX8_dedekind_5 : decode cX8_dedekind 5 = .ok (.ifCond .eq 15, 3) := by decide +kernel
theorem dX8_dedekind_8 : decode cX8_dedekind 8 = .ok (.aload_n 0, 1) := by decide +kernel
theorem dX8_dedekind_9 : decode cX8_dedekind 9 = .ok (.getfield 13, 3) := by decide +kernel
theorem dX8_dedekind_12 : decode cX8_dedekind 12 = .ok (.iload_n 1, 1) := by decide +kernel
theorem dX8_dedekind_13 : decode cX8_dedekind 13 = .ok (.iaload, 1) := by decide +kernel
theorem dX8_dedekind_14 : decode cX8_dedekind 14 = .ok (.sipush 20000, 3) := by decide +kernel
theorem dX8_dedekind_17 : decode cX8_dedekind 17 = .ok (.if_icmp .le 6, 3) := by decide +kernel
theorem dX8_dedekind_20 : decode cX8_dedekind 20 = .ok (.ldc 209, 2) := by decide +kernel
theorem dX8_dedekind_22 : decode cX8_dedekind 22 = .ok (.ireturn, 1) := by decide +kernel
theorem dX8_dedekind_23 : decode cX8_dedekind 23 = .ok (.aload_n 0, 1) := by decide +kernel
theorem dX8_dedekind_24 : decode cX8_dedekind 24 = .ok (.getfield 7, 3) := by decide +kernel
theorem dX8_dedekind_27 : decode cX8_dedekind 27 = .ok (.iload_n 1, 1) := by decide +kernel
theorem dX8_dedekind_28 : decode cX8_dedekind 28 = .ok (.iaload, 1) := by decide +kernel
theorem dX8_dedekind_29 : decode cX8_dedekind 29 = .ok (.i2l, 1) := by decide +kernel
theorem dX8_dedekind_30 : decode cX8_dedekind 30 = .ok (.lstore_n 2, 1) := by decide +kernel
theorem dX8_dedekind_31 : decode cX8_dedekind 31 = .ok (.aload_n 0, 1) := by decide +kernel
theorem dX8_dedekind_32 : decode cX8_dedekind 32 = .ok (.getfield 13, 3) := by decide +kernel
theorem dX8_dedekind_35 : decode cX8_dedekind 35 = .ok (.iload_n 1, 1) := by decide +kernel
theorem dX8_dedekind_36 : decode cX8_dedekind 36 = .ok (.iaload, 1) := by decide +kernel
theorem dX8_dedekind_37 : decode cX8_dedekind 37 = .ok (.i2l, 1) := by decide +kernel
theorem dX8_dedekind_38 : decode cX8_dedekind 38 = .ok (.lstore 4, 2) := by decide +kernel
theorem dX8_dedekind_40 : decode cX8_dedekind 40 = .ok (.lconst 0, 1) := by decide +kernel
theorem dX8_dedekind_41 : decode cX8_dedekind 41 = .ok (.lstore 6, 2) := by decide +kernel
theorem dX8_dedekind_43 : decode cX8_dedekind 43 = .ok (.lconst 1, 1) := by decide +kernel
theorem dX8_dedekind_44 : decode cX8_dedekind 44 = .ok (.lstore 8, 2) := by decide +kernel
theorem dX8_dedekind_46 : decode cX8_dedekind 46 = .ok (.lload 8, 2) := by decide +kernel
theorem dX8_dedekind_48 : decode cX8_dedekind 48 = .ok (.lload 4, 2) := by decide +kernel
theorem dX8_dedekind_50 : decode cX8_dedekind 50 = .ok (.lcmp, 1) := by decide +kernel
theorem dX8_dedekind_51 : decode cX8_dedekind 51 = .ok (.ifCond .ge 41, 3) := by decide +kernel
theorem dX8_dedekind_54 : decode cX8_dedekind 54 = .ok (.lload 6, 2) := by decide +kernel
theorem dX8_dedekind_56 : decode cX8_dedekind 56 = .ok (.ldc2_w 182, 3) := by decide +kernel
theorem dX8_dedekind_59 : decode cX8_dedekind 59 = .ok (.lload 8, 2) := by decide +kernel
theorem dX8_dedekind_61 : decode cX8_dedekind 61 = .ok (.lmul, 1) := by decide +kernel
theorem dX8_dedekind_62 : decode cX8_dedekind 62 = .ok (.lload 4, 2) := by decide +kernel
theorem dX8_dedekind_64 : decode cX8_dedekind 64 = .ok (.lsub, 1) := by decide +kernel
theorem dX8_dedekind_65 : decode cX8_dedekind 65 = .ok (.ldc2_w 182, 3) := by decide +kernel
theorem dX8_dedekind_68 : decode cX8_dedekind 68 = .ok (.lload 8, 2) := by decide +kernel
theorem dX8_dedekind_70 : decode cX8_dedekind 70 = .ok (.lload_n 2, 1) := by decide +kernel
theorem dX8_dedekind_71 : decode cX8_dedekind 71 = .ok (.lmul, 1) := by decide +kernel
theorem dX8_dedekind_72 : decode cX8_dedekind 72 = .ok (.lload 4, 2) := by decide +kernel
theorem dX8_dedekind_74 : decode cX8_dedekind 74 = .ok (.lrem, 1) := by decide +kernel
theorem dX8_dedekind_75 : decode cX8_dedekind 75 = .ok (.lmul, 1) := by decide +kernel
theorem dX8_dedekind_76 : decode cX8_dedekind 76 = .ok (.lload 4, 2) := by decide +kernel
theorem dX8_dedekind_78 : decode cX8_dedekind 78 = .ok (.lsub, 1) := by decide +kernel
theorem dX8_dedekind_79 : decode cX8_dedekind 79 = .ok (.lmul, 1) := by decide +kernel
theorem dX8_dedekind_80 : decode cX8_dedekind 80 = .ok (.ladd, 1) := by decide +kernel
theorem dX8_dedekind_81 : decode cX8_dedekind 81 = .ok (.lstore 6, 2) := by decide +kernel
theorem dX8_dedekind_83 : decode cX8_dedekind 83 = .ok (.lload 8, 2) := by decide +kernel
theorem dX8_dedekind_85 : decode cX8_dedekind 85 = .ok (.lconst 1, 1) := by decide +kernel
theorem dX8_dedekind_86 : decode cX8_dedekind 86 = .ok (.ladd, 1) := by decide +kernel
theorem dX8_dedekind_87 : decode cX8_dedekind 87 = .ok (.lstore 8, 2) := by decide +kernel
theorem dX8_dedekind_89 : decode cX8_dedekind 89 = .ok (.goto (-43), 3) := by decide +kernel
theorem dX8_dedekind_92 : decode cX8_dedekind 92 = .ok (.ldc2_w 210, 3) := by decide +kernel
theorem dX8_dedekind_95 : decode cX8_dedekind 95 = .ok (.lload 6, 2) := by decide +kernel
theorem dX8_dedekind_97 : decode cX8_dedekind 97 = .ok (.lmul, 1) := by decide +kernel
theorem dX8_dedekind_98 : decode cX8_dedekind 98 = .ok (.lload 4, 2) := by decide +kernel
theorem dX8_dedekind_100 : decode cX8_dedekind 100 = .ok (.ldiv, 1) := by decide +kernel
theorem dX8_dedekind_101 : decode cX8_dedekind 101 = .ok (.l2i, 1) := by decide +kernel
theorem dX8_dedekind_102 : decode cX8_dedekind 102 = .ok (.ireturn, 1) := by decide +kernel
set_option maxRecDepth 20000 in
theorem ggX8_feed_X8_within : GoodIn wsX8_feed wsX8_within := goodIn_r _ [8] (by decide +kernel) (by decide +kernel)
set_option maxRecDepth 20000 in
theorem gX8_feed_X8_within : GoodIn wsX8_feed (va_wsS RX8 121 yX8_within wsX8_within) := goodIn_app (goodIn_of _ (by decide +kernel)) ggX8_feed_X8_within
theorem dX8_feed_0 : decode cX8_feed 0 = .ok (.iload_n 1, 1) := by decide +kernel
theorem dX8_feed_1 : decode cX8_feed 1 = .ok (.i2l, 1) := by decide +kernel
theorem dX8_feed_2 : decode cX8_feed 2 = .ok (.ldc2_w 212, 3) := by decide +kernel
theorem dX8_feed_5 : decode cX8_feed 5 = .ok (.ldc2_w 214, 3) := by decide +kernel
theorem dX8_feed_8 : decode cX8_feed 8 = .ok (.invokestatic 121, 3) := by decide +kernel
theorem dX8_feed_11 : decode cX8_feed 11 = .ok (.ifCond .ne 5, 3) := by decide +kernel
theorem dX8_feed_14 : decode cX8_feed 14 = .ok (.iconst (-1), 1) := by decide +kernel
theorem dX8_feed_15 : decode cX8_feed 15 = .ok (.ireturn, 1) := by decide +kernel
theorem dX8_feed_16 : decode cX8_feed 16 = .ok (.aload_n 0, 1) := by decide +kernel
theorem dX8_feed_17 : decode cX8_feed 17 = .ok (.getfield 67, 3) := by decide +kernel
theorem dX8_feed_20 : decode cX8_feed 20 = .ok (.bipush 60, 2) := by decide +kernel
theorem dX8_feed_22 : decode cX8_feed 22 = .ok (.if_icmp .ne 6, 3) := by decide +kernel
theorem dX8_feed_25 : decode cX8_feed 25 = .ok (.bipush (-5), 2) := by decide +kernel
theorem dX8_feed_27 : decode cX8_feed 27 = .ok (.ireturn, 1) := by decide +kernel
theorem dX8_feed_28 : decode cX8_feed 28 = .ok (.aload_n 0, 1) := by decide +kernel
theorem dX8_feed_29 : decode cX8_feed 29 = .ok (.getfield 64, 3) := by decide +kernel
theorem dX8_feed_32 : decode cX8_feed 32 = .ok (.aload_n 0, 1) := by decide +kernel
theorem dX8_feed_33 : decode cX8_feed 33 = .ok (.getfield 67, 3) := by decide +kernel
theorem dX8_feed_36 : decode cX8_feed 36 = .ok (.iload_n 1, 1) := by decide +kernel
theorem dX8_feed_37 : decode cX8_feed 37 = .ok (.iastore, 1) := by decide +kernel
theorem dX8_feed_38 : decode cX8_feed 38 = .ok (.aload_n 0, 1) := by decide +kernel
theorem dX8_feed_39 : decode cX8_feed 39 = .ok (.dup, 1) := by decide +kernel
theorem dX8_feed_40 : decode cX8_feed 40 = .ok (.getfield 67, 3) := by decide +kernel
theorem dX8_feed_43 : decode cX8_feed 43 = .ok (.iconst 1, 1) := by decide +kernel
theorem dX8_feed_44 : decode cX8_feed 44 = .ok (.iadd, 1) := by decide +kernel
theorem dX8_feed_45 : decode cX8_feed 45 = .ok (.putfield 67, 3) := by decide +kernel
theorem dX8_feed_48 : decode cX8_feed 48 = .ok (.aload_n 0, 1) := by decide +kernel
theorem dX8_feed_49 : decode cX8_feed 49 = .ok (.getfield 67, 3) := by decide +kernel
theorem dX8_feed_52 : decode cX8_feed 52 = .ok (.ireturn, 1) := by decide +kernel
theorem dX8_discardText_0 : decode cX8_discardText 0 = .ok (.aload_n 0, 1) := by decide +kernel
theorem dX8_discardText_1 : decode cX8_discardText 1 = .ok (.getfield 67, 3) := by decide +kernel
theorem dX8_discardText_4 : decode cX8_discardText 4 = .ok (.istore_n 1, 1) := by decide +kernel
theorem dX8_discardText_5 : decode cX8_discardText 5 = .ok (.aload_n 0, 1) := by decide +kernel
theorem dX8_discardText_6 : decode cX8_discardText 6 = .ok (.iconst 0, 1) := by decide +kernel
theorem dX8_discardText_7 : decode cX8_discardText 7 = .ok (.putfield 67, 3) := by decide +kernel
theorem dX8_discardText_10 : decode cX8_discardText 10 = .ok (.iload_n 1, 1) := by decide +kernel
theorem dX8_discardText_11 : decode cX8_discardText 11 = .ok (.ireturn, 1) := by decide +kernel
set_option maxRecDepth 20000 in
theorem ggX8_readText_X8_within : GoodIn wsX8_readText wsX8_within := goodIn_r _ [11] (by decide +kernel) (by decide +kernel)
set_option maxRecDepth 20000 in
theorem gX8_readText_X8_within : GoodIn wsX8_readText (va_wsS RX8 121 yX8_within wsX8_within) := goodIn_app (goodIn_of _ (by decide +kernel)) ggX8_readText_X8_within
theorem dX8_readText_0 : decode cX8_readText 0 = .ok (.aload_n 0, 1) := by decide +kernel
theorem dX8_readText_1 : decode cX8_readText 1 = .ok (.iconst 0, 1) := by decide +kernel
theorem dX8_readText_2 : decode cX8_readText 2 = .ok (.putfield 76, 3) := by decide +kernel
theorem dX8_readText_5 : decode cX8_readText 5 = .ok (.bipush 6, 2) := by decide +kernel
theorem dX8_readText_7 : decode cX8_readText 7 = .ok (.istore_n 2, 1) := by decide +kernel
theorem dX8_readText_8 : decode cX8_readText 8 = .ok (.iconst 0, 1) := by decide +kernel
theorem dX8_readText_9 : decode cX8_readText 9 = .ok (.istore_n 3, 1) := by decide +kernel
theorem dX8_readText_10 : decode cX8_readText 10 = .ok (.iload_n 3, 1) := by decide +kernel
theorem dX8_readText_11 : decode cX8_readText 11 = .ok (.iload_n 1, 1) := by decide +kernel
theorem dX8_readText_12 : decode cX8_readText 12 = .ok (.if_icmp .ge 152, 3) := by decide +kernel
theorem dX8_readText_15 : decode cX8_readText 15 = .ok (.aload_n 0, 1) := by decide +kernel
theorem dX8_readText_16 : decode cX8_readText 16 = .ok (.getfield 64, 3) := by decide +kernel
theorem dX8_readText_19 : decode cX8_readText 19 = .ok (.iload_n 3, 1) := by decide +kernel
theorem dX8_readText_20 : decode cX8_readText 20 = .ok (.iaload, 1) := by decide +kernel
theorem dX8_readText_21 : decode cX8_readText 21 = .ok (.istore 4, 2) := by decide +kernel
theorem dX8_readText_23 : decode cX8_readText 23 = .ok (.iload 4, 2) := by decide +kernel
theorem dX8_readText_25 : decode cX8_readText 25 = .ok (.bipush 76, 2) := by decide +kernel
theorem dX8_readText_27 : decode cX8_readText 27 = .ok (.if_icmp .eq 10, 3) := by decide +kernel
theorem dX8_readText_30 : decode cX8_readText 30 = .ok (.iload 4, 2) := by decide +kernel
theorem dX8_readText_32 : decode cX8_readText 32 = .ok (.bipush 82, 2) := by decide +kernel
theorem dX8_readText_34 : decode cX8_readText 34 = .ok (.if_icmp .ne 49, 3) := by decide +kernel
theorem dX8_readText_37 : decode cX8_readText 37 = .ok (.aload_n 0, 1) := by decide +kernel
theorem dX8_readText_38 : decode cX8_readText 38 = .ok (.getfield 70, 3) := by decide +kernel
theorem dX8_readText_41 : decode cX8_readText 41 = .ok (.aload_n 0, 1) := by decide +kernel
theorem dX8_readText_42 : decode cX8_readText 42 = .ok (.getfield 76, 3) := by decide +kernel
theorem dX8_readText_45 : decode cX8_readText 45 = .ok (.iconst 1, 1) := by decide +kernel
theorem dX8_readText_46 : decode cX8_readText 46 = .ok (.iastore, 1) := by decide +kernel
theorem dX8_readText_47 : decode cX8_readText 47 = .ok (.aload_n 0, 1) := by decide +kernel
theorem dX8_readText_48 : decode cX8_readText 48 = .ok (.getfield 73, 3) := by decide +kernel
theorem dX8_readText_51 : decode cX8_readText 51 = .ok (.aload_n 0, 1) := by decide +kernel
theorem dX8_readText_52 : decode cX8_readText 52 = .ok (.getfield 76, 3) := by decide +kernel
theorem dX8_readText_55 : decode cX8_readText 55 = .ok (.iload 4, 2) := by decide +kernel
theorem dX8_readText_57 : decode cX8_readText 57 = .ok (.bipush 82, 2) := by decide +kernel
theorem dX8_readText_59 : decode cX8_readText 59 = .ok (.if_icmp .ne 7, 3) := by decide +kernel
theorem dX8_readText_62 : decode cX8_readText 62 = .ok (.iconst 1, 1) := by decide +kernel
theorem dX8_readText_63 : decode cX8_readText 63 = .ok (.goto 4, 3) := by decide +kernel
theorem dX8_readText_66 : decode cX8_readText 66 = .ok (.iconst 0, 1) := by decide +kernel
theorem dX8_readText_67 : decode cX8_readText 67 = .ok (.iastore, 1) := by decide +kernel
theorem dX8_readText_68 : decode cX8_readText 68 = .ok (.aload_n 0, 1) := by decide +kernel
theorem dX8_readText_69 : decode cX8_readText 69 = .ok (.dup, 1) := by decide +kernel
theorem dX8_readText_70 : decode cX8_readText 70 = .ok (.getfield 76, 3) := by decide +kernel
theorem dX8_readText_73 : decode cX8_readText 73 = .ok (.iconst 1, 1) := by decide +kernel
theorem dX8_readText_74 : decode cX8_readText 74 = .ok (.iadd, 1) := by decide +kernel
theorem dX8_readText_75 : decode cX8_readText 75 = .ok (.putfield 76, 3) := by decide +kernel
theorem dX8_readText_78 : decode cX8_readText 78 = .ok (.iconst 0, 1) := by decide +kernel
theorem dX8_readText_79 : decode cX8_readText 79 = .ok (.istore_n 2, 1) := by decide +kernel
theorem dX8_readText_80 : decode cX8_readText 80 = .ok (.goto 78, 3) := by decide +kernel
theorem dX8_readText_83 : decode cX8_readText 83 = .ok (.iload_n 2, 1) := by decide +kernel
theorem dX8_readText_84 : decode cX8_readText 84 = .ok (.bipush 6, 2) := by decide +kernel
theorem dX8_readText_86 : decode cX8_readText 86 = .ok (.if_icmp .eq 28, 3) := by decide +kernel
theorem dX8_readText_89 : decode cX8_readText 89 = .ok (.iload 4, 2) := by decide +kernel
theorem dX8_readText_91 : decode cX8_readText 91 = .ok (.i2l, 1) := by decide +kernel
theorem dX8_readText_92 : decode cX8_readText 92 = .ok (.iload_n 2, 1) := by decide +kernel
theorem dX8_readText_93 : decode cX8_readText 93 = .ok (.ifCond .ne 9, 3) := by decide +kernel
theorem dX8_readText_96 : decode cX8_readText 96 = .ok (.ldc2_w 216, 3) := by decide +kernel
theorem dX8_readText_99 : decode cX8_readText 99 = .ok (.goto 6, 3) := by decide +kernel
theorem dX8_readText_102 : decode cX8_readText 102 = .ok (.ldc2_w 218, 3) := by decide +kernel
theorem dX8_readText_105 : decode cX8_readText 105 = .ok (.ldc2_w 220, 3) := by decide +kernel
theorem dX8_readText_108 : decode cX8_readText 108 = .ok (.invokestatic 121, 3) := by decide +kernel
theorem dX8_readText_111 : decode cX8_readText 111 = .ok (.ifCond .ne 5, 3) := by decide +kernel
theorem dX8_readText_114 : decode cX8_readText 114 = .ok (.iload_n 3, 1) := by decide +kernel
theorem dX8_readText_115 : decode cX8_readText 115 = .ok (.ireturn, 1) := by decide +kernel
theorem dX8_readText_116 : decode cX8_readText 116 = .ok (.aload_n 0, 1) := by decide +kernel
theorem dX8_readText_117 : decode cX8_readText 117 = .ok (.getfield 70, 3) := by decide +kernel
theorem dX8_readText_120 : decode cX8_readText 120 = .ok (.aload_n 0, 1) := by decide +kernel
theorem dX8_readText_121 : decode cX8_readText 121 = .ok (.getfield 76, 3) := by decide +kernel
theorem dX8_readText_124 : decode cX8_readText 124 = .ok (.iconst 1, 1) := by decide +kernel
theorem dX8_readText_125 : decode cX8_readText 125 = .ok (.isub, 1) := by decide +kernel
theorem dX8_readText_126 : decode cX8_readText 126 = .ok (.iload_n 2, 1) := by decide +kernel
theorem dX8_readText_127 : decode cX8_readText 127 = .ok (.ifCond .ne 7, 3) := by decide +kernel
theorem dX8_readText_130 : decode cX8_readText 130 = .ok (.iconst 0, 1) := by decide +kernel
theorem dX8_readText_131 : decode cX8_readText 131 = .ok (.goto 17, 3) := by decide +kernel
theorem dX8_readText_134 : decode cX8_readText 134 = .ok (.bipush 10, 2) := by decide +kernel
theorem dX8_readText_136 : decode cX8_readText 136 = .ok (.aload_n 0, 1) := by decide +kernel
theorem dX8_readText_137 : decode cX8_readText 137 = .ok (.getfield 70, 3) := by decide +kernel
theorem dX8_readText_140 : decode cX8_readText 140 = .ok (.aload_n 0, 1) := by decide +kernel
theorem dX8_readText_141 : decode cX8_readText 141 = .ok (.getfield 76, 3) := by decide +kernel
theorem dX8_readText_144 : decode cX8_readText 144 = .ok (.iconst 1, 1) := by decide +kernel
theorem dX8_readText_145 : decode cX8_readText 145 = .ok (.isub, 1) := by decide +kernel
theorem dX8_readText_146 : decode cX8_readText 146 = .ok (.iaload, 1) := by decide +kernel
theorem dX8_readText_147 : decode cX8_readText 147 = .ok (.imul, 1) := by decide +kernel
theorem dX8_readText_148 : decode cX8_readText 148 = .ok (.iload 4, 2) := by decide +kernel
theorem dX8_readText_150 : decode cX8_readText 150 = .ok (.iadd, 1) := by decide +kernel
theorem dX8_readText_151 : decode cX8_readText 151 = .ok (.bipush 48, 2) := by decide +kernel
theorem dX8_readText_153 : decode cX8_readText 153 = .ok (.isub, 1) := by decide +kernel
theorem dX8_readText_154 : decode cX8_readText 154 = .ok (.iastore, 1) := by decide +kernel
theorem dX8_readText_155 : decode cX8_readText 155 = .ok (.iinc 2 1, 3) := by decide +kernel
theorem dX8_readText_158 : decode cX8_readText 158 = .ok (.iinc 3 1, 3) := by decide +kernel
theorem dX8_readText_161 : decode cX8_readText 161 = .ok (.goto (-151), 3) := by decide +kernel
theorem dX8_readText_164 : decode cX8_readText 164 = .ok (.iconst (-1), 1) := by decide +kernel
theorem dX8_readText_165 : decode cX8_readText 165 = .ok (.ireturn, 1) := by decide +kernel
set_option maxRecDepth 20000 in
theorem ggX8_followPath_X8_isRegister : GoodIn wsX8_followPath wsX8_isRegister := goodIn_r _ [12, 13, 14, 15, 11, 16] (by decide +kernel) (by decide +kernel)
set_option maxRecDepth 20000 in
theorem gX8_followPath_X8_isRegister : GoodIn wsX8_followPath (wsV RX8 131 RX8 yX8_isRegister wsX8_isRegister) := goodIn_app (goodIn_of _ (by decide +kernel)) ggX8_followPath_X8_isRegister
set_option maxRecDepth 20000 in
theorem ggX8_followPath_X8_readText : GoodIn wsX8_followPath wsX8_readText := goodIn_r _ [20, 4, 21, 6, 5, 22, 23, 24, 14, 15, 11, 16, 33, 34, 35, 36, 37, 38, 39, 40, 41, 42, 43, 44, 45, 46, 47, 48, 49, 50, 51, 52, 53, 54, 55, 56, 57, 58, 59, 60, 61, 62, 63, 64, 65, 66, 67] (by decide +kernel) (by decide +kernel)
set_option maxRecDepth 20000 in
theorem gX8_followPath_X8_readText : GoodIn wsX8_followPath (wsV RX8 222 RX8 yX8_readText wsX8_readText) := goodIn_app (goodIn_of _ (by decide +kernel)) ggX8_followPath_X8_readText
set_option maxRecDepth 20000 in
theorem ggX8_followPath_X8_put : GoodIn wsX8_followPath wsX8_put := goodIn_r _ [28, 7, 2, 3, 29, 30, 31, 11, 32, 33, 34, 35, 36, 37, 38, 39, 40, 41, 42, 43, 44, 45, 46, 47, 48, 49, 50, 51, 52, 53, 54, 55, 56, 57, 58, 59, 60, 61, 62, 63, 64, 65, 66, 67] (by decide +kernel) (by decide +kernel)
set_option maxRecDepth 20000 in
theorem gX8_followPath_X8_put : GoodIn wsX8_followPath (wsV RX8 135 RX8 yX8_put wsX8_put) := goodIn_app (goodIn_of _ (by decide +kernel)) ggX8_followPath_X8_put
theorem dX8_followPath_0 : decode cX8_followPath 0 = .ok (.aload_n 0, 1) := by decide +kernel
theorem dX8_followPath_1 : decode cX8_followPath 1 = .ok (.iload_n 1, 1) := by decide +kernel
theorem dX8_followPath_2 : decode cX8_followPath 2 = .ok (.invokevirtual 131, 3) := by decide +kernel
theorem dX8_followPath_5 : decode cX8_followPath 5 = .ok (.ifCond .eq 11, 3) := by decide +kernel
theorem dX8_followPath_8 : decode cX8_followPath 8 = .ok (.aload_n 0, 1) := by decide +kernel
theorem dX8_followPath_9 : decode cX8_followPath 9 = .ok (.iload_n 2, 1) := by decide +kernel
theorem dX8_followPath_10 : decode cX8_followPath 10 = .ok (.invokevirtual 131, 3) := by decide +kernel
theorem dX8_followPath_13 : decode cX8_followPath 13 = .ok (.ifCond .ne 5, 3) := by decide +kernel
theorem dX8_followPath_16 : decode cX8_followPath 16 = .ok (.iconst (-1), 1) := by decide +kernel
theorem dX8_followPath_17 : decode cX8_followPath 17 = .ok (.ireturn, 1) := by decide +kernel
theorem dX8_followPath_18 : decode cX8_followPath 18 = .ok (.aload_n 0, 1) := by decide +kernel
theorem dX8_followPath_19 : decode cX8_followPath 19 = .ok (.aload_n 0, 1) := by decide +kernel
theorem dX8_followPath_20 : decode cX8_followPath 20 = .ok (.getfield 67, 3) := by decide +kernel
theorem dX8_followPath_23 : decode cX8_followPath 23 = .ok (.invokevirtual 222, 3) := by decide +kernel
theorem dX8_followPath_26 : decode cX8_followPath 26 = .ok (.istore_n 3, 1) := by decide +kernel
theorem dX8_followPath_27 : decode cX8_followPath 27 = .ok (.aload_n 0, 1) := by decide +kernel
theorem dX8_followPath_28 : decode cX8_followPath 28 = .ok (.iconst 0, 1) := by decide +kernel
theorem dX8_followPath_29 : decode cX8_followPath 29 = .ok (.putfield 67, 3) := by decide +kernel
theorem dX8_followPath_32 : decode cX8_followPath 32 = .ok (.iload_n 3, 1) := by decide +kernel
theorem dX8_followPath_33 : decode cX8_followPath 33 = .ok (.ifCond .lt 8, 3) := by decide +kernel
theorem dX8_followPath_36 : decode cX8_followPath 36 = .ok (.bipush (-100), 2) := by decide +kernel
theorem dX8_followPath_38 : decode cX8_followPath 38 = .ok (.iload_n 3, 1) := by decide +kernel
theorem dX8_followPath_39 : decode cX8_followPath 39 = .ok (.isub, 1) := by decide +kernel
theorem dX8_followPath_40 : decode cX8_followPath 40 = .ok (.ireturn, 1) := by decide +kernel
theorem dX8_followPath_41 : decode cX8_followPath 41 = .ok (.aload_n 0, 1) := by decide +kernel
theorem dX8_followPath_42 : decode cX8_followPath 42 = .ok (.getfield 7, 3) := by decide +kernel
theorem dX8_followPath_45 : decode cX8_followPath 45 = .ok (.iload_n 2, 1) := by decide +kernel
theorem dX8_followPath_46 : decode cX8_followPath 46 = .ok (.iaload, 1) := by decide +kernel
theorem dX8_followPath_47 : decode cX8_followPath 47 = .ok (.i2l, 1) := by decide +kernel
theorem dX8_followPath_48 : decode cX8_followPath 48 = .ok (.lstore 4, 2) := by decide +kernel
theorem dX8_followPath_50 : decode cX8_followPath 50 = .ok (.aload_n 0, 1) := by decide +kernel
theorem dX8_followPath_51 : decode cX8_followPath 51 = .ok (.getfield 13, 3) := by decide +kernel
theorem dX8_followPath_54 : decode cX8_followPath 54 = .ok (.iload_n 2, 1) := by decide +kernel
theorem dX8_followPath_55 : decode cX8_followPath 55 = .ok (.iaload, 1) := by decide +kernel
theorem dX8_followPath_56 : decode cX8_followPath 56 = .ok (.i2l, 1) := by decide +kernel
theorem dX8_followPath_57 : decode cX8_followPath 57 = .ok (.lstore 6, 2) := by decide +kernel
theorem dX8_followPath_59 : decode cX8_followPath 59 = .ok (.aload_n 0, 1) := by decide +kernel
theorem dX8_followPath_60 : decode cX8_followPath 60 = .ok (.getfield 76, 3) := by decide +kernel
theorem dX8_followPath_63 : decode cX8_followPath 63 = .ok (.iconst 1, 1) := by decide +kernel
theorem dX8_followPath_64 : decode cX8_followPath 64 = .ok (.isub, 1) := by decide +kernel
theorem dX8_followPath_65 : decode cX8_followPath 65 = .ok (.istore 8, 2) := by decide +kernel
theorem dX8_followPath_67 : decode cX8_followPath 67 = .ok (.iload 8, 2) := by decide +kernel
theorem dX8_followPath_69 : decode cX8_followPath 69 = .ok (.ifCond .lt 76, 3) := by decide +kernel
theorem dX8_followPath_72 : decode cX8_followPath 72 = .ok (.aload_n 0, 1) := by decide +kernel
theorem dX8_followPath_73 : decode cX8_followPath 73 = .ok (.getfield 73, 3) := by decide +kernel
theorem dX8_followPath_76 : decode cX8_followPath 76 = .ok (.iload 8, 2) := by decide +kernel
theorem dX8_followPath_78 : decode cX8_followPath 78 = .ok (.iaload, 1) := by decide +kernel
theorem dX8_followPath_79 : decode cX8_followPath 79 = .ok (.iconst 1, 1) := by decide +kernel
theorem dX8_followPath_80 : decode cX8_followPath 80 = .ok (.if_icmp .ne 22, 3) := by decide +kernel
theorem dX8_followPath_83 : decode cX8_followPath 83 = .ok (.lload 4, 2) := by decide +kernel
theorem dX8_followPath_85 : decode cX8_followPath 85 = .ok (.aload_n 0, 1) := by decide +kernel
theorem dX8_followPath_86 : decode cX8_followPath 86 = .ok (.getfield 70, 3) := by decide +kernel
theorem dX8_followPath_89 : decode cX8_followPath 89 = .ok (.iload 8, 2) := by decide +kernel
theorem dX8_followPath_91 : decode cX8_followPath 91 = .ok (.iaload, 1) := by decide +kernel
theorem dX8_followPath_92 : decode cX8_followPath 92 = .ok (.i2l, 1) := by decide +kernel
theorem dX8_followPath_93 : decode cX8_followPath 93 = .ok (.lload 6, 2) := by decide +kernel
theorem dX8_followPath_95 : decode cX8_followPath 95 = .ok (.lmul, 1) := by decide +kernel
theorem dX8_followPath_96 : decode cX8_followPath 96 = .ok (.ladd, 1) := by decide +kernel
theorem dX8_followPath_97 : decode cX8_followPath 97 = .ok (.lstore 4, 2) := by decide +kernel
theorem dX8_followPath_99 : decode cX8_followPath 99 = .ok (.goto 19, 3) := by decide +kernel
theorem dX8_followPath_102 : decode cX8_followPath 102 = .ok (.lload 6, 2) := by decide +kernel
theorem dX8_followPath_104 : decode cX8_followPath 104 = .ok (.aload_n 0, 1) := by decide +kernel
theorem dX8_followPath_105 : decode cX8_followPath 105 = .ok (.getfield 70, 3) := by decide +kernel
theorem dX8_followPath_108 : decode cX8_followPath 108 = .ok (.iload 8, 2) := by decide +kernel
theorem dX8_followPath_110 : decode cX8_followPath 110 = .ok (.iaload, 1) := by decide +kernel
theorem dX8_followPath_111 : decode cX8_followPath 111 = .ok (.i2l, 1) := by decide +kernel
theorem dX8_followPath_112 : decode cX8_followPath 112 = .ok (.lload 4, 2) := by decide +kernel
theorem dX8_followPath_114 : decode cX8_followPath 114 = .ok (.lmul, 1) := by decide +kernel
theorem dX8_followPath_115 : decode cX8_followPath 115 = .ok (.ladd, 1) := by decide +kernel
theorem dX8_followPath_116 : decode cX8_followPath 116 = .ok (.lstore 6, 2) := by decide +kernel
theorem dX8_followPath_118 : decode cX8_followPath 118 = .ok (.lload 4, 2) := by decide +kernel
theorem dX8_followPath_120 : decode cX8_followPath 120 = .ok (.ldc2_w 129, 3) := by decide +kernel
theorem dX8_followPath_123 : decode cX8_followPath 123 = .ok (.lcmp, 1) := by decide +kernel
theorem dX8_followPath_124 : decode cX8_followPath 124 = .ok (.ifCond .gt 12, 3) := by decide +kernel
theorem dX8_followPath_127 : decode cX8_followPath 127 = .ok (.lload 6, 2) := by decide +kernel
theorem dX8_followPath_129 : decode cX8_followPath 129 = .ok (.ldc2_w 129, 3) := by decide +kernel
theorem dX8_followPath_132 : decode cX8_followPath 132 = .ok (.lcmp, 1) := by decide +kernel
theorem dX8_followPath_133 : decode cX8_followPath 133 = .ok (.ifCond .le 6, 3) := by decide +kernel
theorem dX8_followPath_136 : decode cX8_followPath 136 = .ok (.bipush (-3), 2) := by decide +kernel
theorem dX8_followPath_138 : decode cX8_followPath 138 = .ok (.ireturn, 1) := by decide +kernel
theorem dX8_followPath_139 : decode cX8_followPath 139 = .ok (.iinc 8 (-1), 3) := by decide +kernel
theorem dX8_followPath_142 : decode cX8_followPath 142 = .ok (.goto (-75), 3) := by decide +kernel
theorem dX8_followPath_145 : decode cX8_followPath 145 = .ok (.aload_n 0, 1) := by decide +kernel
theorem dX8_followPath_146 : decode cX8_followPath 146 = .ok (.iload_n 1, 1) := by decide +kernel
theorem dX8_followPath_147 : decode cX8_followPath 147 = .ok (.lload 4, 2) := by decide +kernel
theorem dX8_followPath_149 : decode cX8_followPath 149 = .ok (.lload 6, 2) := by decide +kernel
theorem dX8_followPath_151 : decode cX8_followPath 151 = .ok (.invokevirtual 135, 3) := by decide +kernel
theorem dX8_followPath_154 : decode cX8_followPath 154 = .ok (.ireturn, 1) := by decide +kernel
set_option maxRecDepth 20000 in
theorem ggX8_layForm_X8_layRuns : GoodIn wsX8_layForm wsX8_layRuns := goodIn_r _ [10, 2, 11, 12, 5, 4, 13, 14, 15, 9, 16, 17, 18, 19, 20, 21, 22, 23, 24, 25, 26, 27, 28, 29, 30, 31, 32, 33, 34, 35, 36, 37, 38, 39, 40, 41, 42, 43, 44, 45, 46, 47, 48, 49, 50, 51] (by decide +kernel) (by decide +kernel)
set_option maxRecDepth 20000 in
theorem gX8_layForm_X8_layRuns : GoodIn wsX8_layForm (wsV RX8 151 RX8 yX8_layRuns wsX8_layRuns) := goodIn_app (goodIn_of _ (by decide +kernel)) ggX8_layForm_X8_layRuns
theorem dX8_layForm_0 : decode cX8_layForm 0 = .ok (.aload_n 0, 1) := by decide +kernel
theorem dX8_layForm_1 : decode cX8_layForm 1 = .ok (.iload_n 1, 1) := by decide +kernel
theorem dX8_layForm_2 : decode cX8_layForm 2 = .ok (.iload_n 2, 1) := by decide +kernel
theorem dX8_layForm_3 : decode cX8_layForm 3 = .ok (.invokevirtual 151, 3) := by decide +kernel
theorem dX8_layForm_6 : decode cX8_layForm 6 = .ok (.aload_n 0, 1) := by decide +kernel
theorem dX8_layForm_7 : decode cX8_layForm 7 = .ok (.iconst 0, 1) := by decide +kernel
theorem dX8_layForm_8 : decode cX8_layForm 8 = .ok (.putfield 82, 3) := by decide +kernel
theorem dX8_layForm_11 : decode cX8_layForm 11 = .ok (.iconst 0, 1) := by decide +kernel
theorem dX8_layForm_12 : decode cX8_layForm 12 = .ok (.istore_n 3, 1) := by decide +kernel
theorem dX8_layForm_13 : decode cX8_layForm 13 = .ok (.iload_n 3, 1) := by decide +kernel
theorem dX8_layForm_14 : decode cX8_layForm 14 = .ok (.aload_n 0, 1) := by decide +kernel
theorem dX8_layForm_15 : decode cX8_layForm 15 = .ok (.getfield 29, 3) := by decide +kernel
theorem dX8_layForm_18 : decode cX8_layForm 18 = .ok (.if_icmp .ge 131, 3) := by decide +kernel
theorem dX8_layForm_21 : decode cX8_layForm 21 = .ok (.aload_n 0, 1) := by decide +kernel
theorem dX8_layForm_22 : decode cX8_layForm 22 = .ok (.getfield 79, 3) := by decide +kernel
theorem dX8_layForm_25 : decode cX8_layForm 25 = .ok (.aload_n 0, 1) := by decide +kernel
theorem dX8_layForm_26 : decode cX8_layForm 26 = .ok (.getfield 82, 3) := by decide +kernel
theorem dX8_layForm_29 : decode cX8_layForm 29 = .ok (.aload_n 0, 1) := by decide +kernel
theorem dX8_layForm_30 : decode cX8_layForm 30 = .ok (.getfield 22, 3) := by decide +kernel
theorem dX8_layForm_33 : decode cX8_layForm 33 = .ok (.iload_n 3, 1) := by decide +kernel
theorem dX8_layForm_34 : decode cX8_layForm 34 = .ok (.iaload, 1) := by decide +kernel
theorem dX8_layForm_35 : decode cX8_layForm 35 = .ok (.iconst 1, 1) := by decide +kernel
theorem dX8_layForm_36 : decode cX8_layForm 36 = .ok (.if_icmp .ne 8, 3) := by decide +kernel
theorem dX8_layForm_39 : decode cX8_layForm 39 = .ok (.bipush 82, 2) := by decide +kernel
theorem dX8_layForm_41 : decode cX8_layForm 41 = .ok (.goto 5, 3) := by decide +kernel
theorem dX8_layForm_44 : decode cX8_layForm 44 = .ok (.bipush 76, 2) := by decide +kernel
theorem dX8_layForm_46 : decode cX8_layForm 46 = .ok (.iastore, 1) := by decide +kernel
theorem dX8_layForm_47 : decode cX8_layForm 47 = .ok (.aload_n 0, 1) := by decide +kernel
theorem dX8_layForm_48 : decode cX8_layForm 48 = .ok (.dup, 1) := by decide +kernel
theorem dX8_layForm_49 : decode cX8_layForm 49 = .ok (.getfield 82, 3) := by decide +kernel
theorem dX8_layForm_52 : decode cX8_layForm 52 = .ok (.iconst 1, 1) := by decide +kernel
theorem dX8_layForm_53 : decode cX8_layForm 53 = .ok (.iadd, 1) := by decide +kernel
theorem dX8_layForm_54 : decode cX8_layForm 54 = .ok (.putfield 82, 3) := by decide +kernel
theorem dX8_layForm_57 : decode cX8_layForm 57 = .ok (.iconst 1, 1) := by decide +kernel
theorem dX8_layForm_58 : decode cX8_layForm 58 = .ok (.istore 4, 2) := by decide +kernel
theorem dX8_layForm_60 : decode cX8_layForm 60 = .ok (.aload_n 0, 1) := by decide +kernel
theorem dX8_layForm_61 : decode cX8_layForm 61 = .ok (.getfield 19, 3) := by decide +kernel
theorem dX8_layForm_64 : decode cX8_layForm 64 = .ok (.iload_n 3, 1) := by decide +kernel
theorem dX8_layForm_65 : decode cX8_layForm 65 = .ok (.iaload, 1) := by decide +kernel
theorem dX8_layForm_66 : decode cX8_layForm 66 = .ok (.iload 4, 2) := by decide +kernel
theorem dX8_layForm_68 : decode cX8_layForm 68 = .ok (.idiv, 1) := by decide +kernel
theorem dX8_layForm_69 : decode cX8_layForm 69 = .ok (.bipush 10, 2) := by decide +kernel
theorem dX8_layForm_71 : decode cX8_layForm 71 = .ok (.if_icmp .lt 13, 3) := by decide +kernel
theorem dX8_layForm_74 : decode cX8_layForm 74 = .ok (.iload 4, 2) := by decide +kernel
theorem dX8_layForm_76 : decode cX8_layForm 76 = .ok (.bipush 10, 2) := by decide +kernel
theorem dX8_layForm_78 : decode cX8_layForm 78 = .ok (.imul, 1) := by decide +kernel
theorem dX8_layForm_79 : decode cX8_layForm 79 = .ok (.istore 4, 2) := by decide +kernel
theorem dX8_layForm_81 : decode cX8_layForm 81 = .ok (.goto (-21), 3) := by decide +kernel
theorem dX8_layForm_84 : decode cX8_layForm 84 = .ok (.iload 4, 2) := by decide +kernel
theorem dX8_layForm_86 : decode cX8_layForm 86 = .ok (.ifCond .le 57, 3) := by decide +kernel
theorem dX8_layForm_89 : decode cX8_layForm 89 = .ok (.aload_n 0, 1) := by decide +kernel
theorem dX8_layForm_90 : decode cX8_layForm 90 = .ok (.getfield 19, 3) := by decide +kernel
theorem dX8_layForm_93 : decode cX8_layForm 93 = .ok (.iload_n 3, 1) := by decide +kernel
theorem dX8_layForm_94 : decode cX8_layForm 94 = .ok (.iaload, 1) := by decide +kernel
theorem dX8_layForm_95 : decode cX8_layForm 95 = .ok (.iconst 1, 1) := by decide +kernel
theorem dX8_layForm_96 : decode cX8_layForm 96 = .ok (.if_icmp .le 47, 3) := by decide +kernel
theorem dX8_layForm_99 : decode cX8_layForm 99 = .ok (.aload_n 0, 1) := by decide +kernel
theorem dX8_layForm_100 : decode cX8_layForm 100 = .ok (.getfield 79, 3) := by decide +kernel
theorem dX8_layForm_103 : decode cX8_layForm 103 = .ok (.aload_n 0, 1) := by decide +kernel
theorem dX8_layForm_104 : decode cX8_layForm 104 = .ok (.getfield 82, 3) := by decide +kernel
theorem dX8_layForm_107 : decode cX8_layForm 107 = .ok (.bipush 48, 2) := by decide +kernel
theorem dX8_layForm_109 : decode cX8_layForm 109 = .ok (.aload_n 0, 1) := by decide +kernel
theorem dX8_layForm_110 : decode cX8_layForm 110 = .ok (.getfield 19, 3) := by decide +kernel
theorem dX8_layForm_113 : decode cX8_layForm 113 = .ok (.iload_n 3, 1) := by decide +kernel
theorem dX8_layForm_114 : decode cX8_layForm 114 = .ok (.iaload, 1) := by decide +kernel
theorem dX8_layForm_115 : decode cX8_layForm 115 = .ok (.iload 4, 2) := by decide +kernel
theorem dX8_layForm_117 : decode cX8_layForm 117 = .ok (.idiv, 1) := by decide +kernel
theorem dX8_layForm_118 : decode cX8_layForm 118 = .ok (.bipush 10, 2) := by decide +kernel
theorem dX8_layForm_120 : decode cX8_layForm 120 = .ok (.irem, 1) := by decide +kernel
theorem dX8_layForm_121 : decode cX8_layForm 121 = .ok (.iadd, 1) := by decide +kernel
theorem dX8_layForm_122 : decode cX8_layForm 122 = .ok (.iastore, 1) := by decide +kernel
theorem dX8_layForm_123 : decode cX8_layForm 123 = .ok (.aload_n 0, 1) := by decide +kernel
theorem dX8_layForm_124 : decode cX8_layForm 124 = .ok (.dup, 1) := by decide +kernel
theorem dX8_layForm_125 : decode cX8_layForm 125 = .ok (.getfield 82, 3) := by decide +kernel
theorem dX8_layForm_128 : decode cX8_layForm 128 = .ok (.iconst 1, 1) := by decide +kernel
theorem dX8_layForm_129 : decode cX8_layForm 129 = .ok (.iadd, 1) := by decide +kernel
theorem dX8_layForm_130 : decode cX8_layForm 130 = .ok (.putfield 82, 3) := by decide +kernel
theorem dX8_layForm_133 : decode cX8_layForm 133 = .ok (.iload 4, 2) := by decide +kernel
theorem dX8_layForm_135 : decode cX8_layForm 135 = .ok (.bipush 10, 2) := by decide +kernel
theorem dX8_layForm_137 : decode cX8_layForm 137 = .ok (.idiv, 1) := by decide +kernel
theorem dX8_layForm_138 : decode cX8_layForm 138 = .ok (.istore 4, 2) := by decide +kernel
theorem dX8_layForm_140 : decode cX8_layForm 140 = .ok (.goto (-56), 3) := by decide +kernel
theorem dX8_layForm_143 : decode cX8_layForm 143 = .ok (.iinc 3 1, 3) := by decide +kernel
theorem dX8_layForm_146 : decode cX8_layForm 146 = .ok (.goto (-133), 3) := by decide +kernel
theorem dX8_layForm_149 : decode cX8_layForm 149 = .ok (.return_, 1) := by decide +kernel
set_option maxRecDepth 20000 in
theorem ggX8_pathTextLength_X8_isRegister : GoodIn wsX8_pathTextLength wsX8_isRegister := goodIn_r _ [8, 9, 10, 11, 7, 12] (by decide +kernel) (by decide +kernel)
set_option maxRecDepth 20000 in
theorem gX8_pathTextLength_X8_isRegister : GoodIn wsX8_pathTextLength (wsV RX8 131 RX8 yX8_isRegister wsX8_isRegister) := goodIn_app (goodIn_of _ (by decide +kernel)) ggX8_pathTextLength_X8_isRegister
set_option maxRecDepth 20000 in
theorem ggX8_pathTextLength_X8_layForm : GoodIn wsX8_pathTextLength wsX8_layForm := goodIn_r _ [16, 3, 17, 18, 19, 20, 21, 22, 23, 7, 24, 25, 26, 27, 28, 29, 30, 31, 32, 33, 34, 35, 36, 37, 38, 39, 40, 41, 42, 43, 44, 45, 46, 47, 48, 49, 50, 51, 52, 53, 54, 55, 56, 57, 58, 59, 60, 61, 62, 63, 64, 65] (by decide +kernel) (by decide +kernel)
set_option maxRecDepth 20000 in
theorem gX8_pathTextLength_X8_layForm : GoodIn wsX8_pathTextLength (wsV RX8 225 RX8 yX8_layForm wsX8_layForm) := goodIn_app (goodIn_of _ (by decide +kernel)) ggX8_pathTextLength_X8_layForm
theorem dX8_pathTextLength_0 : decode cX8_pathTextLength 0 = .ok (.aload_n 0, 1) := by decide +kernel
theorem dX8_pathTextLength_1 : decode cX8_pathTextLength 1 = .ok (.iload_n 1, 1) := by decide +kernel
theorem dX8_pathTextLength_2 : decode cX8_pathTextLength 2 = .ok (.invokevirtual 131, 3) := by decide +kernel
theorem dX8_pathTextLength_5 : decode cX8_pathTextLength 5 = .ok (.ifCond .ne 5, 3) := by decide +kernel
theorem dX8_pathTextLength_8 : decode cX8_pathTextLength 8 = .ok (.iconst (-1), 1) := by decide +kernel
theorem dX8_pathTextLength_9 : decode cX8_pathTextLength 9 = .ok (.ireturn, 1) := by decide +kernel
theorem dX8_pathTextLength_10 : decode cX8_pathTextLength 10 = .ok (.aload_n 0, 1) := by decide +kernel
theorem dX8_pathTextLength_11 : decode cX8_pathTextLength 11 = .ok (.aload_n 0, 1) := by decide +kernel
theorem dX8_pathTextLength_12 : decode cX8_pathTextLength 12 = .ok (.getfield 7, 3) := by decide +kernel
theorem dX8_pathTextLength_15 : decode cX8_pathTextLength 15 = .ok (.iload_n 1, 1) := by decide +kernel
theorem dX8_pathTextLength_16 : decode cX8_pathTextLength 16 = .ok (.iaload, 1) := by decide +kernel
theorem dX8_pathTextLength_17 : decode cX8_pathTextLength 17 = .ok (.aload_n 0, 1) := by decide +kernel
theorem dX8_pathTextLength_18 : decode cX8_pathTextLength 18 = .ok (.getfield 13, 3) := by decide +kernel
theorem dX8_pathTextLength_21 : decode cX8_pathTextLength 21 = .ok (.iload_n 1, 1) := by decide +kernel
theorem dX8_pathTextLength_22 : decode cX8_pathTextLength 22 = .ok (.iaload, 1) := by decide +kernel
theorem dX8_pathTextLength_23 : decode cX8_pathTextLength 23 = .ok (.invokevirtual 225, 3) := by decide +kernel
theorem dX8_pathTextLength_26 : decode cX8_pathTextLength 26 = .ok (.aload_n 0, 1) := by decide +kernel
theorem dX8_pathTextLength_27 : decode cX8_pathTextLength 27 = .ok (.getfield 82, 3) := by decide +kernel
theorem dX8_pathTextLength_30 : decode cX8_pathTextLength 30 = .ok (.ireturn, 1) := by decide +kernel
set_option maxRecDepth 20000 in
theorem ggX8_pathText_X8_isRegister : GoodIn wsX8_pathText wsX8_isRegister := goodIn_r _ [9, 10, 11, 12, 8, 13] (by decide +kernel) (by decide +kernel)
set_option maxRecDepth 20000 in
theorem gX8_pathText_X8_isRegister : GoodIn wsX8_pathText (wsV RX8 131 RX8 yX8_isRegister wsX8_isRegister) := goodIn_app (goodIn_of _ (by decide +kernel)) ggX8_pathText_X8_isRegister
set_option maxRecDepth 20000 in
theorem ggX8_pathText_X8_layForm : GoodIn wsX8_pathText wsX8_layForm := goodIn_r _ [17, 3, 18, 4, 19, 20, 21, 22, 23, 8, 24, 25, 26, 27, 28, 29, 30, 31, 32, 33, 34, 35, 36, 37, 38, 39, 40, 41, 42, 43, 44, 45, 46, 47, 48, 49, 50, 51, 52, 53, 54, 55, 56, 57, 58, 59, 60, 61, 62, 63, 64, 65] (by decide +kernel) (by decide +kernel)
set_option maxRecDepth 20000 in
theorem gX8_pathText_X8_layForm : GoodIn wsX8_pathText (wsV RX8 225 RX8 yX8_layForm wsX8_layForm) := goodIn_app (goodIn_of _ (by decide +kernel)) ggX8_pathText_X8_layForm
theorem dX8_pathText_0 : decode cX8_pathText 0 = .ok (.aload_n 0, 1) := by decide +kernel
theorem dX8_pathText_1 : decode cX8_pathText 1 = .ok (.iload_n 1, 1) := by decide +kernel
theorem dX8_pathText_2 : decode cX8_pathText 2 = .ok (.invokevirtual 131, 3) := by decide +kernel
theorem dX8_pathText_5 : decode cX8_pathText 5 = .ok (.ifCond .eq 7, 3) := by decide +kernel
theorem dX8_pathText_8 : decode cX8_pathText 8 = .ok (.iload_n 2, 1) := by decide +kernel
theorem dX8_pathText_9 : decode cX8_pathText 9 = .ok (.ifCond .ge 5, 3) := by decide +kernel
theorem dX8_pathText_12 : decode cX8_pathText 12 = .ok (.iconst (-1), 1) := by decide +kernel
theorem dX8_pathText_13 : decode cX8_pathText 13 = .ok (.ireturn, 1) := by decide +kernel
theorem dX8_pathText_14 : decode cX8_pathText 14 = .ok (.aload_n 0, 1) := by decide +kernel
theorem dX8_pathText_15 : decode cX8_pathText 15 = .ok (.aload_n 0, 1) := by decide +kernel
theorem dX8_pathText_16 : decode cX8_pathText 16 = .ok (.getfield 7, 3) := by decide +kernel
theorem dX8_pathText_19 : decode cX8_pathText 19 = .ok (.iload_n 1, 1) := by decide +kernel
theorem dX8_pathText_20 : decode cX8_pathText 20 = .ok (.iaload, 1) := by decide +kernel
theorem dX8_pathText_21 : decode cX8_pathText 21 = .ok (.aload_n 0, 1) := by decide +kernel
theorem dX8_pathText_22 : decode cX8_pathText 22 = .ok (.getfield 13, 3) := by decide +kernel
theorem dX8_pathText_25 : decode cX8_pathText 25 = .ok (.iload_n 1, 1) := by decide +kernel
theorem dX8_pathText_26 : decode cX8_pathText 26 = .ok (.iaload, 1) := by decide +kernel
theorem dX8_pathText_27 : decode cX8_pathText 27 = .ok (.invokevirtual 225, 3) := by decide +kernel
theorem dX8_pathText_30 : decode cX8_pathText 30 = .ok (.iload_n 2, 1) := by decide +kernel
theorem dX8_pathText_31 : decode cX8_pathText 31 = .ok (.aload_n 0, 1) := by decide +kernel
theorem dX8_pathText_32 : decode cX8_pathText 32 = .ok (.getfield 82, 3) := by decide +kernel
theorem dX8_pathText_35 : decode cX8_pathText 35 = .ok (.if_icmp .ge 12, 3) := by decide +kernel
theorem dX8_pathText_38 : decode cX8_pathText 38 = .ok (.aload_n 0, 1) := by decide +kernel
theorem dX8_pathText_39 : decode cX8_pathText 39 = .ok (.getfield 79, 3) := by decide +kernel
theorem dX8_pathText_42 : decode cX8_pathText 42 = .ok (.iload_n 2, 1) := by decide +kernel
theorem dX8_pathText_43 : decode cX8_pathText 43 = .ok (.iaload, 1) := by decide +kernel
theorem dX8_pathText_44 : decode cX8_pathText 44 = .ok (.goto 5, 3) := by decide +kernel
theorem dX8_pathText_47 : decode cX8_pathText 47 = .ok (.bipush (-2), 2) := by decide +kernel
theorem dX8_pathText_49 : decode cX8_pathText 49 = .ok (.ireturn, 1) := by decide +kernel
set_option maxRecDepth 20000 in
theorem ggX8_isSlot_X8_within : GoodIn wsX8_isSlot wsX8_within := goodIn_r _ [5] (by decide +kernel) (by decide +kernel)
set_option maxRecDepth 20000 in
theorem gX8_isSlot_X8_within : GoodIn wsX8_isSlot (va_wsS RX8 121 yX8_within wsX8_within) := goodIn_app (goodIn_of _ (by decide +kernel)) ggX8_isSlot_X8_within
theorem dX8_isSlot_0 : decode cX8_isSlot 0 = .ok (.iload_n 1, 1) := by decide +kernel
theorem dX8_isSlot_1 : decode cX8_isSlot 1 = .ok (.i2l, 1) := by decide +kernel
theorem dX8_isSlot_2 : decode cX8_isSlot 2 = .ok (.lconst 0, 1) := by decide +kernel
theorem dX8_isSlot_3 : decode cX8_isSlot 3 = .ok (.ldc2_w 143, 3) := by decide +kernel
theorem dX8_isSlot_6 : decode cX8_isSlot 6 = .ok (.invokestatic 121, 3) := by decide +kernel
theorem dX8_isSlot_9 : decode cX8_isSlot 9 = .ok (.ireturn, 1) := by decide +kernel
set_option maxRecDepth 20000 in
theorem ggX8_plant_X8_isSlot : GoodIn wsX8_plant wsX8_isSlot := goodIn_r _ [12, 2, 13, 14, 11, 15] (by decide +kernel) (by decide +kernel)
set_option maxRecDepth 20000 in
theorem gX8_plant_X8_isSlot : GoodIn wsX8_plant (wsV RX8 228 RX8 yX8_isSlot wsX8_isSlot) := goodIn_app (goodIn_of _ (by decide +kernel)) ggX8_plant_X8_isSlot
set_option maxRecDepth 20000 in
theorem ggX8_plant_X8_within : GoodIn wsX8_plant wsX8_within := goodIn_r _ [15] (by decide +kernel) (by decide +kernel)
set_option maxRecDepth 20000 in
theorem gX8_plant_X8_within : GoodIn wsX8_plant (va_wsS RX8 121 yX8_within wsX8_within) := goodIn_app (goodIn_of _ (by decide +kernel)) ggX8_plant_X8_within
set_option maxRecDepth 20000 in
theorem ggX8_plant_X8_isRegister : GoodIn wsX8_plant wsX8_isRegister := goodIn_r _ [19, 20, 13, 14, 11, 15] (by decide +kernel) (by decide +kernel)
set_option maxRecDepth 20000 in
theorem gX8_plant_X8_isRegister : GoodIn wsX8_plant (wsV RX8 131 RX8 yX8_isRegister wsX8_isRegister) := goodIn_app (goodIn_of _ (by decide +kernel)) ggX8_plant_X8_isRegister
theorem dX8_plant_0 : decode cX8_plant 0 = .ok (.aload_n 0, 1) := by decide +kernel
theorem dX8_plant_1 : decode cX8_plant 1 = .ok (.iload_n 1, 1) := by decide +kernel
theorem dX8_plant_2 : decode cX8_plant 2 = .ok (.invokevirtual 228, 3) := by decide +kernel
theorem dX8_plant_5 : decode cX8_plant 5 = .ok (.ifCond .eq 25, 3) := by decide +kernel
theorem dX8_plant_8 : decode cX8_plant 8 = .ok (.iload_n 2, 1) := by decide +kernel
theorem dX8_plant_9 : decode cX8_plant 9 = .ok (.i2l, 1) := by decide +kernel
theorem dX8_plant_10 : decode cX8_plant 10 = .ok (.ldc2_w 231, 3) := by decide +kernel
theorem dX8_plant_13 : decode cX8_plant 13 = .ok (.ldc2_w 143, 3) := by decide +kernel
theorem dX8_plant_16 : decode cX8_plant 16 = .ok (.invokestatic 121, 3) := by decide +kernel
theorem dX8_plant_19 : decode cX8_plant 19 = .ok (.ifCond .eq 11, 3) := by decide +kernel
theorem dX8_plant_22 : decode cX8_plant 22 = .ok (.aload_n 0, 1) := by decide +kernel
theorem dX8_plant_23 : decode cX8_plant 23 = .ok (.iload_n 3, 1) := by decide +kernel
theorem dX8_plant_24 : decode cX8_plant 24 = .ok (.invokevirtual 131, 3) := by decide +kernel
theorem dX8_plant_27 : decode cX8_plant 27 = .ok (.ifCond .ne 5, 3) := by decide +kernel
theorem dX8_plant_30 : decode cX8_plant 30 = .ok (.iconst (-1), 1) := by decide +kernel
theorem dX8_plant_31 : decode cX8_plant 31 = .ok (.ireturn, 1) := by decide +kernel
theorem dX8_plant_32 : decode cX8_plant 32 = .ok (.aload_n 0, 1) := by decide +kernel
theorem dX8_plant_33 : decode cX8_plant 33 = .ok (.getfield 85, 3) := by decide +kernel
theorem dX8_plant_36 : decode cX8_plant 36 = .ok (.iload_n 1, 1) := by decide +kernel
theorem dX8_plant_37 : decode cX8_plant 37 = .ok (.iaload, 1) := by decide +kernel
theorem dX8_plant_38 : decode cX8_plant 38 = .ok (.ifCond .lt 7, 3) := by decide +kernel
theorem dX8_plant_41 : decode cX8_plant 41 = .ok (.iconst 1, 1) := by decide +kernel
theorem dX8_plant_42 : decode cX8_plant 42 = .ok (.goto 4, 3) := by decide +kernel
theorem dX8_plant_45 : decode cX8_plant 45 = .ok (.iconst 0, 1) := by decide +kernel
theorem dX8_plant_46 : decode cX8_plant 46 = .ok (.istore 4, 2) := by decide +kernel
theorem dX8_plant_48 : decode cX8_plant 48 = .ok (.aload_n 0, 1) := by decide +kernel
theorem dX8_plant_49 : decode cX8_plant 49 = .ok (.getfield 85, 3) := by decide +kernel
theorem dX8_plant_52 : decode cX8_plant 52 = .ok (.iload_n 1, 1) := by decide +kernel
theorem dX8_plant_53 : decode cX8_plant 53 = .ok (.iload_n 2, 1) := by decide +kernel
theorem dX8_plant_54 : decode cX8_plant 54 = .ok (.iastore, 1) := by decide +kernel
theorem dX8_plant_55 : decode cX8_plant 55 = .ok (.aload_n 0, 1) := by decide +kernel
theorem dX8_plant_56 : decode cX8_plant 56 = .ok (.getfield 88, 3) := by decide +kernel
theorem dX8_plant_59 : decode cX8_plant 59 = .ok (.iload_n 1, 1) := by decide +kernel
theorem dX8_plant_60 : decode cX8_plant 60 = .ok (.aload_n 0, 1) := by decide +kernel
theorem dX8_plant_61 : decode cX8_plant 61 = .ok (.getfield 7, 3) := by decide +kernel
theorem dX8_plant_64 : decode cX8_plant 64 = .ok (.iload_n 3, 1) := by decide +kernel
theorem dX8_plant_65 : decode cX8_plant 65 = .ok (.iaload, 1) := by decide +kernel
theorem dX8_plant_66 : decode cX8_plant 66 = .ok (.iastore, 1) := by decide +kernel
theorem dX8_plant_67 : decode cX8_plant 67 = .ok (.aload_n 0, 1) := by decide +kernel
theorem dX8_plant_68 : decode cX8_plant 68 = .ok (.getfield 91, 3) := by decide +kernel
theorem dX8_plant_71 : decode cX8_plant 71 = .ok (.iload_n 1, 1) := by decide +kernel
theorem dX8_plant_72 : decode cX8_plant 72 = .ok (.aload_n 0, 1) := by decide +kernel
theorem dX8_plant_73 : decode cX8_plant 73 = .ok (.getfield 13, 3) := by decide +kernel
theorem dX8_plant_76 : decode cX8_plant 76 = .ok (.iload_n 3, 1) := by decide +kernel
theorem dX8_plant_77 : decode cX8_plant 77 = .ok (.iaload, 1) := by decide +kernel
theorem dX8_plant_78 : decode cX8_plant 78 = .ok (.iastore, 1) := by decide +kernel
theorem dX8_plant_79 : decode cX8_plant 79 = .ok (.iload 4, 2) := by decide +kernel
theorem dX8_plant_81 : decode cX8_plant 81 = .ok (.ireturn, 1) := by decide +kernel
theorem dX8_grow_0 : decode cX8_grow 0 = .ok (.aload_n 0, 1) := by decide +kernel
theorem dX8_grow_1 : decode cX8_grow 1 = .ok (.getfield 85, 3) := by decide +kernel
theorem dX8_grow_4 : decode cX8_grow 4 = .ok (.iload_n 1, 1) := by decide +kernel
theorem dX8_grow_5 : decode cX8_grow 5 = .ok (.iaload, 1) := by decide +kernel
theorem dX8_grow_6 : decode cX8_grow 6 = .ok (.tableswitch 64 1 4 #[30, 30, 41, 54], 30) := by decide +kernel
theorem dX8_grow_36 : decode cX8_grow 36 = .ok (.iload_n 2, 1) := by decide +kernel
theorem dX8_grow_37 : decode cX8_grow 37 = .ok (.iconst 2, 1) := by decide +kernel
theorem dX8_grow_38 : decode cX8_grow 38 = .ok (.imul, 1) := by decide +kernel
theorem dX8_grow_39 : decode cX8_grow 39 = .ok (.aload_n 0, 1) := by decide +kernel
theorem dX8_grow_40 : decode cX8_grow 40 = .ok (.getfield 88, 3) := by decide +kernel
theorem dX8_grow_43 : decode cX8_grow 43 = .ok (.iload_n 1, 1) := by decide +kernel
theorem dX8_grow_44 : decode cX8_grow 44 = .ok (.iaload, 1) := by decide +kernel
theorem dX8_grow_45 : decode cX8_grow 45 = .ok (.iadd, 1) := by decide +kernel
theorem dX8_grow_46 : decode cX8_grow 46 = .ok (.ireturn, 1) := by decide +kernel
theorem dX8_grow_47 : decode cX8_grow 47 = .ok (.iload_n 2, 1) := by decide +kernel
theorem dX8_grow_48 : decode cX8_grow 48 = .ok (.iconst 2, 1) := by decide +kernel
theorem dX8_grow_49 : decode cX8_grow 49 = .ok (.imul, 1) := by decide +kernel
theorem dX8_grow_50 : decode cX8_grow 50 = .ok (.aload_n 0, 1) := by decide +kernel
theorem dX8_grow_51 : decode cX8_grow 51 = .ok (.getfield 88, 3) := by decide +kernel
theorem dX8_grow_54 : decode cX8_grow 54 = .ok (.iload_n 1, 1) := by decide +kernel
theorem dX8_grow_55 : decode cX8_grow 55 = .ok (.iaload, 1) := by decide +kernel
theorem dX8_grow_56 : decode cX8_grow 56 = .ok (.iadd, 1) := by decide +kernel
theorem dX8_grow_57 : decode cX8_grow 57 = .ok (.iconst 5, 1) := by decide +kernel
theorem dX8_grow_58 : decode cX8_grow 58 = .ok (.ixor, 1) := by decide +kernel
theorem dX8_grow_59 : decode cX8_grow 59 = .ok (.ireturn, 1) := by decide +kernel
theorem dX8_grow_60 : decode cX8_grow 60 = .ok (.iload_n 2, 1) := by decide +kernel
theorem dX8_grow_61 : decode cX8_grow 61 = .ok (.aload_n 0, 1) := by decide +kernel
theorem dX8_grow_62 : decode cX8_grow 62 = .ok (.getfield 88, 3) := by decide +kernel
theorem dX8_grow_65 : decode cX8_grow 65 = .ok (.iload_n 1, 1) := by decide +kernel
theorem dX8_grow_66 : decode cX8_grow 66 = .ok (.iaload, 1) := by decide +kernel
theorem dX8_grow_67 : decode cX8_grow 67 = .ok (.iadd, 1) := by decide +kernel
theorem dX8_grow_68 : decode cX8_grow 68 = .ok (.ineg, 1) := by decide +kernel
theorem dX8_grow_69 : decode cX8_grow 69 = .ok (.ireturn, 1) := by decide +kernel
theorem dX8_grow_70 : decode cX8_grow 70 = .ok (.iload_n 2, 1) := by decide +kernel
theorem dX8_grow_71 : decode cX8_grow 71 = .ok (.aload_n 0, 1) := by decide +kernel
theorem dX8_grow_72 : decode cX8_grow 72 = .ok (.getfield 88, 3) := by decide +kernel
theorem dX8_grow_75 : decode cX8_grow 75 = .ok (.iload_n 1, 1) := by decide +kernel
theorem dX8_grow_76 : decode cX8_grow 76 = .ok (.iaload, 1) := by decide +kernel
theorem dX8_grow_77 : decode cX8_grow 77 = .ok (.iadd, 1) := by decide +kernel
theorem dX8_grow_78 : decode cX8_grow 78 = .ok (.ireturn, 1) := by decide +kernel
set_option maxRecDepth 20000 in
theorem ggX8_bend_X8_grow : GoodIn wsX8_bend wsX8_grow := goodIn_r _ [7, 1, 8, 9, 10, 11, 12, 13, 14, 15, 16, 17, 18, 19, 20, 21, 22, 23, 24, 25, 26, 27, 28, 29, 30, 31, 32, 33, 34, 35, 36, 37, 38, 39, 40, 41, 42, 43] (by decide +kernel) (by decide +kernel)
set_option maxRecDepth 20000 in
theorem gX8_bend_X8_grow : GoodIn wsX8_bend (wsV RX8 233 RX8 yX8_grow wsX8_grow) := goodIn_app (goodIn_of _ (by decide +kernel)) ggX8_bend_X8_grow
theorem dX8_bend_0 : decode cX8_bend 0 = .ok (.aload_n 0, 1) := by decide +kernel
theorem dX8_bend_1 : decode cX8_bend 1 = .ok (.iload_n 1, 1) := by decide +kernel
theorem dX8_bend_2 : decode cX8_bend 2 = .ok (.aload_n 0, 1) := by decide +kernel
theorem dX8_bend_3 : decode cX8_bend 3 = .ok (.getfield 85, 3) := by decide +kernel
theorem dX8_bend_6 : decode cX8_bend 6 = .ok (.iload_n 1, 1) := by decide +kernel
theorem dX8_bend_7 : decode cX8_bend 7 = .ok (.iaload, 1) := by decide +kernel
theorem dX8_bend_8 : decode cX8_bend 8 = .ok (.iconst 3, 1) := by decide +kernel
theorem dX8_bend_9 : decode cX8_bend 9 = .ok (.if_icmp .ne 12, 3) := by decide +kernel
theorem dX8_bend_12 : decode cX8_bend 12 = .ok (.aload_n 0, 1) := by decide +kernel
theorem dX8_bend_13 : decode cX8_bend 13 = .ok (.iload_n 1, 1) := by decide +kernel
theorem dX8_bend_14 : decode cX8_bend 14 = .ok (.iload_n 2, 1) := by decide +kernel
theorem dX8_bend_15 : decode cX8_bend 15 = .ok (.invokevirtual 233, 3) := by decide +kernel
theorem dX8_bend_18 : decode cX8_bend 18 = .ok (.goto 4, 3) := by decide +kernel
theorem dX8_bend_21 : decode cX8_bend 21 = .ok (.iload_n 2, 1) := by decide +kernel
theorem dX8_bend_22 : decode cX8_bend 22 = .ok (.invokevirtual 233, 3) := by decide +kernel
theorem dX8_bend_25 : decode cX8_bend 25 = .ok (.iconst 3, 1) := by decide +kernel
theorem dX8_bend_26 : decode cX8_bend 26 = .ok (.imul, 1) := by decide +kernel
theorem dX8_bend_27 : decode cX8_bend 27 = .ok (.aload_n 0, 1) := by decide +kernel
theorem dX8_bend_28 : decode cX8_bend 28 = .ok (.getfield 91, 3) := by decide +kernel
theorem dX8_bend_31 : decode cX8_bend 31 = .ok (.iload_n 1, 1) := by decide +kernel
theorem dX8_bend_32 : decode cX8_bend 32 = .ok (.iaload, 1) := by decide +kernel
theorem dX8_bend_33 : decode cX8_bend 33 = .ok (.isub, 1) := by decide +kernel
theorem dX8_bend_34 : decode cX8_bend 34 = .ok (.istore_n 3, 1) := by decide +kernel
theorem dX8_bend_35 : decode cX8_bend 35 = .ok (.aload_n 0, 1) := by decide +kernel
theorem dX8_bend_36 : decode cX8_bend 36 = .ok (.getfield 85, 3) := by decide +kernel
theorem dX8_bend_39 : decode cX8_bend 39 = .ok (.iload_n 1, 1) := by decide +kernel
theorem dX8_bend_40 : decode cX8_bend 40 = .ok (.iaload, 1) := by decide +kernel
theorem dX8_bend_41 : decode cX8_bend 41 = .ok (.iconst 2, 1) := by decide +kernel
theorem dX8_bend_42 : decode cX8_bend 42 = .ok (.if_icmp .eq 13, 3) := by decide +kernel
theorem dX8_bend_45 : decode cX8_bend 45 = .ok (.aload_n 0, 1) := by decide +kernel
theorem dX8_bend_46 : decode cX8_bend 46 = .ok (.getfield 85, 3) := by decide +kernel
theorem dX8_bend_49 : decode cX8_bend 49 = .ok (.iload_n 1, 1) := by decide +kernel
theorem dX8_bend_50 : decode cX8_bend 50 = .ok (.iaload, 1) := by decide +kernel
theorem dX8_bend_51 : decode cX8_bend 51 = .ok (.iconst 3, 1) := by decide +kernel
theorem dX8_bend_52 : decode cX8_bend 52 = .ok (.if_icmp .ne 14, 3) := by decide +kernel
theorem dX8_bend_55 : decode cX8_bend 55 = .ok (.iload_n 3, 1) := by decide +kernel
theorem dX8_bend_56 : decode cX8_bend 56 = .ok (.aload_n 0, 1) := by decide +kernel
theorem dX8_bend_57 : decode cX8_bend 57 = .ok (.getfield 91, 3) := by decide +kernel
theorem dX8_bend_60 : decode cX8_bend 60 = .ok (.iload_n 1, 1) := by decide +kernel
theorem dX8_bend_61 : decode cX8_bend 61 = .ok (.iaload, 1) := by decide +kernel
theorem dX8_bend_62 : decode cX8_bend 62 = .ok (.iadd, 1) := by decide +kernel
theorem dX8_bend_63 : decode cX8_bend 63 = .ok (.goto 4, 3) := by decide +kernel
theorem dX8_bend_66 : decode cX8_bend 66 = .ok (.iload_n 3, 1) := by decide +kernel
theorem dX8_bend_67 : decode cX8_bend 67 = .ok (.ireturn, 1) := by decide +kernel
set_option maxRecDepth 20000 in
theorem ggX8_operate_X8_isSlot : GoodIn wsX8_operate wsX8_isSlot := goodIn_r _ [6, 7, 8, 9, 5, 10] (by decide +kernel) (by decide +kernel)
set_option maxRecDepth 20000 in
theorem gX8_operate_X8_isSlot : GoodIn wsX8_operate (wsV RX8 228 RX8 yX8_isSlot wsX8_isSlot) := goodIn_app (goodIn_of _ (by decide +kernel)) ggX8_operate_X8_isSlot
set_option maxRecDepth 20000 in
theorem ggX8_operate_X8_within : GoodIn wsX8_operate wsX8_within := goodIn_r _ [10] (by decide +kernel) (by decide +kernel)
set_option maxRecDepth 20000 in
theorem gX8_operate_X8_within : GoodIn wsX8_operate (va_wsS RX8 121 yX8_within wsX8_within) := goodIn_app (goodIn_of _ (by decide +kernel)) ggX8_operate_X8_within
set_option maxRecDepth 20000 in
theorem ggX8_operate_X8_grow : GoodIn wsX8_operate wsX8_grow := goodIn_r _ [14, 1, 15, 21, 22, 23, 24, 25, 26, 27, 28, 29, 30, 31, 32, 33, 34, 35, 36, 37, 38, 39, 40, 41, 42, 43, 44, 45, 46, 47, 48, 49, 50, 51, 52, 53, 54, 55] (by decide +kernel) (by decide +kernel)
set_option maxRecDepth 20000 in
theorem gX8_operate_X8_grow : GoodIn wsX8_operate (wsV RX8 233 RX8 yX8_grow wsX8_grow) := goodIn_app (goodIn_of _ (by decide +kernel)) ggX8_operate_X8_grow
set_option maxRecDepth 20000 in
theorem ggX8_operate_X8_bend : GoodIn wsX8_operate wsX8_bend := goodIn_r _ [19, 1, 20, 11, 12, 13, 5, 14, 15, 21, 22, 23, 24, 25, 26, 27, 28, 29, 30, 31, 32, 33, 34, 35, 36, 37, 38, 39, 40, 41, 42, 43, 44, 45, 46, 47, 48, 49, 50, 51, 52, 53, 54, 55] (by decide +kernel) (by decide +kernel)
set_option maxRecDepth 20000 in
theorem gX8_operate_X8_bend : GoodIn wsX8_operate (wsV RX8 236 RX8 yX8_bend wsX8_bend) := goodIn_app (goodIn_of _ (by decide +kernel)) ggX8_operate_X8_bend
theorem dX8_operate_0 : decode cX8_operate 0 = .ok (.aload_n 0, 1) := by decide +kernel
theorem dX8_operate_1 : decode cX8_operate 1 = .ok (.iload_n 1, 1) := by decide +kernel
theorem dX8_operate_2 : decode cX8_operate 2 = .ok (.invokevirtual 228, 3) := by decide +kernel
theorem dX8_operate_5 : decode cX8_operate 5 = .ok (.ifCond .eq 22, 3) := by decide +kernel
theorem dX8_operate_8 : decode cX8_operate 8 = .ok (.iload_n 2, 1) := by decide +kernel
theorem dX8_operate_9 : decode cX8_operate 9 = .ok (.i2l, 1) := by decide +kernel
theorem dX8_operate_10 : decode cX8_operate 10 = .ok (.lconst 0, 1) := by decide +kernel
theorem dX8_operate_11 : decode cX8_operate 11 = .ok (.lconst 1, 1) := by decide +kernel
theorem dX8_operate_12 : decode cX8_operate 12 = .ok (.invokestatic 121, 3) := by decide +kernel
theorem dX8_operate_15 : decode cX8_operate 15 = .ok (.ifCond .eq 12, 3) := by decide +kernel
theorem dX8_operate_18 : decode cX8_operate 18 = .ok (.aload_n 0, 1) := by decide +kernel
theorem dX8_operate_19 : decode cX8_operate 19 = .ok (.getfield 85, 3) := by decide +kernel
theorem dX8_operate_22 : decode cX8_operate 22 = .ok (.iload_n 1, 1) := by decide +kernel
theorem dX8_operate_23 : decode cX8_operate 23 = .ok (.iaload, 1) := by decide +kernel
theorem dX8_operate_24 : decode cX8_operate 24 = .ok (.ifCond .ge 5, 3) := by decide +kernel
theorem dX8_operate_27 : decode cX8_operate 27 = .ok (.iconst 0, 1) := by decide +kernel
theorem dX8_operate_28 : decode cX8_operate 28 = .ok (.ireturn, 1) := by decide +kernel
theorem dX8_operate_29 : decode cX8_operate 29 = .ok (.iload_n 2, 1) := by decide +kernel
theorem dX8_operate_30 : decode cX8_operate 30 = .ok (.ifCond .ne 12, 3) := by decide +kernel
theorem dX8_operate_33 : decode cX8_operate 33 = .ok (.aload_n 0, 1) := by decide +kernel
theorem dX8_operate_34 : decode cX8_operate 34 = .ok (.iload_n 1, 1) := by decide +kernel
theorem dX8_operate_35 : decode cX8_operate 35 = .ok (.iload_n 3, 1) := by decide +kernel
theorem dX8_operate_36 : decode cX8_operate 36 = .ok (.invokevirtual 233, 3) := by decide +kernel
theorem dX8_operate_39 : decode cX8_operate 39 = .ok (.goto 9, 3) := by decide +kernel
theorem dX8_operate_42 : decode cX8_operate 42 = .ok (.aload_n 0, 1) := by decide +kernel
theorem dX8_operate_43 : decode cX8_operate 43 = .ok (.iload_n 1, 1) := by decide +kernel
theorem dX8_operate_44 : decode cX8_operate 44 = .ok (.iload_n 3, 1) := by decide +kernel
theorem dX8_operate_45 : decode cX8_operate 45 = .ok (.invokevirtual 236, 3) := by decide +kernel
theorem dX8_operate_48 : decode cX8_operate 48 = .ok (.ireturn, 1) := by decide +kernel
set_option maxRecDepth 20000 in
theorem ggX8_castNode_X8_isSlot : GoodIn wsX8_castNode wsX8_isSlot := goodIn_r _ [7, 1, 8, 9, 6, 10] (by decide +kernel) (by decide +kernel)
set_option maxRecDepth 20000 in
theorem gX8_castNode_X8_isSlot : GoodIn wsX8_castNode (wsV RX8 228 RX8 yX8_isSlot wsX8_isSlot) := goodIn_app (goodIn_of _ (by decide +kernel)) ggX8_castNode_X8_isSlot
set_option maxRecDepth 20000 in
theorem ggX8_castNode_X8_within : GoodIn wsX8_castNode wsX8_within := goodIn_r _ [10] (by decide +kernel) (by decide +kernel)
set_option maxRecDepth 20000 in
theorem gX8_castNode_X8_within : GoodIn wsX8_castNode (va_wsS RX8 121 yX8_within wsX8_within) := goodIn_app (goodIn_of _ (by decide +kernel)) ggX8_castNode_X8_within
theorem dX8_castNode_0 : decode cX8_castNode 0 = .ok (.aload_n 0, 1) := by decide +kernel
theorem dX8_castNode_1 : decode cX8_castNode 1 = .ok (.iload_n 1, 1) := by decide +kernel
theorem dX8_castNode_2 : decode cX8_castNode 2 = .ok (.invokevirtual 228, 3) := by decide +kernel
theorem dX8_castNode_5 : decode cX8_castNode 5 = .ok (.ifCond .eq 15, 3) := by decide +kernel
theorem dX8_castNode_8 : decode cX8_castNode 8 = .ok (.iload_n 2, 1) := by decide +kernel
theorem dX8_castNode_9 : decode cX8_castNode 9 = .ok (.i2l, 1) := by decide +kernel
theorem dX8_castNode_10 : decode cX8_castNode 10 = .ok (.lconst 0, 1) := by decide +kernel
theorem dX8_castNode_11 : decode cX8_castNode 11 = .ok (.ldc2_w 143, 3) := by decide +kernel
theorem dX8_castNode_14 : decode cX8_castNode 14 = .ok (.invokestatic 121, 3) := by decide +kernel
theorem dX8_castNode_17 : decode cX8_castNode 17 = .ok (.ifCond .ne 5, 3) := by decide +kernel
theorem dX8_castNode_20 : decode cX8_castNode 20 = .ok (.iconst (-1), 1) := by decide +kernel
theorem dX8_castNode_21 : decode cX8_castNode 21 = .ok (.ireturn, 1) := by decide +kernel
theorem dX8_castNode_22 : decode cX8_castNode 22 = .ok (.aload_n 0, 1) := by decide +kernel
theorem dX8_castNode_23 : decode cX8_castNode 23 = .ok (.getfield 85, 3) := by decide +kernel
theorem dX8_castNode_26 : decode cX8_castNode 26 = .ok (.iload_n 1, 1) := by decide +kernel
theorem dX8_castNode_27 : decode cX8_castNode 27 = .ok (.iaload, 1) := by decide +kernel
theorem dX8_castNode_28 : decode cX8_castNode 28 = .ok (.istore_n 3, 1) := by decide +kernel
theorem dX8_castNode_29 : decode cX8_castNode 29 = .ok (.iload_n 3, 1) := by decide +kernel
theorem dX8_castNode_30 : decode cX8_castNode 30 = .ok (.ifCond .ge 6, 3) := by decide +kernel
theorem dX8_castNode_33 : decode cX8_castNode 33 = .ok (.bipush (-11), 2) := by decide +kernel
theorem dX8_castNode_35 : decode cX8_castNode 35 = .ok (.ireturn, 1) := by decide +kernel
theorem dX8_castNode_36 : decode cX8_castNode 36 = .ok (.iload_n 2, 1) := by decide +kernel
theorem dX8_castNode_37 : decode cX8_castNode 37 = .ok (.ifCond .eq 33, 3) := by decide +kernel
theorem dX8_castNode_40 : decode cX8_castNode 40 = .ok (.iload_n 3, 1) := by decide +kernel
theorem dX8_castNode_41 : decode cX8_castNode 41 = .ok (.iload_n 2, 1) := by decide +kernel
theorem dX8_castNode_42 : decode cX8_castNode 42 = .ok (.if_icmp .eq 28, 3) := by decide +kernel
theorem dX8_castNode_45 : decode cX8_castNode 45 = .ok (.iload_n 2, 1) := by decide +kernel
theorem dX8_castNode_46 : decode cX8_castNode 46 = .ok (.iconst 1, 1) := by decide +kernel
theorem dX8_castNode_47 : decode cX8_castNode 47 = .ok (.if_icmp .ne 13, 3) := by decide +kernel
theorem dX8_castNode_50 : decode cX8_castNode 50 = .ok (.iload_n 3, 1) := by decide +kernel
theorem dX8_castNode_51 : decode cX8_castNode 51 = .ok (.iconst 2, 1) := by decide +kernel
theorem dX8_castNode_52 : decode cX8_castNode 52 = .ok (.if_icmp .eq 18, 3) := by decide +kernel
theorem dX8_castNode_55 : decode cX8_castNode 55 = .ok (.iload_n 3, 1) := by decide +kernel
theorem dX8_castNode_56 : decode cX8_castNode 56 = .ok (.iconst 3, 1) := by decide +kernel
theorem dX8_castNode_57 : decode cX8_castNode 57 = .ok (.if_icmp .eq 13, 3) := by decide +kernel
theorem dX8_castNode_60 : decode cX8_castNode 60 = .ok (.iload_n 2, 1) := by decide +kernel
theorem dX8_castNode_61 : decode cX8_castNode 61 = .ok (.iconst 2, 1) := by decide +kernel
theorem dX8_castNode_62 : decode cX8_castNode 62 = .ok (.if_icmp .ne 12, 3) := by decide +kernel
theorem dX8_castNode_65 : decode cX8_castNode 65 = .ok (.iload_n 3, 1) := by decide +kernel
theorem dX8_castNode_66 : decode cX8_castNode 66 = .ok (.iconst 3, 1) := by decide +kernel
theorem dX8_castNode_67 : decode cX8_castNode 67 = .ok (.if_icmp .ne 7, 3) := by decide +kernel
theorem dX8_castNode_70 : decode cX8_castNode 70 = .ok (.iconst 1, 1) := by decide +kernel
theorem dX8_castNode_71 : decode cX8_castNode 71 = .ok (.goto 4, 3) := by decide +kernel
theorem dX8_castNode_74 : decode cX8_castNode 74 = .ok (.iconst 0, 1) := by decide +kernel
theorem dX8_castNode_75 : decode cX8_castNode 75 = .ok (.istore 4, 2) := by decide +kernel
theorem dX8_castNode_77 : decode cX8_castNode 77 = .ok (.iload 4, 2) := by decide +kernel
theorem dX8_castNode_79 : decode cX8_castNode 79 = .ok (.ifCond .eq 7, 3) := by decide +kernel
theorem dX8_castNode_82 : decode cX8_castNode 82 = .ok (.iload_n 3, 1) := by decide +kernel
theorem dX8_castNode_83 : decode cX8_castNode 83 = .ok (.goto 5, 3) := by decide +kernel
theorem dX8_castNode_86 : decode cX8_castNode 86 = .ok (.bipush (-12), 2) := by decide +kernel
theorem dX8_castNode_88 : decode cX8_castNode 88 = .ok (.ireturn, 1) := by decide +kernel
set_option maxRecDepth 20000 in
theorem ggX8_isArray_X8_within : GoodIn wsX8_isArray wsX8_within := goodIn_r _ [5] (by decide +kernel) (by decide +kernel)
set_option maxRecDepth 20000 in
theorem gX8_isArray_X8_within : GoodIn wsX8_isArray (va_wsS RX8 121 yX8_within wsX8_within) := goodIn_app (goodIn_of _ (by decide +kernel)) ggX8_isArray_X8_within
theorem dX8_isArray_0 : decode cX8_isArray 0 = .ok (.iload_n 1, 1) := by decide +kernel
theorem dX8_isArray_1 : decode cX8_isArray 1 = .ok (.i2l, 1) := by decide +kernel
theorem dX8_isArray_2 : decode cX8_isArray 2 = .ok (.lconst 0, 1) := by decide +kernel
theorem dX8_isArray_3 : decode cX8_isArray 3 = .ok (.ldc2_w 182, 3) := by decide +kernel
theorem dX8_isArray_6 : decode cX8_isArray 6 = .ok (.invokestatic 121, 3) := by decide +kernel
theorem dX8_isArray_9 : decode cX8_isArray 9 = .ok (.ireturn, 1) := by decide +kernel
set_option maxRecDepth 20000 in
theorem ggX8_newArray_X8_isArray : GoodIn wsX8_newArray wsX8_isArray := goodIn_r _ [7, 8, 9, 10, 6, 11] (by decide +kernel) (by decide +kernel)
set_option maxRecDepth 20000 in
theorem gX8_newArray_X8_isArray : GoodIn wsX8_newArray (wsV RX8 202 RX8 yX8_isArray wsX8_isArray) := goodIn_app (goodIn_of _ (by decide +kernel)) ggX8_newArray_X8_isArray
theorem dX8_newArray_0 : decode cX8_newArray 0 = .ok (.aload_n 0, 1) := by decide +kernel
theorem dX8_newArray_1 : decode cX8_newArray 1 = .ok (.iload_n 1, 1) := by decide +kernel
theorem dX8_newArray_2 : decode cX8_newArray 2 = .ok (.invokevirtual 202, 3) := by decide +kernel
theorem dX8_newArray_5 : decode cX8_newArray 5 = .ok (.ifCond .eq 9, 3) := by decide +kernel
theorem dX8_newArray_8 : decode cX8_newArray 8 = .ok (.iload_n 2, 1) := by decide +kernel
theorem dX8_newArray_9 : decode cX8_newArray 9 = .ok (.bipush 60, 2) := by decide +kernel
theorem dX8_newArray_11 : decode cX8_newArray 11 = .ok (.if_icmp .le 5, 3) := by decide +kernel
theorem dX8_newArray_14 : decode cX8_newArray 14 = .ok (.iconst (-1), 1) := by decide +kernel
theorem dX8_newArray_15 : decode cX8_newArray 15 = .ok (.ireturn, 1) := by decide +kernel
theorem dX8_newArray_16 : decode cX8_newArray 16 = .ok (.iload_n 2, 1) := by decide +kernel
theorem dX8_newArray_17 : decode cX8_newArray 17 = .ok (.iconst (-1), 1) := by decide +kernel
theorem dX8_newArray_18 : decode cX8_newArray 18 = .ok (.if_icmp .ge 6, 3) := by decide +kernel
theorem dX8_newArray_21 : decode cX8_newArray 21 = .ok (.bipush (-14), 2) := by decide +kernel
theorem dX8_newArray_23 : decode cX8_newArray 23 = .ok (.ireturn, 1) := by decide +kernel
theorem dX8_newArray_24 : decode cX8_newArray 24 = .ok (.aload_n 0, 1) := by decide +kernel
theorem dX8_newArray_25 : decode cX8_newArray 25 = .ok (.getfield 94, 3) := by decide +kernel
theorem dX8_newArray_28 : decode cX8_newArray 28 = .ok (.iload_n 1, 1) := by decide +kernel
theorem dX8_newArray_29 : decode cX8_newArray 29 = .ok (.iload_n 2, 1) := by decide +kernel
theorem dX8_newArray_30 : decode cX8_newArray 30 = .ok (.iastore, 1) := by decide +kernel
theorem dX8_newArray_31 : decode cX8_newArray 31 = .ok (.iconst 0, 1) := by decide +kernel
theorem dX8_newArray_32 : decode cX8_newArray 32 = .ok (.istore_n 3, 1) := by decide +kernel
theorem dX8_newArray_33 : decode cX8_newArray 33 = .ok (.iload_n 3, 1) := by decide +kernel
theorem dX8_newArray_34 : decode cX8_newArray 34 = .ok (.bipush 60, 2) := by decide +kernel
theorem dX8_newArray_36 : decode cX8_newArray 36 = .ok (.if_icmp .ge 21, 3) := by decide +kernel
theorem dX8_newArray_39 : decode cX8_newArray 39 = .ok (.aload_n 0, 1) := by decide +kernel
theorem dX8_newArray_40 : decode cX8_newArray 40 = .ok (.getfield 97, 3) := by decide +kernel
theorem dX8_newArray_43 : decode cX8_newArray 43 = .ok (.bipush 60, 2) := by decide +kernel
theorem dX8_newArray_45 : decode cX8_newArray 45 = .ok (.iload_n 1, 1) := by decide +kernel
theorem dX8_newArray_46 : decode cX8_newArray 46 = .ok (.imul, 1) := by decide +kernel
theorem dX8_newArray_47 : decode cX8_newArray 47 = .ok (.iload_n 3, 1) := by decide +kernel
theorem dX8_newArray_48 : decode cX8_newArray 48 = .ok (.iadd, 1) := by decide +kernel
theorem dX8_newArray_49 : decode cX8_newArray 49 = .ok (.iconst 0, 1) := by decide +kernel
theorem dX8_newArray_50 : decode cX8_newArray 50 = .ok (.iastore, 1) := by decide +kernel
theorem dX8_newArray_51 : decode cX8_newArray 51 = .ok (.iinc 3 1, 3) := by decide +kernel
theorem dX8_newArray_54 : decode cX8_newArray 54 = .ok (.goto (-21), 3) := by decide +kernel
theorem dX8_newArray_57 : decode cX8_newArray 57 = .ok (.iconst 1, 1) := by decide +kernel
theorem dX8_newArray_58 : decode cX8_newArray 58 = .ok (.ireturn, 1) := by decide +kernel
set_option maxRecDepth 20000 in
theorem ggX8_setElement_X8_isArray : GoodIn wsX8_setElement wsX8_isArray := goodIn_r _ [7, 8, 9, 10, 6, 11] (by decide +kernel) (by decide +kernel)
set_option maxRecDepth 20000 in
theorem gX8_setElement_X8_isArray : GoodIn wsX8_setElement (wsV RX8 202 RX8 yX8_isArray wsX8_isArray) := goodIn_app (goodIn_of _ (by decide +kernel)) ggX8_setElement_X8_isArray
set_option maxRecDepth 20000 in
theorem ggX8_setElement_X8_within : GoodIn wsX8_setElement wsX8_within := goodIn_r _ [11] (by decide +kernel) (by decide +kernel)
set_option maxRecDepth 20000 in
theorem gX8_setElement_X8_within : GoodIn wsX8_setElement (va_wsS RX8 121 yX8_within wsX8_within) := goodIn_app (goodIn_of _ (by decide +kernel)) ggX8_setElement_X8_within
theorem dX8_setElement_0 : decode cX8_setElement 0 = .ok (.aload_n 0, 1) := by decide +kernel
theorem dX8_setElement_1 : decode cX8_setElement 1 = .ok (.iload_n 1, 1) := by decide +kernel
theorem dX8_setElement_2 : decode cX8_setElement 2 = .ok (.invokevirtual 202, 3) := by decide +kernel
theorem dX8_setElement_5 : decode cX8_setElement 5 = .ok (.ifCond .ne 5, 3) := by decide +kernel
theorem dX8_setElement_8 : decode cX8_setElement 8 = .ok (.iconst (-1), 1) := by decide +kernel
theorem dX8_setElement_9 : decode cX8_setElement 9 = .ok (.ireturn, 1) := by decide +kernel
theorem dX8_setElement_10 : decode cX8_setElement 10 = .ok (.aload_n 0, 1) := by decide +kernel
theorem dX8_setElement_11 : decode cX8_setElement 11 = .ok (.getfield 94, 3) := by decide +kernel
theorem dX8_setElement_14 : decode cX8_setElement 14 = .ok (.iload_n 1, 1) := by decide +kernel
theorem dX8_setElement_15 : decode cX8_setElement 15 = .ok (.iaload, 1) := by decide +kernel
theorem dX8_setElement_16 : decode cX8_setElement 16 = .ok (.ifCond .ge 6, 3) := by decide +kernel
theorem dX8_setElement_19 : decode cX8_setElement 19 = .ok (.bipush (-11), 2) := by decide +kernel
theorem dX8_setElement_21 : decode cX8_setElement 21 = .ok (.ireturn, 1) := by decide +kernel
theorem dX8_setElement_22 : decode cX8_setElement 22 = .ok (.iload_n 2, 1) := by decide +kernel
theorem dX8_setElement_23 : decode cX8_setElement 23 = .ok (.i2l, 1) := by decide +kernel
theorem dX8_setElement_24 : decode cX8_setElement 24 = .ok (.lconst 0, 1) := by decide +kernel
theorem dX8_setElement_25 : decode cX8_setElement 25 = .ok (.aload_n 0, 1) := by decide +kernel
theorem dX8_setElement_26 : decode cX8_setElement 26 = .ok (.getfield 94, 3) := by decide +kernel
theorem dX8_setElement_29 : decode cX8_setElement 29 = .ok (.iload_n 1, 1) := by decide +kernel
theorem dX8_setElement_30 : decode cX8_setElement 30 = .ok (.iaload, 1) := by decide +kernel
theorem dX8_setElement_31 : decode cX8_setElement 31 = .ok (.iconst 1, 1) := by decide +kernel
theorem dX8_setElement_32 : decode cX8_setElement 32 = .ok (.isub, 1) := by decide +kernel
theorem dX8_setElement_33 : decode cX8_setElement 33 = .ok (.i2l, 1) := by decide +kernel
theorem dX8_setElement_34 : decode cX8_setElement 34 = .ok (.invokestatic 121, 3) := by decide +kernel
theorem dX8_setElement_37 : decode cX8_setElement 37 = .ok (.ifCond .ne 6, 3) := by decide +kernel
theorem dX8_setElement_40 : decode cX8_setElement 40 = .ok (.bipush (-13), 2) := by decide +kernel
theorem dX8_setElement_42 : decode cX8_setElement 42 = .ok (.ireturn, 1) := by decide +kernel
theorem dX8_setElement_43 : decode cX8_setElement 43 = .ok (.aload_n 0, 1) := by decide +kernel
theorem dX8_setElement_44 : decode cX8_setElement 44 = .ok (.getfield 97, 3) := by decide +kernel
theorem dX8_setElement_47 : decode cX8_setElement 47 = .ok (.bipush 60, 2) := by decide +kernel
theorem dX8_setElement_49 : decode cX8_setElement 49 = .ok (.iload_n 1, 1) := by decide +kernel
theorem dX8_setElement_50 : decode cX8_setElement 50 = .ok (.imul, 1) := by decide +kernel
theorem dX8_setElement_51 : decode cX8_setElement 51 = .ok (.iload_n 2, 1) := by decide +kernel
theorem dX8_setElement_52 : decode cX8_setElement 52 = .ok (.iadd, 1) := by decide +kernel
theorem dX8_setElement_53 : decode cX8_setElement 53 = .ok (.iload_n 3, 1) := by decide +kernel
theorem dX8_setElement_54 : decode cX8_setElement 54 = .ok (.iastore, 1) := by decide +kernel
theorem dX8_setElement_55 : decode cX8_setElement 55 = .ok (.iconst 1, 1) := by decide +kernel
theorem dX8_setElement_56 : decode cX8_setElement 56 = .ok (.ireturn, 1) := by decide +kernel
set_option maxRecDepth 20000 in
theorem ggX8_element_X8_isArray : GoodIn wsX8_element wsX8_isArray := goodIn_r _ [8, 9, 10, 11, 7, 12] (by decide +kernel) (by decide +kernel)
set_option maxRecDepth 20000 in
theorem gX8_element_X8_isArray : GoodIn wsX8_element (wsV RX8 202 RX8 yX8_isArray wsX8_isArray) := goodIn_app (goodIn_of _ (by decide +kernel)) ggX8_element_X8_isArray
set_option maxRecDepth 20000 in
theorem ggX8_element_X8_within : GoodIn wsX8_element wsX8_within := goodIn_r _ [12] (by decide +kernel) (by decide +kernel)
set_option maxRecDepth 20000 in
theorem gX8_element_X8_within : GoodIn wsX8_element (va_wsS RX8 121 yX8_within wsX8_within) := goodIn_app (goodIn_of _ (by decide +kernel)) ggX8_element_X8_within
theorem dX8_element_0 : decode cX8_element 0 = .ok (.aload_n 0, 1) := by decide +kernel
theorem dX8_element_1 : decode cX8_element 1 = .ok (.iload_n 1, 1) := by decide +kernel
theorem dX8_element_2 : decode cX8_element 2 = .ok (.invokevirtual 202, 3) := by decide +kernel
theorem dX8_element_5 : decode cX8_element 5 = .ok (.ifCond .eq 36, 3) := by decide +kernel
theorem dX8_element_8 : decode cX8_element 8 = .ok (.iload_n 2, 1) := by decide +kernel
theorem dX8_element_9 : decode cX8_element 9 = .ok (.i2l, 1) := by decide +kernel
theorem dX8_element_10 : decode cX8_element 10 = .ok (.lconst 0, 1) := by decide +kernel
theorem dX8_element_11 : decode cX8_element 11 = .ok (.aload_n 0, 1) := by decide +kernel
theorem dX8_element_12 : decode cX8_element 12 = .ok (.getfield 94, 3) := by decide +kernel
theorem dX8_element_15 : decode cX8_element 15 = .ok (.iload_n 1, 1) := by decide +kernel
theorem dX8_element_16 : decode cX8_element 16 = .ok (.iaload, 1) := by decide +kernel
theorem dX8_element_17 : decode cX8_element 17 = .ok (.iconst 1, 1) := by decide +kernel
theorem dX8_element_18 : decode cX8_element 18 = .ok (.isub, 1) := by decide +kernel
theorem dX8_element_19 : decode cX8_element 19 = .ok (.i2l, 1) := by decide +kernel
theorem dX8_element_20 : decode cX8_element 20 = .ok (.invokestatic 121, 3) := by decide +kernel
theorem dX8_element_23 : decode cX8_element 23 = .ok (.ifCond .eq 18, 3) := by decide +kernel
theorem dX8_element_26 : decode cX8_element 26 = .ok (.aload_n 0, 1) := by decide +kernel
theorem dX8_element_27 : decode cX8_element 27 = .ok (.getfield 97, 3) := by decide +kernel
theorem dX8_element_30 : decode cX8_element 30 = .ok (.bipush 60, 2) := by decide +kernel
theorem dX8_element_32 : decode cX8_element 32 = .ok (.iload_n 1, 1) := by decide +kernel
theorem dX8_element_33 : decode cX8_element 33 = .ok (.imul, 1) := by decide +kernel
theorem dX8_element_34 : decode cX8_element 34 = .ok (.iload_n 2, 1) := by decide +kernel
theorem dX8_element_35 : decode cX8_element 35 = .ok (.iadd, 1) := by decide +kernel
theorem dX8_element_36 : decode cX8_element 36 = .ok (.iaload, 1) := by decide +kernel
theorem dX8_element_37 : decode cX8_element 37 = .ok (.i2l, 1) := by decide +kernel
theorem dX8_element_38 : decode cX8_element 38 = .ok (.goto 6, 3) := by decide +kernel
theorem dX8_element_41 : decode cX8_element 41 = .ok (.ldc2_w 145, 3) := by decide +kernel
theorem dX8_element_44 : decode cX8_element 44 = .ok (.lreturn, 1) := by decide +kernel
set_option maxRecDepth 20000 in
theorem ggX8_fillArray_X8_isArray : GoodIn wsX8_fillArray wsX8_isArray := goodIn_r _ [12, 1, 13, 14, 11, 15] (by decide +kernel) (by decide +kernel)
set_option maxRecDepth 20000 in
theorem gX8_fillArray_X8_isArray : GoodIn wsX8_fillArray (wsV RX8 202 RX8 yX8_isArray wsX8_isArray) := goodIn_app (goodIn_of _ (by decide +kernel)) ggX8_fillArray_X8_isArray
set_option maxRecDepth 20000 in
theorem ggX8_fillArray_X8_isRegister : GoodIn wsX8_fillArray wsX8_isRegister := goodIn_r _ [19, 20, 13, 14, 11, 15] (by decide +kernel) (by decide +kernel)
set_option maxRecDepth 20000 in
theorem gX8_fillArray_X8_isRegister : GoodIn wsX8_fillArray (wsV RX8 131 RX8 yX8_isRegister wsX8_isRegister) := goodIn_app (goodIn_of _ (by decide +kernel)) ggX8_fillArray_X8_isRegister
set_option maxRecDepth 20000 in
theorem ggX8_fillArray_X8_within : GoodIn wsX8_fillArray wsX8_within := goodIn_r _ [15] (by decide +kernel) (by decide +kernel)
set_option maxRecDepth 20000 in
theorem gX8_fillArray_X8_within : GoodIn wsX8_fillArray (va_wsS RX8 121 yX8_within wsX8_within) := goodIn_app (goodIn_of _ (by decide +kernel)) ggX8_fillArray_X8_within
set_option maxRecDepth 20000 in
theorem ggX8_fillArray_X8_depthOf : GoodIn wsX8_fillArray wsX8_depthOf := goodIn_r _ [24, 25, 26, 27, 28, 29, 11, 30, 4, 7, 31, 32, 33, 34, 35, 44, 45, 46, 47, 48, 49, 50, 51, 52, 53, 54, 55, 56, 57, 58, 59, 60, 61, 62, 63, 64, 65, 66, 67, 68, 69, 70, 71, 72, 73, 74, 75, 76, 77, 78] (by decide +kernel) (by decide +kernel)
set_option maxRecDepth 20000 in
theorem gX8_fillArray_X8_depthOf : GoodIn wsX8_fillArray (wsV RX8 154 RX8 yX8_depthOf wsX8_depthOf) := goodIn_app (goodIn_of _ (by decide +kernel)) ggX8_fillArray_X8_depthOf
set_option maxRecDepth 20000 in
theorem ggX8_fillArray_X8_letterOf : GoodIn wsX8_fillArray wsX8_letterOf := goodIn_r _ [39] (by decide +kernel) (by decide +kernel)
set_option maxRecDepth 20000 in
theorem gX8_fillArray_X8_letterOf : GoodIn wsX8_fillArray (wsV RX8 199 RX8 yX8_letterOf wsX8_letterOf) := goodIn_app (goodIn_of _ (by decide +kernel)) ggX8_fillArray_X8_letterOf
set_option maxRecDepth 20000 in
theorem ggX8_fillArray_X8_step : GoodIn wsX8_fillArray wsX8_step := goodIn_r _ [43, 25, 26, 31, 44, 45, 46, 47, 48, 49, 50, 51, 52, 53, 54, 55, 56, 57, 58, 59, 60, 61, 62, 63, 64, 65, 66, 67, 68, 69, 70, 71, 72, 73, 74, 75, 76, 77, 78] (by decide +kernel) (by decide +kernel)
set_option maxRecDepth 20000 in
theorem gX8_fillArray_X8_step : GoodIn wsX8_fillArray (wsV RX8 158 RX8 yX8_step wsX8_step) := goodIn_app (goodIn_of _ (by decide +kernel)) ggX8_fillArray_X8_step
theorem dX8_fillArray_0 : decode cX8_fillArray 0 = .ok (.aload_n 0, 1) := by decide +kernel
theorem dX8_fillArray_1 : decode cX8_fillArray 1 = .ok (.iload_n 1, 1) := by decide +kernel
theorem dX8_fillArray_2 : decode cX8_fillArray 2 = .ok (.invokevirtual 202, 3) := by decide +kernel
theorem dX8_fillArray_5 : decode cX8_fillArray 5 = .ok (.ifCond .eq 23, 3) := by decide +kernel
theorem dX8_fillArray_8 : decode cX8_fillArray 8 = .ok (.aload_n 0, 1) := by decide +kernel
theorem dX8_fillArray_9 : decode cX8_fillArray 9 = .ok (.iload_n 2, 1) := by decide +kernel
theorem dX8_fillArray_10 : decode cX8_fillArray 10 = .ok (.invokevirtual 131, 3) := by decide +kernel
theorem dX8_fillArray_13 : decode cX8_fillArray 13 = .ok (.ifCond .eq 15, 3) := by decide +kernel
theorem dX8_fillArray_16 : decode cX8_fillArray 16 = .ok (.iload_n 3, 1) := by decide +kernel
theorem dX8_fillArray_17 : decode cX8_fillArray 17 = .ok (.i2l, 1) := by decide +kernel
theorem dX8_fillArray_18 : decode cX8_fillArray 18 = .ok (.lconst 0, 1) := by decide +kernel
theorem dX8_fillArray_19 : decode cX8_fillArray 19 = .ok (.ldc2_w 182, 3) := by decide +kernel
theorem dX8_fillArray_22 : decode cX8_fillArray 22 = .ok (.invokestatic 121, 3) := by decide +kernel
theorem dX8_fillArray_25 : decode cX8_fillArray 25 = .ok (.ifCond .ne 5, 3) := by decide +kernel
theorem dX8_fillArray_28 : decode cX8_fillArray 28 = .ok (.iconst (-1), 1) := by decide +kernel
theorem dX8_fillArray_29 : decode cX8_fillArray 29 = .ok (.ireturn, 1) := by decide +kernel
theorem dX8_fillArray_30 : decode cX8_fillArray 30 = .ok (.aload_n 0, 1) := by decide +kernel
theorem dX8_fillArray_31 : decode cX8_fillArray 31 = .ok (.getfield 7, 3) := by decide +kernel
theorem dX8_fillArray_34 : decode cX8_fillArray 34 = .ok (.iload_n 2, 1) := by decide +kernel
theorem dX8_fillArray_35 : decode cX8_fillArray 35 = .ok (.iaload, 1) := by decide +kernel
theorem dX8_fillArray_36 : decode cX8_fillArray 36 = .ok (.istore 4, 2) := by decide +kernel
theorem dX8_fillArray_38 : decode cX8_fillArray 38 = .ok (.aload_n 0, 1) := by decide +kernel
theorem dX8_fillArray_39 : decode cX8_fillArray 39 = .ok (.getfield 13, 3) := by decide +kernel
theorem dX8_fillArray_42 : decode cX8_fillArray 42 = .ok (.iload_n 2, 1) := by decide +kernel
theorem dX8_fillArray_43 : decode cX8_fillArray 43 = .ok (.iaload, 1) := by decide +kernel
theorem dX8_fillArray_44 : decode cX8_fillArray 44 = .ok (.istore 5, 2) := by decide +kernel
theorem dX8_fillArray_46 : decode cX8_fillArray 46 = .ok (.iload_n 3, 1) := by decide +kernel
theorem dX8_fillArray_47 : decode cX8_fillArray 47 = .ok (.iconst 1, 1) := by decide +kernel
theorem dX8_fillArray_48 : decode cX8_fillArray 48 = .ok (.if_icmp .ne 11, 3) := by decide +kernel
theorem dX8_fillArray_51 : decode cX8_fillArray 51 = .ok (.iload 4, 2) := by decide +kernel
theorem dX8_fillArray_53 : decode cX8_fillArray 53 = .ok (.iload 5, 2) := by decide +kernel
theorem dX8_fillArray_55 : decode cX8_fillArray 55 = .ok (.iadd, 1) := by decide +kernel
theorem dX8_fillArray_56 : decode cX8_fillArray 56 = .ok (.goto 11, 3) := by decide +kernel
theorem dX8_fillArray_59 : decode cX8_fillArray 59 = .ok (.aload_n 0, 1) := by decide +kernel
theorem dX8_fillArray_60 : decode cX8_fillArray 60 = .ok (.iload 4, 2) := by decide +kernel
theorem dX8_fillArray_62 : decode cX8_fillArray 62 = .ok (.iload 5, 2) := by decide +kernel
theorem dX8_fillArray_64 : decode cX8_fillArray 64 = .ok (.invokevirtual 154, 3) := by decide +kernel
theorem dX8_fillArray_67 : decode cX8_fillArray 67 = .ok (.istore 6, 2) := by decide +kernel
theorem dX8_fillArray_69 : decode cX8_fillArray 69 = .ok (.iload_n 3, 1) := by decide +kernel
theorem dX8_fillArray_70 : decode cX8_fillArray 70 = .ok (.ifCond .ne 9, 3) := by decide +kernel
theorem dX8_fillArray_73 : decode cX8_fillArray 73 = .ok (.aload_n 0, 1) := by decide +kernel
theorem dX8_fillArray_74 : decode cX8_fillArray 74 = .ok (.getfield 25, 3) := by decide +kernel
theorem dX8_fillArray_77 : decode cX8_fillArray 77 = .ok (.istore 6, 2) := by decide +kernel
theorem dX8_fillArray_79 : decode cX8_fillArray 79 = .ok (.iload 6, 2) := by decide +kernel
theorem dX8_fillArray_81 : decode cX8_fillArray 81 = .ok (.bipush 60, 2) := by decide +kernel
theorem dX8_fillArray_83 : decode cX8_fillArray 83 = .ok (.if_icmp .le 6, 3) := by decide +kernel
theorem dX8_fillArray_86 : decode cX8_fillArray 86 = .ok (.bipush (-3), 2) := by decide +kernel
theorem dX8_fillArray_88 : decode cX8_fillArray 88 = .ok (.ireturn, 1) := by decide +kernel
theorem dX8_fillArray_89 : decode cX8_fillArray 89 = .ok (.aload_n 0, 1) := by decide +kernel
theorem dX8_fillArray_90 : decode cX8_fillArray 90 = .ok (.getfield 94, 3) := by decide +kernel
theorem dX8_fillArray_93 : decode cX8_fillArray 93 = .ok (.iload_n 1, 1) := by decide +kernel
theorem dX8_fillArray_94 : decode cX8_fillArray 94 = .ok (.iload 6, 2) := by decide +kernel
theorem dX8_fillArray_96 : decode cX8_fillArray 96 = .ok (.iastore, 1) := by decide +kernel
theorem dX8_fillArray_97 : decode cX8_fillArray 97 = .ok (.iconst 0, 1) := by decide +kernel
theorem dX8_fillArray_98 : decode cX8_fillArray 98 = .ok (.istore 7, 2) := by decide +kernel
theorem dX8_fillArray_100 : decode cX8_fillArray 100 = .ok (.iload 7, 2) := by decide +kernel
theorem dX8_fillArray_102 : decode cX8_fillArray 102 = .ok (.iload 6, 2) := by decide +kernel
theorem dX8_fillArray_104 : decode cX8_fillArray 104 = .ok (.if_icmp .ge 59, 3) := by decide +kernel
theorem dX8_fillArray_107 : decode cX8_fillArray 107 = .ok (.aload_n 0, 1) := by decide +kernel
theorem dX8_fillArray_108 : decode cX8_fillArray 108 = .ok (.getfield 97, 3) := by decide +kernel
theorem dX8_fillArray_111 : decode cX8_fillArray 111 = .ok (.bipush 60, 2) := by decide +kernel
theorem dX8_fillArray_113 : decode cX8_fillArray 113 = .ok (.iload_n 1, 1) := by decide +kernel
theorem dX8_fillArray_114 : decode cX8_fillArray 114 = .ok (.imul, 1) := by decide +kernel
theorem dX8_fillArray_115 : decode cX8_fillArray 115 = .ok (.iload 7, 2) := by decide +kernel
theorem dX8_fillArray_117 : decode cX8_fillArray 117 = .ok (.iadd, 1) := by decide +kernel
theorem dX8_fillArray_118 : decode cX8_fillArray 118 = .ok (.iload_n 3, 1) := by decide +kernel
theorem dX8_fillArray_119 : decode cX8_fillArray 119 = .ok (.ifCond .ne 13, 3) := by decide +kernel
theorem dX8_fillArray_122 : decode cX8_fillArray 122 = .ok (.aload_n 0, 1) := by decide +kernel
theorem dX8_fillArray_123 : decode cX8_fillArray 123 = .ok (.getfield 16, 3) := by decide +kernel
theorem dX8_fillArray_126 : decode cX8_fillArray 126 = .ok (.iload 7, 2) := by decide +kernel
theorem dX8_fillArray_128 : decode cX8_fillArray 128 = .ok (.iaload, 1) := by decide +kernel
theorem dX8_fillArray_129 : decode cX8_fillArray 129 = .ok (.goto 27, 3) := by decide +kernel
theorem dX8_fillArray_132 : decode cX8_fillArray 132 = .ok (.iload_n 3, 1) := by decide +kernel
theorem dX8_fillArray_133 : decode cX8_fillArray 133 = .ok (.iconst 1, 1) := by decide +kernel
theorem dX8_fillArray_134 : decode cX8_fillArray 134 = .ok (.if_icmp .ne 16, 3) := by decide +kernel
theorem dX8_fillArray_137 : decode cX8_fillArray 137 = .ok (.aload_n 0, 1) := by decide +kernel
theorem dX8_fillArray_138 : decode cX8_fillArray 138 = .ok (.iload 4, 2) := by decide +kernel
theorem dX8_fillArray_140 : decode cX8_fillArray 140 = .ok (.iload 5, 2) := by decide +kernel
theorem dX8_fillArray_142 : decode cX8_fillArray 142 = .ok (.iload 7, 2) := by decide +kernel
theorem dX8_fillArray_144 : decode cX8_fillArray 144 = .ok (.invokevirtual 199, 3) := by decide +kernel
theorem dX8_fillArray_147 : decode cX8_fillArray 147 = .ok (.goto 9, 3) := by decide +kernel
theorem dX8_fillArray_150 : decode cX8_fillArray 150 = .ok (.aload_n 0, 1) := by decide +kernel
theorem dX8_fillArray_151 : decode cX8_fillArray 151 = .ok (.iload 7, 2) := by decide +kernel
theorem dX8_fillArray_153 : decode cX8_fillArray 153 = .ok (.invokevirtual 158, 3) := by decide +kernel
theorem dX8_fillArray_156 : decode cX8_fillArray 156 = .ok (.iastore, 1) := by decide +kernel
theorem dX8_fillArray_157 : decode cX8_fillArray 157 = .ok (.iinc 7 1, 3) := by decide +kernel
theorem dX8_fillArray_160 : decode cX8_fillArray 160 = .ok (.goto (-60), 3) := by decide +kernel
theorem dX8_fillArray_163 : decode cX8_fillArray 163 = .ok (.iload 6, 2) := by decide +kernel
theorem dX8_fillArray_165 : decode cX8_fillArray 165 = .ok (.ireturn, 1) := by decide +kernel
theorem dX8_nodes_0 : decode cX8_nodes 0 = .ok (.iconst 0, 1) := by decide +kernel
theorem dX8_nodes_1 : decode cX8_nodes 1 = .ok (.istore_n 1, 1) := by decide +kernel
theorem dX8_nodes_2 : decode cX8_nodes 2 = .ok (.iconst 0, 1) := by decide +kernel
theorem dX8_nodes_3 : decode cX8_nodes 3 = .ok (.istore_n 2, 1) := by decide +kernel
theorem dX8_nodes_4 : decode cX8_nodes 4 = .ok (.iload_n 2, 1) := by decide +kernel
theorem dX8_nodes_5 : decode cX8_nodes 5 = .ok (.iconst 5, 1) := by decide +kernel
theorem dX8_nodes_6 : decode cX8_nodes 6 = .ok (.if_icmp .ge 26, 3) := by decide +kernel
theorem dX8_nodes_9 : decode cX8_nodes 9 = .ok (.iload_n 1, 1) := by decide +kernel
theorem dX8_nodes_10 : decode cX8_nodes 10 = .ok (.aload_n 0, 1) := by decide +kernel
theorem dX8_nodes_11 : decode cX8_nodes 11 = .ok (.getfield 85, 3) := by decide +kernel
theorem dX8_nodes_14 : decode cX8_nodes 14 = .ok (.iload_n 2, 1) := by decide +kernel
theorem dX8_nodes_15 : decode cX8_nodes 15 = .ok (.iaload, 1) := by decide +kernel
theorem dX8_nodes_16 : decode cX8_nodes 16 = .ok (.ifCond .lt 7, 3) := by decide +kernel
theorem dX8_nodes_19 : decode cX8_nodes 19 = .ok (.iconst 1, 1) := by decide +kernel
theorem dX8_nodes_20 : decode cX8_nodes 20 = .ok (.goto 4, 3) := by decide +kernel
theorem dX8_nodes_23 : decode cX8_nodes 23 = .ok (.iconst 0, 1) := by decide +kernel
theorem dX8_nodes_24 : decode cX8_nodes 24 = .ok (.iadd, 1) := by decide +kernel
theorem dX8_nodes_25 : decode cX8_nodes 25 = .ok (.istore_n 1, 1) := by decide +kernel
theorem dX8_nodes_26 : decode cX8_nodes 26 = .ok (.iinc 2 1, 3) := by decide +kernel
theorem dX8_nodes_29 : decode cX8_nodes 29 = .ok (.goto (-25), 3) := by decide +kernel
theorem dX8_nodes_32 : decode cX8_nodes 32 = .ok (.iload_n 1, 1) := by decide +kernel
theorem dX8_nodes_33 : decode cX8_nodes 33 = .ok (.ireturn, 1) := by decide +kernel
set_option maxRecDepth 20000 in
theorem ggX8_snapshot_X8_nodes : GoodIn wsX8_snapshot wsX8_nodes := goodIn_r _ [16, 7, 17, 18, 19, 20, 21, 22, 23, 24, 25, 26, 27, 28, 29, 30, 31, 32, 33, 34, 35, 36, 37, 38, 39, 40, 41, 42, 43, 44, 45, 46, 47, 48, 49, 50, 51] (by decide +kernel) (by decide +kernel)
set_option maxRecDepth 20000 in
theorem gX8_snapshot_X8_nodes : GoodIn wsX8_snapshot (wsV RX8 239 RX8 yX8_nodes wsX8_nodes) := goodIn_app (goodIn_of _ (by decide +kernel)) ggX8_snapshot_X8_nodes
theorem dX8_snapshot_0 : decode cX8_snapshot 0 = .ok (.aload_n 0, 1) := by decide +kernel
theorem dX8_snapshot_1 : decode cX8_snapshot 1 = .ok (.iconst 1, 1) := by decide +kernel
theorem dX8_snapshot_2 : decode cX8_snapshot 2 = .ok (.putfield 100, 3) := by decide +kernel
theorem dX8_snapshot_5 : decode cX8_snapshot 5 = .ok (.iconst 0, 1) := by decide +kernel
theorem dX8_snapshot_6 : decode cX8_snapshot 6 = .ok (.istore_n 1, 1) := by decide +kernel
theorem dX8_snapshot_7 : decode cX8_snapshot 7 = .ok (.iload_n 1, 1) := by decide +kernel
theorem dX8_snapshot_8 : decode cX8_snapshot 8 = .ok (.bipush 8, 2) := by decide +kernel
theorem dX8_snapshot_10 : decode cX8_snapshot 10 = .ok (.if_icmp .ge 33, 3) := by decide +kernel
theorem dX8_snapshot_13 : decode cX8_snapshot 13 = .ok (.aload_n 0, 1) := by decide +kernel
theorem dX8_snapshot_14 : decode cX8_snapshot 14 = .ok (.getfield 104, 3) := by decide +kernel
theorem dX8_snapshot_17 : decode cX8_snapshot 17 = .ok (.iload_n 1, 1) := by decide +kernel
theorem dX8_snapshot_18 : decode cX8_snapshot 18 = .ok (.aload_n 0, 1) := by decide +kernel
theorem dX8_snapshot_19 : decode cX8_snapshot 19 = .ok (.getfield 7, 3) := by decide +kernel
theorem dX8_snapshot_22 : decode cX8_snapshot 22 = .ok (.iload_n 1, 1) := by decide +kernel
theorem dX8_snapshot_23 : decode cX8_snapshot 23 = .ok (.iaload, 1) := by decide +kernel
theorem dX8_snapshot_24 : decode cX8_snapshot 24 = .ok (.iastore, 1) := by decide +kernel
theorem dX8_snapshot_25 : decode cX8_snapshot 25 = .ok (.aload_n 0, 1) := by decide +kernel
theorem dX8_snapshot_26 : decode cX8_snapshot 26 = .ok (.getfield 107, 3) := by decide +kernel
theorem dX8_snapshot_29 : decode cX8_snapshot 29 = .ok (.iload_n 1, 1) := by decide +kernel
theorem dX8_snapshot_30 : decode cX8_snapshot 30 = .ok (.aload_n 0, 1) := by decide +kernel
theorem dX8_snapshot_31 : decode cX8_snapshot 31 = .ok (.getfield 13, 3) := by decide +kernel
theorem dX8_snapshot_34 : decode cX8_snapshot 34 = .ok (.iload_n 1, 1) := by decide +kernel
theorem dX8_snapshot_35 : decode cX8_snapshot 35 = .ok (.iaload, 1) := by decide +kernel
theorem dX8_snapshot_36 : decode cX8_snapshot 36 = .ok (.iastore, 1) := by decide +kernel
theorem dX8_snapshot_37 : decode cX8_snapshot 37 = .ok (.iinc 1 1, 3) := by decide +kernel
theorem dX8_snapshot_40 : decode cX8_snapshot 40 = .ok (.goto (-33), 3) := by decide +kernel
theorem dX8_snapshot_43 : decode cX8_snapshot 43 = .ok (.iconst 0, 1) := by decide +kernel
theorem dX8_snapshot_44 : decode cX8_snapshot 44 = .ok (.istore_n 1, 1) := by decide +kernel
theorem dX8_snapshot_45 : decode cX8_snapshot 45 = .ok (.iload_n 1, 1) := by decide +kernel
theorem dX8_snapshot_46 : decode cX8_snapshot 46 = .ok (.iconst 5, 1) := by decide +kernel
theorem dX8_snapshot_47 : decode cX8_snapshot 47 = .ok (.if_icmp .ge 45, 3) := by decide +kernel
theorem dX8_snapshot_50 : decode cX8_snapshot 50 = .ok (.aload_n 0, 1) := by decide +kernel
theorem dX8_snapshot_51 : decode cX8_snapshot 51 = .ok (.getfield 110, 3) := by decide +kernel
theorem dX8_snapshot_54 : decode cX8_snapshot 54 = .ok (.iload_n 1, 1) := by decide +kernel
theorem dX8_snapshot_55 : decode cX8_snapshot 55 = .ok (.aload_n 0, 1) := by decide +kernel
theorem dX8_snapshot_56 : decode cX8_snapshot 56 = .ok (.getfield 85, 3) := by decide +kernel
theorem dX8_snapshot_59 : decode cX8_snapshot 59 = .ok (.iload_n 1, 1) := by decide +kernel
theorem dX8_snapshot_60 : decode cX8_snapshot 60 = .ok (.iaload, 1) := by decide +kernel
theorem dX8_snapshot_61 : decode cX8_snapshot 61 = .ok (.iastore, 1) := by decide +kernel
theorem dX8_snapshot_62 : decode cX8_snapshot 62 = .ok (.aload_n 0, 1) := by decide +kernel
theorem dX8_snapshot_63 : decode cX8_snapshot 63 = .ok (.getfield 113, 3) := by decide +kernel
theorem dX8_snapshot_66 : decode cX8_snapshot 66 = .ok (.iload_n 1, 1) := by decide +kernel
theorem dX8_snapshot_67 : decode cX8_snapshot 67 = .ok (.aload_n 0, 1) := by decide +kernel
theorem dX8_snapshot_68 : decode cX8_snapshot 68 = .ok (.getfield 88, 3) := by decide +kernel
theorem dX8_snapshot_71 : decode cX8_snapshot 71 = .ok (.iload_n 1, 1) := by decide +kernel
theorem dX8_snapshot_72 : decode cX8_snapshot 72 = .ok (.iaload, 1) := by decide +kernel
theorem dX8_snapshot_73 : decode cX8_snapshot 73 = .ok (.iastore, 1) := by decide +kernel
theorem dX8_snapshot_74 : decode cX8_snapshot 74 = .ok (.aload_n 0, 1) := by decide +kernel
theorem dX8_snapshot_75 : decode cX8_snapshot 75 = .ok (.getfield 116, 3) := by decide +kernel
theorem dX8_snapshot_78 : decode cX8_snapshot 78 = .ok (.iload_n 1, 1) := by decide +kernel
theorem dX8_snapshot_79 : decode cX8_snapshot 79 = .ok (.aload_n 0, 1) := by decide +kernel
theorem dX8_snapshot_80 : decode cX8_snapshot 80 = .ok (.getfield 91, 3) := by decide +kernel
theorem dX8_snapshot_83 : decode cX8_snapshot 83 = .ok (.iload_n 1, 1) := by decide +kernel
theorem dX8_snapshot_84 : decode cX8_snapshot 84 = .ok (.iaload, 1) := by decide +kernel
theorem dX8_snapshot_85 : decode cX8_snapshot 85 = .ok (.iastore, 1) := by decide +kernel
theorem dX8_snapshot_86 : decode cX8_snapshot 86 = .ok (.iinc 1 1, 3) := by decide +kernel
theorem dX8_snapshot_89 : decode cX8_snapshot 89 = .ok (.goto (-44), 3) := by decide +kernel
theorem dX8_snapshot_92 : decode cX8_snapshot 92 = .ok (.aload_n 0, 1) := by decide +kernel
theorem dX8_snapshot_93 : decode cX8_snapshot 93 = .ok (.invokevirtual 239, 3) := by decide +kernel
theorem dX8_snapshot_96 : decode cX8_snapshot 96 = .ok (.ireturn, 1) := by decide +kernel
set_option maxRecDepth 20000 in
theorem ggX8_restore_X8_nodes : GoodIn wsX8_restore wsX8_nodes := goodIn_r _ [16, 6, 17, 18, 19, 20, 21, 22, 23, 24, 25, 26, 27, 28, 29, 30, 31, 32, 33, 34, 35, 36, 37, 38, 39, 40, 41, 42, 43, 44, 45, 46, 47, 48, 49, 50, 51] (by decide +kernel) (by decide +kernel)
set_option maxRecDepth 20000 in
theorem gX8_restore_X8_nodes : GoodIn wsX8_restore (wsV RX8 239 RX8 yX8_nodes wsX8_nodes) := goodIn_app (goodIn_of _ (by decide +kernel)) ggX8_restore_X8_nodes
theorem dX8_restore_0 : decode cX8_restore 0 = .ok (.aload_n 0, 1) := by decide +kernel
theorem dX8_restore_1 : decode cX8_restore 1 = .ok (.getfield 100, 3) := by decide +kernel
theorem dX8_restore_4 : decode cX8_restore 4 = .ok (.ifCond .ne 6, 3) := by decide +kernel
theorem dX8_restore_7 : decode cX8_restore 7 = .ok (.bipush (-2), 2) := by decide +kernel
theorem dX8_restore_9 : decode cX8_restore 9 = .ok (.ireturn, 1) := by decide +kernel
theorem dX8_restore_10 : decode cX8_restore 10 = .ok (.iconst 0, 1) := by decide +kernel
theorem dX8_restore_11 : decode cX8_restore 11 = .ok (.istore_n 1, 1) := by decide +kernel
theorem dX8_restore_12 : decode cX8_restore 12 = .ok (.iload_n 1, 1) := by decide +kernel
theorem dX8_restore_13 : decode cX8_restore 13 = .ok (.bipush 8, 2) := by decide +kernel
theorem dX8_restore_15 : decode cX8_restore 15 = .ok (.if_icmp .ge 33, 3) := by decide +kernel
theorem dX8_restore_18 : decode cX8_restore 18 = .ok (.aload_n 0, 1) := by decide +kernel
theorem dX8_restore_19 : decode cX8_restore 19 = .ok (.getfield 7, 3) := by decide +kernel
theorem dX8_restore_22 : decode cX8_restore 22 = .ok (.iload_n 1, 1) := by decide +kernel
theorem dX8_restore_23 : decode cX8_restore 23 = .ok (.aload_n 0, 1) := by decide +kernel
theorem dX8_restore_24 : decode cX8_restore 24 = .ok (.getfield 104, 3) := by decide +kernel
theorem dX8_restore_27 : decode cX8_restore 27 = .ok (.iload_n 1, 1) := by decide +kernel
theorem dX8_restore_28 : decode cX8_restore 28 = .ok (.iaload, 1) := by decide +kernel
theorem dX8_restore_29 : decode cX8_restore 29 = .ok (.iastore, 1) := by decide +kernel
theorem dX8_restore_30 : decode cX8_restore 30 = .ok (.aload_n 0, 1) := by decide +kernel
theorem dX8_restore_31 : decode cX8_restore 31 = .ok (.getfield 13, 3) := by decide +kernel
theorem dX8_restore_34 : decode cX8_restore 34 = .ok (.iload_n 1, 1) := by decide +kernel
theorem dX8_restore_35 : decode cX8_restore 35 = .ok (.aload_n 0, 1) := by decide +kernel
theorem dX8_restore_36 : decode cX8_restore 36 = .ok (.getfield 107, 3) := by decide +kernel
theorem dX8_restore_39 : decode cX8_restore 39 = .ok (.iload_n 1, 1) := by decide +kernel
theorem dX8_restore_40 : decode cX8_restore 40 = .ok (.iaload, 1) := by decide +kernel
theorem dX8_restore_41 : decode cX8_restore 41 = .ok (.iastore, 1) := by decide +kernel
theorem dX8_restore_42 : decode cX8_restore 42 = .ok (.iinc 1 1, 3) := by decide +kernel
theorem dX8_restore_45 : decode cX8_restore 45 = .ok (.goto (-33), 3) := by decide +kernel
theorem dX8_restore_48 : decode cX8_restore 48 = .ok (.iconst 0, 1) := by decide +kernel
theorem dX8_restore_49 : decode cX8_restore 49 = .ok (.istore_n 1, 1) := by decide +kernel
theorem dX8_restore_50 : decode cX8_restore 50 = .ok (.iload_n 1, 1) := by decide +kernel
theorem dX8_restore_51 : decode cX8_restore 51 = .ok (.iconst 5, 1) := by decide +kernel
theorem dX8_restore_52 : decode cX8_restore 52 = .ok (.if_icmp .ge 45, 3) := by decide +kernel
theorem dX8_restore_55 : decode cX8_restore 55 = .ok (.aload_n 0, 1) := by decide +kernel
theorem dX8_restore_56 : decode cX8_restore 56 = .ok (.getfield 85, 3) := by decide +kernel
theorem dX8_restore_59 : decode cX8_restore 59 = .ok (.iload_n 1, 1) := by decide +kernel
theorem dX8_restore_60 : decode cX8_restore 60 = .ok (.aload_n 0, 1) := by decide +kernel
theorem dX8_restore_61 : decode cX8_restore 61 = .ok (.getfield 110, 3) := by decide +kernel
theorem dX8_restore_64 : decode cX8_restore 64 = .ok (.iload_n 1, 1) := by decide +kernel
theorem dX8_restore_65 : decode cX8_restore 65 = .ok (.iaload, 1) := by decide +kernel
theorem dX8_restore_66 : decode cX8_restore 66 = .ok (.iastore, 1) := by decide +kernel
theorem dX8_restore_67 : decode cX8_restore 67 = .ok (.aload_n 0, 1) := by decide +kernel
theorem dX8_restore_68 : decode cX8_restore 68 = .ok (.getfield 88, 3) := by decide +kernel
theorem dX8_restore_71 : decode cX8_restore 71 = .ok (.iload_n 1, 1) := by decide +kernel
theorem dX8_restore_72 : decode cX8_restore 72 = .ok (.aload_n 0, 1) := by decide +kernel
theorem dX8_restore_73 : decode cX8_restore 73 = .ok (.getfield 113, 3) := by decide +kernel
theorem dX8_restore_76 : decode cX8_restore 76 = .ok (.iload_n 1, 1) := by decide +kernel
theorem dX8_restore_77 : decode cX8_restore 77 = .ok (.iaload, 1) := by decide +kernel
theorem dX8_restore_78 : decode cX8_restore 78 = .ok (.iastore, 1) := by decide +kernel
theorem dX8_restore_79 : decode cX8_restore 79 = .ok (.aload_n 0, 1) := by decide +kernel
theorem dX8_restore_80 : decode cX8_restore 80 = .ok (.getfield 91, 3) := by decide +kernel
theorem dX8_restore_83 : decode cX8_restore 83 = .ok (.iload_n 1, 1) := by decide +kernel
theorem dX8_restore_84 : decode cX8_restore 84 = .ok (.aload_n 0, 1) := by decide +kernel
theorem dX8_restore_85 : decode cX8_restore 85 = .ok (.getfield 116, 3) := by decide +kernel
theorem dX8_restore_88 : decode cX8_restore 88 = .ok (.iload_n 1, 1) := by decide +kernel
theorem dX8_restore_89 : decode cX8_restore 89 = .ok (.iaload, 1) := by decide +kernel
theorem dX8_restore_90 : decode cX8_restore 90 = .ok (.iastore, 1) := by decide +kernel
theorem dX8_restore_91 : decode cX8_restore 91 = .ok (.iinc 1 1, 3) := by decide +kernel
theorem dX8_restore_94 : decode cX8_restore 94 = .ok (.goto (-44), 3) := by decide +kernel
theorem dX8_restore_97 : decode cX8_restore 97 = .ok (.aload_n 0, 1) := by decide +kernel
theorem dX8_restore_98 : decode cX8_restore 98 = .ok (.invokevirtual 239, 3) := by decide +kernel
theorem dX8_restore_101 : decode cX8_restore 101 = .ok (.ireturn, 1) := by decide +kernel
set_option maxRecDepth 20000 in
theorem ggX8_count_X8_nodes : GoodIn wsX8_count wsX8_nodes := goodIn_r _ [8, 9, 10, 11, 12, 13, 14, 15, 16, 17, 18, 19, 20, 21, 22, 23, 24, 25, 26, 27, 28, 29, 30, 31, 32, 33, 34, 35, 36, 37, 38, 39, 40, 41, 42, 43, 44] (by decide +kernel) (by decide +kernel)
set_option maxRecDepth 20000 in
theorem gX8_count_X8_nodes : GoodIn wsX8_count (wsV RX8 239 RX8 yX8_nodes wsX8_nodes) := goodIn_app (goodIn_of _ (by decide +kernel)) ggX8_count_X8_nodes
theorem dX8_count_0 : decode cX8_count 0 = .ok (.iload_n 1, 1) := by decide +kernel
theorem dX8_count_1 : decode cX8_count 1 = .ok (.tableswitch 91 0 3 #[31, 36, 41, 46], 31) := by decide +kernel
theorem dX8_count_32 : decode cX8_count 32 = .ok (.aload_n 0, 1) := by decide +kernel
theorem dX8_count_33 : decode cX8_count 33 = .ok (.getfield 54, 3) := by decide +kernel
theorem dX8_count_36 : decode cX8_count 36 = .ok (.ireturn, 1) := by decide +kernel
theorem dX8_count_37 : decode cX8_count 37 = .ok (.aload_n 0, 1) := by decide +kernel
theorem dX8_count_38 : decode cX8_count 38 = .ok (.getfield 67, 3) := by decide +kernel
theorem dX8_count_41 : decode cX8_count 41 = .ok (.ireturn, 1) := by decide +kernel
theorem dX8_count_42 : decode cX8_count 42 = .ok (.aload_n 0, 1) := by decide +kernel
theorem dX8_count_43 : decode cX8_count 43 = .ok (.invokevirtual 239, 3) := by decide +kernel
theorem dX8_count_46 : decode cX8_count 46 = .ok (.ireturn, 1) := by decide +kernel
theorem dX8_count_47 : decode cX8_count 47 = .ok (.aload_n 0, 1) := by decide +kernel
theorem dX8_count_48 : decode cX8_count 48 = .ok (.getfield 94, 3) := by decide +kernel
theorem dX8_count_51 : decode cX8_count 51 = .ok (.iconst 0, 1) := by decide +kernel
theorem dX8_count_52 : decode cX8_count 52 = .ok (.iaload, 1) := by decide +kernel
theorem dX8_count_53 : decode cX8_count 53 = .ok (.ifCond .lt 7, 3) := by decide +kernel
theorem dX8_count_56 : decode cX8_count 56 = .ok (.iconst 1, 1) := by decide +kernel
theorem dX8_count_57 : decode cX8_count 57 = .ok (.goto 4, 3) := by decide +kernel
theorem dX8_count_60 : decode cX8_count 60 = .ok (.iconst 0, 1) := by decide +kernel
theorem dX8_count_61 : decode cX8_count 61 = .ok (.aload_n 0, 1) := by decide +kernel
theorem dX8_count_62 : decode cX8_count 62 = .ok (.getfield 94, 3) := by decide +kernel
theorem dX8_count_65 : decode cX8_count 65 = .ok (.iconst 1, 1) := by decide +kernel
theorem dX8_count_66 : decode cX8_count 66 = .ok (.iaload, 1) := by decide +kernel
theorem dX8_count_67 : decode cX8_count 67 = .ok (.ifCond .lt 7, 3) := by decide +kernel
theorem dX8_count_70 : decode cX8_count 70 = .ok (.iconst 1, 1) := by decide +kernel
theorem dX8_count_71 : decode cX8_count 71 = .ok (.goto 4, 3) := by decide +kernel
theorem dX8_count_74 : decode cX8_count 74 = .ok (.iconst 0, 1) := by decide +kernel
theorem dX8_count_75 : decode cX8_count 75 = .ok (.iadd, 1) := by decide +kernel
theorem dX8_count_76 : decode cX8_count 76 = .ok (.aload_n 0, 1) := by decide +kernel
theorem dX8_count_77 : decode cX8_count 77 = .ok (.getfield 94, 3) := by decide +kernel
theorem dX8_count_80 : decode cX8_count 80 = .ok (.iconst 2, 1) := by decide +kernel
theorem dX8_count_81 : decode cX8_count 81 = .ok (.iaload, 1) := by decide +kernel
theorem dX8_count_82 : decode cX8_count 82 = .ok (.ifCond .lt 7, 3) := by decide +kernel
theorem dX8_count_85 : decode cX8_count 85 = .ok (.iconst 1, 1) := by decide +kernel
theorem dX8_count_86 : decode cX8_count 86 = .ok (.goto 4, 3) := by decide +kernel
theorem dX8_count_89 : decode cX8_count 89 = .ok (.iconst 0, 1) := by decide +kernel
theorem dX8_count_90 : decode cX8_count 90 = .ok (.iadd, 1) := by decide +kernel
theorem dX8_count_91 : decode cX8_count 91 = .ok (.ireturn, 1) := by decide +kernel
theorem dX8_count_92 : decode cX8_count 92 = .ok (.iconst (-1), 1) := by decide +kernel
theorem dX8_count_93 : decode cX8_count 93 = .ok (.ireturn, 1) := by decide +kernel
