theorem dX8_init_0 : decode cX8_init 0 = .ok (.aload_n 0, 1) := by decide +kernel
theorem dX8_init_1 : decode cX8_init 1 = .ok (.invokespecial 1, 3) := by decide +kernel
theorem dX8_init_4 : decode cX8_init 4 = .ok (.aload_n 0, 1) := by decide +kernel
theorem dX8_init_5 : decode cX8_init 5 = .ok (.bipush 8, 2) := by decide +kernel
theorem dX8_init_7 : decode cX8_init 7 = .ok (.newarray .int, 2) := by decide +kernel
theorem dX8_init_9 : decode cX8_init 9 = .ok (.dup, 1) := by decide +kernel
theorem dX8_init_10 : decode cX8_init 10 = .ok (.iconst 0, 1) := by decide +kernel
theorem dX8_init_11 : decode cX8_init 11 = .ok (.iconst 1, 1) := by decide +kernel
theorem dX8_init_12 : decode cX8_init 12 = .ok (.iastore, 1) := by decide +kernel
theorem dX8_init_13 : decode cX8_init 13 = .ok (.dup, 1) := by decide +kernel
theorem dX8_init_14 : decode cX8_init 14 = .ok (.iconst 1, 1) := by decide +kernel
theorem dX8_init_15 : decode cX8_init 15 = .ok (.iconst 1, 1) := by decide +kernel
theorem dX8_init_16 : decode cX8_init 16 = .ok (.iastore, 1) := by decide +kernel
theorem dX8_init_17 : decode cX8_init 17 = .ok (.dup, 1) := by decide +kernel
theorem dX8_init_18 : decode cX8_init 18 = .ok (.iconst 2, 1) := by decide +kernel
theorem dX8_init_19 : decode cX8_init 19 = .ok (.iconst 1, 1) := by decide +kernel
theorem dX8_init_20 : decode cX8_init 20 = .ok (.iastore, 1) := by decide +kernel
theorem dX8_init_21 : decode cX8_init 21 = .ok (.dup, 1) := by decide +kernel
theorem dX8_init_22 : decode cX8_init 22 = .ok (.iconst 3, 1) := by decide +kernel
theorem dX8_init_23 : decode cX8_init 23 = .ok (.iconst 1, 1) := by decide +kernel
theorem dX8_init_24 : decode cX8_init 24 = .ok (.iastore, 1) := by decide +kernel
theorem dX8_init_25 : decode cX8_init 25 = .ok (.dup, 1) := by decide +kernel
theorem dX8_init_26 : decode cX8_init 26 = .ok (.iconst 4, 1) := by decide +kernel
theorem dX8_init_27 : decode cX8_init 27 = .ok (.iconst 1, 1) := by decide +kernel
theorem dX8_init_28 : decode cX8_init 28 = .ok (.iastore, 1) := by decide +kernel
theorem dX8_init_29 : decode cX8_init 29 = .ok (.dup, 1) := by decide +kernel
theorem dX8_init_30 : decode cX8_init 30 = .ok (.iconst 5, 1) := by decide +kernel
theorem dX8_init_31 : decode cX8_init 31 = .ok (.iconst 1, 1) := by decide +kernel
theorem dX8_init_32 : decode cX8_init 32 = .ok (.iastore, 1) := by decide +kernel
theorem dX8_init_33 : decode cX8_init 33 = .ok (.dup, 1) := by decide +kernel
theorem dX8_init_34 : decode cX8_init 34 = .ok (.bipush 6, 2) := by decide +kernel
theorem dX8_init_36 : decode cX8_init 36 = .ok (.iconst 1, 1) := by decide +kernel
theorem dX8_init_37 : decode cX8_init 37 = .ok (.iastore, 1) := by decide +kernel
theorem dX8_init_38 : decode cX8_init 38 = .ok (.dup, 1) := by decide +kernel
theorem dX8_init_39 : decode cX8_init 39 = .ok (.bipush 7, 2) := by decide +kernel
theorem dX8_init_41 : decode cX8_init 41 = .ok (.iconst 1, 1) := by decide +kernel
theorem dX8_init_42 : decode cX8_init 42 = .ok (.iastore, 1) := by decide +kernel
theorem dX8_init_43 : decode cX8_init 43 = .ok (.putfield 7, 3) := by decide +kernel
theorem dX8_init_46 : decode cX8_init 46 = .ok (.aload_n 0, 1) := by decide +kernel
theorem dX8_init_47 : decode cX8_init 47 = .ok (.bipush 8, 2) := by decide +kernel
theorem dX8_init_49 : decode cX8_init 49 = .ok (.newarray .int, 2) := by decide +kernel
theorem dX8_init_51 : decode cX8_init 51 = .ok (.dup, 1) := by decide +kernel
theorem dX8_init_52 : decode cX8_init 52 = .ok (.iconst 0, 1) := by decide +kernel
theorem dX8_init_53 : decode cX8_init 53 = .ok (.iconst 1, 1) := by decide +kernel
theorem dX8_init_54 : decode cX8_init 54 = .ok (.iastore, 1) := by decide +kernel
theorem dX8_init_55 : decode cX8_init 55 = .ok (.dup, 1) := by decide +kernel
theorem dX8_init_56 : decode cX8_init 56 = .ok (.iconst 1, 1) := by decide +kernel
theorem dX8_init_57 : decode cX8_init 57 = .ok (.iconst 1, 1) := by decide +kernel
theorem dX8_init_58 : decode cX8_init 58 = .ok (.iastore, 1) := by decide +kernel
theorem dX8_init_59 : decode cX8_init 59 = .ok (.dup, 1) := by decide +kernel
theorem dX8_init_60 : decode cX8_init 60 = .ok (.iconst 2, 1) := by decide +kernel
theorem dX8_init_61 : decode cX8_init 61 = .ok (.iconst 1, 1) := by decide +kernel
theorem dX8_init_62 : decode cX8_init 62 = .ok (.iastore, 1) := by decide +kernel
theorem dX8_init_63 : decode cX8_init 63 = .ok (.dup, 1) := by decide +kernel
theorem dX8_init_64 : decode cX8_init 64 = .ok (.iconst 3, 1) := by decide +kernel
theorem dX8_init_65 : decode cX8_init 65 = .ok (.iconst 1, 1) := by decide +kernel
theorem dX8_init_66 : decode cX8_init 66 = .ok (.iastore, 1) := by decide +kernel
theorem dX8_init_67 : decode cX8_init 67 = .ok (.dup, 1) := by decide +kernel
theorem dX8_init_68 : decode cX8_init 68 = .ok (.iconst 4, 1) := by decide +kernel
theorem dX8_init_69 : decode cX8_init 69 = .ok (.iconst 1, 1) := by decide +kernel
theorem dX8_init_70 : decode cX8_init 70 = .ok (.iastore, 1) := by decide +kernel
theorem dX8_init_71 : decode cX8_init 71 = .ok (.dup, 1) := by decide +kernel
theorem dX8_init_72 : decode cX8_init 72 = .ok (.iconst 5, 1) := by decide +kernel
theorem dX8_init_73 : decode cX8_init 73 = .ok (.iconst 1, 1) := by decide +kernel
theorem dX8_init_74 : decode cX8_init 74 = .ok (.iastore, 1) := by decide +kernel
theorem dX8_init_75 : decode cX8_init 75 = .ok (.dup, 1) := by decide +kernel
theorem dX8_init_76 : decode cX8_init 76 = .ok (.bipush 6, 2) := by decide +kernel
theorem dX8_init_78 : decode cX8_init 78 = .ok (.iconst 1, 1) := by decide +kernel
theorem dX8_init_79 : decode cX8_init 79 = .ok (.iastore, 1) := by decide +kernel
theorem dX8_init_80 : decode cX8_init 80 = .ok (.dup, 1) := by decide +kernel
theorem dX8_init_81 : decode cX8_init 81 = .ok (.bipush 7, 2) := by decide +kernel
theorem dX8_init_83 : decode cX8_init 83 = .ok (.iconst 1, 1) := by decide +kernel
theorem dX8_init_84 : decode cX8_init 84 = .ok (.iastore, 1) := by decide +kernel
theorem dX8_init_85 : decode cX8_init 85 = .ok (.putfield 13, 3) := by decide +kernel
theorem dX8_init_88 : decode cX8_init 88 = .ok (.aload_n 0, 1) := by decide +kernel
theorem dX8_init_89 : decode cX8_init 89 = .ok (.bipush 64, 2) := by decide +kernel
theorem dX8_init_91 : decode cX8_init 91 = .ok (.newarray .int, 2) := by decide +kernel
theorem dX8_init_93 : decode cX8_init 93 = .ok (.putfield 16, 3) := by decide +kernel
theorem dX8_init_96 : decode cX8_init 96 = .ok (.aload_n 0, 1) := by decide +kernel
theorem dX8_init_97 : decode cX8_init 97 = .ok (.bipush 64, 2) := by decide +kernel
theorem dX8_init_99 : decode cX8_init 99 = .ok (.newarray .int, 2) := by decide +kernel
theorem dX8_init_101 : decode cX8_init 101 = .ok (.putfield 19, 3) := by decide +kernel
theorem dX8_init_104 : decode cX8_init 104 = .ok (.aload_n 0, 1) := by decide +kernel
theorem dX8_init_105 : decode cX8_init 105 = .ok (.bipush 64, 2) := by decide +kernel
theorem dX8_init_107 : decode cX8_init 107 = .ok (.newarray .int, 2) := by decide +kernel
theorem dX8_init_109 : decode cX8_init 109 = .ok (.putfield 22, 3) := by decide +kernel
theorem dX8_init_112 : decode cX8_init 112 = .ok (.aload_n 0, 1) := by decide +kernel
theorem dX8_init_113 : decode cX8_init 113 = .ok (.iconst 0, 1) := by decide +kernel
theorem dX8_init_114 : decode cX8_init 114 = .ok (.putfield 25, 3) := by decide +kernel
theorem dX8_init_117 : decode cX8_init 117 = .ok (.aload_n 0, 1) := by decide +kernel
theorem dX8_init_118 : decode cX8_init 118 = .ok (.iconst 0, 1) := by decide +kernel
theorem dX8_init_119 : decode cX8_init 119 = .ok (.putfield 29, 3) := by decide +kernel
theorem dX8_init_122 : decode cX8_init 122 = .ok (.aload_n 0, 1) := by decide +kernel
theorem dX8_init_123 : decode cX8_init 123 = .ok (.lconst 0, 1) := by decide +kernel
theorem dX8_init_124 : decode cX8_init 124 = .ok (.putfield 32, 3) := by decide +kernel
theorem dX8_init_127 : decode cX8_init 127 = .ok (.aload_n 0, 1) := by decide +kernel
theorem dX8_init_128 : decode cX8_init 128 = .ok (.lconst 1, 1) := by decide +kernel
theorem dX8_init_129 : decode cX8_init 129 = .ok (.putfield 36, 3) := by decide +kernel
theorem dX8_init_132 : decode cX8_init 132 = .ok (.aload_n 0, 1) := by decide +kernel
theorem dX8_init_133 : decode cX8_init 133 = .ok (.lconst 1, 1) := by decide +kernel
theorem dX8_init_134 : decode cX8_init 134 = .ok (.putfield 39, 3) := by decide +kernel
theorem dX8_init_137 : decode cX8_init 137 = .ok (.aload_n 0, 1) := by decide +kernel
theorem dX8_init_138 : decode cX8_init 138 = .ok (.lconst 0, 1) := by decide +kernel
theorem dX8_init_139 : decode cX8_init 139 = .ok (.putfield 42, 3) := by decide +kernel
theorem dX8_init_142 : decode cX8_init 142 = .ok (.aload_n 0, 1) := by decide +kernel
theorem dX8_init_143 : decode cX8_init 143 = .ok (.bipush 64, 2) := by decide +kernel
theorem dX8_init_145 : decode cX8_init 145 = .ok (.newarray .int, 2) := by decide +kernel
theorem dX8_init_147 : decode cX8_init 147 = .ok (.putfield 45, 3) := by decide +kernel
theorem dX8_init_150 : decode cX8_init 150 = .ok (.aload_n 0, 1) := by decide +kernel
theorem dX8_init_151 : decode cX8_init 151 = .ok (.bipush 64, 2) := by decide +kernel
theorem dX8_init_153 : decode cX8_init 153 = .ok (.newarray .int, 2) := by decide +kernel
theorem dX8_init_155 : decode cX8_init 155 = .ok (.putfield 48, 3) := by decide +kernel
theorem dX8_init_158 : decode cX8_init 158 = .ok (.aload_n 0, 1) := by decide +kernel
theorem dX8_init_159 : decode cX8_init 159 = .ok (.bipush 20, 2) := by decide +kernel
theorem dX8_init_161 : decode cX8_init 161 = .ok (.newarray .int, 2) := by decide +kernel
theorem dX8_init_163 : decode cX8_init 163 = .ok (.putfield 51, 3) := by decide +kernel
theorem dX8_init_166 : decode cX8_init 166 = .ok (.aload_n 0, 1) := by decide +kernel
theorem dX8_init_167 : decode cX8_init 167 = .ok (.iconst 0, 1) := by decide +kernel
theorem dX8_init_168 : decode cX8_init 168 = .ok (.putfield 54, 3) := by decide +kernel
theorem dX8_init_171 : decode cX8_init 171 = .ok (.aload_n 0, 1) := by decide +kernel
theorem dX8_init_172 : decode cX8_init 172 = .ok (.sipush 800, 3) := by decide +kernel
theorem dX8_init_175 : decode cX8_init 175 = .ok (.newarray .int, 2) := by decide +kernel
theorem dX8_init_177 : decode cX8_init 177 = .ok (.putfield 57, 3) := by decide +kernel
theorem dX8_init_180 : decode cX8_init 180 = .ok (.aload_n 0, 1) := by decide +kernel
theorem dX8_init_181 : decode cX8_init 181 = .ok (.sipush 800, 3) := by decide +kernel
theorem dX8_init_184 : decode cX8_init 184 = .ok (.newarray .long, 2) := by decide +kernel
theorem dX8_init_186 : decode cX8_init 186 = .ok (.putfield 60, 3) := by decide +kernel
theorem dX8_init_189 : decode cX8_init 189 = .ok (.aload_n 0, 1) := by decide +kernel
theorem dX8_init_190 : decode cX8_init 190 = .ok (.bipush 60, 2) := by decide +kernel
theorem dX8_init_192 : decode cX8_init 192 = .ok (.newarray .int, 2) := by decide +kernel
theorem dX8_init_194 : decode cX8_init 194 = .ok (.putfield 64, 3) := by decide +kernel
theorem dX8_init_197 : decode cX8_init 197 = .ok (.aload_n 0, 1) := by decide +kernel
theorem dX8_init_198 : decode cX8_init 198 = .ok (.iconst 0, 1) := by decide +kernel
theorem dX8_init_199 : decode cX8_init 199 = .ok (.putfield 67, 3) := by decide +kernel
theorem dX8_init_202 : decode cX8_init 202 = .ok (.aload_n 0, 1) := by decide +kernel
theorem dX8_init_203 : decode cX8_init 203 = .ok (.bipush 60, 2) := by decide +kernel
theorem dX8_init_205 : decode cX8_init 205 = .ok (.newarray .int, 2) := by decide +kernel
theorem dX8_init_207 : decode cX8_init 207 = .ok (.putfield 70, 3) := by decide +kernel
theorem dX8_init_210 : decode cX8_init 210 = .ok (.aload_n 0, 1) := by decide +kernel
theorem dX8_init_211 : decode cX8_init 211 = .ok (.bipush 60, 2) := by decide +kernel
theorem dX8_init_213 : decode cX8_init 213 = .ok (.newarray .int, 2) := by decide +kernel
theorem dX8_init_215 : decode cX8_init 215 = .ok (.putfield 73, 3) := by decide +kernel
theorem dX8_init_218 : decode cX8_init 218 = .ok (.aload_n 0, 1) := by decide +kernel
theorem dX8_init_219 : decode cX8_init 219 = .ok (.iconst 0, 1) := by decide +kernel
theorem dX8_init_220 : decode cX8_init 220 = .ok (.putfield 76, 3) := by decide +kernel
theorem dX8_init_223 : decode cX8_init 223 = .ok (.aload_n 0, 1) := by decide +kernel
theorem dX8_init_224 : decode cX8_init 224 = .ok (.sipush 500, 3) := by decide +kernel
theorem dX8_init_227 : decode cX8_init 227 = .ok (.newarray .int, 2) := by decide +kernel
theorem dX8_init_229 : decode cX8_init 229 = .ok (.putfield 79, 3) := by decide +kernel
theorem dX8_init_232 : decode cX8_init 232 = .ok (.aload_n 0, 1) := by decide +kernel
theorem dX8_init_233 : decode cX8_init 233 = .ok (.iconst 0, 1) := by decide +kernel
theorem dX8_init_234 : decode cX8_init 234 = .ok (.putfield 82, 3) := by decide +kernel
theorem dX8_init_237 : decode cX8_init 237 = .ok (.aload_n 0, 1) := by decide +kernel
theorem dX8_init_238 : decode cX8_init 238 = .ok (.iconst 5, 1) := by decide +kernel
theorem dX8_init_239 : decode cX8_init 239 = .ok (.newarray .int, 2) := by decide +kernel
theorem dX8_init_241 : decode cX8_init 241 = .ok (.dup, 1) := by decide +kernel
theorem dX8_init_242 : decode cX8_init 242 = .ok (.iconst 0, 1) := by decide +kernel
theorem dX8_init_243 : decode cX8_init 243 = .ok (.iconst (-1), 1) := by decide +kernel
theorem dX8_init_244 : decode cX8_init 244 = .ok (.iastore, 1) := by decide +kernel
theorem dX8_init_245 : decode cX8_init 245 = .ok (.dup, 1) := by decide +kernel
theorem dX8_init_246 : decode cX8_init 246 = .ok (.iconst 1, 1) := by decide +kernel
theorem dX8_init_247 : decode cX8_init 247 = .ok (.iconst (-1), 1) := by decide +kernel
theorem dX8_init_248 : decode cX8_init 248 = .ok (.iastore, 1) := by decide +kernel
theorem dX8_init_249 : decode cX8_init 249 = .ok (.dup, 1) := by decide +kernel
theorem dX8_init_250 : decode cX8_init 250 = .ok (.iconst 2, 1) := by decide +kernel
theorem dX8_init_251 : decode cX8_init 251 = .ok (.iconst (-1), 1) := by decide +kernel
theorem dX8_init_252 : decode cX8_init 252 = .ok (.iastore, 1) := by decide +kernel
theorem dX8_init_253 : decode cX8_init 253 = .ok (.dup, 1) := by decide +kernel
theorem dX8_init_254 : decode cX8_init 254 = .ok (.iconst 3, 1) := by decide +kernel
theorem dX8_init_255 : decode cX8_init 255 = .ok (.iconst (-1), 1) := by decide +kernel
theorem dX8_init_256 : decode cX8_init 256 = .ok (.iastore, 1) := by decide +kernel
theorem dX8_init_257 : decode cX8_init 257 = .ok (.dup, 1) := by decide +kernel
theorem dX8_init_258 : decode cX8_init 258 = .ok (.iconst 4, 1) := by decide +kernel
theorem dX8_init_259 : decode cX8_init 259 = .ok (.iconst (-1), 1) := by decide +kernel
theorem dX8_init_260 : decode cX8_init 260 = .ok (.iastore, 1) := by decide +kernel
theorem dX8_init_261 : decode cX8_init 261 = .ok (.putfield 85, 3) := by decide +kernel
theorem dX8_init_264 : decode cX8_init 264 = .ok (.aload_n 0, 1) := by decide +kernel
theorem dX8_init_265 : decode cX8_init 265 = .ok (.iconst 5, 1) := by decide +kernel
theorem dX8_init_266 : decode cX8_init 266 = .ok (.newarray .int, 2) := by decide +kernel
theorem dX8_init_268 : decode cX8_init 268 = .ok (.putfield 88, 3) := by decide +kernel
theorem dX8_init_271 : decode cX8_init 271 = .ok (.aload_n 0, 1) := by decide +kernel
theorem dX8_init_272 : decode cX8_init 272 = .ok (.iconst 5, 1) := by decide +kernel
theorem dX8_init_273 : decode cX8_init 273 = .ok (.newarray .int, 2) := by decide +kernel
theorem dX8_init_275 : decode cX8_init 275 = .ok (.putfield 91, 3) := by decide +kernel
theorem dX8_init_278 : decode cX8_init 278 = .ok (.aload_n 0, 1) := by decide +kernel
theorem dX8_init_279 : decode cX8_init 279 = .ok (.iconst 3, 1) := by decide +kernel
theorem dX8_init_280 : decode cX8_init 280 = .ok (.newarray .int, 2) := by decide +kernel
theorem dX8_init_282 : decode cX8_init 282 = .ok (.dup, 1) := by decide +kernel
theorem dX8_init_283 : decode cX8_init 283 = .ok (.iconst 0, 1) := by decide +kernel
theorem dX8_init_284 : decode cX8_init 284 = .ok (.iconst (-1), 1) := by decide +kernel
theorem dX8_init_285 : decode cX8_init 285 = .ok (.iastore, 1) := by decide +kernel
theorem dX8_init_286 : decode cX8_init 286 = .ok (.dup, 1) := by decide +kernel
theorem dX8_init_287 : decode cX8_init 287 = .ok (.iconst 1, 1) := by decide +kernel
theorem dX8_init_288 : decode cX8_init 288 = .ok (.iconst (-1), 1) := by decide +kernel
theorem dX8_init_289 : decode cX8_init 289 = .ok (.iastore, 1) := by decide +kernel
theorem dX8_init_290 : decode cX8_init 290 = .ok (.dup, 1) := by decide +kernel
theorem dX8_init_291 : decode cX8_init 291 = .ok (.iconst 2, 1) := by decide +kernel
theorem dX8_init_292 : decode cX8_init 292 = .ok (.iconst (-1), 1) := by decide +kernel
theorem dX8_init_293 : decode cX8_init 293 = .ok (.iastore, 1) := by decide +kernel
theorem dX8_init_294 : decode cX8_init 294 = .ok (.putfield 94, 3) := by decide +kernel
theorem dX8_init_297 : decode cX8_init 297 = .ok (.aload_n 0, 1) := by decide +kernel
theorem dX8_init_298 : decode cX8_init 298 = .ok (.sipush 180, 3) := by decide +kernel
theorem dX8_init_301 : decode cX8_init 301 = .ok (.newarray .int, 2) := by decide +kernel
theorem dX8_init_303 : decode cX8_init 303 = .ok (.putfield 97, 3) := by decide +kernel
theorem dX8_init_306 : decode cX8_init 306 = .ok (.aload_n 0, 1) := by decide +kernel
theorem dX8_init_307 : decode cX8_init 307 = .ok (.iconst 0, 1) := by decide +kernel
theorem dX8_init_308 : decode cX8_init 308 = .ok (.putfield 100, 3) := by decide +kernel
theorem dX8_init_311 : decode cX8_init 311 = .ok (.aload_n 0, 1) := by decide +kernel
theorem dX8_init_312 : decode cX8_init 312 = .ok (.bipush 8, 2) := by decide +kernel
theorem dX8_init_314 : decode cX8_init 314 = .ok (.newarray .int, 2) := by decide +kernel
theorem dX8_init_316 : decode cX8_init 316 = .ok (.putfield 104, 3) := by decide +kernel
theorem dX8_init_319 : decode cX8_init 319 = .ok (.aload_n 0, 1) := by decide +kernel
theorem dX8_init_320 : decode cX8_init 320 = .ok (.bipush 8, 2) := by decide +kernel
theorem dX8_init_322 : decode cX8_init 322 = .ok (.newarray .int, 2) := by decide +kernel
theorem dX8_init_324 : decode cX8_init 324 = .ok (.putfield 107, 3) := by decide +kernel
theorem dX8_init_327 : decode cX8_init 327 = .ok (.aload_n 0, 1) := by decide +kernel
theorem dX8_init_328 : decode cX8_init 328 = .ok (.iconst 5, 1) := by decide +kernel
theorem dX8_init_329 : decode cX8_init 329 = .ok (.newarray .int, 2) := by decide +kernel
theorem dX8_init_331 : decode cX8_init 331 = .ok (.putfield 110, 3) := by decide +kernel
theorem dX8_init_334 : decode cX8_init 334 = .ok (.aload_n 0, 1) := by decide +kernel
theorem dX8_init_335 : decode cX8_init 335 = .ok (.iconst 5, 1) := by decide +kernel
theorem dX8_init_336 : decode cX8_init 336 = .ok (.newarray .int, 2) := by decide +kernel
theorem dX8_init_338 : decode cX8_init 338 = .ok (.putfield 113, 3) := by decide +kernel
theorem dX8_init_341 : decode cX8_init 341 = .ok (.aload_n 0, 1) := by decide +kernel
theorem dX8_init_342 : decode cX8_init 342 = .ok (.iconst 5, 1) := by decide +kernel
theorem dX8_init_343 : decode cX8_init 343 = .ok (.newarray .int, 2) := by decide +kernel
theorem dX8_init_345 : decode cX8_init 345 = .ok (.putfield 116, 3) := by decide +kernel
theorem dX8_init_348 : decode cX8_init 348 = .ok (.return_, 1) := by decide +kernel
theorem dX8_within_0 : decode cX8_within 0 = .ok (.lload_n 0, 1) := by decide +kernel
theorem dX8_within_1 : decode cX8_within 1 = .ok (.lload_n 2, 1) := by decide +kernel
theorem dX8_within_2 : decode cX8_within 2 = .ok (.lcmp, 1) := by decide +kernel
theorem dX8_within_3 : decode cX8_within 3 = .ok (.ifCond .lt 14, 3) := by decide +kernel
theorem dX8_within_6 : decode cX8_within 6 = .ok (.lload_n 0, 1) := by decide +kernel
theorem dX8_within_7 : decode cX8_within 7 = .ok (.lload 4, 2) := by decide +kernel
theorem dX8_within_9 : decode cX8_within 9 = .ok (.lcmp, 1) := by decide +kernel
theorem dX8_within_10 : decode cX8_within 10 = .ok (.ifCond .gt 7, 3) := by decide +kernel
theorem dX8_within_13 : decode cX8_within 13 = .ok (.iconst 1, 1) := by decide +kernel
theorem dX8_within_14 : decode cX8_within 14 = .ok (.goto 4, 3) := by decide +kernel
theorem dX8_within_17 : decode cX8_within 17 = .ok (.iconst 0, 1) := by decide +kernel
theorem dX8_within_18 : decode cX8_within 18 = .ok (.ireturn, 1) := by decide +kernel
set_option maxRecDepth 20000 in
theorem ggX8_isRegister_X8_within : GoodIn wsX8_isRegister wsX8_within := goodIn_r _ [5] (by decide +kernel) (by decide +kernel)
set_option maxRecDepth 20000 in
theorem gX8_isRegister_X8_within : GoodIn wsX8_isRegister (va_wsS RX8 121 yX8_within wsX8_within) := goodIn_app (goodIn_of _ (by decide +kernel)) ggX8_isRegister_X8_within
theorem dX8_isRegister_0 : decode cX8_isRegister 0 = .ok (.iload_n 1, 1) := by decide +kernel
theorem dX8_isRegister_1 : decode cX8_isRegister 1 = .ok (.i2l, 1) := by decide +kernel
theorem dX8_isRegister_2 : decode cX8_isRegister 2 = .ok (.lconst 0, 1) := by decide +kernel
theorem dX8_isRegister_3 : decode cX8_isRegister 3 = .ok (.ldc2_w 119, 3) := by decide +kernel
theorem dX8_isRegister_6 : decode cX8_isRegister 6 = .ok (.invokestatic 121, 3) := by decide +kernel
theorem dX8_isRegister_9 : decode cX8_isRegister 9 = .ok (.ireturn, 1) := by decide +kernel
theorem dX8_divisor_0 : decode cX8_divisor 0 = .ok (.lload_n 1, 1) := by decide +kernel
theorem dX8_divisor_1 : decode cX8_divisor 1 = .ok (.lstore 5, 2) := by decide +kernel
theorem dX8_divisor_3 : decode cX8_divisor 3 = .ok (.lload_n 3, 1) := by decide +kernel
theorem dX8_divisor_4 : decode cX8_divisor 4 = .ok (.lstore 7, 2) := by decide +kernel
theorem dX8_divisor_6 : decode cX8_divisor 6 = .ok (.lload 7, 2) := by decide +kernel
theorem dX8_divisor_8 : decode cX8_divisor 8 = .ok (.lconst 0, 1) := by decide +kernel
theorem dX8_divisor_9 : decode cX8_divisor 9 = .ok (.lcmp, 1) := by decide +kernel
theorem dX8_divisor_10 : decode cX8_divisor 10 = .ok (.ifCond .eq 21, 3) := by decide +kernel
theorem dX8_divisor_13 : decode cX8_divisor 13 = .ok (.lload 5, 2) := by decide +kernel
theorem dX8_divisor_15 : decode cX8_divisor 15 = .ok (.lload 7, 2) := by decide +kernel
theorem dX8_divisor_17 : decode cX8_divisor 17 = .ok (.lrem, 1) := by decide +kernel
theorem dX8_divisor_18 : decode cX8_divisor 18 = .ok (.lstore 9, 2) := by decide +kernel
theorem dX8_divisor_20 : decode cX8_divisor 20 = .ok (.lload 7, 2) := by decide +kernel
theorem dX8_divisor_22 : decode cX8_divisor 22 = .ok (.lstore 5, 2) := by decide +kernel
theorem dX8_divisor_24 : decode cX8_divisor 24 = .ok (.lload 9, 2) := by decide +kernel
theorem dX8_divisor_26 : decode cX8_divisor 26 = .ok (.lstore 7, 2) := by decide +kernel
theorem dX8_divisor_28 : decode cX8_divisor 28 = .ok (.goto (-22), 3) := by decide +kernel
theorem dX8_divisor_31 : decode cX8_divisor 31 = .ok (.lload 5, 2) := by decide +kernel
theorem dX8_divisor_33 : decode cX8_divisor 33 = .ok (.lreturn, 1) := by decide +kernel
set_option maxRecDepth 20000 in
theorem ggX8_put_X8_divisor : GoodIn wsX8_put wsX8_divisor := goodIn_r _ [8] (by decide +kernel) (by decide +kernel)
set_option maxRecDepth 20000 in
theorem gX8_put_X8_divisor : GoodIn wsX8_put (wsV RX8 125 RX8 yX8_divisor wsX8_divisor) := goodIn_app (goodIn_of _ (by decide +kernel)) ggX8_put_X8_divisor
theorem dX8_put_0 : decode cX8_put 0 = .ok (.aload_n 0, 1) := by decide +kernel
theorem dX8_put_1 : decode cX8_put 1 = .ok (.lload_n 2, 1) := by decide +kernel
theorem dX8_put_2 : decode cX8_put 2 = .ok (.lload 4, 2) := by decide +kernel
theorem dX8_put_4 : decode cX8_put 4 = .ok (.invokevirtual 125, 3) := by decide +kernel
theorem dX8_put_7 : decode cX8_put 7 = .ok (.lstore 6, 2) := by decide +kernel
theorem dX8_put_9 : decode cX8_put 9 = .ok (.lload_n 2, 1) := by decide +kernel
theorem dX8_put_10 : decode cX8_put 10 = .ok (.lload 6, 2) := by decide +kernel
theorem dX8_put_12 : decode cX8_put 12 = .ok (.ldiv, 1) := by decide +kernel
theorem dX8_put_13 : decode cX8_put 13 = .ok (.ldc2_w 129, 3) := by decide +kernel
theorem dX8_put_16 : decode cX8_put 16 = .ok (.lcmp, 1) := by decide +kernel
theorem dX8_put_17 : decode cX8_put 17 = .ok (.ifCond .gt 15, 3) := by decide +kernel
theorem dX8_put_20 : decode cX8_put 20 = .ok (.lload 4, 2) := by decide +kernel
theorem dX8_put_22 : decode cX8_put 22 = .ok (.lload 6, 2) := by decide +kernel
theorem dX8_put_24 : decode cX8_put 24 = .ok (.ldiv, 1) := by decide +kernel
theorem dX8_put_25 : decode cX8_put 25 = .ok (.ldc2_w 129, 3) := by decide +kernel
theorem dX8_put_28 : decode cX8_put 28 = .ok (.lcmp, 1) := by decide +kernel
theorem dX8_put_29 : decode cX8_put 29 = .ok (.ifCond .le 6, 3) := by decide +kernel
theorem dX8_put_32 : decode cX8_put 32 = .ok (.bipush (-3), 2) := by decide +kernel
theorem dX8_put_34 : decode cX8_put 34 = .ok (.ireturn, 1) := by decide +kernel
theorem dX8_put_35 : decode cX8_put 35 = .ok (.aload_n 0, 1) := by decide +kernel
theorem dX8_put_36 : decode cX8_put 36 = .ok (.getfield 7, 3) := by decide +kernel
theorem dX8_put_39 : decode cX8_put 39 = .ok (.iload_n 1, 1) := by decide +kernel
theorem dX8_put_40 : decode cX8_put 40 = .ok (.lload_n 2, 1) := by decide +kernel
theorem dX8_put_41 : decode cX8_put 41 = .ok (.lload 6, 2) := by decide +kernel
theorem dX8_put_43 : decode cX8_put 43 = .ok (.ldiv, 1) := by decide +kernel
theorem dX8_put_44 : decode cX8_put 44 = .ok (.l2i, 1) := by decide +kernel
theorem dX8_put_45 : decode cX8_put 45 = .ok (.iastore, 1) := by decide +kernel
theorem dX8_put_46 : decode cX8_put 46 = .ok (.aload_n 0, 1) := by decide +kernel
theorem dX8_put_47 : decode cX8_put 47 = .ok (.getfield 13, 3) := by decide +kernel
theorem dX8_put_50 : decode cX8_put 50 = .ok (.iload_n 1, 1) := by decide +kernel
theorem dX8_put_51 : decode cX8_put 51 = .ok (.lload 4, 2) := by decide +kernel
theorem dX8_put_53 : decode cX8_put 53 = .ok (.lload 6, 2) := by decide +kernel
theorem dX8_put_55 : decode cX8_put 55 = .ok (.ldiv, 1) := by decide +kernel
theorem dX8_put_56 : decode cX8_put 56 = .ok (.l2i, 1) := by decide +kernel
theorem dX8_put_57 : decode cX8_put 57 = .ok (.iastore, 1) := by decide +kernel
theorem dX8_put_58 : decode cX8_put 58 = .ok (.iconst 1, 1) := by decide +kernel
theorem dX8_put_59 : decode cX8_put 59 = .ok (.ireturn, 1) := by decide +kernel
set_option maxRecDepth 20000 in
theorem ggX8_set_X8_isRegister : GoodIn wsX8_set wsX8_isRegister := goodIn_r _ [6, 7, 8, 9, 5, 10] (by decide +kernel) (by decide +kernel)
set_option maxRecDepth 20000 in
theorem gX8_set_X8_isRegister : GoodIn wsX8_set (wsV RX8 131 RX8 yX8_isRegister wsX8_isRegister) := goodIn_app (goodIn_of _ (by decide +kernel)) ggX8_set_X8_isRegister
set_option maxRecDepth 20000 in
theorem ggX8_set_X8_within : GoodIn wsX8_set wsX8_within := goodIn_r _ [10] (by decide +kernel) (by decide +kernel)
set_option maxRecDepth 20000 in
theorem gX8_set_X8_within : GoodIn wsX8_set (va_wsS RX8 121 yX8_within wsX8_within) := goodIn_app (goodIn_of _ (by decide +kernel)) ggX8_set_X8_within
set_option maxRecDepth 20000 in
theorem ggX8_set_X8_put : GoodIn wsX8_set wsX8_put := goodIn_r _ [14, 1, 15, 16, 17, 18, 19, 5, 20, 21, 22, 23, 24, 25, 26, 27, 28, 29, 30, 31, 32, 33, 34, 35, 36, 37, 38, 39, 40, 41, 42, 43, 44, 45, 46, 47, 48, 49, 50, 51, 52, 53, 54, 55] (by decide +kernel) (by decide +kernel)
set_option maxRecDepth 20000 in
theorem gX8_set_X8_put : GoodIn wsX8_set (wsV RX8 135 RX8 yX8_put wsX8_put) := goodIn_app (goodIn_of _ (by decide +kernel)) ggX8_set_X8_put
theorem dX8_set_0 : decode cX8_set 0 = .ok (.aload_n 0, 1) := by decide +kernel
theorem dX8_set_1 : decode cX8_set 1 = .ok (.iload_n 1, 1) := by decide +kernel
theorem dX8_set_2 : decode cX8_set 2 = .ok (.invokevirtual 131, 3) := by decide +kernel
theorem dX8_set_5 : decode cX8_set 5 = .ok (.ifCond .eq 27, 3) := by decide +kernel
theorem dX8_set_8 : decode cX8_set 8 = .ok (.iload_n 2, 1) := by decide +kernel
theorem dX8_set_9 : decode cX8_set 9 = .ok (.i2l, 1) := by decide +kernel
theorem dX8_set_10 : decode cX8_set 10 = .ok (.lconst 1, 1) := by decide +kernel
theorem dX8_set_11 : decode cX8_set 11 = .ok (.ldc2_w 129, 3) := by decide +kernel
theorem dX8_set_14 : decode cX8_set 14 = .ok (.invokestatic 121, 3) := by decide +kernel
theorem dX8_set_17 : decode cX8_set 17 = .ok (.ifCond .eq 15, 3) := by decide +kernel
theorem dX8_set_20 : decode cX8_set 20 = .ok (.iload_n 3, 1) := by decide +kernel
theorem dX8_set_21 : decode cX8_set 21 = .ok (.i2l, 1) := by decide +kernel
theorem dX8_set_22 : decode cX8_set 22 = .ok (.lconst 1, 1) := by decide +kernel
theorem dX8_set_23 : decode cX8_set 23 = .ok (.ldc2_w 129, 3) := by decide +kernel
theorem dX8_set_26 : decode cX8_set 26 = .ok (.invokestatic 121, 3) := by decide +kernel
theorem dX8_set_29 : decode cX8_set 29 = .ok (.ifCond .ne 5, 3) := by decide +kernel
theorem dX8_set_32 : decode cX8_set 32 = .ok (.iconst (-1), 1) := by decide +kernel
theorem dX8_set_33 : decode cX8_set 33 = .ok (.ireturn, 1) := by decide +kernel
theorem dX8_set_34 : decode cX8_set 34 = .ok (.aload_n 0, 1) := by decide +kernel
theorem dX8_set_35 : decode cX8_set 35 = .ok (.iload_n 1, 1) := by decide +kernel
theorem dX8_set_36 : decode cX8_set 36 = .ok (.iload_n 2, 1) := by decide +kernel
theorem dX8_set_37 : decode cX8_set 37 = .ok (.i2l, 1) := by decide +kernel
theorem dX8_set_38 : decode cX8_set 38 = .ok (.iload_n 3, 1) := by decide +kernel
theorem dX8_set_39 : decode cX8_set 39 = .ok (.i2l, 1) := by decide +kernel
theorem dX8_set_40 : decode cX8_set 40 = .ok (.invokevirtual 135, 3) := by decide +kernel
theorem dX8_set_43 : decode cX8_set 43 = .ok (.ireturn, 1) := by decide +kernel
set_option maxRecDepth 20000 in
theorem ggX8_numerator_X8_isRegister : GoodIn wsX8_numerator wsX8_isRegister := goodIn_r _ [6, 7, 8, 9, 5, 10] (by decide +kernel) (by decide +kernel)
set_option maxRecDepth 20000 in
theorem gX8_numerator_X8_isRegister : GoodIn wsX8_numerator (wsV RX8 131 RX8 yX8_isRegister wsX8_isRegister) := goodIn_app (goodIn_of _ (by decide +kernel)) ggX8_numerator_X8_isRegister
theorem dX8_numerator_0 : decode cX8_numerator 0 = .ok (.aload_n 0, 1) := by decide +kernel
theorem dX8_numerator_1 : decode cX8_numerator 1 = .ok (.iload_n 1, 1) := by decide +kernel
theorem dX8_numerator_2 : decode cX8_numerator 2 = .ok (.invokevirtual 131, 3) := by decide +kernel
theorem dX8_numerator_5 : decode cX8_numerator 5 = .ok (.ifCond .eq 12, 3) := by decide +kernel
theorem dX8_numerator_8 : decode cX8_numerator 8 = .ok (.aload_n 0, 1) := by decide +kernel
theorem dX8_numerator_9 : decode cX8_numerator 9 = .ok (.getfield 7, 3) := by decide +kernel
theorem dX8_numerator_12 : decode cX8_numerator 12 = .ok (.iload_n 1, 1) := by decide +kernel
theorem dX8_numerator_13 : decode cX8_numerator 13 = .ok (.iaload, 1) := by decide +kernel
theorem dX8_numerator_14 : decode cX8_numerator 14 = .ok (.goto 4, 3) := by decide +kernel
theorem dX8_numerator_17 : decode cX8_numerator 17 = .ok (.iconst (-1), 1) := by decide +kernel
theorem dX8_numerator_18 : decode cX8_numerator 18 = .ok (.ireturn, 1) := by decide +kernel
set_option maxRecDepth 20000 in
theorem ggX8_denominator_X8_isRegister : GoodIn wsX8_denominator wsX8_isRegister := goodIn_r _ [6, 7, 8, 9, 5, 10] (by decide +kernel) (by decide +kernel)
set_option maxRecDepth 20000 in
theorem gX8_denominator_X8_isRegister : GoodIn wsX8_denominator (wsV RX8 131 RX8 yX8_isRegister wsX8_isRegister) := goodIn_app (goodIn_of _ (by decide +kernel)) ggX8_denominator_X8_isRegister
theorem dX8_denominator_0 : decode cX8_denominator 0 = .ok (.aload_n 0, 1) := by decide +kernel
theorem dX8_denominator_1 : decode cX8_denominator 1 = .ok (.iload_n 1, 1) := by decide +kernel
theorem dX8_denominator_2 : decode cX8_denominator 2 = .ok (.invokevirtual 131, 3) := by decide +kernel
theorem dX8_denominator_5 : decode cX8_denominator 5 = .ok (.ifCond .eq 12, 3) := by decide +kernel
theorem dX8_denominator_8 : decode cX8_denominator 8 = .ok (.aload_n 0, 1) := by decide +kernel
theorem dX8_denominator_9 : decode cX8_denominator 9 = .ok (.getfield 13, 3) := by decide +kernel
theorem dX8_denominator_12 : decode cX8_denominator 12 = .ok (.iload_n 1, 1) := by decide +kernel
theorem dX8_denominator_13 : decode cX8_denominator 13 = .ok (.iaload, 1) := by decide +kernel
theorem dX8_denominator_14 : decode cX8_denominator 14 = .ok (.goto 4, 3) := by decide +kernel
theorem dX8_denominator_17 : decode cX8_denominator 17 = .ok (.iconst (-1), 1) := by decide +kernel
theorem dX8_denominator_18 : decode cX8_denominator 18 = .ok (.ireturn, 1) := by decide +kernel
theorem dX8_cross_0 : decode cX8_cross 0 = .ok (.aload_n 0, 1) := by decide +kernel
theorem dX8_cross_1 : decode cX8_cross 1 = .ok (.getfield 7, 3) := by decide +kernel
theorem dX8_cross_4 : decode cX8_cross 4 = .ok (.iload_n 1, 1) := by decide +kernel
theorem dX8_cross_5 : decode cX8_cross 5 = .ok (.iaload, 1) := by decide +kernel
theorem dX8_cross_6 : decode cX8_cross 6 = .ok (.i2l, 1) := by decide +kernel
theorem dX8_cross_7 : decode cX8_cross 7 = .ok (.aload_n 0, 1) := by decide +kernel
theorem dX8_cross_8 : decode cX8_cross 8 = .ok (.getfield 13, 3) := by decide +kernel
theorem dX8_cross_11 : decode cX8_cross 11 = .ok (.iload_n 2, 1) := by decide +kernel
theorem dX8_cross_12 : decode cX8_cross 12 = .ok (.iaload, 1) := by decide +kernel
theorem dX8_cross_13 : decode cX8_cross 13 = .ok (.i2l, 1) := by decide +kernel
theorem dX8_cross_14 : decode cX8_cross 14 = .ok (.lmul, 1) := by decide +kernel
theorem dX8_cross_15 : decode cX8_cross 15 = .ok (.aload_n 0, 1) := by decide +kernel
theorem dX8_cross_16 : decode cX8_cross 16 = .ok (.getfield 13, 3) := by decide +kernel
theorem dX8_cross_19 : decode cX8_cross 19 = .ok (.iload_n 1, 1) := by decide +kernel
theorem dX8_cross_20 : decode cX8_cross 20 = .ok (.iaload, 1) := by decide +kernel
theorem dX8_cross_21 : decode cX8_cross 21 = .ok (.i2l, 1) := by decide +kernel
theorem dX8_cross_22 : decode cX8_cross 22 = .ok (.aload_n 0, 1) := by decide +kernel
theorem dX8_cross_23 : decode cX8_cross 23 = .ok (.getfield 7, 3) := by decide +kernel
theorem dX8_cross_26 : decode cX8_cross 26 = .ok (.iload_n 2, 1) := by decide +kernel
theorem dX8_cross_27 : decode cX8_cross 27 = .ok (.iaload, 1) := by decide +kernel
theorem dX8_cross_28 : decode cX8_cross 28 = .ok (.i2l, 1) := by decide +kernel
theorem dX8_cross_29 : decode cX8_cross 29 = .ok (.lmul, 1) := by decide +kernel
theorem dX8_cross_30 : decode cX8_cross 30 = .ok (.lsub, 1) := by decide +kernel
theorem dX8_cross_31 : decode cX8_cross 31 = .ok (.lreturn, 1) := by decide +kernel
set_option maxRecDepth 20000 in
theorem ggX8_compare_X8_isRegister : GoodIn wsX8_compare wsX8_isRegister := goodIn_r _ [5, 6, 7, 8, 4, 9] (by decide +kernel) (by decide +kernel)
set_option maxRecDepth 20000 in
theorem gX8_compare_X8_isRegister : GoodIn wsX8_compare (wsV RX8 131 RX8 yX8_isRegister wsX8_isRegister) := goodIn_app (goodIn_of _ (by decide +kernel)) ggX8_compare_X8_isRegister
set_option maxRecDepth 20000 in
theorem ggX8_compare_X8_cross : GoodIn wsX8_compare wsX8_cross := goodIn_r _ [13, 14, 15, 16, 17, 18, 19, 20, 21, 22, 23, 24, 25, 26, 27, 28, 29, 30, 31, 32, 33, 34, 35, 36, 37, 38, 39, 40, 41, 42, 43, 44, 45, 46, 47, 48, 49, 50] (by decide +kernel) (by decide +kernel)
set_option maxRecDepth 20000 in
theorem gX8_compare_X8_cross : GoodIn wsX8_compare (wsV RX8 139 RX8 yX8_cross wsX8_cross) := goodIn_app (goodIn_of _ (by decide +kernel)) ggX8_compare_X8_cross
theorem dX8_compare_0 : decode cX8_compare 0 = .ok (.aload_n 0, 1) := by decide +kernel
theorem dX8_compare_1 : decode cX8_compare 1 = .ok (.iload_n 1, 1) := by decide +kernel
theorem dX8_compare_2 : decode cX8_compare 2 = .ok (.invokevirtual 131, 3) := by decide +kernel
theorem dX8_compare_5 : decode cX8_compare 5 = .ok (.ifCond .eq 11, 3) := by decide +kernel
theorem dX8_compare_8 : decode cX8_compare 8 = .ok (.aload_n 0, 1) := by decide +kernel
theorem dX8_compare_9 : decode cX8_compare 9 = .ok (.iload_n 2, 1) := by decide +kernel
theorem dX8_compare_10 : decode cX8_compare 10 = .ok (.invokevirtual 131, 3) := by decide +kernel
theorem dX8_compare_13 : decode cX8_compare 13 = .ok (.ifCond .ne 5, 3) := by decide +kernel
theorem dX8_compare_16 : decode cX8_compare 16 = .ok (.iconst (-1), 1) := by decide +kernel
theorem dX8_compare_17 : decode cX8_compare 17 = .ok (.ireturn, 1) := by decide +kernel
theorem dX8_compare_18 : decode cX8_compare 18 = .ok (.aload_n 0, 1) := by decide +kernel
theorem dX8_compare_19 : decode cX8_compare 19 = .ok (.iload_n 1, 1) := by decide +kernel
theorem dX8_compare_20 : decode cX8_compare 20 = .ok (.iload_n 2, 1) := by decide +kernel
theorem dX8_compare_21 : decode cX8_compare 21 = .ok (.invokevirtual 139, 3) := by decide +kernel
theorem dX8_compare_24 : decode cX8_compare 24 = .ok (.lstore_n 3, 1) := by decide +kernel
theorem dX8_compare_25 : decode cX8_compare 25 = .ok (.lload_n 3, 1) := by decide +kernel
theorem dX8_compare_26 : decode cX8_compare 26 = .ok (.lconst 0, 1) := by decide +kernel
theorem dX8_compare_27 : decode cX8_compare 27 = .ok (.lcmp, 1) := by decide +kernel
theorem dX8_compare_28 : decode cX8_compare 28 = .ok (.ifCond .ge 7, 3) := by decide +kernel
theorem dX8_compare_31 : decode cX8_compare 31 = .ok (.iconst 0, 1) := by decide +kernel
theorem dX8_compare_32 : decode cX8_compare 32 = .ok (.goto 14, 3) := by decide +kernel
theorem dX8_compare_35 : decode cX8_compare 35 = .ok (.lload_n 3, 1) := by decide +kernel
theorem dX8_compare_36 : decode cX8_compare 36 = .ok (.lconst 0, 1) := by decide +kernel
theorem dX8_compare_37 : decode cX8_compare 37 = .ok (.lcmp, 1) := by decide +kernel
theorem dX8_compare_38 : decode cX8_compare 38 = .ok (.ifCond .ne 7, 3) := by decide +kernel
theorem dX8_compare_41 : decode cX8_compare 41 = .ok (.iconst 1, 1) := by decide +kernel
theorem dX8_compare_42 : decode cX8_compare 42 = .ok (.goto 4, 3) := by decide +kernel
theorem dX8_compare_45 : decode cX8_compare 45 = .ok (.iconst 2, 1) := by decide +kernel
theorem dX8_compare_46 : decode cX8_compare 46 = .ok (.ireturn, 1) := by decide +kernel
set_option maxRecDepth 20000 in
theorem ggX8_combine_X8_isRegister : GoodIn wsX8_combine wsX8_isRegister := goodIn_r _ [8, 9, 10, 11, 7, 12] (by decide +kernel) (by decide +kernel)
set_option maxRecDepth 20000 in
theorem gX8_combine_X8_isRegister : GoodIn wsX8_combine (wsV RX8 131 RX8 yX8_isRegister wsX8_isRegister) := goodIn_app (goodIn_of _ (by decide +kernel)) ggX8_combine_X8_isRegister
set_option maxRecDepth 20000 in
theorem ggX8_combine_X8_within : GoodIn wsX8_combine wsX8_within := goodIn_r _ [12] (by decide +kernel) (by decide +kernel)
set_option maxRecDepth 20000 in
theorem gX8_combine_X8_within : GoodIn wsX8_combine (va_wsS RX8 121 yX8_within wsX8_within) := goodIn_app (goodIn_of _ (by decide +kernel)) ggX8_combine_X8_within
set_option maxRecDepth 20000 in
theorem ggX8_combine_X8_put : GoodIn wsX8_combine wsX8_put := goodIn_r _ [16, 17, 2, 3, 18, 19, 20, 7, 21, 22, 23, 24, 25, 26, 27, 28, 29, 30, 31, 32, 33, 34, 35, 36, 37, 38, 39, 40, 41, 42, 43, 44, 45, 46, 47, 48, 49, 50, 51, 52, 53, 54, 55, 56] (by decide +kernel) (by decide +kernel)
set_option maxRecDepth 20000 in
theorem gX8_combine_X8_put : GoodIn wsX8_combine (wsV RX8 135 RX8 yX8_put wsX8_put) := goodIn_app (goodIn_of _ (by decide +kernel)) ggX8_combine_X8_put
theorem dX8_combine_0 : decode cX8_combine 0 = .ok (.aload_n 0, 1) := by decide +kernel
theorem dX8_combine_1 : decode cX8_combine 1 = .ok (.iload_n 1, 1) := by decide +kernel
theorem dX8_combine_2 : decode cX8_combine 2 = .ok (.invokevirtual 131, 3) := by decide +kernel
theorem dX8_combine_5 : decode cX8_combine 5 = .ok (.ifCond .eq 32, 3) := by decide +kernel
theorem dX8_combine_8 : decode cX8_combine 8 = .ok (.aload_n 0, 1) := by decide +kernel
theorem dX8_combine_9 : decode cX8_combine 9 = .ok (.iload_n 2, 1) := by decide +kernel
theorem dX8_combine_10 : decode cX8_combine 10 = .ok (.invokevirtual 131, 3) := by decide +kernel
theorem dX8_combine_13 : decode cX8_combine 13 = .ok (.ifCond .eq 24, 3) := by decide +kernel
theorem dX8_combine_16 : decode cX8_combine 16 = .ok (.aload_n 0, 1) := by decide +kernel
theorem dX8_combine_17 : decode cX8_combine 17 = .ok (.iload_n 3, 1) := by decide +kernel
theorem dX8_combine_18 : decode cX8_combine 18 = .ok (.invokevirtual 131, 3) := by decide +kernel
theorem dX8_combine_21 : decode cX8_combine 21 = .ok (.ifCond .eq 16, 3) := by decide +kernel
theorem dX8_combine_24 : decode cX8_combine 24 = .ok (.iload 4, 2) := by decide +kernel
theorem dX8_combine_26 : decode cX8_combine 26 = .ok (.i2l, 1) := by decide +kernel
theorem dX8_combine_27 : decode cX8_combine 27 = .ok (.lconst 0, 1) := by decide +kernel
theorem dX8_combine_28 : decode cX8_combine 28 = .ok (.ldc2_w 143, 3) := by decide +kernel
theorem dX8_combine_31 : decode cX8_combine 31 = .ok (.invokestatic 121, 3) := by decide +kernel
theorem dX8_combine_34 : decode cX8_combine 34 = .ok (.ifCond .ne 5, 3) := by decide +kernel
theorem dX8_combine_37 : decode cX8_combine 37 = .ok (.iconst (-1), 1) := by decide +kernel
theorem dX8_combine_38 : decode cX8_combine 38 = .ok (.ireturn, 1) := by decide +kernel
theorem dX8_combine_39 : decode cX8_combine 39 = .ok (.aload_n 0, 1) := by decide +kernel
theorem dX8_combine_40 : decode cX8_combine 40 = .ok (.getfield 7, 3) := by decide +kernel
theorem dX8_combine_43 : decode cX8_combine 43 = .ok (.iload_n 2, 1) := by decide +kernel
theorem dX8_combine_44 : decode cX8_combine 44 = .ok (.iaload, 1) := by decide +kernel
theorem dX8_combine_45 : decode cX8_combine 45 = .ok (.i2l, 1) := by decide +kernel
theorem dX8_combine_46 : decode cX8_combine 46 = .ok (.lstore 5, 2) := by decide +kernel
theorem dX8_combine_48 : decode cX8_combine 48 = .ok (.aload_n 0, 1) := by decide +kernel
theorem dX8_combine_49 : decode cX8_combine 49 = .ok (.getfield 13, 3) := by decide +kernel
theorem dX8_combine_52 : decode cX8_combine 52 = .ok (.iload_n 2, 1) := by decide +kernel
theorem dX8_combine_53 : decode cX8_combine 53 = .ok (.iaload, 1) := by decide +kernel
theorem dX8_combine_54 : decode cX8_combine 54 = .ok (.i2l, 1) := by decide +kernel
theorem dX8_combine_55 : decode cX8_combine 55 = .ok (.lstore 7, 2) := by decide +kernel
theorem dX8_combine_57 : decode cX8_combine 57 = .ok (.aload_n 0, 1) := by decide +kernel
theorem dX8_combine_58 : decode cX8_combine 58 = .ok (.getfield 7, 3) := by decide +kernel
theorem dX8_combine_61 : decode cX8_combine 61 = .ok (.iload_n 3, 1) := by decide +kernel
theorem dX8_combine_62 : decode cX8_combine 62 = .ok (.iaload, 1) := by decide +kernel
theorem dX8_combine_63 : decode cX8_combine 63 = .ok (.i2l, 1) := by decide +kernel
theorem dX8_combine_64 : decode cX8_combine 64 = .ok (.lstore 9, 2) := by decide +kernel
theorem dX8_combine_66 : decode cX8_combine 66 = .ok (.aload_n 0, 1) := by decide +kernel
theorem dX8_combine_67 : decode cX8_combine 67 = .ok (.getfield 13, 3) := by decide +kernel
theorem dX8_combine_70 : decode cX8_combine 70 = .ok (.iload_n 3, 1) := by decide +kernel
theorem dX8_combine_71 : decode cX8_combine 71 = .ok (.iaload, 1) := by decide +kernel
theorem dX8_combine_72 : decode cX8_combine 72 = .ok (.i2l, 1) := by decide +kernel
theorem dX8_combine_73 : decode cX8_combine 73 = .ok (.lstore 11, 2) := by decide +kernel
theorem dX8_combine_75 : decode cX8_combine 75 = .ok (.iload 4, 2) := by decide +kernel
theorem dX8_combine_77 : decode cX8_combine 77 = .ok (.tableswitch 126 0 3 #[31, 53, 94, 110], 31) := by decide +kernel
theorem dX8_combine_108 : decode cX8_combine 108 = .ok (.aload_n 0, 1) := by decide +kernel
theorem dX8_combine_109 : decode cX8_combine 109 = .ok (.iload_n 1, 1) := by decide +kernel
theorem dX8_combine_110 : decode cX8_combine 110 = .ok (.lload 5, 2) := by decide +kernel
theorem dX8_combine_112 : decode cX8_combine 112 = .ok (.lload 11, 2) := by decide +kernel
theorem dX8_combine_114 : decode cX8_combine 114 = .ok (.lmul, 1) := by decide +kernel
theorem dX8_combine_115 : decode cX8_combine 115 = .ok (.lload 9, 2) := by decide +kernel
theorem dX8_combine_117 : decode cX8_combine 117 = .ok (.lload 7, 2) := by decide +kernel
theorem dX8_combine_119 : decode cX8_combine 119 = .ok (.lmul, 1) := by decide +kernel
theorem dX8_combine_120 : decode cX8_combine 120 = .ok (.ladd, 1) := by decide +kernel
theorem dX8_combine_121 : decode cX8_combine 121 = .ok (.lload 7, 2) := by decide +kernel
theorem dX8_combine_123 : decode cX8_combine 123 = .ok (.lload 11, 2) := by decide +kernel
theorem dX8_combine_125 : decode cX8_combine 125 = .ok (.lmul, 1) := by decide +kernel
theorem dX8_combine_126 : decode cX8_combine 126 = .ok (.invokevirtual 135, 3) := by decide +kernel
theorem dX8_combine_129 : decode cX8_combine 129 = .ok (.ireturn, 1) := by decide +kernel
theorem dX8_combine_130 : decode cX8_combine 130 = .ok (.lload 5, 2) := by decide +kernel
theorem dX8_combine_132 : decode cX8_combine 132 = .ok (.lload 11, 2) := by decide +kernel
theorem dX8_combine_134 : decode cX8_combine 134 = .ok (.lmul, 1) := by decide +kernel
theorem dX8_combine_135 : decode cX8_combine 135 = .ok (.lload 9, 2) := by decide +kernel
theorem dX8_combine_137 : decode cX8_combine 137 = .ok (.lload 7, 2) := by decide +kernel
theorem dX8_combine_139 : decode cX8_combine 139 = .ok (.lmul, 1) := by decide +kernel
theorem dX8_combine_140 : decode cX8_combine 140 = .ok (.lcmp, 1) := by decide +kernel
theorem dX8_combine_141 : decode cX8_combine 141 = .ok (.ifCond .gt 8, 3) := by decide +kernel
theorem dX8_combine_144 : decode cX8_combine 144 = .ok (.bipush (-4), 2) := by decide +kernel
theorem dX8_combine_146 : decode cX8_combine 146 = .ok (.goto 24, 3) := by decide +kernel
theorem dX8_combine_149 : decode cX8_combine 149 = .ok (.aload_n 0, 1) := by decide +kernel
theorem dX8_combine_150 : decode cX8_combine 150 = .ok (.iload_n 1, 1) := by decide +kernel
theorem dX8_combine_151 : decode cX8_combine 151 = .ok (.lload 5, 2) := by decide +kernel
theorem dX8_combine_153 : decode cX8_combine 153 = .ok (.lload 11, 2) := by decide +kernel
theorem dX8_combine_155 : decode cX8_combine 155 = .ok (.lmul, 1) := by decide +kernel
theorem dX8_combine_156 : decode cX8_combine 156 = .ok (.lload 9, 2) := by decide +kernel
theorem dX8_combine_158 : decode cX8_combine 158 = .ok (.lload 7, 2) := by decide +kernel
theorem dX8_combine_160 : decode cX8_combine 160 = .ok (.lmul, 1) := by decide +kernel
theorem dX8_combine_161 : decode cX8_combine 161 = .ok (.lsub, 1) := by decide +kernel
theorem dX8_combine_162 : decode cX8_combine 162 = .ok (.lload 7, 2) := by decide +kernel
theorem dX8_combine_164 : decode cX8_combine 164 = .ok (.lload 11, 2) := by decide +kernel
theorem dX8_combine_166 : decode cX8_combine 166 = .ok (.lmul, 1) := by decide +kernel
theorem dX8_combine_167 : decode cX8_combine 167 = .ok (.invokevirtual 135, 3) := by decide +kernel
theorem dX8_combine_170 : decode cX8_combine 170 = .ok (.ireturn, 1) := by decide +kernel
theorem dX8_combine_171 : decode cX8_combine 171 = .ok (.aload_n 0, 1) := by decide +kernel
theorem dX8_combine_172 : decode cX8_combine 172 = .ok (.iload_n 1, 1) := by decide +kernel
theorem dX8_combine_173 : decode cX8_combine 173 = .ok (.lload 5, 2) := by decide +kernel
theorem dX8_combine_175 : decode cX8_combine 175 = .ok (.lload 9, 2) := by decide +kernel
theorem dX8_combine_177 : decode cX8_combine 177 = .ok (.lmul, 1) := by decide +kernel
theorem dX8_combine_178 : decode cX8_combine 178 = .ok (.lload 7, 2) := by decide +kernel
theorem dX8_combine_180 : decode cX8_combine 180 = .ok (.lload 11, 2) := by decide +kernel
theorem dX8_combine_182 : decode cX8_combine 182 = .ok (.lmul, 1) := by decide +kernel
theorem dX8_combine_183 : decode cX8_combine 183 = .ok (.invokevirtual 135, 3) := by decide +kernel
theorem dX8_combine_186 : decode cX8_combine 186 = .ok (.ireturn, 1) := by decide +kernel
theorem dX8_combine_187 : decode cX8_combine 187 = .ok (.aload_n 0, 1) := by decide +kernel
theorem dX8_combine_188 : decode cX8_combine 188 = .ok (.iload_n 1, 1) := by decide +kernel
theorem dX8_combine_189 : decode cX8_combine 189 = .ok (.lload 5, 2) := by decide +kernel
theorem dX8_combine_191 : decode cX8_combine 191 = .ok (.lload 11, 2) := by decide +kernel
theorem dX8_combine_193 : decode cX8_combine 193 = .ok (.lmul, 1) := by decide +kernel
theorem dX8_combine_194 : decode cX8_combine 194 = .ok (.lload 7, 2) := by decide +kernel
theorem dX8_combine_196 : decode cX8_combine 196 = .ok (.lload 9, 2) := by decide +kernel
theorem dX8_combine_198 : decode cX8_combine 198 = .ok (.lmul, 1) := by decide +kernel
theorem dX8_combine_199 : decode cX8_combine 199 = .ok (.invokevirtual 135, 3) := by decide +kernel
theorem dX8_combine_202 : decode cX8_combine 202 = .ok (.ireturn, 1) := by decide +kernel
theorem dX8_combine_203 : decode cX8_combine 203 = .ok (.aload_n 0, 1) := by decide +kernel
theorem dX8_combine_204 : decode cX8_combine 204 = .ok (.iload_n 1, 1) := by decide +kernel
theorem dX8_combine_205 : decode cX8_combine 205 = .ok (.lload 5, 2) := by decide +kernel
theorem dX8_combine_207 : decode cX8_combine 207 = .ok (.lload 9, 2) := by decide +kernel
theorem dX8_combine_209 : decode cX8_combine 209 = .ok (.ladd, 1) := by decide +kernel
theorem dX8_combine_210 : decode cX8_combine 210 = .ok (.lload 7, 2) := by decide +kernel
theorem dX8_combine_212 : decode cX8_combine 212 = .ok (.lload 11, 2) := by decide +kernel
theorem dX8_combine_214 : decode cX8_combine 214 = .ok (.ladd, 1) := by decide +kernel
theorem dX8_combine_215 : decode cX8_combine 215 = .ok (.invokevirtual 135, 3) := by decide +kernel
theorem dX8_combine_218 : decode cX8_combine 218 = .ok (.ireturn, 1) := by decide +kernel
set_option maxRecDepth 20000 in
theorem ggX8_determinant_X8_isRegister : GoodIn wsX8_determinant wsX8_isRegister := goodIn_r _ [6, 7, 8, 9, 5, 10] (by decide +kernel) (by decide +kernel)
set_option maxRecDepth 20000 in
theorem gX8_determinant_X8_isRegister : GoodIn wsX8_determinant (wsV RX8 131 RX8 yX8_isRegister wsX8_isRegister) := goodIn_app (goodIn_of _ (by decide +kernel)) ggX8_determinant_X8_isRegister
set_option maxRecDepth 20000 in
theorem ggX8_determinant_X8_cross : GoodIn wsX8_determinant wsX8_cross := goodIn_r _ [14, 15, 16, 17, 18, 19, 20, 21, 22, 23, 24, 25, 26, 27, 28, 29, 30, 31, 32, 33, 34, 35, 36, 37, 38, 39, 40, 41, 42, 43, 44, 45, 46, 47, 48, 49, 50, 51] (by decide +kernel) (by decide +kernel)
set_option maxRecDepth 20000 in
theorem gX8_determinant_X8_cross : GoodIn wsX8_determinant (wsV RX8 139 RX8 yX8_cross wsX8_cross) := goodIn_app (goodIn_of _ (by decide +kernel)) ggX8_determinant_X8_cross
theorem dX8_determinant_0 : decode cX8_determinant 0 = .ok (.aload_n 0, 1) := by decide +kernel
theorem dX8_determinant_1 : decode cX8_determinant 1 = .ok (.iload_n 1, 1) := by decide +kernel
theorem dX8_determinant_2 : decode cX8_determinant 2 = .ok (.invokevirtual 131, 3) := by decide +kernel
theorem dX8_determinant_5 : decode cX8_determinant 5 = .ok (.ifCond .eq 20, 3) := by decide +kernel
theorem dX8_determinant_8 : decode cX8_determinant 8 = .ok (.aload_n 0, 1) := by decide +kernel
theorem dX8_determinant_9 : decode cX8_determinant 9 = .ok (.iload_n 2, 1) := by decide +kernel
theorem dX8_determinant_10 : decode cX8_determinant 10 = .ok (.invokevirtual 131, 3) := by decide +kernel
theorem dX8_determinant_13 : decode cX8_determinant 13 = .ok (.ifCond .eq 12, 3) := by decide +kernel
theorem dX8_determinant_16 : decode cX8_determinant 16 = .ok (.aload_n 0, 1) := by decide +kernel
theorem dX8_determinant_17 : decode cX8_determinant 17 = .ok (.iload_n 1, 1) := by decide +kernel
theorem dX8_determinant_18 : decode cX8_determinant 18 = .ok (.iload_n 2, 1) := by decide +kernel
theorem dX8_determinant_19 : decode cX8_determinant 19 = .ok (.invokevirtual 139, 3) := by decide +kernel
theorem dX8_determinant_22 : decode cX8_determinant 22 = .ok (.goto 6, 3) := by decide +kernel
theorem dX8_determinant_25 : decode cX8_determinant 25 = .ok (.ldc2_w 145, 3) := by decide +kernel
theorem dX8_determinant_28 : decode cX8_determinant 28 = .ok (.lreturn, 1) := by decide +kernel
theorem dX8_layTerms_0 : decode cX8_layTerms 0 = .ok (.aload_n 0, 1) := by decide +kernel
theorem dX8_layTerms_1 : decode cX8_layTerms 1 = .ok (.iconst 0, 1) := by decide +kernel
theorem dX8_layTerms_2 : decode cX8_layTerms 2 = .ok (.putfield 25, 3) := by decide +kernel
theorem dX8_layTerms_5 : decode cX8_layTerms 5 = .ok (.iload_n 1, 1) := by decide +kernel
theorem dX8_layTerms_6 : decode cX8_layTerms 6 = .ok (.istore_n 3, 1) := by decide +kernel
theorem dX8_layTerms_7 : decode cX8_layTerms 7 = .ok (.iload_n 2, 1) := by decide +kernel
theorem dX8_layTerms_8 : decode cX8_layTerms 8 = .ok (.istore 4, 2) := by decide +kernel
theorem dX8_layTerms_10 : decode cX8_layTerms 10 = .ok (.iload 4, 2) := by decide +kernel
theorem dX8_layTerms_12 : decode cX8_layTerms 12 = .ok (.ifCond .eq 42, 3) := by decide +kernel
theorem dX8_layTerms_15 : decode cX8_layTerms 15 = .ok (.aload_n 0, 1) := by decide +kernel
theorem dX8_layTerms_16 : decode cX8_layTerms 16 = .ok (.getfield 16, 3) := by decide +kernel
theorem dX8_layTerms_19 : decode cX8_layTerms 19 = .ok (.aload_n 0, 1) := by decide +kernel
theorem dX8_layTerms_20 : decode cX8_layTerms 20 = .ok (.getfield 25, 3) := by decide +kernel
theorem dX8_layTerms_23 : decode cX8_layTerms 23 = .ok (.iload_n 3, 1) := by decide +kernel
theorem dX8_layTerms_24 : decode cX8_layTerms 24 = .ok (.iload 4, 2) := by decide +kernel
theorem dX8_layTerms_26 : decode cX8_layTerms 26 = .ok (.idiv, 1) := by decide +kernel
theorem dX8_layTerms_27 : decode cX8_layTerms 27 = .ok (.iastore, 1) := by decide +kernel
theorem dX8_layTerms_28 : decode cX8_layTerms 28 = .ok (.aload_n 0, 1) := by decide +kernel
theorem dX8_layTerms_29 : decode cX8_layTerms 29 = .ok (.dup, 1) := by decide +kernel
theorem dX8_layTerms_30 : decode cX8_layTerms 30 = .ok (.getfield 25, 3) := by decide +kernel
theorem dX8_layTerms_33 : decode cX8_layTerms 33 = .ok (.iconst 1, 1) := by decide +kernel
theorem dX8_layTerms_34 : decode cX8_layTerms 34 = .ok (.iadd, 1) := by decide +kernel
theorem dX8_layTerms_35 : decode cX8_layTerms 35 = .ok (.putfield 25, 3) := by decide +kernel
theorem dX8_layTerms_38 : decode cX8_layTerms 38 = .ok (.iload_n 3, 1) := by decide +kernel
theorem dX8_layTerms_39 : decode cX8_layTerms 39 = .ok (.iload 4, 2) := by decide +kernel
theorem dX8_layTerms_41 : decode cX8_layTerms 41 = .ok (.irem, 1) := by decide +kernel
theorem dX8_layTerms_42 : decode cX8_layTerms 42 = .ok (.istore 5, 2) := by decide +kernel
theorem dX8_layTerms_44 : decode cX8_layTerms 44 = .ok (.iload 4, 2) := by decide +kernel
theorem dX8_layTerms_46 : decode cX8_layTerms 46 = .ok (.istore_n 3, 1) := by decide +kernel
theorem dX8_layTerms_47 : decode cX8_layTerms 47 = .ok (.iload 5, 2) := by decide +kernel
theorem dX8_layTerms_49 : decode cX8_layTerms 49 = .ok (.istore 4, 2) := by decide +kernel
theorem dX8_layTerms_51 : decode cX8_layTerms 51 = .ok (.goto (-41), 3) := by decide +kernel
theorem dX8_layTerms_54 : decode cX8_layTerms 54 = .ok (.return_, 1) := by decide +kernel
set_option maxRecDepth 20000 in
theorem ggX8_layRuns_X8_layTerms : GoodIn wsX8_layRuns wsX8_layTerms := goodIn_r _ [10, 2, 3, 11, 12, 13, 14, 15, 16, 17, 18, 19, 20, 21, 22, 23, 24, 25, 26, 27, 28, 29, 30, 31, 32, 33, 34, 35, 36, 37, 38, 39, 40, 41, 42, 43, 44, 45] (by decide +kernel) (by decide +kernel)
set_option maxRecDepth 20000 in
theorem gX8_layRuns_X8_layTerms : GoodIn wsX8_layRuns (wsV RX8 147 RX8 yX8_layTerms wsX8_layTerms) := goodIn_app (goodIn_of _ (by decide +kernel)) ggX8_layRuns_X8_layTerms
theorem dX8_layRuns_0 : decode cX8_layRuns 0 = .ok (.aload_n 0, 1) := by decide +kernel
theorem dX8_layRuns_1 : decode cX8_layRuns 1 = .ok (.iload_n 1, 1) := by decide +kernel
theorem dX8_layRuns_2 : decode cX8_layRuns 2 = .ok (.iload_n 2, 1) := by decide +kernel
theorem dX8_layRuns_3 : decode cX8_layRuns 3 = .ok (.invokevirtual 147, 3) := by decide +kernel
theorem dX8_layRuns_6 : decode cX8_layRuns 6 = .ok (.aload_n 0, 1) := by decide +kernel
theorem dX8_layRuns_7 : decode cX8_layRuns 7 = .ok (.iconst 0, 1) := by decide +kernel
theorem dX8_layRuns_8 : decode cX8_layRuns 8 = .ok (.putfield 29, 3) := by decide +kernel
theorem dX8_layRuns_11 : decode cX8_layRuns 11 = .ok (.iconst 0, 1) := by decide +kernel
theorem dX8_layRuns_12 : decode cX8_layRuns 12 = .ok (.istore_n 3, 1) := by decide +kernel
theorem dX8_layRuns_13 : decode cX8_layRuns 13 = .ok (.iload_n 3, 1) := by decide +kernel
theorem dX8_layRuns_14 : decode cX8_layRuns 14 = .ok (.aload_n 0, 1) := by decide +kernel
theorem dX8_layRuns_15 : decode cX8_layRuns 15 = .ok (.getfield 25, 3) := by decide +kernel
theorem dX8_layRuns_18 : decode cX8_layRuns 18 = .ok (.if_icmp .ge 87, 3) := by decide +kernel
theorem dX8_layRuns_21 : decode cX8_layRuns 21 = .ok (.iload_n 3, 1) := by decide +kernel
theorem dX8_layRuns_22 : decode cX8_layRuns 22 = .ok (.aload_n 0, 1) := by decide +kernel
theorem dX8_layRuns_23 : decode cX8_layRuns 23 = .ok (.getfield 25, 3) := by decide +kernel
theorem dX8_layRuns_26 : decode cX8_layRuns 26 = .ok (.iconst 1, 1) := by decide +kernel
theorem dX8_layRuns_27 : decode cX8_layRuns 27 = .ok (.isub, 1) := by decide +kernel
theorem dX8_layRuns_28 : decode cX8_layRuns 28 = .ok (.if_icmp .ne 14, 3) := by decide +kernel
theorem dX8_layRuns_31 : decode cX8_layRuns 31 = .ok (.aload_n 0, 1) := by decide +kernel
theorem dX8_layRuns_32 : decode cX8_layRuns 32 = .ok (.getfield 16, 3) := by decide +kernel
theorem dX8_layRuns_35 : decode cX8_layRuns 35 = .ok (.iload_n 3, 1) := by decide +kernel
theorem dX8_layRuns_36 : decode cX8_layRuns 36 = .ok (.iaload, 1) := by decide +kernel
theorem dX8_layRuns_37 : decode cX8_layRuns 37 = .ok (.iconst 1, 1) := by decide +kernel
theorem dX8_layRuns_38 : decode cX8_layRuns 38 = .ok (.isub, 1) := by decide +kernel
theorem dX8_layRuns_39 : decode cX8_layRuns 39 = .ok (.goto 9, 3) := by decide +kernel
theorem dX8_layRuns_42 : decode cX8_layRuns 42 = .ok (.aload_n 0, 1) := by decide +kernel
theorem dX8_layRuns_43 : decode cX8_layRuns 43 = .ok (.getfield 16, 3) := by decide +kernel
theorem dX8_layRuns_46 : decode cX8_layRuns 46 = .ok (.iload_n 3, 1) := by decide +kernel
theorem dX8_layRuns_47 : decode cX8_layRuns 47 = .ok (.iaload, 1) := by decide +kernel
theorem dX8_layRuns_48 : decode cX8_layRuns 48 = .ok (.istore 4, 2) := by decide +kernel
theorem dX8_layRuns_50 : decode cX8_layRuns 50 = .ok (.iload 4, 2) := by decide +kernel
theorem dX8_layRuns_52 : decode cX8_layRuns 52 = .ok (.ifCond .ne 6, 3) := by decide +kernel
theorem dX8_layRuns_55 : decode cX8_layRuns 55 = .ok (.goto 44, 3) := by decide +kernel
theorem dX8_layRuns_58 : decode cX8_layRuns 58 = .ok (.aload_n 0, 1) := by decide +kernel
theorem dX8_layRuns_59 : decode cX8_layRuns 59 = .ok (.getfield 19, 3) := by decide +kernel
theorem dX8_layRuns_62 : decode cX8_layRuns 62 = .ok (.aload_n 0, 1) := by decide +kernel
theorem dX8_layRuns_63 : decode cX8_layRuns 63 = .ok (.getfield 29, 3) := by decide +kernel
theorem dX8_layRuns_66 : decode cX8_layRuns 66 = .ok (.iload 4, 2) := by decide +kernel
theorem dX8_layRuns_68 : decode cX8_layRuns 68 = .ok (.iastore, 1) := by decide +kernel
theorem dX8_layRuns_69 : decode cX8_layRuns 69 = .ok (.aload_n 0, 1) := by decide +kernel
theorem dX8_layRuns_70 : decode cX8_layRuns 70 = .ok (.getfield 22, 3) := by decide +kernel
theorem dX8_layRuns_73 : decode cX8_layRuns 73 = .ok (.aload_n 0, 1) := by decide +kernel
theorem dX8_layRuns_74 : decode cX8_layRuns 74 = .ok (.getfield 29, 3) := by decide +kernel
theorem dX8_layRuns_77 : decode cX8_layRuns 77 = .ok (.iload_n 3, 1) := by decide +kernel
theorem dX8_layRuns_78 : decode cX8_layRuns 78 = .ok (.iconst 2, 1) := by decide +kernel
theorem dX8_layRuns_79 : decode cX8_layRuns 79 = .ok (.irem, 1) := by decide +kernel
theorem dX8_layRuns_80 : decode cX8_layRuns 80 = .ok (.ifCond .ne 7, 3) := by decide +kernel
theorem dX8_layRuns_83 : decode cX8_layRuns 83 = .ok (.iconst 1, 1) := by decide +kernel
theorem dX8_layRuns_84 : decode cX8_layRuns 84 = .ok (.goto 4, 3) := by decide +kernel
theorem dX8_layRuns_87 : decode cX8_layRuns 87 = .ok (.iconst 0, 1) := by decide +kernel
theorem dX8_layRuns_88 : decode cX8_layRuns 88 = .ok (.iastore, 1) := by decide +kernel
theorem dX8_layRuns_89 : decode cX8_layRuns 89 = .ok (.aload_n 0, 1) := by decide +kernel
theorem dX8_layRuns_90 : decode cX8_layRuns 90 = .ok (.dup, 1) := by decide +kernel
theorem dX8_layRuns_91 : decode cX8_layRuns 91 = .ok (.getfield 29, 3) := by decide +kernel
theorem dX8_layRuns_94 : decode cX8_layRuns 94 = .ok (.iconst 1, 1) := by decide +kernel
theorem dX8_layRuns_95 : decode cX8_layRuns 95 = .ok (.iadd, 1) := by decide +kernel
theorem dX8_layRuns_96 : decode cX8_layRuns 96 = .ok (.putfield 29, 3) := by decide +kernel
theorem dX8_layRuns_99 : decode cX8_layRuns 99 = .ok (.iinc 3 1, 3) := by decide +kernel
theorem dX8_layRuns_102 : decode cX8_layRuns 102 = .ok (.goto (-89), 3) := by decide +kernel
theorem dX8_layRuns_105 : decode cX8_layRuns 105 = .ok (.return_, 1) := by decide +kernel
set_option maxRecDepth 20000 in
theorem ggX8_depthOf_X8_layRuns : GoodIn wsX8_depthOf wsX8_layRuns := goodIn_r _ [7, 1, 8, 9, 2, 10, 11, 12, 13, 6, 14, 15, 16, 17, 18, 19, 20, 21, 22, 23, 24, 25, 26, 27, 28, 29, 30, 31, 32, 33, 34, 35, 36, 37, 38, 39, 40, 41, 42, 43, 44, 45, 46, 47, 48, 49] (by decide +kernel) (by decide +kernel)
set_option maxRecDepth 20000 in
theorem gX8_depthOf_X8_layRuns : GoodIn wsX8_depthOf (wsV RX8 151 RX8 yX8_layRuns wsX8_layRuns) := goodIn_app (goodIn_of _ (by decide +kernel)) ggX8_depthOf_X8_layRuns
theorem dX8_depthOf_0 : decode cX8_depthOf 0 = .ok (.aload_n 0, 1) := by decide +kernel
theorem dX8_depthOf_1 : decode cX8_depthOf 1 = .ok (.iload_n 1, 1) := by decide +kernel
theorem dX8_depthOf_2 : decode cX8_depthOf 2 = .ok (.iload_n 2, 1) := by decide +kernel
theorem dX8_depthOf_3 : decode cX8_depthOf 3 = .ok (.invokevirtual 151, 3) := by decide +kernel
theorem dX8_depthOf_6 : decode cX8_depthOf 6 = .ok (.iconst 0, 1) := by decide +kernel
theorem dX8_depthOf_7 : decode cX8_depthOf 7 = .ok (.istore_n 3, 1) := by decide +kernel
theorem dX8_depthOf_8 : decode cX8_depthOf 8 = .ok (.iconst 0, 1) := by decide +kernel
theorem dX8_depthOf_9 : decode cX8_depthOf 9 = .ok (.istore 4, 2) := by decide +kernel
theorem dX8_depthOf_11 : decode cX8_depthOf 11 = .ok (.iload 4, 2) := by decide +kernel
theorem dX8_depthOf_13 : decode cX8_depthOf 13 = .ok (.aload_n 0, 1) := by decide +kernel
theorem dX8_depthOf_14 : decode cX8_depthOf 14 = .ok (.getfield 29, 3) := by decide +kernel
theorem dX8_depthOf_17 : decode cX8_depthOf 17 = .ok (.if_icmp .ge 19, 3) := by decide +kernel
theorem dX8_depthOf_20 : decode cX8_depthOf 20 = .ok (.iload_n 3, 1) := by decide +kernel
theorem dX8_depthOf_21 : decode cX8_depthOf 21 = .ok (.aload_n 0, 1) := by decide +kernel
theorem dX8_depthOf_22 : decode cX8_depthOf 22 = .ok (.getfield 19, 3) := by decide +kernel
theorem dX8_depthOf_25 : decode cX8_depthOf 25 = .ok (.iload 4, 2) := by decide +kernel
theorem dX8_depthOf_27 : decode cX8_depthOf 27 = .ok (.iaload, 1) := by decide +kernel
theorem dX8_depthOf_28 : decode cX8_depthOf 28 = .ok (.iadd, 1) := by decide +kernel
theorem dX8_depthOf_29 : decode cX8_depthOf 29 = .ok (.istore_n 3, 1) := by decide +kernel
theorem dX8_depthOf_30 : decode cX8_depthOf 30 = .ok (.iinc 4 1, 3) := by decide +kernel
theorem dX8_depthOf_33 : decode cX8_depthOf 33 = .ok (.goto (-22), 3) := by decide +kernel
theorem dX8_depthOf_36 : decode cX8_depthOf 36 = .ok (.iload_n 3, 1) := by decide +kernel
theorem dX8_depthOf_37 : decode cX8_depthOf 37 = .ok (.ireturn, 1) := by decide +kernel
set_option maxRecDepth 20000 in
theorem ggX8_depth_X8_isRegister : GoodIn wsX8_depth wsX8_isRegister := goodIn_r _ [7, 8, 9, 10, 6, 11] (by decide +kernel) (by decide +kernel)
set_option maxRecDepth 20000 in
theorem gX8_depth_X8_isRegister : GoodIn wsX8_depth (wsV RX8 131 RX8 yX8_isRegister wsX8_isRegister) := goodIn_app (goodIn_of _ (by decide +kernel)) ggX8_depth_X8_isRegister
set_option maxRecDepth 20000 in
theorem ggX8_depth_X8_depthOf : GoodIn wsX8_depth wsX8_depthOf := goodIn_r _ [15, 16, 17, 18, 19, 20, 6, 21, 22, 23, 24, 25, 26, 27, 28, 29, 30, 31, 32, 33, 34, 35, 36, 37, 38, 39, 40, 41, 42, 43, 44, 45, 46, 47, 48, 49, 50, 51, 52, 53, 54, 55, 56, 57, 58, 59, 60, 61, 62, 63] (by decide +kernel) (by decide +kernel)
set_option maxRecDepth 20000 in
theorem gX8_depth_X8_depthOf : GoodIn wsX8_depth (wsV RX8 154 RX8 yX8_depthOf wsX8_depthOf) := goodIn_app (goodIn_of _ (by decide +kernel)) ggX8_depth_X8_depthOf
theorem dX8_depth_0 : decode cX8_depth 0 = .ok (.aload_n 0, 1) := by decide +kernel
theorem dX8_depth_1 : decode cX8_depth 1 = .ok (.iload_n 1, 1) := by decide +kernel
theorem dX8_depth_2 : decode cX8_depth 2 = .ok (.invokevirtual 131, 3) := by decide +kernel
theorem dX8_depth_5 : decode cX8_depth 5 = .ok (.ifCond .eq 22, 3) := by decide +kernel
theorem dX8_depth_8 : decode cX8_depth 8 = .ok (.aload_n 0, 1) := by decide +kernel
theorem dX8_depth_9 : decode cX8_depth 9 = .ok (.aload_n 0, 1) := by decide +kernel
theorem dX8_depth_10 : decode cX8_depth 10 = .ok (.getfield 7, 3) := by decide +kernel
theorem dX8_depth_13 : decode cX8_depth 13 = .ok (.iload_n 1, 1) := by decide +kernel
theorem dX8_depth_14 : decode cX8_depth 14 = .ok (.iaload, 1) := by decide +kernel
theorem dX8_depth_15 : decode cX8_depth 15 = .ok (.aload_n 0, 1) := by decide +kernel
theorem dX8_depth_16 : decode cX8_depth 16 = .ok (.getfield 13, 3) := by decide +kernel
theorem dX8_depth_19 : decode cX8_depth 19 = .ok (.iload_n 1, 1) := by decide +kernel
theorem dX8_depth_20 : decode cX8_depth 20 = .ok (.iaload, 1) := by decide +kernel
theorem dX8_depth_21 : decode cX8_depth 21 = .ok (.invokevirtual 154, 3) := by decide +kernel
theorem dX8_depth_24 : decode cX8_depth 24 = .ok (.goto 4, 3) := by decide +kernel
theorem dX8_depth_27 : decode cX8_depth 27 = .ok (.iconst (-1), 1) := by decide +kernel
theorem dX8_depth_28 : decode cX8_depth 28 = .ok (.ireturn, 1) := by decide +kernel
theorem dX8_step_0 : decode cX8_step 0 = .ok (.iload_n 1, 1) := by decide +kernel
theorem dX8_step_1 : decode cX8_step 1 = .ok (.istore_n 2, 1) := by decide +kernel
theorem dX8_step_2 : decode cX8_step 2 = .ok (.iconst 0, 1) := by decide +kernel
theorem dX8_step_3 : decode cX8_step 3 = .ok (.istore_n 3, 1) := by decide +kernel
theorem dX8_step_4 : decode cX8_step 4 = .ok (.iload_n 3, 1) := by decide +kernel
theorem dX8_step_5 : decode cX8_step 5 = .ok (.aload_n 0, 1) := by decide +kernel
theorem dX8_step_6 : decode cX8_step 6 = .ok (.getfield 29, 3) := by decide +kernel
theorem dX8_step_9 : decode cX8_step 9 = .ok (.if_icmp .ge 35, 3) := by decide +kernel
theorem dX8_step_12 : decode cX8_step 12 = .ok (.iload_n 2, 1) := by decide +kernel
theorem dX8_step_13 : decode cX8_step 13 = .ok (.aload_n 0, 1) := by decide +kernel
theorem dX8_step_14 : decode cX8_step 14 = .ok (.getfield 19, 3) := by decide +kernel
theorem dX8_step_17 : decode cX8_step 17 = .ok (.iload_n 3, 1) := by decide +kernel
theorem dX8_step_18 : decode cX8_step 18 = .ok (.iaload, 1) := by decide +kernel
theorem dX8_step_19 : decode cX8_step 19 = .ok (.if_icmp .ge 10, 3) := by decide +kernel
theorem dX8_step_22 : decode cX8_step 22 = .ok (.aload_n 0, 1) := by decide +kernel
theorem dX8_step_23 : decode cX8_step 23 = .ok (.getfield 22, 3) := by decide +kernel
theorem dX8_step_26 : decode cX8_step 26 = .ok (.iload_n 3, 1) := by decide +kernel
theorem dX8_step_27 : decode cX8_step 27 = .ok (.iaload, 1) := by decide +kernel
theorem dX8_step_28 : decode cX8_step 28 = .ok (.ireturn, 1) := by decide +kernel
theorem dX8_step_29 : decode cX8_step 29 = .ok (.iload_n 2, 1) := by decide +kernel
theorem dX8_step_30 : decode cX8_step 30 = .ok (.aload_n 0, 1) := by decide +kernel
theorem dX8_step_31 : decode cX8_step 31 = .ok (.getfield 19, 3) := by decide +kernel
theorem dX8_step_34 : decode cX8_step 34 = .ok (.iload_n 3, 1) := by decide +kernel
theorem dX8_step_35 : decode cX8_step 35 = .ok (.iaload, 1) := by decide +kernel
theorem dX8_step_36 : decode cX8_step 36 = .ok (.isub, 1) := by decide +kernel
theorem dX8_step_37 : decode cX8_step 37 = .ok (.istore_n 2, 1) := by decide +kernel
theorem dX8_step_38 : decode cX8_step 38 = .ok (.iinc 3 1, 3) := by decide +kernel
theorem dX8_step_41 : decode cX8_step 41 = .ok (.goto (-37), 3) := by decide +kernel
theorem dX8_step_44 : decode cX8_step 44 = .ok (.iconst (-1), 1) := by decide +kernel
theorem dX8_step_45 : decode cX8_step 45 = .ok (.ireturn, 1) := by decide +kernel
set_option maxRecDepth 20000 in
theorem ggX8_pathStep_X8_isRegister : GoodIn wsX8_pathStep wsX8_isRegister := goodIn_r _ [7, 8, 9, 10, 6, 11] (by decide +kernel) (by decide +kernel)
set_option maxRecDepth 20000 in
theorem gX8_pathStep_X8_isRegister : GoodIn wsX8_pathStep (wsV RX8 131 RX8 yX8_isRegister wsX8_isRegister) := goodIn_app (goodIn_of _ (by decide +kernel)) ggX8_pathStep_X8_isRegister
set_option maxRecDepth 20000 in
theorem ggX8_pathStep_X8_layRuns : GoodIn wsX8_pathStep wsX8_layRuns := goodIn_r _ [15, 16, 17, 18, 19, 20, 21, 22, 23, 6, 24, 29, 30, 31, 32, 33, 34, 35, 36, 37, 38, 39, 40, 41, 42, 43, 44, 45, 46, 47, 48, 49, 50, 51, 52, 53, 54, 55, 56, 57, 58, 59, 60, 61, 62, 63] (by decide +kernel) (by decide +kernel)
set_option maxRecDepth 20000 in
theorem gX8_pathStep_X8_layRuns : GoodIn wsX8_pathStep (wsV RX8 151 RX8 yX8_layRuns wsX8_layRuns) := goodIn_app (goodIn_of _ (by decide +kernel)) ggX8_pathStep_X8_layRuns
set_option maxRecDepth 20000 in
theorem ggX8_pathStep_X8_step : GoodIn wsX8_pathStep wsX8_step := goodIn_r _ [28, 16, 19, 20, 29, 30, 31, 32, 33, 34, 35, 36, 37, 38, 39, 40, 41, 42, 43, 44, 45, 46, 47, 48, 49, 50, 51, 52, 53, 54, 55, 56, 57, 58, 59, 60, 61, 62, 63] (by decide +kernel) (by decide +kernel)
set_option maxRecDepth 20000 in
theorem gX8_pathStep_X8_step : GoodIn wsX8_pathStep (wsV RX8 158 RX8 yX8_step wsX8_step) := goodIn_app (goodIn_of _ (by decide +kernel)) ggX8_pathStep_X8_step
theorem dX8_pathStep_0 : decode cX8_pathStep 0 = .ok (.aload_n 0, 1) := by decide +kernel
theorem dX8_pathStep_1 : decode cX8_pathStep 1 = .ok (.iload_n 1, 1) := by decide +kernel
theorem dX8_pathStep_2 : decode cX8_pathStep 2 = .ok (.invokevirtual 131, 3) := by decide +kernel
theorem dX8_pathStep_5 : decode cX8_pathStep 5 = .ok (.ifCond .eq 7, 3) := by decide +kernel
theorem dX8_pathStep_8 : decode cX8_pathStep 8 = .ok (.iload_n 2, 1) := by decide +kernel
theorem dX8_pathStep_9 : decode cX8_pathStep 9 = .ok (.ifCond .ge 5, 3) := by decide +kernel
theorem dX8_pathStep_12 : decode cX8_pathStep 12 = .ok (.iconst (-1), 1) := by decide +kernel
theorem dX8_pathStep_13 : decode cX8_pathStep 13 = .ok (.ireturn, 1) := by decide +kernel
theorem dX8_pathStep_14 : decode cX8_pathStep 14 = .ok (.aload_n 0, 1) := by decide +kernel
theorem dX8_pathStep_15 : decode cX8_pathStep 15 = .ok (.aload_n 0, 1) := by decide +kernel
theorem dX8_pathStep_16 : decode cX8_pathStep 16 = .ok (.getfield 7, 3) := by decide +kernel
theorem dX8_pathStep_19 : decode cX8_pathStep 19 = .ok (.iload_n 1, 1) := by decide +kernel
theorem dX8_pathStep_20 : decode cX8_pathStep 20 = .ok (.iaload, 1) := by decide +kernel
theorem dX8_pathStep_21 : decode cX8_pathStep 21 = .ok (.aload_n 0, 1) := by decide +kernel
theorem dX8_pathStep_22 : decode cX8_pathStep 22 = .ok (.getfield 13, 3) := by decide +kernel
theorem dX8_pathStep_25 : decode cX8_pathStep 25 = .ok (.iload_n 1, 1) := by decide +kernel
theorem dX8_pathStep_26 : decode cX8_pathStep 26 = .ok (.iaload, 1) := by decide +kernel
theorem dX8_pathStep_27 : decode cX8_pathStep 27 = .ok (.invokevirtual 151, 3) := by decide +kernel
theorem dX8_pathStep_30 : decode cX8_pathStep 30 = .ok (.aload_n 0, 1) := by decide +kernel
theorem dX8_pathStep_31 : decode cX8_pathStep 31 = .ok (.iload_n 2, 1) := by decide +kernel
theorem dX8_pathStep_32 : decode cX8_pathStep 32 = .ok (.invokevirtual 158, 3) := by decide +kernel
theorem dX8_pathStep_35 : decode cX8_pathStep 35 = .ok (.istore_n 3, 1) := by decide +kernel
theorem dX8_pathStep_36 : decode cX8_pathStep 36 = .ok (.iload_n 3, 1) := by decide +kernel
theorem dX8_pathStep_37 : decode cX8_pathStep 37 = .ok (.ifCond .ge 8, 3) := by decide +kernel
theorem dX8_pathStep_40 : decode cX8_pathStep 40 = .ok (.bipush (-2), 2) := by decide +kernel
theorem dX8_pathStep_42 : decode cX8_pathStep 42 = .ok (.goto 4, 3) := by decide +kernel
theorem dX8_pathStep_45 : decode cX8_pathStep 45 = .ok (.iload_n 3, 1) := by decide +kernel
theorem dX8_pathStep_46 : decode cX8_pathStep 46 = .ok (.ireturn, 1) := by decide +kernel
set_option maxRecDepth 20000 in
theorem ggX8_runCount_X8_isRegister : GoodIn wsX8_runCount wsX8_isRegister := goodIn_r _ [8, 9, 10, 11, 7, 12] (by decide +kernel) (by decide +kernel)
set_option maxRecDepth 20000 in
theorem gX8_runCount_X8_isRegister : GoodIn wsX8_runCount (wsV RX8 131 RX8 yX8_isRegister wsX8_isRegister) := goodIn_app (goodIn_of _ (by decide +kernel)) ggX8_runCount_X8_isRegister
set_option maxRecDepth 20000 in
theorem ggX8_runCount_X8_layRuns : GoodIn wsX8_runCount wsX8_layRuns := goodIn_r _ [16, 3, 17, 18, 19, 20, 21, 22, 23, 7, 24, 25, 26, 27, 28, 29, 30, 31, 32, 33, 34, 35, 36, 37, 38, 39, 40, 41, 42, 43, 44, 45, 46, 47, 48, 49, 50, 51, 52, 53, 54, 55, 56, 57, 58, 59] (by decide +kernel) (by decide +kernel)
set_option maxRecDepth 20000 in
theorem gX8_runCount_X8_layRuns : GoodIn wsX8_runCount (wsV RX8 151 RX8 yX8_layRuns wsX8_layRuns) := goodIn_app (goodIn_of _ (by decide +kernel)) ggX8_runCount_X8_layRuns
theorem dX8_runCount_0 : decode cX8_runCount 0 = .ok (.aload_n 0, 1) := by decide +kernel
theorem dX8_runCount_1 : decode cX8_runCount 1 = .ok (.iload_n 1, 1) := by decide +kernel
theorem dX8_runCount_2 : decode cX8_runCount 2 = .ok (.invokevirtual 131, 3) := by decide +kernel
theorem dX8_runCount_5 : decode cX8_runCount 5 = .ok (.ifCond .ne 5, 3) := by decide +kernel
theorem dX8_runCount_8 : decode cX8_runCount 8 = .ok (.iconst (-1), 1) := by decide +kernel
theorem dX8_runCount_9 : decode cX8_runCount 9 = .ok (.ireturn, 1) := by decide +kernel
theorem dX8_runCount_10 : decode cX8_runCount 10 = .ok (.aload_n 0, 1) := by decide +kernel
theorem dX8_runCount_11 : decode cX8_runCount 11 = .ok (.aload_n 0, 1) := by decide +kernel
theorem dX8_runCount_12 : decode cX8_runCount 12 = .ok (.getfield 7, 3) := by decide +kernel
theorem dX8_runCount_15 : decode cX8_runCount 15 = .ok (.iload_n 1, 1) := by decide +kernel
theorem dX8_runCount_16 : decode cX8_runCount 16 = .ok (.iaload, 1) := by decide +kernel
theorem dX8_runCount_17 : decode cX8_runCount 17 = .ok (.aload_n 0, 1) := by decide +kernel
theorem dX8_runCount_18 : decode cX8_runCount 18 = .ok (.getfield 13, 3) := by decide +kernel
theorem dX8_runCount_21 : decode cX8_runCount 21 = .ok (.iload_n 1, 1) := by decide +kernel
theorem dX8_runCount_22 : decode cX8_runCount 22 = .ok (.iaload, 1) := by decide +kernel
theorem dX8_runCount_23 : decode cX8_runCount 23 = .ok (.invokevirtual 151, 3) := by decide +kernel
theorem dX8_runCount_26 : decode cX8_runCount 26 = .ok (.aload_n 0, 1) := by decide +kernel
theorem dX8_runCount_27 : decode cX8_runCount 27 = .ok (.getfield 29, 3) := by decide +kernel
theorem dX8_runCount_30 : decode cX8_runCount 30 = .ok (.ireturn, 1) := by decide +kernel
set_option maxRecDepth 20000 in
theorem ggX8_run_X8_isRegister : GoodIn wsX8_run wsX8_isRegister := goodIn_r _ [9, 10, 11, 12, 8, 13] (by decide +kernel) (by decide +kernel)
set_option maxRecDepth 20000 in
theorem gX8_run_X8_isRegister : GoodIn wsX8_run (wsV RX8 131 RX8 yX8_isRegister wsX8_isRegister) := goodIn_app (goodIn_of _ (by decide +kernel)) ggX8_run_X8_isRegister
set_option maxRecDepth 20000 in
theorem ggX8_run_X8_layRuns : GoodIn wsX8_run wsX8_layRuns := goodIn_r _ [17, 3, 18, 19, 4, 20, 21, 22, 23, 8, 24, 25, 26, 27, 28, 29, 30, 31, 32, 33, 34, 35, 36, 37, 38, 39, 40, 41, 42, 43, 44, 45, 46, 47, 48, 49, 50, 51, 52, 53, 54, 55, 56, 57, 58, 59] (by decide +kernel) (by decide +kernel)
set_option maxRecDepth 20000 in
theorem gX8_run_X8_layRuns : GoodIn wsX8_run (wsV RX8 151 RX8 yX8_layRuns wsX8_layRuns) := goodIn_app (goodIn_of _ (by decide +kernel)) ggX8_run_X8_layRuns
theorem dX8_run_0 : decode cX8_run 0 = .ok (.aload_n 0, 1) := by decide +kernel
theorem dX8_run_1 : decode cX8_run 1 = .ok (.iload_n 1, 1) := by decide +kernel
theorem dX8_run_2 : decode cX8_run 2 = .ok (.invokevirtual 131, 3) := by decide +kernel
theorem dX8_run_5 : decode cX8_run 5 = .ok (.ifCond .eq 7, 3) := by decide +kernel
theorem dX8_run_8 : decode cX8_run 8 = .ok (.iload_n 2, 1) := by decide +kernel
theorem dX8_run_9 : decode cX8_run 9 = .ok (.ifCond .ge 5, 3) := by decide +kernel
theorem dX8_run_12 : decode cX8_run 12 = .ok (.iconst (-1), 1) := by decide +kernel
theorem dX8_run_13 : decode cX8_run 13 = .ok (.ireturn, 1) := by decide +kernel
theorem dX8_run_14 : decode cX8_run 14 = .ok (.aload_n 0, 1) := by decide +kernel
theorem dX8_run_15 : decode cX8_run 15 = .ok (.aload_n 0, 1) := by decide +kernel
theorem dX8_run_16 : decode cX8_run 16 = .ok (.getfield 7, 3) := by decide +kernel
theorem dX8_run_19 : decode cX8_run 19 = .ok (.iload_n 1, 1) := by decide +kernel
theorem dX8_run_20 : decode cX8_run 20 = .ok (.iaload, 1) := by decide +kernel
theorem dX8_run_21 : decode cX8_run 21 = .ok (.aload_n 0, 1) := by decide +kernel
theorem dX8_run_22 : decode cX8_run 22 = .ok (.getfield 13, 3) := by decide +kernel
theorem dX8_run_25 : decode cX8_run 25 = .ok (.iload_n 1, 1) := by decide +kernel
theorem dX8_run_26 : decode cX8_run 26 = .ok (.iaload, 1) := by decide +kernel
theorem dX8_run_27 : decode cX8_run 27 = .ok (.invokevirtual 151, 3) := by decide +kernel
theorem dX8_run_30 : decode cX8_run 30 = .ok (.iload_n 2, 1) := by decide +kernel
theorem dX8_run_31 : decode cX8_run 31 = .ok (.aload_n 0, 1) := by decide +kernel
theorem dX8_run_32 : decode cX8_run 32 = .ok (.getfield 29, 3) := by decide +kernel
theorem dX8_run_35 : decode cX8_run 35 = .ok (.if_icmp .ge 12, 3) := by decide +kernel
theorem dX8_run_38 : decode cX8_run 38 = .ok (.aload_n 0, 1) := by decide +kernel
theorem dX8_run_39 : decode cX8_run 39 = .ok (.getfield 19, 3) := by decide +kernel
theorem dX8_run_42 : decode cX8_run 42 = .ok (.iload_n 2, 1) := by decide +kernel
theorem dX8_run_43 : decode cX8_run 43 = .ok (.iaload, 1) := by decide +kernel
theorem dX8_run_44 : decode cX8_run 44 = .ok (.goto 5, 3) := by decide +kernel
theorem dX8_run_47 : decode cX8_run 47 = .ok (.bipush (-2), 2) := by decide +kernel
theorem dX8_run_49 : decode cX8_run 49 = .ok (.ireturn, 1) := by decide +kernel
theorem dX8_toRoot_0 : decode cX8_toRoot 0 = .ok (.aload_n 0, 1) := by decide +kernel
theorem dX8_toRoot_1 : decode cX8_toRoot 1 = .ok (.lconst 0, 1) := by decide +kernel
theorem dX8_toRoot_2 : decode cX8_toRoot 2 = .ok (.putfield 32, 3) := by decide +kernel
theorem dX8_toRoot_5 : decode cX8_toRoot 5 = .ok (.aload_n 0, 1) := by decide +kernel
theorem dX8_toRoot_6 : decode cX8_toRoot 6 = .ok (.lconst 1, 1) := by decide +kernel
theorem dX8_toRoot_7 : decode cX8_toRoot 7 = .ok (.putfield 36, 3) := by decide +kernel
theorem dX8_toRoot_10 : decode cX8_toRoot 10 = .ok (.aload_n 0, 1) := by decide +kernel
theorem dX8_toRoot_11 : decode cX8_toRoot 11 = .ok (.lconst 1, 1) := by decide +kernel
theorem dX8_toRoot_12 : decode cX8_toRoot 12 = .ok (.putfield 39, 3) := by decide +kernel
theorem dX8_toRoot_15 : decode cX8_toRoot 15 = .ok (.aload_n 0, 1) := by decide +kernel
theorem dX8_toRoot_16 : decode cX8_toRoot 16 = .ok (.lconst 0, 1) := by decide +kernel
theorem dX8_toRoot_17 : decode cX8_toRoot 17 = .ok (.putfield 42, 3) := by decide +kernel
theorem dX8_toRoot_20 : decode cX8_toRoot 20 = .ok (.return_, 1) := by decide +kernel
theorem dX8_goRight_0 : decode cX8_goRight 0 = .ok (.aload_n 0, 1) := by decide +kernel
theorem dX8_goRight_1 : decode cX8_goRight 1 = .ok (.dup, 1) := by decide +kernel
theorem dX8_goRight_2 : decode cX8_goRight 2 = .ok (.getfield 32, 3) := by decide +kernel
theorem dX8_goRight_5 : decode cX8_goRight 5 = .ok (.lload_n 1, 1) := by decide +kernel
theorem dX8_goRight_6 : decode cX8_goRight 6 = .ok (.aload_n 0, 1) := by decide +kernel
theorem dX8_goRight_7 : decode cX8_goRight 7 = .ok (.getfield 39, 3) := by decide +kernel
theorem dX8_goRight_10 : decode cX8_goRight 10 = .ok (.lmul, 1) := by decide +kernel
theorem dX8_goRight_11 : decode cX8_goRight 11 = .ok (.ladd, 1) := by decide +kernel
theorem dX8_goRight_12 : decode cX8_goRight 12 = .ok (.putfield 32, 3) := by decide +kernel
theorem dX8_goRight_15 : decode cX8_goRight 15 = .ok (.aload_n 0, 1) := by decide +kernel
theorem dX8_goRight_16 : decode cX8_goRight 16 = .ok (.dup, 1) := by decide +kernel
theorem dX8_goRight_17 : decode cX8_goRight 17 = .ok (.getfield 36, 3) := by decide +kernel
theorem dX8_goRight_20 : decode cX8_goRight 20 = .ok (.lload_n 1, 1) := by decide +kernel
theorem dX8_goRight_21 : decode cX8_goRight 21 = .ok (.aload_n 0, 1) := by decide +kernel
theorem dX8_goRight_22 : decode cX8_goRight 22 = .ok (.getfield 42, 3) := by decide +kernel
theorem dX8_goRight_25 : decode cX8_goRight 25 = .ok (.lmul, 1) := by decide +kernel
theorem dX8_goRight_26 : decode cX8_goRight 26 = .ok (.ladd, 1) := by decide +kernel
theorem dX8_goRight_27 : decode cX8_goRight 27 = .ok (.putfield 36, 3) := by decide +kernel
theorem dX8_goRight_30 : decode cX8_goRight 30 = .ok (.return_, 1) := by decide +kernel
theorem dX8_goLeft_0 : decode cX8_goLeft 0 = .ok (.aload_n 0, 1) := by decide +kernel
theorem dX8_goLeft_1 : decode cX8_goLeft 1 = .ok (.dup, 1) := by decide +kernel
theorem dX8_goLeft_2 : decode cX8_goLeft 2 = .ok (.getfield 39, 3) := by decide +kernel
theorem dX8_goLeft_5 : decode cX8_goLeft 5 = .ok (.lload_n 1, 1) := by decide +kernel
theorem dX8_goLeft_6 : decode cX8_goLeft 6 = .ok (.aload_n 0, 1) := by decide +kernel
theorem dX8_goLeft_7 : decode cX8_goLeft 7 = .ok (.getfield 32, 3) := by decide +kernel
theorem dX8_goLeft_10 : decode cX8_goLeft 10 = .ok (.lmul, 1) := by decide +kernel
theorem dX8_goLeft_11 : decode cX8_goLeft 11 = .ok (.ladd, 1) := by decide +kernel
theorem dX8_goLeft_12 : decode cX8_goLeft 12 = .ok (.putfield 39, 3) := by decide +kernel
theorem dX8_goLeft_15 : decode cX8_goLeft 15 = .ok (.aload_n 0, 1) := by decide +kernel
theorem dX8_goLeft_16 : decode cX8_goLeft 16 = .ok (.dup, 1) := by decide +kernel
theorem dX8_goLeft_17 : decode cX8_goLeft 17 = .ok (.getfield 42, 3) := by decide +kernel
theorem dX8_goLeft_20 : decode cX8_goLeft 20 = .ok (.lload_n 1, 1) := by decide +kernel
theorem dX8_goLeft_21 : decode cX8_goLeft 21 = .ok (.aload_n 0, 1) := by decide +kernel
theorem dX8_goLeft_22 : decode cX8_goLeft 22 = .ok (.getfield 36, 3) := by decide +kernel
theorem dX8_goLeft_25 : decode cX8_goLeft 25 = .ok (.lmul, 1) := by decide +kernel
theorem dX8_goLeft_26 : decode cX8_goLeft 26 = .ok (.ladd, 1) := by decide +kernel
theorem dX8_goLeft_27 : decode cX8_goLeft 27 = .ok (.putfield 42, 3) := by decide +kernel
theorem dX8_goLeft_30 : decode cX8_goLeft 30 = .ok (.return_, 1) := by decide +kernel
set_option maxRecDepth 20000 in
theorem ggX8_goDown_X8_toRoot : GoodIn wsX8_goDown wsX8_toRoot := goodIn_r _ [8, 9, 10, 11, 12, 21, 22, 23, 24, 25, 26, 27, 28, 29, 30, 31, 32, 33, 34, 35, 36, 37, 38, 39, 40, 41, 42, 43, 44, 45, 46, 47, 48, 49, 50, 51, 52, 53, 54, 55] (by decide +kernel) (by decide +kernel)
set_option maxRecDepth 20000 in
theorem gX8_goDown_X8_toRoot : GoodIn wsX8_goDown (wsV RX8 162 RX8 yX8_toRoot wsX8_toRoot) := goodIn_app (goodIn_of _ (by decide +kernel)) ggX8_goDown_X8_toRoot
set_option maxRecDepth 20000 in
theorem ggX8_goDown_X8_goRight : GoodIn wsX8_goDown wsX8_goRight := goodIn_r _ [16, 9, 11, 10, 12, 21, 22, 23, 24, 25, 26, 27, 28, 29, 30, 31, 32, 33, 34, 35, 36, 37, 38, 39, 40, 41, 42, 43, 44, 45, 46, 47, 48, 49, 50, 51, 52, 53, 54, 55] (by decide +kernel) (by decide +kernel)
set_option maxRecDepth 20000 in
theorem gX8_goDown_X8_goRight : GoodIn wsX8_goDown (wsV RX8 165 RX8 yX8_goRight wsX8_goRight) := goodIn_app (goodIn_of _ (by decide +kernel)) ggX8_goDown_X8_goRight
set_option maxRecDepth 20000 in
theorem ggX8_goDown_X8_goLeft : GoodIn wsX8_goDown wsX8_goLeft := goodIn_r _ [20, 11, 9, 12, 10, 21, 22, 23, 24, 25, 26, 27, 28, 29, 30, 31, 32, 33, 34, 35, 36, 37, 38, 39, 40, 41, 42, 43, 44, 45, 46, 47, 48, 49, 50, 51, 52, 53, 54, 55] (by decide +kernel) (by decide +kernel)
set_option maxRecDepth 20000 in
theorem gX8_goDown_X8_goLeft : GoodIn wsX8_goDown (wsV RX8 169 RX8 yX8_goLeft wsX8_goLeft) := goodIn_app (goodIn_of _ (by decide +kernel)) ggX8_goDown_X8_goLeft
theorem dX8_goDown_0 : decode cX8_goDown 0 = .ok (.aload_n 0, 1) := by decide +kernel
theorem dX8_goDown_1 : decode cX8_goDown 1 = .ok (.invokevirtual 162, 3) := by decide +kernel
theorem dX8_goDown_4 : decode cX8_goDown 4 = .ok (.iload_n 1, 1) := by decide +kernel
theorem dX8_goDown_5 : decode cX8_goDown 5 = .ok (.istore_n 2, 1) := by decide +kernel
theorem dX8_goDown_6 : decode cX8_goDown 6 = .ok (.iconst 0, 1) := by decide +kernel
theorem dX8_goDown_7 : decode cX8_goDown 7 = .ok (.istore_n 3, 1) := by decide +kernel
theorem dX8_goDown_8 : decode cX8_goDown 8 = .ok (.iload_n 3, 1) := by decide +kernel
theorem dX8_goDown_9 : decode cX8_goDown 9 = .ok (.aload_n 0, 1) := by decide +kernel
theorem dX8_goDown_10 : decode cX8_goDown 10 = .ok (.getfield 29, 3) := by decide +kernel
theorem dX8_goDown_13 : decode cX8_goDown 13 = .ok (.if_icmp .ge 67, 3) := by decide +kernel
theorem dX8_goDown_16 : decode cX8_goDown 16 = .ok (.iload_n 2, 1) := by decide +kernel
theorem dX8_goDown_17 : decode cX8_goDown 17 = .ok (.ifCond .le 63, 3) := by decide +kernel
theorem dX8_goDown_20 : decode cX8_goDown 20 = .ok (.iload_n 2, 1) := by decide +kernel
theorem dX8_goDown_21 : decode cX8_goDown 21 = .ok (.aload_n 0, 1) := by decide +kernel
theorem dX8_goDown_22 : decode cX8_goDown 22 = .ok (.getfield 19, 3) := by decide +kernel
theorem dX8_goDown_25 : decode cX8_goDown 25 = .ok (.iload_n 3, 1) := by decide +kernel
theorem dX8_goDown_26 : decode cX8_goDown 26 = .ok (.iaload, 1) := by decide +kernel
theorem dX8_goDown_27 : decode cX8_goDown 27 = .ok (.if_icmp .ge 7, 3) := by decide +kernel
theorem dX8_goDown_30 : decode cX8_goDown 30 = .ok (.iload_n 2, 1) := by decide +kernel
theorem dX8_goDown_31 : decode cX8_goDown 31 = .ok (.goto 9, 3) := by decide +kernel
theorem dX8_goDown_34 : decode cX8_goDown 34 = .ok (.aload_n 0, 1) := by decide +kernel
theorem dX8_goDown_35 : decode cX8_goDown 35 = .ok (.getfield 19, 3) := by decide +kernel
theorem dX8_goDown_38 : decode cX8_goDown 38 = .ok (.iload_n 3, 1) := by decide +kernel
theorem dX8_goDown_39 : decode cX8_goDown 39 = .ok (.iaload, 1) := by decide +kernel
theorem dX8_goDown_40 : decode cX8_goDown 40 = .ok (.istore 4, 2) := by decide +kernel
theorem dX8_goDown_42 : decode cX8_goDown 42 = .ok (.aload_n 0, 1) := by decide +kernel
theorem dX8_goDown_43 : decode cX8_goDown 43 = .ok (.getfield 22, 3) := by decide +kernel
theorem dX8_goDown_46 : decode cX8_goDown 46 = .ok (.iload_n 3, 1) := by decide +kernel
theorem dX8_goDown_47 : decode cX8_goDown 47 = .ok (.iaload, 1) := by decide +kernel
theorem dX8_goDown_48 : decode cX8_goDown 48 = .ok (.iconst 1, 1) := by decide +kernel
theorem dX8_goDown_49 : decode cX8_goDown 49 = .ok (.if_icmp .ne 13, 3) := by decide +kernel
theorem dX8_goDown_52 : decode cX8_goDown 52 = .ok (.aload_n 0, 1) := by decide +kernel
theorem dX8_goDown_53 : decode cX8_goDown 53 = .ok (.iload 4, 2) := by decide +kernel
theorem dX8_goDown_55 : decode cX8_goDown 55 = .ok (.i2l, 1) := by decide +kernel
theorem dX8_goDown_56 : decode cX8_goDown 56 = .ok (.invokevirtual 165, 3) := by decide +kernel
theorem dX8_goDown_59 : decode cX8_goDown 59 = .ok (.goto 10, 3) := by decide +kernel
theorem dX8_goDown_62 : decode cX8_goDown 62 = .ok (.aload_n 0, 1) := by decide +kernel
theorem dX8_goDown_63 : decode cX8_goDown 63 = .ok (.iload 4, 2) := by decide +kernel
theorem dX8_goDown_65 : decode cX8_goDown 65 = .ok (.i2l, 1) := by decide +kernel
theorem dX8_goDown_66 : decode cX8_goDown 66 = .ok (.invokevirtual 169, 3) := by decide +kernel
theorem dX8_goDown_69 : decode cX8_goDown 69 = .ok (.iload_n 2, 1) := by decide +kernel
theorem dX8_goDown_70 : decode cX8_goDown 70 = .ok (.iload 4, 2) := by decide +kernel
theorem dX8_goDown_72 : decode cX8_goDown 72 = .ok (.isub, 1) := by decide +kernel
theorem dX8_goDown_73 : decode cX8_goDown 73 = .ok (.istore_n 2, 1) := by decide +kernel
theorem dX8_goDown_74 : decode cX8_goDown 74 = .ok (.iinc 3 1, 3) := by decide +kernel
theorem dX8_goDown_77 : decode cX8_goDown 77 = .ok (.goto (-69), 3) := by decide +kernel
theorem dX8_goDown_80 : decode cX8_goDown 80 = .ok (.return_, 1) := by decide +kernel
set_option maxRecDepth 20000 in
theorem ggX8_ancestor_X8_isRegister : GoodIn wsX8_ancestor wsX8_isRegister := goodIn_r _ [11, 12, 13, 14, 10, 15] (by decide +kernel) (by decide +kernel)
set_option maxRecDepth 20000 in
theorem gX8_ancestor_X8_isRegister : GoodIn wsX8_ancestor (wsV RX8 131 RX8 yX8_isRegister wsX8_isRegister) := goodIn_app (goodIn_of _ (by decide +kernel)) ggX8_ancestor_X8_isRegister
set_option maxRecDepth 20000 in
theorem ggX8_ancestor_X8_depthOf : GoodIn wsX8_ancestor wsX8_depthOf := goodIn_r _ [19, 20, 21, 22, 23, 24, 10, 25, 26, 27, 28, 29, 30, 31, 32, 58, 59, 60, 61, 62, 63, 64, 65, 66, 67, 68, 69, 70, 71, 72, 73, 74, 75, 76, 77, 78, 79, 80, 81, 82, 83, 84, 85, 86, 87, 88, 89, 90, 91, 92] (by decide +kernel) (by decide +kernel)
set_option maxRecDepth 20000 in
theorem gX8_ancestor_X8_depthOf : GoodIn wsX8_ancestor (wsV RX8 154 RX8 yX8_depthOf wsX8_depthOf) := goodIn_app (goodIn_of _ (by decide +kernel)) ggX8_ancestor_X8_depthOf
set_option maxRecDepth 20000 in
theorem ggX8_ancestor_X8_goDown : GoodIn wsX8_ancestor wsX8_goDown := goodIn_r _ [36, 20, 21, 28, 37, 38, 39, 10, 40, 3, 5, 4, 6, 41, 42, 43, 44, 45, 46, 47, 48, 58, 59, 60, 61, 62, 63, 64, 65, 66, 67, 68, 69, 70, 71, 72, 73, 74, 75, 76, 77, 78, 79, 80, 81, 82, 83, 84, 85, 86, 87, 88, 89, 90, 91, 92] (by decide +kernel) (by decide +kernel)
set_option maxRecDepth 20000 in
theorem gX8_ancestor_X8_goDown : GoodIn wsX8_ancestor (wsV RX8 172 RX8 yX8_goDown wsX8_goDown) := goodIn_app (goodIn_of _ (by decide +kernel)) ggX8_ancestor_X8_goDown
set_option maxRecDepth 20000 in
theorem ggX8_ancestor_X8_put : GoodIn wsX8_ancestor wsX8_put := goodIn_r _ [52, 53, 1, 2, 54, 55, 56, 10, 57, 58, 59, 60, 61, 62, 63, 64, 65, 66, 67, 68, 69, 70, 71, 72, 73, 74, 75, 76, 77, 78, 79, 80, 81, 82, 83, 84, 85, 86, 87, 88, 89, 90, 91, 92] (by decide +kernel) (by decide +kernel)
set_option maxRecDepth 20000 in
theorem gX8_ancestor_X8_put : GoodIn wsX8_ancestor (wsV RX8 135 RX8 yX8_put wsX8_put) := goodIn_app (goodIn_of _ (by decide +kernel)) ggX8_ancestor_X8_put
theorem dX8_ancestor_0 : decode cX8_ancestor 0 = .ok (.aload_n 0, 1) := by decide +kernel
theorem dX8_ancestor_1 : decode cX8_ancestor 1 = .ok (.iload_n 1, 1) := by decide +kernel
theorem dX8_ancestor_2 : decode cX8_ancestor 2 = .ok (.invokevirtual 131, 3) := by decide +kernel
theorem dX8_ancestor_5 : decode cX8_ancestor 5 = .ok (.ifCond .eq 15, 3) := by decide +kernel
theorem dX8_ancestor_8 : decode cX8_ancestor 8 = .ok (.aload_n 0, 1) := by decide +kernel
theorem dX8_ancestor_9 : decode cX8_ancestor 9 = .ok (.iload_n 2, 1) := by decide +kernel
theorem dX8_ancestor_10 : decode cX8_ancestor 10 = .ok (.invokevirtual 131, 3) := by decide +kernel
theorem dX8_ancestor_13 : decode cX8_ancestor 13 = .ok (.ifCond .eq 7, 3) := by decide +kernel
theorem dX8_ancestor_16 : decode cX8_ancestor 16 = .ok (.iload_n 3, 1) := by decide +kernel
theorem dX8_ancestor_17 : decode cX8_ancestor 17 = .ok (.ifCond .ge 5, 3) := by decide +kernel
theorem dX8_ancestor_20 : decode cX8_ancestor 20 = .ok (.iconst (-1), 1) := by decide +kernel
theorem dX8_ancestor_21 : decode cX8_ancestor 21 = .ok (.ireturn, 1) := by decide +kernel
theorem dX8_ancestor_22 : decode cX8_ancestor 22 = .ok (.iload_n 3, 1) := by decide +kernel
theorem dX8_ancestor_23 : decode cX8_ancestor 23 = .ok (.aload_n 0, 1) := by decide +kernel
theorem dX8_ancestor_24 : decode cX8_ancestor 24 = .ok (.aload_n 0, 1) := by decide +kernel
theorem dX8_ancestor_25 : decode cX8_ancestor 25 = .ok (.getfield 7, 3) := by decide +kernel
theorem dX8_ancestor_28 : decode cX8_ancestor 28 = .ok (.iload_n 2, 1) := by decide +kernel
theorem dX8_ancestor_29 : decode cX8_ancestor 29 = .ok (.iaload, 1) := by decide +kernel
theorem dX8_ancestor_30 : decode cX8_ancestor 30 = .ok (.aload_n 0, 1) := by decide +kernel
theorem dX8_ancestor_31 : decode cX8_ancestor 31 = .ok (.getfield 13, 3) := by decide +kernel
theorem dX8_ancestor_34 : decode cX8_ancestor 34 = .ok (.iload_n 2, 1) := by decide +kernel
theorem dX8_ancestor_35 : decode cX8_ancestor 35 = .ok (.iaload, 1) := by decide +kernel
theorem dX8_ancestor_36 : decode cX8_ancestor 36 = .ok (.invokevirtual 154, 3) := by decide +kernel
theorem dX8_ancestor_39 : decode cX8_ancestor 39 = .ok (.if_icmp .le 6, 3) := by decide +kernel
theorem dX8_ancestor_42 : decode cX8_ancestor 42 = .ok (.bipush (-2), 2) := by decide +kernel
theorem dX8_ancestor_44 : decode cX8_ancestor 44 = .ok (.ireturn, 1) := by decide +kernel
theorem dX8_ancestor_45 : decode cX8_ancestor 45 = .ok (.aload_n 0, 1) := by decide +kernel
theorem dX8_ancestor_46 : decode cX8_ancestor 46 = .ok (.iload_n 3, 1) := by decide +kernel
theorem dX8_ancestor_47 : decode cX8_ancestor 47 = .ok (.invokevirtual 172, 3) := by decide +kernel
theorem dX8_ancestor_50 : decode cX8_ancestor 50 = .ok (.aload_n 0, 1) := by decide +kernel
theorem dX8_ancestor_51 : decode cX8_ancestor 51 = .ok (.iload_n 1, 1) := by decide +kernel
theorem dX8_ancestor_52 : decode cX8_ancestor 52 = .ok (.aload_n 0, 1) := by decide +kernel
theorem dX8_ancestor_53 : decode cX8_ancestor 53 = .ok (.getfield 32, 3) := by decide +kernel
theorem dX8_ancestor_56 : decode cX8_ancestor 56 = .ok (.aload_n 0, 1) := by decide +kernel
theorem dX8_ancestor_57 : decode cX8_ancestor 57 = .ok (.getfield 39, 3) := by decide +kernel
theorem dX8_ancestor_60 : decode cX8_ancestor 60 = .ok (.ladd, 1) := by decide +kernel
theorem dX8_ancestor_61 : decode cX8_ancestor 61 = .ok (.aload_n 0, 1) := by decide +kernel
theorem dX8_ancestor_62 : decode cX8_ancestor 62 = .ok (.getfield 36, 3) := by decide +kernel
theorem dX8_ancestor_65 : decode cX8_ancestor 65 = .ok (.aload_n 0, 1) := by decide +kernel
theorem dX8_ancestor_66 : decode cX8_ancestor 66 = .ok (.getfield 42, 3) := by decide +kernel
theorem dX8_ancestor_69 : decode cX8_ancestor 69 = .ok (.ladd, 1) := by decide +kernel
theorem dX8_ancestor_70 : decode cX8_ancestor 70 = .ok (.invokevirtual 135, 3) := by decide +kernel
theorem dX8_ancestor_73 : decode cX8_ancestor 73 = .ok (.ireturn, 1) := by decide +kernel
set_option maxRecDepth 20000 in
theorem ggX8_isSide_X8_within : GoodIn wsX8_isSide wsX8_within := goodIn_r _ [4] (by decide +kernel) (by decide +kernel)
set_option maxRecDepth 20000 in
theorem gX8_isSide_X8_within : GoodIn wsX8_isSide (va_wsS RX8 121 yX8_within wsX8_within) := goodIn_app (goodIn_of _ (by decide +kernel)) ggX8_isSide_X8_within
theorem dX8_isSide_0 : decode cX8_isSide 0 = .ok (.iload_n 1, 1) := by decide +kernel
theorem dX8_isSide_1 : decode cX8_isSide 1 = .ok (.i2l, 1) := by decide +kernel
theorem dX8_isSide_2 : decode cX8_isSide 2 = .ok (.lconst 0, 1) := by decide +kernel
theorem dX8_isSide_3 : decode cX8_isSide 3 = .ok (.lconst 1, 1) := by decide +kernel
theorem dX8_isSide_4 : decode cX8_isSide 4 = .ok (.invokestatic 121, 3) := by decide +kernel
theorem dX8_isSide_7 : decode cX8_isSide 7 = .ok (.ireturn, 1) := by decide +kernel
set_option maxRecDepth 20000 in
theorem ggX8_bound_X8_isRegister : GoodIn wsX8_bound wsX8_isRegister := goodIn_r _ [11, 12, 13, 14, 10, 15] (by decide +kernel) (by decide +kernel)
set_option maxRecDepth 20000 in
theorem gX8_bound_X8_isRegister : GoodIn wsX8_bound (wsV RX8 131 RX8 yX8_isRegister wsX8_isRegister) := goodIn_app (goodIn_of _ (by decide +kernel)) ggX8_bound_X8_isRegister
set_option maxRecDepth 20000 in
theorem ggX8_bound_X8_isSide : GoodIn wsX8_bound wsX8_isSide := goodIn_r _ [19, 13, 14, 10, 15] (by decide +kernel) (by decide +kernel)
set_option maxRecDepth 20000 in
theorem gX8_bound_X8_isSide : GoodIn wsX8_bound (wsV RX8 176 RX8 yX8_isSide wsX8_isSide) := goodIn_app (goodIn_of _ (by decide +kernel)) ggX8_bound_X8_isSide
set_option maxRecDepth 20000 in
theorem ggX8_bound_X8_depthOf : GoodIn wsX8_bound wsX8_depthOf := goodIn_r _ [23, 24, 25, 26, 27, 28, 10, 29, 30, 31, 32, 33, 34, 35, 36, 62, 63, 64, 65, 66, 67, 68, 69, 70, 71, 72, 73, 74, 75, 76, 77, 78, 79, 80, 81, 82, 83, 84, 85, 86, 87, 88, 89, 90, 91, 92, 93, 94, 95, 96] (by decide +kernel) (by decide +kernel)
set_option maxRecDepth 20000 in
theorem gX8_bound_X8_depthOf : GoodIn wsX8_bound (wsV RX8 154 RX8 yX8_depthOf wsX8_depthOf) := goodIn_app (goodIn_of _ (by decide +kernel)) ggX8_bound_X8_depthOf
set_option maxRecDepth 20000 in
theorem ggX8_bound_X8_goDown : GoodIn wsX8_bound wsX8_goDown := goodIn_r _ [40, 24, 25, 32, 41, 42, 43, 10, 44, 3, 5, 4, 6, 45, 46, 47, 48, 49, 50, 51, 52, 62, 63, 64, 65, 66, 67, 68, 69, 70, 71, 72, 73, 74, 75, 76, 77, 78, 79, 80, 81, 82, 83, 84, 85, 86, 87, 88, 89, 90, 91, 92, 93, 94, 95, 96] (by decide +kernel) (by decide +kernel)
set_option maxRecDepth 20000 in
theorem gX8_bound_X8_goDown : GoodIn wsX8_bound (wsV RX8 172 RX8 yX8_goDown wsX8_goDown) := goodIn_app (goodIn_of _ (by decide +kernel)) ggX8_bound_X8_goDown
set_option maxRecDepth 20000 in
theorem ggX8_bound_X8_put : GoodIn wsX8_bound wsX8_put := goodIn_r _ [56, 57, 1, 2, 58, 59, 60, 10, 61, 62, 63, 64, 65, 66, 67, 68, 69, 70, 71, 72, 73, 74, 75, 76, 77, 78, 79, 80, 81, 82, 83, 84, 85, 86, 87, 88, 89, 90, 91, 92, 93, 94, 95, 96] (by decide +kernel) (by decide +kernel)
set_option maxRecDepth 20000 in
theorem gX8_bound_X8_put : GoodIn wsX8_bound (wsV RX8 135 RX8 yX8_put wsX8_put) := goodIn_app (goodIn_of _ (by decide +kernel)) ggX8_bound_X8_put
theorem dX8_bound_0 : decode cX8_bound 0 = .ok (.aload_n 0, 1) := by decide +kernel
theorem dX8_bound_1 : decode cX8_bound 1 = .ok (.iload_n 1, 1) := by decide +kernel
theorem dX8_bound_2 : decode cX8_bound 2 = .ok (.invokevirtual 131, 3) := by decide +kernel
theorem dX8_bound_5 : decode cX8_bound 5 = .ok (.ifCond .eq 19, 3) := by decide +kernel
theorem dX8_bound_8 : decode cX8_bound 8 = .ok (.aload_n 0, 1) := by decide +kernel
theorem dX8_bound_9 : decode cX8_bound 9 = .ok (.iload_n 2, 1) := by decide +kernel
theorem dX8_bound_10 : decode cX8_bound 10 = .ok (.invokevirtual 131, 3) := by decide +kernel
theorem dX8_bound_13 : decode cX8_bound 13 = .ok (.ifCond .eq 11, 3) := by decide +kernel
theorem dX8_bound_16 : decode cX8_bound 16 = .ok (.aload_n 0, 1) := by decide +kernel
theorem dX8_bound_17 : decode cX8_bound 17 = .ok (.iload_n 3, 1) := by decide +kernel
theorem dX8_bound_18 : decode cX8_bound 18 = .ok (.invokevirtual 176, 3) := by decide +kernel
theorem dX8_bound_21 : decode cX8_bound 21 = .ok (.ifCond .ne 5, 3) := by decide +kernel
theorem dX8_bound_24 : decode cX8_bound 24 = .ok (.iconst (-1), 1) := by decide +kernel
theorem dX8_bound_25 : decode cX8_bound 25 = .ok (.ireturn, 1) := by decide +kernel
theorem dX8_bound_26 : decode cX8_bound 26 = .ok (.aload_n 0, 1) := by decide +kernel
theorem dX8_bound_27 : decode cX8_bound 27 = .ok (.aload_n 0, 1) := by decide +kernel
theorem dX8_bound_28 : decode cX8_bound 28 = .ok (.aload_n 0, 1) := by decide +kernel
theorem dX8_bound_29 : decode cX8_bound 29 = .ok (.getfield 7, 3) := by decide +kernel
theorem dX8_bound_32 : decode cX8_bound 32 = .ok (.iload_n 2, 1) := by decide +kernel
theorem dX8_bound_33 : decode cX8_bound 33 = .ok (.iaload, 1) := by decide +kernel
theorem dX8_bound_34 : decode cX8_bound 34 = .ok (.aload_n 0, 1) := by decide +kernel
theorem dX8_bound_35 : decode cX8_bound 35 = .ok (.getfield 13, 3) := by decide +kernel
theorem dX8_bound_38 : decode cX8_bound 38 = .ok (.iload_n 2, 1) := by decide +kernel
theorem dX8_bound_39 : decode cX8_bound 39 = .ok (.iaload, 1) := by decide +kernel
theorem dX8_bound_40 : decode cX8_bound 40 = .ok (.invokevirtual 154, 3) := by decide +kernel
theorem dX8_bound_43 : decode cX8_bound 43 = .ok (.invokevirtual 172, 3) := by decide +kernel
theorem dX8_bound_46 : decode cX8_bound 46 = .ok (.iload_n 3, 1) := by decide +kernel
theorem dX8_bound_47 : decode cX8_bound 47 = .ok (.ifCond .ne 10, 3) := by decide +kernel
theorem dX8_bound_50 : decode cX8_bound 50 = .ok (.aload_n 0, 1) := by decide +kernel
theorem dX8_bound_51 : decode cX8_bound 51 = .ok (.getfield 32, 3) := by decide +kernel
theorem dX8_bound_54 : decode cX8_bound 54 = .ok (.goto 7, 3) := by decide +kernel
theorem dX8_bound_57 : decode cX8_bound 57 = .ok (.aload_n 0, 1) := by decide +kernel
theorem dX8_bound_58 : decode cX8_bound 58 = .ok (.getfield 39, 3) := by decide +kernel
theorem dX8_bound_61 : decode cX8_bound 61 = .ok (.lstore 4, 2) := by decide +kernel
theorem dX8_bound_63 : decode cX8_bound 63 = .ok (.iload_n 3, 1) := by decide +kernel
theorem dX8_bound_64 : decode cX8_bound 64 = .ok (.ifCond .ne 10, 3) := by decide +kernel
theorem dX8_bound_67 : decode cX8_bound 67 = .ok (.aload_n 0, 1) := by decide +kernel
theorem dX8_bound_68 : decode cX8_bound 68 = .ok (.getfield 36, 3) := by decide +kernel
theorem dX8_bound_71 : decode cX8_bound 71 = .ok (.goto 7, 3) := by decide +kernel
theorem dX8_bound_74 : decode cX8_bound 74 = .ok (.aload_n 0, 1) := by decide +kernel
theorem dX8_bound_75 : decode cX8_bound 75 = .ok (.getfield 42, 3) := by decide +kernel
theorem dX8_bound_78 : decode cX8_bound 78 = .ok (.lstore 6, 2) := by decide +kernel
theorem dX8_bound_80 : decode cX8_bound 80 = .ok (.lload 4, 2) := by decide +kernel
theorem dX8_bound_82 : decode cX8_bound 82 = .ok (.lconst 0, 1) := by decide +kernel
theorem dX8_bound_83 : decode cX8_bound 83 = .ok (.lcmp, 1) := by decide +kernel
theorem dX8_bound_84 : decode cX8_bound 84 = .ok (.ifCond .eq 10, 3) := by decide +kernel
theorem dX8_bound_87 : decode cX8_bound 87 = .ok (.lload 6, 2) := by decide +kernel
theorem dX8_bound_89 : decode cX8_bound 89 = .ok (.lconst 0, 1) := by decide +kernel
theorem dX8_bound_90 : decode cX8_bound 90 = .ok (.lcmp, 1) := by decide +kernel
theorem dX8_bound_91 : decode cX8_bound 91 = .ok (.ifCond .ne 8, 3) := by decide +kernel
theorem dX8_bound_94 : decode cX8_bound 94 = .ok (.bipush (-2), 2) := by decide +kernel
theorem dX8_bound_96 : decode cX8_bound 96 = .ok (.goto 12, 3) := by decide +kernel
theorem dX8_bound_99 : decode cX8_bound 99 = .ok (.aload_n 0, 1) := by decide +kernel
theorem dX8_bound_100 : decode cX8_bound 100 = .ok (.iload_n 1, 1) := by decide +kernel
theorem dX8_bound_101 : decode cX8_bound 101 = .ok (.lload 4, 2) := by decide +kernel
theorem dX8_bound_103 : decode cX8_bound 103 = .ok (.lload 6, 2) := by decide +kernel
theorem dX8_bound_105 : decode cX8_bound 105 = .ok (.invokevirtual 135, 3) := by decide +kernel
theorem dX8_bound_108 : decode cX8_bound 108 = .ok (.ireturn, 1) := by decide +kernel
set_option maxRecDepth 20000 in
theorem ggX8_child_X8_isRegister : GoodIn wsX8_child wsX8_isRegister := goodIn_r _ [11, 12, 13, 14, 10, 15] (by decide +kernel) (by decide +kernel)
set_option maxRecDepth 20000 in
theorem gX8_child_X8_isRegister : GoodIn wsX8_child (wsV RX8 131 RX8 yX8_isRegister wsX8_isRegister) := goodIn_app (goodIn_of _ (by decide +kernel)) ggX8_child_X8_isRegister
set_option maxRecDepth 20000 in
theorem ggX8_child_X8_isSide : GoodIn wsX8_child wsX8_isSide := goodIn_r _ [19, 13, 14, 10, 15] (by decide +kernel) (by decide +kernel)
set_option maxRecDepth 20000 in
theorem gX8_child_X8_isSide : GoodIn wsX8_child (wsV RX8 176 RX8 yX8_isSide wsX8_isSide) := goodIn_app (goodIn_of _ (by decide +kernel)) ggX8_child_X8_isSide
set_option maxRecDepth 20000 in
theorem ggX8_child_X8_depthOf : GoodIn wsX8_child wsX8_depthOf := goodIn_r _ [23, 24, 25, 26, 27, 28, 10, 29, 30, 31, 32, 33, 34, 35, 36, 62, 63, 64, 65, 66, 67, 68, 69, 70, 71, 72, 73, 74, 75, 76, 77, 78, 79, 80, 81, 82, 83, 84, 85, 86, 87, 88, 89, 90, 91, 92, 93, 94, 95, 96] (by decide +kernel) (by decide +kernel)
set_option maxRecDepth 20000 in
theorem gX8_child_X8_depthOf : GoodIn wsX8_child (wsV RX8 154 RX8 yX8_depthOf wsX8_depthOf) := goodIn_app (goodIn_of _ (by decide +kernel)) ggX8_child_X8_depthOf
set_option maxRecDepth 20000 in
theorem ggX8_child_X8_goDown : GoodIn wsX8_child wsX8_goDown := goodIn_r _ [40, 24, 25, 32, 41, 42, 43, 10, 44, 3, 5, 4, 6, 45, 46, 47, 48, 49, 50, 51, 52, 62, 63, 64, 65, 66, 67, 68, 69, 70, 71, 72, 73, 74, 75, 76, 77, 78, 79, 80, 81, 82, 83, 84, 85, 86, 87, 88, 89, 90, 91, 92, 93, 94, 95, 96] (by decide +kernel) (by decide +kernel)
set_option maxRecDepth 20000 in
theorem gX8_child_X8_goDown : GoodIn wsX8_child (wsV RX8 172 RX8 yX8_goDown wsX8_goDown) := goodIn_app (goodIn_of _ (by decide +kernel)) ggX8_child_X8_goDown
set_option maxRecDepth 20000 in
theorem ggX8_child_X8_put : GoodIn wsX8_child wsX8_put := goodIn_r _ [56, 57, 1, 2, 58, 59, 60, 10, 61, 62, 63, 64, 65, 66, 67, 68, 69, 70, 71, 72, 73, 74, 75, 76, 77, 78, 79, 80, 81, 82, 83, 84, 85, 86, 87, 88, 89, 90, 91, 92, 93, 94, 95, 96] (by decide +kernel) (by decide +kernel)
set_option maxRecDepth 20000 in
theorem gX8_child_X8_put : GoodIn wsX8_child (wsV RX8 135 RX8 yX8_put wsX8_put) := goodIn_app (goodIn_of _ (by decide +kernel)) ggX8_child_X8_put
theorem dX8_child_0 : decode cX8_child 0 = .ok (.aload_n 0, 1) := by decide +kernel
theorem dX8_child_1 : decode cX8_child 1 = .ok (.iload_n 1, 1) := by decide +kernel
theorem dX8_child_2 : decode cX8_child 2 = .ok (.invokevirtual 131, 3) := by decide +kernel
theorem dX8_child_5 : decode cX8_child 5 = .ok (.ifCond .eq 19, 3) := by decide +kernel
theorem dX8_child_8 : decode cX8_child 8 = .ok (.aload_n 0, 1) := by decide +kernel
theorem dX8_child_9 : decode cX8_child 9 = .ok (.iload_n 2, 1) := by decide +kernel
theorem dX8_child_10 : decode cX8_child 10 = .ok (.invokevirtual 131, 3) := by decide +kernel
theorem dX8_child_13 : decode cX8_child 13 = .ok (.ifCond .eq 11, 3) := by decide +kernel
theorem dX8_child_16 : decode cX8_child 16 = .ok (.aload_n 0, 1) := by decide +kernel
theorem dX8_child_17 : decode cX8_child 17 = .ok (.iload_n 3, 1) := by decide +kernel
theorem dX8_child_18 : decode cX8_child 18 = .ok (.invokevirtual 176, 3) := by decide +kernel
theorem dX8_child_21 : decode cX8_child 21 = .ok (.ifCond .ne 5, 3) := by decide +kernel
theorem dX8_child_24 : decode cX8_child 24 = .ok (.iconst (-1), 1) := by decide +kernel
theorem dX8_child_25 : decode cX8_child 25 = .ok (.ireturn, 1) := by decide +kernel
theorem dX8_child_26 : decode cX8_child 26 = .ok (.aload_n 0, 1) := by decide +kernel
theorem dX8_child_27 : decode cX8_child 27 = .ok (.aload_n 0, 1) := by decide +kernel
theorem dX8_child_28 : decode cX8_child 28 = .ok (.aload_n 0, 1) := by decide +kernel
theorem dX8_child_29 : decode cX8_child 29 = .ok (.getfield 7, 3) := by decide +kernel
theorem dX8_child_32 : decode cX8_child 32 = .ok (.iload_n 2, 1) := by decide +kernel
theorem dX8_child_33 : decode cX8_child 33 = .ok (.iaload, 1) := by decide +kernel
theorem dX8_child_34 : decode cX8_child 34 = .ok (.aload_n 0, 1) := by decide +kernel
theorem dX8_child_35 : decode cX8_child 35 = .ok (.getfield 13, 3) := by decide +kernel
theorem dX8_child_38 : decode cX8_child 38 = .ok (.iload_n 2, 1) := by decide +kernel
theorem dX8_child_39 : decode cX8_child 39 = .ok (.iaload, 1) := by decide +kernel
theorem dX8_child_40 : decode cX8_child 40 = .ok (.invokevirtual 154, 3) := by decide +kernel
theorem dX8_child_43 : decode cX8_child 43 = .ok (.invokevirtual 172, 3) := by decide +kernel
theorem dX8_child_46 : decode cX8_child 46 = .ok (.aload_n 0, 1) := by decide +kernel
theorem dX8_child_47 : decode cX8_child 47 = .ok (.iload_n 1, 1) := by decide +kernel
theorem dX8_child_48 : decode cX8_child 48 = .ok (.aload_n 0, 1) := by decide +kernel
theorem dX8_child_49 : decode cX8_child 49 = .ok (.getfield 7, 3) := by decide +kernel
theorem dX8_child_52 : decode cX8_child 52 = .ok (.iload_n 2, 1) := by decide +kernel
theorem dX8_child_53 : decode cX8_child 53 = .ok (.iaload, 1) := by decide +kernel
theorem dX8_child_54 : decode cX8_child 54 = .ok (.i2l, 1) := by decide +kernel
theorem dX8_child_55 : decode cX8_child 55 = .ok (.iload_n 3, 1) := by decide +kernel
theorem dX8_child_56 : decode cX8_child 56 = .ok (.ifCond .ne 10, 3) := by decide +kernel
theorem dX8_child_59 : decode cX8_child 59 = .ok (.aload_n 0, 1) := by decide +kernel
theorem dX8_child_60 : decode cX8_child 60 = .ok (.getfield 32, 3) := by decide +kernel
theorem dX8_child_63 : decode cX8_child 63 = .ok (.goto 7, 3) := by decide +kernel
theorem dX8_child_66 : decode cX8_child 66 = .ok (.aload_n 0, 1) := by decide +kernel
theorem dX8_child_67 : decode cX8_child 67 = .ok (.getfield 39, 3) := by decide +kernel
theorem dX8_child_70 : decode cX8_child 70 = .ok (.ladd, 1) := by decide +kernel
theorem dX8_child_71 : decode cX8_child 71 = .ok (.aload_n 0, 1) := by decide +kernel
theorem dX8_child_72 : decode cX8_child 72 = .ok (.getfield 13, 3) := by decide +kernel
theorem dX8_child_75 : decode cX8_child 75 = .ok (.iload_n 2, 1) := by decide +kernel
theorem dX8_child_76 : decode cX8_child 76 = .ok (.iaload, 1) := by decide +kernel
theorem dX8_child_77 : decode cX8_child 77 = .ok (.i2l, 1) := by decide +kernel
theorem dX8_child_78 : decode cX8_child 78 = .ok (.iload_n 3, 1) := by decide +kernel
theorem dX8_child_79 : decode cX8_child 79 = .ok (.ifCond .ne 10, 3) := by decide +kernel
theorem dX8_child_82 : decode cX8_child 82 = .ok (.aload_n 0, 1) := by decide +kernel
theorem dX8_child_83 : decode cX8_child 83 = .ok (.getfield 36, 3) := by decide +kernel
theorem dX8_child_86 : decode cX8_child 86 = .ok (.goto 7, 3) := by decide +kernel
theorem dX8_child_89 : decode cX8_child 89 = .ok (.aload_n 0, 1) := by decide +kernel
theorem dX8_child_90 : decode cX8_child 90 = .ok (.getfield 42, 3) := by decide +kernel
theorem dX8_child_93 : decode cX8_child 93 = .ok (.ladd, 1) := by decide +kernel
theorem dX8_child_94 : decode cX8_child 94 = .ok (.invokevirtual 135, 3) := by decide +kernel
theorem dX8_child_97 : decode cX8_child 97 = .ok (.ireturn, 1) := by decide +kernel
set_option maxRecDepth 20000 in
theorem ggX8_commonAncestor_X8_isRegister : GoodIn wsX8_commonAncestor wsX8_isRegister := goodIn_r _ [16, 17, 18, 19, 15, 20] (by decide +kernel) (by decide +kernel)
set_option maxRecDepth 20000 in
theorem gX8_commonAncestor_X8_isRegister : GoodIn wsX8_commonAncestor (wsV RX8 131 RX8 yX8_isRegister wsX8_isRegister) := goodIn_app (goodIn_of _ (by decide +kernel)) ggX8_commonAncestor_X8_isRegister
set_option maxRecDepth 20000 in
theorem ggX8_commonAncestor_X8_layRuns : GoodIn wsX8_commonAncestor wsX8_layRuns := goodIn_r _ [24, 3, 25, 26, 5, 7, 27, 28, 29, 15, 30, 56, 57, 58, 59, 60, 61, 62, 63, 64, 65, 66, 67, 68, 69, 70, 71, 72, 73, 74, 75, 76, 77, 78, 79, 80, 81, 82, 83, 84, 85, 86, 87, 88, 89, 90] (by decide +kernel) (by decide +kernel)
set_option maxRecDepth 20000 in
theorem gX8_commonAncestor_X8_layRuns : GoodIn wsX8_commonAncestor (wsV RX8 151 RX8 yX8_layRuns wsX8_layRuns) := goodIn_app (goodIn_of _ (by decide +kernel)) ggX8_commonAncestor_X8_layRuns
set_option maxRecDepth 20000 in
theorem ggX8_commonAncestor_X8_goDown : GoodIn wsX8_commonAncestor wsX8_goDown := goodIn_r _ [34, 3, 5, 7, 35, 36, 37, 15, 38, 8, 10, 9, 11, 39, 40, 41, 42, 43, 44, 45, 46, 56, 57, 58, 59, 60, 61, 62, 63, 64, 65, 66, 67, 68, 69, 70, 71, 72, 73, 74, 75, 76, 77, 78, 79, 80, 81, 82, 83, 84, 85, 86, 87, 88, 89, 90] (by decide +kernel) (by decide +kernel)
set_option maxRecDepth 20000 in
theorem gX8_commonAncestor_X8_goDown : GoodIn wsX8_commonAncestor (wsV RX8 172 RX8 yX8_goDown wsX8_goDown) := goodIn_app (goodIn_of _ (by decide +kernel)) ggX8_commonAncestor_X8_goDown
set_option maxRecDepth 20000 in
theorem ggX8_commonAncestor_X8_put : GoodIn wsX8_commonAncestor wsX8_put := goodIn_r _ [50, 51, 1, 2, 52, 53, 54, 15, 55, 56, 57, 58, 59, 60, 61, 62, 63, 64, 65, 66, 67, 68, 69, 70, 71, 72, 73, 74, 75, 76, 77, 78, 79, 80, 81, 82, 83, 84, 85, 86, 87, 88, 89, 90] (by decide +kernel) (by decide +kernel)
set_option maxRecDepth 20000 in
theorem gX8_commonAncestor_X8_put : GoodIn wsX8_commonAncestor (wsV RX8 135 RX8 yX8_put wsX8_put) := goodIn_app (goodIn_of _ (by decide +kernel)) ggX8_commonAncestor_X8_put
theorem dX8_commonAncestor_0 : decode cX8_commonAncestor 0 = .ok (.aload_n 0, 1) := by decide +kernel
theorem dX8_commonAncestor_1 : decode cX8_commonAncestor 1 = .ok (.iload_n 1, 1) := by decide +kernel
theorem dX8_commonAncestor_2 : decode cX8_commonAncestor 2 = .ok (.invokevirtual 131, 3) := by decide +kernel
theorem dX8_commonAncestor_5 : decode cX8_commonAncestor 5 = .ok (.ifCond .eq 19, 3) := by decide +kernel
theorem dX8_commonAncestor_8 : decode cX8_commonAncestor 8 = .ok (.aload_n 0, 1) := by decide +kernel
theorem dX8_commonAncestor_9 : decode cX8_commonAncestor 9 = .ok (.iload_n 2, 1) := by decide +kernel
theorem dX8_commonAncestor_10 : decode cX8_commonAncestor 10 = .ok (.invokevirtual 131, 3) := by decide +kernel
theorem dX8_commonAncestor_13 : decode cX8_commonAncestor 13 = .ok (.ifCond .eq 11, 3) := by decide +kernel
theorem dX8_commonAncestor_16 : decode cX8_commonAncestor 16 = .ok (.aload_n 0, 1) := by decide +kernel
theorem dX8_commonAncestor_17 : decode cX8_commonAncestor 17 = .ok (.iload_n 3, 1) := by decide +kernel
theorem dX8_commonAncestor_18 : decode cX8_commonAncestor 18 = .ok (.invokevirtual 131, 3) := by decide +kernel
theorem dX8_commonAncestor_21 : decode cX8_commonAncestor 21 = .ok (.ifCond .ne 5, 3) := by decide +kernel
theorem dX8_commonAncestor_24 : decode cX8_commonAncestor 24 = .ok (.iconst (-1), 1) := by decide +kernel
theorem dX8_commonAncestor_25 : decode cX8_commonAncestor 25 = .ok (.ireturn, 1) := by decide +kernel
theorem dX8_commonAncestor_26 : decode cX8_commonAncestor 26 = .ok (.aload_n 0, 1) := by decide +kernel
theorem dX8_commonAncestor_27 : decode cX8_commonAncestor 27 = .ok (.aload_n 0, 1) := by decide +kernel
theorem dX8_commonAncestor_28 : decode cX8_commonAncestor 28 = .ok (.getfield 7, 3) := by decide +kernel
theorem dX8_commonAncestor_31 : decode cX8_commonAncestor 31 = .ok (.iload_n 2, 1) := by decide +kernel
theorem dX8_commonAncestor_32 : decode cX8_commonAncestor 32 = .ok (.iaload, 1) := by decide +kernel
theorem dX8_commonAncestor_33 : decode cX8_commonAncestor 33 = .ok (.aload_n 0, 1) := by decide +kernel
theorem dX8_commonAncestor_34 : decode cX8_commonAncestor 34 = .ok (.getfield 13, 3) := by decide +kernel
theorem dX8_commonAncestor_37 : decode cX8_commonAncestor 37 = .ok (.iload_n 2, 1) := by decide +kernel
theorem dX8_commonAncestor_38 : decode cX8_commonAncestor 38 = .ok (.iaload, 1) := by decide +kernel
theorem dX8_commonAncestor_39 : decode cX8_commonAncestor 39 = .ok (.invokevirtual 151, 3) := by decide +kernel
theorem dX8_commonAncestor_42 : decode cX8_commonAncestor 42 = .ok (.aload_n 0, 1) := by decide +kernel
theorem dX8_commonAncestor_43 : decode cX8_commonAncestor 43 = .ok (.getfield 29, 3) := by decide +kernel
theorem dX8_commonAncestor_46 : decode cX8_commonAncestor 46 = .ok (.istore 4, 2) := by decide +kernel
theorem dX8_commonAncestor_48 : decode cX8_commonAncestor 48 = .ok (.iconst 0, 1) := by decide +kernel
theorem dX8_commonAncestor_49 : decode cX8_commonAncestor 49 = .ok (.istore 5, 2) := by decide +kernel
theorem dX8_commonAncestor_51 : decode cX8_commonAncestor 51 = .ok (.iload 5, 2) := by decide +kernel
theorem dX8_commonAncestor_53 : decode cX8_commonAncestor 53 = .ok (.aload_n 0, 1) := by decide +kernel
theorem dX8_commonAncestor_54 : decode cX8_commonAncestor 54 = .ok (.getfield 29, 3) := by decide +kernel
theorem dX8_commonAncestor_57 : decode cX8_commonAncestor 57 = .ok (.if_icmp .ge 37, 3) := by decide +kernel
theorem dX8_commonAncestor_60 : decode cX8_commonAncestor 60 = .ok (.aload_n 0, 1) := by decide +kernel
theorem dX8_commonAncestor_61 : decode cX8_commonAncestor 61 = .ok (.getfield 45, 3) := by decide +kernel
theorem dX8_commonAncestor_64 : decode cX8_commonAncestor 64 = .ok (.iload 5, 2) := by decide +kernel
theorem dX8_commonAncestor_66 : decode cX8_commonAncestor 66 = .ok (.aload_n 0, 1) := by decide +kernel
theorem dX8_commonAncestor_67 : decode cX8_commonAncestor 67 = .ok (.getfield 19, 3) := by decide +kernel
theorem dX8_commonAncestor_70 : decode cX8_commonAncestor 70 = .ok (.iload 5, 2) := by decide +kernel
theorem dX8_commonAncestor_72 : decode cX8_commonAncestor 72 = .ok (.iaload, 1) := by decide +kernel
theorem dX8_commonAncestor_73 : decode cX8_commonAncestor 73 = .ok (.iastore, 1) := by decide +kernel
theorem dX8_commonAncestor_74 : decode cX8_commonAncestor 74 = .ok (.aload_n 0, 1) := by decide +kernel
theorem dX8_commonAncestor_75 : decode cX8_commonAncestor 75 = .ok (.getfield 48, 3) := by decide +kernel
theorem dX8_commonAncestor_78 : decode cX8_commonAncestor 78 = .ok (.iload 5, 2) := by decide +kernel
theorem dX8_commonAncestor_80 : decode cX8_commonAncestor 80 = .ok (.aload_n 0, 1) := by decide +kernel
theorem dX8_commonAncestor_81 : decode cX8_commonAncestor 81 = .ok (.getfield 22, 3) := by decide +kernel
theorem dX8_commonAncestor_84 : decode cX8_commonAncestor 84 = .ok (.iload 5, 2) := by decide +kernel
theorem dX8_commonAncestor_86 : decode cX8_commonAncestor 86 = .ok (.iaload, 1) := by decide +kernel
theorem dX8_commonAncestor_87 : decode cX8_commonAncestor 87 = .ok (.iastore, 1) := by decide +kernel
theorem dX8_commonAncestor_88 : decode cX8_commonAncestor 88 = .ok (.iinc 5 1, 3) := by decide +kernel
theorem dX8_commonAncestor_91 : decode cX8_commonAncestor 91 = .ok (.goto (-40), 3) := by decide +kernel
theorem dX8_commonAncestor_94 : decode cX8_commonAncestor 94 = .ok (.aload_n 0, 1) := by decide +kernel
theorem dX8_commonAncestor_95 : decode cX8_commonAncestor 95 = .ok (.aload_n 0, 1) := by decide +kernel
theorem dX8_commonAncestor_96 : decode cX8_commonAncestor 96 = .ok (.getfield 7, 3) := by decide +kernel
theorem dX8_commonAncestor_99 : decode cX8_commonAncestor 99 = .ok (.iload_n 3, 1) := by decide +kernel
theorem dX8_commonAncestor_100 : decode cX8_commonAncestor 100 = .ok (.iaload, 1) := by decide +kernel
theorem dX8_commonAncestor_101 : decode cX8_commonAncestor 101 = .ok (.aload_n 0, 1) := by decide +kernel
theorem dX8_commonAncestor_102 : decode cX8_commonAncestor 102 = .ok (.getfield 13, 3) := by decide +kernel
theorem dX8_commonAncestor_105 : decode cX8_commonAncestor 105 = .ok (.iload_n 3, 1) := by decide +kernel
theorem dX8_commonAncestor_106 : decode cX8_commonAncestor 106 = .ok (.iaload, 1) := by decide +kernel
theorem dX8_commonAncestor_107 : decode cX8_commonAncestor 107 = .ok (.invokevirtual 151, 3) := by decide +kernel
theorem dX8_commonAncestor_110 : decode cX8_commonAncestor 110 = .ok (.iconst 0, 1) := by decide +kernel
theorem dX8_commonAncestor_111 : decode cX8_commonAncestor 111 = .ok (.istore 5, 2) := by decide +kernel
theorem dX8_commonAncestor_113 : decode cX8_commonAncestor 113 = .ok (.iconst 0, 1) := by decide +kernel
theorem dX8_commonAncestor_114 : decode cX8_commonAncestor 114 = .ok (.istore 6, 2) := by decide +kernel
theorem dX8_commonAncestor_116 : decode cX8_commonAncestor 116 = .ok (.iload 6, 2) := by decide +kernel
theorem dX8_commonAncestor_118 : decode cX8_commonAncestor 118 = .ok (.aload_n 0, 1) := by decide +kernel
theorem dX8_commonAncestor_119 : decode cX8_commonAncestor 119 = .ok (.getfield 29, 3) := by decide +kernel
theorem dX8_commonAncestor_122 : decode cX8_commonAncestor 122 = .ok (.if_icmp .ge 96, 3) := by decide +kernel
theorem dX8_commonAncestor_125 : decode cX8_commonAncestor 125 = .ok (.iload 6, 2) := by decide +kernel
theorem dX8_commonAncestor_127 : decode cX8_commonAncestor 127 = .ok (.iload 4, 2) := by decide +kernel
theorem dX8_commonAncestor_129 : decode cX8_commonAncestor 129 = .ok (.if_icmp .ge 89, 3) := by decide +kernel
theorem dX8_commonAncestor_132 : decode cX8_commonAncestor 132 = .ok (.aload_n 0, 1) := by decide +kernel
theorem dX8_commonAncestor_133 : decode cX8_commonAncestor 133 = .ok (.getfield 22, 3) := by decide +kernel
theorem dX8_commonAncestor_136 : decode cX8_commonAncestor 136 = .ok (.iload 6, 2) := by decide +kernel
theorem dX8_commonAncestor_138 : decode cX8_commonAncestor 138 = .ok (.iaload, 1) := by decide +kernel
theorem dX8_commonAncestor_139 : decode cX8_commonAncestor 139 = .ok (.aload_n 0, 1) := by decide +kernel
theorem dX8_commonAncestor_140 : decode cX8_commonAncestor 140 = .ok (.getfield 48, 3) := by decide +kernel
theorem dX8_commonAncestor_143 : decode cX8_commonAncestor 143 = .ok (.iload 6, 2) := by decide +kernel
theorem dX8_commonAncestor_145 : decode cX8_commonAncestor 145 = .ok (.iaload, 1) := by decide +kernel
theorem dX8_commonAncestor_146 : decode cX8_commonAncestor 146 = .ok (.if_icmp .ne 72, 3) := by decide +kernel
theorem dX8_commonAncestor_149 : decode cX8_commonAncestor 149 = .ok (.aload_n 0, 1) := by decide +kernel
theorem dX8_commonAncestor_150 : decode cX8_commonAncestor 150 = .ok (.getfield 19, 3) := by decide +kernel
theorem dX8_commonAncestor_153 : decode cX8_commonAncestor 153 = .ok (.iload 6, 2) := by decide +kernel
theorem dX8_commonAncestor_155 : decode cX8_commonAncestor 155 = .ok (.iaload, 1) := by decide +kernel
theorem dX8_commonAncestor_156 : decode cX8_commonAncestor 156 = .ok (.aload_n 0, 1) := by decide +kernel
theorem dX8_commonAncestor_157 : decode cX8_commonAncestor 157 = .ok (.getfield 45, 3) := by decide +kernel
theorem dX8_commonAncestor_160 : decode cX8_commonAncestor 160 = .ok (.iload 6, 2) := by decide +kernel
theorem dX8_commonAncestor_162 : decode cX8_commonAncestor 162 = .ok (.iaload, 1) := by decide +kernel
theorem dX8_commonAncestor_163 : decode cX8_commonAncestor 163 = .ok (.if_icmp .ge 13, 3) := by decide +kernel
theorem dX8_commonAncestor_166 : decode cX8_commonAncestor 166 = .ok (.aload_n 0, 1) := by decide +kernel
theorem dX8_commonAncestor_167 : decode cX8_commonAncestor 167 = .ok (.getfield 19, 3) := by decide +kernel
theorem dX8_commonAncestor_170 : decode cX8_commonAncestor 170 = .ok (.iload 6, 2) := by decide +kernel
theorem dX8_commonAncestor_172 : decode cX8_commonAncestor 172 = .ok (.iaload, 1) := by decide +kernel
theorem dX8_commonAncestor_173 : decode cX8_commonAncestor 173 = .ok (.goto 10, 3) := by decide +kernel
theorem dX8_commonAncestor_176 : decode cX8_commonAncestor 176 = .ok (.aload_n 0, 1) := by decide +kernel
theorem dX8_commonAncestor_177 : decode cX8_commonAncestor 177 = .ok (.getfield 45, 3) := by decide +kernel
theorem dX8_commonAncestor_180 : decode cX8_commonAncestor 180 = .ok (.iload 6, 2) := by decide +kernel
theorem dX8_commonAncestor_182 : decode cX8_commonAncestor 182 = .ok (.iaload, 1) := by decide +kernel
theorem dX8_commonAncestor_183 : decode cX8_commonAncestor 183 = .ok (.istore 7, 2) := by decide +kernel
theorem dX8_commonAncestor_185 : decode cX8_commonAncestor 185 = .ok (.iload 5, 2) := by decide +kernel
theorem dX8_commonAncestor_187 : decode cX8_commonAncestor 187 = .ok (.iload 7, 2) := by decide +kernel
theorem dX8_commonAncestor_189 : decode cX8_commonAncestor 189 = .ok (.iadd, 1) := by decide +kernel
theorem dX8_commonAncestor_190 : decode cX8_commonAncestor 190 = .ok (.istore 5, 2) := by decide +kernel
theorem dX8_commonAncestor_192 : decode cX8_commonAncestor 192 = .ok (.aload_n 0, 1) := by decide +kernel
theorem dX8_commonAncestor_193 : decode cX8_commonAncestor 193 = .ok (.getfield 19, 3) := by decide +kernel
theorem dX8_commonAncestor_196 : decode cX8_commonAncestor 196 = .ok (.iload 6, 2) := by decide +kernel
theorem dX8_commonAncestor_198 : decode cX8_commonAncestor 198 = .ok (.iaload, 1) := by decide +kernel
theorem dX8_commonAncestor_199 : decode cX8_commonAncestor 199 = .ok (.aload_n 0, 1) := by decide +kernel
theorem dX8_commonAncestor_200 : decode cX8_commonAncestor 200 = .ok (.getfield 45, 3) := by decide +kernel
theorem dX8_commonAncestor_203 : decode cX8_commonAncestor 203 = .ok (.iload 6, 2) := by decide +kernel
theorem dX8_commonAncestor_205 : decode cX8_commonAncestor 205 = .ok (.iaload, 1) := by decide +kernel
theorem dX8_commonAncestor_206 : decode cX8_commonAncestor 206 = .ok (.if_icmp .eq 6, 3) := by decide +kernel
theorem dX8_commonAncestor_209 : decode cX8_commonAncestor 209 = .ok (.goto 9, 3) := by decide +kernel
theorem dX8_commonAncestor_212 : decode cX8_commonAncestor 212 = .ok (.iinc 6 1, 3) := by decide +kernel
theorem dX8_commonAncestor_215 : decode cX8_commonAncestor 215 = .ok (.goto (-99), 3) := by decide +kernel
theorem dX8_commonAncestor_218 : decode cX8_commonAncestor 218 = .ok (.aload_n 0, 1) := by decide +kernel
theorem dX8_commonAncestor_219 : decode cX8_commonAncestor 219 = .ok (.iload 5, 2) := by decide +kernel
theorem dX8_commonAncestor_221 : decode cX8_commonAncestor 221 = .ok (.invokevirtual 172, 3) := by decide +kernel
theorem dX8_commonAncestor_224 : decode cX8_commonAncestor 224 = .ok (.aload_n 0, 1) := by decide +kernel
theorem dX8_commonAncestor_225 : decode cX8_commonAncestor 225 = .ok (.iload_n 1, 1) := by decide +kernel
theorem dX8_commonAncestor_226 : decode cX8_commonAncestor 226 = .ok (.aload_n 0, 1) := by decide +kernel
theorem dX8_commonAncestor_227 : decode cX8_commonAncestor 227 = .ok (.getfield 32, 3) := by decide +kernel
theorem dX8_commonAncestor_230 : decode cX8_commonAncestor 230 = .ok (.aload_n 0, 1) := by decide +kernel
theorem dX8_commonAncestor_231 : decode cX8_commonAncestor 231 = .ok (.getfield 39, 3) := by decide +kernel
theorem dX8_commonAncestor_234 : decode cX8_commonAncestor 234 = .ok (.ladd, 1) := by decide +kernel
theorem dX8_commonAncestor_235 : decode cX8_commonAncestor 235 = .ok (.aload_n 0, 1) := by decide +kernel
theorem dX8_commonAncestor_236 : decode cX8_commonAncestor 236 = .ok (.getfield 36, 3) := by decide +kernel
theorem dX8_commonAncestor_239 : decode cX8_commonAncestor 239 = .ok (.aload_n 0, 1) := by decide +kernel
theorem dX8_commonAncestor_240 : decode cX8_commonAncestor 240 = .ok (.getfield 42, 3) := by decide +kernel
theorem dX8_commonAncestor_243 : decode cX8_commonAncestor 243 = .ok (.ladd, 1) := by decide +kernel
theorem dX8_commonAncestor_244 : decode cX8_commonAncestor 244 = .ok (.invokevirtual 135, 3) := by decide +kernel
theorem dX8_commonAncestor_247 : decode cX8_commonAncestor 247 = .ok (.istore 6, 2) := by decide +kernel
theorem dX8_commonAncestor_249 : decode cX8_commonAncestor 249 = .ok (.iload 5, 2) := by decide +kernel
theorem dX8_commonAncestor_251 : decode cX8_commonAncestor 251 = .ok (.ireturn, 1) := by decide +kernel
set_option maxRecDepth 20000 in
theorem ggX8_termCount_X8_isRegister : GoodIn wsX8_termCount wsX8_isRegister := goodIn_r _ [8, 9, 10, 11, 7, 12] (by decide +kernel) (by decide +kernel)
set_option maxRecDepth 20000 in
theorem gX8_termCount_X8_isRegister : GoodIn wsX8_termCount (wsV RX8 131 RX8 yX8_isRegister wsX8_isRegister) := goodIn_app (goodIn_of _ (by decide +kernel)) ggX8_termCount_X8_isRegister
set_option maxRecDepth 20000 in
theorem ggX8_termCount_X8_layTerms : GoodIn wsX8_termCount wsX8_layTerms := goodIn_r _ [16, 3, 17, 18, 19, 20, 21, 22, 23, 24, 25, 26, 27, 28, 29, 30, 31, 32, 33, 34, 35, 36, 37, 38, 39, 40, 41, 42, 43, 44, 45, 46, 47, 48, 49, 50, 51, 52] (by decide +kernel) (by decide +kernel)
set_option maxRecDepth 20000 in
theorem gX8_termCount_X8_layTerms : GoodIn wsX8_termCount (wsV RX8 147 RX8 yX8_layTerms wsX8_layTerms) := goodIn_app (goodIn_of _ (by decide +kernel)) ggX8_termCount_X8_layTerms
theorem dX8_termCount_0 : decode cX8_termCount 0 = .ok (.aload_n 0, 1) := by decide +kernel
theorem dX8_termCount_1 : decode cX8_termCount 1 = .ok (.iload_n 1, 1) := by decide +kernel
theorem dX8_termCount_2 : decode cX8_termCount 2 = .ok (.invokevirtual 131, 3) := by decide +kernel
theorem dX8_termCount_5 : decode cX8_termCount 5 = .ok (.ifCond .ne 5, 3) := by decide +kernel
theorem dX8_termCount_8 : decode cX8_termCount 8 = .ok (.iconst (-1), 1) := by decide +kernel
theorem dX8_termCount_9 : decode cX8_termCount 9 = .ok (.ireturn, 1) := by decide +kernel
theorem dX8_termCount_10 : decode cX8_termCount 10 = .ok (.aload_n 0, 1) := by decide +kernel
theorem dX8_termCount_11 : decode cX8_termCount 11 = .ok (.aload_n 0, 1) := by decide +kernel
theorem dX8_termCount_12 : decode cX8_termCount 12 = .ok (.getfield 7, 3) := by decide +kernel
theorem dX8_termCount_15 : decode cX8_termCount 15 = .ok (.iload_n 1, 1) := by decide +kernel
theorem dX8_termCount_16 : decode cX8_termCount 16 = .ok (.iaload, 1) := by decide +kernel
theorem dX8_termCount_17 : decode cX8_termCount 17 = .ok (.aload_n 0, 1) := by decide +kernel
theorem dX8_termCount_18 : decode cX8_termCount 18 = .ok (.getfield 13, 3) := by decide +kernel
theorem dX8_termCount_21 : decode cX8_termCount 21 = .ok (.iload_n 1, 1) := by decide +kernel
theorem dX8_termCount_22 : decode cX8_termCount 22 = .ok (.iaload, 1) := by decide +kernel
theorem dX8_termCount_23 : decode cX8_termCount 23 = .ok (.invokevirtual 147, 3) := by decide +kernel
theorem dX8_termCount_26 : decode cX8_termCount 26 = .ok (.aload_n 0, 1) := by decide +kernel
theorem dX8_termCount_27 : decode cX8_termCount 27 = .ok (.getfield 25, 3) := by decide +kernel
theorem dX8_termCount_30 : decode cX8_termCount 30 = .ok (.ireturn, 1) := by decide +kernel
set_option maxRecDepth 20000 in
theorem ggX8_term_X8_isRegister : GoodIn wsX8_term wsX8_isRegister := goodIn_r _ [9, 10, 11, 12, 8, 13] (by decide +kernel) (by decide +kernel)
set_option maxRecDepth 20000 in
theorem gX8_term_X8_isRegister : GoodIn wsX8_term (wsV RX8 131 RX8 yX8_isRegister wsX8_isRegister) := goodIn_app (goodIn_of _ (by decide +kernel)) ggX8_term_X8_isRegister
set_option maxRecDepth 20000 in
theorem ggX8_term_X8_layTerms : GoodIn wsX8_term wsX8_layTerms := goodIn_r _ [17, 3, 4, 18, 19, 20, 21, 22, 23, 24, 25, 26, 27, 28, 29, 30, 31, 32, 33, 34, 35, 36, 37, 38, 39, 40, 41, 42, 43, 44, 45, 46, 47, 48, 49, 50, 51, 52] (by decide +kernel) (by decide +kernel)
set_option maxRecDepth 20000 in
theorem gX8_term_X8_layTerms : GoodIn wsX8_term (wsV RX8 147 RX8 yX8_layTerms wsX8_layTerms) := goodIn_app (goodIn_of _ (by decide +kernel)) ggX8_term_X8_layTerms
theorem dX8_term_0 : decode cX8_term 0 = .ok (.aload_n 0, 1) := by decide +kernel
theorem dX8_term_1 : decode cX8_term 1 = .ok (.iload_n 1, 1) := by decide +kernel
theorem dX8_term_2 : decode cX8_term 2 = .ok (.invokevirtual 131, 3) := by decide +kernel
theorem dX8_term_5 : decode cX8_term 5 = .ok (.ifCond .eq 7, 3) := by decide +kernel
