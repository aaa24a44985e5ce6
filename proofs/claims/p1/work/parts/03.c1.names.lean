theorem dX5_start_0 : decode cX5_start 0 = .ok (.aload_n 0, 1) := by decide +kernel
theorem dX5_start_1 : decode cX5_start 1 = .ok (.getfield 28, 3) := by decide +kernel
theorem dX5_start_4 : decode cX5_start 4 = .ok (.aload_n 0, 1) := by decide +kernel
theorem dX5_start_5 : decode cX5_start 5 = .ok (.getfield 57, 3) := by decide +kernel
theorem dX5_start_8 : decode cX5_start 8 = .ok (.invokevirtual 98, 3) := by decide +kernel
theorem dX5_start_11 : decode cX5_start 11 = .ok (.pop, 1) := by decide +kernel
theorem dX5_start_12 : decode cX5_start 12 = .ok (.aload_n 0, 1) := by decide +kernel
theorem dX5_start_13 : decode cX5_start 13 = .ok (.iconst 0, 1) := by decide +kernel
theorem dX5_start_14 : decode cX5_start 14 = .ok (.putfield 21, 3) := by decide +kernel
theorem dX5_start_17 : decode cX5_start 17 = .ok (.aload_n 0, 1) := by decide +kernel
theorem dX5_start_18 : decode cX5_start 18 = .ok (.iconst 0, 1) := by decide +kernel
theorem dX5_start_19 : decode cX5_start 19 = .ok (.putfield 39, 3) := by decide +kernel
theorem dX5_start_22 : decode cX5_start 22 = .ok (.aload_n 0, 1) := by decide +kernel
theorem dX5_start_23 : decode cX5_start 23 = .ok (.iconst 0, 1) := by decide +kernel
theorem dX5_start_24 : decode cX5_start 24 = .ok (.putfield 42, 3) := by decide +kernel
theorem dX5_start_27 : decode cX5_start 27 = .ok (.return_, 1) := by decide +kernel
theorem dX5_end_0 : decode cX5_end 0 = .ok (.aload_n 0, 1) := by decide +kernel
theorem dX5_end_1 : decode cX5_end 1 = .ok (.iconst 1, 1) := by decide +kernel
theorem dX5_end_2 : decode cX5_end 2 = .ok (.putfield 32, 3) := by decide +kernel
theorem dX5_end_5 : decode cX5_end 5 = .ok (.aload_n 0, 1) := by decide +kernel
theorem dX5_end_6 : decode cX5_end 6 = .ok (.iload_n 1, 1) := by decide +kernel
theorem dX5_end_7 : decode cX5_end 7 = .ok (.putfield 36, 3) := by decide +kernel
theorem dX5_end_10 : decode cX5_end 10 = .ok (.iload_n 1, 1) := by decide +kernel
theorem dX5_end_11 : decode cX5_end 11 = .ok (.ireturn, 1) := by decide +kernel
theorem dX6_init_0 : decode cX6_init 0 = .ok (.aload_n 0, 1) := by decide +kernel
theorem dX6_init_1 : decode cX6_init 1 = .ok (.invokespecial 3, 3) := by decide +kernel
theorem dX6_init_4 : decode cX6_init 4 = .ok (.aload_n 0, 1) := by decide +kernel
theorem dX6_init_5 : decode cX6_init 5 = .ok (.bipush 40, 2) := by decide +kernel
theorem dX6_init_7 : decode cX6_init 7 = .ok (.newarray .boolean, 2) := by decide +kernel
theorem dX6_init_9 : decode cX6_init 9 = .ok (.putfield 9, 3) := by decide +kernel
theorem dX6_init_12 : decode cX6_init 12 = .ok (.aload_n 0, 1) := by decide +kernel
theorem dX6_init_13 : decode cX6_init 13 = .ok (.bipush 40, 2) := by decide +kernel
theorem dX6_init_15 : decode cX6_init 15 = .ok (.newarray .boolean, 2) := by decide +kernel
theorem dX6_init_17 : decode cX6_init 17 = .ok (.putfield 15, 3) := by decide +kernel
theorem dX6_init_20 : decode cX6_init 20 = .ok (.aload_n 0, 1) := by decide +kernel
theorem dX6_init_21 : decode cX6_init 21 = .ok (.bipush 40, 2) := by decide +kernel
theorem dX6_init_23 : decode cX6_init 23 = .ok (.newarray .int, 2) := by decide +kernel
theorem dX6_init_25 : decode cX6_init 25 = .ok (.putfield 18, 3) := by decide +kernel
theorem dX6_init_28 : decode cX6_init 28 = .ok (.aload_n 0, 1) := by decide +kernel
theorem dX6_init_29 : decode cX6_init 29 = .ok (.bipush 40, 2) := by decide +kernel
theorem dX6_init_31 : decode cX6_init 31 = .ok (.newarray .int, 2) := by decide +kernel
theorem dX6_init_33 : decode cX6_init 33 = .ok (.putfield 22, 3) := by decide +kernel
theorem dX6_init_36 : decode cX6_init 36 = .ok (.aload_n 0, 1) := by decide +kernel
theorem dX6_init_37 : decode cX6_init 37 = .ok (.new 25, 3) := by decide +kernel
theorem dX6_init_40 : decode cX6_init 40 = .ok (.dup, 1) := by decide +kernel
theorem dX6_init_41 : decode cX6_init 41 = .ok (.invokespecial 27, 3) := by decide +kernel
theorem dX6_init_44 : decode cX6_init 44 = .ok (.putfield 28, 3) := by decide +kernel
theorem dX6_init_47 : decode cX6_init 47 = .ok (.aload_n 0, 1) := by decide +kernel
theorem dX6_init_48 : decode cX6_init 48 = .ok (.lconst 0, 1) := by decide +kernel
theorem dX6_init_49 : decode cX6_init 49 = .ok (.putfield 32, 3) := by decide +kernel
theorem dX6_init_52 : decode cX6_init 52 = .ok (.aload_n 0, 1) := by decide +kernel
theorem dX6_init_53 : decode cX6_init 53 = .ok (.aload_n 1, 1) := by decide +kernel
theorem dX6_init_54 : decode cX6_init 54 = .ok (.putfield 36, 3) := by decide +kernel
theorem dX6_init_57 : decode cX6_init 57 = .ok (.return_, 1) := by decide +kernel
theorem dX6_fill_0 : decode cX6_fill 0 = .ok (.aload_n 0, 1) := by decide +kernel
theorem dX6_fill_1 : decode cX6_fill 1 = .ok (.aload_n 0, 1) := by decide +kernel
theorem dX6_fill_2 : decode cX6_fill 2 = .ok (.getfield 28, 3) := by decide +kernel
theorem dX6_fill_5 : decode cX6_fill 5 = .ok (.aload_n 1, 1) := by decide +kernel
theorem dX6_fill_6 : decode cX6_fill 6 = .ok (.invokevirtual 40, 3) := by decide +kernel
theorem dX6_fill_9 : decode cX6_fill 9 = .ok (.invokevirtual 44, 3) := by decide +kernel
theorem dX6_fill_12 : decode cX6_fill 12 = .ok (.lload_n 2, 1) := by decide +kernel
theorem dX6_fill_13 : decode cX6_fill 13 = .ok (.aload_n 0, 1) := by decide +kernel
theorem dX6_fill_14 : decode cX6_fill 14 = .ok (.getfield 32, 3) := by decide +kernel
theorem dX6_fill_17 : decode cX6_fill 17 = .ok (.ldc2_w 48, 3) := by decide +kernel
theorem dX6_fill_20 : decode cX6_fill 20 = .ok (.lxor, 1) := by decide +kernel
theorem dX6_fill_21 : decode cX6_fill 21 = .ok (.land, 1) := by decide +kernel
theorem dX6_fill_22 : decode cX6_fill 22 = .ok (.lstore 4, 2) := by decide +kernel
theorem dX6_fill_24 : decode cX6_fill 24 = .ok (.iconst 0, 1) := by decide +kernel
theorem dX6_fill_25 : decode cX6_fill 25 = .ok (.istore 6, 2) := by decide +kernel
theorem dX6_fill_27 : decode cX6_fill 27 = .ok (.iload 6, 2) := by decide +kernel
theorem dX6_fill_29 : decode cX6_fill 29 = .ok (.aload_n 0, 1) := by decide +kernel
theorem dX6_fill_30 : decode cX6_fill 30 = .ok (.getfield 36, 3) := by decide +kernel
theorem dX6_fill_33 : decode cX6_fill 33 = .ok (.getfield 50, 3) := by decide +kernel
theorem dX6_fill_36 : decode cX6_fill 36 = .ok (.if_icmp .ge 316, 3) := by decide +kernel
theorem dX6_fill_39 : decode cX6_fill 39 = .ok (.aload_n 0, 1) := by decide +kernel
theorem dX6_fill_40 : decode cX6_fill 40 = .ok (.getfield 36, 3) := by decide +kernel
theorem dX6_fill_43 : decode cX6_fill 43 = .ok (.getfield 56, 3) := by decide +kernel
theorem dX6_fill_46 : decode cX6_fill 46 = .ok (.iload 6, 2) := by decide +kernel
theorem dX6_fill_48 : decode cX6_fill 48 = .ok (.iaload, 1) := by decide +kernel
theorem dX6_fill_49 : decode cX6_fill 49 = .ok (.istore 7, 2) := by decide +kernel
theorem dX6_fill_51 : decode cX6_fill 51 = .ok (.lload 4, 2) := by decide +kernel
theorem dX6_fill_53 : decode cX6_fill 53 = .ok (.lconst 1, 1) := by decide +kernel
theorem dX6_fill_54 : decode cX6_fill 54 = .ok (.iload 6, 2) := by decide +kernel
theorem dX6_fill_56 : decode cX6_fill 56 = .ok (.lshl, 1) := by decide +kernel
theorem dX6_fill_57 : decode cX6_fill 57 = .ok (.land, 1) := by decide +kernel
theorem dX6_fill_58 : decode cX6_fill 58 = .ok (.lconst 0, 1) := by decide +kernel
theorem dX6_fill_59 : decode cX6_fill 59 = .ok (.lcmp, 1) := by decide +kernel
theorem dX6_fill_60 : decode cX6_fill 60 = .ok (.ifCond .ne 6, 3) := by decide +kernel
theorem dX6_fill_63 : decode cX6_fill 63 = .ok (.goto 283, 3) := by decide +kernel
theorem dX6_fill_66 : decode cX6_fill 66 = .ok (.iload 7, 2) := by decide +kernel
theorem dX6_fill_68 : decode cX6_fill 68 = .ok (.ifCond .ne 22, 3) := by decide +kernel
theorem dX6_fill_71 : decode cX6_fill 71 = .ok (.aload_n 0, 1) := by decide +kernel
theorem dX6_fill_72 : decode cX6_fill 72 = .ok (.iload 6, 2) := by decide +kernel
theorem dX6_fill_74 : decode cX6_fill 74 = .ok (.aload_n 0, 1) := by decide +kernel
theorem dX6_fill_75 : decode cX6_fill 75 = .ok (.getfield 36, 3) := by decide +kernel
theorem dX6_fill_78 : decode cX6_fill 78 = .ok (.getfield 59, 3) := by decide +kernel
theorem dX6_fill_81 : decode cX6_fill 81 = .ok (.iload 6, 2) := by decide +kernel
theorem dX6_fill_83 : decode cX6_fill 83 = .ok (.iaload, 1) := by decide +kernel
theorem dX6_fill_84 : decode cX6_fill 84 = .ok (.invokevirtual 62, 3) := by decide +kernel
theorem dX6_fill_87 : decode cX6_fill 87 = .ok (.goto 259, 3) := by decide +kernel
theorem dX6_fill_90 : decode cX6_fill 90 = .ok (.iload 7, 2) := by decide +kernel
theorem dX6_fill_92 : decode cX6_fill 92 = .ok (.iconst 1, 1) := by decide +kernel
theorem dX6_fill_93 : decode cX6_fill 93 = .ok (.if_icmp .ne 49, 3) := by decide +kernel
theorem dX6_fill_96 : decode cX6_fill 96 = .ok (.aload_n 0, 1) := by decide +kernel
theorem dX6_fill_97 : decode cX6_fill 97 = .ok (.iload 6, 2) := by decide +kernel
theorem dX6_fill_99 : decode cX6_fill 99 = .ok (.aload_n 0, 1) := by decide +kernel
theorem dX6_fill_100 : decode cX6_fill 100 = .ok (.getfield 28, 3) := by decide +kernel
theorem dX6_fill_103 : decode cX6_fill 103 = .ok (.getfield 66, 3) := by decide +kernel
theorem dX6_fill_106 : decode cX6_fill 106 = .ok (.aload_n 0, 1) := by decide +kernel
theorem dX6_fill_107 : decode cX6_fill 107 = .ok (.getfield 36, 3) := by decide +kernel
theorem dX6_fill_110 : decode cX6_fill 110 = .ok (.getfield 59, 3) := by decide +kernel
theorem dX6_fill_113 : decode cX6_fill 113 = .ok (.iload 6, 2) := by decide +kernel
theorem dX6_fill_115 : decode cX6_fill 115 = .ok (.iaload, 1) := by decide +kernel
theorem dX6_fill_116 : decode cX6_fill 116 = .ok (.iaload, 1) := by decide +kernel
theorem dX6_fill_117 : decode cX6_fill 117 = .ok (.aload_n 0, 1) := by decide +kernel
theorem dX6_fill_118 : decode cX6_fill 118 = .ok (.getfield 28, 3) := by decide +kernel
theorem dX6_fill_121 : decode cX6_fill 121 = .ok (.getfield 67, 3) := by decide +kernel
theorem dX6_fill_124 : decode cX6_fill 124 = .ok (.aload_n 0, 1) := by decide +kernel
theorem dX6_fill_125 : decode cX6_fill 125 = .ok (.getfield 36, 3) := by decide +kernel
theorem dX6_fill_128 : decode cX6_fill 128 = .ok (.getfield 59, 3) := by decide +kernel
theorem dX6_fill_131 : decode cX6_fill 131 = .ok (.iload 6, 2) := by decide +kernel
theorem dX6_fill_133 : decode cX6_fill 133 = .ok (.iaload, 1) := by decide +kernel
theorem dX6_fill_134 : decode cX6_fill 134 = .ok (.iaload, 1) := by decide +kernel
theorem dX6_fill_135 : decode cX6_fill 135 = .ok (.iconst 0, 1) := by decide +kernel
theorem dX6_fill_136 : decode cX6_fill 136 = .ok (.invokevirtual 68, 3) := by decide +kernel
theorem dX6_fill_139 : decode cX6_fill 139 = .ok (.goto 207, 3) := by decide +kernel
theorem dX6_fill_142 : decode cX6_fill 142 = .ok (.aload_n 0, 1) := by decide +kernel
theorem dX6_fill_143 : decode cX6_fill 143 = .ok (.getfield 9, 3) := by decide +kernel
theorem dX6_fill_146 : decode cX6_fill 146 = .ok (.aload_n 0, 1) := by decide +kernel
theorem dX6_fill_147 : decode cX6_fill 147 = .ok (.getfield 36, 3) := by decide +kernel
theorem dX6_fill_150 : decode cX6_fill 150 = .ok (.getfield 59, 3) := by decide +kernel
theorem dX6_fill_153 : decode cX6_fill 153 = .ok (.iload 6, 2) := by decide +kernel
theorem dX6_fill_155 : decode cX6_fill 155 = .ok (.iaload, 1) := by decide +kernel
theorem dX6_fill_156 : decode cX6_fill 156 = .ok (.baload, 1) := by decide +kernel
theorem dX6_fill_157 : decode cX6_fill 157 = .ok (.ifCond .eq 21, 3) := by decide +kernel
theorem dX6_fill_160 : decode cX6_fill 160 = .ok (.aload_n 0, 1) := by decide +kernel
theorem dX6_fill_161 : decode cX6_fill 161 = .ok (.getfield 9, 3) := by decide +kernel
theorem dX6_fill_164 : decode cX6_fill 164 = .ok (.aload_n 0, 1) := by decide +kernel
theorem dX6_fill_165 : decode cX6_fill 165 = .ok (.getfield 36, 3) := by decide +kernel
theorem dX6_fill_168 : decode cX6_fill 168 = .ok (.getfield 72, 3) := by decide +kernel
theorem dX6_fill_171 : decode cX6_fill 171 = .ok (.iload 6, 2) := by decide +kernel
theorem dX6_fill_173 : decode cX6_fill 173 = .ok (.iaload, 1) := by decide +kernel
theorem dX6_fill_174 : decode cX6_fill 174 = .ok (.baload, 1) := by decide +kernel
theorem dX6_fill_175 : decode cX6_fill 175 = .ok (.ifCond .ne 25, 3) := by decide +kernel
theorem dX6_fill_178 : decode cX6_fill 178 = .ok (.aload_n 0, 1) := by decide +kernel
theorem dX6_fill_179 : decode cX6_fill 179 = .ok (.iload 6, 2) := by decide +kernel
theorem dX6_fill_181 : decode cX6_fill 181 = .ok (.iload 7, 2) := by decide +kernel
theorem dX6_fill_183 : decode cX6_fill 183 = .ok (.bipush 13, 2) := by decide +kernel
theorem dX6_fill_185 : decode cX6_fill 185 = .ok (.if_icmp .ne 7, 3) := by decide +kernel
theorem dX6_fill_188 : decode cX6_fill 188 = .ok (.iconst 0, 1) := by decide +kernel
theorem dX6_fill_189 : decode cX6_fill 189 = .ok (.goto 5, 3) := by decide +kernel
theorem dX6_fill_192 : decode cX6_fill 192 = .ok (.ldc 75, 2) := by decide +kernel
theorem dX6_fill_194 : decode cX6_fill 194 = .ok (.invokevirtual 62, 3) := by decide +kernel
theorem dX6_fill_197 : decode cX6_fill 197 = .ok (.goto 149, 3) := by decide +kernel
theorem dX6_fill_200 : decode cX6_fill 200 = .ok (.iload 7, 2) := by decide +kernel
theorem dX6_fill_202 : decode cX6_fill 202 = .ok (.iconst 5, 1) := by decide +kernel
theorem dX6_fill_203 : decode cX6_fill 203 = .ok (.if_icmp .gt 34, 3) := by decide +kernel
theorem dX6_fill_206 : decode cX6_fill 206 = .ok (.aload_n 0, 1) := by decide +kernel
theorem dX6_fill_207 : decode cX6_fill 207 = .ok (.iload 6, 2) := by decide +kernel
theorem dX6_fill_209 : decode cX6_fill 209 = .ok (.iload 7, 2) := by decide +kernel
theorem dX6_fill_211 : decode cX6_fill 211 = .ok (.aload_n 0, 1) := by decide +kernel
theorem dX6_fill_212 : decode cX6_fill 212 = .ok (.getfield 36, 3) := by decide +kernel
theorem dX6_fill_215 : decode cX6_fill 215 = .ok (.getfield 59, 3) := by decide +kernel
theorem dX6_fill_218 : decode cX6_fill 218 = .ok (.iload 6, 2) := by decide +kernel
theorem dX6_fill_220 : decode cX6_fill 220 = .ok (.iaload, 1) := by decide +kernel
theorem dX6_fill_221 : decode cX6_fill 221 = .ok (.aload_n 0, 1) := by decide +kernel
theorem dX6_fill_222 : decode cX6_fill 222 = .ok (.getfield 36, 3) := by decide +kernel
theorem dX6_fill_225 : decode cX6_fill 225 = .ok (.getfield 72, 3) := by decide +kernel
theorem dX6_fill_228 : decode cX6_fill 228 = .ok (.iload 6, 2) := by decide +kernel
theorem dX6_fill_230 : decode cX6_fill 230 = .ok (.iaload, 1) := by decide +kernel
theorem dX6_fill_231 : decode cX6_fill 231 = .ok (.invokevirtual 76, 3) := by decide +kernel
theorem dX6_fill_234 : decode cX6_fill 234 = .ok (.goto 112, 3) := by decide +kernel
theorem dX6_fill_237 : decode cX6_fill 237 = .ok (.iload 7, 2) := by decide +kernel
theorem dX6_fill_239 : decode cX6_fill 239 = .ok (.bipush 8, 2) := by decide +kernel
theorem dX6_fill_241 : decode cX6_fill 241 = .ok (.if_icmp .eq 10, 3) := by decide +kernel
theorem dX6_fill_244 : decode cX6_fill 244 = .ok (.iload 7, 2) := by decide +kernel
theorem dX6_fill_246 : decode cX6_fill 246 = .ok (.bipush 9, 2) := by decide +kernel
theorem dX6_fill_248 : decode cX6_fill 248 = .ok (.if_icmp .ne 44, 3) := by decide +kernel
theorem dX6_fill_251 : decode cX6_fill 251 = .ok (.aload_n 0, 1) := by decide +kernel
theorem dX6_fill_252 : decode cX6_fill 252 = .ok (.iload 6, 2) := by decide +kernel
theorem dX6_fill_254 : decode cX6_fill 254 = .ok (.iload 7, 2) := by decide +kernel
theorem dX6_fill_256 : decode cX6_fill 256 = .ok (.bipush 8, 2) := by decide +kernel
theorem dX6_fill_258 : decode cX6_fill 258 = .ok (.if_icmp .ne 7, 3) := by decide +kernel
theorem dX6_fill_261 : decode cX6_fill 261 = .ok (.iconst 1, 1) := by decide +kernel
theorem dX6_fill_262 : decode cX6_fill 262 = .ok (.goto 4, 3) := by decide +kernel
theorem dX6_fill_265 : decode cX6_fill 265 = .ok (.iconst 0, 1) := by decide +kernel
theorem dX6_fill_266 : decode cX6_fill 266 = .ok (.aload_n 0, 1) := by decide +kernel
theorem dX6_fill_267 : decode cX6_fill 267 = .ok (.getfield 36, 3) := by decide +kernel
theorem dX6_fill_270 : decode cX6_fill 270 = .ok (.getfield 59, 3) := by decide +kernel
theorem dX6_fill_273 : decode cX6_fill 273 = .ok (.iload 6, 2) := by decide +kernel
theorem dX6_fill_275 : decode cX6_fill 275 = .ok (.iaload, 1) := by decide +kernel
theorem dX6_fill_276 : decode cX6_fill 276 = .ok (.aload_n 0, 1) := by decide +kernel
theorem dX6_fill_277 : decode cX6_fill 277 = .ok (.getfield 36, 3) := by decide +kernel
theorem dX6_fill_280 : decode cX6_fill 280 = .ok (.getfield 72, 3) := by decide +kernel
theorem dX6_fill_283 : decode cX6_fill 283 = .ok (.iload 6, 2) := by decide +kernel
theorem dX6_fill_285 : decode cX6_fill 285 = .ok (.iaload, 1) := by decide +kernel
theorem dX6_fill_286 : decode cX6_fill 286 = .ok (.invokevirtual 80, 3) := by decide +kernel
theorem dX6_fill_289 : decode cX6_fill 289 = .ok (.goto 57, 3) := by decide +kernel
theorem dX6_fill_292 : decode cX6_fill 292 = .ok (.iload 7, 2) := by decide +kernel
theorem dX6_fill_294 : decode cX6_fill 294 = .ok (.bipush 14, 2) := by decide +kernel
theorem dX6_fill_296 : decode cX6_fill 296 = .ok (.if_icmp .ne 32, 3) := by decide +kernel
theorem dX6_fill_299 : decode cX6_fill 299 = .ok (.aload_n 0, 1) := by decide +kernel
theorem dX6_fill_300 : decode cX6_fill 300 = .ok (.iload 6, 2) := by decide +kernel
theorem dX6_fill_302 : decode cX6_fill 302 = .ok (.aload_n 0, 1) := by decide +kernel
theorem dX6_fill_303 : decode cX6_fill 303 = .ok (.getfield 36, 3) := by decide +kernel
theorem dX6_fill_306 : decode cX6_fill 306 = .ok (.getfield 59, 3) := by decide +kernel
theorem dX6_fill_309 : decode cX6_fill 309 = .ok (.iload 6, 2) := by decide +kernel
theorem dX6_fill_311 : decode cX6_fill 311 = .ok (.iaload, 1) := by decide +kernel
theorem dX6_fill_312 : decode cX6_fill 312 = .ok (.aload_n 0, 1) := by decide +kernel
theorem dX6_fill_313 : decode cX6_fill 313 = .ok (.getfield 36, 3) := by decide +kernel
theorem dX6_fill_316 : decode cX6_fill 316 = .ok (.getfield 72, 3) := by decide +kernel
theorem dX6_fill_319 : decode cX6_fill 319 = .ok (.iload 6, 2) := by decide +kernel
theorem dX6_fill_321 : decode cX6_fill 321 = .ok (.iaload, 1) := by decide +kernel
theorem dX6_fill_322 : decode cX6_fill 322 = .ok (.invokevirtual 84, 3) := by decide +kernel
theorem dX6_fill_325 : decode cX6_fill 325 = .ok (.goto 21, 3) := by decide +kernel
theorem dX6_fill_328 : decode cX6_fill 328 = .ok (.aload_n 0, 1) := by decide +kernel
theorem dX6_fill_329 : decode cX6_fill 329 = .ok (.iload 6, 2) := by decide +kernel
theorem dX6_fill_331 : decode cX6_fill 331 = .ok (.iload 7, 2) := by decide +kernel
theorem dX6_fill_333 : decode cX6_fill 333 = .ok (.aload_n 0, 1) := by decide +kernel
theorem dX6_fill_334 : decode cX6_fill 334 = .ok (.getfield 36, 3) := by decide +kernel
theorem dX6_fill_337 : decode cX6_fill 337 = .ok (.getfield 59, 3) := by decide +kernel
theorem dX6_fill_340 : decode cX6_fill 340 = .ok (.iload 6, 2) := by decide +kernel
theorem dX6_fill_342 : decode cX6_fill 342 = .ok (.iaload, 1) := by decide +kernel
theorem dX6_fill_343 : decode cX6_fill 343 = .ok (.invokevirtual 88, 3) := by decide +kernel
theorem dX6_fill_346 : decode cX6_fill 346 = .ok (.iinc 6 1, 3) := by decide +kernel
theorem dX6_fill_349 : decode cX6_fill 349 = .ok (.goto (-322), 3) := by decide +kernel
theorem dX6_fill_352 : decode cX6_fill 352 = .ok (.aload_n 0, 1) := by decide +kernel
theorem dX6_fill_353 : decode cX6_fill 353 = .ok (.dup, 1) := by decide +kernel
theorem dX6_fill_354 : decode cX6_fill 354 = .ok (.getfield 32, 3) := by decide +kernel
theorem dX6_fill_357 : decode cX6_fill 357 = .ok (.lload 4, 2) := by decide +kernel
theorem dX6_fill_359 : decode cX6_fill 359 = .ok (.lor, 1) := by decide +kernel
theorem dX6_fill_360 : decode cX6_fill 360 = .ok (.putfield 32, 3) := by decide +kernel
theorem dX6_fill_363 : decode cX6_fill 363 = .ok (.return_, 1) := by decide +kernel
theorem dX6_forget_0 : decode cX6_forget 0 = .ok (.iconst 0, 1) := by decide +kernel
theorem dX6_forget_1 : decode cX6_forget 1 = .ok (.istore_n 2, 1) := by decide +kernel
theorem dX6_forget_2 : decode cX6_forget 2 = .ok (.iload_n 2, 1) := by decide +kernel
theorem dX6_forget_3 : decode cX6_forget 3 = .ok (.iconst 4, 1) := by decide +kernel
theorem dX6_forget_4 : decode cX6_forget 4 = .ok (.if_icmp .ge 39, 3) := by decide +kernel
theorem dX6_forget_7 : decode cX6_forget 7 = .ok (.iload_n 1, 1) := by decide +kernel
theorem dX6_forget_8 : decode cX6_forget 8 = .ok (.iconst 1, 1) := by decide +kernel
theorem dX6_forget_9 : decode cX6_forget 9 = .ok (.iload_n 2, 1) := by decide +kernel
theorem dX6_forget_10 : decode cX6_forget 10 = .ok (.ishl, 1) := by decide +kernel
theorem dX6_forget_11 : decode cX6_forget 11 = .ok (.iand, 1) := by decide +kernel
theorem dX6_forget_12 : decode cX6_forget 12 = .ok (.ifCond .eq 25, 3) := by decide +kernel
theorem dX6_forget_15 : decode cX6_forget 15 = .ok (.aload_n 0, 1) := by decide +kernel
theorem dX6_forget_16 : decode cX6_forget 16 = .ok (.dup, 1) := by decide +kernel
theorem dX6_forget_17 : decode cX6_forget 17 = .ok (.getfield 32, 3) := by decide +kernel
theorem dX6_forget_20 : decode cX6_forget 20 = .ok (.aload_n 0, 1) := by decide +kernel
theorem dX6_forget_21 : decode cX6_forget 21 = .ok (.getfield 36, 3) := by decide +kernel
theorem dX6_forget_24 : decode cX6_forget 24 = .ok (.getfield 91, 3) := by decide +kernel
theorem dX6_forget_27 : decode cX6_forget 27 = .ok (.iload_n 2, 1) := by decide +kernel
theorem dX6_forget_28 : decode cX6_forget 28 = .ok (.laload, 1) := by decide +kernel
theorem dX6_forget_29 : decode cX6_forget 29 = .ok (.ldc2_w 48, 3) := by decide +kernel
theorem dX6_forget_32 : decode cX6_forget 32 = .ok (.lxor, 1) := by decide +kernel
theorem dX6_forget_33 : decode cX6_forget 33 = .ok (.land, 1) := by decide +kernel
theorem dX6_forget_34 : decode cX6_forget 34 = .ok (.putfield 32, 3) := by decide +kernel
theorem dX6_forget_37 : decode cX6_forget 37 = .ok (.iinc 2 1, 3) := by decide +kernel
theorem dX6_forget_40 : decode cX6_forget 40 = .ok (.goto (-38), 3) := by decide +kernel
theorem dX6_forget_43 : decode cX6_forget 43 = .ok (.return_, 1) := by decide +kernel
theorem dX7_init_0 : decode cX7_init 0 = .ok (.aload_n 0, 1) := by decide +kernel
theorem dX7_init_1 : decode cX7_init 1 = .ok (.invokespecial 7, 3) := by decide +kernel
theorem dX7_init_4 : decode cX7_init 4 = .ok (.aload_n 0, 1) := by decide +kernel
theorem dX7_init_5 : decode cX7_init 5 = .ok (.new 13, 3) := by decide +kernel
theorem dX7_init_8 : decode cX7_init 8 = .ok (.dup, 1) := by decide +kernel
theorem dX7_init_9 : decode cX7_init 9 = .ok (.invokespecial 15, 3) := by decide +kernel
theorem dX7_init_12 : decode cX7_init 12 = .ok (.putfield 16, 3) := by decide +kernel
theorem dX7_init_15 : decode cX7_init 15 = .ok (.aload_n 0, 1) := by decide +kernel
theorem dX7_init_16 : decode cX7_init 16 = .ok (.new 20, 3) := by decide +kernel
theorem dX7_init_19 : decode cX7_init 19 = .ok (.dup, 1) := by decide +kernel
theorem dX7_init_20 : decode cX7_init 20 = .ok (.invokespecial 22, 3) := by decide +kernel
theorem dX7_init_23 : decode cX7_init 23 = .ok (.putfield 23, 3) := by decide +kernel
theorem dX7_init_26 : decode cX7_init 26 = .ok (.aload_n 0, 1) := by decide +kernel
theorem dX7_init_27 : decode cX7_init 27 = .ok (.new 27, 3) := by decide +kernel
theorem dX7_init_30 : decode cX7_init 30 = .ok (.dup, 1) := by decide +kernel
theorem dX7_init_31 : decode cX7_init 31 = .ok (.invokespecial 29, 3) := by decide +kernel
theorem dX7_init_34 : decode cX7_init 34 = .ok (.putfield 30, 3) := by decide +kernel
theorem dX7_init_37 : decode cX7_init 37 = .ok (.aload_n 0, 1) := by decide +kernel
theorem dX7_init_38 : decode cX7_init 38 = .ok (.iconst 4, 1) := by decide +kernel
theorem dX7_init_39 : decode cX7_init 39 = .ok (.newarray .int, 2) := by decide +kernel
theorem dX7_init_41 : decode cX7_init 41 = .ok (.putfield 34, 3) := by decide +kernel
theorem dX7_init_44 : decode cX7_init 44 = .ok (.aload_n 0, 1) := by decide +kernel
theorem dX7_init_45 : decode cX7_init 45 = .ok (.new 38, 3) := by decide +kernel
theorem dX7_init_48 : decode cX7_init 48 = .ok (.dup, 1) := by decide +kernel
theorem dX7_init_49 : decode cX7_init 49 = .ok (.aload_n 0, 1) := by decide +kernel
theorem dX7_init_50 : decode cX7_init 50 = .ok (.getfield 16, 3) := by decide +kernel
theorem dX7_init_53 : decode cX7_init 53 = .ok (.invokespecial 40, 3) := by decide +kernel
theorem dX7_init_56 : decode cX7_init 56 = .ok (.putfield 43, 3) := by decide +kernel
theorem dX7_init_59 : decode cX7_init 59 = .ok (.aload_n 0, 1) := by decide +kernel
theorem dX7_init_60 : decode cX7_init 60 = .ok (.new 47, 3) := by decide +kernel
theorem dX7_init_63 : decode cX7_init 63 = .ok (.dup, 1) := by decide +kernel
theorem dX7_init_64 : decode cX7_init 64 = .ok (.aload_n 0, 1) := by decide +kernel
theorem dX7_init_65 : decode cX7_init 65 = .ok (.getfield 16, 3) := by decide +kernel
theorem dX7_init_68 : decode cX7_init 68 = .ok (.aload_n 0, 1) := by decide +kernel
theorem dX7_init_69 : decode cX7_init 69 = .ok (.getfield 23, 3) := by decide +kernel
theorem dX7_init_72 : decode cX7_init 72 = .ok (.aload_n 0, 1) := by decide +kernel
theorem dX7_init_73 : decode cX7_init 73 = .ok (.getfield 43, 3) := by decide +kernel
theorem dX7_init_76 : decode cX7_init 76 = .ok (.aload_n 0, 1) := by decide +kernel
theorem dX7_init_77 : decode cX7_init 77 = .ok (.getfield 30, 3) := by decide +kernel
theorem dX7_init_80 : decode cX7_init 80 = .ok (.invokespecial 49, 3) := by decide +kernel
theorem dX7_init_83 : decode cX7_init 83 = .ok (.putfield 52, 3) := by decide +kernel
theorem dX7_init_86 : decode cX7_init 86 = .ok (.return_, 1) := by decide +kernel
theorem dX7_node_0 : decode cX7_node 0 = .ok (.iload_n 1, 1) := by decide +kernel
theorem dX7_node_1 : decode cX7_node 1 = .ok (.ifCond .lt 9, 3) := by decide +kernel
theorem dX7_node_4 : decode cX7_node 4 = .ok (.iload_n 1, 1) := by decide +kernel
theorem dX7_node_5 : decode cX7_node 5 = .ok (.bipush 15, 2) := by decide +kernel
theorem dX7_node_7 : decode cX7_node 7 = .ok (.if_icmp .le 6, 3) := by decide +kernel
theorem dX7_node_10 : decode cX7_node 10 = .ok (.bipush (-2), 2) := by decide +kernel
theorem dX7_node_12 : decode cX7_node 12 = .ok (.ireturn, 1) := by decide +kernel
theorem dX7_node_13 : decode cX7_node 13 = .ok (.iload_n 1, 1) := by decide +kernel
theorem dX7_node_14 : decode cX7_node 14 = .ok (.iconst 1, 1) := by decide +kernel
theorem dX7_node_15 : decode cX7_node 15 = .ok (.if_icmp .ne 12, 3) := by decide +kernel
theorem dX7_node_18 : decode cX7_node 18 = .ok (.iload_n 2, 1) := by decide +kernel
theorem dX7_node_19 : decode cX7_node 19 = .ok (.invokestatic 56, 3) := by decide +kernel
theorem dX7_node_22 : decode cX7_node 22 = .ok (.ifCond .ne 5, 3) := by decide +kernel
theorem dX7_node_25 : decode cX7_node 25 = .ok (.iconst (-1), 1) := by decide +kernel
theorem dX7_node_26 : decode cX7_node 26 = .ok (.ireturn, 1) := by decide +kernel
theorem dX7_node_27 : decode cX7_node 27 = .ok (.iload_n 1, 1) := by decide +kernel
theorem dX7_node_28 : decode cX7_node 28 = .ok (.invokestatic 60, 3) := by decide +kernel
theorem dX7_node_31 : decode cX7_node 31 = .ok (.ifCond .eq 16, 3) := by decide +kernel
theorem dX7_node_34 : decode cX7_node 34 = .ok (.aload_n 0, 1) := by decide +kernel
theorem dX7_node_35 : decode cX7_node 35 = .ok (.getfield 16, 3) := by decide +kernel
theorem dX7_node_38 : decode cX7_node 38 = .ok (.iload_n 2, 1) := by decide +kernel
theorem dX7_node_39 : decode cX7_node 39 = .ok (.invokevirtual 63, 3) := by decide +kernel
theorem dX7_node_42 : decode cX7_node 42 = .ok (.ifCond .ne 5, 3) := by decide +kernel
theorem dX7_node_45 : decode cX7_node 45 = .ok (.iconst (-1), 1) := by decide +kernel
theorem dX7_node_46 : decode cX7_node 46 = .ok (.ireturn, 1) := by decide +kernel
theorem dX7_node_47 : decode cX7_node 47 = .ok (.iload_n 1, 1) := by decide +kernel
theorem dX7_node_48 : decode cX7_node 48 = .ok (.invokestatic 66, 3) := by decide +kernel
theorem dX7_node_51 : decode cX7_node 51 = .ok (.ifCond .eq 16, 3) := by decide +kernel
theorem dX7_node_54 : decode cX7_node 54 = .ok (.aload_n 0, 1) := by decide +kernel
theorem dX7_node_55 : decode cX7_node 55 = .ok (.getfield 16, 3) := by decide +kernel
theorem dX7_node_58 : decode cX7_node 58 = .ok (.iload_n 3, 1) := by decide +kernel
theorem dX7_node_59 : decode cX7_node 59 = .ok (.invokevirtual 63, 3) := by decide +kernel
theorem dX7_node_62 : decode cX7_node 62 = .ok (.ifCond .ne 5, 3) := by decide +kernel
theorem dX7_node_65 : decode cX7_node 65 = .ok (.iconst (-1), 1) := by decide +kernel
theorem dX7_node_66 : decode cX7_node 66 = .ok (.ireturn, 1) := by decide +kernel
theorem dX7_node_67 : decode cX7_node 67 = .ok (.aload_n 0, 1) := by decide +kernel
theorem dX7_node_68 : decode cX7_node 68 = .ok (.getfield 16, 3) := by decide +kernel
theorem dX7_node_71 : decode cX7_node 71 = .ok (.getfield 69, 3) := by decide +kernel
theorem dX7_node_74 : decode cX7_node 74 = .ok (.bipush 40, 2) := by decide +kernel
theorem dX7_node_76 : decode cX7_node 76 = .ok (.if_icmp .ne 8, 3) := by decide +kernel
theorem dX7_node_79 : decode cX7_node 79 = .ok (.bipush (-4), 2) := by decide +kernel
theorem dX7_node_81 : decode cX7_node 81 = .ok (.goto 13, 3) := by decide +kernel
theorem dX7_node_84 : decode cX7_node 84 = .ok (.aload_n 0, 1) := by decide +kernel
theorem dX7_node_85 : decode cX7_node 85 = .ok (.getfield 16, 3) := by decide +kernel
theorem dX7_node_88 : decode cX7_node 88 = .ok (.iload_n 1, 1) := by decide +kernel
theorem dX7_node_89 : decode cX7_node 89 = .ok (.iload_n 2, 1) := by decide +kernel
theorem dX7_node_90 : decode cX7_node 90 = .ok (.iload_n 3, 1) := by decide +kernel
theorem dX7_node_91 : decode cX7_node 91 = .ok (.invokevirtual 73, 3) := by decide +kernel
theorem dX7_node_94 : decode cX7_node 94 = .ok (.ireturn, 1) := by decide +kernel
theorem dX7_rule_0 : decode cX7_rule 0 = .ok (.iload_n 1, 1) := by decide +kernel
theorem dX7_rule_1 : decode cX7_rule 1 = .ok (.iconst 4, 1) := by decide +kernel
theorem dX7_rule_2 : decode cX7_rule 2 = .ok (.if_icmp .eq 12, 3) := by decide +kernel
theorem dX7_rule_5 : decode cX7_rule 5 = .ok (.iload_n 1, 1) := by decide +kernel
theorem dX7_rule_6 : decode cX7_rule 6 = .ok (.iconst 5, 1) := by decide +kernel
theorem dX7_rule_7 : decode cX7_rule 7 = .ok (.if_icmp .eq 7, 3) := by decide +kernel
theorem dX7_rule_10 : decode cX7_rule 10 = .ok (.iconst 1, 1) := by decide +kernel
theorem dX7_rule_11 : decode cX7_rule 11 = .ok (.goto 4, 3) := by decide +kernel
theorem dX7_rule_14 : decode cX7_rule 14 = .ok (.iconst 0, 1) := by decide +kernel
theorem dX7_rule_15 : decode cX7_rule 15 = .ok (.istore 4, 2) := by decide +kernel
theorem dX7_rule_17 : decode cX7_rule 17 = .ok (.aload_n 0, 1) := by decide +kernel
theorem dX7_rule_18 : decode cX7_rule 18 = .ok (.getfield 16, 3) := by decide +kernel
theorem dX7_rule_21 : decode cX7_rule 21 = .ok (.iload_n 2, 1) := by decide +kernel
theorem dX7_rule_22 : decode cX7_rule 22 = .ok (.invokevirtual 63, 3) := by decide +kernel
theorem dX7_rule_25 : decode cX7_rule 25 = .ok (.ifCond .eq 19, 3) := by decide +kernel
theorem dX7_rule_28 : decode cX7_rule 28 = .ok (.iload 4, 2) := by decide +kernel
theorem dX7_rule_30 : decode cX7_rule 30 = .ok (.ifCond .eq 16, 3) := by decide +kernel
theorem dX7_rule_33 : decode cX7_rule 33 = .ok (.aload_n 0, 1) := by decide +kernel
theorem dX7_rule_34 : decode cX7_rule 34 = .ok (.getfield 16, 3) := by decide +kernel
theorem dX7_rule_37 : decode cX7_rule 37 = .ok (.iload_n 3, 1) := by decide +kernel
theorem dX7_rule_38 : decode cX7_rule 38 = .ok (.invokevirtual 63, 3) := by decide +kernel
theorem dX7_rule_41 : decode cX7_rule 41 = .ok (.ifCond .ne 5, 3) := by decide +kernel
theorem dX7_rule_44 : decode cX7_rule 44 = .ok (.iconst (-1), 1) := by decide +kernel
theorem dX7_rule_45 : decode cX7_rule 45 = .ok (.ireturn, 1) := by decide +kernel
theorem dX7_rule_46 : decode cX7_rule 46 = .ok (.iload_n 1, 1) := by decide +kernel
theorem dX7_rule_47 : decode cX7_rule 47 = .ok (.ifCond .lt 8, 3) := by decide +kernel
theorem dX7_rule_50 : decode cX7_rule 50 = .ok (.iload_n 1, 1) := by decide +kernel
theorem dX7_rule_51 : decode cX7_rule 51 = .ok (.iconst 5, 1) := by decide +kernel
theorem dX7_rule_52 : decode cX7_rule 52 = .ok (.if_icmp .le 6, 3) := by decide +kernel
theorem dX7_rule_55 : decode cX7_rule 55 = .ok (.bipush (-2), 2) := by decide +kernel
theorem dX7_rule_57 : decode cX7_rule 57 = .ok (.ireturn, 1) := by decide +kernel
theorem dX7_rule_58 : decode cX7_rule 58 = .ok (.aload_n 0, 1) := by decide +kernel
theorem dX7_rule_59 : decode cX7_rule 59 = .ok (.getfield 23, 3) := by decide +kernel
theorem dX7_rule_62 : decode cX7_rule 62 = .ok (.getfield 77, 3) := by decide +kernel
theorem dX7_rule_65 : decode cX7_rule 65 = .ok (.bipush 12, 2) := by decide +kernel
theorem dX7_rule_67 : decode cX7_rule 67 = .ok (.if_icmp .ne 8, 3) := by decide +kernel
theorem dX7_rule_70 : decode cX7_rule 70 = .ok (.bipush (-4), 2) := by decide +kernel
theorem dX7_rule_72 : decode cX7_rule 72 = .ok (.goto 22, 3) := by decide +kernel
theorem dX7_rule_75 : decode cX7_rule 75 = .ok (.aload_n 0, 1) := by decide +kernel
theorem dX7_rule_76 : decode cX7_rule 76 = .ok (.getfield 23, 3) := by decide +kernel
theorem dX7_rule_79 : decode cX7_rule 79 = .ok (.iload_n 1, 1) := by decide +kernel
theorem dX7_rule_80 : decode cX7_rule 80 = .ok (.iload_n 2, 1) := by decide +kernel
theorem dX7_rule_81 : decode cX7_rule 81 = .ok (.iload 4, 2) := by decide +kernel
theorem dX7_rule_83 : decode cX7_rule 83 = .ok (.ifCond .eq 7, 3) := by decide +kernel
theorem dX7_rule_86 : decode cX7_rule 86 = .ok (.iload_n 3, 1) := by decide +kernel
theorem dX7_rule_87 : decode cX7_rule 87 = .ok (.goto 4, 3) := by decide +kernel
theorem dX7_rule_90 : decode cX7_rule 90 = .ok (.iload_n 2, 1) := by decide +kernel
theorem dX7_rule_91 : decode cX7_rule 91 = .ok (.invokevirtual 78, 3) := by decide +kernel
theorem dX7_rule_94 : decode cX7_rule 94 = .ok (.ireturn, 1) := by decide +kernel
theorem dX7_noRules_0 : decode cX7_noRules 0 = .ok (.aload_n 0, 1) := by decide +kernel
theorem dX7_noRules_1 : decode cX7_noRules 1 = .ok (.getfield 23, 3) := by decide +kernel
theorem dX7_noRules_4 : decode cX7_noRules 4 = .ok (.invokevirtual 79, 3) := by decide +kernel
theorem dX7_noRules_7 : decode cX7_noRules 7 = .ok (.ireturn, 1) := by decide +kernel
theorem dX7_range_0 : decode cX7_range 0 = .ok (.iload_n 1, 1) := by decide +kernel
theorem dX7_range_1 : decode cX7_range 1 = .ok (.invokestatic 56, 3) := by decide +kernel
theorem dX7_range_4 : decode cX7_range 4 = .ok (.ifCond .ne 5, 3) := by decide +kernel
theorem dX7_range_7 : decode cX7_range 7 = .ok (.iconst (-1), 1) := by decide +kernel
theorem dX7_range_8 : decode cX7_range 8 = .ok (.ireturn, 1) := by decide +kernel
theorem dX7_range_9 : decode cX7_range 9 = .ok (.iload_n 2, 1) := by decide +kernel
theorem dX7_range_10 : decode cX7_range 10 = .ok (.invokestatic 83, 3) := by decide +kernel
theorem dX7_range_13 : decode cX7_range 13 = .ok (.ifCond .eq 15, 3) := by decide +kernel
theorem dX7_range_16 : decode cX7_range 16 = .ok (.iload_n 3, 1) := by decide +kernel
theorem dX7_range_17 : decode cX7_range 17 = .ok (.invokestatic 83, 3) := by decide +kernel
theorem dX7_range_20 : decode cX7_range 20 = .ok (.ifCond .eq 8, 3) := by decide +kernel
theorem dX7_range_23 : decode cX7_range 23 = .ok (.iload_n 2, 1) := by decide +kernel
theorem dX7_range_24 : decode cX7_range 24 = .ok (.iload_n 3, 1) := by decide +kernel
theorem dX7_range_25 : decode cX7_range 25 = .ok (.if_icmp .le 6, 3) := by decide +kernel
theorem dX7_range_28 : decode cX7_range 28 = .ok (.bipush (-2), 2) := by decide +kernel
theorem dX7_range_30 : decode cX7_range 30 = .ok (.ireturn, 1) := by decide +kernel
theorem dX7_range_31 : decode cX7_range 31 = .ok (.aload_n 0, 1) := by decide +kernel
theorem dX7_range_32 : decode cX7_range 32 = .ok (.getfield 30, 3) := by decide +kernel
theorem dX7_range_35 : decode cX7_range 35 = .ok (.iload_n 1, 1) := by decide +kernel
theorem dX7_range_36 : decode cX7_range 36 = .ok (.iload_n 2, 1) := by decide +kernel
theorem dX7_range_37 : decode cX7_range 37 = .ok (.iload_n 3, 1) := by decide +kernel
theorem dX7_range_38 : decode cX7_range 38 = .ok (.invokevirtual 86, 3) := by decide +kernel
theorem dX7_range_41 : decode cX7_range 41 = .ok (.iconst 1, 1) := by decide +kernel
theorem dX7_range_42 : decode cX7_range 42 = .ok (.ireturn, 1) := by decide +kernel
theorem dX7_set_0 : decode cX7_set 0 = .ok (.iload_n 1, 1) := by decide +kernel
theorem dX7_set_1 : decode cX7_set 1 = .ok (.invokestatic 56, 3) := by decide +kernel
theorem dX7_set_4 : decode cX7_set 4 = .ok (.ifCond .ne 5, 3) := by decide +kernel
theorem dX7_set_7 : decode cX7_set 7 = .ok (.iconst (-1), 1) := by decide +kernel
theorem dX7_set_8 : decode cX7_set 8 = .ok (.ireturn, 1) := by decide +kernel
theorem dX7_set_9 : decode cX7_set 9 = .ok (.iload_n 2, 1) := by decide +kernel
theorem dX7_set_10 : decode cX7_set 10 = .ok (.invokestatic 83, 3) := by decide +kernel
theorem dX7_set_13 : decode cX7_set 13 = .ok (.ifCond .ne 6, 3) := by decide +kernel
theorem dX7_set_16 : decode cX7_set 16 = .ok (.bipush (-2), 2) := by decide +kernel
theorem dX7_set_18 : decode cX7_set 18 = .ok (.ireturn, 1) := by decide +kernel
theorem dX7_set_19 : decode cX7_set 19 = .ok (.aload_n 0, 1) := by decide +kernel
theorem dX7_set_20 : decode cX7_set 20 = .ok (.getfield 34, 3) := by decide +kernel
theorem dX7_set_23 : decode cX7_set 23 = .ok (.iload_n 1, 1) := by decide +kernel
theorem dX7_set_24 : decode cX7_set 24 = .ok (.iload_n 2, 1) := by decide +kernel
theorem dX7_set_25 : decode cX7_set 25 = .ok (.iastore, 1) := by decide +kernel
theorem dX7_set_26 : decode cX7_set 26 = .ok (.iconst 1, 1) := by decide +kernel
theorem dX7_set_27 : decode cX7_set 27 = .ok (.ireturn, 1) := by decide +kernel
theorem dX7_place_0 : decode cX7_place 0 = .ok (.iload_n 1, 1) := by decide +kernel
theorem dX7_place_1 : decode cX7_place 1 = .ok (.invokestatic 90, 3) := by decide +kernel
theorem dX7_place_4 : decode cX7_place 4 = .ok (.ifCond .eq 9, 3) := by decide +kernel
theorem dX7_place_7 : decode cX7_place 7 = .ok (.ldc2_w 95, 3) := by decide +kernel
theorem dX7_place_10 : decode cX7_place 10 = .ok (.goto 8, 3) := by decide +kernel
theorem dX7_place_13 : decode cX7_place 13 = .ok (.iload_n 1, 1) := by decide +kernel
theorem dX7_place_14 : decode cX7_place 14 = .ok (.invokestatic 97, 3) := by decide +kernel
theorem dX7_place_17 : decode cX7_place 17 = .ok (.i2l, 1) := by decide +kernel
theorem dX7_place_18 : decode cX7_place 18 = .ok (.lreturn, 1) := by decide +kernel
theorem dX7_bits_0 : decode cX7_bits 0 = .ok (.iload_n 1, 1) := by decide +kernel
theorem dX7_bits_1 : decode cX7_bits 1 = .ok (.invokestatic 83, 3) := by decide +kernel
theorem dX7_bits_4 : decode cX7_bits 4 = .ok (.ifCond .eq 11, 3) := by decide +kernel
theorem dX7_bits_7 : decode cX7_bits 7 = .ok (.iload_n 1, 1) := by decide +kernel
theorem dX7_bits_8 : decode cX7_bits 8 = .ok (.invokestatic 101, 3) := by decide +kernel
theorem dX7_bits_11 : decode cX7_bits 11 = .ok (.i2l, 1) := by decide +kernel
theorem dX7_bits_12 : decode cX7_bits 12 = .ok (.goto 6, 3) := by decide +kernel
theorem dX7_bits_15 : decode cX7_bits 15 = .ok (.ldc2_w 95, 3) := by decide +kernel
theorem dX7_bits_18 : decode cX7_bits 18 = .ok (.lreturn, 1) := by decide +kernel
theorem dX7_value_0 : decode cX7_value 0 = .ok (.aload_n 0, 1) := by decide +kernel
theorem dX7_value_1 : decode cX7_value 1 = .ok (.getfield 16, 3) := by decide +kernel
theorem dX7_value_4 : decode cX7_value 4 = .ok (.iload_n 1, 1) := by decide +kernel
theorem dX7_value_5 : decode cX7_value 5 = .ok (.invokevirtual 63, 3) := by decide +kernel
theorem dX7_value_8 : decode cX7_value 8 = .ok (.ifCond .ne 7, 3) := by decide +kernel
theorem dX7_value_11 : decode cX7_value 11 = .ok (.ldc2_w 95, 3) := by decide +kernel
theorem dX7_value_14 : decode cX7_value 14 = .ok (.lreturn, 1) := by decide +kernel
theorem dX7_value_15 : decode cX7_value 15 = .ok (.aload_n 0, 1) := by decide +kernel
theorem dX7_value_16 : decode cX7_value 16 = .ok (.getfield 16, 3) := by decide +kernel
theorem dX7_value_19 : decode cX7_value 19 = .ok (.aload_n 0, 1) := by decide +kernel
theorem dX7_value_20 : decode cX7_value 20 = .ok (.getfield 34, 3) := by decide +kernel
theorem dX7_value_23 : decode cX7_value 23 = .ok (.invokevirtual 104, 3) := by decide +kernel
theorem dX7_value_26 : decode cX7_value 26 = .ok (.aload_n 0, 1) := by decide +kernel
theorem dX7_value_27 : decode cX7_value 27 = .ok (.getfield 16, 3) := by decide +kernel
theorem dX7_value_30 : decode cX7_value 30 = .ok (.getfield 108, 3) := by decide +kernel
theorem dX7_value_33 : decode cX7_value 33 = .ok (.iload_n 1, 1) := by decide +kernel
theorem dX7_value_34 : decode cX7_value 34 = .ok (.iaload, 1) := by decide +kernel
theorem dX7_value_35 : decode cX7_value 35 = .ok (.i2l, 1) := by decide +kernel
theorem dX7_value_36 : decode cX7_value 36 = .ok (.lreturn, 1) := by decide +kernel
theorem dX7_holds_0 : decode cX7_holds 0 = .ok (.aload_n 0, 1) := by decide +kernel
theorem dX7_holds_1 : decode cX7_holds 1 = .ok (.getfield 23, 3) := by decide +kernel
theorem dX7_holds_4 : decode cX7_holds 4 = .ok (.iload_n 1, 1) := by decide +kernel
theorem dX7_holds_5 : decode cX7_holds 5 = .ok (.invokevirtual 111, 3) := by decide +kernel
theorem dX7_holds_8 : decode cX7_holds 8 = .ok (.ifCond .ne 5, 3) := by decide +kernel
theorem dX7_holds_11 : decode cX7_holds 11 = .ok (.iconst (-1), 1) := by decide +kernel
theorem dX7_holds_12 : decode cX7_holds 12 = .ok (.ireturn, 1) := by decide +kernel
theorem dX7_holds_13 : decode cX7_holds 13 = .ok (.aload_n 0, 1) := by decide +kernel
theorem dX7_holds_14 : decode cX7_holds 14 = .ok (.getfield 16, 3) := by decide +kernel
theorem dX7_holds_17 : decode cX7_holds 17 = .ok (.aload_n 0, 1) := by decide +kernel
theorem dX7_holds_18 : decode cX7_holds 18 = .ok (.getfield 34, 3) := by decide +kernel
theorem dX7_holds_21 : decode cX7_holds 21 = .ok (.invokevirtual 104, 3) := by decide +kernel
theorem dX7_holds_24 : decode cX7_holds 24 = .ok (.aload_n 0, 1) := by decide +kernel
theorem dX7_holds_25 : decode cX7_holds 25 = .ok (.getfield 23, 3) := by decide +kernel
theorem dX7_holds_28 : decode cX7_holds 28 = .ok (.iload_n 1, 1) := by decide +kernel
theorem dX7_holds_29 : decode cX7_holds 29 = .ok (.aload_n 0, 1) := by decide +kernel
theorem dX7_holds_30 : decode cX7_holds 30 = .ok (.getfield 16, 3) := by decide +kernel
theorem dX7_holds_33 : decode cX7_holds 33 = .ok (.getfield 108, 3) := by decide +kernel
theorem dX7_holds_36 : decode cX7_holds 36 = .ok (.invokevirtual 112, 3) := by decide +kernel
theorem dX7_holds_39 : decode cX7_holds 39 = .ok (.ifCond .eq 7, 3) := by decide +kernel
theorem dX7_holds_42 : decode cX7_holds 42 = .ok (.iconst 1, 1) := by decide +kernel
theorem dX7_holds_43 : decode cX7_holds 43 = .ok (.goto 4, 3) := by decide +kernel
theorem dX7_holds_46 : decode cX7_holds 46 = .ok (.iconst 0, 1) := by decide +kernel
theorem dX7_holds_47 : decode cX7_holds 47 = .ok (.ireturn, 1) := by decide +kernel
theorem dX7_span_0 : decode cX7_span 0 = .ok (.aload_n 0, 1) := by decide +kernel
theorem dX7_span_1 : decode cX7_span 1 = .ok (.getfield 16, 3) := by decide +kernel
theorem dX7_span_4 : decode cX7_span 4 = .ok (.iload_n 1, 1) := by decide +kernel
theorem dX7_span_5 : decode cX7_span 5 = .ok (.invokevirtual 63, 3) := by decide +kernel
theorem dX7_span_8 : decode cX7_span 8 = .ok (.ifCond .ne 7, 3) := by decide +kernel
theorem dX7_span_11 : decode cX7_span 11 = .ok (.ldc2_w 95, 3) := by decide +kernel
theorem dX7_span_14 : decode cX7_span 14 = .ok (.lreturn, 1) := by decide +kernel
theorem dX7_span_15 : decode cX7_span 15 = .ok (.aload_n 0, 1) := by decide +kernel
theorem dX7_span_16 : decode cX7_span 16 = .ok (.getfield 43, 3) := by decide +kernel
theorem dX7_span_19 : decode cX7_span 19 = .ok (.aload_n 0, 1) := by decide +kernel
theorem dX7_span_20 : decode cX7_span 20 = .ok (.getfield 30, 3) := by decide +kernel
theorem dX7_span_23 : decode cX7_span 23 = .ok (.aload_n 0, 1) := by decide +kernel
theorem dX7_span_24 : decode cX7_span 24 = .ok (.getfield 16, 3) := by decide +kernel
theorem dX7_span_27 : decode cX7_span 27 = .ok (.getfield 116, 3) := by decide +kernel
theorem dX7_span_30 : decode cX7_span 30 = .ok (.iload_n 1, 1) := by decide +kernel
theorem dX7_span_31 : decode cX7_span 31 = .ok (.laload, 1) := by decide +kernel
theorem dX7_span_32 : decode cX7_span 32 = .ok (.invokevirtual 120, 3) := by decide +kernel
theorem dX7_span_35 : decode cX7_span 35 = .ok (.iload_n 2, 1) := by decide +kernel
theorem dX7_span_36 : decode cX7_span 36 = .ok (.tableswitch 126 0 3 #[32, 50, 79, 108], 32) := by decide +kernel
theorem dX7_span_68 : decode cX7_span 68 = .ok (.aload_n 0, 1) := by decide +kernel
theorem dX7_span_69 : decode cX7_span 69 = .ok (.getfield 43, 3) := by decide +kernel
theorem dX7_span_72 : decode cX7_span 72 = .ok (.getfield 124, 3) := by decide +kernel
theorem dX7_span_75 : decode cX7_span 75 = .ok (.iload_n 1, 1) := by decide +kernel
theorem dX7_span_76 : decode cX7_span 76 = .ok (.baload, 1) := by decide +kernel
theorem dX7_span_77 : decode cX7_span 77 = .ok (.ifCond .eq 7, 3) := by decide +kernel
theorem dX7_span_80 : decode cX7_span 80 = .ok (.lconst 1, 1) := by decide +kernel
theorem dX7_span_81 : decode cX7_span 81 = .ok (.goto 4, 3) := by decide +kernel
theorem dX7_span_84 : decode cX7_span 84 = .ok (.lconst 0, 1) := by decide +kernel
theorem dX7_span_85 : decode cX7_span 85 = .ok (.lreturn, 1) := by decide +kernel
theorem dX7_span_86 : decode cX7_span 86 = .ok (.aload_n 0, 1) := by decide +kernel
theorem dX7_span_87 : decode cX7_span 87 = .ok (.getfield 43, 3) := by decide +kernel
theorem dX7_span_90 : decode cX7_span 90 = .ok (.getfield 124, 3) := by decide +kernel
theorem dX7_span_93 : decode cX7_span 93 = .ok (.iload_n 1, 1) := by decide +kernel
theorem dX7_span_94 : decode cX7_span 94 = .ok (.baload, 1) := by decide +kernel
theorem dX7_span_95 : decode cX7_span 95 = .ok (.ifCond .eq 16, 3) := by decide +kernel
theorem dX7_span_98 : decode cX7_span 98 = .ok (.aload_n 0, 1) := by decide +kernel
theorem dX7_span_99 : decode cX7_span 99 = .ok (.getfield 43, 3) := by decide +kernel
theorem dX7_span_102 : decode cX7_span 102 = .ok (.getfield 128, 3) := by decide +kernel
theorem dX7_span_105 : decode cX7_span 105 = .ok (.iload_n 1, 1) := by decide +kernel
theorem dX7_span_106 : decode cX7_span 106 = .ok (.iaload, 1) := by decide +kernel
theorem dX7_span_107 : decode cX7_span 107 = .ok (.i2l, 1) := by decide +kernel
theorem dX7_span_108 : decode cX7_span 108 = .ok (.goto 6, 3) := by decide +kernel
theorem dX7_span_111 : decode cX7_span 111 = .ok (.ldc2_w 95, 3) := by decide +kernel
theorem dX7_span_114 : decode cX7_span 114 = .ok (.lreturn, 1) := by decide +kernel
theorem dX7_span_115 : decode cX7_span 115 = .ok (.aload_n 0, 1) := by decide +kernel
theorem dX7_span_116 : decode cX7_span 116 = .ok (.getfield 43, 3) := by decide +kernel
theorem dX7_span_119 : decode cX7_span 119 = .ok (.getfield 124, 3) := by decide +kernel
theorem dX7_span_122 : decode cX7_span 122 = .ok (.iload_n 1, 1) := by decide +kernel
theorem dX7_span_123 : decode cX7_span 123 = .ok (.baload, 1) := by decide +kernel
theorem dX7_span_124 : decode cX7_span 124 = .ok (.ifCond .eq 16, 3) := by decide +kernel
theorem dX7_span_127 : decode cX7_span 127 = .ok (.aload_n 0, 1) := by decide +kernel
theorem dX7_span_128 : decode cX7_span 128 = .ok (.getfield 43, 3) := by decide +kernel
theorem dX7_span_131 : decode cX7_span 131 = .ok (.getfield 131, 3) := by decide +kernel
theorem dX7_span_134 : decode cX7_span 134 = .ok (.iload_n 1, 1) := by decide +kernel
theorem dX7_span_135 : decode cX7_span 135 = .ok (.iaload, 1) := by decide +kernel
theorem dX7_span_136 : decode cX7_span 136 = .ok (.i2l, 1) := by decide +kernel
theorem dX7_span_137 : decode cX7_span 137 = .ok (.goto 6, 3) := by decide +kernel
theorem dX7_span_140 : decode cX7_span 140 = .ok (.ldc2_w 95, 3) := by decide +kernel
theorem dX7_span_143 : decode cX7_span 143 = .ok (.lreturn, 1) := by decide +kernel
theorem dX7_span_144 : decode cX7_span 144 = .ok (.aload_n 0, 1) := by decide +kernel
theorem dX7_span_145 : decode cX7_span 145 = .ok (.getfield 43, 3) := by decide +kernel
theorem dX7_span_148 : decode cX7_span 148 = .ok (.getfield 134, 3) := by decide +kernel
theorem dX7_span_151 : decode cX7_span 151 = .ok (.iload_n 1, 1) := by decide +kernel
theorem dX7_span_152 : decode cX7_span 152 = .ok (.baload, 1) := by decide +kernel
theorem dX7_span_153 : decode cX7_span 153 = .ok (.ifCond .eq 7, 3) := by decide +kernel
theorem dX7_span_156 : decode cX7_span 156 = .ok (.lconst 1, 1) := by decide +kernel
theorem dX7_span_157 : decode cX7_span 157 = .ok (.goto 4, 3) := by decide +kernel
theorem dX7_span_160 : decode cX7_span 160 = .ok (.lconst 0, 1) := by decide +kernel
theorem dX7_span_161 : decode cX7_span 161 = .ok (.lreturn, 1) := by decide +kernel
theorem dX7_span_162 : decode cX7_span 162 = .ok (.ldc2_w 95, 3) := by decide +kernel
theorem dX7_span_165 : decode cX7_span 165 = .ok (.lreturn, 1) := by decide +kernel
theorem dX7_judge_0 : decode cX7_judge 0 = .ok (.aload_n 0, 1) := by decide +kernel
theorem dX7_judge_1 : decode cX7_judge 1 = .ok (.getfield 23, 3) := by decide +kernel
theorem dX7_judge_4 : decode cX7_judge 4 = .ok (.iload_n 1, 1) := by decide +kernel
theorem dX7_judge_5 : decode cX7_judge 5 = .ok (.invokevirtual 111, 3) := by decide +kernel
theorem dX7_judge_8 : decode cX7_judge 8 = .ok (.ifCond .ne 5, 3) := by decide +kernel
theorem dX7_judge_11 : decode cX7_judge 11 = .ok (.iconst (-1), 1) := by decide +kernel
theorem dX7_judge_12 : decode cX7_judge 12 = .ok (.ireturn, 1) := by decide +kernel
theorem dX7_judge_13 : decode cX7_judge 13 = .ok (.aload_n 0, 1) := by decide +kernel
theorem dX7_judge_14 : decode cX7_judge 14 = .ok (.getfield 43, 3) := by decide +kernel
theorem dX7_judge_17 : decode cX7_judge 17 = .ok (.aload_n 0, 1) := by decide +kernel
theorem dX7_judge_18 : decode cX7_judge 18 = .ok (.getfield 30, 3) := by decide +kernel
theorem dX7_judge_21 : decode cX7_judge 21 = .ok (.aload_n 0, 1) := by decide +kernel
theorem dX7_judge_22 : decode cX7_judge 22 = .ok (.getfield 23, 3) := by decide +kernel
theorem dX7_judge_25 : decode cX7_judge 25 = .ok (.iload_n 1, 1) := by decide +kernel
theorem dX7_judge_26 : decode cX7_judge 26 = .ok (.aload_n 0, 1) := by decide +kernel
theorem dX7_judge_27 : decode cX7_judge 27 = .ok (.getfield 16, 3) := by decide +kernel
theorem dX7_judge_30 : decode cX7_judge 30 = .ok (.invokevirtual 137, 3) := by decide +kernel
theorem dX7_judge_33 : decode cX7_judge 33 = .ok (.invokevirtual 120, 3) := by decide +kernel
theorem dX7_judge_36 : decode cX7_judge 36 = .ok (.aload_n 0, 1) := by decide +kernel
theorem dX7_judge_37 : decode cX7_judge 37 = .ok (.getfield 23, 3) := by decide +kernel
theorem dX7_judge_40 : decode cX7_judge 40 = .ok (.iload_n 1, 1) := by decide +kernel
theorem dX7_judge_41 : decode cX7_judge 41 = .ok (.aload_n 0, 1) := by decide +kernel
theorem dX7_judge_42 : decode cX7_judge 42 = .ok (.getfield 43, 3) := by decide +kernel
theorem dX7_judge_45 : decode cX7_judge 45 = .ok (.invokevirtual 141, 3) := by decide +kernel
theorem dX7_judge_48 : decode cX7_judge 48 = .ok (.ireturn, 1) := by decide +kernel
theorem dX7_solve_0 : decode cX7_solve 0 = .ok (.iload_n 1, 1) := by decide +kernel
theorem dX7_solve_1 : decode cX7_solve 1 = .ok (.iconst 1, 1) := by decide +kernel
theorem dX7_solve_2 : decode cX7_solve 2 = .ok (.if_icmp .lt 10, 3) := by decide +kernel
theorem dX7_solve_5 : decode cX7_solve 5 = .ok (.iload_n 1, 1) := by decide +kernel
theorem dX7_solve_6 : decode cX7_solve 6 = .ok (.sipush 5000, 3) := by decide +kernel
theorem dX7_solve_9 : decode cX7_solve 9 = .ok (.if_icmp .le 6, 3) := by decide +kernel
theorem dX7_solve_12 : decode cX7_solve 12 = .ok (.bipush (-2), 2) := by decide +kernel
theorem dX7_solve_14 : decode cX7_solve 14 = .ok (.ireturn, 1) := by decide +kernel
theorem dX7_solve_15 : decode cX7_solve 15 = .ok (.aload_n 0, 1) := by decide +kernel
theorem dX7_solve_16 : decode cX7_solve 16 = .ok (.getfield 52, 3) := by decide +kernel
theorem dX7_solve_19 : decode cX7_solve 19 = .ok (.iload_n 1, 1) := by decide +kernel
theorem dX7_solve_20 : decode cX7_solve 20 = .ok (.invokevirtual 145, 3) := by decide +kernel
theorem dX7_solve_23 : decode cX7_solve 23 = .ok (.ireturn, 1) := by decide +kernel
theorem dX7_solved_0 : decode cX7_solved 0 = .ok (.aload_n 0, 1) := by decide +kernel
theorem dX7_solved_1 : decode cX7_solved 1 = .ok (.getfield 52, 3) := by decide +kernel
theorem dX7_solved_4 : decode cX7_solved 4 = .ok (.getfield 148, 3) := by decide +kernel
theorem dX7_solved_7 : decode cX7_solved 7 = .ok (.ifCond .ne 7, 3) := by decide +kernel
theorem dX7_solved_10 : decode cX7_solved 10 = .ok (.ldc2_w 95, 3) := by decide +kernel
theorem dX7_solved_13 : decode cX7_solved 13 = .ok (.lreturn, 1) := by decide +kernel
theorem dX7_solved_14 : decode cX7_solved 14 = .ok (.iload_n 1, 1) := by decide +kernel
theorem dX7_solved_15 : decode cX7_solved 15 = .ok (.tableswitch 52 0 2 #[25, 34, 43], 25) := by decide +kernel
theorem dX7_solved_40 : decode cX7_solved 40 = .ok (.aload_n 0, 1) := by decide +kernel
theorem dX7_solved_41 : decode cX7_solved 41 = .ok (.getfield 52, 3) := by decide +kernel
theorem dX7_solved_44 : decode cX7_solved 44 = .ok (.getfield 152, 3) := by decide +kernel
theorem dX7_solved_47 : decode cX7_solved 47 = .ok (.i2l, 1) := by decide +kernel
theorem dX7_solved_48 : decode cX7_solved 48 = .ok (.lreturn, 1) := by decide +kernel
theorem dX7_solved_49 : decode cX7_solved 49 = .ok (.aload_n 0, 1) := by decide +kernel
theorem dX7_solved_50 : decode cX7_solved 50 = .ok (.getfield 52, 3) := by decide +kernel
theorem dX7_solved_53 : decode cX7_solved 53 = .ok (.getfield 155, 3) := by decide +kernel
theorem dX7_solved_56 : decode cX7_solved 56 = .ok (.i2l, 1) := by decide +kernel
theorem dX7_solved_57 : decode cX7_solved 57 = .ok (.lreturn, 1) := by decide +kernel
theorem dX7_solved_58 : decode cX7_solved 58 = .ok (.aload_n 0, 1) := by decide +kernel
theorem dX7_solved_59 : decode cX7_solved 59 = .ok (.getfield 52, 3) := by decide +kernel
theorem dX7_solved_62 : decode cX7_solved 62 = .ok (.getfield 158, 3) := by decide +kernel
theorem dX7_solved_65 : decode cX7_solved 65 = .ok (.i2l, 1) := by decide +kernel
theorem dX7_solved_66 : decode cX7_solved 66 = .ok (.lreturn, 1) := by decide +kernel
theorem dX7_solved_67 : decode cX7_solved 67 = .ok (.iload_n 1, 1) := by decide +kernel
theorem dX7_solved_68 : decode cX7_solved 68 = .ok (.iconst 3, 1) := by decide +kernel
theorem dX7_solved_69 : decode cX7_solved 69 = .ok (.isub, 1) := by decide +kernel
theorem dX7_solved_70 : decode cX7_solved 70 = .ok (.invokestatic 56, 3) := by decide +kernel
theorem dX7_solved_73 : decode cX7_solved 73 = .ok (.ifCond .eq 32, 3) := by decide +kernel
theorem dX7_solved_76 : decode cX7_solved 76 = .ok (.aload_n 0, 1) := by decide +kernel
theorem dX7_solved_77 : decode cX7_solved 77 = .ok (.getfield 52, 3) := by decide +kernel
theorem dX7_solved_80 : decode cX7_solved 80 = .ok (.getfield 152, 3) := by decide +kernel
theorem dX7_solved_83 : decode cX7_solved 83 = .ok (.iconst 1, 1) := by decide +kernel
theorem dX7_solved_84 : decode cX7_solved 84 = .ok (.if_icmp .ne 21, 3) := by decide +kernel
theorem dX7_solved_87 : decode cX7_solved 87 = .ok (.aload_n 0, 1) := by decide +kernel
theorem dX7_solved_88 : decode cX7_solved 88 = .ok (.getfield 52, 3) := by decide +kernel
theorem dX7_solved_91 : decode cX7_solved 91 = .ok (.getfield 161, 3) := by decide +kernel
theorem dX7_solved_94 : decode cX7_solved 94 = .ok (.getfield 164, 3) := by decide +kernel
theorem dX7_solved_97 : decode cX7_solved 97 = .ok (.iload_n 1, 1) := by decide +kernel
theorem dX7_solved_98 : decode cX7_solved 98 = .ok (.iconst 3, 1) := by decide +kernel
theorem dX7_solved_99 : decode cX7_solved 99 = .ok (.isub, 1) := by decide +kernel
theorem dX7_solved_100 : decode cX7_solved 100 = .ok (.iaload, 1) := by decide +kernel
theorem dX7_solved_101 : decode cX7_solved 101 = .ok (.i2l, 1) := by decide +kernel
theorem dX7_solved_102 : decode cX7_solved 102 = .ok (.goto 6, 3) := by decide +kernel
theorem dX7_solved_105 : decode cX7_solved 105 = .ok (.ldc2_w 95, 3) := by decide +kernel
theorem dX7_solved_108 : decode cX7_solved 108 = .ok (.lreturn, 1) := by decide +kernel
theorem dX7_width_0 : decode cX7_width 0 = .ok (.iload_n 1, 1) := by decide +kernel
theorem dX7_width_1 : decode cX7_width 1 = .ok (.invokestatic 56, 3) := by decide +kernel
theorem dX7_width_4 : decode cX7_width 4 = .ok (.ifCond .ne 7, 3) := by decide +kernel
theorem dX7_width_7 : decode cX7_width 7 = .ok (.ldc2_w 95, 3) := by decide +kernel
theorem dX7_width_10 : decode cX7_width 10 = .ok (.lreturn, 1) := by decide +kernel
theorem dX7_width_11 : decode cX7_width 11 = .ok (.iload_n 2, 1) := by decide +kernel
theorem dX7_width_12 : decode cX7_width 12 = .ok (.ifCond .ne 13, 3) := by decide +kernel
theorem dX7_width_15 : decode cX7_width 15 = .ok (.new 165, 3) := by decide +kernel
theorem dX7_width_18 : decode cX7_width 18 = .ok (.dup, 1) := by decide +kernel
theorem dX7_width_19 : decode cX7_width 19 = .ok (.ldc 167, 2) := by decide +kernel
theorem dX7_width_21 : decode cX7_width 21 = .ok (.invokespecial 169, 3) := by decide +kernel
theorem dX7_width_24 : decode cX7_width 24 = .ok (.athrow, 1) := by decide +kernel
theorem dX7_width_25 : decode cX7_width 25 = .ok (.aload_n 0, 1) := by decide +kernel
theorem dX7_width_26 : decode cX7_width 26 = .ok (.getfield 30, 3) := by decide +kernel
theorem dX7_width_29 : decode cX7_width 29 = .ok (.getfield 172, 3) := by decide +kernel
theorem dX7_width_32 : decode cX7_width 32 = .ok (.iload_n 1, 1) := by decide +kernel
theorem dX7_width_33 : decode cX7_width 33 = .ok (.iaload, 1) := by decide +kernel
theorem dX7_width_34 : decode cX7_width 34 = .ok (.i2l, 1) := by decide +kernel
theorem dX7_width_35 : decode cX7_width 35 = .ok (.aload_n 0, 1) := by decide +kernel
theorem dX7_width_36 : decode cX7_width 36 = .ok (.getfield 30, 3) := by decide +kernel
theorem dX7_width_39 : decode cX7_width 39 = .ok (.getfield 164, 3) := by decide +kernel
theorem dX7_width_42 : decode cX7_width 42 = .ok (.iload_n 1, 1) := by decide +kernel
theorem dX7_width_43 : decode cX7_width 43 = .ok (.iaload, 1) := by decide +kernel
theorem dX7_width_44 : decode cX7_width 44 = .ok (.i2l, 1) := by decide +kernel
theorem dX7_width_45 : decode cX7_width 45 = .ok (.lsub, 1) := by decide +kernel
theorem dX7_width_46 : decode cX7_width 46 = .ok (.lconst 1, 1) := by decide +kernel
theorem dX7_width_47 : decode cX7_width 47 = .ok (.ladd, 1) := by decide +kernel
theorem dX7_width_48 : decode cX7_width 48 = .ok (.iload_n 2, 1) := by decide +kernel
theorem dX7_width_49 : decode cX7_width 49 = .ok (.i2l, 1) := by decide +kernel
theorem dX7_width_50 : decode cX7_width 50 = .ok (.ldiv, 1) := by decide +kernel
theorem dX7_width_51 : decode cX7_width 51 = .ok (.lreturn, 1) := by decide +kernel
theorem dX7_isVariable_0 : decode cX7_isVariable 0 = .ok (.iload_n 0, 1) := by decide +kernel
theorem dX7_isVariable_1 : decode cX7_isVariable 1 = .ok (.ifCond .lt 12, 3) := by decide +kernel
theorem dX7_isVariable_4 : decode cX7_isVariable 4 = .ok (.iload_n 0, 1) := by decide +kernel
theorem dX7_isVariable_5 : decode cX7_isVariable 5 = .ok (.iconst 4, 1) := by decide +kernel
theorem dX7_isVariable_6 : decode cX7_isVariable 6 = .ok (.if_icmp .ge 7, 3) := by decide +kernel
theorem dX7_isVariable_9 : decode cX7_isVariable 9 = .ok (.iconst 1, 1) := by decide +kernel
theorem dX7_isVariable_10 : decode cX7_isVariable 10 = .ok (.goto 4, 3) := by decide +kernel
theorem dX7_isVariable_13 : decode cX7_isVariable 13 = .ok (.iconst 0, 1) := by decide +kernel
theorem dX7_isVariable_14 : decode cX7_isVariable 14 = .ok (.ireturn, 1) := by decide +kernel
theorem dX7_isPlace_0 : decode cX7_isPlace 0 = .ok (.iload_n 0, 1) := by decide +kernel
theorem dX7_isPlace_1 : decode cX7_isPlace 1 = .ok (.ldc 173, 2) := by decide +kernel
theorem dX7_isPlace_3 : decode cX7_isPlace 3 = .ok (.if_icmp .lt 13, 3) := by decide +kernel
theorem dX7_isPlace_6 : decode cX7_isPlace 6 = .ok (.iload_n 0, 1) := by decide +kernel
theorem dX7_isPlace_7 : decode cX7_isPlace 7 = .ok (.ldc 174, 2) := by decide +kernel
theorem dX7_isPlace_9 : decode cX7_isPlace 9 = .ok (.if_icmp .gt 7, 3) := by decide +kernel
theorem dX7_isPlace_12 : decode cX7_isPlace 12 = .ok (.iconst 1, 1) := by decide +kernel
theorem dX7_isPlace_13 : decode cX7_isPlace 13 = .ok (.goto 4, 3) := by decide +kernel
theorem dX7_isPlace_16 : decode cX7_isPlace 16 = .ok (.iconst 0, 1) := by decide +kernel
theorem dX7_isPlace_17 : decode cX7_isPlace 17 = .ok (.ireturn, 1) := by decide +kernel
theorem dX8_init_0 : decode cX8_init 0 = .ok (.aload_n 0, 1) := by decide +kernel
theorem dX8_init_1 : decode cX8_init 1 = .ok (.invokespecial 1, 3) := by decide +kernel
theorem dX8_init_4 : decode cX8_init 4 = .ok (.aload_n 0, 1) := by decide +kernel
theorem dX8_init_5 : decode cX8_init 5 = .ok (.bipush 40, 2) := by decide +kernel
theorem dX8_init_7 : decode cX8_init 7 = .ok (.newarray .int, 2) := by decide +kernel
theorem dX8_init_9 : decode cX8_init 9 = .ok (.putfield 7, 3) := by decide +kernel
theorem dX8_init_12 : decode cX8_init 12 = .ok (.aload_n 0, 1) := by decide +kernel
theorem dX8_init_13 : decode cX8_init 13 = .ok (.bipush 40, 2) := by decide +kernel
theorem dX8_init_15 : decode cX8_init 15 = .ok (.newarray .int, 2) := by decide +kernel
theorem dX8_init_17 : decode cX8_init 17 = .ok (.putfield 13, 3) := by decide +kernel
theorem dX8_init_20 : decode cX8_init 20 = .ok (.aload_n 0, 1) := by decide +kernel
theorem dX8_init_21 : decode cX8_init 21 = .ok (.bipush 40, 2) := by decide +kernel
theorem dX8_init_23 : decode cX8_init 23 = .ok (.newarray .int, 2) := by decide +kernel
theorem dX8_init_25 : decode cX8_init 25 = .ok (.putfield 16, 3) := by decide +kernel
theorem dX8_init_28 : decode cX8_init 28 = .ok (.aload_n 0, 1) := by decide +kernel
theorem dX8_init_29 : decode cX8_init 29 = .ok (.bipush 12, 2) := by decide +kernel
theorem dX8_init_31 : decode cX8_init 31 = .ok (.newarray .int, 2) := by decide +kernel
theorem dX8_init_33 : decode cX8_init 33 = .ok (.putfield 19, 3) := by decide +kernel
theorem dX8_init_36 : decode cX8_init 36 = .ok (.aload_n 0, 1) := by decide +kernel
theorem dX8_init_37 : decode cX8_init 37 = .ok (.bipush 12, 2) := by decide +kernel
theorem dX8_init_39 : decode cX8_init 39 = .ok (.newarray .int, 2) := by decide +kernel
theorem dX8_init_41 : decode cX8_init 41 = .ok (.putfield 22, 3) := by decide +kernel
theorem dX8_init_44 : decode cX8_init 44 = .ok (.aload_n 0, 1) := by decide +kernel
theorem dX8_init_45 : decode cX8_init 45 = .ok (.bipush 12, 2) := by decide +kernel
theorem dX8_init_47 : decode cX8_init 47 = .ok (.newarray .int, 2) := by decide +kernel
theorem dX8_init_49 : decode cX8_init 49 = .ok (.putfield 25, 3) := by decide +kernel
theorem dX8_init_52 : decode cX8_init 52 = .ok (.aload_n 0, 1) := by decide +kernel
theorem dX8_init_53 : decode cX8_init 53 = .ok (.iconst 4, 1) := by decide +kernel
theorem dX8_init_54 : decode cX8_init 54 = .ok (.newarray .long, 2) := by decide +kernel
theorem dX8_init_56 : decode cX8_init 56 = .ok (.putfield 28, 3) := by decide +kernel
theorem dX8_init_59 : decode cX8_init 59 = .ok (.aload_n 0, 1) := by decide +kernel
theorem dX8_init_60 : decode cX8_init 60 = .ok (.iconst 4, 1) := by decide +kernel
theorem dX8_init_61 : decode cX8_init 61 = .ok (.newarray .long, 2) := by decide +kernel
theorem dX8_init_63 : decode cX8_init 63 = .ok (.putfield 32, 3) := by decide +kernel
theorem dX8_init_66 : decode cX8_init 66 = .ok (.aload_n 0, 1) := by decide +kernel
theorem dX8_init_67 : decode cX8_init 67 = .ok (.iconst 4, 1) := by decide +kernel
theorem dX8_init_68 : decode cX8_init 68 = .ok (.newarray .long, 2) := by decide +kernel
theorem dX8_init_70 : decode cX8_init 70 = .ok (.putfield 35, 3) := by decide +kernel
theorem dX8_init_73 : decode cX8_init 73 = .ok (.aload_n 0, 1) := by decide +kernel
theorem dX8_init_74 : decode cX8_init 74 = .ok (.iconst 4, 1) := by decide +kernel
theorem dX8_init_75 : decode cX8_init 75 = .ok (.newarray .long, 2) := by decide +kernel
theorem dX8_init_77 : decode cX8_init 77 = .ok (.putfield 38, 3) := by decide +kernel
theorem dX8_init_80 : decode cX8_init 80 = .ok (.aload_n 0, 1) := by decide +kernel
theorem dX8_init_81 : decode cX8_init 81 = .ok (.bipush 40, 2) := by decide +kernel
theorem dX8_init_83 : decode cX8_init 83 = .ok (.newarray .long, 2) := by decide +kernel
theorem dX8_init_85 : decode cX8_init 85 = .ok (.putfield 41, 3) := by decide +kernel
theorem dX8_init_88 : decode cX8_init 88 = .ok (.aload_n 0, 1) := by decide +kernel
theorem dX8_init_89 : decode cX8_init 89 = .ok (.iconst 4, 1) := by decide +kernel
theorem dX8_init_90 : decode cX8_init 90 = .ok (.newarray .long, 2) := by decide +kernel
theorem dX8_init_92 : decode cX8_init 92 = .ok (.putfield 44, 3) := by decide +kernel
theorem dX8_init_95 : decode cX8_init 95 = .ok (.aload_n 0, 1) := by decide +kernel
theorem dX8_init_96 : decode cX8_init 96 = .ok (.iconst 4, 1) := by decide +kernel
theorem dX8_init_97 : decode cX8_init 97 = .ok (.newarray .long, 2) := by decide +kernel
theorem dX8_init_99 : decode cX8_init 99 = .ok (.putfield 47, 3) := by decide +kernel
theorem dX8_init_102 : decode cX8_init 102 = .ok (.aload_n 0, 1) := by decide +kernel
theorem dX8_init_103 : decode cX8_init 103 = .ok (.bipush 40, 2) := by decide +kernel
theorem dX8_init_105 : decode cX8_init 105 = .ok (.newarray .boolean, 2) := by decide +kernel
theorem dX8_init_107 : decode cX8_init 107 = .ok (.putfield 50, 3) := by decide +kernel
theorem dX8_init_110 : decode cX8_init 110 = .ok (.aload_n 0, 1) := by decide +kernel
theorem dX8_init_111 : decode cX8_init 111 = .ok (.bipush 40, 2) := by decide +kernel
theorem dX8_init_113 : decode cX8_init 113 = .ok (.newarray .long, 2) := by decide +kernel
theorem dX8_init_115 : decode cX8_init 115 = .ok (.putfield 54, 3) := by decide +kernel
theorem dX8_init_118 : decode cX8_init 118 = .ok (.aload_n 0, 1) := by decide +kernel
theorem dX8_init_119 : decode cX8_init 119 = .ok (.bipush 40, 2) := by decide +kernel
theorem dX8_init_121 : decode cX8_init 121 = .ok (.newarray .long, 2) := by decide +kernel
theorem dX8_init_123 : decode cX8_init 123 = .ok (.putfield 57, 3) := by decide +kernel
theorem dX8_init_126 : decode cX8_init 126 = .ok (.aload_n 0, 1) := by decide +kernel
theorem dX8_init_127 : decode cX8_init 127 = .ok (.bipush 40, 2) := by decide +kernel
theorem dX8_init_129 : decode cX8_init 129 = .ok (.newarray .boolean, 2) := by decide +kernel
theorem dX8_init_131 : decode cX8_init 131 = .ok (.putfield 60, 3) := by decide +kernel
theorem dX8_init_134 : decode cX8_init 134 = .ok (.aload_n 0, 1) := by decide +kernel
theorem dX8_init_135 : decode cX8_init 135 = .ok (.sipush 1200, 3) := by decide +kernel
theorem dX8_init_138 : decode cX8_init 138 = .ok (.newarray .long, 2) := by decide +kernel
theorem dX8_init_140 : decode cX8_init 140 = .ok (.putfield 63, 3) := by decide +kernel
theorem dX8_init_143 : decode cX8_init 143 = .ok (.iconst 0, 1) := by decide +kernel
theorem dX8_init_144 : decode cX8_init 144 = .ok (.istore_n 1, 1) := by decide +kernel
theorem dX8_init_145 : decode cX8_init 145 = .ok (.iload_n 1, 1) := by decide +kernel
theorem dX8_init_146 : decode cX8_init 146 = .ok (.iconst 4, 1) := by decide +kernel
theorem dX8_init_147 : decode cX8_init 147 = .ok (.if_icmp .ge 27, 3) := by decide +kernel
theorem dX8_init_150 : decode cX8_init 150 = .ok (.aload_n 0, 1) := by decide +kernel
theorem dX8_init_151 : decode cX8_init 151 = .ok (.getfield 28, 3) := by decide +kernel
theorem dX8_init_154 : decode cX8_init 154 = .ok (.iload_n 1, 1) := by decide +kernel
theorem dX8_init_155 : decode cX8_init 155 = .ok (.ldc2_w 66, 3) := by decide +kernel
theorem dX8_init_158 : decode cX8_init 158 = .ok (.lastore, 1) := by decide +kernel
theorem dX8_init_159 : decode cX8_init 159 = .ok (.aload_n 0, 1) := by decide +kernel
theorem dX8_init_160 : decode cX8_init 160 = .ok (.getfield 32, 3) := by decide +kernel
theorem dX8_init_163 : decode cX8_init 163 = .ok (.iload_n 1, 1) := by decide +kernel
theorem dX8_init_164 : decode cX8_init 164 = .ok (.ldc2_w 68, 3) := by decide +kernel
theorem dX8_init_167 : decode cX8_init 167 = .ok (.lastore, 1) := by decide +kernel
theorem dX8_init_168 : decode cX8_init 168 = .ok (.iinc 1 1, 3) := by decide +kernel
theorem dX8_init_171 : decode cX8_init 171 = .ok (.goto (-26), 3) := by decide +kernel
theorem dX8_init_174 : decode cX8_init 174 = .ok (.return_, 1) := by decide +kernel
theorem dX8_thrown_0 : decode cX8_thrown 0 = .ok (.aload_n 0, 1) := by decide +kernel
theorem dX8_thrown_1 : decode cX8_thrown 1 = .ok (.getfield 70, 3) := by decide +kernel
theorem dX8_thrown_4 : decode cX8_thrown 4 = .ok (.ireturn, 1) := by decide +kernel
theorem dX8_in_0 : decode cX8_in 0 = .ok (.lload_n 0, 1) := by decide +kernel
theorem dX8_in_1 : decode cX8_in 1 = .ok (.lload_n 2, 1) := by decide +kernel
theorem dX8_in_2 : decode cX8_in 2 = .ok (.lcmp, 1) := by decide +kernel
theorem dX8_in_3 : decode cX8_in 3 = .ok (.ifCond .lt 14, 3) := by decide +kernel
theorem dX8_in_6 : decode cX8_in 6 = .ok (.lload_n 0, 1) := by decide +kernel
theorem dX8_in_7 : decode cX8_in 7 = .ok (.lload 4, 2) := by decide +kernel
theorem dX8_in_9 : decode cX8_in 9 = .ok (.lcmp, 1) := by decide +kernel
theorem dX8_in_10 : decode cX8_in 10 = .ok (.ifCond .gt 7, 3) := by decide +kernel
theorem dX8_in_13 : decode cX8_in 13 = .ok (.iconst 1, 1) := by decide +kernel
theorem dX8_in_14 : decode cX8_in 14 = .ok (.goto 4, 3) := by decide +kernel
theorem dX8_in_17 : decode cX8_in 17 = .ok (.iconst 0, 1) := by decide +kernel
theorem dX8_in_18 : decode cX8_in 18 = .ok (.ireturn, 1) := by decide +kernel
theorem dX8_placeOf_0 : decode cX8_placeOf 0 = .ok (.iload_n 0, 1) := by decide +kernel
theorem dX8_placeOf_1 : decode cX8_placeOf 1 = .ok (.ifCond .eq 11, 3) := by decide +kernel
theorem dX8_placeOf_4 : decode cX8_placeOf 4 = .ok (.ldc2_w 74, 3) := by decide +kernel
theorem dX8_placeOf_7 : decode cX8_placeOf 7 = .ok (.lload_n 1, 1) := by decide +kernel
theorem dX8_placeOf_8 : decode cX8_placeOf 8 = .ok (.lsub, 1) := by decide +kernel
theorem dX8_placeOf_9 : decode cX8_placeOf 9 = .ok (.goto 4, 3) := by decide +kernel
theorem dX8_placeOf_12 : decode cX8_placeOf 12 = .ok (.lload_n 1, 1) := by decide +kernel
theorem dX8_placeOf_13 : decode cX8_placeOf 13 = .ok (.lreturn, 1) := by decide +kernel
theorem dX8_fromBits_0 : decode cX8_fromBits 0 = .ok (.iload_n 0, 1) := by decide +kernel
theorem dX8_fromBits_1 : decode cX8_fromBits 1 = .ok (.ldc 144, 2) := by decide +kernel
theorem dX8_fromBits_3 : decode cX8_fromBits 3 = .ok (.iand, 1) := by decide +kernel
theorem dX8_fromBits_4 : decode cX8_fromBits 4 = .ok (.i2l, 1) := by decide +kernel
theorem dX8_fromBits_5 : decode cX8_fromBits 5 = .ok (.lstore_n 1, 1) := by decide +kernel
theorem dX8_fromBits_6 : decode cX8_fromBits 6 = .ok (.lload_n 1, 1) := by decide +kernel
theorem dX8_fromBits_7 : decode cX8_fromBits 7 = .ok (.ldc2_w 68, 3) := by decide +kernel
theorem dX8_fromBits_10 : decode cX8_fromBits 10 = .ok (.lcmp, 1) := by decide +kernel
theorem dX8_fromBits_11 : decode cX8_fromBits 11 = .ok (.ifCond .le 9, 3) := by decide +kernel
theorem dX8_fromBits_14 : decode cX8_fromBits 14 = .ok (.ldc2_w 82, 3) := by decide +kernel
theorem dX8_fromBits_17 : decode cX8_fromBits 17 = .ok (.goto 16, 3) := by decide +kernel
theorem dX8_fromBits_20 : decode cX8_fromBits 20 = .ok (.iload_n 0, 1) := by decide +kernel
theorem dX8_fromBits_21 : decode cX8_fromBits 21 = .ok (.ifCond .ge 7, 3) := by decide +kernel
theorem dX8_fromBits_24 : decode cX8_fromBits 24 = .ok (.iconst 1, 1) := by decide +kernel
theorem dX8_fromBits_25 : decode cX8_fromBits 25 = .ok (.goto 4, 3) := by decide +kernel
theorem dX8_fromBits_28 : decode cX8_fromBits 28 = .ok (.iconst 0, 1) := by decide +kernel
theorem dX8_fromBits_29 : decode cX8_fromBits 29 = .ok (.lload_n 1, 1) := by decide +kernel
theorem dX8_fromBits_30 : decode cX8_fromBits 30 = .ok (.invokestatic 84, 3) := by decide +kernel
theorem dX8_fromBits_33 : decode cX8_fromBits 33 = .ok (.lreturn, 1) := by decide +kernel
theorem dX8_toBits_0 : decode cX8_toBits 0 = .ok (.lload_n 0, 1) := by decide +kernel
theorem dX8_toBits_1 : decode cX8_toBits 1 = .ok (.ldc2_w 82, 3) := by decide +kernel
theorem dX8_toBits_4 : decode cX8_toBits 4 = .ok (.lcmp, 1) := by decide +kernel
theorem dX8_toBits_5 : decode cX8_toBits 5 = .ok (.ifCond .ne 9, 3) := by decide +kernel
theorem dX8_toBits_8 : decode cX8_toBits 8 = .ok (.ldc2_w 145, 3) := by decide +kernel
theorem dX8_toBits_11 : decode cX8_toBits 11 = .ok (.goto 22, 3) := by decide +kernel
theorem dX8_toBits_14 : decode cX8_toBits 14 = .ok (.lload_n 0, 1) := by decide +kernel
theorem dX8_toBits_15 : decode cX8_toBits 15 = .ok (.lconst 0, 1) := by decide +kernel
theorem dX8_toBits_16 : decode cX8_toBits 16 = .ok (.lcmp, 1) := by decide +kernel
theorem dX8_toBits_17 : decode cX8_toBits 17 = .ok (.ifCond .lt 7, 3) := by decide +kernel
theorem dX8_toBits_20 : decode cX8_toBits 20 = .ok (.lload_n 0, 1) := by decide +kernel
theorem dX8_toBits_21 : decode cX8_toBits 21 = .ok (.goto 12, 3) := by decide +kernel
theorem dX8_toBits_24 : decode cX8_toBits 24 = .ok (.ldc2_w 74, 3) := by decide +kernel
theorem dX8_toBits_27 : decode cX8_toBits 27 = .ok (.lload_n 0, 1) := by decide +kernel
theorem dX8_toBits_28 : decode cX8_toBits 28 = .ok (.lsub, 1) := by decide +kernel
theorem dX8_toBits_29 : decode cX8_toBits 29 = .ok (.ldc2_w 112, 3) := by decide +kernel
theorem dX8_toBits_32 : decode cX8_toBits 32 = .ok (.lsub, 1) := by decide +kernel
theorem dX8_toBits_33 : decode cX8_toBits 33 = .ok (.lreturn, 1) := by decide +kernel
theorem dX8_isNode_0 : decode cX8_isNode 0 = .ok (.iload_n 1, 1) := by decide +kernel
theorem dX8_isNode_1 : decode cX8_isNode 1 = .ok (.i2l, 1) := by decide +kernel
theorem dX8_isNode_2 : decode cX8_isNode 2 = .ok (.lconst 0, 1) := by decide +kernel
theorem dX8_isNode_3 : decode cX8_isNode 3 = .ok (.aload_n 0, 1) := by decide +kernel
theorem dX8_isNode_4 : decode cX8_isNode 4 = .ok (.getfield 147, 3) := by decide +kernel
theorem dX8_isNode_7 : decode cX8_isNode 7 = .ok (.iconst 1, 1) := by decide +kernel
theorem dX8_isNode_8 : decode cX8_isNode 8 = .ok (.isub, 1) := by decide +kernel
theorem dX8_isNode_9 : decode cX8_isNode 9 = .ok (.i2l, 1) := by decide +kernel
theorem dX8_isNode_10 : decode cX8_isNode 10 = .ok (.invokestatic 150, 3) := by decide +kernel
theorem dX8_isNode_13 : decode cX8_isNode 13 = .ok (.ireturn, 1) := by decide +kernel
theorem dX8_node_0 : decode cX8_node 0 = .ok (.aload_n 0, 1) := by decide +kernel
theorem dX8_node_1 : decode cX8_node 1 = .ok (.iconst 0, 1) := by decide +kernel
theorem dX8_node_2 : decode cX8_node 2 = .ok (.putfield 70, 3) := by decide +kernel
theorem dX8_node_5 : decode cX8_node 5 = .ok (.iload_n 1, 1) := by decide +kernel
theorem dX8_node_6 : decode cX8_node 6 = .ok (.iconst 1, 1) := by decide +kernel
theorem dX8_node_7 : decode cX8_node 7 = .ok (.if_icmp .ne 18, 3) := by decide +kernel
theorem dX8_node_10 : decode cX8_node 10 = .ok (.iload_n 2, 1) := by decide +kernel
theorem dX8_node_11 : decode cX8_node 11 = .ok (.i2l, 1) := by decide +kernel
theorem dX8_node_12 : decode cX8_node 12 = .ok (.lconst 0, 1) := by decide +kernel
theorem dX8_node_13 : decode cX8_node 13 = .ok (.ldc2_w 156, 3) := by decide +kernel
theorem dX8_node_16 : decode cX8_node 16 = .ok (.invokestatic 150, 3) := by decide +kernel
theorem dX8_node_19 : decode cX8_node 19 = .ok (.ifCond .ne 45, 3) := by decide +kernel
theorem dX8_node_22 : decode cX8_node 22 = .ok (.goto 40, 3) := by decide +kernel
theorem dX8_node_25 : decode cX8_node 25 = .ok (.iload_n 1, 1) := by decide +kernel
theorem dX8_node_26 : decode cX8_node 26 = .ok (.i2l, 1) := by decide +kernel
theorem dX8_node_27 : decode cX8_node 27 = .ok (.ldc2_w 90, 3) := by decide +kernel
theorem dX8_node_30 : decode cX8_node 30 = .ok (.ldc2_w 158, 3) := by decide +kernel
theorem dX8_node_33 : decode cX8_node 33 = .ok (.invokestatic 150, 3) := by decide +kernel
theorem dX8_node_36 : decode cX8_node 36 = .ok (.ifCond .eq 28, 3) := by decide +kernel
theorem dX8_node_39 : decode cX8_node 39 = .ok (.aload_n 0, 1) := by decide +kernel
theorem dX8_node_40 : decode cX8_node 40 = .ok (.iload_n 2, 1) := by decide +kernel
theorem dX8_node_41 : decode cX8_node 41 = .ok (.invokevirtual 160, 3) := by decide +kernel
theorem dX8_node_44 : decode cX8_node 44 = .ok (.ifCond .eq 18, 3) := by decide +kernel
theorem dX8_node_47 : decode cX8_node 47 = .ok (.iload_n 1, 1) := by decide +kernel
theorem dX8_node_48 : decode cX8_node 48 = .ok (.invokestatic 164, 3) := by decide +kernel
theorem dX8_node_51 : decode cX8_node 51 = .ok (.ifCond .eq 13, 3) := by decide +kernel
theorem dX8_node_54 : decode cX8_node 54 = .ok (.aload_n 0, 1) := by decide +kernel
theorem dX8_node_55 : decode cX8_node 55 = .ok (.iload_n 3, 1) := by decide +kernel
theorem dX8_node_56 : decode cX8_node 56 = .ok (.invokevirtual 160, 3) := by decide +kernel
theorem dX8_node_59 : decode cX8_node 59 = .ok (.ifCond .ne 5, 3) := by decide +kernel
theorem dX8_node_62 : decode cX8_node 62 = .ok (.iconst (-1), 1) := by decide +kernel
theorem dX8_node_63 : decode cX8_node 63 = .ok (.ireturn, 1) := by decide +kernel
theorem dX8_node_64 : decode cX8_node 64 = .ok (.iload_n 1, 1) := by decide +kernel
theorem dX8_node_65 : decode cX8_node 65 = .ok (.i2l, 1) := by decide +kernel
theorem dX8_node_66 : decode cX8_node 66 = .ok (.lconst 0, 1) := by decide +kernel
theorem dX8_node_67 : decode cX8_node 67 = .ok (.ldc2_w 158, 3) := by decide +kernel
theorem dX8_node_70 : decode cX8_node 70 = .ok (.invokestatic 150, 3) := by decide +kernel
theorem dX8_node_73 : decode cX8_node 73 = .ok (.ifCond .ne 6, 3) := by decide +kernel
theorem dX8_node_76 : decode cX8_node 76 = .ok (.bipush (-2), 2) := by decide +kernel
theorem dX8_node_78 : decode cX8_node 78 = .ok (.ireturn, 1) := by decide +kernel
theorem dX8_node_79 : decode cX8_node 79 = .ok (.aload_n 0, 1) := by decide +kernel
theorem dX8_node_80 : decode cX8_node 80 = .ok (.getfield 147, 3) := by decide +kernel
theorem dX8_node_83 : decode cX8_node 83 = .ok (.bipush 40, 2) := by decide +kernel
theorem dX8_node_85 : decode cX8_node 85 = .ok (.if_icmp .ne 6, 3) := by decide +kernel
theorem dX8_node_88 : decode cX8_node 88 = .ok (.bipush (-4), 2) := by decide +kernel
theorem dX8_node_90 : decode cX8_node 90 = .ok (.ireturn, 1) := by decide +kernel
theorem dX8_node_91 : decode cX8_node 91 = .ok (.aload_n 0, 1) := by decide +kernel
theorem dX8_node_92 : decode cX8_node 92 = .ok (.getfield 7, 3) := by decide +kernel
theorem dX8_node_95 : decode cX8_node 95 = .ok (.aload_n 0, 1) := by decide +kernel
theorem dX8_node_96 : decode cX8_node 96 = .ok (.getfield 147, 3) := by decide +kernel
theorem dX8_node_99 : decode cX8_node 99 = .ok (.iload_n 1, 1) := by decide +kernel
theorem dX8_node_100 : decode cX8_node 100 = .ok (.iastore, 1) := by decide +kernel
theorem dX8_node_101 : decode cX8_node 101 = .ok (.aload_n 0, 1) := by decide +kernel
theorem dX8_node_102 : decode cX8_node 102 = .ok (.getfield 13, 3) := by decide +kernel
theorem dX8_node_105 : decode cX8_node 105 = .ok (.aload_n 0, 1) := by decide +kernel
theorem dX8_node_106 : decode cX8_node 106 = .ok (.getfield 147, 3) := by decide +kernel
theorem dX8_node_109 : decode cX8_node 109 = .ok (.iload_n 2, 1) := by decide +kernel
theorem dX8_node_110 : decode cX8_node 110 = .ok (.iastore, 1) := by decide +kernel
theorem dX8_node_111 : decode cX8_node 111 = .ok (.aload_n 0, 1) := by decide +kernel
theorem dX8_node_112 : decode cX8_node 112 = .ok (.getfield 16, 3) := by decide +kernel
theorem dX8_node_115 : decode cX8_node 115 = .ok (.aload_n 0, 1) := by decide +kernel
theorem dX8_node_116 : decode cX8_node 116 = .ok (.getfield 147, 3) := by decide +kernel
theorem dX8_node_119 : decode cX8_node 119 = .ok (.iload_n 3, 1) := by decide +kernel
theorem dX8_node_120 : decode cX8_node 120 = .ok (.iastore, 1) := by decide +kernel
theorem dX8_node_121 : decode cX8_node 121 = .ok (.aload_n 0, 1) := by decide +kernel
theorem dX8_node_122 : decode cX8_node 122 = .ok (.dup, 1) := by decide +kernel
theorem dX8_node_123 : decode cX8_node 123 = .ok (.getfield 147, 3) := by decide +kernel
theorem dX8_node_126 : decode cX8_node 126 = .ok (.iconst 1, 1) := by decide +kernel
theorem dX8_node_127 : decode cX8_node 127 = .ok (.iadd, 1) := by decide +kernel
theorem dX8_node_128 : decode cX8_node 128 = .ok (.putfield 147, 3) := by decide +kernel
theorem dX8_node_131 : decode cX8_node 131 = .ok (.aload_n 0, 1) := by decide +kernel
theorem dX8_node_132 : decode cX8_node 132 = .ok (.getfield 147, 3) := by decide +kernel
theorem dX8_node_135 : decode cX8_node 135 = .ok (.iconst 1, 1) := by decide +kernel
theorem dX8_node_136 : decode cX8_node 136 = .ok (.isub, 1) := by decide +kernel
theorem dX8_node_137 : decode cX8_node 137 = .ok (.ireturn, 1) := by decide +kernel
theorem dX8_rule_0 : decode cX8_rule 0 = .ok (.aload_n 0, 1) := by decide +kernel
theorem dX8_rule_1 : decode cX8_rule 1 = .ok (.iconst 0, 1) := by decide +kernel
theorem dX8_rule_2 : decode cX8_rule 2 = .ok (.putfield 70, 3) := by decide +kernel
theorem dX8_rule_5 : decode cX8_rule 5 = .ok (.aload_n 0, 1) := by decide +kernel
theorem dX8_rule_6 : decode cX8_rule 6 = .ok (.iload_n 2, 1) := by decide +kernel
theorem dX8_rule_7 : decode cX8_rule 7 = .ok (.invokevirtual 160, 3) := by decide +kernel
theorem dX8_rule_10 : decode cX8_rule 10 = .ok (.ifCond .eq 16, 3) := by decide +kernel
theorem dX8_rule_13 : decode cX8_rule 13 = .ok (.iload_n 1, 1) := by decide +kernel
theorem dX8_rule_14 : decode cX8_rule 14 = .ok (.iconst 4, 1) := by decide +kernel
theorem dX8_rule_15 : decode cX8_rule 15 = .ok (.if_icmp .ge 13, 3) := by decide +kernel
theorem dX8_rule_18 : decode cX8_rule 18 = .ok (.aload_n 0, 1) := by decide +kernel
theorem dX8_rule_19 : decode cX8_rule 19 = .ok (.iload_n 3, 1) := by decide +kernel
theorem dX8_rule_20 : decode cX8_rule 20 = .ok (.invokevirtual 160, 3) := by decide +kernel
theorem dX8_rule_23 : decode cX8_rule 23 = .ok (.ifCond .ne 5, 3) := by decide +kernel
theorem dX8_rule_26 : decode cX8_rule 26 = .ok (.iconst (-1), 1) := by decide +kernel
theorem dX8_rule_27 : decode cX8_rule 27 = .ok (.ireturn, 1) := by decide +kernel
theorem dX8_rule_28 : decode cX8_rule 28 = .ok (.iload_n 1, 1) := by decide +kernel
theorem dX8_rule_29 : decode cX8_rule 29 = .ok (.i2l, 1) := by decide +kernel
theorem dX8_rule_30 : decode cX8_rule 30 = .ok (.lconst 0, 1) := by decide +kernel
theorem dX8_rule_31 : decode cX8_rule 31 = .ok (.ldc2_w 154, 3) := by decide +kernel
theorem dX8_rule_34 : decode cX8_rule 34 = .ok (.invokestatic 150, 3) := by decide +kernel
theorem dX8_rule_37 : decode cX8_rule 37 = .ok (.ifCond .ne 6, 3) := by decide +kernel
theorem dX8_rule_40 : decode cX8_rule 40 = .ok (.bipush (-2), 2) := by decide +kernel
theorem dX8_rule_42 : decode cX8_rule 42 = .ok (.ireturn, 1) := by decide +kernel
theorem dX8_rule_43 : decode cX8_rule 43 = .ok (.aload_n 0, 1) := by decide +kernel
theorem dX8_rule_44 : decode cX8_rule 44 = .ok (.getfield 167, 3) := by decide +kernel
theorem dX8_rule_47 : decode cX8_rule 47 = .ok (.bipush 12, 2) := by decide +kernel
theorem dX8_rule_49 : decode cX8_rule 49 = .ok (.if_icmp .ne 6, 3) := by decide +kernel
theorem dX8_rule_52 : decode cX8_rule 52 = .ok (.bipush (-4), 2) := by decide +kernel
theorem dX8_rule_54 : decode cX8_rule 54 = .ok (.ireturn, 1) := by decide +kernel
theorem dX8_rule_55 : decode cX8_rule 55 = .ok (.aload_n 0, 1) := by decide +kernel
theorem dX8_rule_56 : decode cX8_rule 56 = .ok (.getfield 19, 3) := by decide +kernel
theorem dX8_rule_59 : decode cX8_rule 59 = .ok (.aload_n 0, 1) := by decide +kernel
theorem dX8_rule_60 : decode cX8_rule 60 = .ok (.getfield 167, 3) := by decide +kernel
theorem dX8_rule_63 : decode cX8_rule 63 = .ok (.iload_n 1, 1) := by decide +kernel
theorem dX8_rule_64 : decode cX8_rule 64 = .ok (.iastore, 1) := by decide +kernel
theorem dX8_rule_65 : decode cX8_rule 65 = .ok (.aload_n 0, 1) := by decide +kernel
theorem dX8_rule_66 : decode cX8_rule 66 = .ok (.getfield 22, 3) := by decide +kernel
theorem dX8_rule_69 : decode cX8_rule 69 = .ok (.aload_n 0, 1) := by decide +kernel
theorem dX8_rule_70 : decode cX8_rule 70 = .ok (.getfield 167, 3) := by decide +kernel
theorem dX8_rule_73 : decode cX8_rule 73 = .ok (.iload_n 2, 1) := by decide +kernel
theorem dX8_rule_74 : decode cX8_rule 74 = .ok (.iastore, 1) := by decide +kernel
theorem dX8_rule_75 : decode cX8_rule 75 = .ok (.aload_n 0, 1) := by decide +kernel
theorem dX8_rule_76 : decode cX8_rule 76 = .ok (.getfield 25, 3) := by decide +kernel
theorem dX8_rule_79 : decode cX8_rule 79 = .ok (.aload_n 0, 1) := by decide +kernel
theorem dX8_rule_80 : decode cX8_rule 80 = .ok (.getfield 167, 3) := by decide +kernel
theorem dX8_rule_83 : decode cX8_rule 83 = .ok (.iload_n 3, 1) := by decide +kernel
theorem dX8_rule_84 : decode cX8_rule 84 = .ok (.iastore, 1) := by decide +kernel
theorem dX8_rule_85 : decode cX8_rule 85 = .ok (.aload_n 0, 1) := by decide +kernel
theorem dX8_rule_86 : decode cX8_rule 86 = .ok (.dup, 1) := by decide +kernel
theorem dX8_rule_87 : decode cX8_rule 87 = .ok (.getfield 167, 3) := by decide +kernel
theorem dX8_rule_90 : decode cX8_rule 90 = .ok (.iconst 1, 1) := by decide +kernel
theorem dX8_rule_91 : decode cX8_rule 91 = .ok (.iadd, 1) := by decide +kernel
theorem dX8_rule_92 : decode cX8_rule 92 = .ok (.putfield 167, 3) := by decide +kernel
theorem dX8_rule_95 : decode cX8_rule 95 = .ok (.aload_n 0, 1) := by decide +kernel
theorem dX8_rule_96 : decode cX8_rule 96 = .ok (.getfield 167, 3) := by decide +kernel
theorem dX8_rule_99 : decode cX8_rule 99 = .ok (.iconst 1, 1) := by decide +kernel
theorem dX8_rule_100 : decode cX8_rule 100 = .ok (.isub, 1) := by decide +kernel
theorem dX8_rule_101 : decode cX8_rule 101 = .ok (.ireturn, 1) := by decide +kernel
theorem dX8_noRules_0 : decode cX8_noRules 0 = .ok (.aload_n 0, 1) := by decide +kernel
theorem dX8_noRules_1 : decode cX8_noRules 1 = .ok (.iconst 0, 1) := by decide +kernel
theorem dX8_noRules_2 : decode cX8_noRules 2 = .ok (.putfield 70, 3) := by decide +kernel
theorem dX8_noRules_5 : decode cX8_noRules 5 = .ok (.aload_n 0, 1) := by decide +kernel
theorem dX8_noRules_6 : decode cX8_noRules 6 = .ok (.getfield 167, 3) := by decide +kernel
theorem dX8_noRules_9 : decode cX8_noRules 9 = .ok (.istore_n 1, 1) := by decide +kernel
theorem dX8_noRules_10 : decode cX8_noRules 10 = .ok (.aload_n 0, 1) := by decide +kernel
theorem dX8_noRules_11 : decode cX8_noRules 11 = .ok (.iconst 0, 1) := by decide +kernel
theorem dX8_noRules_12 : decode cX8_noRules 12 = .ok (.putfield 167, 3) := by decide +kernel
theorem dX8_noRules_15 : decode cX8_noRules 15 = .ok (.iload_n 1, 1) := by decide +kernel
theorem dX8_noRules_16 : decode cX8_noRules 16 = .ok (.ireturn, 1) := by decide +kernel
theorem dX8_range_0 : decode cX8_range 0 = .ok (.aload_n 0, 1) := by decide +kernel
theorem dX8_range_1 : decode cX8_range 1 = .ok (.iconst 0, 1) := by decide +kernel
theorem dX8_range_2 : decode cX8_range 2 = .ok (.putfield 70, 3) := by decide +kernel
theorem dX8_range_5 : decode cX8_range 5 = .ok (.iload_n 1, 1) := by decide +kernel
theorem dX8_range_6 : decode cX8_range 6 = .ok (.i2l, 1) := by decide +kernel
theorem dX8_range_7 : decode cX8_range 7 = .ok (.lconst 0, 1) := by decide +kernel
theorem dX8_range_8 : decode cX8_range 8 = .ok (.ldc2_w 156, 3) := by decide +kernel
theorem dX8_range_11 : decode cX8_range 11 = .ok (.invokestatic 150, 3) := by decide +kernel
theorem dX8_range_14 : decode cX8_range 14 = .ok (.ifCond .ne 5, 3) := by decide +kernel
theorem dX8_range_17 : decode cX8_range 17 = .ok (.iconst (-1), 1) := by decide +kernel
theorem dX8_range_18 : decode cX8_range 18 = .ok (.ireturn, 1) := by decide +kernel
