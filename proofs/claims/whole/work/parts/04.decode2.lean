theorem dX11_single_70 : decode cX11_single 70 = .ok (.invokevirtual 94, 3) := by decide +kernel
theorem dX11_single_73 : decode cX11_single 73 = .ok (.goto 107, 3) := by decide +kernel
theorem dX11_single_76 : decode cX11_single 76 = .ok (.aload_n 0, 1) := by decide +kernel
theorem dX11_single_77 : decode cX11_single 77 = .ok (.dload_n 2, 1) := by decide +kernel
theorem dX11_single_78 : decode cX11_single 78 = .ok (.iconst 0, 1) := by decide +kernel
theorem dX11_single_79 : decode cX11_single 79 = .ok (.invokestatic 98, 3) := by decide +kernel
theorem dX11_single_82 : decode cX11_single 82 = .ok (.invokevirtual 94, 3) := by decide +kernel
theorem dX11_single_85 : decode cX11_single 85 = .ok (.goto 95, 3) := by decide +kernel
theorem dX11_single_88 : decode cX11_single 88 = .ok (.aload_n 0, 1) := by decide +kernel
theorem dX11_single_89 : decode cX11_single 89 = .ok (.dload_n 2, 1) := by decide +kernel
theorem dX11_single_90 : decode cX11_single 90 = .ok (.iconst 1, 1) := by decide +kernel
theorem dX11_single_91 : decode cX11_single 91 = .ok (.invokestatic 98, 3) := by decide +kernel
theorem dX11_single_94 : decode cX11_single 94 = .ok (.invokevirtual 94, 3) := by decide +kernel
theorem dX11_single_97 : decode cX11_single 97 = .ok (.goto 83, 3) := by decide +kernel
theorem dX11_single_100 : decode cX11_single 100 = .ok (.aload_n 0, 1) := by decide +kernel
theorem dX11_single_101 : decode cX11_single 101 = .ok (.dload_n 2, 1) := by decide +kernel
theorem dX11_single_102 : decode cX11_single 102 = .ok (.iconst 2, 1) := by decide +kernel
theorem dX11_single_103 : decode cX11_single 103 = .ok (.invokestatic 98, 3) := by decide +kernel
theorem dX11_single_106 : decode cX11_single 106 = .ok (.invokevirtual 94, 3) := by decide +kernel
theorem dX11_single_109 : decode cX11_single 109 = .ok (.goto 71, 3) := by decide +kernel
theorem dX11_single_112 : decode cX11_single 112 = .ok (.aload_n 0, 1) := by decide +kernel
theorem dX11_single_113 : decode cX11_single 113 = .ok (.dload_n 2, 1) := by decide +kernel
theorem dX11_single_114 : decode cX11_single 114 = .ok (.dconst 0, 1) := by decide +kernel
theorem dX11_single_115 : decode cX11_single 115 = .ok (.dcmp .l, 1) := by decide +kernel
theorem dX11_single_116 : decode cX11_single 116 = .ok (.ifCond .le 7, 3) := by decide +kernel
theorem dX11_single_119 : decode cX11_single 119 = .ok (.dconst 1, 1) := by decide +kernel
theorem dX11_single_120 : decode cX11_single 120 = .ok (.goto 16, 3) := by decide +kernel
theorem dX11_single_123 : decode cX11_single 123 = .ok (.dload_n 2, 1) := by decide +kernel
theorem dX11_single_124 : decode cX11_single 124 = .ok (.dconst 0, 1) := by decide +kernel
theorem dX11_single_125 : decode cX11_single 125 = .ok (.dcmp .g, 1) := by decide +kernel
theorem dX11_single_126 : decode cX11_single 126 = .ok (.ifCond .ge 9, 3) := by decide +kernel
theorem dX11_single_129 : decode cX11_single 129 = .ok (.ldc2_w 102, 3) := by decide +kernel
theorem dX11_single_132 : decode cX11_single 132 = .ok (.goto 4, 3) := by decide +kernel
theorem dX11_single_135 : decode cX11_single 135 = .ok (.dload_n 2, 1) := by decide +kernel
theorem dX11_single_136 : decode cX11_single 136 = .ok (.invokevirtual 94, 3) := by decide +kernel
theorem dX11_single_139 : decode cX11_single 139 = .ok (.goto 41, 3) := by decide +kernel
theorem dX11_single_142 : decode cX11_single 142 = .ok (.aload_n 0, 1) := by decide +kernel
theorem dX11_single_143 : decode cX11_single 143 = .ok (.dload_n 2, 1) := by decide +kernel
theorem dX11_single_144 : decode cX11_single 144 = .ok (.ldc2_w 84, 3) := by decide +kernel
theorem dX11_single_147 : decode cX11_single 147 = .ok (.iload 4, 2) := by decide +kernel
theorem dX11_single_149 : decode cX11_single 149 = .ok (.invokestatic 104, 3) := by decide +kernel
theorem dX11_single_152 : decode cX11_single 152 = .ok (.invokevirtual 94, 3) := by decide +kernel
theorem dX11_single_155 : decode cX11_single 155 = .ok (.goto 25, 3) := by decide +kernel
theorem dX11_single_158 : decode cX11_single 158 = .ok (.aload_n 0, 1) := by decide +kernel
theorem dX11_single_159 : decode cX11_single 159 = .ok (.ldc2_w 84, 3) := by decide +kernel
theorem dX11_single_162 : decode cX11_single 162 = .ok (.dload_n 2, 1) := by decide +kernel
theorem dX11_single_163 : decode cX11_single 163 = .ok (.iload 4, 2) := by decide +kernel
theorem dX11_single_165 : decode cX11_single 165 = .ok (.invokestatic 108, 3) := by decide +kernel
theorem dX11_single_168 : decode cX11_single 168 = .ok (.invokevirtual 94, 3) := by decide +kernel
theorem dX11_single_171 : decode cX11_single 171 = .ok (.goto 9, 3) := by decide +kernel
theorem dX11_single_174 : decode cX11_single 174 = .ok (.aload_n 0, 1) := by decide +kernel
theorem dX11_single_175 : decode cX11_single 175 = .ok (.dload_n 2, 1) := by decide +kernel
theorem dX11_single_176 : decode cX11_single 176 = .ok (.dneg, 1) := by decide +kernel
theorem dX11_single_177 : decode cX11_single 177 = .ok (.invokevirtual 94, 3) := by decide +kernel
theorem dX11_single_180 : decode cX11_single 180 = .ok (.return_, 1) := by decide +kernel
theorem dX11_difference_0 : decode cX11_difference 0 = .ok (.dload_n 1, 1) := by decide +kernel
theorem dX11_difference_1 : decode cX11_difference 1 = .ok (.invokestatic 111, 3) := by decide +kernel
theorem dX11_difference_4 : decode cX11_difference 4 = .ok (.ifCond .eq 16, 3) := by decide +kernel
theorem dX11_difference_7 : decode cX11_difference 7 = .ok (.dload_n 1, 1) := by decide +kernel
theorem dX11_difference_8 : decode cX11_difference 8 = .ok (.dload_n 3, 1) := by decide +kernel
theorem dX11_difference_9 : decode cX11_difference 9 = .ok (.dcmp .l, 1) := by decide +kernel
theorem dX11_difference_10 : decode cX11_difference 10 = .ok (.ifCond .ne 10, 3) := by decide +kernel
theorem dX11_difference_13 : decode cX11_difference 13 = .ok (.aload_n 0, 1) := by decide +kernel
theorem dX11_difference_14 : decode cX11_difference 14 = .ok (.invokevirtual 114, 3) := by decide +kernel
theorem dX11_difference_17 : decode cX11_difference 17 = .ok (.goto 15, 3) := by decide +kernel
theorem dX11_difference_20 : decode cX11_difference 20 = .ok (.aload_n 0, 1) := by decide +kernel
theorem dX11_difference_21 : decode cX11_difference 21 = .ok (.dload_n 1, 1) := by decide +kernel
theorem dX11_difference_22 : decode cX11_difference 22 = .ok (.dload_n 3, 1) := by decide +kernel
theorem dX11_difference_23 : decode cX11_difference 23 = .ok (.dneg, 1) := by decide +kernel
theorem dX11_difference_24 : decode cX11_difference 24 = .ok (.iload 5, 2) := by decide +kernel
theorem dX11_difference_26 : decode cX11_difference 26 = .ok (.invokestatic 117, 3) := by decide +kernel
theorem dX11_difference_29 : decode cX11_difference 29 = .ok (.invokevirtual 94, 3) := by decide +kernel
theorem dX11_difference_32 : decode cX11_difference 32 = .ok (.return_, 1) := by decide +kernel
theorem dX11_both_0 : decode cX11_both 0 = .ok (.iload_n 1, 1) := by decide +kernel
theorem dX11_both_1 : decode cX11_both 1 = .ok (.lookupswitch 214 #[(9, 51), (11, 83), (12, 123), (13, 163), (26, 188)], 51) := by decide +kernel
theorem dX11_both_52 : decode cX11_both 52 = .ok (.dload_n 2, 1) := by decide +kernel
theorem dX11_both_53 : decode cX11_both 53 = .ok (.invokestatic 111, 3) := by decide +kernel
theorem dX11_both_56 : decode cX11_both 56 = .ok (.ifCond .eq 22, 3) := by decide +kernel
theorem dX11_both_59 : decode cX11_both 59 = .ok (.dload 4, 2) := by decide +kernel
theorem dX11_both_61 : decode cX11_both 61 = .ok (.invokestatic 111, 3) := by decide +kernel
theorem dX11_both_64 : decode cX11_both 64 = .ok (.ifCond .eq 14, 3) := by decide +kernel
theorem dX11_both_67 : decode cX11_both 67 = .ok (.dload_n 2, 1) := by decide +kernel
theorem dX11_both_68 : decode cX11_both 68 = .ok (.dload 4, 2) := by decide +kernel
theorem dX11_both_70 : decode cX11_both 70 = .ok (.dcmp .l, 1) := by decide +kernel
theorem dX11_both_71 : decode cX11_both 71 = .ok (.ifCond .eq 7, 3) := by decide +kernel
theorem dX11_both_74 : decode cX11_both 74 = .ok (.iconst 1, 1) := by decide +kernel
theorem dX11_both_75 : decode cX11_both 75 = .ok (.goto 4, 3) := by decide +kernel
theorem dX11_both_78 : decode cX11_both 78 = .ok (.iconst 0, 1) := by decide +kernel
theorem dX11_both_79 : decode cX11_both 79 = .ok (.istore 7, 2) := by decide +kernel
theorem dX11_both_81 : decode cX11_both 81 = .ok (.goto 137, 3) := by decide +kernel
theorem dX11_both_84 : decode cX11_both 84 = .ok (.dload_n 2, 1) := by decide +kernel
theorem dX11_both_85 : decode cX11_both 85 = .ok (.invokestatic 61, 3) := by decide +kernel
theorem dX11_both_88 : decode cX11_both 88 = .ok (.ifCond .eq 11, 3) := by decide +kernel
theorem dX11_both_91 : decode cX11_both 91 = .ok (.dload 4, 2) := by decide +kernel
theorem dX11_both_93 : decode cX11_both 93 = .ok (.invokestatic 111, 3) := by decide +kernel
theorem dX11_both_96 : decode cX11_both 96 = .ok (.ifCond .ne 18, 3) := by decide +kernel
theorem dX11_both_99 : decode cX11_both 99 = .ok (.dload_n 2, 1) := by decide +kernel
theorem dX11_both_100 : decode cX11_both 100 = .ok (.invokestatic 111, 3) := by decide +kernel
theorem dX11_both_103 : decode cX11_both 103 = .ok (.ifCond .eq 15, 3) := by decide +kernel
theorem dX11_both_106 : decode cX11_both 106 = .ok (.dload 4, 2) := by decide +kernel
theorem dX11_both_108 : decode cX11_both 108 = .ok (.invokestatic 61, 3) := by decide +kernel
theorem dX11_both_111 : decode cX11_both 111 = .ok (.ifCond .eq 7, 3) := by decide +kernel
theorem dX11_both_114 : decode cX11_both 114 = .ok (.iconst 1, 1) := by decide +kernel
theorem dX11_both_115 : decode cX11_both 115 = .ok (.goto 4, 3) := by decide +kernel
theorem dX11_both_118 : decode cX11_both 118 = .ok (.iconst 0, 1) := by decide +kernel
theorem dX11_both_119 : decode cX11_both 119 = .ok (.istore 7, 2) := by decide +kernel
theorem dX11_both_121 : decode cX11_both 121 = .ok (.goto 97, 3) := by decide +kernel
theorem dX11_both_124 : decode cX11_both 124 = .ok (.dload_n 2, 1) := by decide +kernel
theorem dX11_both_125 : decode cX11_both 125 = .ok (.invokestatic 61, 3) := by decide +kernel
theorem dX11_both_128 : decode cX11_both 128 = .ok (.ifCond .eq 11, 3) := by decide +kernel
theorem dX11_both_131 : decode cX11_both 131 = .ok (.dload 4, 2) := by decide +kernel
theorem dX11_both_133 : decode cX11_both 133 = .ok (.invokestatic 61, 3) := by decide +kernel
theorem dX11_both_136 : decode cX11_both 136 = .ok (.ifCond .ne 18, 3) := by decide +kernel
theorem dX11_both_139 : decode cX11_both 139 = .ok (.dload_n 2, 1) := by decide +kernel
theorem dX11_both_140 : decode cX11_both 140 = .ok (.invokestatic 111, 3) := by decide +kernel
theorem dX11_both_143 : decode cX11_both 143 = .ok (.ifCond .eq 15, 3) := by decide +kernel
theorem dX11_both_146 : decode cX11_both 146 = .ok (.dload 4, 2) := by decide +kernel
theorem dX11_both_148 : decode cX11_both 148 = .ok (.invokestatic 111, 3) := by decide +kernel
theorem dX11_both_151 : decode cX11_both 151 = .ok (.ifCond .eq 7, 3) := by decide +kernel
theorem dX11_both_154 : decode cX11_both 154 = .ok (.iconst 1, 1) := by decide +kernel
theorem dX11_both_155 : decode cX11_both 155 = .ok (.goto 4, 3) := by decide +kernel
theorem dX11_both_158 : decode cX11_both 158 = .ok (.iconst 0, 1) := by decide +kernel
theorem dX11_both_159 : decode cX11_both 159 = .ok (.istore 7, 2) := by decide +kernel
theorem dX11_both_161 : decode cX11_both 161 = .ok (.goto 57, 3) := by decide +kernel
theorem dX11_both_164 : decode cX11_both 164 = .ok (.dload 4, 2) := by decide +kernel
theorem dX11_both_166 : decode cX11_both 166 = .ok (.invokestatic 61, 3) := by decide +kernel
theorem dX11_both_169 : decode cX11_both 169 = .ok (.ifCond .ne 10, 3) := by decide +kernel
theorem dX11_both_172 : decode cX11_both 172 = .ok (.dload_n 2, 1) := by decide +kernel
theorem dX11_both_173 : decode cX11_both 173 = .ok (.invokestatic 111, 3) := by decide +kernel
theorem dX11_both_176 : decode cX11_both 176 = .ok (.ifCond .eq 7, 3) := by decide +kernel
theorem dX11_both_179 : decode cX11_both 179 = .ok (.iconst 1, 1) := by decide +kernel
theorem dX11_both_180 : decode cX11_both 180 = .ok (.goto 4, 3) := by decide +kernel
theorem dX11_both_183 : decode cX11_both 183 = .ok (.iconst 0, 1) := by decide +kernel
theorem dX11_both_184 : decode cX11_both 184 = .ok (.istore 7, 2) := by decide +kernel
theorem dX11_both_186 : decode cX11_both 186 = .ok (.goto 32, 3) := by decide +kernel
theorem dX11_both_189 : decode cX11_both 189 = .ok (.dload 4, 2) := by decide +kernel
theorem dX11_both_191 : decode cX11_both 191 = .ok (.invokestatic 61, 3) := by decide +kernel
theorem dX11_both_194 : decode cX11_both 194 = .ok (.ifCond .ne 11, 3) := by decide +kernel
theorem dX11_both_197 : decode cX11_both 197 = .ok (.dload 4, 2) := by decide +kernel
theorem dX11_both_199 : decode cX11_both 199 = .ok (.invokestatic 111, 3) := by decide +kernel
theorem dX11_both_202 : decode cX11_both 202 = .ok (.ifCond .eq 7, 3) := by decide +kernel
theorem dX11_both_205 : decode cX11_both 205 = .ok (.iconst 1, 1) := by decide +kernel
theorem dX11_both_206 : decode cX11_both 206 = .ok (.goto 4, 3) := by decide +kernel
theorem dX11_both_209 : decode cX11_both 209 = .ok (.iconst 0, 1) := by decide +kernel
theorem dX11_both_210 : decode cX11_both 210 = .ok (.istore 7, 2) := by decide +kernel
theorem dX11_both_212 : decode cX11_both 212 = .ok (.goto 6, 3) := by decide +kernel
theorem dX11_both_215 : decode cX11_both 215 = .ok (.iconst 0, 1) := by decide +kernel
theorem dX11_both_216 : decode cX11_both 216 = .ok (.istore 7, 2) := by decide +kernel
theorem dX11_both_218 : decode cX11_both 218 = .ok (.iload 7, 2) := by decide +kernel
theorem dX11_both_220 : decode cX11_both 220 = .ok (.ifCond .eq 8, 3) := by decide +kernel
theorem dX11_both_223 : decode cX11_both 223 = .ok (.aload_n 0, 1) := by decide +kernel
theorem dX11_both_224 : decode cX11_both 224 = .ok (.invokevirtual 114, 3) := by decide +kernel
theorem dX11_both_227 : decode cX11_both 227 = .ok (.return_, 1) := by decide +kernel
theorem dX11_both_228 : decode cX11_both 228 = .ok (.iload_n 1, 1) := by decide +kernel
theorem dX11_both_229 : decode cX11_both 229 = .ok (.tableswitch 196 9 16 #[47, 62, 74, 89, 104, 127, 149, 171], 47) := by decide +kernel
theorem dX11_both_276 : decode cX11_both 276 = .ok (.aload_n 0, 1) := by decide +kernel
theorem dX11_both_277 : decode cX11_both 277 = .ok (.dload_n 2, 1) := by decide +kernel
theorem dX11_both_278 : decode cX11_both 278 = .ok (.dload 4, 2) := by decide +kernel
theorem dX11_both_280 : decode cX11_both 280 = .ok (.iload 6, 2) := by decide +kernel
theorem dX11_both_282 : decode cX11_both 282 = .ok (.invokestatic 117, 3) := by decide +kernel
theorem dX11_both_285 : decode cX11_both 285 = .ok (.invokevirtual 94, 3) := by decide +kernel
theorem dX11_both_288 : decode cX11_both 288 = .ok (.goto 160, 3) := by decide +kernel
theorem dX11_both_291 : decode cX11_both 291 = .ok (.aload_n 0, 1) := by decide +kernel
theorem dX11_both_292 : decode cX11_both 292 = .ok (.dload_n 2, 1) := by decide +kernel
theorem dX11_both_293 : decode cX11_both 293 = .ok (.dload 4, 2) := by decide +kernel
theorem dX11_both_295 : decode cX11_both 295 = .ok (.iload 6, 2) := by decide +kernel
theorem dX11_both_297 : decode cX11_both 297 = .ok (.invokevirtual 120, 3) := by decide +kernel
theorem dX11_both_300 : decode cX11_both 300 = .ok (.goto 148, 3) := by decide +kernel
theorem dX11_both_303 : decode cX11_both 303 = .ok (.aload_n 0, 1) := by decide +kernel
theorem dX11_both_304 : decode cX11_both 304 = .ok (.dload_n 2, 1) := by decide +kernel
theorem dX11_both_305 : decode cX11_both 305 = .ok (.dload 4, 2) := by decide +kernel
theorem dX11_both_307 : decode cX11_both 307 = .ok (.iload 6, 2) := by decide +kernel
theorem dX11_both_309 : decode cX11_both 309 = .ok (.invokestatic 108, 3) := by decide +kernel
theorem dX11_both_312 : decode cX11_both 312 = .ok (.invokevirtual 94, 3) := by decide +kernel
theorem dX11_both_315 : decode cX11_both 315 = .ok (.goto 133, 3) := by decide +kernel
theorem dX11_both_318 : decode cX11_both 318 = .ok (.aload_n 0, 1) := by decide +kernel
theorem dX11_both_319 : decode cX11_both 319 = .ok (.dload_n 2, 1) := by decide +kernel
theorem dX11_both_320 : decode cX11_both 320 = .ok (.dload 4, 2) := by decide +kernel
theorem dX11_both_322 : decode cX11_both 322 = .ok (.iload 6, 2) := by decide +kernel
theorem dX11_both_324 : decode cX11_both 324 = .ok (.invokestatic 104, 3) := by decide +kernel
theorem dX11_both_327 : decode cX11_both 327 = .ok (.invokevirtual 94, 3) := by decide +kernel
theorem dX11_both_330 : decode cX11_both 330 = .ok (.goto 118, 3) := by decide +kernel
theorem dX11_both_333 : decode cX11_both 333 = .ok (.aload_n 0, 1) := by decide +kernel
theorem dX11_both_334 : decode cX11_both 334 = .ok (.dload 4, 2) := by decide +kernel
theorem dX11_both_336 : decode cX11_both 336 = .ok (.invokestatic 111, 3) := by decide +kernel
theorem dX11_both_339 : decode cX11_both 339 = .ok (.ifCond .eq 7, 3) := by decide +kernel
theorem dX11_both_342 : decode cX11_both 342 = .ok (.dload_n 2, 1) := by decide +kernel
theorem dX11_both_343 : decode cX11_both 343 = .ok (.goto 7, 3) := by decide +kernel
theorem dX11_both_346 : decode cX11_both 346 = .ok (.dload_n 2, 1) := by decide +kernel
theorem dX11_both_347 : decode cX11_both 347 = .ok (.dload 4, 2) := by decide +kernel
theorem dX11_both_349 : decode cX11_both 349 = .ok (.drem, 1) := by decide +kernel
theorem dX11_both_350 : decode cX11_both 350 = .ok (.invokevirtual 94, 3) := by decide +kernel
theorem dX11_both_353 : decode cX11_both 353 = .ok (.goto 95, 3) := by decide +kernel
theorem dX11_both_356 : decode cX11_both 356 = .ok (.aload_n 0, 1) := by decide +kernel
theorem dX11_both_357 : decode cX11_both 357 = .ok (.dload 4, 2) := by decide +kernel
theorem dX11_both_359 : decode cX11_both 359 = .ok (.dload_n 2, 1) := by decide +kernel
theorem dX11_both_360 : decode cX11_both 360 = .ok (.invokestatic 124, 3) := by decide +kernel
theorem dX11_both_363 : decode cX11_both 363 = .ok (.ifCond .eq 8, 3) := by decide +kernel
theorem dX11_both_366 : decode cX11_both 366 = .ok (.dload 4, 2) := by decide +kernel
theorem dX11_both_368 : decode cX11_both 368 = .ok (.goto 4, 3) := by decide +kernel
theorem dX11_both_371 : decode cX11_both 371 = .ok (.dload_n 2, 1) := by decide +kernel
theorem dX11_both_372 : decode cX11_both 372 = .ok (.invokevirtual 94, 3) := by decide +kernel
theorem dX11_both_375 : decode cX11_both 375 = .ok (.goto 73, 3) := by decide +kernel
theorem dX11_both_378 : decode cX11_both 378 = .ok (.aload_n 0, 1) := by decide +kernel
theorem dX11_both_379 : decode cX11_both 379 = .ok (.dload_n 2, 1) := by decide +kernel
theorem dX11_both_380 : decode cX11_both 380 = .ok (.dload 4, 2) := by decide +kernel
theorem dX11_both_382 : decode cX11_both 382 = .ok (.invokestatic 124, 3) := by decide +kernel
theorem dX11_both_385 : decode cX11_both 385 = .ok (.ifCond .eq 8, 3) := by decide +kernel
theorem dX11_both_388 : decode cX11_both 388 = .ok (.dload 4, 2) := by decide +kernel
theorem dX11_both_390 : decode cX11_both 390 = .ok (.goto 4, 3) := by decide +kernel
theorem dX11_both_393 : decode cX11_both 393 = .ok (.dload_n 2, 1) := by decide +kernel
theorem dX11_both_394 : decode cX11_both 394 = .ok (.invokevirtual 94, 3) := by decide +kernel
theorem dX11_both_397 : decode cX11_both 397 = .ok (.goto 51, 3) := by decide +kernel
theorem dX11_both_400 : decode cX11_both 400 = .ok (.aload_n 0, 1) := by decide +kernel
theorem dX11_both_401 : decode cX11_both 401 = .ok (.dload_n 2, 1) := by decide +kernel
theorem dX11_both_402 : decode cX11_both 402 = .ok (.invokestatic 67, 3) := by decide +kernel
theorem dX11_both_405 : decode cX11_both 405 = .ok (.dload 4, 2) := by decide +kernel
theorem dX11_both_407 : decode cX11_both 407 = .ok (.invokestatic 67, 3) := by decide +kernel
theorem dX11_both_410 : decode cX11_both 410 = .ok (.if_icmp .ne 7, 3) := by decide +kernel
theorem dX11_both_413 : decode cX11_both 413 = .ok (.dload_n 2, 1) := by decide +kernel
theorem dX11_both_414 : decode cX11_both 414 = .ok (.goto 5, 3) := by decide +kernel
theorem dX11_both_417 : decode cX11_both 417 = .ok (.dload_n 2, 1) := by decide +kernel
theorem dX11_both_418 : decode cX11_both 418 = .ok (.dneg, 1) := by decide +kernel
theorem dX11_both_419 : decode cX11_both 419 = .ok (.invokevirtual 94, 3) := by decide +kernel
theorem dX11_both_422 : decode cX11_both 422 = .ok (.goto 26, 3) := by decide +kernel
theorem dX11_both_425 : decode cX11_both 425 = .ok (.aload_n 0, 1) := by decide +kernel
theorem dX11_both_426 : decode cX11_both 426 = .ok (.dload_n 2, 1) := by decide +kernel
theorem dX11_both_427 : decode cX11_both 427 = .ok (.dload 4, 2) := by decide +kernel
theorem dX11_both_429 : decode cX11_both 429 = .ok (.iload 6, 2) := by decide +kernel
theorem dX11_both_431 : decode cX11_both 431 = .ok (.invokestatic 104, 3) := by decide +kernel
theorem dX11_both_434 : decode cX11_both 434 = .ok (.iconst 2, 1) := by decide +kernel
theorem dX11_both_435 : decode cX11_both 435 = .ok (.invokestatic 98, 3) := by decide +kernel
theorem dX11_both_438 : decode cX11_both 438 = .ok (.dload 4, 2) := by decide +kernel
theorem dX11_both_440 : decode cX11_both 440 = .ok (.iload 6, 2) := by decide +kernel
theorem dX11_both_442 : decode cX11_both 442 = .ok (.invokestatic 108, 3) := by decide +kernel
theorem dX11_both_445 : decode cX11_both 445 = .ok (.invokevirtual 94, 3) := by decide +kernel
theorem dX11_both_448 : decode cX11_both 448 = .ok (.return_, 1) := by decide +kernel
theorem dX11_x_0 : decode cX11_x 0 = .ok (.aload_n 0, 1) := by decide +kernel
theorem dX11_x_1 : decode cX11_x 1 = .ok (.getfield 26, 3) := by decide +kernel
theorem dX11_x_4 : decode cX11_x 4 = .ok (.aload_n 0, 1) := by decide +kernel
theorem dX11_x_5 : decode cX11_x 5 = .ok (.getfield 22, 3) := by decide +kernel
theorem dX11_x_8 : decode cX11_x 8 = .ok (.iconst 4, 1) := by decide +kernel
theorem dX11_x_9 : decode cX11_x 9 = .ok (.iload_n 1, 1) := by decide +kernel
theorem dX11_x_10 : decode cX11_x 10 = .ok (.imul, 1) := by decide +kernel
theorem dX11_x_11 : decode cX11_x 11 = .ok (.iconst 1, 1) := by decide +kernel
theorem dX11_x_12 : decode cX11_x 12 = .ok (.iadd, 1) := by decide +kernel
theorem dX11_x_13 : decode cX11_x 13 = .ok (.iaload, 1) := by decide +kernel
theorem dX11_x_14 : decode cX11_x 14 = .ok (.iload_n 2, 1) := by decide +kernel
theorem dX11_x_15 : decode cX11_x 15 = .ok (.invokestatic 128, 3) := by decide +kernel
theorem dX11_x_18 : decode cX11_x 18 = .ok (.daload, 1) := by decide +kernel
theorem dX11_x_19 : decode cX11_x 19 = .ok (.aload_n 0, 1) := by decide +kernel
theorem dX11_x_20 : decode cX11_x 20 = .ok (.getfield 19, 3) := by decide +kernel
theorem dX11_x_23 : decode cX11_x 23 = .ok (.iload_n 1, 1) := by decide +kernel
theorem dX11_x_24 : decode cX11_x 24 = .ok (.baload, 1) := by decide +kernel
theorem dX11_x_25 : decode cX11_x 25 = .ok (.invokestatic 132, 3) := by decide +kernel
theorem dX11_x_28 : decode cX11_x 28 = .ok (.dreturn, 1) := by decide +kernel
theorem dX11_noX_0 : decode cX11_noX 0 = .ok (.aload_n 0, 1) := by decide +kernel
theorem dX11_noX_1 : decode cX11_noX 1 = .ok (.getfield 29, 3) := by decide +kernel
theorem dX11_noX_4 : decode cX11_noX 4 = .ok (.aload_n 0, 1) := by decide +kernel
theorem dX11_noX_5 : decode cX11_noX 5 = .ok (.getfield 22, 3) := by decide +kernel
theorem dX11_noX_8 : decode cX11_noX 8 = .ok (.iconst 4, 1) := by decide +kernel
theorem dX11_noX_9 : decode cX11_noX 9 = .ok (.iload_n 1, 1) := by decide +kernel
theorem dX11_noX_10 : decode cX11_noX 10 = .ok (.imul, 1) := by decide +kernel
theorem dX11_noX_11 : decode cX11_noX 11 = .ok (.iconst 1, 1) := by decide +kernel
theorem dX11_noX_12 : decode cX11_noX 12 = .ok (.iadd, 1) := by decide +kernel
theorem dX11_noX_13 : decode cX11_noX 13 = .ok (.iaload, 1) := by decide +kernel
theorem dX11_noX_14 : decode cX11_noX 14 = .ok (.iload_n 2, 1) := by decide +kernel
theorem dX11_noX_15 : decode cX11_noX 15 = .ok (.invokestatic 128, 3) := by decide +kernel
theorem dX11_noX_18 : decode cX11_noX 18 = .ok (.baload, 1) := by decide +kernel
theorem dX11_noX_19 : decode cX11_noX 19 = .ok (.ireturn, 1) := by decide +kernel
theorem dX11_y_0 : decode cX11_y 0 = .ok (.aload_n 0, 1) := by decide +kernel
theorem dX11_y_1 : decode cX11_y 1 = .ok (.getfield 26, 3) := by decide +kernel
theorem dX11_y_4 : decode cX11_y 4 = .ok (.aload_n 0, 1) := by decide +kernel
theorem dX11_y_5 : decode cX11_y 5 = .ok (.getfield 22, 3) := by decide +kernel
theorem dX11_y_8 : decode cX11_y 8 = .ok (.iconst 4, 1) := by decide +kernel
theorem dX11_y_9 : decode cX11_y 9 = .ok (.iload_n 1, 1) := by decide +kernel
theorem dX11_y_10 : decode cX11_y 10 = .ok (.imul, 1) := by decide +kernel
theorem dX11_y_11 : decode cX11_y 11 = .ok (.iconst 2, 1) := by decide +kernel
theorem dX11_y_12 : decode cX11_y 12 = .ok (.iadd, 1) := by decide +kernel
theorem dX11_y_13 : decode cX11_y 13 = .ok (.iaload, 1) := by decide +kernel
theorem dX11_y_14 : decode cX11_y 14 = .ok (.iload_n 2, 1) := by decide +kernel
theorem dX11_y_15 : decode cX11_y 15 = .ok (.invokestatic 128, 3) := by decide +kernel
theorem dX11_y_18 : decode cX11_y 18 = .ok (.daload, 1) := by decide +kernel
theorem dX11_y_19 : decode cX11_y 19 = .ok (.aload_n 0, 1) := by decide +kernel
theorem dX11_y_20 : decode cX11_y 20 = .ok (.getfield 19, 3) := by decide +kernel
theorem dX11_y_23 : decode cX11_y 23 = .ok (.iload_n 1, 1) := by decide +kernel
theorem dX11_y_24 : decode cX11_y 24 = .ok (.baload, 1) := by decide +kernel
theorem dX11_y_25 : decode cX11_y 25 = .ok (.invokestatic 132, 3) := by decide +kernel
theorem dX11_y_28 : decode cX11_y 28 = .ok (.dreturn, 1) := by decide +kernel
theorem dX11_noY_0 : decode cX11_noY 0 = .ok (.aload_n 0, 1) := by decide +kernel
theorem dX11_noY_1 : decode cX11_noY 1 = .ok (.getfield 29, 3) := by decide +kernel
theorem dX11_noY_4 : decode cX11_noY 4 = .ok (.aload_n 0, 1) := by decide +kernel
theorem dX11_noY_5 : decode cX11_noY 5 = .ok (.getfield 22, 3) := by decide +kernel
theorem dX11_noY_8 : decode cX11_noY 8 = .ok (.iconst 4, 1) := by decide +kernel
theorem dX11_noY_9 : decode cX11_noY 9 = .ok (.iload_n 1, 1) := by decide +kernel
theorem dX11_noY_10 : decode cX11_noY 10 = .ok (.imul, 1) := by decide +kernel
theorem dX11_noY_11 : decode cX11_noY 11 = .ok (.iconst 2, 1) := by decide +kernel
theorem dX11_noY_12 : decode cX11_noY 12 = .ok (.iadd, 1) := by decide +kernel
theorem dX11_noY_13 : decode cX11_noY 13 = .ok (.iaload, 1) := by decide +kernel
theorem dX11_noY_14 : decode cX11_noY 14 = .ok (.iload_n 2, 1) := by decide +kernel
theorem dX11_noY_15 : decode cX11_noY 15 = .ok (.invokestatic 128, 3) := by decide +kernel
theorem dX11_noY_18 : decode cX11_noY 18 = .ok (.baload, 1) := by decide +kernel
theorem dX11_noY_19 : decode cX11_noY 19 = .ok (.ireturn, 1) := by decide +kernel
theorem dX11_compares_0 : decode cX11_compares 0 = .ok (.aload_n 0, 1) := by decide +kernel
theorem dX11_compares_1 : decode cX11_compares 1 = .ok (.getfield 22, 3) := by decide +kernel
theorem dX11_compares_4 : decode cX11_compares 4 = .ok (.iconst 4, 1) := by decide +kernel
theorem dX11_compares_5 : decode cX11_compares 5 = .ok (.iload_n 1, 1) := by decide +kernel
theorem dX11_compares_6 : decode cX11_compares 6 = .ok (.imul, 1) := by decide +kernel
theorem dX11_compares_7 : decode cX11_compares 7 = .ok (.iconst 3, 1) := by decide +kernel
theorem dX11_compares_8 : decode cX11_compares 8 = .ok (.iadd, 1) := by decide +kernel
theorem dX11_compares_9 : decode cX11_compares 9 = .ok (.iaload, 1) := by decide +kernel
theorem dX11_compares_10 : decode cX11_compares 10 = .ok (.aload_n 0, 1) := by decide +kernel
theorem dX11_compares_11 : decode cX11_compares 11 = .ok (.iload_n 1, 1) := by decide +kernel
theorem dX11_compares_12 : decode cX11_compares 12 = .ok (.iload_n 2, 1) := by decide +kernel
theorem dX11_compares_13 : decode cX11_compares 13 = .ok (.invokevirtual 136, 3) := by decide +kernel
theorem dX11_compares_16 : decode cX11_compares 16 = .ok (.aload_n 0, 1) := by decide +kernel
theorem dX11_compares_17 : decode cX11_compares 17 = .ok (.iload_n 1, 1) := by decide +kernel
theorem dX11_compares_18 : decode cX11_compares 18 = .ok (.iload_n 2, 1) := by decide +kernel
theorem dX11_compares_19 : decode cX11_compares 19 = .ok (.invokevirtual 140, 3) := by decide +kernel
theorem dX11_compares_22 : decode cX11_compares 22 = .ok (.aload_n 0, 1) := by decide +kernel
theorem dX11_compares_23 : decode cX11_compares 23 = .ok (.iload_n 1, 1) := by decide +kernel
theorem dX11_compares_24 : decode cX11_compares 24 = .ok (.iload_n 2, 1) := by decide +kernel
theorem dX11_compares_25 : decode cX11_compares 25 = .ok (.invokevirtual 144, 3) := by decide +kernel
theorem dX11_compares_28 : decode cX11_compares 28 = .ok (.aload_n 0, 1) := by decide +kernel
theorem dX11_compares_29 : decode cX11_compares 29 = .ok (.iload_n 1, 1) := by decide +kernel
theorem dX11_compares_30 : decode cX11_compares 30 = .ok (.iload_n 2, 1) := by decide +kernel
theorem dX11_compares_31 : decode cX11_compares 31 = .ok (.invokevirtual 147, 3) := by decide +kernel
theorem dX11_compares_34 : decode cX11_compares 34 = .ok (.invokestatic 150, 3) := by decide +kernel
theorem dX11_compares_37 : decode cX11_compares 37 = .ok (.ireturn, 1) := by decide +kernel
theorem dX11_rank_0 : decode cX11_rank 0 = .ok (.iconst 0, 1) := by decide +kernel
theorem dX11_rank_1 : decode cX11_rank 1 = .ok (.istore 5, 2) := by decide +kernel
theorem dX11_rank_3 : decode cX11_rank 3 = .ok (.aload_n 0, 1) := by decide +kernel
theorem dX11_rank_4 : decode cX11_rank 4 = .ok (.iload_n 1, 1) := by decide +kernel
theorem dX11_rank_5 : decode cX11_rank 5 = .ok (.iload 4, 2) := by decide +kernel
theorem dX11_rank_7 : decode cX11_rank 7 = .ok (.invokevirtual 136, 3) := by decide +kernel
theorem dX11_rank_10 : decode cX11_rank 10 = .ok (.dstore 6, 2) := by decide +kernel
theorem dX11_rank_12 : decode cX11_rank 12 = .ok (.iload_n 2, 1) := by decide +kernel
theorem dX11_rank_13 : decode cX11_rank 13 = .ok (.istore 8, 2) := by decide +kernel
theorem dX11_rank_15 : decode cX11_rank 15 = .ok (.iload 8, 2) := by decide +kernel
theorem dX11_rank_17 : decode cX11_rank 17 = .ok (.iload_n 3, 1) := by decide +kernel
theorem dX11_rank_18 : decode cX11_rank 18 = .ok (.if_icmp .gt 65, 3) := by decide +kernel
theorem dX11_rank_21 : decode cX11_rank 21 = .ok (.aload_n 0, 1) := by decide +kernel
theorem dX11_rank_22 : decode cX11_rank 22 = .ok (.iload_n 1, 1) := by decide +kernel
theorem dX11_rank_23 : decode cX11_rank 23 = .ok (.iload 8, 2) := by decide +kernel
theorem dX11_rank_25 : decode cX11_rank 25 = .ok (.invokevirtual 140, 3) := by decide +kernel
theorem dX11_rank_28 : decode cX11_rank 28 = .ok (.ifCond .ne 49, 3) := by decide +kernel
theorem dX11_rank_31 : decode cX11_rank 31 = .ok (.aload_n 0, 1) := by decide +kernel
theorem dX11_rank_32 : decode cX11_rank 32 = .ok (.iload_n 1, 1) := by decide +kernel
theorem dX11_rank_33 : decode cX11_rank 33 = .ok (.iload 8, 2) := by decide +kernel
theorem dX11_rank_35 : decode cX11_rank 35 = .ok (.invokevirtual 136, 3) := by decide +kernel
theorem dX11_rank_38 : decode cX11_rank 38 = .ok (.dstore 9, 2) := by decide +kernel
theorem dX11_rank_40 : decode cX11_rank 40 = .ok (.iload 5, 2) := by decide +kernel
theorem dX11_rank_42 : decode cX11_rank 42 = .ok (.dload 9, 2) := by decide +kernel
theorem dX11_rank_44 : decode cX11_rank 44 = .ok (.dload 6, 2) := by decide +kernel
theorem dX11_rank_46 : decode cX11_rank 46 = .ok (.invokestatic 124, 3) := by decide +kernel
theorem dX11_rank_49 : decode cX11_rank 49 = .ok (.ifCond .ne 20, 3) := by decide +kernel
theorem dX11_rank_52 : decode cX11_rank 52 = .ok (.iload 8, 2) := by decide +kernel
theorem dX11_rank_54 : decode cX11_rank 54 = .ok (.iload 4, 2) := by decide +kernel
theorem dX11_rank_56 : decode cX11_rank 56 = .ok (.if_icmp .ge 17, 3) := by decide +kernel
theorem dX11_rank_59 : decode cX11_rank 59 = .ok (.dload 6, 2) := by decide +kernel
theorem dX11_rank_61 : decode cX11_rank 61 = .ok (.dload 9, 2) := by decide +kernel
theorem dX11_rank_63 : decode cX11_rank 63 = .ok (.invokestatic 124, 3) := by decide +kernel
theorem dX11_rank_66 : decode cX11_rank 66 = .ok (.ifCond .ne 7, 3) := by decide +kernel
theorem dX11_rank_69 : decode cX11_rank 69 = .ok (.iconst 1, 1) := by decide +kernel
theorem dX11_rank_70 : decode cX11_rank 70 = .ok (.goto 4, 3) := by decide +kernel
theorem dX11_rank_73 : decode cX11_rank 73 = .ok (.iconst 0, 1) := by decide +kernel
theorem dX11_rank_74 : decode cX11_rank 74 = .ok (.iadd, 1) := by decide +kernel
theorem dX11_rank_75 : decode cX11_rank 75 = .ok (.istore 5, 2) := by decide +kernel
theorem dX11_rank_77 : decode cX11_rank 77 = .ok (.iinc 8 1, 3) := by decide +kernel
theorem dX11_rank_80 : decode cX11_rank 80 = .ok (.goto (-65), 3) := by decide +kernel
theorem dX11_rank_83 : decode cX11_rank 83 = .ok (.iload 5, 2) := by decide +kernel
theorem dX11_rank_85 : decode cX11_rank 85 = .ok (.ireturn, 1) := by decide +kernel
theorem dX11_ranked_0 : decode cX11_ranked 0 = .ok (.aload_n 0, 1) := by decide +kernel
theorem dX11_ranked_1 : decode cX11_ranked 1 = .ok (.invokevirtual 114, 3) := by decide +kernel
theorem dX11_ranked_4 : decode cX11_ranked 4 = .ok (.iload_n 2, 1) := by decide +kernel
theorem dX11_ranked_5 : decode cX11_ranked 5 = .ok (.istore 5, 2) := by decide +kernel
theorem dX11_ranked_7 : decode cX11_ranked 7 = .ok (.iload 5, 2) := by decide +kernel
theorem dX11_ranked_9 : decode cX11_ranked 9 = .ok (.iload_n 3, 1) := by decide +kernel
theorem dX11_ranked_10 : decode cX11_ranked 10 = .ok (.if_icmp .gt 44, 3) := by decide +kernel
theorem dX11_ranked_13 : decode cX11_ranked 13 = .ok (.aload_n 0, 1) := by decide +kernel
theorem dX11_ranked_14 : decode cX11_ranked 14 = .ok (.iload_n 1, 1) := by decide +kernel
theorem dX11_ranked_15 : decode cX11_ranked 15 = .ok (.iload 5, 2) := by decide +kernel
theorem dX11_ranked_17 : decode cX11_ranked 17 = .ok (.invokevirtual 140, 3) := by decide +kernel
theorem dX11_ranked_20 : decode cX11_ranked 20 = .ok (.ifCond .ne 28, 3) := by decide +kernel
theorem dX11_ranked_23 : decode cX11_ranked 23 = .ok (.aload_n 0, 1) := by decide +kernel
theorem dX11_ranked_24 : decode cX11_ranked 24 = .ok (.iload_n 1, 1) := by decide +kernel
theorem dX11_ranked_25 : decode cX11_ranked 25 = .ok (.iload_n 2, 1) := by decide +kernel
theorem dX11_ranked_26 : decode cX11_ranked 26 = .ok (.iload_n 3, 1) := by decide +kernel
theorem dX11_ranked_27 : decode cX11_ranked 27 = .ok (.iload 5, 2) := by decide +kernel
theorem dX11_ranked_29 : decode cX11_ranked 29 = .ok (.invokevirtual 154, 3) := by decide +kernel
theorem dX11_ranked_32 : decode cX11_ranked 32 = .ok (.iload 4, 2) := by decide +kernel
theorem dX11_ranked_34 : decode cX11_ranked 34 = .ok (.if_icmp .ne 14, 3) := by decide +kernel
theorem dX11_ranked_37 : decode cX11_ranked 37 = .ok (.aload_n 0, 1) := by decide +kernel
theorem dX11_ranked_38 : decode cX11_ranked 38 = .ok (.aload_n 0, 1) := by decide +kernel
theorem dX11_ranked_39 : decode cX11_ranked 39 = .ok (.iload_n 1, 1) := by decide +kernel
theorem dX11_ranked_40 : decode cX11_ranked 40 = .ok (.iload 5, 2) := by decide +kernel
theorem dX11_ranked_42 : decode cX11_ranked 42 = .ok (.invokevirtual 136, 3) := by decide +kernel
theorem dX11_ranked_45 : decode cX11_ranked 45 = .ok (.invokevirtual 94, 3) := by decide +kernel
theorem dX11_ranked_48 : decode cX11_ranked 48 = .ok (.iinc 5 1, 3) := by decide +kernel
theorem dX11_ranked_51 : decode cX11_ranked 51 = .ok (.goto (-44), 3) := by decide +kernel
theorem dX11_ranked_54 : decode cX11_ranked 54 = .ok (.return_, 1) := by decide +kernel
theorem dX11_manyX_0 : decode cX11_manyX 0 = .ok (.iconst 0, 1) := by decide +kernel
theorem dX11_manyX_1 : decode cX11_manyX 1 = .ok (.istore 4, 2) := by decide +kernel
theorem dX11_manyX_3 : decode cX11_manyX 3 = .ok (.iload_n 2, 1) := by decide +kernel
theorem dX11_manyX_4 : decode cX11_manyX 4 = .ok (.istore 5, 2) := by decide +kernel
theorem dX11_manyX_6 : decode cX11_manyX 6 = .ok (.iload 5, 2) := by decide +kernel
theorem dX11_manyX_8 : decode cX11_manyX 8 = .ok (.iload_n 3, 1) := by decide +kernel
theorem dX11_manyX_9 : decode cX11_manyX 9 = .ok (.if_icmp .gt 29, 3) := by decide +kernel
theorem dX11_manyX_12 : decode cX11_manyX 12 = .ok (.iload 4, 2) := by decide +kernel
theorem dX11_manyX_14 : decode cX11_manyX 14 = .ok (.aload_n 0, 1) := by decide +kernel
theorem dX11_manyX_15 : decode cX11_manyX 15 = .ok (.iload_n 1, 1) := by decide +kernel
theorem dX11_manyX_16 : decode cX11_manyX 16 = .ok (.iload 5, 2) := by decide +kernel
theorem dX11_manyX_18 : decode cX11_manyX 18 = .ok (.invokevirtual 140, 3) := by decide +kernel
theorem dX11_manyX_21 : decode cX11_manyX 21 = .ok (.ifCond .eq 7, 3) := by decide +kernel
theorem dX11_manyX_24 : decode cX11_manyX 24 = .ok (.iconst 0, 1) := by decide +kernel
theorem dX11_manyX_25 : decode cX11_manyX 25 = .ok (.goto 4, 3) := by decide +kernel
theorem dX11_manyX_28 : decode cX11_manyX 28 = .ok (.iconst 1, 1) := by decide +kernel
theorem dX11_manyX_29 : decode cX11_manyX 29 = .ok (.iadd, 1) := by decide +kernel
theorem dX11_manyX_30 : decode cX11_manyX 30 = .ok (.istore 4, 2) := by decide +kernel
theorem dX11_manyX_32 : decode cX11_manyX 32 = .ok (.iinc 5 1, 3) := by decide +kernel
theorem dX11_manyX_35 : decode cX11_manyX 35 = .ok (.goto (-29), 3) := by decide +kernel
theorem dX11_manyX_38 : decode cX11_manyX 38 = .ok (.iload 4, 2) := by decide +kernel
theorem dX11_manyX_40 : decode cX11_manyX 40 = .ok (.ireturn, 1) := by decide +kernel
theorem dX11_lessThan_0 : decode cX11_lessThan 0 = .ok (.iconst 0, 1) := by decide +kernel
theorem dX11_lessThan_1 : decode cX11_lessThan 1 = .ok (.istore_n 3, 1) := by decide +kernel
theorem dX11_lessThan_2 : decode cX11_lessThan 2 = .ok (.iconst 0, 1) := by decide +kernel
theorem dX11_lessThan_3 : decode cX11_lessThan 3 = .ok (.istore 4, 2) := by decide +kernel
theorem dX11_lessThan_5 : decode cX11_lessThan 5 = .ok (.iload 4, 2) := by decide +kernel
theorem dX11_lessThan_7 : decode cX11_lessThan 7 = .ok (.bipush 16, 2) := by decide +kernel
theorem dX11_lessThan_9 : decode cX11_lessThan 9 = .ok (.if_icmp .ge 44, 3) := by decide +kernel
theorem dX11_lessThan_12 : decode cX11_lessThan 12 = .ok (.iload_n 3, 1) := by decide +kernel
theorem dX11_lessThan_13 : decode cX11_lessThan 13 = .ok (.aload_n 0, 1) := by decide +kernel
theorem dX11_lessThan_14 : decode cX11_lessThan 14 = .ok (.iload_n 1, 1) := by decide +kernel
theorem dX11_lessThan_15 : decode cX11_lessThan 15 = .ok (.iload 4, 2) := by decide +kernel
theorem dX11_lessThan_17 : decode cX11_lessThan 17 = .ok (.invokevirtual 140, 3) := by decide +kernel
theorem dX11_lessThan_20 : decode cX11_lessThan 20 = .ok (.ifCond .ne 24, 3) := by decide +kernel
theorem dX11_lessThan_23 : decode cX11_lessThan 23 = .ok (.aload_n 0, 1) := by decide +kernel
theorem dX11_lessThan_24 : decode cX11_lessThan 24 = .ok (.iload_n 1, 1) := by decide +kernel
theorem dX11_lessThan_25 : decode cX11_lessThan 25 = .ok (.iload 4, 2) := by decide +kernel
theorem dX11_lessThan_27 : decode cX11_lessThan 27 = .ok (.invokevirtual 136, 3) := by decide +kernel
theorem dX11_lessThan_30 : decode cX11_lessThan 30 = .ok (.aload_n 0, 1) := by decide +kernel
theorem dX11_lessThan_31 : decode cX11_lessThan 31 = .ok (.iload_n 1, 1) := by decide +kernel
theorem dX11_lessThan_32 : decode cX11_lessThan 32 = .ok (.iload_n 2, 1) := by decide +kernel
theorem dX11_lessThan_33 : decode cX11_lessThan 33 = .ok (.invokevirtual 136, 3) := by decide +kernel
theorem dX11_lessThan_36 : decode cX11_lessThan 36 = .ok (.dcmp .g, 1) := by decide +kernel
theorem dX11_lessThan_37 : decode cX11_lessThan 37 = .ok (.ifCond .ge 7, 3) := by decide +kernel
theorem dX11_lessThan_40 : decode cX11_lessThan 40 = .ok (.iconst 1, 1) := by decide +kernel
theorem dX11_lessThan_41 : decode cX11_lessThan 41 = .ok (.goto 4, 3) := by decide +kernel
theorem dX11_lessThan_44 : decode cX11_lessThan 44 = .ok (.iconst 0, 1) := by decide +kernel
theorem dX11_lessThan_45 : decode cX11_lessThan 45 = .ok (.iadd, 1) := by decide +kernel
theorem dX11_lessThan_46 : decode cX11_lessThan 46 = .ok (.istore_n 3, 1) := by decide +kernel
theorem dX11_lessThan_47 : decode cX11_lessThan 47 = .ok (.iinc 4 1, 3) := by decide +kernel
theorem dX11_lessThan_50 : decode cX11_lessThan 50 = .ok (.goto (-45), 3) := by decide +kernel
theorem dX11_lessThan_53 : decode cX11_lessThan 53 = .ok (.iload_n 3, 1) := by decide +kernel
theorem dX11_lessThan_54 : decode cX11_lessThan 54 = .ok (.ireturn, 1) := by decide +kernel
theorem dX11_manySo_0 : decode cX11_manySo 0 = .ok (.iconst 0, 1) := by decide +kernel
theorem dX11_manySo_1 : decode cX11_manySo 1 = .ok (.istore_n 3, 1) := by decide +kernel
theorem dX11_manySo_2 : decode cX11_manySo 2 = .ok (.iconst 0, 1) := by decide +kernel
theorem dX11_manySo_3 : decode cX11_manySo 3 = .ok (.istore 4, 2) := by decide +kernel
theorem dX11_manySo_5 : decode cX11_manySo 5 = .ok (.iload 4, 2) := by decide +kernel
theorem dX11_manySo_7 : decode cX11_manySo 7 = .ok (.iload_n 2, 1) := by decide +kernel
theorem dX11_manySo_8 : decode cX11_manySo 8 = .ok (.if_icmp .gt 27, 3) := by decide +kernel
theorem dX11_manySo_11 : decode cX11_manySo 11 = .ok (.iload_n 3, 1) := by decide +kernel
theorem dX11_manySo_12 : decode cX11_manySo 12 = .ok (.aload_n 0, 1) := by decide +kernel
theorem dX11_manySo_13 : decode cX11_manySo 13 = .ok (.iload_n 1, 1) := by decide +kernel
theorem dX11_manySo_14 : decode cX11_manySo 14 = .ok (.iload 4, 2) := by decide +kernel
theorem dX11_manySo_16 : decode cX11_manySo 16 = .ok (.invokevirtual 158, 3) := by decide +kernel
theorem dX11_manySo_19 : decode cX11_manySo 19 = .ok (.ifCond .eq 7, 3) := by decide +kernel
theorem dX11_manySo_22 : decode cX11_manySo 22 = .ok (.iconst 1, 1) := by decide +kernel
theorem dX11_manySo_23 : decode cX11_manySo 23 = .ok (.goto 4, 3) := by decide +kernel
theorem dX11_manySo_26 : decode cX11_manySo 26 = .ok (.iconst 0, 1) := by decide +kernel
theorem dX11_manySo_27 : decode cX11_manySo 27 = .ok (.iadd, 1) := by decide +kernel
theorem dX11_manySo_28 : decode cX11_manySo 28 = .ok (.istore_n 3, 1) := by decide +kernel
theorem dX11_manySo_29 : decode cX11_manySo 29 = .ok (.iinc 4 1, 3) := by decide +kernel
theorem dX11_manySo_32 : decode cX11_manySo 32 = .ok (.goto (-27), 3) := by decide +kernel
theorem dX11_manySo_35 : decode cX11_manySo 35 = .ok (.iload_n 3, 1) := by decide +kernel
theorem dX11_manySo_36 : decode cX11_manySo 36 = .ok (.ireturn, 1) := by decide +kernel
theorem dX11_reckon_0 : decode cX11_reckon 0 = .ok (.aload_n 0, 1) := by decide +kernel
theorem dX11_reckon_1 : decode cX11_reckon 1 = .ok (.getfield 22, 3) := by decide +kernel
theorem dX11_reckon_4 : decode cX11_reckon 4 = .ok (.iconst 4, 1) := by decide +kernel
theorem dX11_reckon_5 : decode cX11_reckon 5 = .ok (.iload_n 1, 1) := by decide +kernel
theorem dX11_reckon_6 : decode cX11_reckon 6 = .ok (.imul, 1) := by decide +kernel
theorem dX11_reckon_7 : decode cX11_reckon 7 = .ok (.iaload, 1) := by decide +kernel
theorem dX11_reckon_8 : decode cX11_reckon 8 = .ok (.istore_n 3, 1) := by decide +kernel
theorem dX11_reckon_9 : decode cX11_reckon 9 = .ok (.aload_n 0, 1) := by decide +kernel
theorem dX11_reckon_10 : decode cX11_reckon 10 = .ok (.getfield 19, 3) := by decide +kernel
theorem dX11_reckon_13 : decode cX11_reckon 13 = .ok (.iload_n 1, 1) := by decide +kernel
theorem dX11_reckon_14 : decode cX11_reckon 14 = .ok (.baload, 1) := by decide +kernel
theorem dX11_reckon_15 : decode cX11_reckon 15 = .ok (.istore 4, 2) := by decide +kernel
theorem dX11_reckon_17 : decode cX11_reckon 17 = .ok (.aload_n 0, 1) := by decide +kernel
theorem dX11_reckon_18 : decode cX11_reckon 18 = .ok (.iload_n 1, 1) := by decide +kernel
theorem dX11_reckon_19 : decode cX11_reckon 19 = .ok (.iload_n 2, 1) := by decide +kernel
theorem dX11_reckon_20 : decode cX11_reckon 20 = .ok (.invokevirtual 140, 3) := by decide +kernel
theorem dX11_reckon_23 : decode cX11_reckon 23 = .ok (.istore 5, 2) := by decide +kernel
theorem dX11_reckon_25 : decode cX11_reckon 25 = .ok (.iload_n 3, 1) := by decide +kernel
theorem dX11_reckon_26 : decode cX11_reckon 26 = .ok (.bipush 16, 2) := by decide +kernel
theorem dX11_reckon_28 : decode cX11_reckon 28 = .ok (.if_icmp .le 9, 3) := by decide +kernel
theorem dX11_reckon_31 : decode cX11_reckon 31 = .ok (.iload_n 3, 1) := by decide +kernel
theorem dX11_reckon_32 : decode cX11_reckon 32 = .ok (.bipush 26, 2) := by decide +kernel
theorem dX11_reckon_34 : decode cX11_reckon 34 = .ok (.if_icmp .ne 72, 3) := by decide +kernel
theorem dX11_reckon_37 : decode cX11_reckon 37 = .ok (.iload 5, 2) := by decide +kernel
theorem dX11_reckon_39 : decode cX11_reckon 39 = .ok (.ifCond .ne 18, 3) := by decide +kernel
theorem dX11_reckon_42 : decode cX11_reckon 42 = .ok (.iload_n 3, 1) := by decide +kernel
theorem dX11_reckon_43 : decode cX11_reckon 43 = .ok (.bipush 9, 2) := by decide +kernel
theorem dX11_reckon_45 : decode cX11_reckon 45 = .ok (.if_icmp .lt 19, 3) := by decide +kernel
theorem dX11_reckon_48 : decode cX11_reckon 48 = .ok (.aload_n 0, 1) := by decide +kernel
theorem dX11_reckon_49 : decode cX11_reckon 49 = .ok (.iload_n 1, 1) := by decide +kernel
theorem dX11_reckon_50 : decode cX11_reckon 50 = .ok (.iload_n 2, 1) := by decide +kernel
theorem dX11_reckon_51 : decode cX11_reckon 51 = .ok (.invokevirtual 147, 3) := by decide +kernel
theorem dX11_reckon_54 : decode cX11_reckon 54 = .ok (.ifCond .eq 10, 3) := by decide +kernel
theorem dX11_reckon_57 : decode cX11_reckon 57 = .ok (.aload_n 0, 1) := by decide +kernel
theorem dX11_reckon_58 : decode cX11_reckon 58 = .ok (.invokevirtual 114, 3) := by decide +kernel
theorem dX11_reckon_61 : decode cX11_reckon 61 = .ok (.goto 44, 3) := by decide +kernel
theorem dX11_reckon_64 : decode cX11_reckon 64 = .ok (.iload_n 3, 1) := by decide +kernel
theorem dX11_reckon_65 : decode cX11_reckon 65 = .ok (.bipush 8, 2) := by decide +kernel
theorem dX11_reckon_67 : decode cX11_reckon 67 = .ok (.if_icmp .gt 19, 3) := by decide +kernel
theorem dX11_reckon_70 : decode cX11_reckon 70 = .ok (.aload_n 0, 1) := by decide +kernel
theorem dX11_reckon_71 : decode cX11_reckon 71 = .ok (.iload_n 3, 1) := by decide +kernel
theorem dX11_reckon_72 : decode cX11_reckon 72 = .ok (.aload_n 0, 1) := by decide +kernel
theorem dX11_reckon_73 : decode cX11_reckon 73 = .ok (.iload_n 1, 1) := by decide +kernel
theorem dX11_reckon_74 : decode cX11_reckon 74 = .ok (.iload_n 2, 1) := by decide +kernel
theorem dX11_reckon_75 : decode cX11_reckon 75 = .ok (.invokevirtual 136, 3) := by decide +kernel
theorem dX11_reckon_78 : decode cX11_reckon 78 = .ok (.iload 4, 2) := by decide +kernel
theorem dX11_reckon_80 : decode cX11_reckon 80 = .ok (.invokevirtual 161, 3) := by decide +kernel
theorem dX11_reckon_83 : decode cX11_reckon 83 = .ok (.goto 22, 3) := by decide +kernel
theorem dX11_reckon_86 : decode cX11_reckon 86 = .ok (.aload_n 0, 1) := by decide +kernel
theorem dX11_reckon_87 : decode cX11_reckon 87 = .ok (.iload_n 3, 1) := by decide +kernel
theorem dX11_reckon_88 : decode cX11_reckon 88 = .ok (.aload_n 0, 1) := by decide +kernel
theorem dX11_reckon_89 : decode cX11_reckon 89 = .ok (.iload_n 1, 1) := by decide +kernel
theorem dX11_reckon_90 : decode cX11_reckon 90 = .ok (.iload_n 2, 1) := by decide +kernel
theorem dX11_reckon_91 : decode cX11_reckon 91 = .ok (.invokevirtual 136, 3) := by decide +kernel
theorem dX11_reckon_94 : decode cX11_reckon 94 = .ok (.aload_n 0, 1) := by decide +kernel
theorem dX11_reckon_95 : decode cX11_reckon 95 = .ok (.iload_n 1, 1) := by decide +kernel
theorem dX11_reckon_96 : decode cX11_reckon 96 = .ok (.iload_n 2, 1) := by decide +kernel
theorem dX11_reckon_97 : decode cX11_reckon 97 = .ok (.invokevirtual 144, 3) := by decide +kernel
theorem dX11_reckon_100 : decode cX11_reckon 100 = .ok (.iload 4, 2) := by decide +kernel
theorem dX11_reckon_102 : decode cX11_reckon 102 = .ok (.invokevirtual 165, 3) := by decide +kernel
theorem dX11_reckon_105 : decode cX11_reckon 105 = .ok (.return_, 1) := by decide +kernel
theorem dX11_reckon_106 : decode cX11_reckon 106 = .ok (.iload_n 3, 1) := by decide +kernel
theorem dX11_reckon_107 : decode cX11_reckon 107 = .ok (.tableswitch 291 17 24 #[45, 79, 126, 173, 192, 203, 215, 241], 45) := by decide +kernel
theorem dX11_reckon_152 : decode cX11_reckon 152 = .ok (.iload 5, 2) := by decide +kernel
theorem dX11_reckon_154 : decode cX11_reckon 154 = .ok (.ifCond .ne 12, 3) := by decide +kernel
theorem dX11_reckon_157 : decode cX11_reckon 157 = .ok (.aload_n 0, 1) := by decide +kernel
theorem dX11_reckon_158 : decode cX11_reckon 158 = .ok (.iload_n 1, 1) := by decide +kernel
theorem dX11_reckon_159 : decode cX11_reckon 159 = .ok (.iload_n 2, 1) := by decide +kernel
theorem dX11_reckon_160 : decode cX11_reckon 160 = .ok (.invokevirtual 158, 3) := by decide +kernel
theorem dX11_reckon_163 : decode cX11_reckon 163 = .ok (.ifCond .ne 10, 3) := by decide +kernel
theorem dX11_reckon_166 : decode cX11_reckon 166 = .ok (.aload_n 0, 1) := by decide +kernel
theorem dX11_reckon_167 : decode cX11_reckon 167 = .ok (.invokevirtual 114, 3) := by decide +kernel
theorem dX11_reckon_170 : decode cX11_reckon 170 = .ok (.goto 239, 3) := by decide +kernel
theorem dX11_reckon_173 : decode cX11_reckon 173 = .ok (.aload_n 0, 1) := by decide +kernel
theorem dX11_reckon_174 : decode cX11_reckon 174 = .ok (.aload_n 0, 1) := by decide +kernel
theorem dX11_reckon_175 : decode cX11_reckon 175 = .ok (.iload_n 1, 1) := by decide +kernel
theorem dX11_reckon_176 : decode cX11_reckon 176 = .ok (.iload_n 2, 1) := by decide +kernel
theorem dX11_reckon_177 : decode cX11_reckon 177 = .ok (.invokevirtual 136, 3) := by decide +kernel
theorem dX11_reckon_180 : decode cX11_reckon 180 = .ok (.invokevirtual 94, 3) := by decide +kernel
theorem dX11_reckon_183 : decode cX11_reckon 183 = .ok (.goto 226, 3) := by decide +kernel
theorem dX11_reckon_186 : decode cX11_reckon 186 = .ok (.iload 5, 2) := by decide +kernel
theorem dX11_reckon_188 : decode cX11_reckon 188 = .ok (.ifCond .ne 16, 3) := by decide +kernel
theorem dX11_reckon_191 : decode cX11_reckon 191 = .ok (.aload_n 0, 1) := by decide +kernel
theorem dX11_reckon_192 : decode cX11_reckon 192 = .ok (.aload_n 0, 1) := by decide +kernel
theorem dX11_reckon_193 : decode cX11_reckon 193 = .ok (.iload_n 1, 1) := by decide +kernel
theorem dX11_reckon_194 : decode cX11_reckon 194 = .ok (.iload_n 2, 1) := by decide +kernel
theorem dX11_reckon_195 : decode cX11_reckon 195 = .ok (.invokevirtual 136, 3) := by decide +kernel
theorem dX11_reckon_198 : decode cX11_reckon 198 = .ok (.invokevirtual 94, 3) := by decide +kernel
theorem dX11_reckon_201 : decode cX11_reckon 201 = .ok (.goto 208, 3) := by decide +kernel
theorem dX11_reckon_204 : decode cX11_reckon 204 = .ok (.aload_n 0, 1) := by decide +kernel
theorem dX11_reckon_205 : decode cX11_reckon 205 = .ok (.iload_n 1, 1) := by decide +kernel
theorem dX11_reckon_206 : decode cX11_reckon 206 = .ok (.iload_n 2, 1) := by decide +kernel
theorem dX11_reckon_207 : decode cX11_reckon 207 = .ok (.invokevirtual 147, 3) := by decide +kernel
theorem dX11_reckon_210 : decode cX11_reckon 210 = .ok (.ifCond .eq 10, 3) := by decide +kernel
theorem dX11_reckon_213 : decode cX11_reckon 213 = .ok (.aload_n 0, 1) := by decide +kernel
theorem dX11_reckon_214 : decode cX11_reckon 214 = .ok (.invokevirtual 114, 3) := by decide +kernel
theorem dX11_reckon_217 : decode cX11_reckon 217 = .ok (.goto 192, 3) := by decide +kernel
theorem dX11_reckon_220 : decode cX11_reckon 220 = .ok (.aload_n 0, 1) := by decide +kernel
theorem dX11_reckon_221 : decode cX11_reckon 221 = .ok (.aload_n 0, 1) := by decide +kernel
theorem dX11_reckon_222 : decode cX11_reckon 222 = .ok (.iload_n 1, 1) := by decide +kernel
theorem dX11_reckon_223 : decode cX11_reckon 223 = .ok (.iload_n 2, 1) := by decide +kernel
theorem dX11_reckon_224 : decode cX11_reckon 224 = .ok (.invokevirtual 144, 3) := by decide +kernel
theorem dX11_reckon_227 : decode cX11_reckon 227 = .ok (.invokevirtual 94, 3) := by decide +kernel
theorem dX11_reckon_230 : decode cX11_reckon 230 = .ok (.goto 179, 3) := by decide +kernel
theorem dX11_reckon_233 : decode cX11_reckon 233 = .ok (.iload_n 2, 1) := by decide +kernel
theorem dX11_reckon_234 : decode cX11_reckon 234 = .ok (.ifCond .eq 24, 3) := by decide +kernel
theorem dX11_reckon_237 : decode cX11_reckon 237 = .ok (.iload_n 2, 1) := by decide +kernel
theorem dX11_reckon_238 : decode cX11_reckon 238 = .ok (.bipush 15, 2) := by decide +kernel
theorem dX11_reckon_240 : decode cX11_reckon 240 = .ok (.if_icmp .eq 18, 3) := by decide +kernel
theorem dX11_reckon_243 : decode cX11_reckon 243 = .ok (.aload_n 0, 1) := by decide +kernel
theorem dX11_reckon_244 : decode cX11_reckon 244 = .ok (.iload_n 1, 1) := by decide +kernel
theorem dX11_reckon_245 : decode cX11_reckon 245 = .ok (.iload_n 2, 1) := by decide +kernel
theorem dX11_reckon_246 : decode cX11_reckon 246 = .ok (.iconst 1, 1) := by decide +kernel
theorem dX11_reckon_247 : decode cX11_reckon 247 = .ok (.isub, 1) := by decide +kernel
theorem dX11_reckon_248 : decode cX11_reckon 248 = .ok (.iload_n 2, 1) := by decide +kernel
theorem dX11_reckon_249 : decode cX11_reckon 249 = .ok (.iconst 1, 1) := by decide +kernel
theorem dX11_reckon_250 : decode cX11_reckon 250 = .ok (.iadd, 1) := by decide +kernel
theorem dX11_reckon_251 : decode cX11_reckon 251 = .ok (.invokevirtual 169, 3) := by decide +kernel
theorem dX11_reckon_254 : decode cX11_reckon 254 = .ok (.iconst 3, 1) := by decide +kernel
theorem dX11_reckon_255 : decode cX11_reckon 255 = .ok (.if_icmp .ge 10, 3) := by decide +kernel
theorem dX11_reckon_258 : decode cX11_reckon 258 = .ok (.aload_n 0, 1) := by decide +kernel
theorem dX11_reckon_259 : decode cX11_reckon 259 = .ok (.invokevirtual 114, 3) := by decide +kernel
theorem dX11_reckon_262 : decode cX11_reckon 262 = .ok (.goto 147, 3) := by decide +kernel
theorem dX11_reckon_265 : decode cX11_reckon 265 = .ok (.aload_n 0, 1) := by decide +kernel
theorem dX11_reckon_266 : decode cX11_reckon 266 = .ok (.iload_n 1, 1) := by decide +kernel
theorem dX11_reckon_267 : decode cX11_reckon 267 = .ok (.iload_n 2, 1) := by decide +kernel
theorem dX11_reckon_268 : decode cX11_reckon 268 = .ok (.iconst 1, 1) := by decide +kernel
theorem dX11_reckon_269 : decode cX11_reckon 269 = .ok (.isub, 1) := by decide +kernel
theorem dX11_reckon_270 : decode cX11_reckon 270 = .ok (.iload_n 2, 1) := by decide +kernel
theorem dX11_reckon_271 : decode cX11_reckon 271 = .ok (.iconst 1, 1) := by decide +kernel
theorem dX11_reckon_272 : decode cX11_reckon 272 = .ok (.iadd, 1) := by decide +kernel
theorem dX11_reckon_273 : decode cX11_reckon 273 = .ok (.iconst 1, 1) := by decide +kernel
theorem dX11_reckon_274 : decode cX11_reckon 274 = .ok (.invokevirtual 173, 3) := by decide +kernel
theorem dX11_reckon_277 : decode cX11_reckon 277 = .ok (.goto 132, 3) := by decide +kernel
theorem dX11_reckon_280 : decode cX11_reckon 280 = .ok (.aload_n 0, 1) := by decide +kernel
theorem dX11_reckon_281 : decode cX11_reckon 281 = .ok (.iload_n 1, 1) := by decide +kernel
theorem dX11_reckon_282 : decode cX11_reckon 282 = .ok (.iconst 0, 1) := by decide +kernel
theorem dX11_reckon_283 : decode cX11_reckon 283 = .ok (.iload_n 2, 1) := by decide +kernel
theorem dX11_reckon_284 : decode cX11_reckon 284 = .ok (.aload_n 0, 1) := by decide +kernel
theorem dX11_reckon_285 : decode cX11_reckon 285 = .ok (.iload_n 1, 1) := by decide +kernel
theorem dX11_reckon_286 : decode cX11_reckon 286 = .ok (.iconst 0, 1) := by decide +kernel
theorem dX11_reckon_287 : decode cX11_reckon 287 = .ok (.iload_n 2, 1) := by decide +kernel
theorem dX11_reckon_288 : decode cX11_reckon 288 = .ok (.invokevirtual 169, 3) := by decide +kernel
theorem dX11_reckon_291 : decode cX11_reckon 291 = .ok (.iconst 1, 1) := by decide +kernel
theorem dX11_reckon_292 : decode cX11_reckon 292 = .ok (.isub, 1) := by decide +kernel
theorem dX11_reckon_293 : decode cX11_reckon 293 = .ok (.invokevirtual 173, 3) := by decide +kernel
theorem dX11_reckon_296 : decode cX11_reckon 296 = .ok (.goto 113, 3) := by decide +kernel
theorem dX11_reckon_299 : decode cX11_reckon 299 = .ok (.aload_n 0, 1) := by decide +kernel
theorem dX11_reckon_300 : decode cX11_reckon 300 = .ok (.iload_n 1, 1) := by decide +kernel
theorem dX11_reckon_301 : decode cX11_reckon 301 = .ok (.iconst 0, 1) := by decide +kernel
theorem dX11_reckon_302 : decode cX11_reckon 302 = .ok (.iload_n 2, 1) := by decide +kernel
theorem dX11_reckon_303 : decode cX11_reckon 303 = .ok (.iconst 0, 1) := by decide +kernel
theorem dX11_reckon_304 : decode cX11_reckon 304 = .ok (.invokevirtual 173, 3) := by decide +kernel
theorem dX11_reckon_307 : decode cX11_reckon 307 = .ok (.goto 102, 3) := by decide +kernel
theorem dX11_reckon_310 : decode cX11_reckon 310 = .ok (.aload_n 0, 1) := by decide +kernel
theorem dX11_reckon_311 : decode cX11_reckon 311 = .ok (.iload_n 1, 1) := by decide +kernel
theorem dX11_reckon_312 : decode cX11_reckon 312 = .ok (.iconst 0, 1) := by decide +kernel
theorem dX11_reckon_313 : decode cX11_reckon 313 = .ok (.bipush 15, 2) := by decide +kernel
theorem dX11_reckon_315 : decode cX11_reckon 315 = .ok (.iload_n 2, 1) := by decide +kernel
theorem dX11_reckon_316 : decode cX11_reckon 316 = .ok (.invokevirtual 173, 3) := by decide +kernel
theorem dX11_reckon_319 : decode cX11_reckon 319 = .ok (.goto 90, 3) := by decide +kernel
theorem dX11_reckon_322 : decode cX11_reckon 322 = .ok (.iload 5, 2) := by decide +kernel
theorem dX11_reckon_324 : decode cX11_reckon 324 = .ok (.ifCond .eq 10, 3) := by decide +kernel
theorem dX11_reckon_327 : decode cX11_reckon 327 = .ok (.aload_n 0, 1) := by decide +kernel
theorem dX11_reckon_328 : decode cX11_reckon 328 = .ok (.invokevirtual 114, 3) := by decide +kernel
theorem dX11_reckon_331 : decode cX11_reckon 331 = .ok (.goto 78, 3) := by decide +kernel
theorem dX11_reckon_334 : decode cX11_reckon 334 = .ok (.aload_n 0, 1) := by decide +kernel
theorem dX11_reckon_335 : decode cX11_reckon 335 = .ok (.aload_n 0, 1) := by decide +kernel
theorem dX11_reckon_336 : decode cX11_reckon 336 = .ok (.iload_n 1, 1) := by decide +kernel
theorem dX11_reckon_337 : decode cX11_reckon 337 = .ok (.iload_n 2, 1) := by decide +kernel
theorem dX11_reckon_338 : decode cX11_reckon 338 = .ok (.invokevirtual 177, 3) := by decide +kernel
theorem dX11_reckon_341 : decode cX11_reckon 341 = .ok (.i2d, 1) := by decide +kernel
theorem dX11_reckon_342 : decode cX11_reckon 342 = .ok (.invokevirtual 94, 3) := by decide +kernel
theorem dX11_reckon_345 : decode cX11_reckon 345 = .ok (.goto 64, 3) := by decide +kernel
theorem dX11_reckon_348 : decode cX11_reckon 348 = .ok (.iload 5, 2) := by decide +kernel
theorem dX11_reckon_350 : decode cX11_reckon 350 = .ok (.ifCond .ne 18, 3) := by decide +kernel
theorem dX11_reckon_353 : decode cX11_reckon 353 = .ok (.iload_n 2, 1) := by decide +kernel
theorem dX11_reckon_354 : decode cX11_reckon 354 = .ok (.ifCond .eq 14, 3) := by decide +kernel
theorem dX11_reckon_357 : decode cX11_reckon 357 = .ok (.aload_n 0, 1) := by decide +kernel
theorem dX11_reckon_358 : decode cX11_reckon 358 = .ok (.iload_n 1, 1) := by decide +kernel
theorem dX11_reckon_359 : decode cX11_reckon 359 = .ok (.iload_n 2, 1) := by decide +kernel
theorem dX11_reckon_360 : decode cX11_reckon 360 = .ok (.iconst 1, 1) := by decide +kernel
theorem dX11_reckon_361 : decode cX11_reckon 361 = .ok (.isub, 1) := by decide +kernel
theorem dX11_reckon_362 : decode cX11_reckon 362 = .ok (.invokevirtual 140, 3) := by decide +kernel
theorem dX11_reckon_365 : decode cX11_reckon 365 = .ok (.ifCond .eq 10, 3) := by decide +kernel
theorem dX11_reckon_368 : decode cX11_reckon 368 = .ok (.aload_n 0, 1) := by decide +kernel
theorem dX11_reckon_369 : decode cX11_reckon 369 = .ok (.invokevirtual 114, 3) := by decide +kernel
theorem dX11_reckon_372 : decode cX11_reckon 372 = .ok (.goto 37, 3) := by decide +kernel
theorem dX11_reckon_375 : decode cX11_reckon 375 = .ok (.aload_n 0, 1) := by decide +kernel
theorem dX11_reckon_376 : decode cX11_reckon 376 = .ok (.aload_n 0, 1) := by decide +kernel
theorem dX11_reckon_377 : decode cX11_reckon 377 = .ok (.iload_n 1, 1) := by decide +kernel
theorem dX11_reckon_378 : decode cX11_reckon 378 = .ok (.iload_n 2, 1) := by decide +kernel
theorem dX11_reckon_379 : decode cX11_reckon 379 = .ok (.invokevirtual 136, 3) := by decide +kernel
theorem dX11_reckon_382 : decode cX11_reckon 382 = .ok (.aload_n 0, 1) := by decide +kernel
theorem dX11_reckon_383 : decode cX11_reckon 383 = .ok (.iload_n 1, 1) := by decide +kernel
theorem dX11_reckon_384 : decode cX11_reckon 384 = .ok (.iload_n 2, 1) := by decide +kernel
theorem dX11_reckon_385 : decode cX11_reckon 385 = .ok (.iconst 1, 1) := by decide +kernel
theorem dX11_reckon_386 : decode cX11_reckon 386 = .ok (.isub, 1) := by decide +kernel
theorem dX11_reckon_387 : decode cX11_reckon 387 = .ok (.invokevirtual 136, 3) := by decide +kernel
theorem dX11_reckon_390 : decode cX11_reckon 390 = .ok (.iload 4, 2) := by decide +kernel
theorem dX11_reckon_392 : decode cX11_reckon 392 = .ok (.invokevirtual 120, 3) := by decide +kernel
theorem dX11_reckon_395 : decode cX11_reckon 395 = .ok (.goto 14, 3) := by decide +kernel
theorem dX11_reckon_398 : decode cX11_reckon 398 = .ok (.aload_n 0, 1) := by decide +kernel
theorem dX11_reckon_399 : decode cX11_reckon 399 = .ok (.aload_n 0, 1) := by decide +kernel
theorem dX11_reckon_400 : decode cX11_reckon 400 = .ok (.iload_n 1, 1) := by decide +kernel
theorem dX11_reckon_401 : decode cX11_reckon 401 = .ok (.iload_n 2, 1) := by decide +kernel
theorem dX11_reckon_402 : decode cX11_reckon 402 = .ok (.invokevirtual 180, 3) := by decide +kernel
theorem dX11_reckon_405 : decode cX11_reckon 405 = .ok (.i2d, 1) := by decide +kernel
theorem dX11_reckon_406 : decode cX11_reckon 406 = .ok (.invokevirtual 94, 3) := by decide +kernel
theorem dX11_reckon_409 : decode cX11_reckon 409 = .ok (.return_, 1) := by decide +kernel
theorem dX11_reckonAll_0 : decode cX11_reckonAll 0 = .ok (.sipush 192, 3) := by decide +kernel
theorem dX11_reckonAll_3 : decode cX11_reckonAll 3 = .ok (.istore_n 1, 1) := by decide +kernel
theorem dX11_reckonAll_4 : decode cX11_reckonAll 4 = .ok (.iload_n 1, 1) := by decide +kernel
theorem dX11_reckonAll_5 : decode cX11_reckonAll 5 = .ok (.sipush 200, 3) := by decide +kernel
theorem dX11_reckonAll_8 : decode cX11_reckonAll 8 = .ok (.if_icmp .ge 33, 3) := by decide +kernel
theorem dX11_reckonAll_11 : decode cX11_reckonAll 11 = .ok (.aload_n 0, 1) := by decide +kernel
theorem dX11_reckonAll_12 : decode cX11_reckonAll 12 = .ok (.getfield 26, 3) := by decide +kernel
theorem dX11_reckonAll_15 : decode cX11_reckonAll 15 = .ok (.iload_n 1, 1) := by decide +kernel
theorem dX11_reckonAll_16 : decode cX11_reckonAll 16 = .ok (.aload_n 0, 1) := by decide +kernel
theorem dX11_reckonAll_17 : decode cX11_reckonAll 17 = .ok (.getfield 9, 3) := by decide +kernel
theorem dX11_reckonAll_20 : decode cX11_reckonAll 20 = .ok (.iload_n 1, 1) := by decide +kernel
theorem dX11_reckonAll_21 : decode cX11_reckonAll 21 = .ok (.daload, 1) := by decide +kernel
theorem dX11_reckonAll_22 : decode cX11_reckonAll 22 = .ok (.dastore, 1) := by decide +kernel
theorem dX11_reckonAll_23 : decode cX11_reckonAll 23 = .ok (.aload_n 0, 1) := by decide +kernel
theorem dX11_reckonAll_24 : decode cX11_reckonAll 24 = .ok (.getfield 29, 3) := by decide +kernel
theorem dX11_reckonAll_27 : decode cX11_reckonAll 27 = .ok (.iload_n 1, 1) := by decide +kernel
theorem dX11_reckonAll_28 : decode cX11_reckonAll 28 = .ok (.aload_n 0, 1) := by decide +kernel
theorem dX11_reckonAll_29 : decode cX11_reckonAll 29 = .ok (.getfield 15, 3) := by decide +kernel
theorem dX11_reckonAll_32 : decode cX11_reckonAll 32 = .ok (.iload_n 1, 1) := by decide +kernel
theorem dX11_reckonAll_33 : decode cX11_reckonAll 33 = .ok (.baload, 1) := by decide +kernel
theorem dX11_reckonAll_34 : decode cX11_reckonAll 34 = .ok (.bastore, 1) := by decide +kernel
theorem dX11_reckonAll_35 : decode cX11_reckonAll 35 = .ok (.iinc 1 1, 3) := by decide +kernel
theorem dX11_reckonAll_38 : decode cX11_reckonAll 38 = .ok (.goto (-34), 3) := by decide +kernel
theorem dX11_reckonAll_41 : decode cX11_reckonAll 41 = .ok (.iconst 0, 1) := by decide +kernel
theorem dX11_reckonAll_42 : decode cX11_reckonAll 42 = .ok (.istore_n 1, 1) := by decide +kernel
theorem dX11_reckonAll_43 : decode cX11_reckonAll 43 = .ok (.iload_n 1, 1) := by decide +kernel
theorem dX11_reckonAll_44 : decode cX11_reckonAll 44 = .ok (.bipush 12, 2) := by decide +kernel
theorem dX11_reckonAll_46 : decode cX11_reckonAll 46 = .ok (.if_icmp .ge 94, 3) := by decide +kernel
theorem dX11_reckonAll_49 : decode cX11_reckonAll 49 = .ok (.iconst 0, 1) := by decide +kernel
theorem dX11_reckonAll_50 : decode cX11_reckonAll 50 = .ok (.istore_n 2, 1) := by decide +kernel
theorem dX11_reckonAll_51 : decode cX11_reckonAll 51 = .ok (.iload_n 2, 1) := by decide +kernel
theorem dX11_reckonAll_52 : decode cX11_reckonAll 52 = .ok (.bipush 16, 2) := by decide +kernel
theorem dX11_reckonAll_54 : decode cX11_reckonAll 54 = .ok (.if_icmp .ge 80, 3) := by decide +kernel
theorem dX11_reckonAll_57 : decode cX11_reckonAll 57 = .ok (.bipush 16, 2) := by decide +kernel
theorem dX11_reckonAll_59 : decode cX11_reckonAll 59 = .ok (.iload_n 1, 1) := by decide +kernel
theorem dX11_reckonAll_60 : decode cX11_reckonAll 60 = .ok (.imul, 1) := by decide +kernel
theorem dX11_reckonAll_61 : decode cX11_reckonAll 61 = .ok (.iload_n 2, 1) := by decide +kernel
theorem dX11_reckonAll_62 : decode cX11_reckonAll 62 = .ok (.iadd, 1) := by decide +kernel
theorem dX11_reckonAll_63 : decode cX11_reckonAll 63 = .ok (.istore_n 3, 1) := by decide +kernel
theorem dX11_reckonAll_64 : decode cX11_reckonAll 64 = .ok (.aload_n 0, 1) := by decide +kernel
theorem dX11_reckonAll_65 : decode cX11_reckonAll 65 = .ok (.getfield 22, 3) := by decide +kernel
theorem dX11_reckonAll_68 : decode cX11_reckonAll 68 = .ok (.iconst 4, 1) := by decide +kernel
theorem dX11_reckonAll_69 : decode cX11_reckonAll 69 = .ok (.iload_n 1, 1) := by decide +kernel
theorem dX11_reckonAll_70 : decode cX11_reckonAll 70 = .ok (.imul, 1) := by decide +kernel
theorem dX11_reckonAll_71 : decode cX11_reckonAll 71 = .ok (.iaload, 1) := by decide +kernel
theorem dX11_reckonAll_72 : decode cX11_reckonAll 72 = .ok (.ifCond .ge 30, 3) := by decide +kernel
theorem dX11_reckonAll_75 : decode cX11_reckonAll 75 = .ok (.aload_n 0, 1) := by decide +kernel
theorem dX11_reckonAll_76 : decode cX11_reckonAll 76 = .ok (.getfield 26, 3) := by decide +kernel
theorem dX11_reckonAll_79 : decode cX11_reckonAll 79 = .ok (.iload_n 3, 1) := by decide +kernel
theorem dX11_reckonAll_80 : decode cX11_reckonAll 80 = .ok (.aload_n 0, 1) := by decide +kernel
theorem dX11_reckonAll_81 : decode cX11_reckonAll 81 = .ok (.getfield 9, 3) := by decide +kernel
theorem dX11_reckonAll_84 : decode cX11_reckonAll 84 = .ok (.iload_n 3, 1) := by decide +kernel
theorem dX11_reckonAll_85 : decode cX11_reckonAll 85 = .ok (.daload, 1) := by decide +kernel
theorem dX11_reckonAll_86 : decode cX11_reckonAll 86 = .ok (.dastore, 1) := by decide +kernel
theorem dX11_reckonAll_87 : decode cX11_reckonAll 87 = .ok (.aload_n 0, 1) := by decide +kernel
theorem dX11_reckonAll_88 : decode cX11_reckonAll 88 = .ok (.getfield 29, 3) := by decide +kernel
theorem dX11_reckonAll_91 : decode cX11_reckonAll 91 = .ok (.iload_n 3, 1) := by decide +kernel
theorem dX11_reckonAll_92 : decode cX11_reckonAll 92 = .ok (.aload_n 0, 1) := by decide +kernel
theorem dX11_reckonAll_93 : decode cX11_reckonAll 93 = .ok (.getfield 15, 3) := by decide +kernel
theorem dX11_reckonAll_96 : decode cX11_reckonAll 96 = .ok (.iload_n 3, 1) := by decide +kernel
theorem dX11_reckonAll_97 : decode cX11_reckonAll 97 = .ok (.baload, 1) := by decide +kernel
theorem dX11_reckonAll_98 : decode cX11_reckonAll 98 = .ok (.bastore, 1) := by decide +kernel
theorem dX11_reckonAll_99 : decode cX11_reckonAll 99 = .ok (.goto 29, 3) := by decide +kernel
theorem dX11_reckonAll_102 : decode cX11_reckonAll 102 = .ok (.aload_n 0, 1) := by decide +kernel
theorem dX11_reckonAll_103 : decode cX11_reckonAll 103 = .ok (.iload_n 1, 1) := by decide +kernel
theorem dX11_reckonAll_104 : decode cX11_reckonAll 104 = .ok (.iload_n 2, 1) := by decide +kernel
theorem dX11_reckonAll_105 : decode cX11_reckonAll 105 = .ok (.invokevirtual 183, 3) := by decide +kernel
theorem dX11_reckonAll_108 : decode cX11_reckonAll 108 = .ok (.aload_n 0, 1) := by decide +kernel
theorem dX11_reckonAll_109 : decode cX11_reckonAll 109 = .ok (.getfield 26, 3) := by decide +kernel
theorem dX11_reckonAll_112 : decode cX11_reckonAll 112 = .ok (.iload_n 3, 1) := by decide +kernel
theorem dX11_reckonAll_113 : decode cX11_reckonAll 113 = .ok (.aload_n 0, 1) := by decide +kernel
theorem dX11_reckonAll_114 : decode cX11_reckonAll 114 = .ok (.getfield 86, 3) := by decide +kernel
theorem dX11_reckonAll_117 : decode cX11_reckonAll 117 = .ok (.dastore, 1) := by decide +kernel
theorem dX11_reckonAll_118 : decode cX11_reckonAll 118 = .ok (.aload_n 0, 1) := by decide +kernel
theorem dX11_reckonAll_119 : decode cX11_reckonAll 119 = .ok (.getfield 29, 3) := by decide +kernel
theorem dX11_reckonAll_122 : decode cX11_reckonAll 122 = .ok (.iload_n 3, 1) := by decide +kernel
theorem dX11_reckonAll_123 : decode cX11_reckonAll 123 = .ok (.aload_n 0, 1) := by decide +kernel
theorem dX11_reckonAll_124 : decode cX11_reckonAll 124 = .ok (.getfield 90, 3) := by decide +kernel
theorem dX11_reckonAll_127 : decode cX11_reckonAll 127 = .ok (.bastore, 1) := by decide +kernel
theorem dX11_reckonAll_128 : decode cX11_reckonAll 128 = .ok (.iinc 2 1, 3) := by decide +kernel
theorem dX11_reckonAll_131 : decode cX11_reckonAll 131 = .ok (.goto (-80), 3) := by decide +kernel
theorem dX11_reckonAll_134 : decode cX11_reckonAll 134 = .ok (.iinc 1 1, 3) := by decide +kernel
theorem dX11_reckonAll_137 : decode cX11_reckonAll 137 = .ok (.goto (-94), 3) := by decide +kernel
theorem dX11_reckonAll_140 : decode cX11_reckonAll 140 = .ok (.return_, 1) := by decide +kernel
theorem dX11_changed_0 : decode cX11_changed 0 = .ok (.aload_n 0, 1) := by decide +kernel
theorem dX11_changed_1 : decode cX11_changed 1 = .ok (.dup, 1) := by decide +kernel
theorem dX11_changed_2 : decode cX11_changed 2 = .ok (.getfield 187, 3) := by decide +kernel
theorem dX11_changed_5 : decode cX11_changed 5 = .ok (.iconst 1, 1) := by decide +kernel
theorem dX11_changed_6 : decode cX11_changed 6 = .ok (.iadd, 1) := by decide +kernel
theorem dX11_changed_7 : decode cX11_changed 7 = .ok (.putfield 187, 3) := by decide +kernel
theorem dX11_changed_10 : decode cX11_changed 10 = .ok (.iconst 1, 1) := by decide +kernel
theorem dX11_changed_11 : decode cX11_changed 11 = .ok (.ireturn, 1) := by decide +kernel
theorem dX11_picture_0 : decode cX11_picture 0 = .ok (.iconst 0, 1) := by decide +kernel
theorem dX11_picture_1 : decode cX11_picture 1 = .ok (.istore_n 1, 1) := by decide +kernel
theorem dX11_picture_2 : decode cX11_picture 2 = .ok (.iload_n 1, 1) := by decide +kernel
theorem dX11_picture_3 : decode cX11_picture 3 = .ok (.sipush 200, 3) := by decide +kernel
theorem dX11_picture_6 : decode cX11_picture 6 = .ok (.if_icmp .ge 51, 3) := by decide +kernel
theorem dX11_picture_9 : decode cX11_picture 9 = .ok (.aload_n 0, 1) := by decide +kernel
theorem dX11_picture_10 : decode cX11_picture 10 = .ok (.getfield 33, 3) := by decide +kernel
theorem dX11_picture_13 : decode cX11_picture 13 = .ok (.sipush 200, 3) := by decide +kernel
theorem dX11_picture_16 : decode cX11_picture 16 = .ok (.aload_n 0, 1) := by decide +kernel
theorem dX11_picture_17 : decode cX11_picture 17 = .ok (.getfield 187, 3) := by decide +kernel
theorem dX11_picture_20 : decode cX11_picture 20 = .ok (.imul, 1) := by decide +kernel
theorem dX11_picture_21 : decode cX11_picture 21 = .ok (.iload_n 1, 1) := by decide +kernel
theorem dX11_picture_22 : decode cX11_picture 22 = .ok (.iadd, 1) := by decide +kernel
theorem dX11_picture_23 : decode cX11_picture 23 = .ok (.aload_n 0, 1) := by decide +kernel
theorem dX11_picture_24 : decode cX11_picture 24 = .ok (.getfield 9, 3) := by decide +kernel
theorem dX11_picture_27 : decode cX11_picture 27 = .ok (.iload_n 1, 1) := by decide +kernel
theorem dX11_picture_28 : decode cX11_picture 28 = .ok (.daload, 1) := by decide +kernel
theorem dX11_picture_29 : decode cX11_picture 29 = .ok (.dastore, 1) := by decide +kernel
theorem dX11_picture_30 : decode cX11_picture 30 = .ok (.aload_n 0, 1) := by decide +kernel
theorem dX11_picture_31 : decode cX11_picture 31 = .ok (.getfield 36, 3) := by decide +kernel
theorem dX11_picture_34 : decode cX11_picture 34 = .ok (.sipush 200, 3) := by decide +kernel
theorem dX11_picture_37 : decode cX11_picture 37 = .ok (.aload_n 0, 1) := by decide +kernel
theorem dX11_picture_38 : decode cX11_picture 38 = .ok (.getfield 187, 3) := by decide +kernel
theorem dX11_picture_41 : decode cX11_picture 41 = .ok (.imul, 1) := by decide +kernel
theorem dX11_picture_42 : decode cX11_picture 42 = .ok (.iload_n 1, 1) := by decide +kernel
theorem dX11_picture_43 : decode cX11_picture 43 = .ok (.iadd, 1) := by decide +kernel
theorem dX11_picture_44 : decode cX11_picture 44 = .ok (.aload_n 0, 1) := by decide +kernel
theorem dX11_picture_45 : decode cX11_picture 45 = .ok (.getfield 15, 3) := by decide +kernel
theorem dX11_picture_48 : decode cX11_picture 48 = .ok (.iload_n 1, 1) := by decide +kernel
theorem dX11_picture_49 : decode cX11_picture 49 = .ok (.baload, 1) := by decide +kernel
theorem dX11_picture_50 : decode cX11_picture 50 = .ok (.bastore, 1) := by decide +kernel
theorem dX11_picture_51 : decode cX11_picture 51 = .ok (.iinc 1 1, 3) := by decide +kernel
theorem dX11_picture_54 : decode cX11_picture 54 = .ok (.goto (-52), 3) := by decide +kernel
theorem dX11_picture_57 : decode cX11_picture 57 = .ok (.iconst 0, 1) := by decide +kernel
theorem dX11_picture_58 : decode cX11_picture 58 = .ok (.istore_n 1, 1) := by decide +kernel
theorem dX11_picture_59 : decode cX11_picture 59 = .ok (.iload_n 1, 1) := by decide +kernel
theorem dX11_picture_60 : decode cX11_picture 60 = .ok (.bipush 12, 2) := by decide +kernel
theorem dX11_picture_62 : decode cX11_picture 62 = .ok (.if_icmp .ge 29, 3) := by decide +kernel
theorem dX11_picture_65 : decode cX11_picture 65 = .ok (.aload_n 0, 1) := by decide +kernel
theorem dX11_picture_66 : decode cX11_picture 66 = .ok (.getfield 39, 3) := by decide +kernel
theorem dX11_picture_69 : decode cX11_picture 69 = .ok (.bipush 12, 2) := by decide +kernel
theorem dX11_picture_71 : decode cX11_picture 71 = .ok (.aload_n 0, 1) := by decide +kernel
theorem dX11_picture_72 : decode cX11_picture 72 = .ok (.getfield 187, 3) := by decide +kernel
theorem dX11_picture_75 : decode cX11_picture 75 = .ok (.imul, 1) := by decide +kernel
theorem dX11_picture_76 : decode cX11_picture 76 = .ok (.iload_n 1, 1) := by decide +kernel
theorem dX11_picture_77 : decode cX11_picture 77 = .ok (.iadd, 1) := by decide +kernel
theorem dX11_picture_78 : decode cX11_picture 78 = .ok (.aload_n 0, 1) := by decide +kernel
theorem dX11_picture_79 : decode cX11_picture 79 = .ok (.getfield 19, 3) := by decide +kernel
theorem dX11_picture_82 : decode cX11_picture 82 = .ok (.iload_n 1, 1) := by decide +kernel
theorem dX11_picture_83 : decode cX11_picture 83 = .ok (.baload, 1) := by decide +kernel
theorem dX11_picture_84 : decode cX11_picture 84 = .ok (.bastore, 1) := by decide +kernel
theorem dX11_picture_85 : decode cX11_picture 85 = .ok (.iinc 1 1, 3) := by decide +kernel
theorem dX11_picture_88 : decode cX11_picture 88 = .ok (.goto (-29), 3) := by decide +kernel
theorem dX11_picture_91 : decode cX11_picture 91 = .ok (.iconst 0, 1) := by decide +kernel
theorem dX11_picture_92 : decode cX11_picture 92 = .ok (.istore_n 1, 1) := by decide +kernel
theorem dX11_picture_93 : decode cX11_picture 93 = .ok (.iload_n 1, 1) := by decide +kernel
theorem dX11_picture_94 : decode cX11_picture 94 = .ok (.bipush 48, 2) := by decide +kernel
theorem dX11_picture_96 : decode cX11_picture 96 = .ok (.if_icmp .ge 29, 3) := by decide +kernel
theorem dX11_picture_99 : decode cX11_picture 99 = .ok (.aload_n 0, 1) := by decide +kernel
theorem dX11_picture_100 : decode cX11_picture 100 = .ok (.getfield 42, 3) := by decide +kernel
theorem dX11_picture_103 : decode cX11_picture 103 = .ok (.bipush 48, 2) := by decide +kernel
theorem dX11_picture_105 : decode cX11_picture 105 = .ok (.aload_n 0, 1) := by decide +kernel
theorem dX11_picture_106 : decode cX11_picture 106 = .ok (.getfield 187, 3) := by decide +kernel
theorem dX11_picture_109 : decode cX11_picture 109 = .ok (.imul, 1) := by decide +kernel
theorem dX11_picture_110 : decode cX11_picture 110 = .ok (.iload_n 1, 1) := by decide +kernel
theorem dX11_picture_111 : decode cX11_picture 111 = .ok (.iadd, 1) := by decide +kernel
theorem dX11_picture_112 : decode cX11_picture 112 = .ok (.aload_n 0, 1) := by decide +kernel
theorem dX11_picture_113 : decode cX11_picture 113 = .ok (.getfield 22, 3) := by decide +kernel
theorem dX11_picture_116 : decode cX11_picture 116 = .ok (.iload_n 1, 1) := by decide +kernel
theorem dX11_picture_117 : decode cX11_picture 117 = .ok (.iaload, 1) := by decide +kernel
theorem dX11_picture_118 : decode cX11_picture 118 = .ok (.iastore, 1) := by decide +kernel
theorem dX11_picture_119 : decode cX11_picture 119 = .ok (.iinc 1 1, 3) := by decide +kernel
theorem dX11_picture_122 : decode cX11_picture 122 = .ok (.goto (-29), 3) := by decide +kernel
theorem dX11_picture_125 : decode cX11_picture 125 = .ok (.return_, 1) := by decide +kernel
theorem dX11_back_0 : decode cX11_back 0 = .ok (.aload_n 0, 1) := by decide +kernel
theorem dX11_back_1 : decode cX11_back 1 = .ok (.getfield 187, 3) := by decide +kernel
theorem dX11_back_4 : decode cX11_back 4 = .ok (.ifCond .ne 5, 3) := by decide +kernel
theorem dX11_back_7 : decode cX11_back 7 = .ok (.iconst (-1), 1) := by decide +kernel
theorem dX11_back_8 : decode cX11_back 8 = .ok (.ireturn, 1) := by decide +kernel
theorem dX11_back_9 : decode cX11_back 9 = .ok (.aload_n 0, 1) := by decide +kernel
theorem dX11_back_10 : decode cX11_back 10 = .ok (.dup, 1) := by decide +kernel
theorem dX11_back_11 : decode cX11_back 11 = .ok (.getfield 187, 3) := by decide +kernel
theorem dX11_back_14 : decode cX11_back 14 = .ok (.iconst 1, 1) := by decide +kernel
theorem dX11_back_15 : decode cX11_back 15 = .ok (.isub, 1) := by decide +kernel
theorem dX11_back_16 : decode cX11_back 16 = .ok (.putfield 187, 3) := by decide +kernel
theorem dX11_back_19 : decode cX11_back 19 = .ok (.iconst 0, 1) := by decide +kernel
theorem dX11_back_20 : decode cX11_back 20 = .ok (.istore_n 1, 1) := by decide +kernel
theorem dX11_back_21 : decode cX11_back 21 = .ok (.iload_n 1, 1) := by decide +kernel
theorem dX11_back_22 : decode cX11_back 22 = .ok (.sipush 200, 3) := by decide +kernel
theorem dX11_back_25 : decode cX11_back 25 = .ok (.if_icmp .ge 51, 3) := by decide +kernel
theorem dX11_back_28 : decode cX11_back 28 = .ok (.aload_n 0, 1) := by decide +kernel
theorem dX11_back_29 : decode cX11_back 29 = .ok (.getfield 9, 3) := by decide +kernel
theorem dX11_back_32 : decode cX11_back 32 = .ok (.iload_n 1, 1) := by decide +kernel
theorem dX11_back_33 : decode cX11_back 33 = .ok (.aload_n 0, 1) := by decide +kernel
theorem dX11_back_34 : decode cX11_back 34 = .ok (.getfield 33, 3) := by decide +kernel
theorem dX11_back_37 : decode cX11_back 37 = .ok (.sipush 200, 3) := by decide +kernel
theorem dX11_back_40 : decode cX11_back 40 = .ok (.aload_n 0, 1) := by decide +kernel
theorem dX11_back_41 : decode cX11_back 41 = .ok (.getfield 187, 3) := by decide +kernel
theorem dX11_back_44 : decode cX11_back 44 = .ok (.imul, 1) := by decide +kernel
theorem dX11_back_45 : decode cX11_back 45 = .ok (.iload_n 1, 1) := by decide +kernel
theorem dX11_back_46 : decode cX11_back 46 = .ok (.iadd, 1) := by decide +kernel
theorem dX11_back_47 : decode cX11_back 47 = .ok (.daload, 1) := by decide +kernel
theorem dX11_back_48 : decode cX11_back 48 = .ok (.dastore, 1) := by decide +kernel
theorem dX11_back_49 : decode cX11_back 49 = .ok (.aload_n 0, 1) := by decide +kernel
theorem dX11_back_50 : decode cX11_back 50 = .ok (.getfield 15, 3) := by decide +kernel
theorem dX11_back_53 : decode cX11_back 53 = .ok (.iload_n 1, 1) := by decide +kernel
theorem dX11_back_54 : decode cX11_back 54 = .ok (.aload_n 0, 1) := by decide +kernel
theorem dX11_back_55 : decode cX11_back 55 = .ok (.getfield 36, 3) := by decide +kernel
theorem dX11_back_58 : decode cX11_back 58 = .ok (.sipush 200, 3) := by decide +kernel
theorem dX11_back_61 : decode cX11_back 61 = .ok (.aload_n 0, 1) := by decide +kernel
theorem dX11_back_62 : decode cX11_back 62 = .ok (.getfield 187, 3) := by decide +kernel
theorem dX11_back_65 : decode cX11_back 65 = .ok (.imul, 1) := by decide +kernel
theorem dX11_back_66 : decode cX11_back 66 = .ok (.iload_n 1, 1) := by decide +kernel
theorem dX11_back_67 : decode cX11_back 67 = .ok (.iadd, 1) := by decide +kernel
theorem dX11_back_68 : decode cX11_back 68 = .ok (.baload, 1) := by decide +kernel
theorem dX11_back_69 : decode cX11_back 69 = .ok (.bastore, 1) := by decide +kernel
theorem dX11_back_70 : decode cX11_back 70 = .ok (.iinc 1 1, 3) := by decide +kernel
theorem dX11_back_73 : decode cX11_back 73 = .ok (.goto (-52), 3) := by decide +kernel
theorem dX11_back_76 : decode cX11_back 76 = .ok (.iconst 0, 1) := by decide +kernel
theorem dX11_back_77 : decode cX11_back 77 = .ok (.istore_n 1, 1) := by decide +kernel
theorem dX11_back_78 : decode cX11_back 78 = .ok (.iload_n 1, 1) := by decide +kernel
theorem dX11_back_79 : decode cX11_back 79 = .ok (.bipush 12, 2) := by decide +kernel
theorem dX11_back_81 : decode cX11_back 81 = .ok (.if_icmp .ge 29, 3) := by decide +kernel
theorem dX11_back_84 : decode cX11_back 84 = .ok (.aload_n 0, 1) := by decide +kernel
theorem dX11_back_85 : decode cX11_back 85 = .ok (.getfield 19, 3) := by decide +kernel
theorem dX11_back_88 : decode cX11_back 88 = .ok (.iload_n 1, 1) := by decide +kernel
theorem dX11_back_89 : decode cX11_back 89 = .ok (.aload_n 0, 1) := by decide +kernel
theorem dX11_back_90 : decode cX11_back 90 = .ok (.getfield 39, 3) := by decide +kernel
theorem dX11_back_93 : decode cX11_back 93 = .ok (.bipush 12, 2) := by decide +kernel
theorem dX11_back_95 : decode cX11_back 95 = .ok (.aload_n 0, 1) := by decide +kernel
theorem dX11_back_96 : decode cX11_back 96 = .ok (.getfield 187, 3) := by decide +kernel
theorem dX11_back_99 : decode cX11_back 99 = .ok (.imul, 1) := by decide +kernel
theorem dX11_back_100 : decode cX11_back 100 = .ok (.iload_n 1, 1) := by decide +kernel
theorem dX11_back_101 : decode cX11_back 101 = .ok (.iadd, 1) := by decide +kernel
theorem dX11_back_102 : decode cX11_back 102 = .ok (.baload, 1) := by decide +kernel
theorem dX11_back_103 : decode cX11_back 103 = .ok (.bastore, 1) := by decide +kernel
theorem dX11_back_104 : decode cX11_back 104 = .ok (.iinc 1 1, 3) := by decide +kernel
theorem dX11_back_107 : decode cX11_back 107 = .ok (.goto (-29), 3) := by decide +kernel
theorem dX11_back_110 : decode cX11_back 110 = .ok (.iconst 0, 1) := by decide +kernel
theorem dX11_back_111 : decode cX11_back 111 = .ok (.istore_n 1, 1) := by decide +kernel
theorem dX11_back_112 : decode cX11_back 112 = .ok (.iload_n 1, 1) := by decide +kernel
theorem dX11_back_113 : decode cX11_back 113 = .ok (.bipush 48, 2) := by decide +kernel
theorem dX11_back_115 : decode cX11_back 115 = .ok (.if_icmp .ge 29, 3) := by decide +kernel
theorem dX11_back_118 : decode cX11_back 118 = .ok (.aload_n 0, 1) := by decide +kernel
theorem dX11_back_119 : decode cX11_back 119 = .ok (.getfield 22, 3) := by decide +kernel
theorem dX11_back_122 : decode cX11_back 122 = .ok (.iload_n 1, 1) := by decide +kernel
theorem dX11_back_123 : decode cX11_back 123 = .ok (.aload_n 0, 1) := by decide +kernel
theorem dX11_back_124 : decode cX11_back 124 = .ok (.getfield 42, 3) := by decide +kernel
theorem dX11_back_127 : decode cX11_back 127 = .ok (.bipush 48, 2) := by decide +kernel
theorem dX11_back_129 : decode cX11_back 129 = .ok (.aload_n 0, 1) := by decide +kernel
theorem dX11_back_130 : decode cX11_back 130 = .ok (.getfield 187, 3) := by decide +kernel
theorem dX11_back_133 : decode cX11_back 133 = .ok (.imul, 1) := by decide +kernel
theorem dX11_back_134 : decode cX11_back 134 = .ok (.iload_n 1, 1) := by decide +kernel
theorem dX11_back_135 : decode cX11_back 135 = .ok (.iadd, 1) := by decide +kernel
theorem dX11_back_136 : decode cX11_back 136 = .ok (.iaload, 1) := by decide +kernel
theorem dX11_back_137 : decode cX11_back 137 = .ok (.iastore, 1) := by decide +kernel
theorem dX11_back_138 : decode cX11_back 138 = .ok (.iinc 1 1, 3) := by decide +kernel
theorem dX11_back_141 : decode cX11_back 141 = .ok (.goto (-29), 3) := by decide +kernel
theorem dX11_back_144 : decode cX11_back 144 = .ok (.aload_n 0, 1) := by decide +kernel
theorem dX11_back_145 : decode cX11_back 145 = .ok (.getfield 187, 3) := by decide +kernel
theorem dX11_back_148 : decode cX11_back 148 = .ok (.ireturn, 1) := by decide +kernel
theorem dX11_canSet_0 : decode cX11_canSet 0 = .ok (.iload_n 1, 1) := by decide +kernel
theorem dX11_canSet_1 : decode cX11_canSet 1 = .ok (.iconst 0, 1) := by decide +kernel
theorem dX11_canSet_2 : decode cX11_canSet 2 = .ok (.bipush 11, 2) := by decide +kernel
theorem dX11_canSet_4 : decode cX11_canSet 4 = .ok (.invokestatic 191, 3) := by decide +kernel
theorem dX11_canSet_7 : decode cX11_canSet 7 = .ok (.ifCond .eq 28, 3) := by decide +kernel
theorem dX11_canSet_10 : decode cX11_canSet 10 = .ok (.iload_n 2, 1) := by decide +kernel
theorem dX11_canSet_11 : decode cX11_canSet 11 = .ok (.iconst 0, 1) := by decide +kernel
theorem dX11_canSet_12 : decode cX11_canSet 12 = .ok (.bipush 15, 2) := by decide +kernel
theorem dX11_canSet_14 : decode cX11_canSet 14 = .ok (.invokestatic 191, 3) := by decide +kernel
theorem dX11_canSet_17 : decode cX11_canSet 17 = .ok (.ifCond .eq 18, 3) := by decide +kernel
theorem dX11_canSet_20 : decode cX11_canSet 20 = .ok (.aload_n 0, 1) := by decide +kernel
theorem dX11_canSet_21 : decode cX11_canSet 21 = .ok (.getfield 22, 3) := by decide +kernel
theorem dX11_canSet_24 : decode cX11_canSet 24 = .ok (.iconst 4, 1) := by decide +kernel
theorem dX11_canSet_25 : decode cX11_canSet 25 = .ok (.iload_n 1, 1) := by decide +kernel
theorem dX11_canSet_26 : decode cX11_canSet 26 = .ok (.imul, 1) := by decide +kernel
theorem dX11_canSet_27 : decode cX11_canSet 27 = .ok (.iaload, 1) := by decide +kernel
theorem dX11_canSet_28 : decode cX11_canSet 28 = .ok (.ifCond .ge 7, 3) := by decide +kernel
theorem dX11_canSet_31 : decode cX11_canSet 31 = .ok (.iconst 1, 1) := by decide +kernel
theorem dX11_canSet_32 : decode cX11_canSet 32 = .ok (.goto 4, 3) := by decide +kernel
theorem dX11_canSet_35 : decode cX11_canSet 35 = .ok (.iconst 0, 1) := by decide +kernel
theorem dX11_canSet_36 : decode cX11_canSet 36 = .ok (.ireturn, 1) := by decide +kernel
theorem dX11_put_0 : decode cX11_put 0 = .ok (.aload_n 0, 1) := by decide +kernel
theorem dX11_put_1 : decode cX11_put 1 = .ok (.getfield 9, 3) := by decide +kernel
theorem dX11_put_4 : decode cX11_put 4 = .ok (.iload_n 1, 1) := by decide +kernel
theorem dX11_put_5 : decode cX11_put 5 = .ok (.dload_n 2, 1) := by decide +kernel
theorem dX11_put_6 : decode cX11_put 6 = .ok (.dastore, 1) := by decide +kernel
theorem dX11_put_7 : decode cX11_put 7 = .ok (.aload_n 0, 1) := by decide +kernel
theorem dX11_put_8 : decode cX11_put 8 = .ok (.getfield 15, 3) := by decide +kernel
theorem dX11_put_11 : decode cX11_put 11 = .ok (.iload_n 1, 1) := by decide +kernel
theorem dX11_put_12 : decode cX11_put 12 = .ok (.iconst 0, 1) := by decide +kernel
theorem dX11_put_13 : decode cX11_put 13 = .ok (.bastore, 1) := by decide +kernel
theorem dX11_put_14 : decode cX11_put 14 = .ok (.return_, 1) := by decide +kernel
theorem dX11_putSpecial_0 : decode cX11_putSpecial 0 = .ok (.iload_n 2, 1) := by decide +kernel
theorem dX11_putSpecial_1 : decode cX11_putSpecial 1 = .ok (.tableswitch 106 0 4 #[35, 52, 63, 74, 85], 35) := by decide +kernel
theorem dX11_putSpecial_36 : decode cX11_putSpecial 36 = .ok (.aload_n 0, 1) := by decide +kernel
theorem dX11_putSpecial_37 : decode cX11_putSpecial 37 = .ok (.getfield 9, 3) := by decide +kernel
theorem dX11_putSpecial_40 : decode cX11_putSpecial 40 = .ok (.iload_n 1, 1) := by decide +kernel
theorem dX11_putSpecial_41 : decode cX11_putSpecial 41 = .ok (.dconst 0, 1) := by decide +kernel
theorem dX11_putSpecial_42 : decode cX11_putSpecial 42 = .ok (.dastore, 1) := by decide +kernel
theorem dX11_putSpecial_43 : decode cX11_putSpecial 43 = .ok (.aload_n 0, 1) := by decide +kernel
theorem dX11_putSpecial_44 : decode cX11_putSpecial 44 = .ok (.getfield 15, 3) := by decide +kernel
theorem dX11_putSpecial_47 : decode cX11_putSpecial 47 = .ok (.iload_n 1, 1) := by decide +kernel
theorem dX11_putSpecial_48 : decode cX11_putSpecial 48 = .ok (.iconst 1, 1) := by decide +kernel
theorem dX11_putSpecial_49 : decode cX11_putSpecial 49 = .ok (.bastore, 1) := by decide +kernel
theorem dX11_putSpecial_50 : decode cX11_putSpecial 50 = .ok (.goto 75, 3) := by decide +kernel
theorem dX11_putSpecial_53 : decode cX11_putSpecial 53 = .ok (.aload_n 0, 1) := by decide +kernel
theorem dX11_putSpecial_54 : decode cX11_putSpecial 54 = .ok (.iload_n 1, 1) := by decide +kernel
theorem dX11_putSpecial_55 : decode cX11_putSpecial 55 = .ok (.ldc2_w 57, 3) := by decide +kernel
theorem dX11_putSpecial_58 : decode cX11_putSpecial 58 = .ok (.invokevirtual 195, 3) := by decide +kernel
theorem dX11_putSpecial_61 : decode cX11_putSpecial 61 = .ok (.goto 64, 3) := by decide +kernel
theorem dX11_putSpecial_64 : decode cX11_putSpecial 64 = .ok (.aload_n 0, 1) := by decide +kernel
theorem dX11_putSpecial_65 : decode cX11_putSpecial 65 = .ok (.iload_n 1, 1) := by decide +kernel
theorem dX11_putSpecial_66 : decode cX11_putSpecial 66 = .ok (.ldc2_w 59, 3) := by decide +kernel
theorem dX11_putSpecial_69 : decode cX11_putSpecial 69 = .ok (.invokevirtual 195, 3) := by decide +kernel
theorem dX11_putSpecial_72 : decode cX11_putSpecial 72 = .ok (.goto 53, 3) := by decide +kernel
theorem dX11_putSpecial_75 : decode cX11_putSpecial 75 = .ok (.aload_n 0, 1) := by decide +kernel
theorem dX11_putSpecial_76 : decode cX11_putSpecial 76 = .ok (.iload_n 1, 1) := by decide +kernel
theorem dX11_putSpecial_77 : decode cX11_putSpecial 77 = .ok (.ldc2_w 65, 3) := by decide +kernel
theorem dX11_putSpecial_80 : decode cX11_putSpecial 80 = .ok (.invokevirtual 195, 3) := by decide +kernel
theorem dX11_putSpecial_83 : decode cX11_putSpecial 83 = .ok (.goto 42, 3) := by decide +kernel
theorem dX11_putSpecial_86 : decode cX11_putSpecial 86 = .ok (.aload_n 0, 1) := by decide +kernel
theorem dX11_putSpecial_87 : decode cX11_putSpecial 87 = .ok (.iload_n 1, 1) := by decide +kernel
theorem dX11_putSpecial_88 : decode cX11_putSpecial 88 = .ok (.iload_n 3, 1) := by decide +kernel
theorem dX11_putSpecial_89 : decode cX11_putSpecial 89 = .ok (.ifCond .eq 9, 3) := by decide +kernel
theorem dX11_putSpecial_92 : decode cX11_putSpecial 92 = .ok (.ldc2_w 201, 3) := by decide +kernel
theorem dX11_putSpecial_95 : decode cX11_putSpecial 95 = .ok (.goto 6, 3) := by decide +kernel
theorem dX11_putSpecial_98 : decode cX11_putSpecial 98 = .ok (.ldc2_w 203, 3) := by decide +kernel
theorem dX11_putSpecial_101 : decode cX11_putSpecial 101 = .ok (.invokevirtual 195, 3) := by decide +kernel
theorem dX11_putSpecial_104 : decode cX11_putSpecial 104 = .ok (.goto 21, 3) := by decide +kernel
theorem dX11_putSpecial_107 : decode cX11_putSpecial 107 = .ok (.aload_n 0, 1) := by decide +kernel
theorem dX11_putSpecial_108 : decode cX11_putSpecial 108 = .ok (.iload_n 1, 1) := by decide +kernel
theorem dX11_putSpecial_109 : decode cX11_putSpecial 109 = .ok (.iload_n 3, 1) := by decide +kernel
theorem dX11_putSpecial_110 : decode cX11_putSpecial 110 = .ok (.ifCond .eq 9, 3) := by decide +kernel
theorem dX11_putSpecial_113 : decode cX11_putSpecial 113 = .ok (.ldc2_w 205, 3) := by decide +kernel
theorem dX11_putSpecial_116 : decode cX11_putSpecial 116 = .ok (.goto 6, 3) := by decide +kernel
theorem dX11_putSpecial_119 : decode cX11_putSpecial 119 = .ok (.ldc2_w 207, 3) := by decide +kernel
theorem dX11_putSpecial_122 : decode cX11_putSpecial 122 = .ok (.invokevirtual 195, 3) := by decide +kernel
theorem dX11_putSpecial_125 : decode cX11_putSpecial 125 = .ok (.return_, 1) := by decide +kernel
theorem dX11_set_0 : decode cX11_set 0 = .ok (.aload_n 0, 1) := by decide +kernel
theorem dX11_set_1 : decode cX11_set 1 = .ok (.iload_n 1, 1) := by decide +kernel
theorem dX11_set_2 : decode cX11_set 2 = .ok (.iload_n 2, 1) := by decide +kernel
theorem dX11_set_3 : decode cX11_set 3 = .ok (.invokevirtual 209, 3) := by decide +kernel
theorem dX11_set_6 : decode cX11_set 6 = .ok (.ifCond .eq 17, 3) := by decide +kernel
theorem dX11_set_9 : decode cX11_set 9 = .ok (.iload 4, 2) := by decide +kernel
theorem dX11_set_11 : decode cX11_set 11 = .ok (.sipush (-1000), 3) := by decide +kernel
theorem dX11_set_14 : decode cX11_set 14 = .ok (.sipush 900, 3) := by decide +kernel
theorem dX11_set_17 : decode cX11_set 17 = .ok (.invokestatic 191, 3) := by decide +kernel
theorem dX11_set_20 : decode cX11_set 20 = .ok (.ifCond .ne 5, 3) := by decide +kernel
theorem dX11_set_23 : decode cX11_set 23 = .ok (.iconst 0, 1) := by decide +kernel
theorem dX11_set_24 : decode cX11_set 24 = .ok (.ireturn, 1) := by decide +kernel
theorem dX11_set_25 : decode cX11_set 25 = .ok (.aload_n 0, 1) := by decide +kernel
theorem dX11_set_26 : decode cX11_set 26 = .ok (.invokevirtual 212, 3) := by decide +kernel
theorem dX11_set_29 : decode cX11_set 29 = .ok (.aload_n 0, 1) := by decide +kernel
theorem dX11_set_30 : decode cX11_set 30 = .ok (.bipush 16, 2) := by decide +kernel
theorem dX11_set_32 : decode cX11_set 32 = .ok (.iload_n 1, 1) := by decide +kernel
theorem dX11_set_33 : decode cX11_set 33 = .ok (.imul, 1) := by decide +kernel
theorem dX11_set_34 : decode cX11_set 34 = .ok (.iload_n 2, 1) := by decide +kernel
theorem dX11_set_35 : decode cX11_set 35 = .ok (.iadd, 1) := by decide +kernel
theorem dX11_set_36 : decode cX11_set 36 = .ok (.iload_n 3, 1) := by decide +kernel
theorem dX11_set_37 : decode cX11_set 37 = .ok (.iload 4, 2) := by decide +kernel
theorem dX11_set_39 : decode cX11_set 39 = .ok (.invokestatic 215, 3) := by decide +kernel
theorem dX11_set_42 : decode cX11_set 42 = .ok (.aload_n 0, 1) := by decide +kernel
theorem dX11_set_43 : decode cX11_set 43 = .ok (.getfield 19, 3) := by decide +kernel
theorem dX11_set_46 : decode cX11_set 46 = .ok (.iload_n 1, 1) := by decide +kernel
theorem dX11_set_47 : decode cX11_set 47 = .ok (.baload, 1) := by decide +kernel
theorem dX11_set_48 : decode cX11_set 48 = .ok (.invokestatic 132, 3) := by decide +kernel
theorem dX11_set_51 : decode cX11_set 51 = .ok (.invokevirtual 195, 3) := by decide +kernel
theorem dX11_set_54 : decode cX11_set 54 = .ok (.aload_n 0, 1) := by decide +kernel
theorem dX11_set_55 : decode cX11_set 55 = .ok (.invokevirtual 218, 3) := by decide +kernel
theorem dX11_set_58 : decode cX11_set 58 = .ok (.ireturn, 1) := by decide +kernel
theorem dX11_special_0 : decode cX11_special 0 = .ok (.aload_n 0, 1) := by decide +kernel
theorem dX11_special_1 : decode cX11_special 1 = .ok (.iload_n 1, 1) := by decide +kernel
theorem dX11_special_2 : decode cX11_special 2 = .ok (.iload_n 2, 1) := by decide +kernel
theorem dX11_special_3 : decode cX11_special 3 = .ok (.invokevirtual 209, 3) := by decide +kernel
theorem dX11_special_6 : decode cX11_special 6 = .ok (.ifCond .eq 12, 3) := by decide +kernel
theorem dX11_special_9 : decode cX11_special 9 = .ok (.iload_n 3, 1) := by decide +kernel
theorem dX11_special_10 : decode cX11_special 10 = .ok (.iconst 0, 1) := by decide +kernel
theorem dX11_special_11 : decode cX11_special 11 = .ok (.iconst 5, 1) := by decide +kernel
theorem dX11_special_12 : decode cX11_special 12 = .ok (.invokestatic 191, 3) := by decide +kernel
theorem dX11_special_15 : decode cX11_special 15 = .ok (.ifCond .ne 5, 3) := by decide +kernel
theorem dX11_special_18 : decode cX11_special 18 = .ok (.iconst 0, 1) := by decide +kernel
theorem dX11_special_19 : decode cX11_special 19 = .ok (.ireturn, 1) := by decide +kernel
theorem dX11_special_20 : decode cX11_special 20 = .ok (.aload_n 0, 1) := by decide +kernel
theorem dX11_special_21 : decode cX11_special 21 = .ok (.invokevirtual 212, 3) := by decide +kernel
theorem dX11_special_24 : decode cX11_special 24 = .ok (.aload_n 0, 1) := by decide +kernel
theorem dX11_special_25 : decode cX11_special 25 = .ok (.bipush 16, 2) := by decide +kernel
theorem dX11_special_27 : decode cX11_special 27 = .ok (.iload_n 1, 1) := by decide +kernel
theorem dX11_special_28 : decode cX11_special 28 = .ok (.imul, 1) := by decide +kernel
theorem dX11_special_29 : decode cX11_special 29 = .ok (.iload_n 2, 1) := by decide +kernel
theorem dX11_special_30 : decode cX11_special 30 = .ok (.iadd, 1) := by decide +kernel
theorem dX11_special_31 : decode cX11_special 31 = .ok (.iload_n 3, 1) := by decide +kernel
theorem dX11_special_32 : decode cX11_special 32 = .ok (.aload_n 0, 1) := by decide +kernel
theorem dX11_special_33 : decode cX11_special 33 = .ok (.getfield 19, 3) := by decide +kernel
theorem dX11_special_36 : decode cX11_special 36 = .ok (.iload_n 1, 1) := by decide +kernel
theorem dX11_special_37 : decode cX11_special 37 = .ok (.baload, 1) := by decide +kernel
theorem dX11_special_38 : decode cX11_special 38 = .ok (.invokevirtual 222, 3) := by decide +kernel
theorem dX11_special_41 : decode cX11_special 41 = .ok (.aload_n 0, 1) := by decide +kernel
theorem dX11_special_42 : decode cX11_special 42 = .ok (.invokevirtual 218, 3) := by decide +kernel
theorem dX11_special_45 : decode cX11_special 45 = .ok (.ireturn, 1) := by decide +kernel
theorem dX11_constant_0 : decode cX11_constant 0 = .ok (.iload_n 1, 1) := by decide +kernel
theorem dX11_constant_1 : decode cX11_constant 1 = .ok (.iconst 0, 1) := by decide +kernel
theorem dX11_constant_2 : decode cX11_constant 2 = .ok (.bipush 7, 2) := by decide +kernel
theorem dX11_constant_4 : decode cX11_constant 4 = .ok (.invokestatic 191, 3) := by decide +kernel
theorem dX11_constant_7 : decode cX11_constant 7 = .ok (.ifCond .eq 16, 3) := by decide +kernel
theorem dX11_constant_10 : decode cX11_constant 10 = .ok (.iload_n 3, 1) := by decide +kernel
theorem dX11_constant_11 : decode cX11_constant 11 = .ok (.sipush (-1000), 3) := by decide +kernel
theorem dX11_constant_14 : decode cX11_constant 14 = .ok (.sipush 900, 3) := by decide +kernel
theorem dX11_constant_17 : decode cX11_constant 17 = .ok (.invokestatic 191, 3) := by decide +kernel
theorem dX11_constant_20 : decode cX11_constant 20 = .ok (.ifCond .ne 5, 3) := by decide +kernel
theorem dX11_constant_23 : decode cX11_constant 23 = .ok (.iconst 0, 1) := by decide +kernel
theorem dX11_constant_24 : decode cX11_constant 24 = .ok (.ireturn, 1) := by decide +kernel
theorem dX11_constant_25 : decode cX11_constant 25 = .ok (.aload_n 0, 1) := by decide +kernel
theorem dX11_constant_26 : decode cX11_constant 26 = .ok (.invokevirtual 212, 3) := by decide +kernel
theorem dX11_constant_29 : decode cX11_constant 29 = .ok (.aload_n 0, 1) := by decide +kernel
theorem dX11_constant_30 : decode cX11_constant 30 = .ok (.sipush 192, 3) := by decide +kernel
theorem dX11_constant_33 : decode cX11_constant 33 = .ok (.iload_n 1, 1) := by decide +kernel
theorem dX11_constant_34 : decode cX11_constant 34 = .ok (.iadd, 1) := by decide +kernel
theorem dX11_constant_35 : decode cX11_constant 35 = .ok (.iload_n 2, 1) := by decide +kernel
theorem dX11_constant_36 : decode cX11_constant 36 = .ok (.iload_n 3, 1) := by decide +kernel
theorem dX11_constant_37 : decode cX11_constant 37 = .ok (.invokestatic 215, 3) := by decide +kernel
theorem dX11_constant_40 : decode cX11_constant 40 = .ok (.invokevirtual 195, 3) := by decide +kernel
theorem dX11_constant_43 : decode cX11_constant 43 = .ok (.aload_n 0, 1) := by decide +kernel
theorem dX11_constant_44 : decode cX11_constant 44 = .ok (.invokevirtual 218, 3) := by decide +kernel
theorem dX11_constant_47 : decode cX11_constant 47 = .ok (.ireturn, 1) := by decide +kernel
theorem dX11_constantSpecial_0 : decode cX11_constantSpecial 0 = .ok (.iload_n 1, 1) := by decide +kernel
theorem dX11_constantSpecial_1 : decode cX11_constantSpecial 1 = .ok (.iconst 0, 1) := by decide +kernel
theorem dX11_constantSpecial_2 : decode cX11_constantSpecial 2 = .ok (.bipush 7, 2) := by decide +kernel
theorem dX11_constantSpecial_4 : decode cX11_constantSpecial 4 = .ok (.invokestatic 191, 3) := by decide +kernel
theorem dX11_constantSpecial_7 : decode cX11_constantSpecial 7 = .ok (.ifCond .eq 12, 3) := by decide +kernel
theorem dX11_constantSpecial_10 : decode cX11_constantSpecial 10 = .ok (.iload_n 2, 1) := by decide +kernel
theorem dX11_constantSpecial_11 : decode cX11_constantSpecial 11 = .ok (.iconst 0, 1) := by decide +kernel
theorem dX11_constantSpecial_12 : decode cX11_constantSpecial 12 = .ok (.iconst 5, 1) := by decide +kernel
theorem dX11_constantSpecial_13 : decode cX11_constantSpecial 13 = .ok (.invokestatic 191, 3) := by decide +kernel
theorem dX11_constantSpecial_16 : decode cX11_constantSpecial 16 = .ok (.ifCond .ne 5, 3) := by decide +kernel
theorem dX11_constantSpecial_19 : decode cX11_constantSpecial 19 = .ok (.iconst 0, 1) := by decide +kernel
theorem dX11_constantSpecial_20 : decode cX11_constantSpecial 20 = .ok (.ireturn, 1) := by decide +kernel
theorem dX11_constantSpecial_21 : decode cX11_constantSpecial 21 = .ok (.aload_n 0, 1) := by decide +kernel
theorem dX11_constantSpecial_22 : decode cX11_constantSpecial 22 = .ok (.invokevirtual 212, 3) := by decide +kernel
theorem dX11_constantSpecial_25 : decode cX11_constantSpecial 25 = .ok (.aload_n 0, 1) := by decide +kernel
theorem dX11_constantSpecial_26 : decode cX11_constantSpecial 26 = .ok (.sipush 192, 3) := by decide +kernel
theorem dX11_constantSpecial_29 : decode cX11_constantSpecial 29 = .ok (.iload_n 1, 1) := by decide +kernel
theorem dX11_constantSpecial_30 : decode cX11_constantSpecial 30 = .ok (.iadd, 1) := by decide +kernel
theorem dX11_constantSpecial_31 : decode cX11_constantSpecial 31 = .ok (.iload_n 2, 1) := by decide +kernel
theorem dX11_constantSpecial_32 : decode cX11_constantSpecial 32 = .ok (.iconst 0, 1) := by decide +kernel
theorem dX11_constantSpecial_33 : decode cX11_constantSpecial 33 = .ok (.invokevirtual 222, 3) := by decide +kernel
theorem dX11_constantSpecial_36 : decode cX11_constantSpecial 36 = .ok (.aload_n 0, 1) := by decide +kernel
theorem dX11_constantSpecial_37 : decode cX11_constantSpecial 37 = .ok (.invokevirtual 218, 3) := by decide +kernel
theorem dX11_constantSpecial_40 : decode cX11_constantSpecial 40 = .ok (.ireturn, 1) := by decide +kernel
theorem dX11_formula_0 : decode cX11_formula 0 = .ok (.iload_n 1, 1) := by decide +kernel
theorem dX11_formula_1 : decode cX11_formula 1 = .ok (.iconst 0, 1) := by decide +kernel
theorem dX11_formula_2 : decode cX11_formula 2 = .ok (.bipush 11, 2) := by decide +kernel
theorem dX11_formula_4 : decode cX11_formula 4 = .ok (.invokestatic 191, 3) := by decide +kernel
theorem dX11_formula_7 : decode cX11_formula 7 = .ok (.ifCond .eq 63, 3) := by decide +kernel
theorem dX11_formula_10 : decode cX11_formula 10 = .ok (.iload_n 2, 1) := by decide +kernel
theorem dX11_formula_11 : decode cX11_formula 11 = .ok (.iconst 0, 1) := by decide +kernel
theorem dX11_formula_12 : decode cX11_formula 12 = .ok (.bipush 26, 2) := by decide +kernel
theorem dX11_formula_14 : decode cX11_formula 14 = .ok (.invokestatic 191, 3) := by decide +kernel
theorem dX11_formula_17 : decode cX11_formula 17 = .ok (.ifCond .eq 53, 3) := by decide +kernel
theorem dX11_formula_20 : decode cX11_formula 20 = .ok (.iload_n 3, 1) := by decide +kernel
theorem dX11_formula_21 : decode cX11_formula 21 = .ok (.iconst 0, 1) := by decide +kernel
theorem dX11_formula_22 : decode cX11_formula 22 = .ok (.iload_n 1, 1) := by decide +kernel
theorem dX11_formula_23 : decode cX11_formula 23 = .ok (.iconst 1, 1) := by decide +kernel
theorem dX11_formula_24 : decode cX11_formula 24 = .ok (.isub, 1) := by decide +kernel
theorem dX11_formula_25 : decode cX11_formula 25 = .ok (.invokestatic 191, 3) := by decide +kernel
theorem dX11_formula_28 : decode cX11_formula 28 = .ok (.ifCond .eq 42, 3) := by decide +kernel
theorem dX11_formula_31 : decode cX11_formula 31 = .ok (.iload 4, 2) := by decide +kernel
theorem dX11_formula_33 : decode cX11_formula 33 = .ok (.iconst 0, 1) := by decide +kernel
theorem dX11_formula_34 : decode cX11_formula 34 = .ok (.iload_n 1, 1) := by decide +kernel
theorem dX11_formula_35 : decode cX11_formula 35 = .ok (.iconst 1, 1) := by decide +kernel
theorem dX11_formula_36 : decode cX11_formula 36 = .ok (.isub, 1) := by decide +kernel
theorem dX11_formula_37 : decode cX11_formula 37 = .ok (.invokestatic 191, 3) := by decide +kernel
theorem dX11_formula_40 : decode cX11_formula 40 = .ok (.ifCond .ne 15, 3) := by decide +kernel
theorem dX11_formula_43 : decode cX11_formula 43 = .ok (.iload 4, 2) := by decide +kernel
theorem dX11_formula_45 : decode cX11_formula 45 = .ok (.bipush 16, 2) := by decide +kernel
theorem dX11_formula_47 : decode cX11_formula 47 = .ok (.bipush 23, 2) := by decide +kernel
theorem dX11_formula_49 : decode cX11_formula 49 = .ok (.invokestatic 191, 3) := by decide +kernel
theorem dX11_formula_52 : decode cX11_formula 52 = .ok (.ifCond .eq 18, 3) := by decide +kernel
theorem dX11_formula_55 : decode cX11_formula 55 = .ok (.iload 5, 2) := by decide +kernel
theorem dX11_formula_57 : decode cX11_formula 57 = .ok (.iconst 0, 1) := by decide +kernel
theorem dX11_formula_58 : decode cX11_formula 58 = .ok (.bipush 11, 2) := by decide +kernel
theorem dX11_formula_60 : decode cX11_formula 60 = .ok (.invokestatic 191, 3) := by decide +kernel
theorem dX11_formula_63 : decode cX11_formula 63 = .ok (.ifCond .eq 7, 3) := by decide +kernel
theorem dX11_formula_66 : decode cX11_formula 66 = .ok (.iconst 1, 1) := by decide +kernel
theorem dX11_formula_67 : decode cX11_formula 67 = .ok (.goto 4, 3) := by decide +kernel
theorem dX11_formula_70 : decode cX11_formula 70 = .ok (.iconst 0, 1) := by decide +kernel
theorem dX11_formula_71 : decode cX11_formula 71 = .ok (.istore 6, 2) := by decide +kernel
theorem dX11_formula_73 : decode cX11_formula 73 = .ok (.iload 6, 2) := by decide +kernel
theorem dX11_formula_75 : decode cX11_formula 75 = .ok (.ifCond .ne 5, 3) := by decide +kernel
theorem dX11_formula_78 : decode cX11_formula 78 = .ok (.iconst 0, 1) := by decide +kernel
theorem dX11_formula_79 : decode cX11_formula 79 = .ok (.ireturn, 1) := by decide +kernel
theorem dX11_formula_80 : decode cX11_formula 80 = .ok (.aload_n 0, 1) := by decide +kernel
theorem dX11_formula_81 : decode cX11_formula 81 = .ok (.invokevirtual 212, 3) := by decide +kernel
theorem dX11_formula_84 : decode cX11_formula 84 = .ok (.aload_n 0, 1) := by decide +kernel
theorem dX11_formula_85 : decode cX11_formula 85 = .ok (.getfield 22, 3) := by decide +kernel
theorem dX11_formula_88 : decode cX11_formula 88 = .ok (.iconst 4, 1) := by decide +kernel
theorem dX11_formula_89 : decode cX11_formula 89 = .ok (.iload_n 1, 1) := by decide +kernel
theorem dX11_formula_90 : decode cX11_formula 90 = .ok (.imul, 1) := by decide +kernel
theorem dX11_formula_91 : decode cX11_formula 91 = .ok (.iload_n 2, 1) := by decide +kernel
theorem dX11_formula_92 : decode cX11_formula 92 = .ok (.iastore, 1) := by decide +kernel
theorem dX11_formula_93 : decode cX11_formula 93 = .ok (.aload_n 0, 1) := by decide +kernel
theorem dX11_formula_94 : decode cX11_formula 94 = .ok (.getfield 22, 3) := by decide +kernel
theorem dX11_formula_97 : decode cX11_formula 97 = .ok (.iconst 4, 1) := by decide +kernel
theorem dX11_formula_98 : decode cX11_formula 98 = .ok (.iload_n 1, 1) := by decide +kernel
theorem dX11_formula_99 : decode cX11_formula 99 = .ok (.imul, 1) := by decide +kernel
theorem dX11_formula_100 : decode cX11_formula 100 = .ok (.iconst 1, 1) := by decide +kernel
theorem dX11_formula_101 : decode cX11_formula 101 = .ok (.iadd, 1) := by decide +kernel
theorem dX11_formula_102 : decode cX11_formula 102 = .ok (.iload_n 3, 1) := by decide +kernel
theorem dX11_formula_103 : decode cX11_formula 103 = .ok (.iastore, 1) := by decide +kernel
theorem dX11_formula_104 : decode cX11_formula 104 = .ok (.aload_n 0, 1) := by decide +kernel
theorem dX11_formula_105 : decode cX11_formula 105 = .ok (.getfield 22, 3) := by decide +kernel
theorem dX11_formula_108 : decode cX11_formula 108 = .ok (.iconst 4, 1) := by decide +kernel
theorem dX11_formula_109 : decode cX11_formula 109 = .ok (.iload_n 1, 1) := by decide +kernel
theorem dX11_formula_110 : decode cX11_formula 110 = .ok (.imul, 1) := by decide +kernel
theorem dX11_formula_111 : decode cX11_formula 111 = .ok (.iconst 2, 1) := by decide +kernel
theorem dX11_formula_112 : decode cX11_formula 112 = .ok (.iadd, 1) := by decide +kernel
theorem dX11_formula_113 : decode cX11_formula 113 = .ok (.iload 4, 2) := by decide +kernel
theorem dX11_formula_115 : decode cX11_formula 115 = .ok (.iastore, 1) := by decide +kernel
theorem dX11_formula_116 : decode cX11_formula 116 = .ok (.aload_n 0, 1) := by decide +kernel
theorem dX11_formula_117 : decode cX11_formula 117 = .ok (.getfield 22, 3) := by decide +kernel
theorem dX11_formula_120 : decode cX11_formula 120 = .ok (.iconst 4, 1) := by decide +kernel
theorem dX11_formula_121 : decode cX11_formula 121 = .ok (.iload_n 1, 1) := by decide +kernel
theorem dX11_formula_122 : decode cX11_formula 122 = .ok (.imul, 1) := by decide +kernel
theorem dX11_formula_123 : decode cX11_formula 123 = .ok (.iconst 3, 1) := by decide +kernel
theorem dX11_formula_124 : decode cX11_formula 124 = .ok (.iadd, 1) := by decide +kernel
theorem dX11_formula_125 : decode cX11_formula 125 = .ok (.iload 5, 2) := by decide +kernel
theorem dX11_formula_127 : decode cX11_formula 127 = .ok (.iastore, 1) := by decide +kernel
theorem dX11_formula_128 : decode cX11_formula 128 = .ok (.aload_n 0, 1) := by decide +kernel
theorem dX11_formula_129 : decode cX11_formula 129 = .ok (.invokevirtual 218, 3) := by decide +kernel
theorem dX11_formula_132 : decode cX11_formula 132 = .ok (.ireturn, 1) := by decide +kernel
theorem dX11_input_0 : decode cX11_input 0 = .ok (.iload_n 1, 1) := by decide +kernel
theorem dX11_input_1 : decode cX11_input 1 = .ok (.iconst 0, 1) := by decide +kernel
theorem dX11_input_2 : decode cX11_input 2 = .ok (.bipush 11, 2) := by decide +kernel
theorem dX11_input_4 : decode cX11_input 4 = .ok (.invokestatic 191, 3) := by decide +kernel
theorem dX11_input_7 : decode cX11_input 7 = .ok (.ifCond .eq 14, 3) := by decide +kernel
theorem dX11_input_10 : decode cX11_input 10 = .ok (.aload_n 0, 1) := by decide +kernel
theorem dX11_input_11 : decode cX11_input 11 = .ok (.getfield 22, 3) := by decide +kernel
theorem dX11_input_14 : decode cX11_input 14 = .ok (.iconst 4, 1) := by decide +kernel
theorem dX11_input_15 : decode cX11_input 15 = .ok (.iload_n 1, 1) := by decide +kernel
theorem dX11_input_16 : decode cX11_input 16 = .ok (.imul, 1) := by decide +kernel
theorem dX11_input_17 : decode cX11_input 17 = .ok (.iaload, 1) := by decide +kernel
theorem dX11_input_18 : decode cX11_input 18 = .ok (.ifCond .ge 5, 3) := by decide +kernel
theorem dX11_input_21 : decode cX11_input 21 = .ok (.iconst 0, 1) := by decide +kernel
theorem dX11_input_22 : decode cX11_input 22 = .ok (.ireturn, 1) := by decide +kernel
theorem dX11_input_23 : decode cX11_input 23 = .ok (.aload_n 0, 1) := by decide +kernel
theorem dX11_input_24 : decode cX11_input 24 = .ok (.invokevirtual 212, 3) := by decide +kernel
theorem dX11_input_27 : decode cX11_input 27 = .ok (.aload_n 0, 1) := by decide +kernel
theorem dX11_input_28 : decode cX11_input 28 = .ok (.invokevirtual 226, 3) := by decide +kernel
theorem dX11_input_31 : decode cX11_input 31 = .ok (.bipush 16, 2) := by decide +kernel
theorem dX11_input_33 : decode cX11_input 33 = .ok (.iload_n 1, 1) := by decide +kernel
theorem dX11_input_34 : decode cX11_input 34 = .ok (.imul, 1) := by decide +kernel
theorem dX11_input_35 : decode cX11_input 35 = .ok (.istore_n 2, 1) := by decide +kernel
theorem dX11_input_36 : decode cX11_input 36 = .ok (.iload_n 2, 1) := by decide +kernel
theorem dX11_input_37 : decode cX11_input 37 = .ok (.bipush 16, 2) := by decide +kernel
theorem dX11_input_39 : decode cX11_input 39 = .ok (.iload_n 1, 1) := by decide +kernel
theorem dX11_input_40 : decode cX11_input 40 = .ok (.imul, 1) := by decide +kernel
theorem dX11_input_41 : decode cX11_input 41 = .ok (.bipush 16, 2) := by decide +kernel
theorem dX11_input_43 : decode cX11_input 43 = .ok (.iadd, 1) := by decide +kernel
theorem dX11_input_44 : decode cX11_input 44 = .ok (.if_icmp .ge 33, 3) := by decide +kernel
theorem dX11_input_47 : decode cX11_input 47 = .ok (.aload_n 0, 1) := by decide +kernel
theorem dX11_input_48 : decode cX11_input 48 = .ok (.getfield 9, 3) := by decide +kernel
theorem dX11_input_51 : decode cX11_input 51 = .ok (.iload_n 2, 1) := by decide +kernel
theorem dX11_input_52 : decode cX11_input 52 = .ok (.aload_n 0, 1) := by decide +kernel
theorem dX11_input_53 : decode cX11_input 53 = .ok (.getfield 26, 3) := by decide +kernel
theorem dX11_input_56 : decode cX11_input 56 = .ok (.iload_n 2, 1) := by decide +kernel
theorem dX11_input_57 : decode cX11_input 57 = .ok (.daload, 1) := by decide +kernel
theorem dX11_input_58 : decode cX11_input 58 = .ok (.dastore, 1) := by decide +kernel
theorem dX11_input_59 : decode cX11_input 59 = .ok (.aload_n 0, 1) := by decide +kernel
theorem dX11_input_60 : decode cX11_input 60 = .ok (.getfield 15, 3) := by decide +kernel
theorem dX11_input_63 : decode cX11_input 63 = .ok (.iload_n 2, 1) := by decide +kernel
theorem dX11_input_64 : decode cX11_input 64 = .ok (.aload_n 0, 1) := by decide +kernel
theorem dX11_input_65 : decode cX11_input 65 = .ok (.getfield 29, 3) := by decide +kernel
theorem dX11_input_68 : decode cX11_input 68 = .ok (.iload_n 2, 1) := by decide +kernel
theorem dX11_input_69 : decode cX11_input 69 = .ok (.baload, 1) := by decide +kernel
theorem dX11_input_70 : decode cX11_input 70 = .ok (.bastore, 1) := by decide +kernel
theorem dX11_input_71 : decode cX11_input 71 = .ok (.iinc 2 1, 3) := by decide +kernel
theorem dX11_input_74 : decode cX11_input 74 = .ok (.goto (-38), 3) := by decide +kernel
theorem dX11_input_77 : decode cX11_input 77 = .ok (.aload_n 0, 1) := by decide +kernel
theorem dX11_input_78 : decode cX11_input 78 = .ok (.getfield 22, 3) := by decide +kernel
theorem dX11_input_81 : decode cX11_input 81 = .ok (.iconst 4, 1) := by decide +kernel
theorem dX11_input_82 : decode cX11_input 82 = .ok (.iload_n 1, 1) := by decide +kernel
theorem dX11_input_83 : decode cX11_input 83 = .ok (.imul, 1) := by decide +kernel
theorem dX11_input_84 : decode cX11_input 84 = .ok (.iconst (-1), 1) := by decide +kernel
theorem dX11_input_85 : decode cX11_input 85 = .ok (.iastore, 1) := by decide +kernel
theorem dX11_input_86 : decode cX11_input 86 = .ok (.aload_n 0, 1) := by decide +kernel
theorem dX11_input_87 : decode cX11_input 87 = .ok (.invokevirtual 218, 3) := by decide +kernel
theorem dX11_input_90 : decode cX11_input 90 = .ok (.ireturn, 1) := by decide +kernel
theorem dX11_width_0 : decode cX11_width 0 = .ok (.iload_n 1, 1) := by decide +kernel
theorem dX11_width_1 : decode cX11_width 1 = .ok (.iconst 0, 1) := by decide +kernel
theorem dX11_width_2 : decode cX11_width 2 = .ok (.bipush 11, 2) := by decide +kernel
theorem dX11_width_4 : decode cX11_width 4 = .ok (.invokestatic 191, 3) := by decide +kernel
theorem dX11_width_7 : decode cX11_width 7 = .ok (.ifCond .eq 13, 3) := by decide +kernel
theorem dX11_width_10 : decode cX11_width 10 = .ok (.aload_n 0, 1) := by decide +kernel
theorem dX11_width_11 : decode cX11_width 11 = .ok (.getfield 19, 3) := by decide +kernel
theorem dX11_width_14 : decode cX11_width 14 = .ok (.iload_n 1, 1) := by decide +kernel
theorem dX11_width_15 : decode cX11_width 15 = .ok (.baload, 1) := by decide +kernel
theorem dX11_width_16 : decode cX11_width 16 = .ok (.iload_n 2, 1) := by decide +kernel
theorem dX11_width_17 : decode cX11_width 17 = .ok (.if_icmp .ne 5, 3) := by decide +kernel
theorem dX11_width_20 : decode cX11_width 20 = .ok (.iconst 0, 1) := by decide +kernel
theorem dX11_width_21 : decode cX11_width 21 = .ok (.ireturn, 1) := by decide +kernel
theorem dX11_width_22 : decode cX11_width 22 = .ok (.aload_n 0, 1) := by decide +kernel
theorem dX11_width_23 : decode cX11_width 23 = .ok (.invokevirtual 212, 3) := by decide +kernel
theorem dX11_width_26 : decode cX11_width 26 = .ok (.aload_n 0, 1) := by decide +kernel
theorem dX11_width_27 : decode cX11_width 27 = .ok (.getfield 19, 3) := by decide +kernel
theorem dX11_width_30 : decode cX11_width 30 = .ok (.iload_n 1, 1) := by decide +kernel
theorem dX11_width_31 : decode cX11_width 31 = .ok (.iload_n 2, 1) := by decide +kernel
theorem dX11_width_32 : decode cX11_width 32 = .ok (.bastore, 1) := by decide +kernel
theorem dX11_width_33 : decode cX11_width 33 = .ok (.bipush 16, 2) := by decide +kernel
theorem dX11_width_35 : decode cX11_width 35 = .ok (.iload_n 1, 1) := by decide +kernel
theorem dX11_width_36 : decode cX11_width 36 = .ok (.imul, 1) := by decide +kernel
theorem dX11_width_37 : decode cX11_width 37 = .ok (.istore_n 3, 1) := by decide +kernel
theorem dX11_width_38 : decode cX11_width 38 = .ok (.iload_n 3, 1) := by decide +kernel
theorem dX11_width_39 : decode cX11_width 39 = .ok (.bipush 16, 2) := by decide +kernel
theorem dX11_width_41 : decode cX11_width 41 = .ok (.iload_n 1, 1) := by decide +kernel
theorem dX11_width_42 : decode cX11_width 42 = .ok (.imul, 1) := by decide +kernel
theorem dX11_width_43 : decode cX11_width 43 = .ok (.bipush 16, 2) := by decide +kernel
theorem dX11_width_45 : decode cX11_width 45 = .ok (.iadd, 1) := by decide +kernel
theorem dX11_width_46 : decode cX11_width 46 = .ok (.if_icmp .ge 25, 3) := by decide +kernel
theorem dX11_width_49 : decode cX11_width 49 = .ok (.aload_n 0, 1) := by decide +kernel
theorem dX11_width_50 : decode cX11_width 50 = .ok (.getfield 9, 3) := by decide +kernel
theorem dX11_width_53 : decode cX11_width 53 = .ok (.iload_n 3, 1) := by decide +kernel
theorem dX11_width_54 : decode cX11_width 54 = .ok (.aload_n 0, 1) := by decide +kernel
theorem dX11_width_55 : decode cX11_width 55 = .ok (.getfield 9, 3) := by decide +kernel
theorem dX11_width_58 : decode cX11_width 58 = .ok (.iload_n 3, 1) := by decide +kernel
theorem dX11_width_59 : decode cX11_width 59 = .ok (.daload, 1) := by decide +kernel
theorem dX11_width_60 : decode cX11_width 60 = .ok (.iload_n 2, 1) := by decide +kernel
theorem dX11_width_61 : decode cX11_width 61 = .ok (.invokestatic 132, 3) := by decide +kernel
theorem dX11_width_64 : decode cX11_width 64 = .ok (.dastore, 1) := by decide +kernel
theorem dX11_width_65 : decode cX11_width 65 = .ok (.iinc 3 1, 3) := by decide +kernel
theorem dX11_width_68 : decode cX11_width 68 = .ok (.goto (-30), 3) := by decide +kernel
theorem dX11_width_71 : decode cX11_width 71 = .ok (.aload_n 0, 1) := by decide +kernel
theorem dX11_width_72 : decode cX11_width 72 = .ok (.invokevirtual 218, 3) := by decide +kernel
theorem dX11_width_75 : decode cX11_width 75 = .ok (.ireturn, 1) := by decide +kernel
theorem dX11_alarm_0 : decode cX11_alarm 0 = .ok (.iload_n 1, 1) := by decide +kernel
theorem dX11_alarm_1 : decode cX11_alarm 1 = .ok (.iconst 0, 1) := by decide +kernel
theorem dX11_alarm_2 : decode cX11_alarm 2 = .ok (.bipush 11, 2) := by decide +kernel
theorem dX11_alarm_4 : decode cX11_alarm 4 = .ok (.invokestatic 191, 3) := by decide +kernel
theorem dX11_alarm_7 : decode cX11_alarm 7 = .ok (.ifCond .eq 43, 3) := by decide +kernel
theorem dX11_alarm_10 : decode cX11_alarm 10 = .ok (.iload_n 2, 1) := by decide +kernel
theorem dX11_alarm_11 : decode cX11_alarm 11 = .ok (.iconst 0, 1) := by decide +kernel
theorem dX11_alarm_12 : decode cX11_alarm 12 = .ok (.bipush 11, 2) := by decide +kernel
theorem dX11_alarm_14 : decode cX11_alarm 14 = .ok (.invokestatic 191, 3) := by decide +kernel
theorem dX11_alarm_17 : decode cX11_alarm 17 = .ok (.ifCond .eq 33, 3) := by decide +kernel
theorem dX11_alarm_20 : decode cX11_alarm 20 = .ok (.iload_n 3, 1) := by decide +kernel
theorem dX11_alarm_21 : decode cX11_alarm 21 = .ok (.iconst 0, 1) := by decide +kernel
theorem dX11_alarm_22 : decode cX11_alarm 22 = .ok (.bipush 11, 2) := by decide +kernel
theorem dX11_alarm_24 : decode cX11_alarm 24 = .ok (.invokestatic 191, 3) := by decide +kernel
theorem dX11_alarm_27 : decode cX11_alarm 27 = .ok (.ifCond .ne 14, 3) := by decide +kernel
theorem dX11_alarm_30 : decode cX11_alarm 30 = .ok (.iload_n 3, 1) := by decide +kernel
theorem dX11_alarm_31 : decode cX11_alarm 31 = .ok (.bipush 16, 2) := by decide +kernel
theorem dX11_alarm_33 : decode cX11_alarm 33 = .ok (.bipush 23, 2) := by decide +kernel
theorem dX11_alarm_35 : decode cX11_alarm 35 = .ok (.invokestatic 191, 3) := by decide +kernel
theorem dX11_alarm_38 : decode cX11_alarm 38 = .ok (.ifCond .eq 12, 3) := by decide +kernel
theorem dX11_alarm_41 : decode cX11_alarm 41 = .ok (.aload_n 0, 1) := by decide +kernel
theorem dX11_alarm_42 : decode cX11_alarm 42 = .ok (.getfield 229, 3) := by decide +kernel
theorem dX11_alarm_45 : decode cX11_alarm 45 = .ok (.bipush 10, 2) := by decide +kernel
theorem dX11_alarm_47 : decode cX11_alarm 47 = .ok (.if_icmp .ne 5, 3) := by decide +kernel
theorem dX11_alarm_50 : decode cX11_alarm 50 = .ok (.iconst (-1), 1) := by decide +kernel
theorem dX11_alarm_51 : decode cX11_alarm 51 = .ok (.ireturn, 1) := by decide +kernel
theorem dX11_alarm_52 : decode cX11_alarm 52 = .ok (.aload_n 0, 1) := by decide +kernel
theorem dX11_alarm_53 : decode cX11_alarm 53 = .ok (.getfield 45, 3) := by decide +kernel
theorem dX11_alarm_56 : decode cX11_alarm 56 = .ok (.iconst 3, 1) := by decide +kernel
theorem dX11_alarm_57 : decode cX11_alarm 57 = .ok (.aload_n 0, 1) := by decide +kernel
theorem dX11_alarm_58 : decode cX11_alarm 58 = .ok (.getfield 229, 3) := by decide +kernel
theorem dX11_alarm_61 : decode cX11_alarm 61 = .ok (.imul, 1) := by decide +kernel
theorem dX11_alarm_62 : decode cX11_alarm 62 = .ok (.iload_n 1, 1) := by decide +kernel
theorem dX11_alarm_63 : decode cX11_alarm 63 = .ok (.iastore, 1) := by decide +kernel
theorem dX11_alarm_64 : decode cX11_alarm 64 = .ok (.aload_n 0, 1) := by decide +kernel
theorem dX11_alarm_65 : decode cX11_alarm 65 = .ok (.getfield 45, 3) := by decide +kernel
theorem dX11_alarm_68 : decode cX11_alarm 68 = .ok (.iconst 3, 1) := by decide +kernel
theorem dX11_alarm_69 : decode cX11_alarm 69 = .ok (.aload_n 0, 1) := by decide +kernel
theorem dX11_alarm_70 : decode cX11_alarm 70 = .ok (.getfield 229, 3) := by decide +kernel
theorem dX11_alarm_73 : decode cX11_alarm 73 = .ok (.imul, 1) := by decide +kernel
theorem dX11_alarm_74 : decode cX11_alarm 74 = .ok (.iconst 1, 1) := by decide +kernel
theorem dX11_alarm_75 : decode cX11_alarm 75 = .ok (.iadd, 1) := by decide +kernel
theorem dX11_alarm_76 : decode cX11_alarm 76 = .ok (.iload_n 2, 1) := by decide +kernel
theorem dX11_alarm_77 : decode cX11_alarm 77 = .ok (.iastore, 1) := by decide +kernel
theorem dX11_alarm_78 : decode cX11_alarm 78 = .ok (.aload_n 0, 1) := by decide +kernel
theorem dX11_alarm_79 : decode cX11_alarm 79 = .ok (.getfield 45, 3) := by decide +kernel
theorem dX11_alarm_82 : decode cX11_alarm 82 = .ok (.iconst 3, 1) := by decide +kernel
theorem dX11_alarm_83 : decode cX11_alarm 83 = .ok (.aload_n 0, 1) := by decide +kernel
theorem dX11_alarm_84 : decode cX11_alarm 84 = .ok (.getfield 229, 3) := by decide +kernel
theorem dX11_alarm_87 : decode cX11_alarm 87 = .ok (.imul, 1) := by decide +kernel
theorem dX11_alarm_88 : decode cX11_alarm 88 = .ok (.iconst 2, 1) := by decide +kernel
theorem dX11_alarm_89 : decode cX11_alarm 89 = .ok (.iadd, 1) := by decide +kernel
theorem dX11_alarm_90 : decode cX11_alarm 90 = .ok (.iload_n 3, 1) := by decide +kernel
theorem dX11_alarm_91 : decode cX11_alarm 91 = .ok (.iastore, 1) := by decide +kernel
theorem dX11_alarm_92 : decode cX11_alarm 92 = .ok (.aload_n 0, 1) := by decide +kernel
theorem dX11_alarm_93 : decode cX11_alarm 93 = .ok (.dup, 1) := by decide +kernel
theorem dX11_alarm_94 : decode cX11_alarm 94 = .ok (.getfield 229, 3) := by decide +kernel
theorem dX11_alarm_97 : decode cX11_alarm 97 = .ok (.iconst 1, 1) := by decide +kernel
theorem dX11_alarm_98 : decode cX11_alarm 98 = .ok (.iadd, 1) := by decide +kernel
theorem dX11_alarm_99 : decode cX11_alarm 99 = .ok (.putfield 229, 3) := by decide +kernel
theorem dX11_alarm_102 : decode cX11_alarm 102 = .ok (.aload_n 0, 1) := by decide +kernel
theorem dX11_alarm_103 : decode cX11_alarm 103 = .ok (.getfield 229, 3) := by decide +kernel
theorem dX11_alarm_106 : decode cX11_alarm 106 = .ok (.iconst 1, 1) := by decide +kernel
theorem dX11_alarm_107 : decode cX11_alarm 107 = .ok (.isub, 1) := by decide +kernel
theorem dX11_alarm_108 : decode cX11_alarm 108 = .ok (.ireturn, 1) := by decide +kernel
theorem dX11_holds_0 : decode cX11_holds 0 = .ok (.aload_n 0, 1) := by decide +kernel
theorem dX11_holds_1 : decode cX11_holds 1 = .ok (.getfield 45, 3) := by decide +kernel
theorem dX11_holds_4 : decode cX11_holds 4 = .ok (.iconst 3, 1) := by decide +kernel
theorem dX11_holds_5 : decode cX11_holds 5 = .ok (.iload_n 1, 1) := by decide +kernel
theorem dX11_holds_6 : decode cX11_holds 6 = .ok (.imul, 1) := by decide +kernel
theorem dX11_holds_7 : decode cX11_holds 7 = .ok (.iaload, 1) := by decide +kernel
theorem dX11_holds_8 : decode cX11_holds 8 = .ok (.iload_n 2, 1) := by decide +kernel
theorem dX11_holds_9 : decode cX11_holds 9 = .ok (.invokestatic 128, 3) := by decide +kernel
theorem dX11_holds_12 : decode cX11_holds 12 = .ok (.istore_n 3, 1) := by decide +kernel
theorem dX11_holds_13 : decode cX11_holds 13 = .ok (.aload_n 0, 1) := by decide +kernel
theorem dX11_holds_14 : decode cX11_holds 14 = .ok (.getfield 45, 3) := by decide +kernel
theorem dX11_holds_17 : decode cX11_holds 17 = .ok (.iconst 3, 1) := by decide +kernel
theorem dX11_holds_18 : decode cX11_holds 18 = .ok (.iload_n 1, 1) := by decide +kernel
theorem dX11_holds_19 : decode cX11_holds 19 = .ok (.imul, 1) := by decide +kernel
theorem dX11_holds_20 : decode cX11_holds 20 = .ok (.iconst 2, 1) := by decide +kernel
theorem dX11_holds_21 : decode cX11_holds 21 = .ok (.iadd, 1) := by decide +kernel
theorem dX11_holds_22 : decode cX11_holds 22 = .ok (.iaload, 1) := by decide +kernel
theorem dX11_holds_23 : decode cX11_holds 23 = .ok (.iload_n 2, 1) := by decide +kernel
theorem dX11_holds_24 : decode cX11_holds 24 = .ok (.invokestatic 128, 3) := by decide +kernel
theorem dX11_holds_27 : decode cX11_holds 27 = .ok (.istore 4, 2) := by decide +kernel
theorem dX11_holds_29 : decode cX11_holds 29 = .ok (.aload_n 0, 1) := by decide +kernel
theorem dX11_holds_30 : decode cX11_holds 30 = .ok (.getfield 45, 3) := by decide +kernel
theorem dX11_holds_33 : decode cX11_holds 33 = .ok (.iconst 3, 1) := by decide +kernel
theorem dX11_holds_34 : decode cX11_holds 34 = .ok (.iload_n 1, 1) := by decide +kernel
theorem dX11_holds_35 : decode cX11_holds 35 = .ok (.imul, 1) := by decide +kernel
theorem dX11_holds_36 : decode cX11_holds 36 = .ok (.iconst 1, 1) := by decide +kernel
theorem dX11_holds_37 : decode cX11_holds 37 = .ok (.iadd, 1) := by decide +kernel
theorem dX11_holds_38 : decode cX11_holds 38 = .ok (.iaload, 1) := by decide +kernel
theorem dX11_holds_39 : decode cX11_holds 39 = .ok (.aload_n 0, 1) := by decide +kernel
theorem dX11_holds_40 : decode cX11_holds 40 = .ok (.getfield 26, 3) := by decide +kernel
theorem dX11_holds_43 : decode cX11_holds 43 = .ok (.iload_n 3, 1) := by decide +kernel
theorem dX11_holds_44 : decode cX11_holds 44 = .ok (.daload, 1) := by decide +kernel
theorem dX11_holds_45 : decode cX11_holds 45 = .ok (.aload_n 0, 1) := by decide +kernel
theorem dX11_holds_46 : decode cX11_holds 46 = .ok (.getfield 29, 3) := by decide +kernel
theorem dX11_holds_49 : decode cX11_holds 49 = .ok (.iload_n 3, 1) := by decide +kernel
theorem dX11_holds_50 : decode cX11_holds 50 = .ok (.baload, 1) := by decide +kernel
theorem dX11_holds_51 : decode cX11_holds 51 = .ok (.aload_n 0, 1) := by decide +kernel
theorem dX11_holds_52 : decode cX11_holds 52 = .ok (.getfield 26, 3) := by decide +kernel
theorem dX11_holds_55 : decode cX11_holds 55 = .ok (.iload 4, 2) := by decide +kernel
theorem dX11_holds_57 : decode cX11_holds 57 = .ok (.daload, 1) := by decide +kernel
theorem dX11_holds_58 : decode cX11_holds 58 = .ok (.aload_n 0, 1) := by decide +kernel
theorem dX11_holds_59 : decode cX11_holds 59 = .ok (.getfield 29, 3) := by decide +kernel
theorem dX11_holds_62 : decode cX11_holds 62 = .ok (.iload 4, 2) := by decide +kernel
theorem dX11_holds_64 : decode cX11_holds 64 = .ok (.baload, 1) := by decide +kernel
theorem dX11_holds_65 : decode cX11_holds 65 = .ok (.invokestatic 150, 3) := by decide +kernel
theorem dX11_holds_68 : decode cX11_holds 68 = .ok (.ireturn, 1) := by decide +kernel
theorem dX11_manyBits_0 : decode cX11_manyBits 0 = .ok (.iconst 0, 1) := by decide +kernel
theorem dX11_manyBits_1 : decode cX11_manyBits 1 = .ok (.istore_n 1, 1) := by decide +kernel
theorem dX11_manyBits_2 : decode cX11_manyBits 2 = .ok (.iconst 0, 1) := by decide +kernel
theorem dX11_manyBits_3 : decode cX11_manyBits 3 = .ok (.istore_n 2, 1) := by decide +kernel
theorem dX11_manyBits_4 : decode cX11_manyBits 4 = .ok (.iload_n 2, 1) := by decide +kernel
theorem dX11_manyBits_5 : decode cX11_manyBits 5 = .ok (.bipush 16, 2) := by decide +kernel
theorem dX11_manyBits_7 : decode cX11_manyBits 7 = .ok (.if_icmp .ge 17, 3) := by decide +kernel
theorem dX11_manyBits_10 : decode cX11_manyBits 10 = .ok (.iload_n 1, 1) := by decide +kernel
theorem dX11_manyBits_11 : decode cX11_manyBits 11 = .ok (.iload_n 0, 1) := by decide +kernel
theorem dX11_manyBits_12 : decode cX11_manyBits 12 = .ok (.iload_n 2, 1) := by decide +kernel
theorem dX11_manyBits_13 : decode cX11_manyBits 13 = .ok (.ishr, 1) := by decide +kernel
theorem dX11_manyBits_14 : decode cX11_manyBits 14 = .ok (.iconst 1, 1) := by decide +kernel
theorem dX11_manyBits_15 : decode cX11_manyBits 15 = .ok (.iand, 1) := by decide +kernel
theorem dX11_manyBits_16 : decode cX11_manyBits 16 = .ok (.iadd, 1) := by decide +kernel
theorem dX11_manyBits_17 : decode cX11_manyBits 17 = .ok (.istore_n 1, 1) := by decide +kernel
theorem dX11_manyBits_18 : decode cX11_manyBits 18 = .ok (.iinc 2 1, 3) := by decide +kernel
theorem dX11_manyBits_21 : decode cX11_manyBits 21 = .ok (.goto (-17), 3) := by decide +kernel
theorem dX11_manyBits_24 : decode cX11_manyBits 24 = .ok (.iload_n 1, 1) := by decide +kernel
theorem dX11_manyBits_25 : decode cX11_manyBits 25 = .ok (.ireturn, 1) := by decide +kernel
theorem dX11_ring_0 : decode cX11_ring 0 = .ok (.aload_n 0, 1) := by decide +kernel
theorem dX11_ring_1 : decode cX11_ring 1 = .ok (.invokevirtual 226, 3) := by decide +kernel
theorem dX11_ring_4 : decode cX11_ring 4 = .ok (.iconst 0, 1) := by decide +kernel
theorem dX11_ring_5 : decode cX11_ring 5 = .ok (.istore_n 1, 1) := by decide +kernel
theorem dX11_ring_6 : decode cX11_ring 6 = .ok (.iconst 0, 1) := by decide +kernel
theorem dX11_ring_7 : decode cX11_ring 7 = .ok (.istore_n 2, 1) := by decide +kernel
theorem dX11_ring_8 : decode cX11_ring 8 = .ok (.iload_n 2, 1) := by decide +kernel
theorem dX11_ring_9 : decode cX11_ring 9 = .ok (.aload_n 0, 1) := by decide +kernel
theorem dX11_ring_10 : decode cX11_ring 10 = .ok (.getfield 229, 3) := by decide +kernel
theorem dX11_ring_13 : decode cX11_ring 13 = .ok (.if_icmp .ge 90, 3) := by decide +kernel
theorem dX11_ring_16 : decode cX11_ring 16 = .ok (.iconst 0, 1) := by decide +kernel
theorem dX11_ring_17 : decode cX11_ring 17 = .ok (.istore_n 3, 1) := by decide +kernel
theorem dX11_ring_18 : decode cX11_ring 18 = .ok (.iconst 0, 1) := by decide +kernel
theorem dX11_ring_19 : decode cX11_ring 19 = .ok (.istore 4, 2) := by decide +kernel
theorem dX11_ring_21 : decode cX11_ring 21 = .ok (.iload 4, 2) := by decide +kernel
theorem dX11_ring_23 : decode cX11_ring 23 = .ok (.bipush 16, 2) := by decide +kernel
theorem dX11_ring_25 : decode cX11_ring 25 = .ok (.if_icmp .ge 30, 3) := by decide +kernel
theorem dX11_ring_28 : decode cX11_ring 28 = .ok (.iload_n 3, 1) := by decide +kernel
theorem dX11_ring_29 : decode cX11_ring 29 = .ok (.aload_n 0, 1) := by decide +kernel
theorem dX11_ring_30 : decode cX11_ring 30 = .ok (.iload_n 2, 1) := by decide +kernel
theorem dX11_ring_31 : decode cX11_ring 31 = .ok (.iload 4, 2) := by decide +kernel
theorem dX11_ring_33 : decode cX11_ring 33 = .ok (.invokevirtual 232, 3) := by decide +kernel
theorem dX11_ring_36 : decode cX11_ring 36 = .ok (.ifCond .eq 10, 3) := by decide +kernel
theorem dX11_ring_39 : decode cX11_ring 39 = .ok (.iconst 1, 1) := by decide +kernel
theorem dX11_ring_40 : decode cX11_ring 40 = .ok (.iload 4, 2) := by decide +kernel
theorem dX11_ring_42 : decode cX11_ring 42 = .ok (.ishl, 1) := by decide +kernel
theorem dX11_ring_43 : decode cX11_ring 43 = .ok (.goto 4, 3) := by decide +kernel
theorem dX11_ring_46 : decode cX11_ring 46 = .ok (.iconst 0, 1) := by decide +kernel
theorem dX11_ring_47 : decode cX11_ring 47 = .ok (.ior, 1) := by decide +kernel
theorem dX11_ring_48 : decode cX11_ring 48 = .ok (.istore_n 3, 1) := by decide +kernel
theorem dX11_ring_49 : decode cX11_ring 49 = .ok (.iinc 4 1, 3) := by decide +kernel
theorem dX11_ring_52 : decode cX11_ring 52 = .ok (.goto (-31), 3) := by decide +kernel
theorem dX11_ring_55 : decode cX11_ring 55 = .ok (.aload_n 0, 1) := by decide +kernel
theorem dX11_ring_56 : decode cX11_ring 56 = .ok (.getfield 51, 3) := by decide +kernel
theorem dX11_ring_59 : decode cX11_ring 59 = .ok (.iload_n 2, 1) := by decide +kernel
theorem dX11_ring_60 : decode cX11_ring 60 = .ok (.iload_n 3, 1) := by decide +kernel
theorem dX11_ring_61 : decode cX11_ring 61 = .ok (.aload_n 0, 1) := by decide +kernel
theorem dX11_ring_62 : decode cX11_ring 62 = .ok (.getfield 48, 3) := by decide +kernel
theorem dX11_ring_65 : decode cX11_ring 65 = .ok (.iload_n 2, 1) := by decide +kernel
theorem dX11_ring_66 : decode cX11_ring 66 = .ok (.iaload, 1) := by decide +kernel
theorem dX11_ring_67 : decode cX11_ring 67 = .ok (.iconst (-1), 1) := by decide +kernel
theorem dX11_ring_68 : decode cX11_ring 68 = .ok (.ixor, 1) := by decide +kernel
theorem dX11_ring_69 : decode cX11_ring 69 = .ok (.iand, 1) := by decide +kernel
theorem dX11_ring_70 : decode cX11_ring 70 = .ok (.iastore, 1) := by decide +kernel
theorem dX11_ring_71 : decode cX11_ring 71 = .ok (.aload_n 0, 1) := by decide +kernel
theorem dX11_ring_72 : decode cX11_ring 72 = .ok (.getfield 48, 3) := by decide +kernel
theorem dX11_ring_75 : decode cX11_ring 75 = .ok (.iload_n 2, 1) := by decide +kernel
theorem dX11_ring_76 : decode cX11_ring 76 = .ok (.iload_n 3, 1) := by decide +kernel
theorem dX11_ring_77 : decode cX11_ring 77 = .ok (.iastore, 1) := by decide +kernel
theorem dX11_ring_78 : decode cX11_ring 78 = .ok (.aload_n 0, 1) := by decide +kernel
theorem dX11_ring_79 : decode cX11_ring 79 = .ok (.getfield 54, 3) := by decide +kernel
theorem dX11_ring_82 : decode cX11_ring 82 = .ok (.iload_n 2, 1) := by decide +kernel
theorem dX11_ring_83 : decode cX11_ring 83 = .ok (.iconst 1, 1) := by decide +kernel
theorem dX11_ring_84 : decode cX11_ring 84 = .ok (.bastore, 1) := by decide +kernel
theorem dX11_ring_85 : decode cX11_ring 85 = .ok (.iload_n 1, 1) := by decide +kernel
theorem dX11_ring_86 : decode cX11_ring 86 = .ok (.aload_n 0, 1) := by decide +kernel
theorem dX11_ring_87 : decode cX11_ring 87 = .ok (.getfield 51, 3) := by decide +kernel
theorem dX11_ring_90 : decode cX11_ring 90 = .ok (.iload_n 2, 1) := by decide +kernel
