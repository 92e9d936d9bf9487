theorem dL_isWhole_0 : decode cL_isWhole 0 = .ok (.aload_n 0, 1) := by decide +kernel
theorem dL_isWhole_1 : decode cL_isWhole 1 = .ok (.invokevirtual 206, 3) := by decide +kernel
theorem dL_isWhole_4 : decode cL_isWhole 4 = .ok (.istore 4, 2) := by decide +kernel
theorem dL_isWhole_6 : decode cL_isWhole 6 = .ok (.iconst 0, 1) := by decide +kernel
theorem dL_isWhole_7 : decode cL_isWhole 7 = .ok (.istore 5, 2) := by decide +kernel
theorem dL_isWhole_9 : decode cL_isWhole 9 = .ok (.iconst 0, 1) := by decide +kernel
theorem dL_isWhole_10 : decode cL_isWhole 10 = .ok (.istore 6, 2) := by decide +kernel
theorem dL_isWhole_12 : decode cL_isWhole 12 = .ok (.iconst 0, 1) := by decide +kernel
theorem dL_isWhole_13 : decode cL_isWhole 13 = .ok (.istore 7, 2) := by decide +kernel
theorem dL_isWhole_15 : decode cL_isWhole 15 = .ok (.iload 7, 2) := by decide +kernel
theorem dL_isWhole_17 : decode cL_isWhole 17 = .ok (.iload 4, 2) := by decide +kernel
theorem dL_isWhole_19 : decode cL_isWhole 19 = .ok (.if_icmp .ge 94, 3) := by decide +kernel
theorem dL_isWhole_22 : decode cL_isWhole 22 = .ok (.aload_n 0, 1) := by decide +kernel
theorem dL_isWhole_23 : decode cL_isWhole 23 = .ok (.iload 7, 2) := by decide +kernel
theorem dL_isWhole_25 : decode cL_isWhole 25 = .ok (.invokestatic 363, 3) := by decide +kernel
theorem dL_isWhole_28 : decode cL_isWhole 28 = .ok (.istore 8, 2) := by decide +kernel
theorem dL_isWhole_30 : decode cL_isWhole 30 = .ok (.iload 7, 2) := by decide +kernel
theorem dL_isWhole_32 : decode cL_isWhole 32 = .ok (.ifCond .ne 8, 3) := by decide +kernel
theorem dL_isWhole_35 : decode cL_isWhole 35 = .ok (.iload 8, 2) := by decide +kernel
theorem dL_isWhole_37 : decode cL_isWhole 37 = .ok (.goto 11, 3) := by decide +kernel
theorem dL_isWhole_40 : decode cL_isWhole 40 = .ok (.aload_n 0, 1) := by decide +kernel
theorem dL_isWhole_41 : decode cL_isWhole 41 = .ok (.iload 7, 2) := by decide +kernel
theorem dL_isWhole_43 : decode cL_isWhole 43 = .ok (.iconst 1, 1) := by decide +kernel
theorem dL_isWhole_44 : decode cL_isWhole 44 = .ok (.isub, 1) := by decide +kernel
theorem dL_isWhole_45 : decode cL_isWhole 45 = .ok (.invokestatic 363, 3) := by decide +kernel
theorem dL_isWhole_48 : decode cL_isWhole 48 = .ok (.istore 9, 2) := by decide +kernel
theorem dL_isWhole_50 : decode cL_isWhole 50 = .ok (.iload 6, 2) := by decide +kernel
theorem dL_isWhole_52 : decode cL_isWhole 52 = .ok (.iconst 1, 1) := by decide +kernel
theorem dL_isWhole_53 : decode cL_isWhole 53 = .ok (.iload 8, 2) := by decide +kernel
theorem dL_isWhole_55 : decode cL_isWhole 55 = .ok (.ishl, 1) := by decide +kernel
theorem dL_isWhole_56 : decode cL_isWhole 56 = .ok (.ior, 1) := by decide +kernel
theorem dL_isWhole_57 : decode cL_isWhole 57 = .ok (.istore 6, 2) := by decide +kernel
theorem dL_isWhole_59 : decode cL_isWhole 59 = .ok (.iload 5, 2) := by decide +kernel
theorem dL_isWhole_61 : decode cL_isWhole 61 = .ok (.aload_n 0, 1) := by decide +kernel
theorem dL_isWhole_62 : decode cL_isWhole 62 = .ok (.iload 7, 2) := by decide +kernel
theorem dL_isWhole_64 : decode cL_isWhole 64 = .ok (.invokestatic 217, 3) := by decide +kernel
theorem dL_isWhole_67 : decode cL_isWhole 67 = .ok (.iadd, 1) := by decide +kernel
theorem dL_isWhole_68 : decode cL_isWhole 68 = .ok (.istore 5, 2) := by decide +kernel
theorem dL_isWhole_70 : decode cL_isWhole 70 = .ok (.aload_n 0, 1) := by decide +kernel
theorem dL_isWhole_71 : decode cL_isWhole 71 = .ok (.iload 7, 2) := by decide +kernel
theorem dL_isWhole_73 : decode cL_isWhole 73 = .ok (.invokestatic 217, 3) := by decide +kernel
theorem dL_isWhole_76 : decode cL_isWhole 76 = .ok (.ifCond .lt 29, 3) := by decide +kernel
theorem dL_isWhole_79 : decode cL_isWhole 79 = .ok (.aload_n 0, 1) := by decide +kernel
theorem dL_isWhole_80 : decode cL_isWhole 80 = .ok (.iload 7, 2) := by decide +kernel
theorem dL_isWhole_82 : decode cL_isWhole 82 = .ok (.invokestatic 217, 3) := by decide +kernel
theorem dL_isWhole_85 : decode cL_isWhole 85 = .ok (.bipush 99, 2) := by decide +kernel
theorem dL_isWhole_87 : decode cL_isWhole 87 = .ok (.if_icmp .gt 18, 3) := by decide +kernel
theorem dL_isWhole_90 : decode cL_isWhole 90 = .ok (.aload_n 0, 1) := by decide +kernel
theorem dL_isWhole_91 : decode cL_isWhole 91 = .ok (.iload 9, 2) := by decide +kernel
theorem dL_isWhole_93 : decode cL_isWhole 93 = .ok (.invokestatic 217, 3) := by decide +kernel
theorem dL_isWhole_96 : decode cL_isWhole 96 = .ok (.aload_n 0, 1) := by decide +kernel
theorem dL_isWhole_97 : decode cL_isWhole 97 = .ok (.iload 8, 2) := by decide +kernel
theorem dL_isWhole_99 : decode cL_isWhole 99 = .ok (.invokestatic 217, 3) := by decide +kernel
theorem dL_isWhole_102 : decode cL_isWhole 102 = .ok (.if_icmp .ge 5, 3) := by decide +kernel
theorem dL_isWhole_105 : decode cL_isWhole 105 = .ok (.iconst 0, 1) := by decide +kernel
theorem dL_isWhole_106 : decode cL_isWhole 106 = .ok (.ireturn, 1) := by decide +kernel
theorem dL_isWhole_107 : decode cL_isWhole 107 = .ok (.iinc 7 1, 3) := by decide +kernel
theorem dL_isWhole_110 : decode cL_isWhole 110 = .ok (.goto (-95), 3) := by decide +kernel
theorem dL_isWhole_113 : decode cL_isWhole 113 = .ok (.iload 4, 2) := by decide +kernel
theorem dL_isWhole_115 : decode cL_isWhole 115 = .ok (.iconst 2, 1) := by decide +kernel
theorem dL_isWhole_116 : decode cL_isWhole 116 = .ok (.if_icmp .ge 7, 3) := by decide +kernel
theorem dL_isWhole_119 : decode cL_isWhole 119 = .ok (.iconst 0, 1) := by decide +kernel
theorem dL_isWhole_120 : decode cL_isWhole 120 = .ok (.goto 7, 3) := by decide +kernel
theorem dL_isWhole_123 : decode cL_isWhole 123 = .ok (.aload_n 0, 1) := by decide +kernel
theorem dL_isWhole_124 : decode cL_isWhole 124 = .ok (.invokestatic 219, 3) := by decide +kernel
theorem dL_isWhole_127 : decode cL_isWhole 127 = .ok (.istore 7, 2) := by decide +kernel
theorem dL_isWhole_129 : decode cL_isWhole 129 = .ok (.iconst 0, 1) := by decide +kernel
theorem dL_isWhole_130 : decode cL_isWhole 130 = .ok (.istore 8, 2) := by decide +kernel
theorem dL_isWhole_132 : decode cL_isWhole 132 = .ok (.iconst 0, 1) := by decide +kernel
theorem dL_isWhole_133 : decode cL_isWhole 133 = .ok (.istore 9, 2) := by decide +kernel
theorem dL_isWhole_135 : decode cL_isWhole 135 = .ok (.iconst 0, 1) := by decide +kernel
theorem dL_isWhole_136 : decode cL_isWhole 136 = .ok (.istore 10, 2) := by decide +kernel
theorem dL_isWhole_138 : decode cL_isWhole 138 = .ok (.iload 10, 2) := by decide +kernel
theorem dL_isWhole_140 : decode cL_isWhole 140 = .ok (.aload_n 0, 1) := by decide +kernel
theorem dL_isWhole_141 : decode cL_isWhole 141 = .ok (.invokevirtual 212, 3) := by decide +kernel
theorem dL_isWhole_144 : decode cL_isWhole 144 = .ok (.if_icmp .ge 102, 3) := by decide +kernel
theorem dL_isWhole_147 : decode cL_isWhole 147 = .ok (.aload_n 0, 1) := by decide +kernel
theorem dL_isWhole_148 : decode cL_isWhole 148 = .ok (.iload 10, 2) := by decide +kernel
theorem dL_isWhole_150 : decode cL_isWhole 150 = .ok (.invokestatic 223, 3) := by decide +kernel
theorem dL_isWhole_153 : decode cL_isWhole 153 = .ok (.iconst 1, 1) := by decide +kernel
theorem dL_isWhole_154 : decode cL_isWhole 154 = .ok (.if_icmp .ne 7, 3) := by decide +kernel
theorem dL_isWhole_157 : decode cL_isWhole 157 = .ok (.iconst 0, 1) := by decide +kernel
theorem dL_isWhole_158 : decode cL_isWhole 158 = .ok (.goto 9, 3) := by decide +kernel
theorem dL_isWhole_161 : decode cL_isWhole 161 = .ok (.aload_n 0, 1) := by decide +kernel
theorem dL_isWhole_162 : decode cL_isWhole 162 = .ok (.iload 10, 2) := by decide +kernel
theorem dL_isWhole_164 : decode cL_isWhole 164 = .ok (.invokestatic 239, 3) := by decide +kernel
theorem dL_isWhole_167 : decode cL_isWhole 167 = .ok (.istore 11, 2) := by decide +kernel
theorem dL_isWhole_169 : decode cL_isWhole 169 = .ok (.iload 8, 2) := by decide +kernel
theorem dL_isWhole_171 : decode cL_isWhole 171 = .ok (.aload_n 0, 1) := by decide +kernel
theorem dL_isWhole_172 : decode cL_isWhole 172 = .ok (.iload 10, 2) := by decide +kernel
theorem dL_isWhole_174 : decode cL_isWhole 174 = .ok (.invokestatic 330, 3) := by decide +kernel
theorem dL_isWhole_177 : decode cL_isWhole 177 = .ok (.ifCond .ne 8, 3) := by decide +kernel
theorem dL_isWhole_180 : decode cL_isWhole 180 = .ok (.iload 11, 2) := by decide +kernel
theorem dL_isWhole_182 : decode cL_isWhole 182 = .ok (.goto 4, 3) := by decide +kernel
theorem dL_isWhole_185 : decode cL_isWhole 185 = .ok (.iconst 0, 1) := by decide +kernel
theorem dL_isWhole_186 : decode cL_isWhole 186 = .ok (.iadd, 1) := by decide +kernel
theorem dL_isWhole_187 : decode cL_isWhole 187 = .ok (.istore 8, 2) := by decide +kernel
theorem dL_isWhole_189 : decode cL_isWhole 189 = .ok (.iload 9, 2) := by decide +kernel
theorem dL_isWhole_191 : decode cL_isWhole 191 = .ok (.aload_n 0, 1) := by decide +kernel
theorem dL_isWhole_192 : decode cL_isWhole 192 = .ok (.iload 10, 2) := by decide +kernel
theorem dL_isWhole_194 : decode cL_isWhole 194 = .ok (.invokestatic 334, 3) := by decide +kernel
theorem dL_isWhole_197 : decode cL_isWhole 197 = .ok (.iload 4, 2) := by decide +kernel
theorem dL_isWhole_199 : decode cL_isWhole 199 = .ok (.iconst 1, 1) := by decide +kernel
theorem dL_isWhole_200 : decode cL_isWhole 200 = .ok (.isub, 1) := by decide +kernel
theorem dL_isWhole_201 : decode cL_isWhole 201 = .ok (.if_icmp .ne 8, 3) := by decide +kernel
theorem dL_isWhole_204 : decode cL_isWhole 204 = .ok (.iload 11, 2) := by decide +kernel
theorem dL_isWhole_206 : decode cL_isWhole 206 = .ok (.goto 4, 3) := by decide +kernel
theorem dL_isWhole_209 : decode cL_isWhole 209 = .ok (.iconst 0, 1) := by decide +kernel
theorem dL_isWhole_210 : decode cL_isWhole 210 = .ok (.iadd, 1) := by decide +kernel
theorem dL_isWhole_211 : decode cL_isWhole 211 = .ok (.istore 9, 2) := by decide +kernel
theorem dL_isWhole_213 : decode cL_isWhole 213 = .ok (.aload_n 0, 1) := by decide +kernel
theorem dL_isWhole_214 : decode cL_isWhole 214 = .ok (.iload 10, 2) := by decide +kernel
theorem dL_isWhole_216 : decode cL_isWhole 216 = .ok (.invokestatic 221, 3) := by decide +kernel
theorem dL_isWhole_219 : decode cL_isWhole 219 = .ok (.ifCond .lt 19, 3) := by decide +kernel
theorem dL_isWhole_222 : decode cL_isWhole 222 = .ok (.aload_n 0, 1) := by decide +kernel
theorem dL_isWhole_223 : decode cL_isWhole 223 = .ok (.iload 10, 2) := by decide +kernel
theorem dL_isWhole_225 : decode cL_isWhole 225 = .ok (.invokestatic 221, 3) := by decide +kernel
theorem dL_isWhole_228 : decode cL_isWhole 228 = .ok (.iload 11, 2) := by decide +kernel
theorem dL_isWhole_230 : decode cL_isWhole 230 = .ok (.iload 7, 2) := by decide +kernel
theorem dL_isWhole_232 : decode cL_isWhole 232 = .ok (.invokestatic 241, 3) := by decide +kernel
theorem dL_isWhole_235 : decode cL_isWhole 235 = .ok (.if_icmp .le 5, 3) := by decide +kernel
theorem dL_isWhole_238 : decode cL_isWhole 238 = .ok (.iconst 0, 1) := by decide +kernel
theorem dL_isWhole_239 : decode cL_isWhole 239 = .ok (.ireturn, 1) := by decide +kernel
theorem dL_isWhole_240 : decode cL_isWhole 240 = .ok (.iinc 10 1, 3) := by decide +kernel
theorem dL_isWhole_243 : decode cL_isWhole 243 = .ok (.goto (-105), 3) := by decide +kernel
theorem dL_isWhole_246 : decode cL_isWhole 246 = .ok (.iload 4, 2) := by decide +kernel
theorem dL_isWhole_248 : decode cL_isWhole 248 = .ok (.iconst 2, 1) := by decide +kernel
theorem dL_isWhole_249 : decode cL_isWhole 249 = .ok (.if_icmp .lt 26, 3) := by decide +kernel
theorem dL_isWhole_252 : decode cL_isWhole 252 = .ok (.aload_n 0, 1) := by decide +kernel
theorem dL_isWhole_253 : decode cL_isWhole 253 = .ok (.invokestatic 365, 3) := by decide +kernel
theorem dL_isWhole_256 : decode cL_isWhole 256 = .ok (.iload 7, 2) := by decide +kernel
theorem dL_isWhole_258 : decode cL_isWhole 258 = .ok (.if_icmp .ne 21, 3) := by decide +kernel
theorem dL_isWhole_261 : decode cL_isWhole 261 = .ok (.iload 7, 2) := by decide +kernel
theorem dL_isWhole_263 : decode cL_isWhole 263 = .ok (.iload 8, 2) := by decide +kernel
theorem dL_isWhole_265 : decode cL_isWhole 265 = .ok (.if_icmp .gt 14, 3) := by decide +kernel
theorem dL_isWhole_268 : decode cL_isWhole 268 = .ok (.iload 7, 2) := by decide +kernel
theorem dL_isWhole_270 : decode cL_isWhole 270 = .ok (.iload 9, 2) := by decide +kernel
theorem dL_isWhole_272 : decode cL_isWhole 272 = .ok (.if_icmp .gt 7, 3) := by decide +kernel
theorem dL_isWhole_275 : decode cL_isWhole 275 = .ok (.iconst 1, 1) := by decide +kernel
theorem dL_isWhole_276 : decode cL_isWhole 276 = .ok (.goto 4, 3) := by decide +kernel
theorem dL_isWhole_279 : decode cL_isWhole 279 = .ok (.iconst 0, 1) := by decide +kernel
theorem dL_isWhole_280 : decode cL_isWhole 280 = .ok (.istore 10, 2) := by decide +kernel
theorem dL_isWhole_282 : decode cL_isWhole 282 = .ok (.aload_n 0, 1) := by decide +kernel
theorem dL_isWhole_283 : decode cL_isWhole 283 = .ok (.invokevirtual 367, 3) := by decide +kernel
theorem dL_isWhole_286 : decode cL_isWhole 286 = .ok (.iload 5, 2) := by decide +kernel
theorem dL_isWhole_288 : decode cL_isWhole 288 = .ok (.if_icmp .ne 30, 3) := by decide +kernel
theorem dL_isWhole_291 : decode cL_isWhole 291 = .ok (.aload_n 0, 1) := by decide +kernel
theorem dL_isWhole_292 : decode cL_isWhole 292 = .ok (.invokevirtual 370, 3) := by decide +kernel
theorem dL_isWhole_295 : decode cL_isWhole 295 = .ok (.iload 5, 2) := by decide +kernel
theorem dL_isWhole_297 : decode cL_isWhole 297 = .ok (.if_icmp .ne 21, 3) := by decide +kernel
theorem dL_isWhole_300 : decode cL_isWhole 300 = .ok (.aload_n 0, 1) := by decide +kernel
theorem dL_isWhole_301 : decode cL_isWhole 301 = .ok (.invokevirtual 319, 3) := by decide +kernel
theorem dL_isWhole_304 : decode cL_isWhole 304 = .ok (.aload_n 0, 1) := by decide +kernel
theorem dL_isWhole_305 : decode cL_isWhole 305 = .ok (.invokevirtual 225, 3) := by decide +kernel
theorem dL_isWhole_308 : decode cL_isWhole 308 = .ok (.isub, 1) := by decide +kernel
theorem dL_isWhole_309 : decode cL_isWhole 309 = .ok (.iload 5, 2) := by decide +kernel
theorem dL_isWhole_311 : decode cL_isWhole 311 = .ok (.if_icmp .ne 7, 3) := by decide +kernel
theorem dL_isWhole_314 : decode cL_isWhole 314 = .ok (.iconst 1, 1) := by decide +kernel
theorem dL_isWhole_315 : decode cL_isWhole 315 = .ok (.goto 4, 3) := by decide +kernel
theorem dL_isWhole_318 : decode cL_isWhole 318 = .ok (.iconst 0, 1) := by decide +kernel
theorem dL_isWhole_319 : decode cL_isWhole 319 = .ok (.istore 11, 2) := by decide +kernel
theorem dL_isWhole_321 : decode cL_isWhole 321 = .ok (.aload_n 0, 1) := by decide +kernel
theorem dL_isWhole_322 : decode cL_isWhole 322 = .ok (.invokestatic 373, 3) := by decide +kernel
theorem dL_isWhole_325 : decode cL_isWhole 325 = .ok (.iload 4, 2) := by decide +kernel
theorem dL_isWhole_327 : decode cL_isWhole 327 = .ok (.ifCond .ne 9, 3) := by decide +kernel
theorem dL_isWhole_330 : decode cL_isWhole 330 = .ok (.ldc2_w 116, 3) := by decide +kernel
theorem dL_isWhole_333 : decode cL_isWhole 333 = .ok (.goto 10, 3) := by decide +kernel
theorem dL_isWhole_336 : decode cL_isWhole 336 = .ok (.iload 5, 2) := by decide +kernel
theorem dL_isWhole_338 : decode cL_isWhole 338 = .ok (.i2d, 1) := by decide +kernel
theorem dL_isWhole_339 : decode cL_isWhole 339 = .ok (.iload 4, 2) := by decide +kernel
theorem dL_isWhole_341 : decode cL_isWhole 341 = .ok (.i2d, 1) := by decide +kernel
theorem dL_isWhole_342 : decode cL_isWhole 342 = .ok (.ddiv, 1) := by decide +kernel
theorem dL_isWhole_343 : decode cL_isWhole 343 = .ok (.dcmp .l, 1) := by decide +kernel
theorem dL_isWhole_344 : decode cL_isWhole 344 = .ok (.ifCond .ne 38, 3) := by decide +kernel
theorem dL_isWhole_347 : decode cL_isWhole 347 = .ok (.aload_n 0, 1) := by decide +kernel
theorem dL_isWhole_348 : decode cL_isWhole 348 = .ok (.invokestatic 376, 3) := by decide +kernel
theorem dL_isWhole_351 : decode cL_isWhole 351 = .ok (.aload_n 0, 1) := by decide +kernel
theorem dL_isWhole_352 : decode cL_isWhole 352 = .ok (.invokevirtual 319, 3) := by decide +kernel
theorem dL_isWhole_355 : decode cL_isWhole 355 = .ok (.ifCond .ne 8, 3) := by decide +kernel
theorem dL_isWhole_358 : decode cL_isWhole 358 = .ok (.ldc 122, 2) := by decide +kernel
theorem dL_isWhole_360 : decode cL_isWhole 360 = .ok (.goto 14, 3) := by decide +kernel
theorem dL_isWhole_363 : decode cL_isWhole 363 = .ok (.aload_n 0, 1) := by decide +kernel
theorem dL_isWhole_364 : decode cL_isWhole 364 = .ok (.invokevirtual 225, 3) := by decide +kernel
theorem dL_isWhole_367 : decode cL_isWhole 367 = .ok (.i2f, 1) := by decide +kernel
theorem dL_isWhole_368 : decode cL_isWhole 368 = .ok (.aload_n 0, 1) := by decide +kernel
theorem dL_isWhole_369 : decode cL_isWhole 369 = .ok (.invokevirtual 319, 3) := by decide +kernel
theorem dL_isWhole_372 : decode cL_isWhole 372 = .ok (.i2f, 1) := by decide +kernel
theorem dL_isWhole_373 : decode cL_isWhole 373 = .ok (.fdiv, 1) := by decide +kernel
theorem dL_isWhole_374 : decode cL_isWhole 374 = .ok (.fcmp .l, 1) := by decide +kernel
theorem dL_isWhole_375 : decode cL_isWhole 375 = .ok (.ifCond .ne 7, 3) := by decide +kernel
theorem dL_isWhole_378 : decode cL_isWhole 378 = .ok (.iconst 1, 1) := by decide +kernel
theorem dL_isWhole_379 : decode cL_isWhole 379 = .ok (.goto 4, 3) := by decide +kernel
theorem dL_isWhole_382 : decode cL_isWhole 382 = .ok (.iconst 0, 1) := by decide +kernel
theorem dL_isWhole_383 : decode cL_isWhole 383 = .ok (.istore 12, 2) := by decide +kernel
theorem dL_isWhole_385 : decode cL_isWhole 385 = .ok (.iload 10, 2) := by decide +kernel
theorem dL_isWhole_387 : decode cL_isWhole 387 = .ok (.ifCond .eq 64, 3) := by decide +kernel
theorem dL_isWhole_390 : decode cL_isWhole 390 = .ok (.iload 11, 2) := by decide +kernel
theorem dL_isWhole_392 : decode cL_isWhole 392 = .ok (.ifCond .eq 59, 3) := by decide +kernel
theorem dL_isWhole_395 : decode cL_isWhole 395 = .ok (.iload 12, 2) := by decide +kernel
theorem dL_isWhole_397 : decode cL_isWhole 397 = .ok (.ifCond .eq 54, 3) := by decide +kernel
theorem dL_isWhole_400 : decode cL_isWhole 400 = .ok (.iload 6, 2) := by decide +kernel
theorem dL_isWhole_402 : decode cL_isWhole 402 = .ok (.iconst 1, 1) := by decide +kernel
theorem dL_isWhole_403 : decode cL_isWhole 403 = .ok (.iload 4, 2) := by decide +kernel
theorem dL_isWhole_405 : decode cL_isWhole 405 = .ok (.ishl, 1) := by decide +kernel
theorem dL_isWhole_406 : decode cL_isWhole 406 = .ok (.iconst 1, 1) := by decide +kernel
theorem dL_isWhole_407 : decode cL_isWhole 407 = .ok (.isub, 1) := by decide +kernel
theorem dL_isWhole_408 : decode cL_isWhole 408 = .ok (.if_icmp .ne 43, 3) := by decide +kernel
theorem dL_isWhole_411 : decode cL_isWhole 411 = .ok (.aload_n 0, 1) := by decide +kernel
theorem dL_isWhole_412 : decode cL_isWhole 412 = .ok (.invokestatic 379, 3) := by decide +kernel
theorem dL_isWhole_415 : decode cL_isWhole 415 = .ok (.ifCond .eq 36, 3) := by decide +kernel
theorem dL_isWhole_418 : decode cL_isWhole 418 = .ok (.aload_n 0, 1) := by decide +kernel
theorem dL_isWhole_419 : decode cL_isWhole 419 = .ok (.invokevirtual 212, 3) := by decide +kernel
theorem dL_isWhole_422 : decode cL_isWhole 422 = .ok (.bipush 10, 2) := by decide +kernel
theorem dL_isWhole_424 : decode cL_isWhole 424 = .ok (.if_icmp .gt 27, 3) := by decide +kernel
theorem dL_isWhole_427 : decode cL_isWhole 427 = .ok (.iload 4, 2) := by decide +kernel
theorem dL_isWhole_429 : decode cL_isWhole 429 = .ok (.bipush 7, 2) := by decide +kernel
theorem dL_isWhole_431 : decode cL_isWhole 431 = .ok (.if_icmp .gt 20, 3) := by decide +kernel
theorem dL_isWhole_434 : decode cL_isWhole 434 = .ok (.iload_n 3, 1) := by decide +kernel
theorem dL_isWhole_435 : decode cL_isWhole 435 = .ok (.ifCond .eq 12, 3) := by decide +kernel
theorem dL_isWhole_438 : decode cL_isWhole 438 = .ok (.aload_n 0, 1) := by decide +kernel
theorem dL_isWhole_439 : decode cL_isWhole 439 = .ok (.aload_n 1, 1) := by decide +kernel
theorem dL_isWhole_440 : decode cL_isWhole 440 = .ok (.iload_n 2, 1) := by decide +kernel
theorem dL_isWhole_441 : decode cL_isWhole 441 = .ok (.invokestatic 383, 3) := by decide +kernel
theorem dL_isWhole_444 : decode cL_isWhole 444 = .ok (.ifCond .eq 7, 3) := by decide +kernel
theorem dL_isWhole_447 : decode cL_isWhole 447 = .ok (.iconst 1, 1) := by decide +kernel
theorem dL_isWhole_448 : decode cL_isWhole 448 = .ok (.goto 4, 3) := by decide +kernel
theorem dL_isWhole_451 : decode cL_isWhole 451 = .ok (.iconst 0, 1) := by decide +kernel
theorem dL_isWhole_452 : decode cL_isWhole 452 = .ok (.ireturn, 1) := by decide +kernel
def f_L_isWhole_452 (sc : Nat × (Nat → Int32)) (u0 : Int32) (w : XW) : Option (Int32 × XW) := (if vp_nar .boolean u0 = u0 then (some (u0, w)) else none)
set_option maxRecDepth 100000 in
theorem S_L_isWhole_452 {g : GC} (hl : g.1.stackTraces = false) : ∀ (u0 : Int32) (w : XW) (kc ks : Nat), kc + 0 ≤ 3339 → ks + 0 ≤ 20162 → VE g cL_isWhole 13 RL (some .boolean) [] (rmL 35 3339 20162) 3339 20162 oI kc ks 452 [] [.int u0] w (f_L_isWhole_452 (scG g)  u0 w) := by
  intro u0 w kc ks hk hks
  unfold f_L_isWhole_452
  refine v_guard (fun h32 => ?_)
  exact v_zret dL_isWhole_452 rfl (narB_ok h32) rfl (by omega) (by omega)
def f_L_isWhole_451 (sc : Nat × (Nat → Int32)) (w : XW) : Option (Int32 × XW) := (f_L_isWhole_452 sc 0 w)
set_option maxRecDepth 100000 in
theorem S_L_isWhole_451 {g : GC} (hl : g.1.stackTraces = false) : ∀ (w : XW) (kc ks : Nat), kc + 0 ≤ 3339 → ks + 0 ≤ 20162 → VE g cL_isWhole 13 RL (some .boolean) [] (rmL 35 3339 20162) 3339 20162 oI kc ks 451 [] [] w (f_L_isWhole_451 (scG g)   w) := by
  intro  w kc ks hk hks
  unfold f_L_isWhole_451
  refine v_iconst (v := 0) dL_isWhole_451 (by decide) ?_
  refine v_sub [] rfl ?_
  exact S_L_isWhole_452 hl _ _ _ _ (by omega) (by omega)
def f_L_isWhole_447 (sc : Nat × (Nat → Int32)) (w : XW) : Option (Int32 × XW) := (f_L_isWhole_452 sc 1 w)
set_option maxRecDepth 100000 in
theorem S_L_isWhole_447 {g : GC} (hl : g.1.stackTraces = false) : ∀ (w : XW) (kc ks : Nat), kc + 0 ≤ 3339 → ks + 0 ≤ 20162 → VE g cL_isWhole 13 RL (some .boolean) [] (rmL 35 3339 20162) 3339 20162 oI kc ks 447 [] [] w (f_L_isWhole_447 (scG g)   w) := by
  intro  w kc ks hk hks
  unfold f_L_isWhole_447
  refine v_iconst (v := 1) dL_isWhole_447 (by decide) ?_
  refine v_goto (tgt := 452) dL_isWhole_448 (by decide) ?_
  refine v_sub [] rfl ?_
  exact S_L_isWhole_452 hl _ _ _ _ (by omega) (by omega)
def f_L_isWhole_383 (sc : Nat × (Nat → Int32)) (z2 : Int32) (z3 : Int32) (z4 : Int32) (z6 : Int32) (z10 : Int32) (z11 : Int32) (u0 : Int32) (w : XW) : Option (Int32 × XW) := (if z10 = 0 then (f_L_isWhole_451 sc w) else (if z11 = 0 then (f_L_isWhole_451 sc w) else (if u0 = 0 then (f_L_isWhole_451 sc w) else (if z6 = ((1 <<< (z4 &&& 31)) - 1) then (bI (f_L_isPile w) (fun r29 w29 => (if r29 = 0 then (f_L_isWhole_451 sc w29) else (bI (f_X10_pipeCount w29) (fun r30 w30 => (if 10 < r30 then (f_L_isWhole_451 sc w30) else (if 7 < z4 then (f_L_isWhole_451 sc w30) else (if z3 = 0 then (f_L_isWhole_447 sc w30) else (bI (f_L_isSearch sc z2 w30) (fun r31 w31 => (if r31 = 0 then (f_L_isWhole_451 sc w31) else (f_L_isWhole_447 sc w31)))))))))))) else (f_L_isWhole_451 sc w)))))
set_option maxRecDepth 100000 in
theorem S_L_isWhole_383 {g : GC} (hl : g.1.stackTraces = false) : ∀ (z2 : Int32) (z3 : Int32) (z4 : Int32) (z6 : Int32) (z10 : Int32) (z11 : Int32) (u0 : Int32) (w : XW) (kc ks : Nat), kc + 3179 ≤ 3339 → ks + 19202 ≤ 20162 → VE g cL_isWhole 13 RL (some .boolean) [] (rmL 35 3339 20162) 3339 20162 oI kc ks 383 [(0, .ref (g.2.1 + 0)), (1, .ref g.2.2.2.2.2.2.1), (2, .int z2), (3, .int z3), (4, .int z4), (6, .int z6), (10, .int z10), (11, .int z11)] [.int u0] w (f_L_isWhole_383 (scG g)  z2 z3 z4 z6 z10 z11 u0 w) := by
  intro z2 z3 z4 z6 z10 z11 u0 w kc ks hk hks
  unfold f_L_isWhole_383
  refine v_istore dL_isWhole_383 (Nat.le_of_ble_eq_true rfl) rfl ?_
  refine v_iload dL_isWhole_385 7 rfl ?_
  refine v_if_eq (tgt := 451) dL_isWhole_387 (by decide) ?_ ?_
  · refine v_sub [] rfl ?_
    exact S_L_isWhole_451 hl _ _ _ (by omega) (by omega)
  · refine v_iload dL_isWhole_390 8 rfl ?_
    refine v_if_eq (tgt := 451) dL_isWhole_392 (by decide) ?_ ?_
    · refine v_sub [] rfl ?_
      exact S_L_isWhole_451 hl _ _ _ (by omega) (by omega)
    · refine v_iload dL_isWhole_395 0 rfl ?_
      refine v_if_eq (tgt := 451) dL_isWhole_397 (by decide) ?_ ?_
      · refine v_sub [] rfl ?_
        exact S_L_isWhole_451 hl _ _ _ (by omega) (by omega)
      · refine v_iload dL_isWhole_400 6 rfl ?_
        refine v_iconst (v := 1) dL_isWhole_402 (by decide) ?_
        refine v_iload dL_isWhole_403 5 rfl ?_
        refine v_ishl dL_isWhole_405 ?_
        refine v_iconst (v := 1) dL_isWhole_406 (by decide) ?_
        refine v_isub dL_isWhole_407 ?_
        refine v_icmp_ne (tgt := 451) dL_isWhole_408 (by decide) ?_ ?_
        · refine v_sub [] rfl ?_
          exact S_L_isWhole_451 hl _ _ _ (by omega) (by omega)
        · refine v_aload_n dL_isWhole_411 rfl 1 rfl ?_
          refine v_callSi (As := [.ref (g.2.1 + 0)]) cs_L_379 (S_L_isPile hl) rfl rfl (Nat.le_of_ble_eq_true rfl) dL_isWhole_412 (CR_rm (by decide) (by decide) (by omega) (by omega)) (fun r29 w29 => ?_)
          refine v_if_eq (tgt := 451) dL_isWhole_415 (by decide) ?_ ?_
          · refine v_sub [] rfl ?_
            exact S_L_isWhole_451 hl _ _ _ (by omega) (by omega)
          · refine v_aload_n dL_isWhole_418 rfl 1 rfl ?_
            refine v_callVi (As := []) cv_L_212 (S_X10_pipeCount hl) tt_0 rfl rfl rfl (Nat.le_of_ble_eq_true rfl) dL_isWhole_419 (CR_rm (by decide) (by decide) (by omega) (by omega)) (fun r30 w30 => ?_)
            refine v_bipush (v := 10) dL_isWhole_422 (by decide) ?_
            refine v_icmp_gt (tgt := 451) dL_isWhole_424 (by decide) ?_ ?_
            · refine v_sub [] rfl ?_
              exact S_L_isWhole_451 hl _ _ _ (by omega) (by omega)
            · refine v_iload dL_isWhole_427 5 rfl ?_
              refine v_bipush (v := 7) dL_isWhole_429 (by decide) ?_
              refine v_icmp_gt (tgt := 451) dL_isWhole_431 (by decide) ?_ ?_
              · refine v_sub [] rfl ?_
                exact S_L_isWhole_451 hl _ _ _ (by omega) (by omega)
              · refine v_iload_n dL_isWhole_434 rfl 4 rfl ?_
                refine v_if_eq (tgt := 447) dL_isWhole_435 (by decide) ?_ ?_
                · refine v_sub [] rfl ?_
                  exact S_L_isWhole_447 hl _ _ _ (by omega) (by omega)
                · refine v_aload_n dL_isWhole_438 rfl 1 rfl ?_
                  refine v_aload_n dL_isWhole_439 rfl 2 rfl ?_
                  refine v_iload_n dL_isWhole_440 rfl 3 rfl ?_
                  refine v_callSi (As := [.ref (g.2.1 + 0), .ref g.2.2.2.2.2.2.1, .int z2]) cs_L_383 (S_L_isSearch hl) rfl rfl (Nat.le_of_ble_eq_true rfl) dL_isWhole_441 (CR_rm (by decide) (by decide) (by omega) (by omega)) (fun r31 w31 => ?_)
                  refine v_if_eq (tgt := 451) dL_isWhole_444 (by decide) ?_ ?_
                  · refine v_sub [] rfl ?_
                    exact S_L_isWhole_451 hl _ _ _ (by omega) (by omega)
                  · refine v_sub [] rfl ?_
                    exact S_L_isWhole_447 hl _ _ _ (by omega) (by omega)
def f_L_isWhole_382 (sc : Nat × (Nat → Int32)) (z2 : Int32) (z3 : Int32) (z4 : Int32) (z6 : Int32) (z10 : Int32) (z11 : Int32) (w : XW) : Option (Int32 × XW) := (f_L_isWhole_383 sc z2 z3 z4 z6 z10 z11 0 w)
set_option maxRecDepth 100000 in
theorem S_L_isWhole_382 {g : GC} (hl : g.1.stackTraces = false) : ∀ (z2 : Int32) (z3 : Int32) (z4 : Int32) (z6 : Int32) (z10 : Int32) (z11 : Int32) (w : XW) (kc ks : Nat), kc + 3179 ≤ 3339 → ks + 19202 ≤ 20162 → VE g cL_isWhole 13 RL (some .boolean) [] (rmL 35 3339 20162) 3339 20162 oI kc ks 382 [(0, .ref (g.2.1 + 0)), (1, .ref g.2.2.2.2.2.2.1), (2, .int z2), (3, .int z3), (4, .int z4), (6, .int z6), (10, .int z10), (11, .int z11)] [] w (f_L_isWhole_382 (scG g)  z2 z3 z4 z6 z10 z11 w) := by
  intro z2 z3 z4 z6 z10 z11 w kc ks hk hks
  unfold f_L_isWhole_382
  refine v_iconst (v := 0) dL_isWhole_382 (by decide) ?_
  refine v_sub [0, 1, 2, 3, 4, 5, 6, 7] rfl ?_
  exact S_L_isWhole_383 hl _ _ _ _ _ _ _ _ _ _ (by omega) (by omega)
def f_L_isWhole_374 (sc : Nat × (Nat → Int32)) (z2 : Int32) (z3 : Int32) (z4 : Int32) (z6 : Int32) (z10 : Int32) (z11 : Int32) (u0 : UInt32) (u1 : UInt32) (w : XW) : Option (Int32 × XW) := (if (Op.cmpValue (FP.fcmp u1 u0) .l) = 0 then (f_L_isWhole_383 sc z2 z3 z4 z6 z10 z11 1 w) else (f_L_isWhole_382 sc z2 z3 z4 z6 z10 z11 w))
set_option maxRecDepth 100000 in
theorem S_L_isWhole_374 {g : GC} (hl : g.1.stackTraces = false) : ∀ (z2 : Int32) (z3 : Int32) (z4 : Int32) (z6 : Int32) (z10 : Int32) (z11 : Int32) (u0 : UInt32) (u1 : UInt32) (w : XW) (kc ks : Nat), kc + 3179 ≤ 3339 → ks + 19202 ≤ 20162 → VE g cL_isWhole 13 RL (some .boolean) [] (rmL 35 3339 20162) 3339 20162 oI kc ks 374 [(0, .ref (g.2.1 + 0)), (1, .ref g.2.2.2.2.2.2.1), (2, .int z2), (3, .int z3), (4, .int z4), (6, .int z6), (10, .int z10), (11, .int z11)] [.float u0, .float u1] w (f_L_isWhole_374 (scG g)  z2 z3 z4 z6 z10 z11 u0 u1 w) := by
  intro z2 z3 z4 z6 z10 z11 u0 u1 w kc ks hk hks
  unfold f_L_isWhole_374
  refine v_fcmp dL_isWhole_374 ?_
  refine v_if_ne (tgt := 382) dL_isWhole_375 (by decide) ?_ ?_
  · refine v_sub [0, 1, 2, 3, 4, 5, 6, 7] rfl ?_
    exact S_L_isWhole_382 hl _ _ _ _ _ _ _ _ _ (by omega) (by omega)
  · refine v_iconst (v := 1) dL_isWhole_378 (by decide) ?_
    refine v_goto (tgt := 383) dL_isWhole_379 (by decide) ?_
    refine v_sub [0, 1, 2, 3, 4, 5, 6, 7] rfl ?_
    exact S_L_isWhole_383 hl _ _ _ _ _ _ _ _ _ _ (by omega) (by omega)
def f_L_isWhole_343 (sc : Nat × (Nat → Int32)) (z2 : Int32) (z3 : Int32) (z4 : Int32) (z6 : Int32) (z10 : Int32) (z11 : Int32) (u0 : UInt64) (u1 : UInt64) (w : XW) : Option (Int32 × XW) := (if (Op.cmpValue (FP.dcmp u1 u0) .l) = 0 then (bF (f_L_leakedShare w) (fun r24 w24 => (bI (f_X10_poured w24) (fun r25 w25 => (if r25 = 0 then (f_L_isWhole_374 sc z2 z3 z4 z6 z10 z11 3264479232 r24 w25) else (bI (f_X10_leaked w25) (fun r26 w26 => (bI (f_X10_poured w26) (fun r27 w27 => (if okF32 (FP.fdiv (FP.i2f r26) (FP.i2f r27)) then (f_L_isWhole_374 sc z2 z3 z4 z6 z10 z11 (FP.fdiv (FP.i2f r26) (FP.i2f r27)) r24 w27) else none)))))))))) else (f_L_isWhole_382 sc z2 z3 z4 z6 z10 z11 w))
set_option maxRecDepth 100000 in
theorem S_L_isWhole_343 {g : GC} (hl : g.1.stackTraces = false) : ∀ (z2 : Int32) (z3 : Int32) (z4 : Int32) (z6 : Int32) (z10 : Int32) (z11 : Int32) (u0 : UInt64) (u1 : UInt64) (w : XW) (kc ks : Nat), kc + 3180 ≤ 3339 → ks + 19208 ≤ 20162 → VE g cL_isWhole 13 RL (some .boolean) [] (rmL 35 3339 20162) 3339 20162 oI kc ks 343 [(0, .ref (g.2.1 + 0)), (1, .ref g.2.2.2.2.2.2.1), (2, .int z2), (3, .int z3), (4, .int z4), (6, .int z6), (10, .int z10), (11, .int z11)] [.double u0, .double u1] w (f_L_isWhole_343 (scG g)  z2 z3 z4 z6 z10 z11 u0 u1 w) := by
  intro z2 z3 z4 z6 z10 z11 u0 u1 w kc ks hk hks
  unfold f_L_isWhole_343
  refine v_dcmp dL_isWhole_343 ?_
  refine v_if_ne (tgt := 382) dL_isWhole_344 (by decide) ?_ ?_
  · refine v_sub [0, 1, 2, 3, 4, 5, 6, 7] rfl ?_
    exact S_L_isWhole_382 hl _ _ _ _ _ _ _ _ _ (by omega) (by omega)
  · refine v_aload_n dL_isWhole_347 rfl 0 rfl ?_
    refine v_callShf (As := [.ref (g.2.1 + 0)]) ch_L_376 (S_L_leakedShare hl) rfl rfl (Nat.le_of_ble_eq_true rfl) dL_isWhole_348 (CR_rm (by decide) (by decide) (by omega) (by omega)) (fun r24 w24 => ?_)
    refine v_aload_n dL_isWhole_351 rfl 0 rfl ?_
    refine v_callVi (As := []) cv_L_319 (S_X10_poured hl) tt_0 rfl rfl rfl (Nat.le_of_ble_eq_true rfl) dL_isWhole_352 (CR_rm (by decide) (by decide) (by omega) (by omega)) (fun r25 w25 => ?_)
    refine v_if_ne (tgt := 363) dL_isWhole_355 (by decide) ?_ ?_
    · refine v_aload_n dL_isWhole_363 rfl 0 rfl ?_
      refine v_callVi (As := []) cv_L_225 (S_X10_leaked hl) tt_0 rfl rfl rfl (Nat.le_of_ble_eq_true rfl) dL_isWhole_364 (CR_rm (by decide) (by decide) (by omega) (by omega)) (fun r26 w26 => ?_)
      refine v_i2f dL_isWhole_367 ?_
      refine v_aload_n dL_isWhole_368 rfl 0 rfl ?_
      refine v_callVi (As := []) cv_L_319 (S_X10_poured hl) tt_0 rfl rfl rfl (Nat.le_of_ble_eq_true rfl) dL_isWhole_369 (CR_rm (by decide) (by decide) (by omega) (by omega)) (fun r27 w27 => ?_)
      refine v_i2f dL_isWhole_372 ?_
      refine v_guard (fun h28 => ?_)
      refine v_fdiv dL_isWhole_373 (okF32_ok h28) ?_
      refine v_sub [0, 1, 2, 3, 4, 5, 6, 7] rfl ?_
      exact S_L_isWhole_374 hl _ _ _ _ _ _ _ _ _ _ _ (by omega) (by omega)
    · refine v_ldcf gw_1480 dL_isWhole_358 ?_
      refine v_goto (tgt := 374) dL_isWhole_360 (by decide) ?_
      refine v_sub [0, 1, 2, 3, 4, 5, 6, 7] rfl ?_
      exact S_L_isWhole_374 hl _ _ _ _ _ _ _ _ _ _ _ (by omega) (by omega)
def f_L_isWhole_319 (sc : Nat × (Nat → Int32)) (z2 : Int32) (z3 : Int32) (z4 : Int32) (z5 : Int32) (z6 : Int32) (z10 : Int32) (u0 : Int32) (w : XW) : Option (Int32 × XW) := (bD (f_L_meanWater w) (fun r20 w20 => (if z4 = 0 then (f_L_isWhole_343 sc z2 z3 z4 z6 z10 u0 13858279740860792832 r20 w20) else (if okF64 (FP.ddiv (FP.i2d z5) (FP.i2d z4)) then (f_L_isWhole_343 sc z2 z3 z4 z6 z10 u0 (FP.ddiv (FP.i2d z5) (FP.i2d z4)) r20 w20) else none))))
set_option maxRecDepth 100000 in
theorem S_L_isWhole_319 {g : GC} (hl : g.1.stackTraces = false) : ∀ (z2 : Int32) (z3 : Int32) (z4 : Int32) (z5 : Int32) (z6 : Int32) (z10 : Int32) (u0 : Int32) (w : XW) (kc ks : Nat), kc + 3181 ≤ 3339 → ks + 19214 ≤ 20162 → VE g cL_isWhole 13 RL (some .boolean) [] (rmL 35 3339 20162) 3339 20162 oI kc ks 319 [(0, .ref (g.2.1 + 0)), (1, .ref g.2.2.2.2.2.2.1), (2, .int z2), (3, .int z3), (4, .int z4), (5, .int z5), (6, .int z6), (10, .int z10)] [.int u0] w (f_L_isWhole_319 (scG g)  z2 z3 z4 z5 z6 z10 u0 w) := by
  intro z2 z3 z4 z5 z6 z10 u0 w kc ks hk hks
  unfold f_L_isWhole_319
  refine v_istore dL_isWhole_319 (Nat.le_of_ble_eq_true rfl) rfl ?_
  refine v_aload_n dL_isWhole_321 rfl 1 rfl ?_
  refine v_callShd (As := [.ref (g.2.1 + 0)]) ch_L_373 (S_L_meanWater hl) rfl rfl (Nat.le_of_ble_eq_true rfl) dL_isWhole_322 (CR_rm (by decide) (by decide) (by omega) (by omega)) (fun r20 w20 => ?_)
  refine v_iload dL_isWhole_325 5 rfl ?_
  refine v_if_ne (tgt := 336) dL_isWhole_327 (by decide) ?_ ?_
  · refine v_iload dL_isWhole_336 6 rfl ?_
    refine v_i2d dL_isWhole_338 ?_
    refine v_iload dL_isWhole_339 5 rfl ?_
    refine v_i2d dL_isWhole_341 ?_
    refine v_guard (fun h21 => ?_)
    refine v_ddiv dL_isWhole_342 (okF64_ok h21) ?_
    refine v_sub [1, 2, 3, 4, 5, 7, 8, 0] rfl ?_
    exact S_L_isWhole_343 hl _ _ _ _ _ _ _ _ _ _ _ (by omega) (by omega)
  · refine v_ldc2d gw_1472 dL_isWhole_330 ?_
    refine v_goto (tgt := 343) dL_isWhole_333 (by decide) ?_
    refine v_sub [1, 2, 3, 4, 5, 7, 8, 0] rfl ?_
    exact S_L_isWhole_343 hl _ _ _ _ _ _ _ _ _ _ _ (by omega) (by omega)
def f_L_isWhole_318 (sc : Nat × (Nat → Int32)) (z2 : Int32) (z3 : Int32) (z4 : Int32) (z5 : Int32) (z6 : Int32) (z10 : Int32) (w : XW) : Option (Int32 × XW) := (f_L_isWhole_319 sc z2 z3 z4 z5 z6 z10 0 w)
set_option maxRecDepth 100000 in
theorem S_L_isWhole_318 {g : GC} (hl : g.1.stackTraces = false) : ∀ (z2 : Int32) (z3 : Int32) (z4 : Int32) (z5 : Int32) (z6 : Int32) (z10 : Int32) (w : XW) (kc ks : Nat), kc + 3181 ≤ 3339 → ks + 19214 ≤ 20162 → VE g cL_isWhole 13 RL (some .boolean) [] (rmL 35 3339 20162) 3339 20162 oI kc ks 318 [(0, .ref (g.2.1 + 0)), (1, .ref g.2.2.2.2.2.2.1), (2, .int z2), (3, .int z3), (4, .int z4), (5, .int z5), (6, .int z6), (10, .int z10)] [] w (f_L_isWhole_318 (scG g)  z2 z3 z4 z5 z6 z10 w) := by
  intro z2 z3 z4 z5 z6 z10 w kc ks hk hks
  unfold f_L_isWhole_318
  refine v_iconst (v := 0) dL_isWhole_318 (by decide) ?_
  refine v_sub [0, 1, 2, 3, 4, 5, 6, 7] rfl ?_
  exact S_L_isWhole_319 hl _ _ _ _ _ _ _ _ _ _ (by omega) (by omega)
def f_L_isWhole_280 (sc : Nat × (Nat → Int32)) (z2 : Int32) (z3 : Int32) (z4 : Int32) (z5 : Int32) (z6 : Int32) (u0 : Int32) (w : XW) : Option (Int32 × XW) := (bI (f_X10_totalWater w) (fun r15 w15 => (if r15 = z5 then (bI (f_X10_totalWaterByAccounts w15) (fun r16 w16 => (if r16 = z5 then (bI (f_X10_poured w16) (fun r17 w17 => (bI (f_X10_leaked w17) (fun r18 w18 => (if (r17 - r18) = z5 then (f_L_isWhole_319 sc z2 z3 z4 z5 z6 u0 1 w18) else (f_L_isWhole_318 sc z2 z3 z4 z5 z6 u0 w18)))))) else (f_L_isWhole_318 sc z2 z3 z4 z5 z6 u0 w16)))) else (f_L_isWhole_318 sc z2 z3 z4 z5 z6 u0 w15))))
set_option maxRecDepth 100000 in
theorem S_L_isWhole_280 {g : GC} (hl : g.1.stackTraces = false) : ∀ (z2 : Int32) (z3 : Int32) (z4 : Int32) (z5 : Int32) (z6 : Int32) (u0 : Int32) (w : XW) (kc ks : Nat), kc + 3181 ≤ 3339 → ks + 19214 ≤ 20162 → VE g cL_isWhole 13 RL (some .boolean) [] (rmL 35 3339 20162) 3339 20162 oI kc ks 280 [(0, .ref (g.2.1 + 0)), (1, .ref g.2.2.2.2.2.2.1), (2, .int z2), (3, .int z3), (4, .int z4), (5, .int z5), (6, .int z6)] [.int u0] w (f_L_isWhole_280 (scG g)  z2 z3 z4 z5 z6 u0 w) := by
  intro z2 z3 z4 z5 z6 u0 w kc ks hk hks
  unfold f_L_isWhole_280
  refine v_istore dL_isWhole_280 (Nat.le_of_ble_eq_true rfl) rfl ?_
  refine v_aload_n dL_isWhole_282 rfl 1 rfl ?_
  refine v_callVi (As := []) cv_L_367 (S_X10_totalWater hl) tt_0 rfl rfl rfl (Nat.le_of_ble_eq_true rfl) dL_isWhole_283 (CR_rm (by decide) (by decide) (by omega) (by omega)) (fun r15 w15 => ?_)
  refine v_iload dL_isWhole_286 6 rfl ?_
  refine v_icmp_ne (tgt := 318) dL_isWhole_288 (by decide) ?_ ?_
  · refine v_sub [1, 2, 3, 4, 5, 6, 7, 0] rfl ?_
    exact S_L_isWhole_318 hl _ _ _ _ _ _ _ _ _ (by omega) (by omega)
  · refine v_aload_n dL_isWhole_291 rfl 1 rfl ?_
    refine v_callVi (As := []) cv_L_370 (S_X10_totalWaterByAccounts hl) tt_0 rfl rfl rfl (Nat.le_of_ble_eq_true rfl) dL_isWhole_292 (CR_rm (by decide) (by decide) (by omega) (by omega)) (fun r16 w16 => ?_)
    refine v_iload dL_isWhole_295 6 rfl ?_
    refine v_icmp_ne (tgt := 318) dL_isWhole_297 (by decide) ?_ ?_
    · refine v_sub [1, 2, 3, 4, 5, 6, 7, 0] rfl ?_
      exact S_L_isWhole_318 hl _ _ _ _ _ _ _ _ _ (by omega) (by omega)
    · refine v_aload_n dL_isWhole_300 rfl 1 rfl ?_
      refine v_callVi (As := []) cv_L_319 (S_X10_poured hl) tt_0 rfl rfl rfl (Nat.le_of_ble_eq_true rfl) dL_isWhole_301 (CR_rm (by decide) (by decide) (by omega) (by omega)) (fun r17 w17 => ?_)
      refine v_aload_n dL_isWhole_304 rfl 1 rfl ?_
      refine v_callVi (As := []) cv_L_225 (S_X10_leaked hl) tt_0 rfl rfl rfl (Nat.le_of_ble_eq_true rfl) dL_isWhole_305 (CR_rm (by decide) (by decide) (by omega) (by omega)) (fun r18 w18 => ?_)
      refine v_isub dL_isWhole_308 ?_
      refine v_iload dL_isWhole_309 6 rfl ?_
      refine v_icmp_ne (tgt := 318) dL_isWhole_311 (by decide) ?_ ?_
      · refine v_sub [1, 2, 3, 4, 5, 6, 7, 0] rfl ?_
        exact S_L_isWhole_318 hl _ _ _ _ _ _ _ _ _ (by omega) (by omega)
      · refine v_iconst (v := 1) dL_isWhole_314 (by decide) ?_
        refine v_goto (tgt := 319) dL_isWhole_315 (by decide) ?_
        refine v_sub [1, 2, 3, 4, 5, 6, 7, 0] rfl ?_
        exact S_L_isWhole_319 hl _ _ _ _ _ _ _ _ _ _ (by omega) (by omega)
def f_L_isWhole_279 (sc : Nat × (Nat → Int32)) (z2 : Int32) (z3 : Int32) (z4 : Int32) (z5 : Int32) (z6 : Int32) (w : XW) : Option (Int32 × XW) := (f_L_isWhole_280 sc z2 z3 z4 z5 z6 0 w)
set_option maxRecDepth 100000 in
theorem S_L_isWhole_279 {g : GC} (hl : g.1.stackTraces = false) : ∀ (z2 : Int32) (z3 : Int32) (z4 : Int32) (z5 : Int32) (z6 : Int32) (w : XW) (kc ks : Nat), kc + 3181 ≤ 3339 → ks + 19214 ≤ 20162 → VE g cL_isWhole 13 RL (some .boolean) [] (rmL 35 3339 20162) 3339 20162 oI kc ks 279 [(0, .ref (g.2.1 + 0)), (1, .ref g.2.2.2.2.2.2.1), (2, .int z2), (3, .int z3), (4, .int z4), (5, .int z5), (6, .int z6)] [] w (f_L_isWhole_279 (scG g)  z2 z3 z4 z5 z6 w) := by
  intro z2 z3 z4 z5 z6 w kc ks hk hks
  unfold f_L_isWhole_279
  refine v_iconst (v := 0) dL_isWhole_279 (by decide) ?_
  refine v_sub [0, 1, 2, 3, 4, 5, 6] rfl ?_
  exact S_L_isWhole_280 hl _ _ _ _ _ _ _ _ _ (by omega) (by omega)
def f_L_isWhole_275 (sc : Nat × (Nat → Int32)) (z2 : Int32) (z3 : Int32) (z4 : Int32) (z5 : Int32) (z6 : Int32) (w : XW) : Option (Int32 × XW) := (f_L_isWhole_280 sc z2 z3 z4 z5 z6 1 w)
set_option maxRecDepth 100000 in
theorem S_L_isWhole_275 {g : GC} (hl : g.1.stackTraces = false) : ∀ (z2 : Int32) (z3 : Int32) (z4 : Int32) (z5 : Int32) (z6 : Int32) (w : XW) (kc ks : Nat), kc + 3181 ≤ 3339 → ks + 19214 ≤ 20162 → VE g cL_isWhole 13 RL (some .boolean) [] (rmL 35 3339 20162) 3339 20162 oI kc ks 275 [(0, .ref (g.2.1 + 0)), (1, .ref g.2.2.2.2.2.2.1), (2, .int z2), (3, .int z3), (4, .int z4), (5, .int z5), (6, .int z6)] [] w (f_L_isWhole_275 (scG g)  z2 z3 z4 z5 z6 w) := by
  intro z2 z3 z4 z5 z6 w kc ks hk hks
  unfold f_L_isWhole_275
  refine v_iconst (v := 1) dL_isWhole_275 (by decide) ?_
  refine v_goto (tgt := 280) dL_isWhole_276 (by decide) ?_
  refine v_sub [0, 1, 2, 3, 4, 5, 6] rfl ?_
  exact S_L_isWhole_280 hl _ _ _ _ _ _ _ _ _ (by omega) (by omega)
def f_L_isWhole_238 (sc : Nat × (Nat → Int32)) (w : XW) : Option (Int32 × XW) := (some (0, w))
set_option maxRecDepth 100000 in
theorem S_L_isWhole_238 {g : GC} (hl : g.1.stackTraces = false) : ∀ (w : XW) (kc ks : Nat), kc + 0 ≤ 3339 → ks + 0 ≤ 20162 → VE g cL_isWhole 13 RL (some .boolean) [] (rmL 35 3339 20162) 3339 20162 oI kc ks 238 [] [] w (f_L_isWhole_238 (scG g)   w) := by
  intro  w kc ks hk hks
  unfold f_L_isWhole_238
  refine v_iconst (v := 0) dL_isWhole_238 (by decide) ?_
  exact v_zret dL_isWhole_239 rfl rfl rfl (by omega) (by omega)
def f_L_isWhole_210 (sc : Nat × (Nat → Int32)) (K138 : Int32 → Int32 → Int32 → XW → Option (Int32 × XW)) (y2 : Int32) (y3 : Int32) (y4 : Int32) (y5 : Int32) (y6 : Int32) (y7 : Int32) (z8 : Int32) (z10 : Int32) (z11 : Int32) (u0 : Int32) (u1 : Int32) (w : XW) : Option (Int32 × XW) := (bI (f_L_lossOf z10 w) (fun r22 w22 => (if r22 < 0 then (f_L_isWhole_238 sc w22) else (bI (f_L_lossOf z10 w22) (fun r23 w23 => (if r23 ≤ (if y7 < z11 then y7 else z11) then (K138 z8 (u1 + u0) (z10 + 1) w23) else (f_L_isWhole_238 sc w23)))))))
set_option maxRecDepth 100000 in
theorem S_L_isWhole_210 {g : GC} (hl : g.1.stackTraces = false) {y2 : Int32} {y3 : Int32} {y4 : Int32} {y5 : Int32} {y6 : Int32} {y7 : Int32} {B Bs : Nat} (hB : B ≤ 3339) (hBs : Bs ≤ 20162) {K138 : Int32 → Int32 → Int32 → XW → Option (Int32 × XW)} (hK138 : ∀ (z8 : Int32) (z9 : Int32) (z10 : Int32) (w : XW) (kc ks : Nat), kc ≤ B → ks ≤ Bs → VE g cL_isWhole 13 RL (some .boolean) [] (rmL 35 3339 20162) 3339 20162 oI kc ks 138 [(0, .ref (g.2.1 + 0)), (1, .ref g.2.2.2.2.2.2.1), (2, .int y2), (3, .int y3), (4, .int y4), (5, .int y5), (6, .int y6), (7, .int y7), (8, .int z8), (9, .int z9), (10, .int z10)] [] w (K138 z8 z9 z10 w)) : ∀ (z8 : Int32) (z10 : Int32) (z11 : Int32) (u0 : Int32) (u1 : Int32) (w : XW) (kc ks : Nat), kc + 2 ≤ B → ks + 12 ≤ Bs → VE g cL_isWhole 13 RL (some .boolean) [] (rmL 35 3339 20162) 3339 20162 oI kc ks 210 [(0, .ref (g.2.1 + 0)), (1, .ref g.2.2.2.2.2.2.1), (2, .int y2), (3, .int y3), (4, .int y4), (5, .int y5), (6, .int y6), (7, .int y7), (8, .int z8), (10, .int z10), (11, .int z11)] [.int u0, .int u1] w (f_L_isWhole_210 (scG g) K138 y2 y3 y4 y5 y6 y7 z8 z10 z11 u0 u1 w) := by
  intro z8 z10 z11 u0 u1 w kc ks hk hks
  unfold f_L_isWhole_210
  refine v_iadd dL_isWhole_210 ?_
  refine v_istore dL_isWhole_211 (Nat.le_of_ble_eq_true rfl) rfl ?_
  refine v_aload_n dL_isWhole_213 rfl 1 rfl ?_
  refine v_iload dL_isWhole_214 10 rfl ?_
  refine v_callSh (As := [.ref (g.2.1 + 0), .int z10]) ch_L_221 (S_L_lossOf hl) rfl rfl (Nat.le_of_ble_eq_true rfl) dL_isWhole_216 (CR_rm (by decide) (by decide) (by omega) (by omega)) (fun r22 w22 => ?_)
  refine v_if_lt (tgt := 238) dL_isWhole_219 (by decide) ?_ ?_
  · refine v_sub [] rfl ?_
    exact S_L_isWhole_238 hl _ _ _ (by omega) (by omega)
  · refine v_aload_n dL_isWhole_222 rfl 1 rfl ?_
    refine v_iload dL_isWhole_223 10 rfl ?_
    refine v_callSh (As := [.ref (g.2.1 + 0), .int z10]) ch_L_221 (S_L_lossOf hl) rfl rfl (Nat.le_of_ble_eq_true rfl) dL_isWhole_225 (CR_rm (by decide) (by decide) (by omega) (by omega)) (fun r23 w23 => ?_)
    refine v_iload dL_isWhole_228 11 rfl ?_
    refine v_iload dL_isWhole_230 8 rfl ?_
    refine v_min gw_1416 gw_552 gw_54 gw_553 dL_isWhole_232 (CR_f1 _ _ _) (CR_f2 (Nat.le_of_ble_eq_true rfl) _ _ _) (CR_k1 (by omega)) (CR_k2 (by omega)) ?_
    refine v_icmp_le (tgt := 240) dL_isWhole_235 (by decide) ?_ ?_
    · refine v_iinc (v := (z10 + 1)) dL_isWhole_240 (q := 10) rfl rfl (Nat.le_of_ble_eq_true rfl) rfl ?_
      refine v_goto (tgt := 138) dL_isWhole_243 (by decide) ?_
      refine v_sub [2, 3, 4, 5, 6, 7, 8, 9, 10, 1, 0] rfl ?_
      exact hK138 _ _ _ _ _ _ (by omega) (by omega)
    · refine v_sub [] rfl ?_
      exact S_L_isWhole_238 hl _ _ _ (by omega) (by omega)
def f_L_isWhole_186 (sc : Nat × (Nat → Int32)) (K138 : Int32 → Int32 → Int32 → XW → Option (Int32 × XW)) (y2 : Int32) (y3 : Int32) (y4 : Int32) (y5 : Int32) (y6 : Int32) (y7 : Int32) (z9 : Int32) (z10 : Int32) (z11 : Int32) (u0 : Int32) (u1 : Int32) (w : XW) : Option (Int32 × XW) := (bI (f_L_pipeTo z10 w) (fun r19 w19 => (if r19 = (y4 - 1) then (f_L_isWhole_210 sc K138 y2 y3 y4 y5 y6 y7 (u1 + u0) z10 z11 z11 z9 w19) else (f_L_isWhole_210 sc K138 y2 y3 y4 y5 y6 y7 (u1 + u0) z10 z11 0 z9 w19))))
set_option maxRecDepth 100000 in
theorem S_L_isWhole_186 {g : GC} (hl : g.1.stackTraces = false) {y2 : Int32} {y3 : Int32} {y4 : Int32} {y5 : Int32} {y6 : Int32} {y7 : Int32} {B Bs : Nat} (hB : B ≤ 3339) (hBs : Bs ≤ 20162) {K138 : Int32 → Int32 → Int32 → XW → Option (Int32 × XW)} (hK138 : ∀ (z8 : Int32) (z9 : Int32) (z10 : Int32) (w : XW) (kc ks : Nat), kc ≤ B → ks ≤ Bs → VE g cL_isWhole 13 RL (some .boolean) [] (rmL 35 3339 20162) 3339 20162 oI kc ks 138 [(0, .ref (g.2.1 + 0)), (1, .ref g.2.2.2.2.2.2.1), (2, .int y2), (3, .int y3), (4, .int y4), (5, .int y5), (6, .int y6), (7, .int y7), (8, .int z8), (9, .int z9), (10, .int z10)] [] w (K138 z8 z9 z10 w)) : ∀ (z9 : Int32) (z10 : Int32) (z11 : Int32) (u0 : Int32) (u1 : Int32) (w : XW) (kc ks : Nat), kc + 3 ≤ B → ks + 18 ≤ Bs → VE g cL_isWhole 13 RL (some .boolean) [] (rmL 35 3339 20162) 3339 20162 oI kc ks 186 [(0, .ref (g.2.1 + 0)), (1, .ref g.2.2.2.2.2.2.1), (2, .int y2), (3, .int y3), (4, .int y4), (5, .int y5), (6, .int y6), (7, .int y7), (9, .int z9), (10, .int z10), (11, .int z11)] [.int u0, .int u1] w (f_L_isWhole_186 (scG g) K138 y2 y3 y4 y5 y6 y7 z9 z10 z11 u0 u1 w) := by
  intro z9 z10 z11 u0 u1 w kc ks hk hks
  unfold f_L_isWhole_186
  refine v_iadd dL_isWhole_186 ?_
  refine v_istore dL_isWhole_187 (Nat.le_of_ble_eq_true rfl) rfl ?_
  refine v_iload dL_isWhole_189 9 rfl ?_
  refine v_aload_n dL_isWhole_191 rfl 1 rfl ?_
  refine v_iload dL_isWhole_192 10 rfl ?_
  refine v_callSh (As := [.ref (g.2.1 + 0), .int z10]) ch_L_334 (S_L_pipeTo hl) rfl rfl (Nat.le_of_ble_eq_true rfl) dL_isWhole_194 (CR_rm (by decide) (by decide) (by omega) (by omega)) (fun r19 w19 => ?_)
  refine v_iload dL_isWhole_197 5 rfl ?_
  refine v_iconst (v := 1) dL_isWhole_199 (by decide) ?_
  refine v_isub dL_isWhole_200 ?_
  refine v_icmp_ne (tgt := 209) dL_isWhole_201 (by decide) ?_ ?_
  · refine v_iconst (v := 0) dL_isWhole_209 (by decide) ?_
    refine v_sub [1, 2, 3, 4, 5, 6, 7, 8, 0, 10, 11] rfl ?_
    exact S_L_isWhole_210 hl hB hBs hK138 _ _ _ _ _ _ _ _ (by omega) (by omega)
  · refine v_iload dL_isWhole_204 11 rfl ?_
    refine v_goto (tgt := 210) dL_isWhole_206 (by decide) ?_
    refine v_sub [1, 2, 3, 4, 5, 6, 7, 8, 0, 10, 11] rfl ?_
    exact S_L_isWhole_210 hl hB hBs hK138 _ _ _ _ _ _ _ _ (by omega) (by omega)
def f_L_isWhole_167 (sc : Nat × (Nat → Int32)) (K138 : Int32 → Int32 → Int32 → XW → Option (Int32 × XW)) (y2 : Int32) (y3 : Int32) (y4 : Int32) (y5 : Int32) (y6 : Int32) (y7 : Int32) (z8 : Int32) (z9 : Int32) (z10 : Int32) (u0 : Int32) (w : XW) : Option (Int32 × XW) := (bI (f_L_pipeFrom z10 w) (fun r14 w14 => (if r14 = 0 then (f_L_isWhole_186 sc K138 y2 y3 y4 y5 y6 y7 z9 z10 u0 u0 z8 w14) else (f_L_isWhole_186 sc K138 y2 y3 y4 y5 y6 y7 z9 z10 u0 0 z8 w14))))
set_option maxRecDepth 100000 in
theorem S_L_isWhole_167 {g : GC} (hl : g.1.stackTraces = false) {y2 : Int32} {y3 : Int32} {y4 : Int32} {y5 : Int32} {y6 : Int32} {y7 : Int32} {B Bs : Nat} (hB : B ≤ 3339) (hBs : Bs ≤ 20162) {K138 : Int32 → Int32 → Int32 → XW → Option (Int32 × XW)} (hK138 : ∀ (z8 : Int32) (z9 : Int32) (z10 : Int32) (w : XW) (kc ks : Nat), kc ≤ B → ks ≤ Bs → VE g cL_isWhole 13 RL (some .boolean) [] (rmL 35 3339 20162) 3339 20162 oI kc ks 138 [(0, .ref (g.2.1 + 0)), (1, .ref g.2.2.2.2.2.2.1), (2, .int y2), (3, .int y3), (4, .int y4), (5, .int y5), (6, .int y6), (7, .int y7), (8, .int z8), (9, .int z9), (10, .int z10)] [] w (K138 z8 z9 z10 w)) : ∀ (z8 : Int32) (z9 : Int32) (z10 : Int32) (u0 : Int32) (w : XW) (kc ks : Nat), kc + 4 ≤ B → ks + 24 ≤ Bs → VE g cL_isWhole 13 RL (some .boolean) [] (rmL 35 3339 20162) 3339 20162 oI kc ks 167 [(0, .ref (g.2.1 + 0)), (1, .ref g.2.2.2.2.2.2.1), (2, .int y2), (3, .int y3), (4, .int y4), (5, .int y5), (6, .int y6), (7, .int y7), (8, .int z8), (9, .int z9), (10, .int z10)] [.int u0] w (f_L_isWhole_167 (scG g) K138 y2 y3 y4 y5 y6 y7 z8 z9 z10 u0 w) := by
  intro z8 z9 z10 u0 w kc ks hk hks
  unfold f_L_isWhole_167
  refine v_istore dL_isWhole_167 (Nat.le_of_ble_eq_true rfl) rfl ?_
  refine v_iload dL_isWhole_169 9 rfl ?_
  refine v_aload_n dL_isWhole_171 rfl 1 rfl ?_
  refine v_iload dL_isWhole_172 11 rfl ?_
  refine v_callSh (As := [.ref (g.2.1 + 0), .int z10]) ch_L_330 (S_L_pipeFrom hl) rfl rfl (Nat.le_of_ble_eq_true rfl) dL_isWhole_174 (CR_rm (by decide) (by decide) (by omega) (by omega)) (fun r14 w14 => ?_)
  refine v_if_ne (tgt := 185) dL_isWhole_177 (by decide) ?_ ?_
  · refine v_iconst (v := 0) dL_isWhole_185 (by decide) ?_
    refine v_sub [1, 2, 3, 4, 5, 6, 7, 8, 10, 11, 0] rfl ?_
    exact S_L_isWhole_186 hl hB hBs hK138 _ _ _ _ _ _ _ _ (by omega) (by omega)
  · refine v_iload dL_isWhole_180 0 rfl ?_
    refine v_goto (tgt := 186) dL_isWhole_182 (by decide) ?_
    refine v_sub [1, 2, 3, 4, 5, 6, 7, 8, 10, 11, 0] rfl ?_
    exact S_L_isWhole_186 hl hB hBs hK138 _ _ _ _ _ _ _ _ (by omega) (by omega)
def f_L_isWhole_138 (sc : Nat × (Nat → Int32)) (y2 : Int32) (y3 : Int32) (y4 : Int32) (y5 : Int32) (y6 : Int32) (y7 : Int32) : Nat → Int32 → Int32 → Int32 → XW → Option (Int32 × XW)
  | 0, _, _, _, _ => none
  | n + 1, z8, z9, z10, w => (bI (f_X10_pipeCount w) (fun r10 w10 => (if r10 ≤ z10 then (if y4 < 2 then (f_L_isWhole_275 sc y2 y3 y4 y5 y6 w10) else (bI (f_L_smallestCut w10) (fun r11 w11 => (if r11 = y7 then (if z8 < y7 then (f_L_isWhole_279 sc y2 y3 y4 y5 y6 w11) else (if z9 < y7 then (f_L_isWhole_279 sc y2 y3 y4 y5 y6 w11) else (f_L_isWhole_275 sc y2 y3 y4 y5 y6 w11))) else (f_L_isWhole_279 sc y2 y3 y4 y5 y6 w11))))) else (bI (f_L_isBroken z10 w10) (fun r12 w12 => (if r12 = 1 then (f_L_isWhole_167 sc (fun a0 a1 a2 w9 => f_L_isWhole_138 sc y2 y3 y4 y5 y6 y7 n a0 a1 a2 w9) y2 y3 y4 y5 y6 y7 z8 z9 z10 0 w12) else (bI (f_L_capacity z10 w12) (fun r13 w13 => (f_L_isWhole_167 sc (fun a0 a1 a2 w9 => f_L_isWhole_138 sc y2 y3 y4 y5 y6 y7 n a0 a1 a2 w9) y2 y3 y4 y5 y6 y7 z8 z9 z10 r13 w13)))))))))
set_option maxRecDepth 100000 in
theorem S_L_isWhole_138 {g : GC} (hl : g.1.stackTraces = false) {y2 : Int32} {y3 : Int32} {y4 : Int32} {y5 : Int32} {y6 : Int32} {y7 : Int32} : ∀ (n : Nat) (z8 : Int32) (z9 : Int32) (z10 : Int32) (w : XW) (kc ks : Nat), kc + (6 * n + 3182) ≤ 3339 → ks + (36 * n + 19220) ≤ 20162 → VE g cL_isWhole 13 RL (some .boolean) [] (rmL 35 3339 20162) 3339 20162 oI kc ks 138 [(0, .ref (g.2.1 + 0)), (1, .ref g.2.2.2.2.2.2.1), (2, .int y2), (3, .int y3), (4, .int y4), (5, .int y5), (6, .int y6), (7, .int y7), (8, .int z8), (9, .int z9), (10, .int z10)] [] w (f_L_isWhole_138 (scG g) y2 y3 y4 y5 y6 y7 n z8 z9 z10 w) := by
  intro n
  induction n with
  | zero => intro z8 z9 z10 w kc ks hk hks; exact v_none
  | succ n ih =>
    intro z8 z9 z10 w kc ks hk hks
    rw [f_L_isWhole_138]
    obtain ⟨b0, hb0⟩ : ∃ b0 : Nat, b0 = 3339 - (6 * n + 3182) := ⟨_, rfl⟩
    obtain ⟨b1, hb1⟩ : ∃ b1 : Nat, b1 = 20162 - (36 * n + 19220) := ⟨_, rfl⟩
    refine v_iload dL_isWhole_138 10 rfl ?_
    refine v_aload_n dL_isWhole_140 rfl 0 rfl ?_
    refine v_callVi (As := []) cv_L_212 (S_X10_pipeCount hl) tt_0 rfl rfl rfl (Nat.le_of_ble_eq_true rfl) dL_isWhole_141 (CR_rm (by decide) (by decide) (by omega) (by omega)) (fun r10 w10 => ?_)
    refine v_icmp_ge (tgt := 246) dL_isWhole_144 (by decide) ?_ ?_
    · refine v_iload dL_isWhole_246 4 rfl ?_
      refine v_iconst (v := 2) dL_isWhole_248 (by decide) ?_
      refine v_icmp_lt (tgt := 275) dL_isWhole_249 (by decide) ?_ ?_
      · refine v_sub [0, 1, 2, 3, 4, 5, 6] rfl ?_
        exact S_L_isWhole_275 hl _ _ _ _ _ _ _ _ (by omega) (by omega)
      · refine v_aload_n dL_isWhole_252 rfl 0 rfl ?_
        refine v_callSh (As := [.ref (g.2.1 + 0)]) ch_L_365 (S_L_smallestCut hl) rfl rfl (Nat.le_of_ble_eq_true rfl) dL_isWhole_253 (CR_rm (by decide) (by decide) (by omega) (by omega)) (fun r11 w11 => ?_)
        refine v_iload dL_isWhole_256 7 rfl ?_
        refine v_icmp_ne (tgt := 279) dL_isWhole_258 (by decide) ?_ ?_
        · refine v_sub [0, 1, 2, 3, 4, 5, 6] rfl ?_
          exact S_L_isWhole_279 hl _ _ _ _ _ _ _ _ (by omega) (by omega)
        · refine v_iload dL_isWhole_261 7 rfl ?_
          refine v_iload dL_isWhole_263 8 rfl ?_
          refine v_icmp_gt (tgt := 279) dL_isWhole_265 (by decide) ?_ ?_
          · refine v_sub [0, 1, 2, 3, 4, 5, 6] rfl ?_
            exact S_L_isWhole_279 hl _ _ _ _ _ _ _ _ (by omega) (by omega)
          · refine v_iload dL_isWhole_268 7 rfl ?_
            refine v_iload dL_isWhole_270 9 rfl ?_
            refine v_icmp_gt (tgt := 279) dL_isWhole_272 (by decide) ?_ ?_
            · refine v_sub [0, 1, 2, 3, 4, 5, 6] rfl ?_
              exact S_L_isWhole_279 hl _ _ _ _ _ _ _ _ (by omega) (by omega)
            · refine v_sub [0, 1, 2, 3, 4, 5, 6] rfl ?_
              exact S_L_isWhole_275 hl _ _ _ _ _ _ _ _ (by omega) (by omega)
    · refine v_aload_n dL_isWhole_147 rfl 0 rfl ?_
      refine v_iload dL_isWhole_148 10 rfl ?_
      refine v_callSh (As := [.ref (g.2.1 + 0), .int z10]) ch_L_223 (S_L_isBroken hl) rfl rfl (Nat.le_of_ble_eq_true rfl) dL_isWhole_150 (CR_rm (by decide) (by decide) (by omega) (by omega)) (fun r12 w12 => ?_)
      refine v_iconst (v := 1) dL_isWhole_153 (by decide) ?_
      refine v_icmp_ne (tgt := 161) dL_isWhole_154 (by decide) ?_ ?_
      · refine v_aload_n dL_isWhole_161 rfl 0 rfl ?_
        refine v_iload dL_isWhole_162 10 rfl ?_
        refine v_callSh (As := [.ref (g.2.1 + 0), .int z10]) ch_L_239 (S_L_capacity hl) rfl rfl (Nat.le_of_ble_eq_true rfl) dL_isWhole_164 (CR_rm (by decide) (by decide) (by omega) (by omega)) (fun r13 w13 => ?_)
        refine v_sub [0, 1, 2, 3, 4, 5, 6, 7, 8, 9, 10] rfl ?_
        exact S_L_isWhole_167 hl (B := b0) (Bs := b1) (by omega) (by omega) (fun a0 a1 a2 a3 kc1 ks1 h1 h2 => ih a0 a1 a2 a3 _ _ (by omega) (by omega)) _ _ _ _ _ _ _ (by omega) (by omega)
      · refine v_iconst (v := 0) dL_isWhole_157 (by decide) ?_
        refine v_goto (tgt := 167) dL_isWhole_158 (by decide) ?_
        refine v_sub [0, 1, 2, 3, 4, 5, 6, 7, 8, 9, 10] rfl ?_
        exact S_L_isWhole_167 hl (B := b0) (Bs := b1) (by omega) (by omega) (fun a0 a1 a2 a3 kc1 ks1 h1 h2 => ih a0 a1 a2 a3 _ _ (by omega) (by omega)) _ _ _ _ _ _ _ (by omega) (by omega)
def f_L_isWhole_127 (sc : Nat × (Nat → Int32)) (z2 : Int32) (z3 : Int32) (z4 : Int32) (z5 : Int32) (z6 : Int32) (u0 : Int32) (w : XW) : Option (Int32 × XW) := (f_L_isWhole_138 sc z2 z3 z4 z5 z6 u0 12 0 0 0 w)
set_option maxRecDepth 100000 in
theorem S_L_isWhole_127 {g : GC} (hl : g.1.stackTraces = false) : ∀ (z2 : Int32) (z3 : Int32) (z4 : Int32) (z5 : Int32) (z6 : Int32) (u0 : Int32) (w : XW) (kc ks : Nat), kc + 3254 ≤ 3339 → ks + 19652 ≤ 20162 → VE g cL_isWhole 13 RL (some .boolean) [] (rmL 35 3339 20162) 3339 20162 oI kc ks 127 [(0, .ref (g.2.1 + 0)), (1, .ref g.2.2.2.2.2.2.1), (2, .int z2), (3, .int z3), (4, .int z4), (5, .int z5), (6, .int z6)] [.int u0] w (f_L_isWhole_127 (scG g)  z2 z3 z4 z5 z6 u0 w) := by
  intro z2 z3 z4 z5 z6 u0 w kc ks hk hks
  unfold f_L_isWhole_127
  refine v_istore dL_isWhole_127 (Nat.le_of_ble_eq_true rfl) rfl ?_
  refine v_iconst (v := 0) dL_isWhole_129 (by decide) ?_
  refine v_istore dL_isWhole_130 (Nat.le_of_ble_eq_true rfl) rfl ?_
  refine v_iconst (v := 0) dL_isWhole_132 (by decide) ?_
  refine v_istore dL_isWhole_133 (Nat.le_of_ble_eq_true rfl) rfl ?_
  refine v_iconst (v := 0) dL_isWhole_135 (by decide) ?_
  refine v_istore dL_isWhole_136 (Nat.le_of_ble_eq_true rfl) rfl ?_
  refine v_sub [4, 5, 6, 7, 8, 9, 10, 3, 2, 1, 0] rfl ?_
  exact S_L_isWhole_138 hl _ _ _ _ _ _ _ (by omega) (by omega)
def f_L_isWhole_105 (sc : Nat × (Nat → Int32)) (w : XW) : Option (Int32 × XW) := (some (0, w))
set_option maxRecDepth 100000 in
theorem S_L_isWhole_105 {g : GC} (hl : g.1.stackTraces = false) : ∀ (w : XW) (kc ks : Nat), kc + 0 ≤ 3339 → ks + 0 ≤ 20162 → VE g cL_isWhole 13 RL (some .boolean) [] (rmL 35 3339 20162) 3339 20162 oI kc ks 105 [] [] w (f_L_isWhole_105 (scG g)   w) := by
  intro  w kc ks hk hks
  unfold f_L_isWhole_105
  refine v_iconst (v := 0) dL_isWhole_105 (by decide) ?_
  exact v_zret dL_isWhole_106 rfl rfl rfl (by omega) (by omega)
def f_L_isWhole_48 (sc : Nat × (Nat → Int32)) (K15 : Int32 → Int32 → Int32 → XW → Option (Int32 × XW)) (y2 : Int32) (y3 : Int32) (y4 : Int32) (z5 : Int32) (z6 : Int32) (z7 : Int32) (z8 : Int32) (u0 : Int32) (w : XW) : Option (Int32 × XW) := (bI (f_L_water z7 w) (fun r5 w5 => (bI (f_L_water z7 w5) (fun r6 w6 => (if r6 < 0 then (f_L_isWhole_105 sc w6) else (bI (f_L_water z7 w6) (fun r7 w7 => (if 99 < r7 then (f_L_isWhole_105 sc w7) else (bI (f_L_water u0 w7) (fun r8 w8 => (bI (f_L_water z8 w8) (fun r9 w9 => (if r9 ≤ r8 then (K15 (z5 + r5) (z6 ||| (1 <<< (z8 &&& 31))) (z7 + 1) w9) else (f_L_isWhole_105 sc w9))))))))))))))
set_option maxRecDepth 100000 in
theorem S_L_isWhole_48 {g : GC} (hl : g.1.stackTraces = false) {y2 : Int32} {y3 : Int32} {y4 : Int32} {B Bs : Nat} (hB : B ≤ 3339) (hBs : Bs ≤ 20162) {K15 : Int32 → Int32 → Int32 → XW → Option (Int32 × XW)} (hK15 : ∀ (z5 : Int32) (z6 : Int32) (z7 : Int32) (w : XW) (kc ks : Nat), kc ≤ B → ks ≤ Bs → VE g cL_isWhole 13 RL (some .boolean) [] (rmL 35 3339 20162) 3339 20162 oI kc ks 15 [(0, .ref (g.2.1 + 0)), (1, .ref g.2.2.2.2.2.2.1), (2, .int y2), (3, .int y3), (4, .int y4), (5, .int z5), (6, .int z6), (7, .int z7)] [] w (K15 z5 z6 z7 w)) : ∀ (z5 : Int32) (z6 : Int32) (z7 : Int32) (z8 : Int32) (u0 : Int32) (w : XW) (kc ks : Nat), kc + 5 ≤ B → ks + 30 ≤ Bs → VE g cL_isWhole 13 RL (some .boolean) [] (rmL 35 3339 20162) 3339 20162 oI kc ks 48 [(0, .ref (g.2.1 + 0)), (1, .ref g.2.2.2.2.2.2.1), (2, .int y2), (3, .int y3), (4, .int y4), (5, .int z5), (6, .int z6), (7, .int z7), (8, .int z8)] [.int u0] w (f_L_isWhole_48 (scG g) K15 y2 y3 y4 z5 z6 z7 z8 u0 w) := by
  intro z5 z6 z7 z8 u0 w kc ks hk hks
  unfold f_L_isWhole_48
  refine v_istore dL_isWhole_48 (Nat.le_of_ble_eq_true rfl) rfl ?_
  refine v_iload dL_isWhole_50 7 rfl ?_
  refine v_iconst (v := 1) dL_isWhole_52 (by decide) ?_
  refine v_iload dL_isWhole_53 9 rfl ?_
  refine v_ishl dL_isWhole_55 ?_
  refine v_ior dL_isWhole_56 ?_
  refine v_istore dL_isWhole_57 (Nat.le_of_ble_eq_true rfl) rfl ?_
  refine v_iload dL_isWhole_59 7 rfl ?_
  refine v_aload_n dL_isWhole_61 rfl 2 rfl ?_
  refine v_iload dL_isWhole_62 8 rfl ?_
  refine v_callSh (As := [.ref (g.2.1 + 0), .int z7]) ch_L_217 (S_L_water hl) rfl rfl (Nat.le_of_ble_eq_true rfl) dL_isWhole_64 (CR_rm (by decide) (by decide) (by omega) (by omega)) (fun r5 w5 => ?_)
  refine v_iadd dL_isWhole_67 ?_
  refine v_istore dL_isWhole_68 (Nat.le_of_ble_eq_true rfl) rfl ?_
  refine v_aload_n dL_isWhole_70 rfl 3 rfl ?_
  refine v_iload dL_isWhole_71 8 rfl ?_
  refine v_callSh (As := [.ref (g.2.1 + 0), .int z7]) ch_L_217 (S_L_water hl) rfl rfl (Nat.le_of_ble_eq_true rfl) dL_isWhole_73 (CR_rm (by decide) (by decide) (by omega) (by omega)) (fun r6 w6 => ?_)
  refine v_if_lt (tgt := 105) dL_isWhole_76 (by decide) ?_ ?_
  · refine v_sub [] rfl ?_
    exact S_L_isWhole_105 hl _ _ _ (by omega) (by omega)
  · refine v_aload_n dL_isWhole_79 rfl 3 rfl ?_
    refine v_iload dL_isWhole_80 8 rfl ?_
    refine v_callSh (As := [.ref (g.2.1 + 0), .int z7]) ch_L_217 (S_L_water hl) rfl rfl (Nat.le_of_ble_eq_true rfl) dL_isWhole_82 (CR_rm (by decide) (by decide) (by omega) (by omega)) (fun r7 w7 => ?_)
    refine v_bipush (v := 99) dL_isWhole_85 (by decide) ?_
    refine v_icmp_gt (tgt := 105) dL_isWhole_87 (by decide) ?_ ?_
    · refine v_sub [] rfl ?_
      exact S_L_isWhole_105 hl _ _ _ (by omega) (by omega)
    · refine v_aload_n dL_isWhole_90 rfl 3 rfl ?_
      refine v_iload dL_isWhole_91 2 rfl ?_
      refine v_callSh (As := [.ref (g.2.1 + 0), .int u0]) ch_L_217 (S_L_water hl) rfl rfl (Nat.le_of_ble_eq_true rfl) dL_isWhole_93 (CR_rm (by decide) (by decide) (by omega) (by omega)) (fun r8 w8 => ?_)
      refine v_aload_n dL_isWhole_96 rfl 3 rfl ?_
      refine v_iload dL_isWhole_97 9 rfl ?_
      refine v_callSh (As := [.ref (g.2.1 + 0), .int z8]) ch_L_217 (S_L_water hl) rfl rfl (Nat.le_of_ble_eq_true rfl) dL_isWhole_99 (CR_rm (by decide) (by decide) (by omega) (by omega)) (fun r9 w9 => ?_)
      refine v_icmp_ge (tgt := 107) dL_isWhole_102 (by decide) ?_ ?_
      · refine v_iinc (v := (z7 + 1)) dL_isWhole_107 (q := 8) rfl rfl (Nat.le_of_ble_eq_true rfl) rfl ?_
        refine v_goto (tgt := 15) dL_isWhole_110 (by decide) ?_
        refine v_sub [4, 5, 6, 7, 8, 1, 2, 0] rfl ?_
        exact hK15 _ _ _ _ _ _ (by omega) (by omega)
      · refine v_sub [] rfl ?_
        exact S_L_isWhole_105 hl _ _ _ (by omega) (by omega)
def f_L_isWhole_15 (sc : Nat × (Nat → Int32)) (y2 : Int32) (y3 : Int32) (y4 : Int32) : Nat → Int32 → Int32 → Int32 → XW → Option (Int32 × XW)
  | 0, _, _, _, _ => none
  | n + 1, z5, z6, z7, w => (if y4 ≤ z7 then (if 2 ≤ y4 then (bI (f_L_greatestFlow w) (fun r2 w2 => (f_L_isWhole_127 sc y2 y3 y4 z5 z6 r2 w2))) else (f_L_isWhole_127 sc y2 y3 y4 z5 z6 0 w)) else (bI (f_L_sectionByWater z7 w) (fun r3 w3 => (if z7 = 0 then (f_L_isWhole_48 sc (fun a0 a1 a2 w9 => f_L_isWhole_15 sc y2 y3 y4 n a0 a1 a2 w9) y2 y3 y4 z5 z6 z7 r3 r3 w3) else (bI (f_L_sectionByWater (z7 - 1) w3) (fun r4 w4 => (f_L_isWhole_48 sc (fun a0 a1 a2 w9 => f_L_isWhole_15 sc y2 y3 y4 n a0 a1 a2 w9) y2 y3 y4 z5 z6 z7 r3 r4 w4)))))))
set_option maxRecDepth 100000 in
theorem S_L_isWhole_15 {g : GC} (hl : g.1.stackTraces = false) {y2 : Int32} {y3 : Int32} {y4 : Int32} : ∀ (n : Nat) (z5 : Int32) (z6 : Int32) (z7 : Int32) (w : XW) (kc ks : Nat), kc + (7 * n + 3255) ≤ 3339 → ks + (42 * n + 19658) ≤ 20162 → VE g cL_isWhole 13 RL (some .boolean) [] (rmL 35 3339 20162) 3339 20162 oI kc ks 15 [(0, .ref (g.2.1 + 0)), (1, .ref g.2.2.2.2.2.2.1), (2, .int y2), (3, .int y3), (4, .int y4), (5, .int z5), (6, .int z6), (7, .int z7)] [] w (f_L_isWhole_15 (scG g) y2 y3 y4 n z5 z6 z7 w) := by
  intro n
  induction n with
  | zero => intro z5 z6 z7 w kc ks hk hks; exact v_none
  | succ n ih =>
    intro z5 z6 z7 w kc ks hk hks
    rw [f_L_isWhole_15]
    obtain ⟨b0, hb0⟩ : ∃ b0 : Nat, b0 = 3339 - (7 * n + 3255) := ⟨_, rfl⟩
    obtain ⟨b1, hb1⟩ : ∃ b1 : Nat, b1 = 20162 - (42 * n + 19658) := ⟨_, rfl⟩
    refine v_iload dL_isWhole_15 7 rfl ?_
    refine v_iload dL_isWhole_17 4 rfl ?_
    refine v_icmp_ge (tgt := 113) dL_isWhole_19 (by decide) ?_ ?_
    · refine v_iload dL_isWhole_113 4 rfl ?_
      refine v_iconst (v := 2) dL_isWhole_115 (by decide) ?_
      refine v_icmp_ge (tgt := 123) dL_isWhole_116 (by decide) ?_ ?_
      · refine v_aload_n dL_isWhole_123 rfl 0 rfl ?_
        refine v_callSh (As := [.ref (g.2.1 + 0)]) ch_L_219 (S_L_greatestFlow hl) rfl rfl (Nat.le_of_ble_eq_true rfl) dL_isWhole_124 (CR_rm (by decide) (by decide) (by omega) (by omega)) (fun r2 w2 => ?_)
        refine v_sub [0, 1, 2, 3, 4, 5, 6] rfl ?_
        exact S_L_isWhole_127 hl _ _ _ _ _ _ _ _ _ (by omega) (by omega)
      · refine v_iconst (v := 0) dL_isWhole_119 (by decide) ?_
        refine v_goto (tgt := 127) dL_isWhole_120 (by decide) ?_
        refine v_sub [0, 1, 2, 3, 4, 5, 6] rfl ?_
        exact S_L_isWhole_127 hl _ _ _ _ _ _ _ _ _ (by omega) (by omega)
    · refine v_aload_n dL_isWhole_22 rfl 0 rfl ?_
      refine v_iload dL_isWhole_23 7 rfl ?_
      refine v_callSh (As := [.ref (g.2.1 + 0), .int z7]) ch_L_363 (S_L_sectionByWater hl) rfl rfl (Nat.le_of_ble_eq_true rfl) dL_isWhole_25 (CR_rm (by decide) (by decide) (by omega) (by omega)) (fun r3 w3 => ?_)
      refine v_istore dL_isWhole_28 (Nat.le_of_ble_eq_true rfl) rfl ?_
      refine v_iload dL_isWhole_30 8 rfl ?_
      refine v_if_ne (tgt := 40) dL_isWhole_32 (by decide) ?_ ?_
      · refine v_aload_n dL_isWhole_40 rfl 1 rfl ?_
        refine v_iload dL_isWhole_41 8 rfl ?_
        refine v_iconst (v := 1) dL_isWhole_43 (by decide) ?_
        refine v_isub dL_isWhole_44 ?_
        refine v_callSh (As := [.ref (g.2.1 + 0), .int (z7 - 1)]) ch_L_363 (S_L_sectionByWater hl) rfl rfl (Nat.le_of_ble_eq_true rfl) dL_isWhole_45 (CR_rm (by decide) (by decide) (by omega) (by omega)) (fun r4 w4 => ?_)
        refine v_sub [1, 2, 3, 4, 5, 6, 7, 8, 0] rfl ?_
        exact S_L_isWhole_48 hl (B := b0) (Bs := b1) (by omega) (by omega) (fun a0 a1 a2 a3 kc1 ks1 h1 h2 => ih a0 a1 a2 a3 _ _ (by omega) (by omega)) _ _ _ _ _ _ _ _ (by omega) (by omega)
      · refine v_iload dL_isWhole_35 0 rfl ?_
        refine v_goto (tgt := 48) dL_isWhole_37 (by decide) ?_
        refine v_sub [1, 2, 3, 4, 5, 6, 7, 8, 0] rfl ?_
        exact S_L_isWhole_48 hl (B := b0) (Bs := b1) (by omega) (by omega) (fun a0 a1 a2 a3 kc1 ks1 h1 h2 => ih a0 a1 a2 a3 _ _ (by omega) (by omega)) _ _ _ _ _ _ _ _ (by omega) (by omega)
def f_L_isWhole (sc : Nat × (Nat → Int32)) (x2 : Int32) (x3 : Int32) (w : XW) : Option (Int32 × XW) := (bI (f_X10_sectionCount w) (fun r1 w1 => (f_L_isWhole_15 sc x2 x3 r1 12 0 0 0 w1)))
set_option maxRecDepth 100000 in
theorem W_L_isWhole {g : GC} (hl : g.1.stackTraces = false) {x2 : Int32} {x3 : Int32} {w : XW} : VE g cL_isWhole 13 RL (some .boolean) [] (rmL 35 3339 20162) 3339 20162 oI 0 0 0 [(0, .ref (g.2.1 + 0)), (1, .ref g.2.2.2.2.2.2.1), (2, .int x2), (3, .int x3)] [] w (f_L_isWhole (scG g) x2 x3 w) := by
  unfold f_L_isWhole
  refine v_aload_n dL_isWhole_0 rfl 0 rfl ?_
  refine v_callVi (As := []) cv_L_206 (S_X10_sectionCount hl) tt_0 rfl rfl rfl (Nat.le_of_ble_eq_true rfl) dL_isWhole_1 (CR_rm (by decide) (by decide) (by omega) (by omega)) (fun r1 w1 => ?_)
  refine v_istore dL_isWhole_4 (Nat.le_of_ble_eq_true rfl) rfl ?_
  refine v_iconst (v := 0) dL_isWhole_6 (by decide) ?_
  refine v_istore dL_isWhole_7 (Nat.le_of_ble_eq_true rfl) rfl ?_
  refine v_iconst (v := 0) dL_isWhole_9 (by decide) ?_
  refine v_istore dL_isWhole_10 (Nat.le_of_ble_eq_true rfl) rfl ?_
  refine v_iconst (v := 0) dL_isWhole_12 (by decide) ?_
  refine v_istore dL_isWhole_13 (Nat.le_of_ble_eq_true rfl) rfl ?_
  refine v_sub [4, 5, 6, 7, 3, 2, 1, 0] rfl ?_
  exact S_L_isWhole_15 hl _ _ _ _ _ _ _ (by omega) (by omega)
theorem S_L_isWhole {g : GC} (hl : g.1.stackTraces = false) {x2 : Int32} {x3 : Int32} {w : XW} : ∀ q, f_L_isWhole (scG g) x2 x3 w = some q → MM g (.code yL_isWhole cL_isWhole 13 (some .boolean)) yL_isWhole (rmL 35 3339 20162) 3339 20162 [.ref (g.2.1 + 0), .ref g.2.2.2.2.2.2.1, .int x2, .int x3] w (oI q) := fun q hq => MM_of (own := RL) hl (by decide) gw_1396 rfl (Nat.le_of_ble_eq_true rfl) (W_L_isWhole hl q hq) ⟨rfl, rfl⟩
