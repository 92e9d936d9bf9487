theorem dL_law_13 : decode cL_law 13 = .ok (.iconst 0, 1) := by decide +kernel
theorem dL_law_14 : decode cL_law 14 = .ok (.istore_n 3, 1) := by decide +kernel
theorem dL_law_15 : decode cL_law 15 = .ok (.aload_n 2, 1) := by decide +kernel
theorem dL_law_16 : decode cL_law 16 = .ok (.iload_n 3, 1) := by decide +kernel
theorem dL_law_17 : decode cL_law 17 = .ok (.aload_n 1, 1) := by decide +kernel
theorem dL_law_18 : decode cL_law 18 = .ok (.invokestatic 195, 3) := by decide +kernel
theorem dL_law_21 : decode cL_law 21 = .ok (.lastore, 1) := by decide +kernel
theorem dL_law_22 : decode cL_law 22 = .ok (.iconst 0, 1) := by decide +kernel
theorem dL_law_23 : decode cL_law 23 = .ok (.istore 4, 2) := by decide +kernel
theorem dL_law_25 : decode cL_law 25 = .ok (.iconst 0, 1) := by decide +kernel
theorem dL_law_26 : decode cL_law 26 = .ok (.istore 5, 2) := by decide +kernel
theorem dL_law_28 : decode cL_law 28 = .ok (.iload 5, 2) := by decide +kernel
theorem dL_law_30 : decode cL_law 30 = .ok (.bipush 54, 2) := by decide +kernel
theorem dL_law_32 : decode cL_law 32 = .ok (.if_icmp .ge 840, 3) := by decide +kernel
theorem dL_law_35 : decode cL_law 35 = .ok (.aload_n 1, 1) := by decide +kernel
theorem dL_law_36 : decode cL_law 36 = .ok (.invokestatic 195, 3) := by decide +kernel
theorem dL_law_39 : decode cL_law 39 = .ok (.lstore 6, 2) := by decide +kernel
theorem dL_law_41 : decode cL_law 41 = .ok (.aload_n 1, 1) := by decide +kernel
theorem dL_law_42 : decode cL_law 42 = .ok (.invokevirtual 199, 3) := by decide +kernel
theorem dL_law_45 : decode cL_law 45 = .ok (.istore 8, 2) := by decide +kernel
theorem dL_law_47 : decode cL_law 47 = .ok (.iload 5, 2) := by decide +kernel
theorem dL_law_49 : decode cL_law 49 = .ok (.iconst 4, 1) := by decide +kernel
theorem dL_law_50 : decode cL_law 50 = .ok (.if_icmp .ge 7, 3) := by decide +kernel
theorem dL_law_53 : decode cL_law 53 = .ok (.iconst 0, 1) := by decide +kernel
theorem dL_law_54 : decode cL_law 54 = .ok (.goto 35, 3) := by decide +kernel
theorem dL_law_57 : decode cL_law 57 = .ok (.iload 5, 2) := by decide +kernel
theorem dL_law_59 : decode cL_law 59 = .ok (.bipush 7, 2) := by decide +kernel
theorem dL_law_61 : decode cL_law 61 = .ok (.if_icmp .ge 8, 3) := by decide +kernel
theorem dL_law_64 : decode cL_law 64 = .ok (.bipush 16, 2) := by decide +kernel
theorem dL_law_66 : decode cL_law 66 = .ok (.goto 23, 3) := by decide +kernel
theorem dL_law_69 : decode cL_law 69 = .ok (.iload 5, 2) := by decide +kernel
theorem dL_law_71 : decode cL_law 71 = .ok (.bipush 10, 2) := by decide +kernel
theorem dL_law_73 : decode cL_law 73 = .ok (.if_icmp .ge 8, 3) := by decide +kernel
theorem dL_law_76 : decode cL_law 76 = .ok (.bipush 8, 2) := by decide +kernel
theorem dL_law_78 : decode cL_law 78 = .ok (.goto 11, 3) := by decide +kernel
theorem dL_law_81 : decode cL_law 81 = .ok (.aload_n 0, 1) := by decide +kernel
theorem dL_law_82 : decode cL_law 82 = .ok (.iload 4, 2) := by decide +kernel
theorem dL_law_84 : decode cL_law 84 = .ok (.bipush 46, 2) := by decide +kernel
theorem dL_law_86 : decode cL_law 86 = .ok (.invokestatic 202, 3) := by decide +kernel
theorem dL_law_89 : decode cL_law 89 = .ok (.istore 9, 2) := by decide +kernel
theorem dL_law_91 : decode cL_law 91 = .ok (.aload_n 1, 1) := by decide +kernel
theorem dL_law_92 : decode cL_law 92 = .ok (.invokevirtual 206, 3) := by decide +kernel
theorem dL_law_95 : decode cL_law 95 = .ok (.istore 10, 2) := by decide +kernel
theorem dL_law_97 : decode cL_law 97 = .ok (.aload_n 0, 1) := by decide +kernel
theorem dL_law_98 : decode cL_law 98 = .ok (.iload 4, 2) := by decide +kernel
theorem dL_law_100 : decode cL_law 100 = .ok (.iconst 1, 1) := by decide +kernel
theorem dL_law_101 : decode cL_law 101 = .ok (.iadd, 1) := by decide +kernel
theorem dL_law_102 : decode cL_law 102 = .ok (.iload 10, 2) := by decide +kernel
theorem dL_law_104 : decode cL_law 104 = .ok (.iload 5, 2) := by decide +kernel
theorem dL_law_106 : decode cL_law 106 = .ok (.bipush 13, 2) := by decide +kernel
theorem dL_law_108 : decode cL_law 108 = .ok (.irem, 1) := by decide +kernel
theorem dL_law_109 : decode cL_law 109 = .ok (.bipush 12, 2) := by decide +kernel
theorem dL_law_111 : decode cL_law 111 = .ok (.if_icmp .eq 8, 3) := by decide +kernel
theorem dL_law_114 : decode cL_law 114 = .ok (.iload 10, 2) := by decide +kernel
theorem dL_law_116 : decode cL_law 116 = .ok (.ifCond .ne 7, 3) := by decide +kernel
theorem dL_law_119 : decode cL_law 119 = .ok (.iconst 1, 1) := by decide +kernel
theorem dL_law_120 : decode cL_law 120 = .ok (.goto 4, 3) := by decide +kernel
theorem dL_law_123 : decode cL_law 123 = .ok (.iconst 0, 1) := by decide +kernel
theorem dL_law_124 : decode cL_law 124 = .ok (.iadd, 1) := by decide +kernel
theorem dL_law_125 : decode cL_law 125 = .ok (.invokestatic 202, 3) := by decide +kernel
theorem dL_law_128 : decode cL_law 128 = .ok (.istore 11, 2) := by decide +kernel
theorem dL_law_130 : decode cL_law 130 = .ok (.aload_n 1, 1) := by decide +kernel
theorem dL_law_131 : decode cL_law 131 = .ok (.invokevirtual 209, 3) := by decide +kernel
theorem dL_law_134 : decode cL_law 134 = .ok (.istore 12, 2) := by decide +kernel
theorem dL_law_136 : decode cL_law 136 = .ok (.aload_n 0, 1) := by decide +kernel
theorem dL_law_137 : decode cL_law 137 = .ok (.iload 4, 2) := by decide +kernel
theorem dL_law_139 : decode cL_law 139 = .ok (.iconst 2, 1) := by decide +kernel
theorem dL_law_140 : decode cL_law 140 = .ok (.iadd, 1) := by decide +kernel
theorem dL_law_141 : decode cL_law 141 = .ok (.iload 12, 2) := by decide +kernel
theorem dL_law_143 : decode cL_law 143 = .ok (.iconst 1, 1) := by decide +kernel
theorem dL_law_144 : decode cL_law 144 = .ok (.iadd, 1) := by decide +kernel
theorem dL_law_145 : decode cL_law 145 = .ok (.invokestatic 202, 3) := by decide +kernel
theorem dL_law_148 : decode cL_law 148 = .ok (.istore 13, 2) := by decide +kernel
theorem dL_law_150 : decode cL_law 150 = .ok (.aload_n 1, 1) := by decide +kernel
theorem dL_law_151 : decode cL_law 151 = .ok (.invokevirtual 212, 3) := by decide +kernel
theorem dL_law_154 : decode cL_law 154 = .ok (.istore 14, 2) := by decide +kernel
theorem dL_law_156 : decode cL_law 156 = .ok (.aload_n 0, 1) := by decide +kernel
theorem dL_law_157 : decode cL_law 157 = .ok (.iload 4, 2) := by decide +kernel
theorem dL_law_159 : decode cL_law 159 = .ok (.iconst 1, 1) := by decide +kernel
theorem dL_law_160 : decode cL_law 160 = .ok (.iadd, 1) := by decide +kernel
theorem dL_law_161 : decode cL_law 161 = .ok (.iload 14, 2) := by decide +kernel
theorem dL_law_163 : decode cL_law 163 = .ok (.iload 5, 2) := by decide +kernel
theorem dL_law_165 : decode cL_law 165 = .ok (.bipush 13, 2) := by decide +kernel
theorem dL_law_167 : decode cL_law 167 = .ok (.irem, 1) := by decide +kernel
theorem dL_law_168 : decode cL_law 168 = .ok (.bipush 12, 2) := by decide +kernel
theorem dL_law_170 : decode cL_law 170 = .ok (.if_icmp .eq 8, 3) := by decide +kernel
theorem dL_law_173 : decode cL_law 173 = .ok (.iload 14, 2) := by decide +kernel
theorem dL_law_175 : decode cL_law 175 = .ok (.ifCond .ne 7, 3) := by decide +kernel
theorem dL_law_178 : decode cL_law 178 = .ok (.iconst 1, 1) := by decide +kernel
theorem dL_law_179 : decode cL_law 179 = .ok (.goto 4, 3) := by decide +kernel
theorem dL_law_182 : decode cL_law 182 = .ok (.iconst 0, 1) := by decide +kernel
theorem dL_law_183 : decode cL_law 183 = .ok (.iadd, 1) := by decide +kernel
theorem dL_law_184 : decode cL_law 184 = .ok (.invokestatic 202, 3) := by decide +kernel
theorem dL_law_187 : decode cL_law 187 = .ok (.istore 15, 2) := by decide +kernel
theorem dL_law_189 : decode cL_law 189 = .ok (.aload_n 1, 1) := by decide +kernel
theorem dL_law_190 : decode cL_law 190 = .ok (.iload 13, 2) := by decide +kernel
theorem dL_law_192 : decode cL_law 192 = .ok (.invokestatic 215, 3) := by decide +kernel
theorem dL_law_195 : decode cL_law 195 = .ok (.istore 16, 2) := by decide +kernel
theorem dL_law_197 : decode cL_law 197 = .ok (.aload_n 1, 1) := by decide +kernel
theorem dL_law_198 : decode cL_law 198 = .ok (.iload 11, 2) := by decide +kernel
theorem dL_law_200 : decode cL_law 200 = .ok (.invokestatic 217, 3) := by decide +kernel
theorem dL_law_203 : decode cL_law 203 = .ok (.istore 17, 2) := by decide +kernel
theorem dL_law_205 : decode cL_law 205 = .ok (.iload 10, 2) := by decide +kernel
theorem dL_law_207 : decode cL_law 207 = .ok (.iconst 2, 1) := by decide +kernel
theorem dL_law_208 : decode cL_law 208 = .ok (.if_icmp .ge 8, 3) := by decide +kernel
theorem dL_law_211 : decode cL_law 211 = .ok (.bipush (-76), 2) := by decide +kernel
theorem dL_law_213 : decode cL_law 213 = .ok (.goto 7, 3) := by decide +kernel
theorem dL_law_216 : decode cL_law 216 = .ok (.aload_n 1, 1) := by decide +kernel
theorem dL_law_217 : decode cL_law 217 = .ok (.invokestatic 219, 3) := by decide +kernel
theorem dL_law_220 : decode cL_law 220 = .ok (.istore 18, 2) := by decide +kernel
theorem dL_law_222 : decode cL_law 222 = .ok (.aload_n 1, 1) := by decide +kernel
theorem dL_law_223 : decode cL_law 223 = .ok (.iload 15, 2) := by decide +kernel
theorem dL_law_225 : decode cL_law 225 = .ok (.invokestatic 221, 3) := by decide +kernel
theorem dL_law_228 : decode cL_law 228 = .ok (.istore 19, 2) := by decide +kernel
theorem dL_law_230 : decode cL_law 230 = .ok (.aload_n 1, 1) := by decide +kernel
theorem dL_law_231 : decode cL_law 231 = .ok (.iload 15, 2) := by decide +kernel
theorem dL_law_233 : decode cL_law 233 = .ok (.invokestatic 223, 3) := by decide +kernel
theorem dL_law_236 : decode cL_law 236 = .ok (.istore 20, 2) := by decide +kernel
theorem dL_law_238 : decode cL_law 238 = .ok (.aload_n 1, 1) := by decide +kernel
theorem dL_law_239 : decode cL_law 239 = .ok (.invokevirtual 225, 3) := by decide +kernel
theorem dL_law_242 : decode cL_law 242 = .ok (.istore 21, 2) := by decide +kernel
theorem dL_law_244 : decode cL_law 244 = .ok (.iload 10, 2) := by decide +kernel
theorem dL_law_246 : decode cL_law 246 = .ok (.ifCond .ne 7, 3) := by decide +kernel
theorem dL_law_249 : decode cL_law 249 = .ok (.iconst 0, 1) := by decide +kernel
theorem dL_law_250 : decode cL_law 250 = .ok (.goto 8, 3) := by decide +kernel
theorem dL_law_253 : decode cL_law 253 = .ok (.aload_n 1, 1) := by decide +kernel
theorem dL_law_254 : decode cL_law 254 = .ok (.iconst 0, 1) := by decide +kernel
theorem dL_law_255 : decode cL_law 255 = .ok (.invokestatic 217, 3) := by decide +kernel
theorem dL_law_258 : decode cL_law 258 = .ok (.istore 22, 2) := by decide +kernel
theorem dL_law_260 : decode cL_law 260 = .ok (.aload_n 1, 1) := by decide +kernel
theorem dL_law_261 : decode cL_law 261 = .ok (.invokestatic 228, 3) := by decide +kernel
theorem dL_law_264 : decode cL_law 264 = .ok (.istore 23, 2) := by decide +kernel
theorem dL_law_266 : decode cL_law 266 = .ok (.aload_n 0, 1) := by decide +kernel
theorem dL_law_267 : decode cL_law 267 = .ok (.iload 4, 2) := by decide +kernel
theorem dL_law_269 : decode cL_law 269 = .ok (.iload 9, 2) := by decide +kernel
theorem dL_law_271 : decode cL_law 271 = .ok (.aload_n 1, 1) := by decide +kernel
theorem dL_law_272 : decode cL_law 272 = .ok (.iload 11, 2) := by decide +kernel
theorem dL_law_274 : decode cL_law 274 = .ok (.iload 13, 2) := by decide +kernel
theorem dL_law_276 : decode cL_law 276 = .ok (.iload 15, 2) := by decide +kernel
theorem dL_law_278 : decode cL_law 278 = .ok (.invokestatic 231, 3) := by decide +kernel
theorem dL_law_281 : decode cL_law 281 = .ok (.istore 24, 2) := by decide +kernel
theorem dL_law_283 : decode cL_law 283 = .ok (.iload 24, 2) := by decide +kernel
theorem dL_law_285 : decode cL_law 285 = .ok (.bipush (-70), 2) := by decide +kernel
theorem dL_law_287 : decode cL_law 287 = .ok (.if_icmp .le 7, 3) := by decide +kernel
theorem dL_law_290 : decode cL_law 290 = .ok (.iconst 1, 1) := by decide +kernel
theorem dL_law_291 : decode cL_law 291 = .ok (.goto 4, 3) := by decide +kernel
theorem dL_law_294 : decode cL_law 294 = .ok (.iconst 0, 1) := by decide +kernel
theorem dL_law_295 : decode cL_law 295 = .ok (.istore 25, 2) := by decide +kernel
theorem dL_law_297 : decode cL_law 297 = .ok (.iload 25, 2) := by decide +kernel
theorem dL_law_299 : decode cL_law 299 = .ok (.ifCond .eq 34, 3) := by decide +kernel
theorem dL_law_302 : decode cL_law 302 = .ok (.iload 9, 2) := by decide +kernel
theorem dL_law_304 : decode cL_law 304 = .ok (.iconst 3, 1) := by decide +kernel
theorem dL_law_305 : decode cL_law 305 = .ok (.if_icmp .lt 28, 3) := by decide +kernel
theorem dL_law_308 : decode cL_law 308 = .ok (.iload 9, 2) := by decide +kernel
theorem dL_law_310 : decode cL_law 310 = .ok (.bipush 7, 2) := by decide +kernel
theorem dL_law_312 : decode cL_law 312 = .ok (.if_icmp .gt 21, 3) := by decide +kernel
theorem dL_law_315 : decode cL_law 315 = .ok (.iload 24, 2) := by decide +kernel
theorem dL_law_317 : decode cL_law 317 = .ok (.aload_n 1, 1) := by decide +kernel
theorem dL_law_318 : decode cL_law 318 = .ok (.iload 11, 2) := by decide +kernel
theorem dL_law_320 : decode cL_law 320 = .ok (.invokestatic 217, 3) := by decide +kernel
theorem dL_law_323 : decode cL_law 323 = .ok (.if_icmp .ne 14, 3) := by decide +kernel
theorem dL_law_326 : decode cL_law 326 = .ok (.iload 24, 2) := by decide +kernel
theorem dL_law_328 : decode cL_law 328 = .ok (.iload 17, 2) := by decide +kernel
theorem dL_law_330 : decode cL_law 330 = .ok (.if_icmp .le 7, 3) := by decide +kernel
theorem dL_law_333 : decode cL_law 333 = .ok (.iconst 1, 1) := by decide +kernel
theorem dL_law_334 : decode cL_law 334 = .ok (.goto 4, 3) := by decide +kernel
theorem dL_law_337 : decode cL_law 337 = .ok (.iconst 0, 1) := by decide +kernel
theorem dL_law_338 : decode cL_law 338 = .ok (.istore 26, 2) := by decide +kernel
theorem dL_law_340 : decode cL_law 340 = .ok (.iload 26, 2) := by decide +kernel
theorem dL_law_342 : decode cL_law 342 = .ok (.iload 9, 2) := by decide +kernel
theorem dL_law_344 : decode cL_law 344 = .ok (.bipush 14, 2) := by decide +kernel
theorem dL_law_346 : decode cL_law 346 = .ok (.if_icmp .lt 73, 3) := by decide +kernel
theorem dL_law_349 : decode cL_law 349 = .ok (.iload 9, 2) := by decide +kernel
theorem dL_law_351 : decode cL_law 351 = .ok (.bipush 20, 2) := by decide +kernel
theorem dL_law_353 : decode cL_law 353 = .ok (.if_icmp .gt 66, 3) := by decide +kernel
theorem dL_law_356 : decode cL_law 356 = .ok (.iload 25, 2) := by decide +kernel
theorem dL_law_358 : decode cL_law 358 = .ok (.iload 16, 2) := by decide +kernel
theorem dL_law_360 : decode cL_law 360 = .ok (.iconst 1, 1) := by decide +kernel
theorem dL_law_361 : decode cL_law 361 = .ok (.if_icmp .ne 7, 3) := by decide +kernel
theorem dL_law_364 : decode cL_law 364 = .ok (.iconst 1, 1) := by decide +kernel
theorem dL_law_365 : decode cL_law 365 = .ok (.goto 4, 3) := by decide +kernel
theorem dL_law_368 : decode cL_law 368 = .ok (.iconst 0, 1) := by decide +kernel
theorem dL_law_369 : decode cL_law 369 = .ok (.if_icmp .ne 54, 3) := by decide +kernel
theorem dL_law_372 : decode cL_law 372 = .ok (.iload 25, 2) := by decide +kernel
theorem dL_law_374 : decode cL_law 374 = .ok (.ifCond .eq 26, 3) := by decide +kernel
theorem dL_law_377 : decode cL_law 377 = .ok (.iload 24, 2) := by decide +kernel
theorem dL_law_379 : decode cL_law 379 = .ok (.iload 12, 2) := by decide +kernel
theorem dL_law_381 : decode cL_law 381 = .ok (.iconst 1, 1) := by decide +kernel
theorem dL_law_382 : decode cL_law 382 = .ok (.iadd, 1) := by decide +kernel
theorem dL_law_383 : decode cL_law 383 = .ok (.if_icmp .ne 40, 3) := by decide +kernel
theorem dL_law_386 : decode cL_law 386 = .ok (.aload_n 1, 1) := by decide +kernel
theorem dL_law_387 : decode cL_law 387 = .ok (.iload 13, 2) := by decide +kernel
theorem dL_law_389 : decode cL_law 389 = .ok (.invokestatic 235, 3) := by decide +kernel
theorem dL_law_392 : decode cL_law 392 = .ok (.iload 12, 2) := by decide +kernel
theorem dL_law_394 : decode cL_law 394 = .ok (.if_icmp .ne 29, 3) := by decide +kernel
theorem dL_law_397 : decode cL_law 397 = .ok (.goto 22, 3) := by decide +kernel
theorem dL_law_400 : decode cL_law 400 = .ok (.aload_n 1, 1) := by decide +kernel
theorem dL_law_401 : decode cL_law 401 = .ok (.invokestatic 185, 3) := by decide +kernel
theorem dL_law_404 : decode cL_law 404 = .ok (.iload 12, 2) := by decide +kernel
theorem dL_law_406 : decode cL_law 406 = .ok (.iload 10, 2) := by decide +kernel
theorem dL_law_408 : decode cL_law 408 = .ok (.if_icmp .ne 7, 3) := by decide +kernel
theorem dL_law_411 : decode cL_law 411 = .ok (.iconst 2, 1) := by decide +kernel
theorem dL_law_412 : decode cL_law 412 = .ok (.goto 4, 3) := by decide +kernel
theorem dL_law_415 : decode cL_law 415 = .ok (.iconst 4, 1) := by decide +kernel
theorem dL_law_416 : decode cL_law 416 = .ok (.if_icmp .ne 7, 3) := by decide +kernel
theorem dL_law_419 : decode cL_law 419 = .ok (.iconst 1, 1) := by decide +kernel
theorem dL_law_420 : decode cL_law 420 = .ok (.goto 4, 3) := by decide +kernel
theorem dL_law_423 : decode cL_law 423 = .ok (.iconst 0, 1) := by decide +kernel
theorem dL_law_424 : decode cL_law 424 = .ok (.iand, 1) := by decide +kernel
theorem dL_law_425 : decode cL_law 425 = .ok (.istore 26, 2) := by decide +kernel
theorem dL_law_427 : decode cL_law 427 = .ok (.iload 26, 2) := by decide +kernel
theorem dL_law_429 : decode cL_law 429 = .ok (.iload 25, 2) := by decide +kernel
theorem dL_law_431 : decode cL_law 431 = .ok (.ifCond .eq 51, 3) := by decide +kernel
theorem dL_law_434 : decode cL_law 434 = .ok (.iload 9, 2) := by decide +kernel
theorem dL_law_436 : decode cL_law 436 = .ok (.bipush 21, 2) := by decide +kernel
theorem dL_law_438 : decode cL_law 438 = .ok (.if_icmp .lt 44, 3) := by decide +kernel
theorem dL_law_441 : decode cL_law 441 = .ok (.iload 9, 2) := by decide +kernel
theorem dL_law_443 : decode cL_law 443 = .ok (.bipush 22, 2) := by decide +kernel
theorem dL_law_445 : decode cL_law 445 = .ok (.if_icmp .gt 37, 3) := by decide +kernel
theorem dL_law_448 : decode cL_law 448 = .ok (.aload_n 1, 1) := by decide +kernel
theorem dL_law_449 : decode cL_law 449 = .ok (.invokevirtual 209, 3) := by decide +kernel
theorem dL_law_452 : decode cL_law 452 = .ok (.iload 12, 2) := by decide +kernel
theorem dL_law_454 : decode cL_law 454 = .ok (.iconst 1, 1) := by decide +kernel
theorem dL_law_455 : decode cL_law 455 = .ok (.isub, 1) := by decide +kernel
theorem dL_law_456 : decode cL_law 456 = .ok (.if_icmp .ne 30, 3) := by decide +kernel
theorem dL_law_459 : decode cL_law 459 = .ok (.aload_n 1, 1) := by decide +kernel
theorem dL_law_460 : decode cL_law 460 = .ok (.iload 12, 2) := by decide +kernel
theorem dL_law_462 : decode cL_law 462 = .ok (.iconst 1, 1) := by decide +kernel
theorem dL_law_463 : decode cL_law 463 = .ok (.isub, 1) := by decide +kernel
theorem dL_law_464 : decode cL_law 464 = .ok (.invokestatic 237, 3) := by decide +kernel
theorem dL_law_467 : decode cL_law 467 = .ok (.bipush (-75), 2) := by decide +kernel
theorem dL_law_469 : decode cL_law 469 = .ok (.if_icmp .ne 17, 3) := by decide +kernel
theorem dL_law_472 : decode cL_law 472 = .ok (.aload_n 1, 1) := by decide +kernel
theorem dL_law_473 : decode cL_law 473 = .ok (.iload 24, 2) := by decide +kernel
theorem dL_law_475 : decode cL_law 475 = .ok (.invokestatic 215, 3) := by decide +kernel
theorem dL_law_478 : decode cL_law 478 = .ok (.iconst 1, 1) := by decide +kernel
theorem dL_law_479 : decode cL_law 479 = .ok (.if_icmp .ne 7, 3) := by decide +kernel
theorem dL_law_482 : decode cL_law 482 = .ok (.iconst 1, 1) := by decide +kernel
theorem dL_law_483 : decode cL_law 483 = .ok (.goto 4, 3) := by decide +kernel
theorem dL_law_486 : decode cL_law 486 = .ok (.iconst 0, 1) := by decide +kernel
theorem dL_law_487 : decode cL_law 487 = .ok (.iand, 1) := by decide +kernel
theorem dL_law_488 : decode cL_law 488 = .ok (.istore 26, 2) := by decide +kernel
theorem dL_law_490 : decode cL_law 490 = .ok (.iload 26, 2) := by decide +kernel
theorem dL_law_492 : decode cL_law 492 = .ok (.iload 25, 2) := by decide +kernel
theorem dL_law_494 : decode cL_law 494 = .ok (.ifCond .eq 40, 3) := by decide +kernel
theorem dL_law_497 : decode cL_law 497 = .ok (.iload 9, 2) := by decide +kernel
theorem dL_law_499 : decode cL_law 499 = .ok (.bipush 31, 2) := by decide +kernel
theorem dL_law_501 : decode cL_law 501 = .ok (.if_icmp .lt 33, 3) := by decide +kernel
theorem dL_law_504 : decode cL_law 504 = .ok (.iload 9, 2) := by decide +kernel
theorem dL_law_506 : decode cL_law 506 = .ok (.bipush 32, 2) := by decide +kernel
theorem dL_law_508 : decode cL_law 508 = .ok (.if_icmp .gt 26, 3) := by decide +kernel
theorem dL_law_511 : decode cL_law 511 = .ok (.aload_n 1, 1) := by decide +kernel
theorem dL_law_512 : decode cL_law 512 = .ok (.invokestatic 219, 3) := by decide +kernel
theorem dL_law_515 : decode cL_law 515 = .ok (.iload 18, 2) := by decide +kernel
theorem dL_law_517 : decode cL_law 517 = .ok (.iload 19, 2) := by decide +kernel
theorem dL_law_519 : decode cL_law 519 = .ok (.isub, 1) := by decide +kernel
theorem dL_law_520 : decode cL_law 520 = .ok (.if_icmp .ne 18, 3) := by decide +kernel
theorem dL_law_523 : decode cL_law 523 = .ok (.iload 19, 2) := by decide +kernel
theorem dL_law_525 : decode cL_law 525 = .ok (.aload_n 1, 1) := by decide +kernel
theorem dL_law_526 : decode cL_law 526 = .ok (.iload 15, 2) := by decide +kernel
theorem dL_law_528 : decode cL_law 528 = .ok (.invokestatic 239, 3) := by decide +kernel
theorem dL_law_531 : decode cL_law 531 = .ok (.if_icmp .gt 7, 3) := by decide +kernel
theorem dL_law_534 : decode cL_law 534 = .ok (.iconst 1, 1) := by decide +kernel
theorem dL_law_535 : decode cL_law 535 = .ok (.goto 4, 3) := by decide +kernel
theorem dL_law_538 : decode cL_law 538 = .ok (.iconst 0, 1) := by decide +kernel
theorem dL_law_539 : decode cL_law 539 = .ok (.iand, 1) := by decide +kernel
theorem dL_law_540 : decode cL_law 540 = .ok (.istore 26, 2) := by decide +kernel
theorem dL_law_542 : decode cL_law 542 = .ok (.iload 26, 2) := by decide +kernel
theorem dL_law_544 : decode cL_law 544 = .ok (.iload 25, 2) := by decide +kernel
theorem dL_law_546 : decode cL_law 546 = .ok (.ifCond .eq 39, 3) := by decide +kernel
theorem dL_law_549 : decode cL_law 549 = .ok (.iload 9, 2) := by decide +kernel
theorem dL_law_551 : decode cL_law 551 = .ok (.bipush 33, 2) := by decide +kernel
theorem dL_law_553 : decode cL_law 553 = .ok (.if_icmp .lt 32, 3) := by decide +kernel
theorem dL_law_556 : decode cL_law 556 = .ok (.iload 9, 2) := by decide +kernel
theorem dL_law_558 : decode cL_law 558 = .ok (.bipush 34, 2) := by decide +kernel
theorem dL_law_560 : decode cL_law 560 = .ok (.if_icmp .gt 25, 3) := by decide +kernel
theorem dL_law_563 : decode cL_law 563 = .ok (.iload 20, 2) := by decide +kernel
theorem dL_law_565 : decode cL_law 565 = .ok (.iconst 1, 1) := by decide +kernel
theorem dL_law_566 : decode cL_law 566 = .ok (.if_icmp .ne 23, 3) := by decide +kernel
theorem dL_law_569 : decode cL_law 569 = .ok (.aload_n 1, 1) := by decide +kernel
theorem dL_law_570 : decode cL_law 570 = .ok (.invokestatic 219, 3) := by decide +kernel
theorem dL_law_573 : decode cL_law 573 = .ok (.iload 18, 2) := by decide +kernel
theorem dL_law_575 : decode cL_law 575 = .ok (.aload_n 1, 1) := by decide +kernel
theorem dL_law_576 : decode cL_law 576 = .ok (.iload 15, 2) := by decide +kernel
theorem dL_law_578 : decode cL_law 578 = .ok (.invokestatic 221, 3) := by decide +kernel
theorem dL_law_581 : decode cL_law 581 = .ok (.iadd, 1) := by decide +kernel
theorem dL_law_582 : decode cL_law 582 = .ok (.if_icmp .ne 7, 3) := by decide +kernel
theorem dL_law_585 : decode cL_law 585 = .ok (.iconst 1, 1) := by decide +kernel
theorem dL_law_586 : decode cL_law 586 = .ok (.goto 4, 3) := by decide +kernel
theorem dL_law_589 : decode cL_law 589 = .ok (.iconst 0, 1) := by decide +kernel
theorem dL_law_590 : decode cL_law 590 = .ok (.iand, 1) := by decide +kernel
theorem dL_law_591 : decode cL_law 591 = .ok (.istore 26, 2) := by decide +kernel
theorem dL_law_593 : decode cL_law 593 = .ok (.iload 26, 2) := by decide +kernel
theorem dL_law_595 : decode cL_law 595 = .ok (.iload 9, 2) := by decide +kernel
theorem dL_law_597 : decode cL_law 597 = .ok (.bipush 35, 2) := by decide +kernel
theorem dL_law_599 : decode cL_law 599 = .ok (.if_icmp .lt 88, 3) := by decide +kernel
theorem dL_law_602 : decode cL_law 602 = .ok (.iload 9, 2) := by decide +kernel
theorem dL_law_604 : decode cL_law 604 = .ok (.bipush 39, 2) := by decide +kernel
theorem dL_law_606 : decode cL_law 606 = .ok (.if_icmp .gt 81, 3) := by decide +kernel
theorem dL_law_609 : decode cL_law 609 = .ok (.iload 25, 2) := by decide +kernel
theorem dL_law_611 : decode cL_law 611 = .ok (.ifCond .eq 52, 3) := by decide +kernel
theorem dL_law_614 : decode cL_law 614 = .ok (.iload 24, 2) := by decide +kernel
theorem dL_law_616 : decode cL_law 616 = .ok (.iload 22, 2) := by decide +kernel
theorem dL_law_618 : decode cL_law 618 = .ok (.iload 18, 2) := by decide +kernel
theorem dL_law_620 : decode cL_law 620 = .ok (.invokestatic 241, 3) := by decide +kernel
theorem dL_law_623 : decode cL_law 623 = .ok (.if_icmp .ne 68, 3) := by decide +kernel
theorem dL_law_626 : decode cL_law 626 = .ok (.aload_n 1, 1) := by decide +kernel
theorem dL_law_627 : decode cL_law 627 = .ok (.iconst 0, 1) := by decide +kernel
theorem dL_law_628 : decode cL_law 628 = .ok (.invokestatic 217, 3) := by decide +kernel
theorem dL_law_631 : decode cL_law 631 = .ok (.iload 22, 2) := by decide +kernel
theorem dL_law_633 : decode cL_law 633 = .ok (.iload 24, 2) := by decide +kernel
theorem dL_law_635 : decode cL_law 635 = .ok (.isub, 1) := by decide +kernel
theorem dL_law_636 : decode cL_law 636 = .ok (.if_icmp .ne 55, 3) := by decide +kernel
theorem dL_law_639 : decode cL_law 639 = .ok (.aload_n 1, 1) := by decide +kernel
theorem dL_law_640 : decode cL_law 640 = .ok (.invokevirtual 225, 3) := by decide +kernel
theorem dL_law_643 : decode cL_law 643 = .ok (.iload 21, 2) := by decide +kernel
theorem dL_law_645 : decode cL_law 645 = .ok (.if_icmp .lt 46, 3) := by decide +kernel
theorem dL_law_648 : decode cL_law 648 = .ok (.aload_n 1, 1) := by decide +kernel
theorem dL_law_649 : decode cL_law 649 = .ok (.invokevirtual 225, 3) := by decide +kernel
theorem dL_law_652 : decode cL_law 652 = .ok (.iload 21, 2) := by decide +kernel
theorem dL_law_654 : decode cL_law 654 = .ok (.iload 24, 2) := by decide +kernel
theorem dL_law_656 : decode cL_law 656 = .ok (.iadd, 1) := by decide +kernel
theorem dL_law_657 : decode cL_law 657 = .ok (.if_icmp .gt 34, 3) := by decide +kernel
theorem dL_law_660 : decode cL_law 660 = .ok (.goto 27, 3) := by decide +kernel
theorem dL_law_663 : decode cL_law 663 = .ok (.iload 10, 2) := by decide +kernel
theorem dL_law_665 : decode cL_law 665 = .ok (.iconst 2, 1) := by decide +kernel
theorem dL_law_666 : decode cL_law 666 = .ok (.if_icmp .ge 25, 3) := by decide +kernel
theorem dL_law_669 : decode cL_law 669 = .ok (.aload_n 1, 1) := by decide +kernel
theorem dL_law_670 : decode cL_law 670 = .ok (.invokestatic 185, 3) := by decide +kernel
theorem dL_law_673 : decode cL_law 673 = .ok (.bipush 7, 2) := by decide +kernel
theorem dL_law_675 : decode cL_law 675 = .ok (.if_icmp .ne 16, 3) := by decide +kernel
theorem dL_law_678 : decode cL_law 678 = .ok (.aload_n 1, 1) := by decide +kernel
theorem dL_law_679 : decode cL_law 679 = .ok (.invokestatic 187, 3) := by decide +kernel
theorem dL_law_682 : decode cL_law 682 = .ok (.iload 10, 2) := by decide +kernel
theorem dL_law_684 : decode cL_law 684 = .ok (.if_icmp .ne 7, 3) := by decide +kernel
theorem dL_law_687 : decode cL_law 687 = .ok (.iconst 1, 1) := by decide +kernel
theorem dL_law_688 : decode cL_law 688 = .ok (.goto 4, 3) := by decide +kernel
theorem dL_law_691 : decode cL_law 691 = .ok (.iconst 0, 1) := by decide +kernel
theorem dL_law_692 : decode cL_law 692 = .ok (.iand, 1) := by decide +kernel
theorem dL_law_693 : decode cL_law 693 = .ok (.istore 26, 2) := by decide +kernel
theorem dL_law_695 : decode cL_law 695 = .ok (.iload 26, 2) := by decide +kernel
theorem dL_law_697 : decode cL_law 697 = .ok (.iload 9, 2) := by decide +kernel
theorem dL_law_699 : decode cL_law 699 = .ok (.bipush 40, 2) := by decide +kernel
theorem dL_law_701 : decode cL_law 701 = .ok (.if_icmp .lt 57, 3) := by decide +kernel
theorem dL_law_704 : decode cL_law 704 = .ok (.iload 9, 2) := by decide +kernel
theorem dL_law_706 : decode cL_law 706 = .ok (.bipush 43, 2) := by decide +kernel
theorem dL_law_708 : decode cL_law 708 = .ok (.if_icmp .gt 50, 3) := by decide +kernel
theorem dL_law_711 : decode cL_law 711 = .ok (.iload 25, 2) := by decide +kernel
theorem dL_law_713 : decode cL_law 713 = .ok (.ifCond .eq 32, 3) := by decide +kernel
theorem dL_law_716 : decode cL_law 716 = .ok (.iload 24, 2) := by decide +kernel
theorem dL_law_718 : decode cL_law 718 = .ok (.aload_n 1, 1) := by decide +kernel
theorem dL_law_719 : decode cL_law 719 = .ok (.invokevirtual 225, 3) := by decide +kernel
theorem dL_law_722 : decode cL_law 722 = .ok (.iload 21, 2) := by decide +kernel
theorem dL_law_724 : decode cL_law 724 = .ok (.isub, 1) := by decide +kernel
theorem dL_law_725 : decode cL_law 725 = .ok (.if_icmp .ne 37, 3) := by decide +kernel
theorem dL_law_728 : decode cL_law 728 = .ok (.iload 24, 2) := by decide +kernel
theorem dL_law_730 : decode cL_law 730 = .ok (.iload 23, 2) := by decide +kernel
theorem dL_law_732 : decode cL_law 732 = .ok (.if_icmp .gt 30, 3) := by decide +kernel
theorem dL_law_735 : decode cL_law 735 = .ok (.aload_n 1, 1) := by decide +kernel
theorem dL_law_736 : decode cL_law 736 = .ok (.invokestatic 228, 3) := by decide +kernel
theorem dL_law_739 : decode cL_law 739 = .ok (.ifCond .ne 23, 3) := by decide +kernel
theorem dL_law_742 : decode cL_law 742 = .ok (.goto 16, 3) := by decide +kernel
theorem dL_law_745 : decode cL_law 745 = .ok (.iload 12, 2) := by decide +kernel
theorem dL_law_747 : decode cL_law 747 = .ok (.ifCond .ne 15, 3) := by decide +kernel
theorem dL_law_750 : decode cL_law 750 = .ok (.aload_n 1, 1) := by decide +kernel
theorem dL_law_751 : decode cL_law 751 = .ok (.invokestatic 185, 3) := by decide +kernel
theorem dL_law_754 : decode cL_law 754 = .ok (.iconst 3, 1) := by decide +kernel
theorem dL_law_755 : decode cL_law 755 = .ok (.if_icmp .ne 7, 3) := by decide +kernel
theorem dL_law_758 : decode cL_law 758 = .ok (.iconst 1, 1) := by decide +kernel
theorem dL_law_759 : decode cL_law 759 = .ok (.goto 4, 3) := by decide +kernel
theorem dL_law_762 : decode cL_law 762 = .ok (.iconst 0, 1) := by decide +kernel
theorem dL_law_763 : decode cL_law 763 = .ok (.iand, 1) := by decide +kernel
theorem dL_law_764 : decode cL_law 764 = .ok (.istore 26, 2) := by decide +kernel
theorem dL_law_766 : decode cL_law 766 = .ok (.iload 26, 2) := by decide +kernel
theorem dL_law_768 : decode cL_law 768 = .ok (.iload 25, 2) := by decide +kernel
theorem dL_law_770 : decode cL_law 770 = .ok (.ifCond .eq 19, 3) := by decide +kernel
theorem dL_law_773 : decode cL_law 773 = .ok (.iload 9, 2) := by decide +kernel
theorem dL_law_775 : decode cL_law 775 = .ok (.bipush 34, 2) := by decide +kernel
theorem dL_law_777 : decode cL_law 777 = .ok (.if_icmp .gt 12, 3) := by decide +kernel
theorem dL_law_780 : decode cL_law 780 = .ok (.aload_n 1, 1) := by decide +kernel
theorem dL_law_781 : decode cL_law 781 = .ok (.invokevirtual 225, 3) := by decide +kernel
theorem dL_law_784 : decode cL_law 784 = .ok (.iload 21, 2) := by decide +kernel
theorem dL_law_786 : decode cL_law 786 = .ok (.if_icmp .ne 7, 3) := by decide +kernel
theorem dL_law_789 : decode cL_law 789 = .ok (.iconst 1, 1) := by decide +kernel
theorem dL_law_790 : decode cL_law 790 = .ok (.goto 4, 3) := by decide +kernel
theorem dL_law_793 : decode cL_law 793 = .ok (.iconst 0, 1) := by decide +kernel
theorem dL_law_794 : decode cL_law 794 = .ok (.iand, 1) := by decide +kernel
theorem dL_law_795 : decode cL_law 795 = .ok (.istore 26, 2) := by decide +kernel
theorem dL_law_797 : decode cL_law 797 = .ok (.iinc 4 5, 3) := by decide +kernel
theorem dL_law_800 : decode cL_law 800 = .ok (.iload 26, 2) := by decide +kernel
theorem dL_law_802 : decode cL_law 802 = .ok (.ifCond .eq 26, 3) := by decide +kernel
theorem dL_law_805 : decode cL_law 805 = .ok (.aload_n 1, 1) := by decide +kernel
theorem dL_law_806 : decode cL_law 806 = .ok (.aload_n 0, 1) := by decide +kernel
theorem dL_law_807 : decode cL_law 807 = .ok (.iload 4, 2) := by decide +kernel
theorem dL_law_809 : decode cL_law 809 = .ok (.iload 5, 2) := by decide +kernel
theorem dL_law_811 : decode cL_law 811 = .ok (.iconst 4, 1) := by decide +kernel
theorem dL_law_812 : decode cL_law 812 = .ok (.irem, 1) := by decide +kernel
theorem dL_law_813 : decode cL_law 813 = .ok (.iconst 3, 1) := by decide +kernel
theorem dL_law_814 : decode cL_law 814 = .ok (.if_icmp .ne 7, 3) := by decide +kernel
theorem dL_law_817 : decode cL_law 817 = .ok (.iconst 1, 1) := by decide +kernel
theorem dL_law_818 : decode cL_law 818 = .ok (.goto 4, 3) := by decide +kernel
theorem dL_law_821 : decode cL_law 821 = .ok (.iconst 0, 1) := by decide +kernel
theorem dL_law_822 : decode cL_law 822 = .ok (.invokestatic 246, 3) := by decide +kernel
theorem dL_law_825 : decode cL_law 825 = .ok (.ifCond .ne 5, 3) := by decide +kernel
theorem dL_law_828 : decode cL_law 828 = .ok (.iconst 0, 1) := by decide +kernel
theorem dL_law_829 : decode cL_law 829 = .ok (.ireturn, 1) := by decide +kernel
theorem dL_law_830 : decode cL_law 830 = .ok (.iload 25, 2) := by decide +kernel
theorem dL_law_832 : decode cL_law 832 = .ok (.ifCond .ne 24, 3) := by decide +kernel
theorem dL_law_835 : decode cL_law 835 = .ok (.aload_n 1, 1) := by decide +kernel
theorem dL_law_836 : decode cL_law 836 = .ok (.invokestatic 195, 3) := by decide +kernel
theorem dL_law_839 : decode cL_law 839 = .ok (.lload 6, 2) := by decide +kernel
theorem dL_law_841 : decode cL_law 841 = .ok (.lcmp, 1) := by decide +kernel
theorem dL_law_842 : decode cL_law 842 = .ok (.ifCond .ne 12, 3) := by decide +kernel
theorem dL_law_845 : decode cL_law 845 = .ok (.aload_n 1, 1) := by decide +kernel
theorem dL_law_846 : decode cL_law 846 = .ok (.invokevirtual 199, 3) := by decide +kernel
theorem dL_law_849 : decode cL_law 849 = .ok (.iload 8, 2) := by decide +kernel
theorem dL_law_851 : decode cL_law 851 = .ok (.if_icmp .eq 15, 3) := by decide +kernel
theorem dL_law_854 : decode cL_law 854 = .ok (.iconst 0, 1) := by decide +kernel
theorem dL_law_855 : decode cL_law 855 = .ok (.ireturn, 1) := by decide +kernel
theorem dL_law_856 : decode cL_law 856 = .ok (.iinc 3 1, 3) := by decide +kernel
theorem dL_law_859 : decode cL_law 859 = .ok (.aload_n 2, 1) := by decide +kernel
theorem dL_law_860 : decode cL_law 860 = .ok (.iload_n 3, 1) := by decide +kernel
theorem dL_law_861 : decode cL_law 861 = .ok (.aload_n 1, 1) := by decide +kernel
theorem dL_law_862 : decode cL_law 862 = .ok (.invokestatic 195, 3) := by decide +kernel
theorem dL_law_865 : decode cL_law 865 = .ok (.lastore, 1) := by decide +kernel
theorem dL_law_866 : decode cL_law 866 = .ok (.iinc 5 1, 3) := by decide +kernel
theorem dL_law_869 : decode cL_law 869 = .ok (.goto (-841), 3) := by decide +kernel
theorem dL_law_872 : decode cL_law 872 = .ok (.aload_n 1, 1) := by decide +kernel
theorem dL_law_873 : decode cL_law 873 = .ok (.aload_n 2, 1) := by decide +kernel
theorem dL_law_874 : decode cL_law 874 = .ok (.iload_n 3, 1) := by decide +kernel
theorem dL_law_875 : decode cL_law 875 = .ok (.invokestatic 250, 3) := by decide +kernel
theorem dL_law_878 : decode cL_law 878 = .ok (.ireturn, 1) := by decide +kernel
def f_L_law_866 (sc : Nat × (Nat → Int32)) (K28 : Int32 → Int32 → Int32 → XW → Option (Int32 × XW)) (z3 : Int32) (z4 : Int32) (z5 : Int32) (w : XW) : Option (Int32 × XW) := (K28 z3 z4 (z5 + 1) w)
set_option maxRecDepth 100000 in
theorem S_L_law_866 {g : GC} (hl : g.1.stackTraces = false) {B Bs : Nat} (hB : B ≤ 300000) (hBs : Bs ≤ 2000000) {K28 : Int32 → Int32 → Int32 → XW → Option (Int32 × XW)} (hK28 : ∀ (z3 : Int32) (z4 : Int32) (z5 : Int32) (w : XW) (kc ks : Nat), kc ≤ B → ks ≤ Bs → VE g cL_law 27 RL (some .boolean) [] room_1 300000 2000000 oI kc ks 28 [(0, .ref g.2.2.2.2.2.2.1), (1, .ref (g.2.1 + 0)), (2, .ref (g.2.1 + 141)), (3, .int z3), (4, .int z4), (5, .int z5)] [] w (K28 z3 z4 z5 w)) : ∀ (z3 : Int32) (z4 : Int32) (z5 : Int32) (w : XW) (kc ks : Nat), kc + 0 ≤ B → ks + 0 ≤ Bs → VE g cL_law 27 RL (some .boolean) [] room_1 300000 2000000 oI kc ks 866 [(0, .ref g.2.2.2.2.2.2.1), (1, .ref (g.2.1 + 0)), (2, .ref (g.2.1 + 141)), (3, .int z3), (4, .int z4), (5, .int z5)] [] w (f_L_law_866 (scG g) K28 z3 z4 z5 w) := by
  intro z3 z4 z5 w kc ks hk hks
  unfold f_L_law_866
  refine v_iinc (v := (z5 + 1)) dL_law_866 (q := 5) rfl rfl (Nat.le_of_ble_eq_true rfl) rfl ?_
  refine v_goto (tgt := 28) dL_law_869 (by decide) ?_
  refine v_sub [1, 2, 3, 4, 5, 0] rfl ?_
  exact hK28 _ _ _ _ _ _ (by omega) (by omega)
def f_L_law_854 (sc : Nat × (Nat → Int32)) (w : XW) : Option (Int32 × XW) := (some (0, w))
set_option maxRecDepth 100000 in
theorem S_L_law_854 {g : GC} (hl : g.1.stackTraces = false) : ∀ (w : XW) (kc ks : Nat), kc + 0 ≤ 300000 → ks + 0 ≤ 2000000 → VE g cL_law 27 RL (some .boolean) [] room_1 300000 2000000 oI kc ks 854 [] [] w (f_L_law_854 (scG g)   w) := by
  intro  w kc ks hk hks
  unfold f_L_law_854
  refine v_iconst (v := 0) dL_law_854 (by decide) ?_
  exact v_zret dL_law_855 rfl rfl rfl (by omega) (by omega)
def f_L_law_828 (sc : Nat × (Nat → Int32)) (w : XW) : Option (Int32 × XW) := (some (0, w))
set_option maxRecDepth 100000 in
theorem S_L_law_828 {g : GC} (hl : g.1.stackTraces = false) : ∀ (w : XW) (kc ks : Nat), kc + 0 ≤ 300000 → ks + 0 ≤ 2000000 → VE g cL_law 27 RL (some .boolean) [] room_1 300000 2000000 oI kc ks 828 [] [] w (f_L_law_828 (scG g)   w) := by
  intro  w kc ks hk hks
  unfold f_L_law_828
  refine v_iconst (v := 0) dL_law_828 (by decide) ?_
  exact v_zret dL_law_829 rfl rfl rfl (by omega) (by omega)
def f_L_law_822 (sc : Nat × (Nat → Int32)) (K28 : Int32 → Int32 → Int32 → XW → Option (Int32 × XW)) (z3 : Int32) (z4 : Int32) (z5 : Int32) (z6 : Int64) (z8 : Int32) (z25 : Int32) (u0 : Int32) (u1 : Int32) (w : XW) : Option (Int32 × XW) := (bI (f_L_isWhole sc u1 u0 w) (fun r41 w41 => (if r41 = 0 then (f_L_law_828 sc w41) else (if z25 = 0 then (bL (f_L_sum w41) (fun r44 w44 => (if (lg_cmp r44 z6) = 0 then (bI (f_X10_undoCount w44) (fun r45 w45 => (if r45 = z8 then (f_L_law_866 sc K28 z3 z4 z5 w45) else (f_L_law_854 sc w45)))) else (f_L_law_854 sc w44)))) else (bL (f_L_sum w41) (fun r42 w42 => (if inB (z3 + 1) 70 then (f_L_law_866 sc K28 (z3 + 1) z4 z5 (lset w42 (Int32.toNatClampNeg (z3 + 1)) r42)) else none)))))))
set_option maxRecDepth 100000 in
theorem S_L_law_822 {g : GC} (hl : g.1.stackTraces = false) {B Bs : Nat} (hB : B ≤ 300000) (hBs : Bs ≤ 2000000) {K28 : Int32 → Int32 → Int32 → XW → Option (Int32 × XW)} (hK28 : ∀ (z3 : Int32) (z4 : Int32) (z5 : Int32) (w : XW) (kc ks : Nat), kc ≤ B → ks ≤ Bs → VE g cL_law 27 RL (some .boolean) [] room_1 300000 2000000 oI kc ks 28 [(0, .ref g.2.2.2.2.2.2.1), (1, .ref (g.2.1 + 0)), (2, .ref (g.2.1 + 141)), (3, .int z3), (4, .int z4), (5, .int z5)] [] w (K28 z3 z4 z5 w)) : ∀ (z3 : Int32) (z4 : Int32) (z5 : Int32) (z6 : Int64) (z8 : Int32) (z25 : Int32) (u0 : Int32) (u1 : Int32) (w : XW) (kc ks : Nat), kc + 3711 ≤ B → ks + 22394 ≤ Bs → VE g cL_law 27 RL (some .boolean) [] room_1 300000 2000000 oI kc ks 822 [(0, .ref g.2.2.2.2.2.2.1), (1, .ref (g.2.1 + 0)), (2, .ref (g.2.1 + 141)), (3, .int z3), (4, .int z4), (5, .int z5), (6, .long z6), (8, .int z8), (25, .int z25)] [.int u0, .int u1, .ref g.2.2.2.2.2.2.1, .ref (g.2.1 + 0)] w (f_L_law_822 (scG g) K28 z3 z4 z5 z6 z8 z25 u0 u1 w) := by
  intro z3 z4 z5 z6 z8 z25 u0 u1 w kc ks hk hks
  unfold f_L_law_822
  refine v_callSi (As := [.ref (g.2.1 + 0), .ref g.2.2.2.2.2.2.1, .int u1, .int u0]) cs_L_246 (S_L_isWhole hl) rfl rfl (Nat.le_of_ble_eq_true rfl) dL_law_822 (CR_law (by decide) (by decide) (by omega) (by omega)) (fun r41 w41 => ?_)
  refine v_if_ne (tgt := 830) dL_law_825 (by decide) ?_ ?_
  · refine v_iload dL_law_830 8 rfl ?_
    refine v_if_ne (tgt := 856) dL_law_832 (by decide) ?_ ?_
    · refine v_iinc (v := (z3 + 1)) dL_law_856 (q := 3) rfl rfl (Nat.le_of_ble_eq_true rfl) rfl ?_
      refine v_aload_n dL_law_859 rfl 3 rfl ?_
      refine v_iload_n dL_law_860 rfl 0 rfl ?_
      refine v_aload_n dL_law_861 rfl 2 rfl ?_
      refine v_callSl (As := [.ref (g.2.1 + 0)]) cs_L_195 (S_L_sum hl) rfl rfl (Nat.le_of_ble_eq_true rfl) dL_law_862 (CR_law (by decide) (by decide) (by omega) (by omega)) (fun r42 w42 => ?_)
      refine v_guard (fun h43 => ?_)
      refine v_last h43 dL_law_865 ?_
      refine v_sub [1, 2, 3, 0, 4, 5] rfl ?_
      exact S_L_law_866 hl hB hBs hK28 _ _ _ _ _ _ (by omega) (by omega)
    · refine v_aload_n dL_law_835 rfl 1 rfl ?_
      refine v_callSl (As := [.ref (g.2.1 + 0)]) cs_L_195 (S_L_sum hl) rfl rfl (Nat.le_of_ble_eq_true rfl) dL_law_836 (CR_law (by decide) (by decide) (by omega) (by omega)) (fun r44 w44 => ?_)
      refine v_lload dL_law_839 6 rfl ?_
      refine v_lcmp dL_law_841 ?_
      refine v_if_ne (tgt := 854) dL_law_842 (by decide) ?_ ?_
      · refine v_sub [] rfl ?_
        exact S_L_law_854 hl _ _ _ (by omega) (by omega)
      · refine v_aload_n dL_law_845 rfl 1 rfl ?_
        refine v_callVi (As := []) cv_L_199 (S_X10_undoCount hl) tt_0 rfl rfl rfl (Nat.le_of_ble_eq_true rfl) dL_law_846 (CR_law (by decide) (by decide) (by omega) (by omega)) (fun r45 w45 => ?_)
        refine v_iload dL_law_849 7 rfl ?_
        refine v_icmp_eq (tgt := 866) dL_law_851 (by decide) ?_ ?_
        · refine v_sub [0, 1, 2, 3, 4, 5] rfl ?_
          exact S_L_law_866 hl hB hBs hK28 _ _ _ _ _ _ (by omega) (by omega)
        · refine v_sub [] rfl ?_
          exact S_L_law_854 hl _ _ _ (by omega) (by omega)
  · refine v_sub [] rfl ?_
    exact S_L_law_828 hl _ _ _ (by omega) (by omega)
def f_L_law_794 (sc : Nat × (Nat → Int32)) (K28 : Int32 → Int32 → Int32 → XW → Option (Int32 × XW)) (z3 : Int32) (z4 : Int32) (z5 : Int32) (z6 : Int64) (z8 : Int32) (z25 : Int32) (u0 : Int32) (u1 : Int32) (w : XW) : Option (Int32 × XW) := (if (u1 &&& u0) = 0 then (f_L_law_828 sc w) else (if (z5 - z5 / 4 * 4) = 3 then (f_L_law_822 sc K28 z3 (z4 + 5) z5 z6 z8 z25 1 (z4 + 5) w) else (f_L_law_822 sc K28 z3 (z4 + 5) z5 z6 z8 z25 0 (z4 + 5) w)))
set_option maxRecDepth 100000 in
theorem S_L_law_794 {g : GC} (hl : g.1.stackTraces = false) {B Bs : Nat} (hB : B ≤ 300000) (hBs : Bs ≤ 2000000) {K28 : Int32 → Int32 → Int32 → XW → Option (Int32 × XW)} (hK28 : ∀ (z3 : Int32) (z4 : Int32) (z5 : Int32) (w : XW) (kc ks : Nat), kc ≤ B → ks ≤ Bs → VE g cL_law 27 RL (some .boolean) [] room_1 300000 2000000 oI kc ks 28 [(0, .ref g.2.2.2.2.2.2.1), (1, .ref (g.2.1 + 0)), (2, .ref (g.2.1 + 141)), (3, .int z3), (4, .int z4), (5, .int z5)] [] w (K28 z3 z4 z5 w)) : ∀ (z3 : Int32) (z4 : Int32) (z5 : Int32) (z6 : Int64) (z8 : Int32) (z25 : Int32) (u0 : Int32) (u1 : Int32) (w : XW) (kc ks : Nat), kc + 3711 ≤ B → ks + 22394 ≤ Bs → VE g cL_law 27 RL (some .boolean) [] room_1 300000 2000000 oI kc ks 794 [(0, .ref g.2.2.2.2.2.2.1), (1, .ref (g.2.1 + 0)), (2, .ref (g.2.1 + 141)), (3, .int z3), (4, .int z4), (5, .int z5), (6, .long z6), (8, .int z8), (25, .int z25)] [.int u0, .int u1] w (f_L_law_794 (scG g) K28 z3 z4 z5 z6 z8 z25 u0 u1 w) := by
  intro z3 z4 z5 z6 z8 z25 u0 u1 w kc ks hk hks
  unfold f_L_law_794
  refine v_iand dL_law_794 ?_
  refine v_istore dL_law_795 (Nat.le_of_ble_eq_true rfl) rfl ?_
  refine v_iinc (v := (z4 + 5)) dL_law_797 (q := 5) rfl rfl (Nat.le_of_ble_eq_true rfl) rfl ?_
  refine v_iload dL_law_800 1 rfl ?_
  refine v_if_eq (tgt := 828) dL_law_802 (by decide) ?_ ?_
  · refine v_sub [] rfl ?_
    exact S_L_law_828 hl _ _ _ (by omega) (by omega)
  · refine v_aload_n dL_law_805 rfl 3 rfl ?_
    refine v_aload_n dL_law_806 rfl 2 rfl ?_
    refine v_iload dL_law_807 0 rfl ?_
    refine v_iload dL_law_809 6 rfl ?_
    refine v_iconst (v := 4) dL_law_811 (by decide) ?_
    refine v_irem dL_law_812 (by decide) ?_
    refine v_iconst (v := 3) dL_law_813 (by decide) ?_
    refine v_icmp_ne (tgt := 821) dL_law_814 (by decide) ?_ ?_
    · refine v_iconst (v := 0) dL_law_821 (by decide) ?_
      refine v_sub [2, 3, 4, 5, 0, 6, 7, 8, 9] rfl ?_
      exact S_L_law_822 hl hB hBs hK28 _ _ _ _ _ _ _ _ _ _ _ (by omega) (by omega)
    · refine v_iconst (v := 1) dL_law_817 (by decide) ?_
      refine v_goto (tgt := 822) dL_law_818 (by decide) ?_
      refine v_sub [2, 3, 4, 5, 0, 6, 7, 8, 9] rfl ?_
      exact S_L_law_822 hl hB hBs hK28 _ _ _ _ _ _ _ _ _ _ _ (by omega) (by omega)
def f_L_law_789 (sc : Nat × (Nat → Int32)) (K28 : Int32 → Int32 → Int32 → XW → Option (Int32 × XW)) (z3 : Int32) (z4 : Int32) (z5 : Int32) (z6 : Int64) (z8 : Int32) (z25 : Int32) (u0 : Int32) (w : XW) : Option (Int32 × XW) := (f_L_law_794 sc K28 z3 z4 z5 z6 z8 z25 1 u0 w)
set_option maxRecDepth 100000 in
theorem S_L_law_789 {g : GC} (hl : g.1.stackTraces = false) {B Bs : Nat} (hB : B ≤ 300000) (hBs : Bs ≤ 2000000) {K28 : Int32 → Int32 → Int32 → XW → Option (Int32 × XW)} (hK28 : ∀ (z3 : Int32) (z4 : Int32) (z5 : Int32) (w : XW) (kc ks : Nat), kc ≤ B → ks ≤ Bs → VE g cL_law 27 RL (some .boolean) [] room_1 300000 2000000 oI kc ks 28 [(0, .ref g.2.2.2.2.2.2.1), (1, .ref (g.2.1 + 0)), (2, .ref (g.2.1 + 141)), (3, .int z3), (4, .int z4), (5, .int z5)] [] w (K28 z3 z4 z5 w)) : ∀ (z3 : Int32) (z4 : Int32) (z5 : Int32) (z6 : Int64) (z8 : Int32) (z25 : Int32) (u0 : Int32) (w : XW) (kc ks : Nat), kc + 3711 ≤ B → ks + 22394 ≤ Bs → VE g cL_law 27 RL (some .boolean) [] room_1 300000 2000000 oI kc ks 789 [(0, .ref g.2.2.2.2.2.2.1), (1, .ref (g.2.1 + 0)), (2, .ref (g.2.1 + 141)), (3, .int z3), (4, .int z4), (5, .int z5), (6, .long z6), (8, .int z8), (25, .int z25)] [.int u0] w (f_L_law_789 (scG g) K28 z3 z4 z5 z6 z8 z25 u0 w) := by
  intro z3 z4 z5 z6 z8 z25 u0 w kc ks hk hks
  unfold f_L_law_789
  refine v_iconst (v := 1) dL_law_789 (by decide) ?_
  refine v_goto (tgt := 794) dL_law_790 (by decide) ?_
  refine v_sub [0, 1, 2, 3, 4, 5, 6, 7, 8] rfl ?_
  exact S_L_law_794 hl hB hBs hK28 _ _ _ _ _ _ _ _ _ _ _ (by omega) (by omega)
def f_L_law_763 (sc : Nat × (Nat → Int32)) (K28 : Int32 → Int32 → Int32 → XW → Option (Int32 × XW)) (z3 : Int32) (z4 : Int32) (z5 : Int32) (z6 : Int64) (z8 : Int32) (z9 : Int32) (z21 : Int32) (z25 : Int32) (u0 : Int32) (u1 : Int32) (w : XW) : Option (Int32 × XW) := (if z25 = 0 then (f_L_law_789 sc K28 z3 z4 z5 z6 z8 z25 (u1 &&& u0) w) else (if 34 < z9 then (f_L_law_789 sc K28 z3 z4 z5 z6 z8 z25 (u1 &&& u0) w) else (bI (f_X10_leaked w) (fun r40 w40 => (if r40 = z21 then (f_L_law_789 sc K28 z3 z4 z5 z6 z8 z25 (u1 &&& u0) w40) else (f_L_law_794 sc K28 z3 z4 z5 z6 z8 z25 0 (u1 &&& u0) w40))))))
set_option maxRecDepth 100000 in
theorem S_L_law_763 {g : GC} (hl : g.1.stackTraces = false) {B Bs : Nat} (hB : B ≤ 300000) (hBs : Bs ≤ 2000000) {K28 : Int32 → Int32 → Int32 → XW → Option (Int32 × XW)} (hK28 : ∀ (z3 : Int32) (z4 : Int32) (z5 : Int32) (w : XW) (kc ks : Nat), kc ≤ B → ks ≤ Bs → VE g cL_law 27 RL (some .boolean) [] room_1 300000 2000000 oI kc ks 28 [(0, .ref g.2.2.2.2.2.2.1), (1, .ref (g.2.1 + 0)), (2, .ref (g.2.1 + 141)), (3, .int z3), (4, .int z4), (5, .int z5)] [] w (K28 z3 z4 z5 w)) : ∀ (z3 : Int32) (z4 : Int32) (z5 : Int32) (z6 : Int64) (z8 : Int32) (z9 : Int32) (z21 : Int32) (z25 : Int32) (u0 : Int32) (u1 : Int32) (w : XW) (kc ks : Nat), kc + 3711 ≤ B → ks + 22394 ≤ Bs → VE g cL_law 27 RL (some .boolean) [] room_1 300000 2000000 oI kc ks 763 [(0, .ref g.2.2.2.2.2.2.1), (1, .ref (g.2.1 + 0)), (2, .ref (g.2.1 + 141)), (3, .int z3), (4, .int z4), (5, .int z5), (6, .long z6), (8, .int z8), (9, .int z9), (21, .int z21), (25, .int z25)] [.int u0, .int u1] w (f_L_law_763 (scG g) K28 z3 z4 z5 z6 z8 z9 z21 z25 u0 u1 w) := by
  intro z3 z4 z5 z6 z8 z9 z21 z25 u0 u1 w kc ks hk hks
  unfold f_L_law_763
  refine v_iand dL_law_763 ?_
  refine v_istore dL_law_764 (Nat.le_of_ble_eq_true rfl) rfl ?_
  refine v_iload dL_law_766 0 rfl ?_
  refine v_iload dL_law_768 11 rfl ?_
  refine v_if_eq (tgt := 789) dL_law_770 (by decide) ?_ ?_
  · refine v_sub [1, 2, 3, 4, 5, 6, 7, 8, 11] rfl ?_
    exact S_L_law_789 hl hB hBs hK28 _ _ _ _ _ _ _ _ _ _ (by omega) (by omega)
  · refine v_iload dL_law_773 9 rfl ?_
    refine v_bipush (v := 34) dL_law_775 (by decide) ?_
    refine v_icmp_gt (tgt := 789) dL_law_777 (by decide) ?_ ?_
    · refine v_sub [1, 2, 3, 4, 5, 6, 7, 8, 11] rfl ?_
      exact S_L_law_789 hl hB hBs hK28 _ _ _ _ _ _ _ _ _ _ (by omega) (by omega)
    · refine v_aload_n dL_law_780 rfl 2 rfl ?_
      refine v_callVi (As := []) cv_L_225 (S_X10_leaked hl) tt_0 rfl rfl rfl (Nat.le_of_ble_eq_true rfl) dL_law_781 (CR_law (by decide) (by decide) (by omega) (by omega)) (fun r40 w40 => ?_)
      refine v_iload dL_law_784 10 rfl ?_
      refine v_icmp_ne (tgt := 793) dL_law_786 (by decide) ?_ ?_
      · refine v_iconst (v := 0) dL_law_793 (by decide) ?_
        refine v_sub [1, 2, 3, 4, 5, 6, 7, 8, 11] rfl ?_
        exact S_L_law_794 hl hB hBs hK28 _ _ _ _ _ _ _ _ _ _ _ (by omega) (by omega)
      · refine v_sub [1, 2, 3, 4, 5, 6, 7, 8, 11] rfl ?_
        exact S_L_law_789 hl hB hBs hK28 _ _ _ _ _ _ _ _ _ _ (by omega) (by omega)
def f_L_law_762 (sc : Nat × (Nat → Int32)) (K28 : Int32 → Int32 → Int32 → XW → Option (Int32 × XW)) (z3 : Int32) (z4 : Int32) (z5 : Int32) (z6 : Int64) (z8 : Int32) (z9 : Int32) (z21 : Int32) (z25 : Int32) (u0 : Int32) (w : XW) : Option (Int32 × XW) := (f_L_law_763 sc K28 z3 z4 z5 z6 z8 z9 z21 z25 0 u0 w)
set_option maxRecDepth 100000 in
theorem S_L_law_762 {g : GC} (hl : g.1.stackTraces = false) {B Bs : Nat} (hB : B ≤ 300000) (hBs : Bs ≤ 2000000) {K28 : Int32 → Int32 → Int32 → XW → Option (Int32 × XW)} (hK28 : ∀ (z3 : Int32) (z4 : Int32) (z5 : Int32) (w : XW) (kc ks : Nat), kc ≤ B → ks ≤ Bs → VE g cL_law 27 RL (some .boolean) [] room_1 300000 2000000 oI kc ks 28 [(0, .ref g.2.2.2.2.2.2.1), (1, .ref (g.2.1 + 0)), (2, .ref (g.2.1 + 141)), (3, .int z3), (4, .int z4), (5, .int z5)] [] w (K28 z3 z4 z5 w)) : ∀ (z3 : Int32) (z4 : Int32) (z5 : Int32) (z6 : Int64) (z8 : Int32) (z9 : Int32) (z21 : Int32) (z25 : Int32) (u0 : Int32) (w : XW) (kc ks : Nat), kc + 3711 ≤ B → ks + 22394 ≤ Bs → VE g cL_law 27 RL (some .boolean) [] room_1 300000 2000000 oI kc ks 762 [(0, .ref g.2.2.2.2.2.2.1), (1, .ref (g.2.1 + 0)), (2, .ref (g.2.1 + 141)), (3, .int z3), (4, .int z4), (5, .int z5), (6, .long z6), (8, .int z8), (9, .int z9), (21, .int z21), (25, .int z25)] [.int u0] w (f_L_law_762 (scG g) K28 z3 z4 z5 z6 z8 z9 z21 z25 u0 w) := by
  intro z3 z4 z5 z6 z8 z9 z21 z25 u0 w kc ks hk hks
  unfold f_L_law_762
  refine v_iconst (v := 0) dL_law_762 (by decide) ?_
  refine v_sub [0, 1, 2, 3, 4, 5, 6, 7, 8, 9, 10] rfl ?_
  exact S_L_law_763 hl hB hBs hK28 _ _ _ _ _ _ _ _ _ _ _ _ _ (by omega) (by omega)
def f_L_law_758 (sc : Nat × (Nat → Int32)) (K28 : Int32 → Int32 → Int32 → XW → Option (Int32 × XW)) (z3 : Int32) (z4 : Int32) (z5 : Int32) (z6 : Int64) (z8 : Int32) (z9 : Int32) (z21 : Int32) (z25 : Int32) (u0 : Int32) (w : XW) : Option (Int32 × XW) := (f_L_law_763 sc K28 z3 z4 z5 z6 z8 z9 z21 z25 1 u0 w)
set_option maxRecDepth 100000 in
theorem S_L_law_758 {g : GC} (hl : g.1.stackTraces = false) {B Bs : Nat} (hB : B ≤ 300000) (hBs : Bs ≤ 2000000) {K28 : Int32 → Int32 → Int32 → XW → Option (Int32 × XW)} (hK28 : ∀ (z3 : Int32) (z4 : Int32) (z5 : Int32) (w : XW) (kc ks : Nat), kc ≤ B → ks ≤ Bs → VE g cL_law 27 RL (some .boolean) [] room_1 300000 2000000 oI kc ks 28 [(0, .ref g.2.2.2.2.2.2.1), (1, .ref (g.2.1 + 0)), (2, .ref (g.2.1 + 141)), (3, .int z3), (4, .int z4), (5, .int z5)] [] w (K28 z3 z4 z5 w)) : ∀ (z3 : Int32) (z4 : Int32) (z5 : Int32) (z6 : Int64) (z8 : Int32) (z9 : Int32) (z21 : Int32) (z25 : Int32) (u0 : Int32) (w : XW) (kc ks : Nat), kc + 3711 ≤ B → ks + 22394 ≤ Bs → VE g cL_law 27 RL (some .boolean) [] room_1 300000 2000000 oI kc ks 758 [(0, .ref g.2.2.2.2.2.2.1), (1, .ref (g.2.1 + 0)), (2, .ref (g.2.1 + 141)), (3, .int z3), (4, .int z4), (5, .int z5), (6, .long z6), (8, .int z8), (9, .int z9), (21, .int z21), (25, .int z25)] [.int u0] w (f_L_law_758 (scG g) K28 z3 z4 z5 z6 z8 z9 z21 z25 u0 w) := by
  intro z3 z4 z5 z6 z8 z9 z21 z25 u0 w kc ks hk hks
  unfold f_L_law_758
  refine v_iconst (v := 1) dL_law_758 (by decide) ?_
  refine v_goto (tgt := 763) dL_law_759 (by decide) ?_
  refine v_sub [0, 1, 2, 3, 4, 5, 6, 7, 8, 9, 10] rfl ?_
  exact S_L_law_763 hl hB hBs hK28 _ _ _ _ _ _ _ _ _ _ _ _ _ (by omega) (by omega)
def f_L_law_692 (sc : Nat × (Nat → Int32)) (K28 : Int32 → Int32 → Int32 → XW → Option (Int32 × XW)) (z3 : Int32) (z4 : Int32) (z5 : Int32) (z6 : Int64) (z8 : Int32) (z9 : Int32) (z12 : Int32) (z21 : Int32) (z23 : Int32) (z24 : Int32) (z25 : Int32) (u0 : Int32) (u1 : Int32) (w : XW) : Option (Int32 × XW) := (if z9 < 40 then (f_L_law_758 sc K28 z3 z4 z5 z6 z8 z9 z21 z25 (u1 &&& u0) w) else (if 43 < z9 then (f_L_law_758 sc K28 z3 z4 z5 z6 z8 z9 z21 z25 (u1 &&& u0) w) else (if z25 = 0 then (if z12 = 0 then (bI (f_L_denial w) (fun r37 w37 => (if r37 = 3 then (f_L_law_758 sc K28 z3 z4 z5 z6 z8 z9 z21 z25 (u1 &&& u0) w37) else (f_L_law_762 sc K28 z3 z4 z5 z6 z8 z9 z21 z25 (u1 &&& u0) w37)))) else (f_L_law_762 sc K28 z3 z4 z5 z6 z8 z9 z21 z25 (u1 &&& u0) w)) else (bI (f_X10_leaked w) (fun r38 w38 => (if z24 = (r38 - z21) then (if z23 < z24 then (f_L_law_762 sc K28 z3 z4 z5 z6 z8 z9 z21 z25 (u1 &&& u0) w38) else (bI (f_L_over w38) (fun r39 w39 => (if r39 = 0 then (f_L_law_758 sc K28 z3 z4 z5 z6 z8 z9 z21 z25 (u1 &&& u0) w39) else (f_L_law_762 sc K28 z3 z4 z5 z6 z8 z9 z21 z25 (u1 &&& u0) w39))))) else (f_L_law_762 sc K28 z3 z4 z5 z6 z8 z9 z21 z25 (u1 &&& u0) w38)))))))
set_option maxRecDepth 100000 in
theorem S_L_law_692 {g : GC} (hl : g.1.stackTraces = false) {B Bs : Nat} (hB : B ≤ 300000) (hBs : Bs ≤ 2000000) {K28 : Int32 → Int32 → Int32 → XW → Option (Int32 × XW)} (hK28 : ∀ (z3 : Int32) (z4 : Int32) (z5 : Int32) (w : XW) (kc ks : Nat), kc ≤ B → ks ≤ Bs → VE g cL_law 27 RL (some .boolean) [] room_1 300000 2000000 oI kc ks 28 [(0, .ref g.2.2.2.2.2.2.1), (1, .ref (g.2.1 + 0)), (2, .ref (g.2.1 + 141)), (3, .int z3), (4, .int z4), (5, .int z5)] [] w (K28 z3 z4 z5 w)) : ∀ (z3 : Int32) (z4 : Int32) (z5 : Int32) (z6 : Int64) (z8 : Int32) (z9 : Int32) (z12 : Int32) (z21 : Int32) (z23 : Int32) (z24 : Int32) (z25 : Int32) (u0 : Int32) (u1 : Int32) (w : XW) (kc ks : Nat), kc + 3723 ≤ B → ks + 22466 ≤ Bs → VE g cL_law 27 RL (some .boolean) [] room_1 300000 2000000 oI kc ks 692 [(0, .ref g.2.2.2.2.2.2.1), (1, .ref (g.2.1 + 0)), (2, .ref (g.2.1 + 141)), (3, .int z3), (4, .int z4), (5, .int z5), (6, .long z6), (8, .int z8), (9, .int z9), (12, .int z12), (21, .int z21), (23, .int z23), (24, .int z24), (25, .int z25)] [.int u0, .int u1] w (f_L_law_692 (scG g) K28 z3 z4 z5 z6 z8 z9 z12 z21 z23 z24 z25 u0 u1 w) := by
  intro z3 z4 z5 z6 z8 z9 z12 z21 z23 z24 z25 u0 u1 w kc ks hk hks
  unfold f_L_law_692
  refine v_iand dL_law_692 ?_
  refine v_istore dL_law_693 (Nat.le_of_ble_eq_true rfl) rfl ?_
  refine v_iload dL_law_695 0 rfl ?_
  refine v_iload dL_law_697 9 rfl ?_
  refine v_bipush (v := 40) dL_law_699 (by decide) ?_
  refine v_icmp_lt (tgt := 758) dL_law_701 (by decide) ?_ ?_
  · refine v_sub [1, 2, 3, 4, 5, 6, 7, 8, 9, 11, 14] rfl ?_
    exact S_L_law_758 hl hB hBs hK28 _ _ _ _ _ _ _ _ _ _ _ _ (by omega) (by omega)
  · refine v_iload dL_law_704 9 rfl ?_
    refine v_bipush (v := 43) dL_law_706 (by decide) ?_
    refine v_icmp_gt (tgt := 758) dL_law_708 (by decide) ?_ ?_
    · refine v_sub [1, 2, 3, 4, 5, 6, 7, 8, 9, 11, 14] rfl ?_
      exact S_L_law_758 hl hB hBs hK28 _ _ _ _ _ _ _ _ _ _ _ _ (by omega) (by omega)
    · refine v_iload dL_law_711 14 rfl ?_
      refine v_if_eq (tgt := 745) dL_law_713 (by decide) ?_ ?_
      · refine v_iload dL_law_745 10 rfl ?_
        refine v_if_ne (tgt := 762) dL_law_747 (by decide) ?_ ?_
        · refine v_sub [1, 2, 3, 4, 5, 6, 7, 8, 9, 11, 14] rfl ?_
          exact S_L_law_762 hl hB hBs hK28 _ _ _ _ _ _ _ _ _ _ _ _ (by omega) (by omega)
        · refine v_aload_n dL_law_750 rfl 2 rfl ?_
          refine v_callSh (As := [.ref (g.2.1 + 0)]) ch_L_185 (S_L_denial hl) rfl rfl (Nat.le_of_ble_eq_true rfl) dL_law_751 (CR_law (by decide) (by decide) (by omega) (by omega)) (fun r37 w37 => ?_)
          refine v_iconst (v := 3) dL_law_754 (by decide) ?_
          refine v_icmp_ne (tgt := 762) dL_law_755 (by decide) ?_ ?_
          · refine v_sub [1, 2, 3, 4, 5, 6, 7, 8, 9, 11, 14] rfl ?_
            exact S_L_law_762 hl hB hBs hK28 _ _ _ _ _ _ _ _ _ _ _ _ (by omega) (by omega)
          · refine v_sub [1, 2, 3, 4, 5, 6, 7, 8, 9, 11, 14] rfl ?_
            exact S_L_law_758 hl hB hBs hK28 _ _ _ _ _ _ _ _ _ _ _ _ (by omega) (by omega)
      · refine v_iload dL_law_716 13 rfl ?_
        refine v_aload_n dL_law_718 rfl 2 rfl ?_
        refine v_callVi (As := []) cv_L_225 (S_X10_leaked hl) tt_0 rfl rfl rfl (Nat.le_of_ble_eq_true rfl) dL_law_719 (CR_law (by decide) (by decide) (by omega) (by omega)) (fun r38 w38 => ?_)
        refine v_iload dL_law_722 11 rfl ?_
        refine v_isub dL_law_724 ?_
        refine v_icmp_ne (tgt := 762) dL_law_725 (by decide) ?_ ?_
        · refine v_sub [1, 2, 3, 4, 5, 6, 7, 8, 9, 11, 14] rfl ?_
          exact S_L_law_762 hl hB hBs hK28 _ _ _ _ _ _ _ _ _ _ _ _ (by omega) (by omega)
        · refine v_iload dL_law_728 13 rfl ?_
          refine v_iload dL_law_730 12 rfl ?_
          refine v_icmp_gt (tgt := 762) dL_law_732 (by decide) ?_ ?_
          · refine v_sub [1, 2, 3, 4, 5, 6, 7, 8, 9, 11, 14] rfl ?_
            exact S_L_law_762 hl hB hBs hK28 _ _ _ _ _ _ _ _ _ _ _ _ (by omega) (by omega)
          · refine v_aload_n dL_law_735 rfl 2 rfl ?_
            refine v_callSi (As := [.ref (g.2.1 + 0)]) cs_L_228 (S_L_over hl) rfl rfl (Nat.le_of_ble_eq_true rfl) dL_law_736 (CR_law (by decide) (by decide) (by omega) (by omega)) (fun r39 w39 => ?_)
            refine v_if_ne (tgt := 762) dL_law_739 (by decide) ?_ ?_
            · refine v_sub [1, 2, 3, 4, 5, 6, 7, 8, 9, 11, 14] rfl ?_
              exact S_L_law_762 hl hB hBs hK28 _ _ _ _ _ _ _ _ _ _ _ _ (by omega) (by omega)
            · refine v_goto (tgt := 758) dL_law_742 (by decide) ?_
              refine v_sub [1, 2, 3, 4, 5, 6, 7, 8, 9, 11, 14] rfl ?_
              exact S_L_law_758 hl hB hBs hK28 _ _ _ _ _ _ _ _ _ _ _ _ (by omega) (by omega)
def f_L_law_691 (sc : Nat × (Nat → Int32)) (K28 : Int32 → Int32 → Int32 → XW → Option (Int32 × XW)) (z3 : Int32) (z4 : Int32) (z5 : Int32) (z6 : Int64) (z8 : Int32) (z9 : Int32) (z12 : Int32) (z21 : Int32) (z23 : Int32) (z24 : Int32) (z25 : Int32) (u0 : Int32) (w : XW) : Option (Int32 × XW) := (f_L_law_692 sc K28 z3 z4 z5 z6 z8 z9 z12 z21 z23 z24 z25 0 u0 w)
set_option maxRecDepth 100000 in
theorem S_L_law_691 {g : GC} (hl : g.1.stackTraces = false) {B Bs : Nat} (hB : B ≤ 300000) (hBs : Bs ≤ 2000000) {K28 : Int32 → Int32 → Int32 → XW → Option (Int32 × XW)} (hK28 : ∀ (z3 : Int32) (z4 : Int32) (z5 : Int32) (w : XW) (kc ks : Nat), kc ≤ B → ks ≤ Bs → VE g cL_law 27 RL (some .boolean) [] room_1 300000 2000000 oI kc ks 28 [(0, .ref g.2.2.2.2.2.2.1), (1, .ref (g.2.1 + 0)), (2, .ref (g.2.1 + 141)), (3, .int z3), (4, .int z4), (5, .int z5)] [] w (K28 z3 z4 z5 w)) : ∀ (z3 : Int32) (z4 : Int32) (z5 : Int32) (z6 : Int64) (z8 : Int32) (z9 : Int32) (z12 : Int32) (z21 : Int32) (z23 : Int32) (z24 : Int32) (z25 : Int32) (u0 : Int32) (w : XW) (kc ks : Nat), kc + 3723 ≤ B → ks + 22466 ≤ Bs → VE g cL_law 27 RL (some .boolean) [] room_1 300000 2000000 oI kc ks 691 [(0, .ref g.2.2.2.2.2.2.1), (1, .ref (g.2.1 + 0)), (2, .ref (g.2.1 + 141)), (3, .int z3), (4, .int z4), (5, .int z5), (6, .long z6), (8, .int z8), (9, .int z9), (12, .int z12), (21, .int z21), (23, .int z23), (24, .int z24), (25, .int z25)] [.int u0] w (f_L_law_691 (scG g) K28 z3 z4 z5 z6 z8 z9 z12 z21 z23 z24 z25 u0 w) := by
  intro z3 z4 z5 z6 z8 z9 z12 z21 z23 z24 z25 u0 w kc ks hk hks
  unfold f_L_law_691
  refine v_iconst (v := 0) dL_law_691 (by decide) ?_
  refine v_sub [0, 1, 2, 3, 4, 5, 6, 7, 8, 9, 10, 11, 12, 13] rfl ?_
  exact S_L_law_692 hl hB hBs hK28 _ _ _ _ _ _ _ _ _ _ _ _ _ _ _ _ (by omega) (by omega)
def f_L_law_687 (sc : Nat × (Nat → Int32)) (K28 : Int32 → Int32 → Int32 → XW → Option (Int32 × XW)) (z3 : Int32) (z4 : Int32) (z5 : Int32) (z6 : Int64) (z8 : Int32) (z9 : Int32) (z12 : Int32) (z21 : Int32) (z23 : Int32) (z24 : Int32) (z25 : Int32) (u0 : Int32) (w : XW) : Option (Int32 × XW) := (f_L_law_692 sc K28 z3 z4 z5 z6 z8 z9 z12 z21 z23 z24 z25 1 u0 w)
set_option maxRecDepth 100000 in
theorem S_L_law_687 {g : GC} (hl : g.1.stackTraces = false) {B Bs : Nat} (hB : B ≤ 300000) (hBs : Bs ≤ 2000000) {K28 : Int32 → Int32 → Int32 → XW → Option (Int32 × XW)} (hK28 : ∀ (z3 : Int32) (z4 : Int32) (z5 : Int32) (w : XW) (kc ks : Nat), kc ≤ B → ks ≤ Bs → VE g cL_law 27 RL (some .boolean) [] room_1 300000 2000000 oI kc ks 28 [(0, .ref g.2.2.2.2.2.2.1), (1, .ref (g.2.1 + 0)), (2, .ref (g.2.1 + 141)), (3, .int z3), (4, .int z4), (5, .int z5)] [] w (K28 z3 z4 z5 w)) : ∀ (z3 : Int32) (z4 : Int32) (z5 : Int32) (z6 : Int64) (z8 : Int32) (z9 : Int32) (z12 : Int32) (z21 : Int32) (z23 : Int32) (z24 : Int32) (z25 : Int32) (u0 : Int32) (w : XW) (kc ks : Nat), kc + 3723 ≤ B → ks + 22466 ≤ Bs → VE g cL_law 27 RL (some .boolean) [] room_1 300000 2000000 oI kc ks 687 [(0, .ref g.2.2.2.2.2.2.1), (1, .ref (g.2.1 + 0)), (2, .ref (g.2.1 + 141)), (3, .int z3), (4, .int z4), (5, .int z5), (6, .long z6), (8, .int z8), (9, .int z9), (12, .int z12), (21, .int z21), (23, .int z23), (24, .int z24), (25, .int z25)] [.int u0] w (f_L_law_687 (scG g) K28 z3 z4 z5 z6 z8 z9 z12 z21 z23 z24 z25 u0 w) := by
  intro z3 z4 z5 z6 z8 z9 z12 z21 z23 z24 z25 u0 w kc ks hk hks
  unfold f_L_law_687
  refine v_iconst (v := 1) dL_law_687 (by decide) ?_
  refine v_goto (tgt := 692) dL_law_688 (by decide) ?_
  refine v_sub [0, 1, 2, 3, 4, 5, 6, 7, 8, 9, 10, 11, 12, 13] rfl ?_
  exact S_L_law_692 hl hB hBs hK28 _ _ _ _ _ _ _ _ _ _ _ _ _ _ _ _ (by omega) (by omega)
def f_L_law_590 (sc : Nat × (Nat → Int32)) (K28 : Int32 → Int32 → Int32 → XW → Option (Int32 × XW)) (z3 : Int32) (z4 : Int32) (z5 : Int32) (z6 : Int64) (z8 : Int32) (z9 : Int32) (z10 : Int32) (z12 : Int32) (z18 : Int32) (z21 : Int32) (z22 : Int32) (z23 : Int32) (z24 : Int32) (z25 : Int32) (u0 : Int32) (u1 : Int32) (w : XW) : Option (Int32 × XW) := (if z9 < 35 then (f_L_law_687 sc K28 z3 z4 z5 z6 z8 z9 z12 z21 z23 z24 z25 (u1 &&& u0) w) else (if 39 < z9 then (f_L_law_687 sc K28 z3 z4 z5 z6 z8 z9 z12 z21 z23 z24 z25 (u1 &&& u0) w) else (if z25 = 0 then (if 2 ≤ z10 then (f_L_law_691 sc K28 z3 z4 z5 z6 z8 z9 z12 z21 z23 z24 z25 (u1 &&& u0) w) else (bI (f_L_denial w) (fun r32 w32 => (if r32 = 7 then (bI (f_L_denialDetail w32) (fun r33 w33 => (if r33 = z10 then (f_L_law_687 sc K28 z3 z4 z5 z6 z8 z9 z12 z21 z23 z24 z25 (u1 &&& u0) w33) else (f_L_law_691 sc K28 z3 z4 z5 z6 z8 z9 z12 z21 z23 z24 z25 (u1 &&& u0) w33)))) else (f_L_law_691 sc K28 z3 z4 z5 z6 z8 z9 z12 z21 z23 z24 z25 (u1 &&& u0) w32))))) else (if z24 = (if z18 < z22 then z18 else z22) then (bI (f_L_water 0 w) (fun r34 w34 => (if r34 = (z22 - z24) then (bI (f_X10_leaked w34) (fun r35 w35 => (if r35 < z21 then (f_L_law_691 sc K28 z3 z4 z5 z6 z8 z9 z12 z21 z23 z24 z25 (u1 &&& u0) w35) else (bI (f_X10_leaked w35) (fun r36 w36 => (if (z21 + z24) < r36 then (f_L_law_691 sc K28 z3 z4 z5 z6 z8 z9 z12 z21 z23 z24 z25 (u1 &&& u0) w36) else (f_L_law_687 sc K28 z3 z4 z5 z6 z8 z9 z12 z21 z23 z24 z25 (u1 &&& u0) w36))))))) else (f_L_law_691 sc K28 z3 z4 z5 z6 z8 z9 z12 z21 z23 z24 z25 (u1 &&& u0) w34)))) else (f_L_law_691 sc K28 z3 z4 z5 z6 z8 z9 z12 z21 z23 z24 z25 (u1 &&& u0) w)))))
set_option maxRecDepth 100000 in
theorem S_L_law_590 {g : GC} (hl : g.1.stackTraces = false) {B Bs : Nat} (hB : B ≤ 300000) (hBs : Bs ≤ 2000000) {K28 : Int32 → Int32 → Int32 → XW → Option (Int32 × XW)} (hK28 : ∀ (z3 : Int32) (z4 : Int32) (z5 : Int32) (w : XW) (kc ks : Nat), kc ≤ B → ks ≤ Bs → VE g cL_law 27 RL (some .boolean) [] room_1 300000 2000000 oI kc ks 28 [(0, .ref g.2.2.2.2.2.2.1), (1, .ref (g.2.1 + 0)), (2, .ref (g.2.1 + 141)), (3, .int z3), (4, .int z4), (5, .int z5)] [] w (K28 z3 z4 z5 w)) : ∀ (z3 : Int32) (z4 : Int32) (z5 : Int32) (z6 : Int64) (z8 : Int32) (z9 : Int32) (z10 : Int32) (z12 : Int32) (z18 : Int32) (z21 : Int32) (z22 : Int32) (z23 : Int32) (z24 : Int32) (z25 : Int32) (u0 : Int32) (u1 : Int32) (w : XW) (kc ks : Nat), kc + 3725 ≤ B → ks + 22478 ≤ Bs → VE g cL_law 27 RL (some .boolean) [] room_1 300000 2000000 oI kc ks 590 [(0, .ref g.2.2.2.2.2.2.1), (1, .ref (g.2.1 + 0)), (2, .ref (g.2.1 + 141)), (3, .int z3), (4, .int z4), (5, .int z5), (6, .long z6), (8, .int z8), (9, .int z9), (10, .int z10), (12, .int z12), (18, .int z18), (21, .int z21), (22, .int z22), (23, .int z23), (24, .int z24), (25, .int z25)] [.int u0, .int u1] w (f_L_law_590 (scG g) K28 z3 z4 z5 z6 z8 z9 z10 z12 z18 z21 z22 z23 z24 z25 u0 u1 w) := by
  intro z3 z4 z5 z6 z8 z9 z10 z12 z18 z21 z22 z23 z24 z25 u0 u1 w kc ks hk hks
  unfold f_L_law_590
  refine v_iand dL_law_590 ?_
  refine v_istore dL_law_591 (Nat.le_of_ble_eq_true rfl) rfl ?_
  refine v_iload dL_law_593 0 rfl ?_
  refine v_iload dL_law_595 9 rfl ?_
  refine v_bipush (v := 35) dL_law_597 (by decide) ?_
  refine v_icmp_lt (tgt := 687) dL_law_599 (by decide) ?_ ?_
  · refine v_sub [1, 2, 3, 4, 5, 6, 7, 8, 9, 11, 13, 15, 16, 17] rfl ?_
    exact S_L_law_687 hl hB hBs hK28 _ _ _ _ _ _ _ _ _ _ _ _ _ _ _ (by omega) (by omega)
  · refine v_iload dL_law_602 9 rfl ?_
    refine v_bipush (v := 39) dL_law_604 (by decide) ?_
    refine v_icmp_gt (tgt := 687) dL_law_606 (by decide) ?_ ?_
    · refine v_sub [1, 2, 3, 4, 5, 6, 7, 8, 9, 11, 13, 15, 16, 17] rfl ?_
      exact S_L_law_687 hl hB hBs hK28 _ _ _ _ _ _ _ _ _ _ _ _ _ _ _ (by omega) (by omega)
    · refine v_iload dL_law_609 17 rfl ?_
      refine v_if_eq (tgt := 663) dL_law_611 (by decide) ?_ ?_
      · refine v_iload dL_law_663 10 rfl ?_
        refine v_iconst (v := 2) dL_law_665 (by decide) ?_
        refine v_icmp_ge (tgt := 691) dL_law_666 (by decide) ?_ ?_
        · refine v_sub [1, 2, 3, 4, 5, 6, 7, 8, 9, 11, 13, 15, 16, 17] rfl ?_
          exact S_L_law_691 hl hB hBs hK28 _ _ _ _ _ _ _ _ _ _ _ _ _ _ _ (by omega) (by omega)
        · refine v_aload_n dL_law_669 rfl 2 rfl ?_
          refine v_callSh (As := [.ref (g.2.1 + 0)]) ch_L_185 (S_L_denial hl) rfl rfl (Nat.le_of_ble_eq_true rfl) dL_law_670 (CR_law (by decide) (by decide) (by omega) (by omega)) (fun r32 w32 => ?_)
          refine v_bipush (v := 7) dL_law_673 (by decide) ?_
          refine v_icmp_ne (tgt := 691) dL_law_675 (by decide) ?_ ?_
          · refine v_sub [1, 2, 3, 4, 5, 6, 7, 8, 9, 11, 13, 15, 16, 17] rfl ?_
            exact S_L_law_691 hl hB hBs hK28 _ _ _ _ _ _ _ _ _ _ _ _ _ _ _ (by omega) (by omega)
          · refine v_aload_n dL_law_678 rfl 2 rfl ?_
            refine v_callSh (As := [.ref (g.2.1 + 0)]) ch_L_187 (S_L_denialDetail hl) rfl rfl (Nat.le_of_ble_eq_true rfl) dL_law_679 (CR_law (by decide) (by decide) (by omega) (by omega)) (fun r33 w33 => ?_)
            refine v_iload dL_law_682 10 rfl ?_
            refine v_icmp_ne (tgt := 691) dL_law_684 (by decide) ?_ ?_
            · refine v_sub [1, 2, 3, 4, 5, 6, 7, 8, 9, 11, 13, 15, 16, 17] rfl ?_
              exact S_L_law_691 hl hB hBs hK28 _ _ _ _ _ _ _ _ _ _ _ _ _ _ _ (by omega) (by omega)
            · refine v_sub [1, 2, 3, 4, 5, 6, 7, 8, 9, 11, 13, 15, 16, 17] rfl ?_
              exact S_L_law_687 hl hB hBs hK28 _ _ _ _ _ _ _ _ _ _ _ _ _ _ _ (by omega) (by omega)
      · refine v_iload dL_law_614 16 rfl ?_
        refine v_iload dL_law_616 14 rfl ?_
        refine v_iload dL_law_618 12 rfl ?_
        refine v_min gw_1416 gw_552 gw_54 gw_553 dL_law_620 (by decide) (Nat.le_of_ble_eq_true rfl) (CR_l1 (by omega)) (CR_l2 (by omega)) ?_
        refine v_icmp_ne (tgt := 691) dL_law_623 (by decide) ?_ ?_
        · refine v_sub [1, 2, 3, 4, 5, 6, 7, 8, 9, 11, 13, 15, 16, 17] rfl ?_
          exact S_L_law_691 hl hB hBs hK28 _ _ _ _ _ _ _ _ _ _ _ _ _ _ _ (by omega) (by omega)
        · refine v_aload_n dL_law_626 rfl 2 rfl ?_
          refine v_iconst (v := 0) dL_law_627 (by decide) ?_
          refine v_callSh (As := [.ref (g.2.1 + 0), .int 0]) ch_L_217 (S_L_water hl) rfl rfl (Nat.le_of_ble_eq_true rfl) dL_law_628 (CR_law (by decide) (by decide) (by omega) (by omega)) (fun r34 w34 => ?_)
          refine v_iload dL_law_631 14 rfl ?_
          refine v_iload dL_law_633 16 rfl ?_
          refine v_isub dL_law_635 ?_
          refine v_icmp_ne (tgt := 691) dL_law_636 (by decide) ?_ ?_
          · refine v_sub [1, 2, 3, 4, 5, 6, 7, 8, 9, 11, 13, 15, 16, 17] rfl ?_
            exact S_L_law_691 hl hB hBs hK28 _ _ _ _ _ _ _ _ _ _ _ _ _ _ _ (by omega) (by omega)
          · refine v_aload_n dL_law_639 rfl 2 rfl ?_
            refine v_callVi (As := []) cv_L_225 (S_X10_leaked hl) tt_0 rfl rfl rfl (Nat.le_of_ble_eq_true rfl) dL_law_640 (CR_law (by decide) (by decide) (by omega) (by omega)) (fun r35 w35 => ?_)
            refine v_iload dL_law_643 13 rfl ?_
            refine v_icmp_lt (tgt := 691) dL_law_645 (by decide) ?_ ?_
            · refine v_sub [1, 2, 3, 4, 5, 6, 7, 8, 9, 11, 13, 15, 16, 17] rfl ?_
              exact S_L_law_691 hl hB hBs hK28 _ _ _ _ _ _ _ _ _ _ _ _ _ _ _ (by omega) (by omega)
            · refine v_aload_n dL_law_648 rfl 2 rfl ?_
              refine v_callVi (As := []) cv_L_225 (S_X10_leaked hl) tt_0 rfl rfl rfl (Nat.le_of_ble_eq_true rfl) dL_law_649 (CR_law (by decide) (by decide) (by omega) (by omega)) (fun r36 w36 => ?_)
              refine v_iload dL_law_652 13 rfl ?_
              refine v_iload dL_law_654 16 rfl ?_
              refine v_iadd dL_law_656 ?_
              refine v_icmp_gt (tgt := 691) dL_law_657 (by decide) ?_ ?_
              · refine v_sub [1, 2, 3, 4, 5, 6, 7, 8, 9, 11, 13, 15, 16, 17] rfl ?_
                exact S_L_law_691 hl hB hBs hK28 _ _ _ _ _ _ _ _ _ _ _ _ _ _ _ (by omega) (by omega)
              · refine v_goto (tgt := 687) dL_law_660 (by decide) ?_
                refine v_sub [1, 2, 3, 4, 5, 6, 7, 8, 9, 11, 13, 15, 16, 17] rfl ?_
                exact S_L_law_687 hl hB hBs hK28 _ _ _ _ _ _ _ _ _ _ _ _ _ _ _ (by omega) (by omega)
def f_L_law_589 (sc : Nat × (Nat → Int32)) (K28 : Int32 → Int32 → Int32 → XW → Option (Int32 × XW)) (z3 : Int32) (z4 : Int32) (z5 : Int32) (z6 : Int64) (z8 : Int32) (z9 : Int32) (z10 : Int32) (z12 : Int32) (z18 : Int32) (z21 : Int32) (z22 : Int32) (z23 : Int32) (z24 : Int32) (z25 : Int32) (u0 : Int32) (w : XW) : Option (Int32 × XW) := (f_L_law_590 sc K28 z3 z4 z5 z6 z8 z9 z10 z12 z18 z21 z22 z23 z24 z25 0 u0 w)
set_option maxRecDepth 100000 in
theorem S_L_law_589 {g : GC} (hl : g.1.stackTraces = false) {B Bs : Nat} (hB : B ≤ 300000) (hBs : Bs ≤ 2000000) {K28 : Int32 → Int32 → Int32 → XW → Option (Int32 × XW)} (hK28 : ∀ (z3 : Int32) (z4 : Int32) (z5 : Int32) (w : XW) (kc ks : Nat), kc ≤ B → ks ≤ Bs → VE g cL_law 27 RL (some .boolean) [] room_1 300000 2000000 oI kc ks 28 [(0, .ref g.2.2.2.2.2.2.1), (1, .ref (g.2.1 + 0)), (2, .ref (g.2.1 + 141)), (3, .int z3), (4, .int z4), (5, .int z5)] [] w (K28 z3 z4 z5 w)) : ∀ (z3 : Int32) (z4 : Int32) (z5 : Int32) (z6 : Int64) (z8 : Int32) (z9 : Int32) (z10 : Int32) (z12 : Int32) (z18 : Int32) (z21 : Int32) (z22 : Int32) (z23 : Int32) (z24 : Int32) (z25 : Int32) (u0 : Int32) (w : XW) (kc ks : Nat), kc + 3725 ≤ B → ks + 22478 ≤ Bs → VE g cL_law 27 RL (some .boolean) [] room_1 300000 2000000 oI kc ks 589 [(0, .ref g.2.2.2.2.2.2.1), (1, .ref (g.2.1 + 0)), (2, .ref (g.2.1 + 141)), (3, .int z3), (4, .int z4), (5, .int z5), (6, .long z6), (8, .int z8), (9, .int z9), (10, .int z10), (12, .int z12), (18, .int z18), (21, .int z21), (22, .int z22), (23, .int z23), (24, .int z24), (25, .int z25)] [.int u0] w (f_L_law_589 (scG g) K28 z3 z4 z5 z6 z8 z9 z10 z12 z18 z21 z22 z23 z24 z25 u0 w) := by
  intro z3 z4 z5 z6 z8 z9 z10 z12 z18 z21 z22 z23 z24 z25 u0 w kc ks hk hks
  unfold f_L_law_589
  refine v_iconst (v := 0) dL_law_589 (by decide) ?_
  refine v_sub [0, 1, 2, 3, 4, 5, 6, 7, 8, 9, 10, 11, 12, 13, 14, 15, 16] rfl ?_
  exact S_L_law_590 hl hB hBs hK28 _ _ _ _ _ _ _ _ _ _ _ _ _ _ _ _ _ _ _ (by omega) (by omega)
def f_L_law_585 (sc : Nat × (Nat → Int32)) (K28 : Int32 → Int32 → Int32 → XW → Option (Int32 × XW)) (z3 : Int32) (z4 : Int32) (z5 : Int32) (z6 : Int64) (z8 : Int32) (z9 : Int32) (z10 : Int32) (z12 : Int32) (z18 : Int32) (z21 : Int32) (z22 : Int32) (z23 : Int32) (z24 : Int32) (z25 : Int32) (u0 : Int32) (w : XW) : Option (Int32 × XW) := (f_L_law_590 sc K28 z3 z4 z5 z6 z8 z9 z10 z12 z18 z21 z22 z23 z24 z25 1 u0 w)
set_option maxRecDepth 100000 in
theorem S_L_law_585 {g : GC} (hl : g.1.stackTraces = false) {B Bs : Nat} (hB : B ≤ 300000) (hBs : Bs ≤ 2000000) {K28 : Int32 → Int32 → Int32 → XW → Option (Int32 × XW)} (hK28 : ∀ (z3 : Int32) (z4 : Int32) (z5 : Int32) (w : XW) (kc ks : Nat), kc ≤ B → ks ≤ Bs → VE g cL_law 27 RL (some .boolean) [] room_1 300000 2000000 oI kc ks 28 [(0, .ref g.2.2.2.2.2.2.1), (1, .ref (g.2.1 + 0)), (2, .ref (g.2.1 + 141)), (3, .int z3), (4, .int z4), (5, .int z5)] [] w (K28 z3 z4 z5 w)) : ∀ (z3 : Int32) (z4 : Int32) (z5 : Int32) (z6 : Int64) (z8 : Int32) (z9 : Int32) (z10 : Int32) (z12 : Int32) (z18 : Int32) (z21 : Int32) (z22 : Int32) (z23 : Int32) (z24 : Int32) (z25 : Int32) (u0 : Int32) (w : XW) (kc ks : Nat), kc + 3725 ≤ B → ks + 22478 ≤ Bs → VE g cL_law 27 RL (some .boolean) [] room_1 300000 2000000 oI kc ks 585 [(0, .ref g.2.2.2.2.2.2.1), (1, .ref (g.2.1 + 0)), (2, .ref (g.2.1 + 141)), (3, .int z3), (4, .int z4), (5, .int z5), (6, .long z6), (8, .int z8), (9, .int z9), (10, .int z10), (12, .int z12), (18, .int z18), (21, .int z21), (22, .int z22), (23, .int z23), (24, .int z24), (25, .int z25)] [.int u0] w (f_L_law_585 (scG g) K28 z3 z4 z5 z6 z8 z9 z10 z12 z18 z21 z22 z23 z24 z25 u0 w) := by
  intro z3 z4 z5 z6 z8 z9 z10 z12 z18 z21 z22 z23 z24 z25 u0 w kc ks hk hks
  unfold f_L_law_585
  refine v_iconst (v := 1) dL_law_585 (by decide) ?_
  refine v_goto (tgt := 590) dL_law_586 (by decide) ?_
  refine v_sub [0, 1, 2, 3, 4, 5, 6, 7, 8, 9, 10, 11, 12, 13, 14, 15, 16] rfl ?_
  exact S_L_law_590 hl hB hBs hK28 _ _ _ _ _ _ _ _ _ _ _ _ _ _ _ _ _ _ _ (by omega) (by omega)
def f_L_law_539 (sc : Nat × (Nat → Int32)) (K28 : Int32 → Int32 → Int32 → XW → Option (Int32 × XW)) (z3 : Int32) (z4 : Int32) (z5 : Int32) (z6 : Int64) (z8 : Int32) (z9 : Int32) (z10 : Int32) (z12 : Int32) (z15 : Int32) (z18 : Int32) (z20 : Int32) (z21 : Int32) (z22 : Int32) (z23 : Int32) (z24 : Int32) (z25 : Int32) (u0 : Int32) (u1 : Int32) (w : XW) : Option (Int32 × XW) := (if z25 = 0 then (f_L_law_585 sc K28 z3 z4 z5 z6 z8 z9 z10 z12 z18 z21 z22 z23 z24 z25 (u1 &&& u0) w) else (if z9 < 33 then (f_L_law_585 sc K28 z3 z4 z5 z6 z8 z9 z10 z12 z18 z21 z22 z23 z24 z25 (u1 &&& u0) w) else (if 34 < z9 then (f_L_law_585 sc K28 z3 z4 z5 z6 z8 z9 z10 z12 z18 z21 z22 z23 z24 z25 (u1 &&& u0) w) else (if z20 = 1 then (bI (f_L_greatestFlow w) (fun r30 w30 => (bI (f_L_lossOf z15 w30) (fun r31 w31 => (if r30 = (z18 + r31) then (f_L_law_585 sc K28 z3 z4 z5 z6 z8 z9 z10 z12 z18 z21 z22 z23 z24 z25 (u1 &&& u0) w31) else (f_L_law_589 sc K28 z3 z4 z5 z6 z8 z9 z10 z12 z18 z21 z22 z23 z24 z25 (u1 &&& u0) w31)))))) else (f_L_law_589 sc K28 z3 z4 z5 z6 z8 z9 z10 z12 z18 z21 z22 z23 z24 z25 (u1 &&& u0) w)))))
set_option maxRecDepth 100000 in
theorem S_L_law_539 {g : GC} (hl : g.1.stackTraces = false) {B Bs : Nat} (hB : B ≤ 300000) (hBs : Bs ≤ 2000000) {K28 : Int32 → Int32 → Int32 → XW → Option (Int32 × XW)} (hK28 : ∀ (z3 : Int32) (z4 : Int32) (z5 : Int32) (w : XW) (kc ks : Nat), kc ≤ B → ks ≤ Bs → VE g cL_law 27 RL (some .boolean) [] room_1 300000 2000000 oI kc ks 28 [(0, .ref g.2.2.2.2.2.2.1), (1, .ref (g.2.1 + 0)), (2, .ref (g.2.1 + 141)), (3, .int z3), (4, .int z4), (5, .int z5)] [] w (K28 z3 z4 z5 w)) : ∀ (z3 : Int32) (z4 : Int32) (z5 : Int32) (z6 : Int64) (z8 : Int32) (z9 : Int32) (z10 : Int32) (z12 : Int32) (z15 : Int32) (z18 : Int32) (z20 : Int32) (z21 : Int32) (z22 : Int32) (z23 : Int32) (z24 : Int32) (z25 : Int32) (u0 : Int32) (u1 : Int32) (w : XW) (kc ks : Nat), kc + 3727 ≤ B → ks + 22490 ≤ Bs → VE g cL_law 27 RL (some .boolean) [] room_1 300000 2000000 oI kc ks 539 [(0, .ref g.2.2.2.2.2.2.1), (1, .ref (g.2.1 + 0)), (2, .ref (g.2.1 + 141)), (3, .int z3), (4, .int z4), (5, .int z5), (6, .long z6), (8, .int z8), (9, .int z9), (10, .int z10), (12, .int z12), (15, .int z15), (18, .int z18), (20, .int z20), (21, .int z21), (22, .int z22), (23, .int z23), (24, .int z24), (25, .int z25)] [.int u0, .int u1] w (f_L_law_539 (scG g) K28 z3 z4 z5 z6 z8 z9 z10 z12 z15 z18 z20 z21 z22 z23 z24 z25 u0 u1 w) := by
  intro z3 z4 z5 z6 z8 z9 z10 z12 z15 z18 z20 z21 z22 z23 z24 z25 u0 u1 w kc ks hk hks
  unfold f_L_law_539
  refine v_iand dL_law_539 ?_
  refine v_istore dL_law_540 (Nat.le_of_ble_eq_true rfl) rfl ?_
  refine v_iload dL_law_542 0 rfl ?_
  refine v_iload dL_law_544 19 rfl ?_
  refine v_if_eq (tgt := 585) dL_law_546 (by decide) ?_ ?_
  · refine v_sub [1, 2, 3, 4, 5, 6, 7, 8, 9, 10, 11, 13, 15, 16, 17, 18, 19] rfl ?_
    exact S_L_law_585 hl hB hBs hK28 _ _ _ _ _ _ _ _ _ _ _ _ _ _ _ _ _ _ (by omega) (by omega)
  · refine v_iload dL_law_549 9 rfl ?_
    refine v_bipush (v := 33) dL_law_551 (by decide) ?_
    refine v_icmp_lt (tgt := 585) dL_law_553 (by decide) ?_ ?_
    · refine v_sub [1, 2, 3, 4, 5, 6, 7, 8, 9, 10, 11, 13, 15, 16, 17, 18, 19] rfl ?_
      exact S_L_law_585 hl hB hBs hK28 _ _ _ _ _ _ _ _ _ _ _ _ _ _ _ _ _ _ (by omega) (by omega)
    · refine v_iload dL_law_556 9 rfl ?_
      refine v_bipush (v := 34) dL_law_558 (by decide) ?_
      refine v_icmp_gt (tgt := 585) dL_law_560 (by decide) ?_ ?_
      · refine v_sub [1, 2, 3, 4, 5, 6, 7, 8, 9, 10, 11, 13, 15, 16, 17, 18, 19] rfl ?_
        exact S_L_law_585 hl hB hBs hK28 _ _ _ _ _ _ _ _ _ _ _ _ _ _ _ _ _ _ (by omega) (by omega)
      · refine v_iload dL_law_563 14 rfl ?_
        refine v_iconst (v := 1) dL_law_565 (by decide) ?_
        refine v_icmp_ne (tgt := 589) dL_law_566 (by decide) ?_ ?_
        · refine v_sub [1, 2, 3, 4, 5, 6, 7, 8, 9, 10, 11, 13, 15, 16, 17, 18, 19] rfl ?_
          exact S_L_law_589 hl hB hBs hK28 _ _ _ _ _ _ _ _ _ _ _ _ _ _ _ _ _ _ (by omega) (by omega)
        · refine v_aload_n dL_law_569 rfl 2 rfl ?_
          refine v_callSh (As := [.ref (g.2.1 + 0)]) ch_L_219 (S_L_greatestFlow hl) rfl rfl (Nat.le_of_ble_eq_true rfl) dL_law_570 (CR_law (by decide) (by decide) (by omega) (by omega)) (fun r30 w30 => ?_)
          refine v_iload dL_law_573 13 rfl ?_
          refine v_aload_n dL_law_575 rfl 2 rfl ?_
          refine v_iload dL_law_576 12 rfl ?_
          refine v_callSh (As := [.ref (g.2.1 + 0), .int z15]) ch_L_221 (S_L_lossOf hl) rfl rfl (Nat.le_of_ble_eq_true rfl) dL_law_578 (CR_law (by decide) (by decide) (by omega) (by omega)) (fun r31 w31 => ?_)
          refine v_iadd dL_law_581 ?_
          refine v_icmp_ne (tgt := 589) dL_law_582 (by decide) ?_ ?_
          · refine v_sub [1, 2, 3, 4, 5, 6, 7, 8, 9, 10, 11, 13, 15, 16, 17, 18, 19] rfl ?_
            exact S_L_law_589 hl hB hBs hK28 _ _ _ _ _ _ _ _ _ _ _ _ _ _ _ _ _ _ (by omega) (by omega)
          · refine v_sub [1, 2, 3, 4, 5, 6, 7, 8, 9, 10, 11, 13, 15, 16, 17, 18, 19] rfl ?_
            exact S_L_law_585 hl hB hBs hK28 _ _ _ _ _ _ _ _ _ _ _ _ _ _ _ _ _ _ (by omega) (by omega)
def f_L_law_538 (sc : Nat × (Nat → Int32)) (K28 : Int32 → Int32 → Int32 → XW → Option (Int32 × XW)) (z3 : Int32) (z4 : Int32) (z5 : Int32) (z6 : Int64) (z8 : Int32) (z9 : Int32) (z10 : Int32) (z12 : Int32) (z15 : Int32) (z18 : Int32) (z20 : Int32) (z21 : Int32) (z22 : Int32) (z23 : Int32) (z24 : Int32) (z25 : Int32) (u0 : Int32) (w : XW) : Option (Int32 × XW) := (f_L_law_539 sc K28 z3 z4 z5 z6 z8 z9 z10 z12 z15 z18 z20 z21 z22 z23 z24 z25 0 u0 w)
set_option maxRecDepth 100000 in
theorem S_L_law_538 {g : GC} (hl : g.1.stackTraces = false) {B Bs : Nat} (hB : B ≤ 300000) (hBs : Bs ≤ 2000000) {K28 : Int32 → Int32 → Int32 → XW → Option (Int32 × XW)} (hK28 : ∀ (z3 : Int32) (z4 : Int32) (z5 : Int32) (w : XW) (kc ks : Nat), kc ≤ B → ks ≤ Bs → VE g cL_law 27 RL (some .boolean) [] room_1 300000 2000000 oI kc ks 28 [(0, .ref g.2.2.2.2.2.2.1), (1, .ref (g.2.1 + 0)), (2, .ref (g.2.1 + 141)), (3, .int z3), (4, .int z4), (5, .int z5)] [] w (K28 z3 z4 z5 w)) : ∀ (z3 : Int32) (z4 : Int32) (z5 : Int32) (z6 : Int64) (z8 : Int32) (z9 : Int32) (z10 : Int32) (z12 : Int32) (z15 : Int32) (z18 : Int32) (z20 : Int32) (z21 : Int32) (z22 : Int32) (z23 : Int32) (z24 : Int32) (z25 : Int32) (u0 : Int32) (w : XW) (kc ks : Nat), kc + 3727 ≤ B → ks + 22490 ≤ Bs → VE g cL_law 27 RL (some .boolean) [] room_1 300000 2000000 oI kc ks 538 [(0, .ref g.2.2.2.2.2.2.1), (1, .ref (g.2.1 + 0)), (2, .ref (g.2.1 + 141)), (3, .int z3), (4, .int z4), (5, .int z5), (6, .long z6), (8, .int z8), (9, .int z9), (10, .int z10), (12, .int z12), (15, .int z15), (18, .int z18), (20, .int z20), (21, .int z21), (22, .int z22), (23, .int z23), (24, .int z24), (25, .int z25)] [.int u0] w (f_L_law_538 (scG g) K28 z3 z4 z5 z6 z8 z9 z10 z12 z15 z18 z20 z21 z22 z23 z24 z25 u0 w) := by
  intro z3 z4 z5 z6 z8 z9 z10 z12 z15 z18 z20 z21 z22 z23 z24 z25 u0 w kc ks hk hks
  unfold f_L_law_538
  refine v_iconst (v := 0) dL_law_538 (by decide) ?_
  refine v_sub [0, 1, 2, 3, 4, 5, 6, 7, 8, 9, 10, 11, 12, 13, 14, 15, 16, 17, 18] rfl ?_
  exact S_L_law_539 hl hB hBs hK28 _ _ _ _ _ _ _ _ _ _ _ _ _ _ _ _ _ _ _ _ _ (by omega) (by omega)
def f_L_law_534 (sc : Nat × (Nat → Int32)) (K28 : Int32 → Int32 → Int32 → XW → Option (Int32 × XW)) (z3 : Int32) (z4 : Int32) (z5 : Int32) (z6 : Int64) (z8 : Int32) (z9 : Int32) (z10 : Int32) (z12 : Int32) (z15 : Int32) (z18 : Int32) (z20 : Int32) (z21 : Int32) (z22 : Int32) (z23 : Int32) (z24 : Int32) (z25 : Int32) (u0 : Int32) (w : XW) : Option (Int32 × XW) := (f_L_law_539 sc K28 z3 z4 z5 z6 z8 z9 z10 z12 z15 z18 z20 z21 z22 z23 z24 z25 1 u0 w)
set_option maxRecDepth 100000 in
theorem S_L_law_534 {g : GC} (hl : g.1.stackTraces = false) {B Bs : Nat} (hB : B ≤ 300000) (hBs : Bs ≤ 2000000) {K28 : Int32 → Int32 → Int32 → XW → Option (Int32 × XW)} (hK28 : ∀ (z3 : Int32) (z4 : Int32) (z5 : Int32) (w : XW) (kc ks : Nat), kc ≤ B → ks ≤ Bs → VE g cL_law 27 RL (some .boolean) [] room_1 300000 2000000 oI kc ks 28 [(0, .ref g.2.2.2.2.2.2.1), (1, .ref (g.2.1 + 0)), (2, .ref (g.2.1 + 141)), (3, .int z3), (4, .int z4), (5, .int z5)] [] w (K28 z3 z4 z5 w)) : ∀ (z3 : Int32) (z4 : Int32) (z5 : Int32) (z6 : Int64) (z8 : Int32) (z9 : Int32) (z10 : Int32) (z12 : Int32) (z15 : Int32) (z18 : Int32) (z20 : Int32) (z21 : Int32) (z22 : Int32) (z23 : Int32) (z24 : Int32) (z25 : Int32) (u0 : Int32) (w : XW) (kc ks : Nat), kc + 3727 ≤ B → ks + 22490 ≤ Bs → VE g cL_law 27 RL (some .boolean) [] room_1 300000 2000000 oI kc ks 534 [(0, .ref g.2.2.2.2.2.2.1), (1, .ref (g.2.1 + 0)), (2, .ref (g.2.1 + 141)), (3, .int z3), (4, .int z4), (5, .int z5), (6, .long z6), (8, .int z8), (9, .int z9), (10, .int z10), (12, .int z12), (15, .int z15), (18, .int z18), (20, .int z20), (21, .int z21), (22, .int z22), (23, .int z23), (24, .int z24), (25, .int z25)] [.int u0] w (f_L_law_534 (scG g) K28 z3 z4 z5 z6 z8 z9 z10 z12 z15 z18 z20 z21 z22 z23 z24 z25 u0 w) := by
  intro z3 z4 z5 z6 z8 z9 z10 z12 z15 z18 z20 z21 z22 z23 z24 z25 u0 w kc ks hk hks
  unfold f_L_law_534
  refine v_iconst (v := 1) dL_law_534 (by decide) ?_
  refine v_goto (tgt := 539) dL_law_535 (by decide) ?_
  refine v_sub [0, 1, 2, 3, 4, 5, 6, 7, 8, 9, 10, 11, 12, 13, 14, 15, 16, 17, 18] rfl ?_
  exact S_L_law_539 hl hB hBs hK28 _ _ _ _ _ _ _ _ _ _ _ _ _ _ _ _ _ _ _ _ _ (by omega) (by omega)
def f_L_law_487 (sc : Nat × (Nat → Int32)) (K28 : Int32 → Int32 → Int32 → XW → Option (Int32 × XW)) (z3 : Int32) (z4 : Int32) (z5 : Int32) (z6 : Int64) (z8 : Int32) (z9 : Int32) (z10 : Int32) (z12 : Int32) (z15 : Int32) (z18 : Int32) (z19 : Int32) (z20 : Int32) (z21 : Int32) (z22 : Int32) (z23 : Int32) (z24 : Int32) (z25 : Int32) (u0 : Int32) (u1 : Int32) (w : XW) : Option (Int32 × XW) := (if z25 = 0 then (f_L_law_534 sc K28 z3 z4 z5 z6 z8 z9 z10 z12 z15 z18 z20 z21 z22 z23 z24 z25 (u1 &&& u0) w) else (if z9 < 31 then (f_L_law_534 sc K28 z3 z4 z5 z6 z8 z9 z10 z12 z15 z18 z20 z21 z22 z23 z24 z25 (u1 &&& u0) w) else (if 32 < z9 then (f_L_law_534 sc K28 z3 z4 z5 z6 z8 z9 z10 z12 z15 z18 z20 z21 z22 z23 z24 z25 (u1 &&& u0) w) else (bI (f_L_greatestFlow w) (fun r28 w28 => (if r28 = (z18 - z19) then (bI (f_L_capacity z15 w28) (fun r29 w29 => (if r29 < z19 then (f_L_law_538 sc K28 z3 z4 z5 z6 z8 z9 z10 z12 z15 z18 z20 z21 z22 z23 z24 z25 (u1 &&& u0) w29) else (f_L_law_534 sc K28 z3 z4 z5 z6 z8 z9 z10 z12 z15 z18 z20 z21 z22 z23 z24 z25 (u1 &&& u0) w29)))) else (f_L_law_538 sc K28 z3 z4 z5 z6 z8 z9 z10 z12 z15 z18 z20 z21 z22 z23 z24 z25 (u1 &&& u0) w28)))))))
set_option maxRecDepth 100000 in
theorem S_L_law_487 {g : GC} (hl : g.1.stackTraces = false) {B Bs : Nat} (hB : B ≤ 300000) (hBs : Bs ≤ 2000000) {K28 : Int32 → Int32 → Int32 → XW → Option (Int32 × XW)} (hK28 : ∀ (z3 : Int32) (z4 : Int32) (z5 : Int32) (w : XW) (kc ks : Nat), kc ≤ B → ks ≤ Bs → VE g cL_law 27 RL (some .boolean) [] room_1 300000 2000000 oI kc ks 28 [(0, .ref g.2.2.2.2.2.2.1), (1, .ref (g.2.1 + 0)), (2, .ref (g.2.1 + 141)), (3, .int z3), (4, .int z4), (5, .int z5)] [] w (K28 z3 z4 z5 w)) : ∀ (z3 : Int32) (z4 : Int32) (z5 : Int32) (z6 : Int64) (z8 : Int32) (z9 : Int32) (z10 : Int32) (z12 : Int32) (z15 : Int32) (z18 : Int32) (z19 : Int32) (z20 : Int32) (z21 : Int32) (z22 : Int32) (z23 : Int32) (z24 : Int32) (z25 : Int32) (u0 : Int32) (u1 : Int32) (w : XW) (kc ks : Nat), kc + 3729 ≤ B → ks + 22502 ≤ Bs → VE g cL_law 27 RL (some .boolean) [] room_1 300000 2000000 oI kc ks 487 [(0, .ref g.2.2.2.2.2.2.1), (1, .ref (g.2.1 + 0)), (2, .ref (g.2.1 + 141)), (3, .int z3), (4, .int z4), (5, .int z5), (6, .long z6), (8, .int z8), (9, .int z9), (10, .int z10), (12, .int z12), (15, .int z15), (18, .int z18), (19, .int z19), (20, .int z20), (21, .int z21), (22, .int z22), (23, .int z23), (24, .int z24), (25, .int z25)] [.int u0, .int u1] w (f_L_law_487 (scG g) K28 z3 z4 z5 z6 z8 z9 z10 z12 z15 z18 z19 z20 z21 z22 z23 z24 z25 u0 u1 w) := by
  intro z3 z4 z5 z6 z8 z9 z10 z12 z15 z18 z19 z20 z21 z22 z23 z24 z25 u0 u1 w kc ks hk hks
  unfold f_L_law_487
  refine v_iand dL_law_487 ?_
  refine v_istore dL_law_488 (Nat.le_of_ble_eq_true rfl) rfl ?_
  refine v_iload dL_law_490 0 rfl ?_
  refine v_iload dL_law_492 20 rfl ?_
  refine v_if_eq (tgt := 534) dL_law_494 (by decide) ?_ ?_
  · refine v_sub [1, 2, 3, 4, 5, 6, 7, 8, 9, 10, 11, 12, 13, 15, 16, 17, 18, 19, 20] rfl ?_
    exact S_L_law_534 hl hB hBs hK28 _ _ _ _ _ _ _ _ _ _ _ _ _ _ _ _ _ _ _ _ (by omega) (by omega)
  · refine v_iload dL_law_497 9 rfl ?_
    refine v_bipush (v := 31) dL_law_499 (by decide) ?_
    refine v_icmp_lt (tgt := 534) dL_law_501 (by decide) ?_ ?_
    · refine v_sub [1, 2, 3, 4, 5, 6, 7, 8, 9, 10, 11, 12, 13, 15, 16, 17, 18, 19, 20] rfl ?_
      exact S_L_law_534 hl hB hBs hK28 _ _ _ _ _ _ _ _ _ _ _ _ _ _ _ _ _ _ _ _ (by omega) (by omega)
    · refine v_iload dL_law_504 9 rfl ?_
      refine v_bipush (v := 32) dL_law_506 (by decide) ?_
      refine v_icmp_gt (tgt := 534) dL_law_508 (by decide) ?_ ?_
      · refine v_sub [1, 2, 3, 4, 5, 6, 7, 8, 9, 10, 11, 12, 13, 15, 16, 17, 18, 19, 20] rfl ?_
        exact S_L_law_534 hl hB hBs hK28 _ _ _ _ _ _ _ _ _ _ _ _ _ _ _ _ _ _ _ _ (by omega) (by omega)
      · refine v_aload_n dL_law_511 rfl 2 rfl ?_
        refine v_callSh (As := [.ref (g.2.1 + 0)]) ch_L_219 (S_L_greatestFlow hl) rfl rfl (Nat.le_of_ble_eq_true rfl) dL_law_512 (CR_law (by decide) (by decide) (by omega) (by omega)) (fun r28 w28 => ?_)
        refine v_iload dL_law_515 13 rfl ?_
        refine v_iload dL_law_517 14 rfl ?_
        refine v_isub dL_law_519 ?_
        refine v_icmp_ne (tgt := 538) dL_law_520 (by decide) ?_ ?_
        · refine v_sub [1, 2, 3, 4, 5, 6, 7, 8, 9, 10, 11, 12, 13, 15, 16, 17, 18, 19, 20] rfl ?_
          exact S_L_law_538 hl hB hBs hK28 _ _ _ _ _ _ _ _ _ _ _ _ _ _ _ _ _ _ _ _ (by omega) (by omega)
        · refine v_iload dL_law_523 14 rfl ?_
          refine v_aload_n dL_law_525 rfl 2 rfl ?_
          refine v_iload dL_law_526 12 rfl ?_
          refine v_callSh (As := [.ref (g.2.1 + 0), .int z15]) ch_L_239 (S_L_capacity hl) rfl rfl (Nat.le_of_ble_eq_true rfl) dL_law_528 (CR_law (by decide) (by decide) (by omega) (by omega)) (fun r29 w29 => ?_)
          refine v_icmp_gt (tgt := 538) dL_law_531 (by decide) ?_ ?_
          · refine v_sub [1, 2, 3, 4, 5, 6, 7, 8, 9, 10, 11, 12, 13, 15, 16, 17, 18, 19, 20] rfl ?_
            exact S_L_law_538 hl hB hBs hK28 _ _ _ _ _ _ _ _ _ _ _ _ _ _ _ _ _ _ _ _ (by omega) (by omega)
          · refine v_sub [1, 2, 3, 4, 5, 6, 7, 8, 9, 10, 11, 12, 13, 15, 16, 17, 18, 19, 20] rfl ?_
            exact S_L_law_534 hl hB hBs hK28 _ _ _ _ _ _ _ _ _ _ _ _ _ _ _ _ _ _ _ _ (by omega) (by omega)
def f_L_law_486 (sc : Nat × (Nat → Int32)) (K28 : Int32 → Int32 → Int32 → XW → Option (Int32 × XW)) (z3 : Int32) (z4 : Int32) (z5 : Int32) (z6 : Int64) (z8 : Int32) (z9 : Int32) (z10 : Int32) (z12 : Int32) (z15 : Int32) (z18 : Int32) (z19 : Int32) (z20 : Int32) (z21 : Int32) (z22 : Int32) (z23 : Int32) (z24 : Int32) (z25 : Int32) (u0 : Int32) (w : XW) : Option (Int32 × XW) := (f_L_law_487 sc K28 z3 z4 z5 z6 z8 z9 z10 z12 z15 z18 z19 z20 z21 z22 z23 z24 z25 0 u0 w)
set_option maxRecDepth 100000 in
theorem S_L_law_486 {g : GC} (hl : g.1.stackTraces = false) {B Bs : Nat} (hB : B ≤ 300000) (hBs : Bs ≤ 2000000) {K28 : Int32 → Int32 → Int32 → XW → Option (Int32 × XW)} (hK28 : ∀ (z3 : Int32) (z4 : Int32) (z5 : Int32) (w : XW) (kc ks : Nat), kc ≤ B → ks ≤ Bs → VE g cL_law 27 RL (some .boolean) [] room_1 300000 2000000 oI kc ks 28 [(0, .ref g.2.2.2.2.2.2.1), (1, .ref (g.2.1 + 0)), (2, .ref (g.2.1 + 141)), (3, .int z3), (4, .int z4), (5, .int z5)] [] w (K28 z3 z4 z5 w)) : ∀ (z3 : Int32) (z4 : Int32) (z5 : Int32) (z6 : Int64) (z8 : Int32) (z9 : Int32) (z10 : Int32) (z12 : Int32) (z15 : Int32) (z18 : Int32) (z19 : Int32) (z20 : Int32) (z21 : Int32) (z22 : Int32) (z23 : Int32) (z24 : Int32) (z25 : Int32) (u0 : Int32) (w : XW) (kc ks : Nat), kc + 3729 ≤ B → ks + 22502 ≤ Bs → VE g cL_law 27 RL (some .boolean) [] room_1 300000 2000000 oI kc ks 486 [(0, .ref g.2.2.2.2.2.2.1), (1, .ref (g.2.1 + 0)), (2, .ref (g.2.1 + 141)), (3, .int z3), (4, .int z4), (5, .int z5), (6, .long z6), (8, .int z8), (9, .int z9), (10, .int z10), (12, .int z12), (15, .int z15), (18, .int z18), (19, .int z19), (20, .int z20), (21, .int z21), (22, .int z22), (23, .int z23), (24, .int z24), (25, .int z25)] [.int u0] w (f_L_law_486 (scG g) K28 z3 z4 z5 z6 z8 z9 z10 z12 z15 z18 z19 z20 z21 z22 z23 z24 z25 u0 w) := by
  intro z3 z4 z5 z6 z8 z9 z10 z12 z15 z18 z19 z20 z21 z22 z23 z24 z25 u0 w kc ks hk hks
  unfold f_L_law_486
  refine v_iconst (v := 0) dL_law_486 (by decide) ?_
  refine v_sub [0, 1, 2, 3, 4, 5, 6, 7, 8, 9, 10, 11, 12, 13, 14, 15, 16, 17, 18, 19] rfl ?_
  exact S_L_law_487 hl hB hBs hK28 _ _ _ _ _ _ _ _ _ _ _ _ _ _ _ _ _ _ _ _ _ _ (by omega) (by omega)
def f_L_law_482 (sc : Nat × (Nat → Int32)) (K28 : Int32 → Int32 → Int32 → XW → Option (Int32 × XW)) (z3 : Int32) (z4 : Int32) (z5 : Int32) (z6 : Int64) (z8 : Int32) (z9 : Int32) (z10 : Int32) (z12 : Int32) (z15 : Int32) (z18 : Int32) (z19 : Int32) (z20 : Int32) (z21 : Int32) (z22 : Int32) (z23 : Int32) (z24 : Int32) (z25 : Int32) (u0 : Int32) (w : XW) : Option (Int32 × XW) := (f_L_law_487 sc K28 z3 z4 z5 z6 z8 z9 z10 z12 z15 z18 z19 z20 z21 z22 z23 z24 z25 1 u0 w)
set_option maxRecDepth 100000 in
theorem S_L_law_482 {g : GC} (hl : g.1.stackTraces = false) {B Bs : Nat} (hB : B ≤ 300000) (hBs : Bs ≤ 2000000) {K28 : Int32 → Int32 → Int32 → XW → Option (Int32 × XW)} (hK28 : ∀ (z3 : Int32) (z4 : Int32) (z5 : Int32) (w : XW) (kc ks : Nat), kc ≤ B → ks ≤ Bs → VE g cL_law 27 RL (some .boolean) [] room_1 300000 2000000 oI kc ks 28 [(0, .ref g.2.2.2.2.2.2.1), (1, .ref (g.2.1 + 0)), (2, .ref (g.2.1 + 141)), (3, .int z3), (4, .int z4), (5, .int z5)] [] w (K28 z3 z4 z5 w)) : ∀ (z3 : Int32) (z4 : Int32) (z5 : Int32) (z6 : Int64) (z8 : Int32) (z9 : Int32) (z10 : Int32) (z12 : Int32) (z15 : Int32) (z18 : Int32) (z19 : Int32) (z20 : Int32) (z21 : Int32) (z22 : Int32) (z23 : Int32) (z24 : Int32) (z25 : Int32) (u0 : Int32) (w : XW) (kc ks : Nat), kc + 3729 ≤ B → ks + 22502 ≤ Bs → VE g cL_law 27 RL (some .boolean) [] room_1 300000 2000000 oI kc ks 482 [(0, .ref g.2.2.2.2.2.2.1), (1, .ref (g.2.1 + 0)), (2, .ref (g.2.1 + 141)), (3, .int z3), (4, .int z4), (5, .int z5), (6, .long z6), (8, .int z8), (9, .int z9), (10, .int z10), (12, .int z12), (15, .int z15), (18, .int z18), (19, .int z19), (20, .int z20), (21, .int z21), (22, .int z22), (23, .int z23), (24, .int z24), (25, .int z25)] [.int u0] w (f_L_law_482 (scG g) K28 z3 z4 z5 z6 z8 z9 z10 z12 z15 z18 z19 z20 z21 z22 z23 z24 z25 u0 w) := by
  intro z3 z4 z5 z6 z8 z9 z10 z12 z15 z18 z19 z20 z21 z22 z23 z24 z25 u0 w kc ks hk hks
  unfold f_L_law_482
  refine v_iconst (v := 1) dL_law_482 (by decide) ?_
  refine v_goto (tgt := 487) dL_law_483 (by decide) ?_
  refine v_sub [0, 1, 2, 3, 4, 5, 6, 7, 8, 9, 10, 11, 12, 13, 14, 15, 16, 17, 18, 19] rfl ?_
  exact S_L_law_487 hl hB hBs hK28 _ _ _ _ _ _ _ _ _ _ _ _ _ _ _ _ _ _ _ _ _ _ (by omega) (by omega)
def f_L_law_424 (sc : Nat × (Nat → Int32)) (K28 : Int32 → Int32 → Int32 → XW → Option (Int32 × XW)) (z3 : Int32) (z4 : Int32) (z5 : Int32) (z6 : Int64) (z8 : Int32) (z9 : Int32) (z10 : Int32) (z12 : Int32) (z15 : Int32) (z18 : Int32) (z19 : Int32) (z20 : Int32) (z21 : Int32) (z22 : Int32) (z23 : Int32) (z24 : Int32) (z25 : Int32) (u0 : Int32) (u1 : Int32) (w : XW) : Option (Int32 × XW) := (if z25 = 0 then (f_L_law_482 sc K28 z3 z4 z5 z6 z8 z9 z10 z12 z15 z18 z19 z20 z21 z22 z23 z24 z25 (u1 &&& u0) w) else (if z9 < 21 then (f_L_law_482 sc K28 z3 z4 z5 z6 z8 z9 z10 z12 z15 z18 z19 z20 z21 z22 z23 z24 z25 (u1 &&& u0) w) else (if 22 < z9 then (f_L_law_482 sc K28 z3 z4 z5 z6 z8 z9 z10 z12 z15 z18 z19 z20 z21 z22 z23 z24 z25 (u1 &&& u0) w) else (bI (f_X10_foldedCount w) (fun r25 w25 => (if r25 = (z12 - 1) then (bI (f_L_layerOf (z12 - 1) w25) (fun r26 w26 => (if r26 = (-75) then (bI (f_L_canFold z24 w26) (fun r27 w27 => (if r27 = 1 then (f_L_law_482 sc K28 z3 z4 z5 z6 z8 z9 z10 z12 z15 z18 z19 z20 z21 z22 z23 z24 z25 (u1 &&& u0) w27) else (f_L_law_486 sc K28 z3 z4 z5 z6 z8 z9 z10 z12 z15 z18 z19 z20 z21 z22 z23 z24 z25 (u1 &&& u0) w27)))) else (f_L_law_486 sc K28 z3 z4 z5 z6 z8 z9 z10 z12 z15 z18 z19 z20 z21 z22 z23 z24 z25 (u1 &&& u0) w26)))) else (f_L_law_486 sc K28 z3 z4 z5 z6 z8 z9 z10 z12 z15 z18 z19 z20 z21 z22 z23 z24 z25 (u1 &&& u0) w25)))))))
set_option maxRecDepth 100000 in
theorem S_L_law_424 {g : GC} (hl : g.1.stackTraces = false) {B Bs : Nat} (hB : B ≤ 300000) (hBs : Bs ≤ 2000000) {K28 : Int32 → Int32 → Int32 → XW → Option (Int32 × XW)} (hK28 : ∀ (z3 : Int32) (z4 : Int32) (z5 : Int32) (w : XW) (kc ks : Nat), kc ≤ B → ks ≤ Bs → VE g cL_law 27 RL (some .boolean) [] room_1 300000 2000000 oI kc ks 28 [(0, .ref g.2.2.2.2.2.2.1), (1, .ref (g.2.1 + 0)), (2, .ref (g.2.1 + 141)), (3, .int z3), (4, .int z4), (5, .int z5)] [] w (K28 z3 z4 z5 w)) : ∀ (z3 : Int32) (z4 : Int32) (z5 : Int32) (z6 : Int64) (z8 : Int32) (z9 : Int32) (z10 : Int32) (z12 : Int32) (z15 : Int32) (z18 : Int32) (z19 : Int32) (z20 : Int32) (z21 : Int32) (z22 : Int32) (z23 : Int32) (z24 : Int32) (z25 : Int32) (u0 : Int32) (u1 : Int32) (w : XW) (kc ks : Nat), kc + 3732 ≤ B → ks + 22520 ≤ Bs → VE g cL_law 27 RL (some .boolean) [] room_1 300000 2000000 oI kc ks 424 [(0, .ref g.2.2.2.2.2.2.1), (1, .ref (g.2.1 + 0)), (2, .ref (g.2.1 + 141)), (3, .int z3), (4, .int z4), (5, .int z5), (6, .long z6), (8, .int z8), (9, .int z9), (10, .int z10), (12, .int z12), (15, .int z15), (18, .int z18), (19, .int z19), (20, .int z20), (21, .int z21), (22, .int z22), (23, .int z23), (24, .int z24), (25, .int z25)] [.int u0, .int u1] w (f_L_law_424 (scG g) K28 z3 z4 z5 z6 z8 z9 z10 z12 z15 z18 z19 z20 z21 z22 z23 z24 z25 u0 u1 w) := by
  intro z3 z4 z5 z6 z8 z9 z10 z12 z15 z18 z19 z20 z21 z22 z23 z24 z25 u0 u1 w kc ks hk hks
  unfold f_L_law_424
  refine v_iand dL_law_424 ?_
  refine v_istore dL_law_425 (Nat.le_of_ble_eq_true rfl) rfl ?_
  refine v_iload dL_law_427 0 rfl ?_
  refine v_iload dL_law_429 20 rfl ?_
  refine v_if_eq (tgt := 482) dL_law_431 (by decide) ?_ ?_
  · refine v_sub [1, 2, 3, 4, 5, 6, 7, 8, 9, 10, 11, 12, 13, 14, 15, 16, 17, 18, 19, 20] rfl ?_
    exact S_L_law_482 hl hB hBs hK28 _ _ _ _ _ _ _ _ _ _ _ _ _ _ _ _ _ _ _ _ _ (by omega) (by omega)
  · refine v_iload dL_law_434 9 rfl ?_
    refine v_bipush (v := 21) dL_law_436 (by decide) ?_
    refine v_icmp_lt (tgt := 482) dL_law_438 (by decide) ?_ ?_
    · refine v_sub [1, 2, 3, 4, 5, 6, 7, 8, 9, 10, 11, 12, 13, 14, 15, 16, 17, 18, 19, 20] rfl ?_
      exact S_L_law_482 hl hB hBs hK28 _ _ _ _ _ _ _ _ _ _ _ _ _ _ _ _ _ _ _ _ _ (by omega) (by omega)
    · refine v_iload dL_law_441 9 rfl ?_
      refine v_bipush (v := 22) dL_law_443 (by decide) ?_
      refine v_icmp_gt (tgt := 482) dL_law_445 (by decide) ?_ ?_
      · refine v_sub [1, 2, 3, 4, 5, 6, 7, 8, 9, 10, 11, 12, 13, 14, 15, 16, 17, 18, 19, 20] rfl ?_
        exact S_L_law_482 hl hB hBs hK28 _ _ _ _ _ _ _ _ _ _ _ _ _ _ _ _ _ _ _ _ _ (by omega) (by omega)
      · refine v_aload_n dL_law_448 rfl 2 rfl ?_
        refine v_callVi (As := []) cv_L_209 (S_X10_foldedCount hl) tt_0 rfl rfl rfl (Nat.le_of_ble_eq_true rfl) dL_law_449 (CR_law (by decide) (by decide) (by omega) (by omega)) (fun r25 w25 => ?_)
        refine v_iload dL_law_452 11 rfl ?_
        refine v_iconst (v := 1) dL_law_454 (by decide) ?_
        refine v_isub dL_law_455 ?_
        refine v_icmp_ne (tgt := 486) dL_law_456 (by decide) ?_ ?_
        · refine v_sub [1, 2, 3, 4, 5, 6, 7, 8, 9, 10, 11, 12, 13, 14, 15, 16, 17, 18, 19, 20] rfl ?_
          exact S_L_law_486 hl hB hBs hK28 _ _ _ _ _ _ _ _ _ _ _ _ _ _ _ _ _ _ _ _ _ (by omega) (by omega)
        · refine v_aload_n dL_law_459 rfl 2 rfl ?_
          refine v_iload dL_law_460 11 rfl ?_
          refine v_iconst (v := 1) dL_law_462 (by decide) ?_
          refine v_isub dL_law_463 ?_
          refine v_callSh (As := [.ref (g.2.1 + 0), .int (z12 - 1)]) ch_L_237 (S_L_layerOf hl) rfl rfl (Nat.le_of_ble_eq_true rfl) dL_law_464 (CR_law (by decide) (by decide) (by omega) (by omega)) (fun r26 w26 => ?_)
          refine v_bipush (v := (-75)) dL_law_467 (by decide) ?_
          refine v_icmp_ne (tgt := 486) dL_law_469 (by decide) ?_ ?_
          · refine v_sub [1, 2, 3, 4, 5, 6, 7, 8, 9, 10, 11, 12, 13, 14, 15, 16, 17, 18, 19, 20] rfl ?_
            exact S_L_law_486 hl hB hBs hK28 _ _ _ _ _ _ _ _ _ _ _ _ _ _ _ _ _ _ _ _ _ (by omega) (by omega)
          · refine v_aload_n dL_law_472 rfl 2 rfl ?_
            refine v_iload dL_law_473 19 rfl ?_
            refine v_callSh (As := [.ref (g.2.1 + 0), .int z24]) ch_L_215 (S_L_canFold hl) rfl rfl (Nat.le_of_ble_eq_true rfl) dL_law_475 (CR_law (by decide) (by decide) (by omega) (by omega)) (fun r27 w27 => ?_)
            refine v_iconst (v := 1) dL_law_478 (by decide) ?_
            refine v_icmp_ne (tgt := 486) dL_law_479 (by decide) ?_ ?_
            · refine v_sub [1, 2, 3, 4, 5, 6, 7, 8, 9, 10, 11, 12, 13, 14, 15, 16, 17, 18, 19, 20] rfl ?_
              exact S_L_law_486 hl hB hBs hK28 _ _ _ _ _ _ _ _ _ _ _ _ _ _ _ _ _ _ _ _ _ (by omega) (by omega)
            · refine v_sub [1, 2, 3, 4, 5, 6, 7, 8, 9, 10, 11, 12, 13, 14, 15, 16, 17, 18, 19, 20] rfl ?_
              exact S_L_law_482 hl hB hBs hK28 _ _ _ _ _ _ _ _ _ _ _ _ _ _ _ _ _ _ _ _ _ (by omega) (by omega)
def f_L_law_423 (sc : Nat × (Nat → Int32)) (K28 : Int32 → Int32 → Int32 → XW → Option (Int32 × XW)) (z3 : Int32) (z4 : Int32) (z5 : Int32) (z6 : Int64) (z8 : Int32) (z9 : Int32) (z10 : Int32) (z12 : Int32) (z15 : Int32) (z18 : Int32) (z19 : Int32) (z20 : Int32) (z21 : Int32) (z22 : Int32) (z23 : Int32) (z24 : Int32) (z25 : Int32) (u0 : Int32) (w : XW) : Option (Int32 × XW) := (f_L_law_424 sc K28 z3 z4 z5 z6 z8 z9 z10 z12 z15 z18 z19 z20 z21 z22 z23 z24 z25 0 u0 w)
set_option maxRecDepth 100000 in
theorem S_L_law_423 {g : GC} (hl : g.1.stackTraces = false) {B Bs : Nat} (hB : B ≤ 300000) (hBs : Bs ≤ 2000000) {K28 : Int32 → Int32 → Int32 → XW → Option (Int32 × XW)} (hK28 : ∀ (z3 : Int32) (z4 : Int32) (z5 : Int32) (w : XW) (kc ks : Nat), kc ≤ B → ks ≤ Bs → VE g cL_law 27 RL (some .boolean) [] room_1 300000 2000000 oI kc ks 28 [(0, .ref g.2.2.2.2.2.2.1), (1, .ref (g.2.1 + 0)), (2, .ref (g.2.1 + 141)), (3, .int z3), (4, .int z4), (5, .int z5)] [] w (K28 z3 z4 z5 w)) : ∀ (z3 : Int32) (z4 : Int32) (z5 : Int32) (z6 : Int64) (z8 : Int32) (z9 : Int32) (z10 : Int32) (z12 : Int32) (z15 : Int32) (z18 : Int32) (z19 : Int32) (z20 : Int32) (z21 : Int32) (z22 : Int32) (z23 : Int32) (z24 : Int32) (z25 : Int32) (u0 : Int32) (w : XW) (kc ks : Nat), kc + 3732 ≤ B → ks + 22520 ≤ Bs → VE g cL_law 27 RL (some .boolean) [] room_1 300000 2000000 oI kc ks 423 [(0, .ref g.2.2.2.2.2.2.1), (1, .ref (g.2.1 + 0)), (2, .ref (g.2.1 + 141)), (3, .int z3), (4, .int z4), (5, .int z5), (6, .long z6), (8, .int z8), (9, .int z9), (10, .int z10), (12, .int z12), (15, .int z15), (18, .int z18), (19, .int z19), (20, .int z20), (21, .int z21), (22, .int z22), (23, .int z23), (24, .int z24), (25, .int z25)] [.int u0] w (f_L_law_423 (scG g) K28 z3 z4 z5 z6 z8 z9 z10 z12 z15 z18 z19 z20 z21 z22 z23 z24 z25 u0 w) := by
  intro z3 z4 z5 z6 z8 z9 z10 z12 z15 z18 z19 z20 z21 z22 z23 z24 z25 u0 w kc ks hk hks
  unfold f_L_law_423
  refine v_iconst (v := 0) dL_law_423 (by decide) ?_
  refine v_sub [0, 1, 2, 3, 4, 5, 6, 7, 8, 9, 10, 11, 12, 13, 14, 15, 16, 17, 18, 19] rfl ?_
  exact S_L_law_424 hl hB hBs hK28 _ _ _ _ _ _ _ _ _ _ _ _ _ _ _ _ _ _ _ _ _ _ (by omega) (by omega)
def f_L_law_419 (sc : Nat × (Nat → Int32)) (K28 : Int32 → Int32 → Int32 → XW → Option (Int32 × XW)) (z3 : Int32) (z4 : Int32) (z5 : Int32) (z6 : Int64) (z8 : Int32) (z9 : Int32) (z10 : Int32) (z12 : Int32) (z15 : Int32) (z18 : Int32) (z19 : Int32) (z20 : Int32) (z21 : Int32) (z22 : Int32) (z23 : Int32) (z24 : Int32) (z25 : Int32) (u0 : Int32) (w : XW) : Option (Int32 × XW) := (f_L_law_424 sc K28 z3 z4 z5 z6 z8 z9 z10 z12 z15 z18 z19 z20 z21 z22 z23 z24 z25 1 u0 w)
set_option maxRecDepth 100000 in
theorem S_L_law_419 {g : GC} (hl : g.1.stackTraces = false) {B Bs : Nat} (hB : B ≤ 300000) (hBs : Bs ≤ 2000000) {K28 : Int32 → Int32 → Int32 → XW → Option (Int32 × XW)} (hK28 : ∀ (z3 : Int32) (z4 : Int32) (z5 : Int32) (w : XW) (kc ks : Nat), kc ≤ B → ks ≤ Bs → VE g cL_law 27 RL (some .boolean) [] room_1 300000 2000000 oI kc ks 28 [(0, .ref g.2.2.2.2.2.2.1), (1, .ref (g.2.1 + 0)), (2, .ref (g.2.1 + 141)), (3, .int z3), (4, .int z4), (5, .int z5)] [] w (K28 z3 z4 z5 w)) : ∀ (z3 : Int32) (z4 : Int32) (z5 : Int32) (z6 : Int64) (z8 : Int32) (z9 : Int32) (z10 : Int32) (z12 : Int32) (z15 : Int32) (z18 : Int32) (z19 : Int32) (z20 : Int32) (z21 : Int32) (z22 : Int32) (z23 : Int32) (z24 : Int32) (z25 : Int32) (u0 : Int32) (w : XW) (kc ks : Nat), kc + 3732 ≤ B → ks + 22520 ≤ Bs → VE g cL_law 27 RL (some .boolean) [] room_1 300000 2000000 oI kc ks 419 [(0, .ref g.2.2.2.2.2.2.1), (1, .ref (g.2.1 + 0)), (2, .ref (g.2.1 + 141)), (3, .int z3), (4, .int z4), (5, .int z5), (6, .long z6), (8, .int z8), (9, .int z9), (10, .int z10), (12, .int z12), (15, .int z15), (18, .int z18), (19, .int z19), (20, .int z20), (21, .int z21), (22, .int z22), (23, .int z23), (24, .int z24), (25, .int z25)] [.int u0] w (f_L_law_419 (scG g) K28 z3 z4 z5 z6 z8 z9 z10 z12 z15 z18 z19 z20 z21 z22 z23 z24 z25 u0 w) := by
  intro z3 z4 z5 z6 z8 z9 z10 z12 z15 z18 z19 z20 z21 z22 z23 z24 z25 u0 w kc ks hk hks
  unfold f_L_law_419
  refine v_iconst (v := 1) dL_law_419 (by decide) ?_
  refine v_goto (tgt := 424) dL_law_420 (by decide) ?_
  refine v_sub [0, 1, 2, 3, 4, 5, 6, 7, 8, 9, 10, 11, 12, 13, 14, 15, 16, 17, 18, 19] rfl ?_
  exact S_L_law_424 hl hB hBs hK28 _ _ _ _ _ _ _ _ _ _ _ _ _ _ _ _ _ _ _ _ _ _ (by omega) (by omega)
def f_L_law_416 (sc : Nat × (Nat → Int32)) (K28 : Int32 → Int32 → Int32 → XW → Option (Int32 × XW)) (z3 : Int32) (z4 : Int32) (z5 : Int32) (z6 : Int64) (z8 : Int32) (z9 : Int32) (z10 : Int32) (z12 : Int32) (z15 : Int32) (z18 : Int32) (z19 : Int32) (z20 : Int32) (z21 : Int32) (z22 : Int32) (z23 : Int32) (z24 : Int32) (z25 : Int32) (u0 : Int32) (u1 : Int32) (u2 : Int32) (w : XW) : Option (Int32 × XW) := (if u1 = u0 then (f_L_law_419 sc K28 z3 z4 z5 z6 z8 z9 z10 z12 z15 z18 z19 z20 z21 z22 z23 z24 z25 u2 w) else (f_L_law_423 sc K28 z3 z4 z5 z6 z8 z9 z10 z12 z15 z18 z19 z20 z21 z22 z23 z24 z25 u2 w))
set_option maxRecDepth 100000 in
theorem S_L_law_416 {g : GC} (hl : g.1.stackTraces = false) {B Bs : Nat} (hB : B ≤ 300000) (hBs : Bs ≤ 2000000) {K28 : Int32 → Int32 → Int32 → XW → Option (Int32 × XW)} (hK28 : ∀ (z3 : Int32) (z4 : Int32) (z5 : Int32) (w : XW) (kc ks : Nat), kc ≤ B → ks ≤ Bs → VE g cL_law 27 RL (some .boolean) [] room_1 300000 2000000 oI kc ks 28 [(0, .ref g.2.2.2.2.2.2.1), (1, .ref (g.2.1 + 0)), (2, .ref (g.2.1 + 141)), (3, .int z3), (4, .int z4), (5, .int z5)] [] w (K28 z3 z4 z5 w)) : ∀ (z3 : Int32) (z4 : Int32) (z5 : Int32) (z6 : Int64) (z8 : Int32) (z9 : Int32) (z10 : Int32) (z12 : Int32) (z15 : Int32) (z18 : Int32) (z19 : Int32) (z20 : Int32) (z21 : Int32) (z22 : Int32) (z23 : Int32) (z24 : Int32) (z25 : Int32) (u0 : Int32) (u1 : Int32) (u2 : Int32) (w : XW) (kc ks : Nat), kc + 3732 ≤ B → ks + 22520 ≤ Bs → VE g cL_law 27 RL (some .boolean) [] room_1 300000 2000000 oI kc ks 416 [(0, .ref g.2.2.2.2.2.2.1), (1, .ref (g.2.1 + 0)), (2, .ref (g.2.1 + 141)), (3, .int z3), (4, .int z4), (5, .int z5), (6, .long z6), (8, .int z8), (9, .int z9), (10, .int z10), (12, .int z12), (15, .int z15), (18, .int z18), (19, .int z19), (20, .int z20), (21, .int z21), (22, .int z22), (23, .int z23), (24, .int z24), (25, .int z25)] [.int u0, .int u1, .int u2] w (f_L_law_416 (scG g) K28 z3 z4 z5 z6 z8 z9 z10 z12 z15 z18 z19 z20 z21 z22 z23 z24 z25 u0 u1 u2 w) := by
  intro z3 z4 z5 z6 z8 z9 z10 z12 z15 z18 z19 z20 z21 z22 z23 z24 z25 u0 u1 u2 w kc ks hk hks
  unfold f_L_law_416
  refine v_icmp_ne (tgt := 423) dL_law_416 (by decide) ?_ ?_
  · refine v_sub [0, 1, 2, 3, 4, 5, 6, 7, 8, 9, 10, 11, 12, 13, 14, 15, 16, 17, 18, 19] rfl ?_
    exact S_L_law_423 hl hB hBs hK28 _ _ _ _ _ _ _ _ _ _ _ _ _ _ _ _ _ _ _ _ _ (by omega) (by omega)
  · refine v_sub [0, 1, 2, 3, 4, 5, 6, 7, 8, 9, 10, 11, 12, 13, 14, 15, 16, 17, 18, 19] rfl ?_
    exact S_L_law_419 hl hB hBs hK28 _ _ _ _ _ _ _ _ _ _ _ _ _ _ _ _ _ _ _ _ _ (by omega) (by omega)
def f_L_law_369 (sc : Nat × (Nat → Int32)) (K28 : Int32 → Int32 → Int32 → XW → Option (Int32 × XW)) (z3 : Int32) (z4 : Int32) (z5 : Int32) (z6 : Int64) (z8 : Int32) (z9 : Int32) (z10 : Int32) (z12 : Int32) (z13 : Int32) (z15 : Int32) (z18 : Int32) (z19 : Int32) (z20 : Int32) (z21 : Int32) (z22 : Int32) (z23 : Int32) (z24 : Int32) (z25 : Int32) (u0 : Int32) (u1 : Int32) (u2 : Int32) (w : XW) : Option (Int32 × XW) := (if u1 = u0 then (if z25 = 0 then (bI (f_L_denial w) (fun r23 w23 => (if z12 = z10 then (f_L_law_416 sc K28 z3 z4 z5 z6 z8 z9 z10 z12 z15 z18 z19 z20 z21 z22 z23 z24 z25 2 r23 u2 w23) else (f_L_law_416 sc K28 z3 z4 z5 z6 z8 z9 z10 z12 z15 z18 z19 z20 z21 z22 z23 z24 z25 4 r23 u2 w23)))) else (if z24 = (z12 + 1) then (bI (f_L_sectionIn z13 w) (fun r24 w24 => (if r24 = z12 then (f_L_law_419 sc K28 z3 z4 z5 z6 z8 z9 z10 z12 z15 z18 z19 z20 z21 z22 z23 z24 z25 u2 w24) else (f_L_law_423 sc K28 z3 z4 z5 z6 z8 z9 z10 z12 z15 z18 z19 z20 z21 z22 z23 z24 z25 u2 w24)))) else (f_L_law_423 sc K28 z3 z4 z5 z6 z8 z9 z10 z12 z15 z18 z19 z20 z21 z22 z23 z24 z25 u2 w))) else (f_L_law_423 sc K28 z3 z4 z5 z6 z8 z9 z10 z12 z15 z18 z19 z20 z21 z22 z23 z24 z25 u2 w))
set_option maxRecDepth 100000 in
theorem S_L_law_369 {g : GC} (hl : g.1.stackTraces = false) {B Bs : Nat} (hB : B ≤ 300000) (hBs : Bs ≤ 2000000) {K28 : Int32 → Int32 → Int32 → XW → Option (Int32 × XW)} (hK28 : ∀ (z3 : Int32) (z4 : Int32) (z5 : Int32) (w : XW) (kc ks : Nat), kc ≤ B → ks ≤ Bs → VE g cL_law 27 RL (some .boolean) [] room_1 300000 2000000 oI kc ks 28 [(0, .ref g.2.2.2.2.2.2.1), (1, .ref (g.2.1 + 0)), (2, .ref (g.2.1 + 141)), (3, .int z3), (4, .int z4), (5, .int z5)] [] w (K28 z3 z4 z5 w)) : ∀ (z3 : Int32) (z4 : Int32) (z5 : Int32) (z6 : Int64) (z8 : Int32) (z9 : Int32) (z10 : Int32) (z12 : Int32) (z13 : Int32) (z15 : Int32) (z18 : Int32) (z19 : Int32) (z20 : Int32) (z21 : Int32) (z22 : Int32) (z23 : Int32) (z24 : Int32) (z25 : Int32) (u0 : Int32) (u1 : Int32) (u2 : Int32) (w : XW) (kc ks : Nat), kc + 3733 ≤ B → ks + 22526 ≤ Bs → VE g cL_law 27 RL (some .boolean) [] room_1 300000 2000000 oI kc ks 369 [(0, .ref g.2.2.2.2.2.2.1), (1, .ref (g.2.1 + 0)), (2, .ref (g.2.1 + 141)), (3, .int z3), (4, .int z4), (5, .int z5), (6, .long z6), (8, .int z8), (9, .int z9), (10, .int z10), (12, .int z12), (13, .int z13), (15, .int z15), (18, .int z18), (19, .int z19), (20, .int z20), (21, .int z21), (22, .int z22), (23, .int z23), (24, .int z24), (25, .int z25)] [.int u0, .int u1, .int u2] w (f_L_law_369 (scG g) K28 z3 z4 z5 z6 z8 z9 z10 z12 z13 z15 z18 z19 z20 z21 z22 z23 z24 z25 u0 u1 u2 w) := by
  intro z3 z4 z5 z6 z8 z9 z10 z12 z13 z15 z18 z19 z20 z21 z22 z23 z24 z25 u0 u1 u2 w kc ks hk hks
  unfold f_L_law_369
  refine v_icmp_ne (tgt := 423) dL_law_369 (by decide) ?_ ?_
  · refine v_sub [0, 1, 2, 3, 4, 5, 6, 7, 8, 9, 10, 12, 13, 14, 15, 16, 17, 18, 19, 20] rfl ?_
    exact S_L_law_423 hl hB hBs hK28 _ _ _ _ _ _ _ _ _ _ _ _ _ _ _ _ _ _ _ _ _ (by omega) (by omega)
  · refine v_iload dL_law_372 20 rfl ?_
    refine v_if_eq (tgt := 400) dL_law_374 (by decide) ?_ ?_
    · refine v_aload_n dL_law_400 rfl 1 rfl ?_
      refine v_callSh (As := [.ref (g.2.1 + 0)]) ch_L_185 (S_L_denial hl) rfl rfl (Nat.le_of_ble_eq_true rfl) dL_law_401 (CR_law (by decide) (by decide) (by omega) (by omega)) (fun r23 w23 => ?_)
      refine v_iload dL_law_404 10 rfl ?_
      refine v_iload dL_law_406 9 rfl ?_
      refine v_icmp_ne (tgt := 415) dL_law_408 (by decide) ?_ ?_
      · refine v_iconst (v := 4) dL_law_415 (by decide) ?_
        refine v_sub [0, 1, 2, 3, 4, 5, 6, 7, 8, 9, 10, 12, 13, 14, 15, 16, 17, 18, 19, 20] rfl ?_
        exact S_L_law_416 hl hB hBs hK28 _ _ _ _ _ _ _ _ _ _ _ _ _ _ _ _ _ _ _ _ _ _ _ (by omega) (by omega)
      · refine v_iconst (v := 2) dL_law_411 (by decide) ?_
        refine v_goto (tgt := 416) dL_law_412 (by decide) ?_
        refine v_sub [0, 1, 2, 3, 4, 5, 6, 7, 8, 9, 10, 12, 13, 14, 15, 16, 17, 18, 19, 20] rfl ?_
        exact S_L_law_416 hl hB hBs hK28 _ _ _ _ _ _ _ _ _ _ _ _ _ _ _ _ _ _ _ _ _ _ _ (by omega) (by omega)
    · refine v_iload dL_law_377 19 rfl ?_
      refine v_iload dL_law_379 10 rfl ?_
      refine v_iconst (v := 1) dL_law_381 (by decide) ?_
      refine v_iadd dL_law_382 ?_
      refine v_icmp_ne (tgt := 423) dL_law_383 (by decide) ?_ ?_
      · refine v_sub [0, 1, 2, 3, 4, 5, 6, 7, 8, 9, 10, 12, 13, 14, 15, 16, 17, 18, 19, 20] rfl ?_
        exact S_L_law_423 hl hB hBs hK28 _ _ _ _ _ _ _ _ _ _ _ _ _ _ _ _ _ _ _ _ _ (by omega) (by omega)
      · refine v_aload_n dL_law_386 rfl 1 rfl ?_
        refine v_iload dL_law_387 11 rfl ?_
        refine v_callSh (As := [.ref (g.2.1 + 0), .int z13]) ch_L_235 (S_L_sectionIn hl) rfl rfl (Nat.le_of_ble_eq_true rfl) dL_law_389 (CR_law (by decide) (by decide) (by omega) (by omega)) (fun r24 w24 => ?_)
        refine v_iload dL_law_392 10 rfl ?_
        refine v_icmp_ne (tgt := 423) dL_law_394 (by decide) ?_ ?_
        · refine v_sub [0, 1, 2, 3, 4, 5, 6, 7, 8, 9, 10, 12, 13, 14, 15, 16, 17, 18, 19, 20] rfl ?_
          exact S_L_law_423 hl hB hBs hK28 _ _ _ _ _ _ _ _ _ _ _ _ _ _ _ _ _ _ _ _ _ (by omega) (by omega)
        · refine v_goto (tgt := 419) dL_law_397 (by decide) ?_
          refine v_sub [0, 1, 2, 3, 4, 5, 6, 7, 8, 9, 10, 12, 13, 14, 15, 16, 17, 18, 19, 20] rfl ?_
          exact S_L_law_419 hl hB hBs hK28 _ _ _ _ _ _ _ _ _ _ _ _ _ _ _ _ _ _ _ _ _ (by omega) (by omega)
def f_L_law_338 (sc : Nat × (Nat → Int32)) (K28 : Int32 → Int32 → Int32 → XW → Option (Int32 × XW)) (z3 : Int32) (z4 : Int32) (z5 : Int32) (z6 : Int64) (z8 : Int32) (z9 : Int32) (z10 : Int32) (z12 : Int32) (z13 : Int32) (z15 : Int32) (z16 : Int32) (z18 : Int32) (z19 : Int32) (z20 : Int32) (z21 : Int32) (z22 : Int32) (z23 : Int32) (z24 : Int32) (z25 : Int32) (u0 : Int32) (w : XW) : Option (Int32 × XW) := (if z9 < 14 then (f_L_law_419 sc K28 z3 z4 z5 z6 z8 z9 z10 z12 z15 z18 z19 z20 z21 z22 z23 z24 z25 u0 w) else (if 20 < z9 then (f_L_law_419 sc K28 z3 z4 z5 z6 z8 z9 z10 z12 z15 z18 z19 z20 z21 z22 z23 z24 z25 u0 w) else (if z16 = 1 then (f_L_law_369 sc K28 z3 z4 z5 z6 z8 z9 z10 z12 z13 z15 z18 z19 z20 z21 z22 z23 z24 z25 1 z25 u0 w) else (f_L_law_369 sc K28 z3 z4 z5 z6 z8 z9 z10 z12 z13 z15 z18 z19 z20 z21 z22 z23 z24 z25 0 z25 u0 w))))
set_option maxRecDepth 100000 in
theorem S_L_law_338 {g : GC} (hl : g.1.stackTraces = false) {B Bs : Nat} (hB : B ≤ 300000) (hBs : Bs ≤ 2000000) {K28 : Int32 → Int32 → Int32 → XW → Option (Int32 × XW)} (hK28 : ∀ (z3 : Int32) (z4 : Int32) (z5 : Int32) (w : XW) (kc ks : Nat), kc ≤ B → ks ≤ Bs → VE g cL_law 27 RL (some .boolean) [] room_1 300000 2000000 oI kc ks 28 [(0, .ref g.2.2.2.2.2.2.1), (1, .ref (g.2.1 + 0)), (2, .ref (g.2.1 + 141)), (3, .int z3), (4, .int z4), (5, .int z5)] [] w (K28 z3 z4 z5 w)) : ∀ (z3 : Int32) (z4 : Int32) (z5 : Int32) (z6 : Int64) (z8 : Int32) (z9 : Int32) (z10 : Int32) (z12 : Int32) (z13 : Int32) (z15 : Int32) (z16 : Int32) (z18 : Int32) (z19 : Int32) (z20 : Int32) (z21 : Int32) (z22 : Int32) (z23 : Int32) (z24 : Int32) (z25 : Int32) (u0 : Int32) (w : XW) (kc ks : Nat), kc + 3733 ≤ B → ks + 22526 ≤ Bs → VE g cL_law 27 RL (some .boolean) [] room_1 300000 2000000 oI kc ks 338 [(0, .ref g.2.2.2.2.2.2.1), (1, .ref (g.2.1 + 0)), (2, .ref (g.2.1 + 141)), (3, .int z3), (4, .int z4), (5, .int z5), (6, .long z6), (8, .int z8), (9, .int z9), (10, .int z10), (12, .int z12), (13, .int z13), (15, .int z15), (16, .int z16), (18, .int z18), (19, .int z19), (20, .int z20), (21, .int z21), (22, .int z22), (23, .int z23), (24, .int z24), (25, .int z25)] [.int u0] w (f_L_law_338 (scG g) K28 z3 z4 z5 z6 z8 z9 z10 z12 z13 z15 z16 z18 z19 z20 z21 z22 z23 z24 z25 u0 w) := by
  intro z3 z4 z5 z6 z8 z9 z10 z12 z13 z15 z16 z18 z19 z20 z21 z22 z23 z24 z25 u0 w kc ks hk hks
  unfold f_L_law_338
  refine v_istore dL_law_338 (Nat.le_of_ble_eq_true rfl) rfl ?_
  refine v_iload dL_law_340 0 rfl ?_
  refine v_iload dL_law_342 9 rfl ?_
  refine v_bipush (v := 14) dL_law_344 (by decide) ?_
  refine v_icmp_lt (tgt := 419) dL_law_346 (by decide) ?_ ?_
  · refine v_sub [1, 2, 3, 4, 5, 6, 7, 8, 9, 10, 11, 13, 15, 16, 17, 18, 19, 20, 21, 22] rfl ?_
    exact S_L_law_419 hl hB hBs hK28 _ _ _ _ _ _ _ _ _ _ _ _ _ _ _ _ _ _ _ _ _ (by omega) (by omega)
  · refine v_iload dL_law_349 9 rfl ?_
    refine v_bipush (v := 20) dL_law_351 (by decide) ?_
    refine v_icmp_gt (tgt := 419) dL_law_353 (by decide) ?_ ?_
    · refine v_sub [1, 2, 3, 4, 5, 6, 7, 8, 9, 10, 11, 13, 15, 16, 17, 18, 19, 20, 21, 22] rfl ?_
      exact S_L_law_419 hl hB hBs hK28 _ _ _ _ _ _ _ _ _ _ _ _ _ _ _ _ _ _ _ _ _ (by omega) (by omega)
    · refine v_iload dL_law_356 22 rfl ?_
      refine v_iload dL_law_358 14 rfl ?_
      refine v_iconst (v := 1) dL_law_360 (by decide) ?_
      refine v_icmp_ne (tgt := 368) dL_law_361 (by decide) ?_ ?_
      · refine v_iconst (v := 0) dL_law_368 (by decide) ?_
        refine v_sub [1, 2, 3, 4, 5, 6, 7, 8, 9, 10, 11, 12, 13, 15, 16, 17, 18, 19, 20, 21, 22] rfl ?_
        exact S_L_law_369 hl hB hBs hK28 _ _ _ _ _ _ _ _ _ _ _ _ _ _ _ _ _ _ _ _ _ _ _ _ (by omega) (by omega)
      · refine v_iconst (v := 1) dL_law_364 (by decide) ?_
        refine v_goto (tgt := 369) dL_law_365 (by decide) ?_
        refine v_sub [1, 2, 3, 4, 5, 6, 7, 8, 9, 10, 11, 12, 13, 15, 16, 17, 18, 19, 20, 21, 22] rfl ?_
        exact S_L_law_369 hl hB hBs hK28 _ _ _ _ _ _ _ _ _ _ _ _ _ _ _ _ _ _ _ _ _ _ _ _ (by omega) (by omega)
def f_L_law_337 (sc : Nat × (Nat → Int32)) (K28 : Int32 → Int32 → Int32 → XW → Option (Int32 × XW)) (z3 : Int32) (z4 : Int32) (z5 : Int32) (z6 : Int64) (z8 : Int32) (z9 : Int32) (z10 : Int32) (z12 : Int32) (z13 : Int32) (z15 : Int32) (z16 : Int32) (z18 : Int32) (z19 : Int32) (z20 : Int32) (z21 : Int32) (z22 : Int32) (z23 : Int32) (z24 : Int32) (z25 : Int32) (w : XW) : Option (Int32 × XW) := (f_L_law_338 sc K28 z3 z4 z5 z6 z8 z9 z10 z12 z13 z15 z16 z18 z19 z20 z21 z22 z23 z24 z25 0 w)
set_option maxRecDepth 100000 in
theorem S_L_law_337 {g : GC} (hl : g.1.stackTraces = false) {B Bs : Nat} (hB : B ≤ 300000) (hBs : Bs ≤ 2000000) {K28 : Int32 → Int32 → Int32 → XW → Option (Int32 × XW)} (hK28 : ∀ (z3 : Int32) (z4 : Int32) (z5 : Int32) (w : XW) (kc ks : Nat), kc ≤ B → ks ≤ Bs → VE g cL_law 27 RL (some .boolean) [] room_1 300000 2000000 oI kc ks 28 [(0, .ref g.2.2.2.2.2.2.1), (1, .ref (g.2.1 + 0)), (2, .ref (g.2.1 + 141)), (3, .int z3), (4, .int z4), (5, .int z5)] [] w (K28 z3 z4 z5 w)) : ∀ (z3 : Int32) (z4 : Int32) (z5 : Int32) (z6 : Int64) (z8 : Int32) (z9 : Int32) (z10 : Int32) (z12 : Int32) (z13 : Int32) (z15 : Int32) (z16 : Int32) (z18 : Int32) (z19 : Int32) (z20 : Int32) (z21 : Int32) (z22 : Int32) (z23 : Int32) (z24 : Int32) (z25 : Int32) (w : XW) (kc ks : Nat), kc + 3733 ≤ B → ks + 22526 ≤ Bs → VE g cL_law 27 RL (some .boolean) [] room_1 300000 2000000 oI kc ks 337 [(0, .ref g.2.2.2.2.2.2.1), (1, .ref (g.2.1 + 0)), (2, .ref (g.2.1 + 141)), (3, .int z3), (4, .int z4), (5, .int z5), (6, .long z6), (8, .int z8), (9, .int z9), (10, .int z10), (12, .int z12), (13, .int z13), (15, .int z15), (16, .int z16), (18, .int z18), (19, .int z19), (20, .int z20), (21, .int z21), (22, .int z22), (23, .int z23), (24, .int z24), (25, .int z25)] [] w (f_L_law_337 (scG g) K28 z3 z4 z5 z6 z8 z9 z10 z12 z13 z15 z16 z18 z19 z20 z21 z22 z23 z24 z25 w) := by
  intro z3 z4 z5 z6 z8 z9 z10 z12 z13 z15 z16 z18 z19 z20 z21 z22 z23 z24 z25 w kc ks hk hks
  unfold f_L_law_337
  refine v_iconst (v := 0) dL_law_337 (by decide) ?_
  refine v_sub [0, 1, 2, 3, 4, 5, 6, 7, 8, 9, 10, 11, 12, 13, 14, 15, 16, 17, 18, 19, 20, 21] rfl ?_
  exact S_L_law_338 hl hB hBs hK28 _ _ _ _ _ _ _ _ _ _ _ _ _ _ _ _ _ _ _ _ _ _ _ (by omega) (by omega)
def f_L_law_333 (sc : Nat × (Nat → Int32)) (K28 : Int32 → Int32 → Int32 → XW → Option (Int32 × XW)) (z3 : Int32) (z4 : Int32) (z5 : Int32) (z6 : Int64) (z8 : Int32) (z9 : Int32) (z10 : Int32) (z12 : Int32) (z13 : Int32) (z15 : Int32) (z16 : Int32) (z18 : Int32) (z19 : Int32) (z20 : Int32) (z21 : Int32) (z22 : Int32) (z23 : Int32) (z24 : Int32) (z25 : Int32) (w : XW) : Option (Int32 × XW) := (f_L_law_338 sc K28 z3 z4 z5 z6 z8 z9 z10 z12 z13 z15 z16 z18 z19 z20 z21 z22 z23 z24 z25 1 w)
set_option maxRecDepth 100000 in
theorem S_L_law_333 {g : GC} (hl : g.1.stackTraces = false) {B Bs : Nat} (hB : B ≤ 300000) (hBs : Bs ≤ 2000000) {K28 : Int32 → Int32 → Int32 → XW → Option (Int32 × XW)} (hK28 : ∀ (z3 : Int32) (z4 : Int32) (z5 : Int32) (w : XW) (kc ks : Nat), kc ≤ B → ks ≤ Bs → VE g cL_law 27 RL (some .boolean) [] room_1 300000 2000000 oI kc ks 28 [(0, .ref g.2.2.2.2.2.2.1), (1, .ref (g.2.1 + 0)), (2, .ref (g.2.1 + 141)), (3, .int z3), (4, .int z4), (5, .int z5)] [] w (K28 z3 z4 z5 w)) : ∀ (z3 : Int32) (z4 : Int32) (z5 : Int32) (z6 : Int64) (z8 : Int32) (z9 : Int32) (z10 : Int32) (z12 : Int32) (z13 : Int32) (z15 : Int32) (z16 : Int32) (z18 : Int32) (z19 : Int32) (z20 : Int32) (z21 : Int32) (z22 : Int32) (z23 : Int32) (z24 : Int32) (z25 : Int32) (w : XW) (kc ks : Nat), kc + 3733 ≤ B → ks + 22526 ≤ Bs → VE g cL_law 27 RL (some .boolean) [] room_1 300000 2000000 oI kc ks 333 [(0, .ref g.2.2.2.2.2.2.1), (1, .ref (g.2.1 + 0)), (2, .ref (g.2.1 + 141)), (3, .int z3), (4, .int z4), (5, .int z5), (6, .long z6), (8, .int z8), (9, .int z9), (10, .int z10), (12, .int z12), (13, .int z13), (15, .int z15), (16, .int z16), (18, .int z18), (19, .int z19), (20, .int z20), (21, .int z21), (22, .int z22), (23, .int z23), (24, .int z24), (25, .int z25)] [] w (f_L_law_333 (scG g) K28 z3 z4 z5 z6 z8 z9 z10 z12 z13 z15 z16 z18 z19 z20 z21 z22 z23 z24 z25 w) := by
  intro z3 z4 z5 z6 z8 z9 z10 z12 z13 z15 z16 z18 z19 z20 z21 z22 z23 z24 z25 w kc ks hk hks
  unfold f_L_law_333
  refine v_iconst (v := 1) dL_law_333 (by decide) ?_
  refine v_goto (tgt := 338) dL_law_334 (by decide) ?_
  refine v_sub [0, 1, 2, 3, 4, 5, 6, 7, 8, 9, 10, 11, 12, 13, 14, 15, 16, 17, 18, 19, 20, 21] rfl ?_
  exact S_L_law_338 hl hB hBs hK28 _ _ _ _ _ _ _ _ _ _ _ _ _ _ _ _ _ _ _ _ _ _ _ (by omega) (by omega)
def f_L_law_295 (sc : Nat × (Nat → Int32)) (K28 : Int32 → Int32 → Int32 → XW → Option (Int32 × XW)) (z3 : Int32) (z4 : Int32) (z5 : Int32) (z6 : Int64) (z8 : Int32) (z9 : Int32) (z10 : Int32) (z11 : Int32) (z12 : Int32) (z13 : Int32) (z15 : Int32) (z16 : Int32) (z17 : Int32) (z18 : Int32) (z19 : Int32) (z20 : Int32) (z21 : Int32) (z22 : Int32) (z23 : Int32) (z24 : Int32) (u0 : Int32) (w : XW) : Option (Int32 × XW) := (if u0 = 0 then (f_L_law_333 sc K28 z3 z4 z5 z6 z8 z9 z10 z12 z13 z15 z16 z18 z19 z20 z21 z22 z23 z24 u0 w) else (if z9 < 3 then (f_L_law_333 sc K28 z3 z4 z5 z6 z8 z9 z10 z12 z13 z15 z16 z18 z19 z20 z21 z22 z23 z24 u0 w) else (if 7 < z9 then (f_L_law_333 sc K28 z3 z4 z5 z6 z8 z9 z10 z12 z13 z15 z16 z18 z19 z20 z21 z22 z23 z24 u0 w) else (bI (f_L_water z11 w) (fun r22 w22 => (if z24 = r22 then (if z24 ≤ z17 then (f_L_law_337 sc K28 z3 z4 z5 z6 z8 z9 z10 z12 z13 z15 z16 z18 z19 z20 z21 z22 z23 z24 u0 w22) else (f_L_law_333 sc K28 z3 z4 z5 z6 z8 z9 z10 z12 z13 z15 z16 z18 z19 z20 z21 z22 z23 z24 u0 w22)) else (f_L_law_337 sc K28 z3 z4 z5 z6 z8 z9 z10 z12 z13 z15 z16 z18 z19 z20 z21 z22 z23 z24 u0 w22)))))))
set_option maxRecDepth 100000 in
theorem S_L_law_295 {g : GC} (hl : g.1.stackTraces = false) {B Bs : Nat} (hB : B ≤ 300000) (hBs : Bs ≤ 2000000) {K28 : Int32 → Int32 → Int32 → XW → Option (Int32 × XW)} (hK28 : ∀ (z3 : Int32) (z4 : Int32) (z5 : Int32) (w : XW) (kc ks : Nat), kc ≤ B → ks ≤ Bs → VE g cL_law 27 RL (some .boolean) [] room_1 300000 2000000 oI kc ks 28 [(0, .ref g.2.2.2.2.2.2.1), (1, .ref (g.2.1 + 0)), (2, .ref (g.2.1 + 141)), (3, .int z3), (4, .int z4), (5, .int z5)] [] w (K28 z3 z4 z5 w)) : ∀ (z3 : Int32) (z4 : Int32) (z5 : Int32) (z6 : Int64) (z8 : Int32) (z9 : Int32) (z10 : Int32) (z11 : Int32) (z12 : Int32) (z13 : Int32) (z15 : Int32) (z16 : Int32) (z17 : Int32) (z18 : Int32) (z19 : Int32) (z20 : Int32) (z21 : Int32) (z22 : Int32) (z23 : Int32) (z24 : Int32) (u0 : Int32) (w : XW) (kc ks : Nat), kc + 3734 ≤ B → ks + 22532 ≤ Bs → VE g cL_law 27 RL (some .boolean) [] room_1 300000 2000000 oI kc ks 295 [(0, .ref g.2.2.2.2.2.2.1), (1, .ref (g.2.1 + 0)), (2, .ref (g.2.1 + 141)), (3, .int z3), (4, .int z4), (5, .int z5), (6, .long z6), (8, .int z8), (9, .int z9), (10, .int z10), (11, .int z11), (12, .int z12), (13, .int z13), (15, .int z15), (16, .int z16), (17, .int z17), (18, .int z18), (19, .int z19), (20, .int z20), (21, .int z21), (22, .int z22), (23, .int z23), (24, .int z24)] [.int u0] w (f_L_law_295 (scG g) K28 z3 z4 z5 z6 z8 z9 z10 z11 z12 z13 z15 z16 z17 z18 z19 z20 z21 z22 z23 z24 u0 w) := by
  intro z3 z4 z5 z6 z8 z9 z10 z11 z12 z13 z15 z16 z17 z18 z19 z20 z21 z22 z23 z24 u0 w kc ks hk hks
  unfold f_L_law_295
  refine v_istore dL_law_295 (Nat.le_of_ble_eq_true rfl) rfl ?_
  refine v_iload dL_law_297 0 rfl ?_
  refine v_if_eq (tgt := 333) dL_law_299 (by decide) ?_ ?_
  · refine v_sub [1, 2, 3, 4, 5, 6, 7, 8, 9, 10, 12, 13, 14, 15, 17, 18, 19, 20, 21, 22, 23, 0] rfl ?_
    exact S_L_law_333 hl hB hBs hK28 _ _ _ _ _ _ _ _ _ _ _ _ _ _ _ _ _ _ _ _ _ _ (by omega) (by omega)
  · refine v_iload dL_law_302 9 rfl ?_
    refine v_iconst (v := 3) dL_law_304 (by decide) ?_
    refine v_icmp_lt (tgt := 333) dL_law_305 (by decide) ?_ ?_
    · refine v_sub [1, 2, 3, 4, 5, 6, 7, 8, 9, 10, 12, 13, 14, 15, 17, 18, 19, 20, 21, 22, 23, 0] rfl ?_
      exact S_L_law_333 hl hB hBs hK28 _ _ _ _ _ _ _ _ _ _ _ _ _ _ _ _ _ _ _ _ _ _ (by omega) (by omega)
    · refine v_iload dL_law_308 9 rfl ?_
      refine v_bipush (v := 7) dL_law_310 (by decide) ?_
      refine v_icmp_gt (tgt := 333) dL_law_312 (by decide) ?_ ?_
      · refine v_sub [1, 2, 3, 4, 5, 6, 7, 8, 9, 10, 12, 13, 14, 15, 17, 18, 19, 20, 21, 22, 23, 0] rfl ?_
        exact S_L_law_333 hl hB hBs hK28 _ _ _ _ _ _ _ _ _ _ _ _ _ _ _ _ _ _ _ _ _ _ (by omega) (by omega)
      · refine v_iload dL_law_315 23 rfl ?_
        refine v_aload_n dL_law_317 rfl 2 rfl ?_
        refine v_iload dL_law_318 11 rfl ?_
        refine v_callSh (As := [.ref (g.2.1 + 0), .int z11]) ch_L_217 (S_L_water hl) rfl rfl (Nat.le_of_ble_eq_true rfl) dL_law_320 (CR_law (by decide) (by decide) (by omega) (by omega)) (fun r22 w22 => ?_)
        refine v_icmp_ne (tgt := 337) dL_law_323 (by decide) ?_ ?_
        · refine v_sub [1, 2, 3, 4, 5, 6, 7, 8, 9, 10, 12, 13, 14, 15, 17, 18, 19, 20, 21, 22, 23, 0] rfl ?_
          exact S_L_law_337 hl hB hBs hK28 _ _ _ _ _ _ _ _ _ _ _ _ _ _ _ _ _ _ _ _ _ _ (by omega) (by omega)
        · refine v_iload dL_law_326 23 rfl ?_
          refine v_iload dL_law_328 16 rfl ?_
          refine v_icmp_le (tgt := 337) dL_law_330 (by decide) ?_ ?_
          · refine v_sub [1, 2, 3, 4, 5, 6, 7, 8, 9, 10, 12, 13, 14, 15, 17, 18, 19, 20, 21, 22, 23, 0] rfl ?_
            exact S_L_law_337 hl hB hBs hK28 _ _ _ _ _ _ _ _ _ _ _ _ _ _ _ _ _ _ _ _ _ _ (by omega) (by omega)
          · refine v_sub [1, 2, 3, 4, 5, 6, 7, 8, 9, 10, 12, 13, 14, 15, 17, 18, 19, 20, 21, 22, 23, 0] rfl ?_
            exact S_L_law_333 hl hB hBs hK28 _ _ _ _ _ _ _ _ _ _ _ _ _ _ _ _ _ _ _ _ _ _ (by omega) (by omega)
def f_L_law_258 (sc : Nat × (Nat → Int32)) (K28 : Int32 → Int32 → Int32 → XW → Option (Int32 × XW)) (z3 : Int32) (z4 : Int32) (z5 : Int32) (z6 : Int64) (z8 : Int32) (z9 : Int32) (z10 : Int32) (z11 : Int32) (z12 : Int32) (z13 : Int32) (z15 : Int32) (z16 : Int32) (z17 : Int32) (z18 : Int32) (z19 : Int32) (z20 : Int32) (z21 : Int32) (u0 : Int32) (w : XW) : Option (Int32 × XW) := (bI (f_L_over w) (fun r20 w20 => (bI (f_L_does sc z4 z9 z11 z13 z15 w20) (fun r21 w21 => (if r21 ≤ (-70) then (f_L_law_295 sc K28 z3 z4 z5 z6 z8 z9 z10 z11 z12 z13 z15 z16 z17 z18 z19 z20 z21 u0 r20 r21 0 w21) else (f_L_law_295 sc K28 z3 z4 z5 z6 z8 z9 z10 z11 z12 z13 z15 z16 z17 z18 z19 z20 z21 u0 r20 r21 1 w21))))))
set_option maxRecDepth 100000 in
theorem S_L_law_258 {g : GC} (hl : g.1.stackTraces = false) {B Bs : Nat} (hB : B ≤ 300000) (hBs : Bs ≤ 2000000) {K28 : Int32 → Int32 → Int32 → XW → Option (Int32 × XW)} (hK28 : ∀ (z3 : Int32) (z4 : Int32) (z5 : Int32) (w : XW) (kc ks : Nat), kc ≤ B → ks ≤ Bs → VE g cL_law 27 RL (some .boolean) [] room_1 300000 2000000 oI kc ks 28 [(0, .ref g.2.2.2.2.2.2.1), (1, .ref (g.2.1 + 0)), (2, .ref (g.2.1 + 141)), (3, .int z3), (4, .int z4), (5, .int z5)] [] w (K28 z3 z4 z5 w)) : ∀ (z3 : Int32) (z4 : Int32) (z5 : Int32) (z6 : Int64) (z8 : Int32) (z9 : Int32) (z10 : Int32) (z11 : Int32) (z12 : Int32) (z13 : Int32) (z15 : Int32) (z16 : Int32) (z17 : Int32) (z18 : Int32) (z19 : Int32) (z20 : Int32) (z21 : Int32) (u0 : Int32) (w : XW) (kc ks : Nat), kc + 3796 ≤ B → ks + 22936 ≤ Bs → VE g cL_law 27 RL (some .boolean) [] room_1 300000 2000000 oI kc ks 258 [(0, .ref g.2.2.2.2.2.2.1), (1, .ref (g.2.1 + 0)), (2, .ref (g.2.1 + 141)), (3, .int z3), (4, .int z4), (5, .int z5), (6, .long z6), (8, .int z8), (9, .int z9), (10, .int z10), (11, .int z11), (12, .int z12), (13, .int z13), (15, .int z15), (16, .int z16), (17, .int z17), (18, .int z18), (19, .int z19), (20, .int z20), (21, .int z21)] [.int u0] w (f_L_law_258 (scG g) K28 z3 z4 z5 z6 z8 z9 z10 z11 z12 z13 z15 z16 z17 z18 z19 z20 z21 u0 w) := by
  intro z3 z4 z5 z6 z8 z9 z10 z11 z12 z13 z15 z16 z17 z18 z19 z20 z21 u0 w kc ks hk hks
  unfold f_L_law_258
  refine v_istore dL_law_258 (Nat.le_of_ble_eq_true rfl) rfl ?_
  refine v_aload_n dL_law_260 rfl 2 rfl ?_
  refine v_callSi (As := [.ref (g.2.1 + 0)]) cs_L_228 (S_L_over hl) rfl rfl (Nat.le_of_ble_eq_true rfl) dL_law_261 (CR_law (by decide) (by decide) (by omega) (by omega)) (fun r20 w20 => ?_)
  refine v_istore dL_law_264 (Nat.le_of_ble_eq_true rfl) rfl ?_
  refine v_aload_n dL_law_266 rfl 2 rfl ?_
  refine v_iload dL_law_267 6 rfl ?_
  refine v_iload dL_law_269 10 rfl ?_
  refine v_aload_n dL_law_271 rfl 3 rfl ?_
  refine v_iload dL_law_272 12 rfl ?_
  refine v_iload dL_law_274 14 rfl ?_
  refine v_iload dL_law_276 15 rfl ?_
  refine v_callSi (As := [.ref g.2.2.2.2.2.2.1, .int z4, .int z9, .ref (g.2.1 + 0), .int z11, .int z13, .int z15]) cs_L_231 (S_L_does hl) rfl rfl (Nat.le_of_ble_eq_true rfl) dL_law_278 (CR_law (by decide) (by decide) (by omega) (by omega)) (fun r21 w21 => ?_)
  refine v_istore dL_law_281 (Nat.le_of_ble_eq_true rfl) rfl ?_
  refine v_iload dL_law_283 0 rfl ?_
  refine v_bipush (v := (-70)) dL_law_285 (by decide) ?_
  refine v_icmp_le (tgt := 294) dL_law_287 (by decide) ?_ ?_
  · refine v_iconst (v := 0) dL_law_294 (by decide) ?_
    refine v_sub [3, 4, 5, 6, 7, 8, 9, 10, 11, 12, 13, 14, 15, 16, 17, 18, 19, 20, 21, 22, 2, 1, 0] rfl ?_
    exact S_L_law_295 hl hB hBs hK28 _ _ _ _ _ _ _ _ _ _ _ _ _ _ _ _ _ _ _ _ _ _ _ _ (by omega) (by omega)
  · refine v_iconst (v := 1) dL_law_290 (by decide) ?_
    refine v_goto (tgt := 295) dL_law_291 (by decide) ?_
    refine v_sub [3, 4, 5, 6, 7, 8, 9, 10, 11, 12, 13, 14, 15, 16, 17, 18, 19, 20, 21, 22, 2, 1, 0] rfl ?_
    exact S_L_law_295 hl hB hBs hK28 _ _ _ _ _ _ _ _ _ _ _ _ _ _ _ _ _ _ _ _ _ _ _ _ (by omega) (by omega)
def f_L_law_220 (sc : Nat × (Nat → Int32)) (K28 : Int32 → Int32 → Int32 → XW → Option (Int32 × XW)) (z3 : Int32) (z4 : Int32) (z5 : Int32) (z6 : Int64) (z8 : Int32) (z9 : Int32) (z10 : Int32) (z11 : Int32) (z12 : Int32) (z13 : Int32) (z15 : Int32) (z16 : Int32) (z17 : Int32) (u0 : Int32) (w : XW) : Option (Int32 × XW) := (bI (f_L_lossOf z15 w) (fun r16 w16 => (bI (f_L_isBroken z15 w16) (fun r17 w17 => (bI (f_X10_leaked w17) (fun r18 w18 => (if z10 = 0 then (f_L_law_258 sc K28 z3 z4 z5 z6 z8 z9 z10 z11 z12 z13 z15 z16 z17 u0 r16 r17 r18 0 w18) else (bI (f_L_water 0 w18) (fun r19 w19 => (f_L_law_258 sc K28 z3 z4 z5 z6 z8 z9 z10 z11 z12 z13 z15 z16 z17 u0 r16 r17 r18 r19 w19))))))))))
set_option maxRecDepth 100000 in
theorem S_L_law_220 {g : GC} (hl : g.1.stackTraces = false) {B Bs : Nat} (hB : B ≤ 300000) (hBs : Bs ≤ 2000000) {K28 : Int32 → Int32 → Int32 → XW → Option (Int32 × XW)} (hK28 : ∀ (z3 : Int32) (z4 : Int32) (z5 : Int32) (w : XW) (kc ks : Nat), kc ≤ B → ks ≤ Bs → VE g cL_law 27 RL (some .boolean) [] room_1 300000 2000000 oI kc ks 28 [(0, .ref g.2.2.2.2.2.2.1), (1, .ref (g.2.1 + 0)), (2, .ref (g.2.1 + 141)), (3, .int z3), (4, .int z4), (5, .int z5)] [] w (K28 z3 z4 z5 w)) : ∀ (z3 : Int32) (z4 : Int32) (z5 : Int32) (z6 : Int64) (z8 : Int32) (z9 : Int32) (z10 : Int32) (z11 : Int32) (z12 : Int32) (z13 : Int32) (z15 : Int32) (z16 : Int32) (z17 : Int32) (u0 : Int32) (w : XW) (kc ks : Nat), kc + 3799 ≤ B → ks + 22954 ≤ Bs → VE g cL_law 27 RL (some .boolean) [] room_1 300000 2000000 oI kc ks 220 [(0, .ref g.2.2.2.2.2.2.1), (1, .ref (g.2.1 + 0)), (2, .ref (g.2.1 + 141)), (3, .int z3), (4, .int z4), (5, .int z5), (6, .long z6), (8, .int z8), (9, .int z9), (10, .int z10), (11, .int z11), (12, .int z12), (13, .int z13), (15, .int z15), (16, .int z16), (17, .int z17)] [.int u0] w (f_L_law_220 (scG g) K28 z3 z4 z5 z6 z8 z9 z10 z11 z12 z13 z15 z16 z17 u0 w) := by
  intro z3 z4 z5 z6 z8 z9 z10 z11 z12 z13 z15 z16 z17 u0 w kc ks hk hks
  unfold f_L_law_220
  refine v_istore dL_law_220 (Nat.le_of_ble_eq_true rfl) rfl ?_
  refine v_aload_n dL_law_222 rfl 2 rfl ?_
  refine v_iload dL_law_223 14 rfl ?_
  refine v_callSh (As := [.ref (g.2.1 + 0), .int z15]) ch_L_221 (S_L_lossOf hl) rfl rfl (Nat.le_of_ble_eq_true rfl) dL_law_225 (CR_law (by decide) (by decide) (by omega) (by omega)) (fun r16 w16 => ?_)
  refine v_istore dL_law_228 (Nat.le_of_ble_eq_true rfl) rfl ?_
  refine v_aload_n dL_law_230 rfl 3 rfl ?_
  refine v_iload dL_law_231 15 rfl ?_
  refine v_callSh (As := [.ref (g.2.1 + 0), .int z15]) ch_L_223 (S_L_isBroken hl) rfl rfl (Nat.le_of_ble_eq_true rfl) dL_law_233 (CR_law (by decide) (by decide) (by omega) (by omega)) (fun r17 w17 => ?_)
  refine v_istore dL_law_236 (Nat.le_of_ble_eq_true rfl) rfl ?_
  refine v_aload_n dL_law_238 rfl 4 rfl ?_
  refine v_callVi (As := []) cv_L_225 (S_X10_leaked hl) tt_0 rfl rfl rfl (Nat.le_of_ble_eq_true rfl) dL_law_239 (CR_law (by decide) (by decide) (by omega) (by omega)) (fun r18 w18 => ?_)
  refine v_istore dL_law_242 (Nat.le_of_ble_eq_true rfl) rfl ?_
  refine v_iload dL_law_244 13 rfl ?_
  refine v_if_ne (tgt := 253) dL_law_246 (by decide) ?_ ?_
  · refine v_aload_n dL_law_253 rfl 5 rfl ?_
    refine v_iconst (v := 0) dL_law_254 (by decide) ?_
    refine v_callSh (As := [.ref (g.2.1 + 0), .int 0]) ch_L_217 (S_L_water hl) rfl rfl (Nat.le_of_ble_eq_true rfl) dL_law_255 (CR_law (by decide) (by decide) (by omega) (by omega)) (fun r19 w19 => ?_)
    refine v_sub [4, 5, 6, 7, 8, 9, 10, 11, 12, 13, 14, 15, 16, 17, 18, 19, 3, 2, 1, 0] rfl ?_
    exact S_L_law_258 hl hB hBs hK28 _ _ _ _ _ _ _ _ _ _ _ _ _ _ _ _ _ _ _ _ _ (by omega) (by omega)
  · refine v_iconst (v := 0) dL_law_249 (by decide) ?_
    refine v_goto (tgt := 258) dL_law_250 (by decide) ?_
    refine v_sub [4, 5, 6, 7, 8, 9, 10, 11, 12, 13, 14, 15, 16, 17, 18, 19, 3, 2, 1, 0] rfl ?_
    exact S_L_law_258 hl hB hBs hK28 _ _ _ _ _ _ _ _ _ _ _ _ _ _ _ _ _ _ _ _ _ (by omega) (by omega)
def f_L_law_183 (sc : Nat × (Nat → Int32)) (K28 : Int32 → Int32 → Int32 → XW → Option (Int32 × XW)) (z3 : Int32) (z4 : Int32) (z5 : Int32) (z6 : Int64) (z8 : Int32) (z9 : Int32) (z10 : Int32) (z11 : Int32) (z12 : Int32) (z13 : Int32) (u0 : Int32) (u1 : Int32) (u2 : Int32) (w : XW) : Option (Int32 × XW) := (bI (f_L_pick sc u2 (u1 + u0) w) (fun r12 w12 => (bI (f_L_canFold z13 w12) (fun r13 w13 => (bI (f_L_water z11 w13) (fun r14 w14 => (if 2 ≤ z10 then (bI (f_L_greatestFlow w14) (fun r15 w15 => (f_L_law_220 sc K28 z3 z4 z5 z6 z8 z9 z10 z11 z12 z13 r12 r13 r14 r15 w15))) else (f_L_law_220 sc K28 z3 z4 z5 z6 z8 z9 z10 z11 z12 z13 r12 r13 r14 (-76) w14))))))))
set_option maxRecDepth 100000 in
theorem S_L_law_183 {g : GC} (hl : g.1.stackTraces = false) {B Bs : Nat} (hB : B ≤ 300000) (hBs : Bs ≤ 2000000) {K28 : Int32 → Int32 → Int32 → XW → Option (Int32 × XW)} (hK28 : ∀ (z3 : Int32) (z4 : Int32) (z5 : Int32) (w : XW) (kc ks : Nat), kc ≤ B → ks ≤ Bs → VE g cL_law 27 RL (some .boolean) [] room_1 300000 2000000 oI kc ks 28 [(0, .ref g.2.2.2.2.2.2.1), (1, .ref (g.2.1 + 0)), (2, .ref (g.2.1 + 141)), (3, .int z3), (4, .int z4), (5, .int z5)] [] w (K28 z3 z4 z5 w)) : ∀ (z3 : Int32) (z4 : Int32) (z5 : Int32) (z6 : Int64) (z8 : Int32) (z9 : Int32) (z10 : Int32) (z11 : Int32) (z12 : Int32) (z13 : Int32) (u0 : Int32) (u1 : Int32) (u2 : Int32) (w : XW) (kc ks : Nat), kc + 3802 ≤ B → ks + 22972 ≤ Bs → VE g cL_law 27 RL (some .boolean) [] room_1 300000 2000000 oI kc ks 183 [(0, .ref g.2.2.2.2.2.2.1), (1, .ref (g.2.1 + 0)), (2, .ref (g.2.1 + 141)), (3, .int z3), (4, .int z4), (5, .int z5), (6, .long z6), (8, .int z8), (9, .int z9), (10, .int z10), (11, .int z11), (12, .int z12), (13, .int z13)] [.int u0, .int u1, .int u2, .ref g.2.2.2.2.2.2.1] w (f_L_law_183 (scG g) K28 z3 z4 z5 z6 z8 z9 z10 z11 z12 z13 u0 u1 u2 w) := by
  intro z3 z4 z5 z6 z8 z9 z10 z11 z12 z13 u0 u1 u2 w kc ks hk hks
  unfold f_L_law_183
  refine v_iadd dL_law_183 ?_
  refine v_callSi (As := [.ref g.2.2.2.2.2.2.1, .int u2, .int (u1 + u0)]) cs_L_202 (S_L_pick hl) rfl rfl (Nat.le_of_ble_eq_true rfl) dL_law_184 (CR_law (by decide) (by decide) (by omega) (by omega)) (fun r12 w12 => ?_)
  refine v_istore dL_law_187 (Nat.le_of_ble_eq_true rfl) rfl ?_
  refine v_aload_n dL_law_189 rfl 2 rfl ?_
  refine v_iload dL_law_190 13 rfl ?_
  refine v_callSh (As := [.ref (g.2.1 + 0), .int z13]) ch_L_215 (S_L_canFold hl) rfl rfl (Nat.le_of_ble_eq_true rfl) dL_law_192 (CR_law (by decide) (by decide) (by omega) (by omega)) (fun r13 w13 => ?_)
  refine v_istore dL_law_195 (Nat.le_of_ble_eq_true rfl) rfl ?_
  refine v_aload_n dL_law_197 rfl 3 rfl ?_
  refine v_iload dL_law_198 12 rfl ?_
  refine v_callSh (As := [.ref (g.2.1 + 0), .int z11]) ch_L_217 (S_L_water hl) rfl rfl (Nat.le_of_ble_eq_true rfl) dL_law_200 (CR_law (by decide) (by decide) (by omega) (by omega)) (fun r14 w14 => ?_)
  refine v_istore dL_law_203 (Nat.le_of_ble_eq_true rfl) rfl ?_
  refine v_iload dL_law_205 12 rfl ?_
  refine v_iconst (v := 2) dL_law_207 (by decide) ?_
  refine v_icmp_ge (tgt := 216) dL_law_208 (by decide) ?_ ?_
  · refine v_aload_n dL_law_216 rfl 4 rfl ?_
    refine v_callSh (As := [.ref (g.2.1 + 0)]) ch_L_219 (S_L_greatestFlow hl) rfl rfl (Nat.le_of_ble_eq_true rfl) dL_law_217 (CR_law (by decide) (by decide) (by omega) (by omega)) (fun r15 w15 => ?_)
    refine v_sub [3, 4, 5, 6, 7, 8, 9, 10, 11, 12, 13, 14, 15, 2, 1, 0] rfl ?_
    exact S_L_law_220 hl hB hBs hK28 _ _ _ _ _ _ _ _ _ _ _ _ _ _ _ _ _ (by omega) (by omega)
  · refine v_bipush (v := (-76)) dL_law_211 (by decide) ?_
    refine v_goto (tgt := 220) dL_law_213 (by decide) ?_
    refine v_sub [3, 4, 5, 6, 7, 8, 9, 10, 11, 12, 13, 14, 15, 2, 1, 0] rfl ?_
    exact S_L_law_220 hl hB hBs hK28 _ _ _ _ _ _ _ _ _ _ _ _ _ _ _ _ _ (by omega) (by omega)
def f_L_law_178 (sc : Nat × (Nat → Int32)) (K28 : Int32 → Int32 → Int32 → XW → Option (Int32 × XW)) (z3 : Int32) (z4 : Int32) (z5 : Int32) (z6 : Int64) (z8 : Int32) (z9 : Int32) (z10 : Int32) (z11 : Int32) (z12 : Int32) (z13 : Int32) (u0 : Int32) (u1 : Int32) (w : XW) : Option (Int32 × XW) := (f_L_law_183 sc K28 z3 z4 z5 z6 z8 z9 z10 z11 z12 z13 1 u0 u1 w)
set_option maxRecDepth 100000 in
theorem S_L_law_178 {g : GC} (hl : g.1.stackTraces = false) {B Bs : Nat} (hB : B ≤ 300000) (hBs : Bs ≤ 2000000) {K28 : Int32 → Int32 → Int32 → XW → Option (Int32 × XW)} (hK28 : ∀ (z3 : Int32) (z4 : Int32) (z5 : Int32) (w : XW) (kc ks : Nat), kc ≤ B → ks ≤ Bs → VE g cL_law 27 RL (some .boolean) [] room_1 300000 2000000 oI kc ks 28 [(0, .ref g.2.2.2.2.2.2.1), (1, .ref (g.2.1 + 0)), (2, .ref (g.2.1 + 141)), (3, .int z3), (4, .int z4), (5, .int z5)] [] w (K28 z3 z4 z5 w)) : ∀ (z3 : Int32) (z4 : Int32) (z5 : Int32) (z6 : Int64) (z8 : Int32) (z9 : Int32) (z10 : Int32) (z11 : Int32) (z12 : Int32) (z13 : Int32) (u0 : Int32) (u1 : Int32) (w : XW) (kc ks : Nat), kc + 3802 ≤ B → ks + 22972 ≤ Bs → VE g cL_law 27 RL (some .boolean) [] room_1 300000 2000000 oI kc ks 178 [(0, .ref g.2.2.2.2.2.2.1), (1, .ref (g.2.1 + 0)), (2, .ref (g.2.1 + 141)), (3, .int z3), (4, .int z4), (5, .int z5), (6, .long z6), (8, .int z8), (9, .int z9), (10, .int z10), (11, .int z11), (12, .int z12), (13, .int z13)] [.int u0, .int u1, .ref g.2.2.2.2.2.2.1] w (f_L_law_178 (scG g) K28 z3 z4 z5 z6 z8 z9 z10 z11 z12 z13 u0 u1 w) := by
  intro z3 z4 z5 z6 z8 z9 z10 z11 z12 z13 u0 u1 w kc ks hk hks
  unfold f_L_law_178
  refine v_iconst (v := 1) dL_law_178 (by decide) ?_
  refine v_goto (tgt := 183) dL_law_179 (by decide) ?_
  refine v_sub [0, 1, 2, 3, 4, 5, 6, 7, 8, 9, 10, 11, 12] rfl ?_
  exact S_L_law_183 hl hB hBs hK28 _ _ _ _ _ _ _ _ _ _ _ _ _ _ _ _ (by omega) (by omega)
def f_L_law_124 (sc : Nat × (Nat → Int32)) (K28 : Int32 → Int32 → Int32 → XW → Option (Int32 × XW)) (z3 : Int32) (z4 : Int32) (z5 : Int32) (z6 : Int64) (z8 : Int32) (z9 : Int32) (z10 : Int32) (u0 : Int32) (u1 : Int32) (u2 : Int32) (w : XW) : Option (Int32 × XW) := (bI (f_L_pick sc u2 (u1 + u0) w) (fun r8 w8 => (bI (f_X10_foldedCount w8) (fun r9 w9 => (bI (f_L_pick sc (z4 + 2) (r9 + 1) w9) (fun r10 w10 => (bI (f_X10_pipeCount w10) (fun r11 w11 => (if (z5 - z5 / 13 * 13) = 12 then (f_L_law_178 sc K28 z3 z4 z5 z6 z8 z9 z10 r8 r9 r10 r11 (z4 + 1) w11) else (if r11 = 0 then (f_L_law_178 sc K28 z3 z4 z5 z6 z8 z9 z10 r8 r9 r10 r11 (z4 + 1) w11) else (f_L_law_183 sc K28 z3 z4 z5 z6 z8 z9 z10 r8 r9 r10 0 r11 (z4 + 1) w11)))))))))))
set_option maxRecDepth 100000 in
theorem S_L_law_124 {g : GC} (hl : g.1.stackTraces = false) {B Bs : Nat} (hB : B ≤ 300000) (hBs : Bs ≤ 2000000) {K28 : Int32 → Int32 → Int32 → XW → Option (Int32 × XW)} (hK28 : ∀ (z3 : Int32) (z4 : Int32) (z5 : Int32) (w : XW) (kc ks : Nat), kc ≤ B → ks ≤ Bs → VE g cL_law 27 RL (some .boolean) [] room_1 300000 2000000 oI kc ks 28 [(0, .ref g.2.2.2.2.2.2.1), (1, .ref (g.2.1 + 0)), (2, .ref (g.2.1 + 141)), (3, .int z3), (4, .int z4), (5, .int z5)] [] w (K28 z3 z4 z5 w)) : ∀ (z3 : Int32) (z4 : Int32) (z5 : Int32) (z6 : Int64) (z8 : Int32) (z9 : Int32) (z10 : Int32) (u0 : Int32) (u1 : Int32) (u2 : Int32) (w : XW) (kc ks : Nat), kc + 3802 ≤ B → ks + 22972 ≤ Bs → VE g cL_law 27 RL (some .boolean) [] room_1 300000 2000000 oI kc ks 124 [(0, .ref g.2.2.2.2.2.2.1), (1, .ref (g.2.1 + 0)), (2, .ref (g.2.1 + 141)), (3, .int z3), (4, .int z4), (5, .int z5), (6, .long z6), (8, .int z8), (9, .int z9), (10, .int z10)] [.int u0, .int u1, .int u2, .ref g.2.2.2.2.2.2.1] w (f_L_law_124 (scG g) K28 z3 z4 z5 z6 z8 z9 z10 u0 u1 u2 w) := by
  intro z3 z4 z5 z6 z8 z9 z10 u0 u1 u2 w kc ks hk hks
  unfold f_L_law_124
  refine v_iadd dL_law_124 ?_
  refine v_callSi (As := [.ref g.2.2.2.2.2.2.1, .int u2, .int (u1 + u0)]) cs_L_202 (S_L_pick hl) rfl rfl (Nat.le_of_ble_eq_true rfl) dL_law_125 (CR_law (by decide) (by decide) (by omega) (by omega)) (fun r8 w8 => ?_)
  refine v_istore dL_law_128 (Nat.le_of_ble_eq_true rfl) rfl ?_
  refine v_aload_n dL_law_130 rfl 2 rfl ?_
  refine v_callVi (As := []) cv_L_209 (S_X10_foldedCount hl) tt_0 rfl rfl rfl (Nat.le_of_ble_eq_true rfl) dL_law_131 (CR_law (by decide) (by decide) (by omega) (by omega)) (fun r9 w9 => ?_)
  refine v_istore dL_law_134 (Nat.le_of_ble_eq_true rfl) rfl ?_
  refine v_aload_n dL_law_136 rfl 2 rfl ?_
  refine v_iload dL_law_137 6 rfl ?_
  refine v_iconst (v := 2) dL_law_139 (by decide) ?_
  refine v_iadd dL_law_140 ?_
  refine v_iload dL_law_141 0 rfl ?_
  refine v_iconst (v := 1) dL_law_143 (by decide) ?_
  refine v_iadd dL_law_144 ?_
  refine v_callSi (As := [.ref g.2.2.2.2.2.2.1, .int (z4 + 2), .int (r9 + 1)]) cs_L_202 (S_L_pick hl) rfl rfl (Nat.le_of_ble_eq_true rfl) dL_law_145 (CR_law (by decide) (by decide) (by omega) (by omega)) (fun r10 w10 => ?_)
  refine v_istore dL_law_148 (Nat.le_of_ble_eq_true rfl) rfl ?_
  refine v_aload_n dL_law_150 rfl 4 rfl ?_
  refine v_callVi (As := []) cv_L_212 (S_X10_pipeCount hl) tt_0 rfl rfl rfl (Nat.le_of_ble_eq_true rfl) dL_law_151 (CR_law (by decide) (by decide) (by omega) (by omega)) (fun r11 w11 => ?_)
  refine v_istore dL_law_154 (Nat.le_of_ble_eq_true rfl) rfl ?_
  refine v_aload_n dL_law_156 rfl 4 rfl ?_
  refine v_iload dL_law_157 8 rfl ?_
  refine v_iconst (v := 1) dL_law_159 (by decide) ?_
  refine v_iadd dL_law_160 ?_
  refine v_iload dL_law_161 0 rfl ?_
  refine v_iload dL_law_163 9 rfl ?_
  refine v_bipush (v := 13) dL_law_165 (by decide) ?_
  refine v_irem dL_law_167 (by decide) ?_
  refine v_bipush (v := 12) dL_law_168 (by decide) ?_
  refine v_icmp_eq (tgt := 178) dL_law_170 (by decide) ?_ ?_
  · refine v_sub [4, 5, 6, 7, 8, 9, 10, 11, 12, 13, 3, 2, 1] rfl ?_
    exact S_L_law_178 hl hB hBs hK28 _ _ _ _ _ _ _ _ _ _ _ _ _ _ _ (by omega) (by omega)
  · refine v_iload dL_law_173 0 rfl ?_
    refine v_if_ne (tgt := 182) dL_law_175 (by decide) ?_ ?_
    · refine v_iconst (v := 0) dL_law_182 (by decide) ?_
      refine v_sub [4, 5, 6, 7, 8, 9, 10, 11, 12, 13, 3, 2, 1] rfl ?_
      exact S_L_law_183 hl hB hBs hK28 _ _ _ _ _ _ _ _ _ _ _ _ _ _ _ _ (by omega) (by omega)
    · refine v_sub [4, 5, 6, 7, 8, 9, 10, 11, 12, 13, 3, 2, 1] rfl ?_
      exact S_L_law_178 hl hB hBs hK28 _ _ _ _ _ _ _ _ _ _ _ _ _ _ _ (by omega) (by omega)
def f_L_law_119 (sc : Nat × (Nat → Int32)) (K28 : Int32 → Int32 → Int32 → XW → Option (Int32 × XW)) (z3 : Int32) (z4 : Int32) (z5 : Int32) (z6 : Int64) (z8 : Int32) (z9 : Int32) (z10 : Int32) (u0 : Int32) (u1 : Int32) (w : XW) : Option (Int32 × XW) := (f_L_law_124 sc K28 z3 z4 z5 z6 z8 z9 z10 1 u0 u1 w)
set_option maxRecDepth 100000 in
theorem S_L_law_119 {g : GC} (hl : g.1.stackTraces = false) {B Bs : Nat} (hB : B ≤ 300000) (hBs : Bs ≤ 2000000) {K28 : Int32 → Int32 → Int32 → XW → Option (Int32 × XW)} (hK28 : ∀ (z3 : Int32) (z4 : Int32) (z5 : Int32) (w : XW) (kc ks : Nat), kc ≤ B → ks ≤ Bs → VE g cL_law 27 RL (some .boolean) [] room_1 300000 2000000 oI kc ks 28 [(0, .ref g.2.2.2.2.2.2.1), (1, .ref (g.2.1 + 0)), (2, .ref (g.2.1 + 141)), (3, .int z3), (4, .int z4), (5, .int z5)] [] w (K28 z3 z4 z5 w)) : ∀ (z3 : Int32) (z4 : Int32) (z5 : Int32) (z6 : Int64) (z8 : Int32) (z9 : Int32) (z10 : Int32) (u0 : Int32) (u1 : Int32) (w : XW) (kc ks : Nat), kc + 3802 ≤ B → ks + 22972 ≤ Bs → VE g cL_law 27 RL (some .boolean) [] room_1 300000 2000000 oI kc ks 119 [(0, .ref g.2.2.2.2.2.2.1), (1, .ref (g.2.1 + 0)), (2, .ref (g.2.1 + 141)), (3, .int z3), (4, .int z4), (5, .int z5), (6, .long z6), (8, .int z8), (9, .int z9), (10, .int z10)] [.int u0, .int u1, .ref g.2.2.2.2.2.2.1] w (f_L_law_119 (scG g) K28 z3 z4 z5 z6 z8 z9 z10 u0 u1 w) := by
  intro z3 z4 z5 z6 z8 z9 z10 u0 u1 w kc ks hk hks
  unfold f_L_law_119
  refine v_iconst (v := 1) dL_law_119 (by decide) ?_
  refine v_goto (tgt := 124) dL_law_120 (by decide) ?_
  refine v_sub [0, 1, 2, 3, 4, 5, 6, 7, 8, 9] rfl ?_
  exact S_L_law_124 hl hB hBs hK28 _ _ _ _ _ _ _ _ _ _ _ _ _ (by omega) (by omega)
def f_L_law_89 (sc : Nat × (Nat → Int32)) (K28 : Int32 → Int32 → Int32 → XW → Option (Int32 × XW)) (z3 : Int32) (z4 : Int32) (z5 : Int32) (z6 : Int64) (z8 : Int32) (u0 : Int32) (w : XW) : Option (Int32 × XW) := (bI (f_X10_sectionCount w) (fun r7 w7 => (if (z5 - z5 / 13 * 13) = 12 then (f_L_law_119 sc K28 z3 z4 z5 z6 z8 u0 r7 r7 (z4 + 1) w7) else (if r7 = 0 then (f_L_law_119 sc K28 z3 z4 z5 z6 z8 u0 r7 r7 (z4 + 1) w7) else (f_L_law_124 sc K28 z3 z4 z5 z6 z8 u0 r7 0 r7 (z4 + 1) w7)))))
set_option maxRecDepth 100000 in
theorem S_L_law_89 {g : GC} (hl : g.1.stackTraces = false) {B Bs : Nat} (hB : B ≤ 300000) (hBs : Bs ≤ 2000000) {K28 : Int32 → Int32 → Int32 → XW → Option (Int32 × XW)} (hK28 : ∀ (z3 : Int32) (z4 : Int32) (z5 : Int32) (w : XW) (kc ks : Nat), kc ≤ B → ks ≤ Bs → VE g cL_law 27 RL (some .boolean) [] room_1 300000 2000000 oI kc ks 28 [(0, .ref g.2.2.2.2.2.2.1), (1, .ref (g.2.1 + 0)), (2, .ref (g.2.1 + 141)), (3, .int z3), (4, .int z4), (5, .int z5)] [] w (K28 z3 z4 z5 w)) : ∀ (z3 : Int32) (z4 : Int32) (z5 : Int32) (z6 : Int64) (z8 : Int32) (u0 : Int32) (w : XW) (kc ks : Nat), kc + 3802 ≤ B → ks + 22972 ≤ Bs → VE g cL_law 27 RL (some .boolean) [] room_1 300000 2000000 oI kc ks 89 [(0, .ref g.2.2.2.2.2.2.1), (1, .ref (g.2.1 + 0)), (2, .ref (g.2.1 + 141)), (3, .int z3), (4, .int z4), (5, .int z5), (6, .long z6), (8, .int z8)] [.int u0] w (f_L_law_89 (scG g) K28 z3 z4 z5 z6 z8 u0 w) := by
  intro z3 z4 z5 z6 z8 u0 w kc ks hk hks
  unfold f_L_law_89
  refine v_istore dL_law_89 (Nat.le_of_ble_eq_true rfl) rfl ?_
  refine v_aload_n dL_law_91 rfl 2 rfl ?_
  refine v_callVi (As := []) cv_L_206 (S_X10_sectionCount hl) tt_0 rfl rfl rfl (Nat.le_of_ble_eq_true rfl) dL_law_92 (CR_law (by decide) (by decide) (by omega) (by omega)) (fun r7 w7 => ?_)
  refine v_istore dL_law_95 (Nat.le_of_ble_eq_true rfl) rfl ?_
  refine v_aload_n dL_law_97 rfl 2 rfl ?_
  refine v_iload dL_law_98 6 rfl ?_
  refine v_iconst (v := 1) dL_law_100 (by decide) ?_
  refine v_iadd dL_law_101 ?_
  refine v_iload dL_law_102 0 rfl ?_
  refine v_iload dL_law_104 7 rfl ?_
  refine v_bipush (v := 13) dL_law_106 (by decide) ?_
  refine v_irem dL_law_108 (by decide) ?_
  refine v_bipush (v := 12) dL_law_109 (by decide) ?_
  refine v_icmp_eq (tgt := 119) dL_law_111 (by decide) ?_ ?_
  · refine v_sub [2, 3, 4, 5, 6, 7, 8, 9, 1, 0] rfl ?_
    exact S_L_law_119 hl hB hBs hK28 _ _ _ _ _ _ _ _ _ _ _ _ (by omega) (by omega)
  · refine v_iload dL_law_114 0 rfl ?_
    refine v_if_ne (tgt := 123) dL_law_116 (by decide) ?_ ?_
    · refine v_iconst (v := 0) dL_law_123 (by decide) ?_
      refine v_sub [2, 3, 4, 5, 6, 7, 8, 9, 1, 0] rfl ?_
      exact S_L_law_124 hl hB hBs hK28 _ _ _ _ _ _ _ _ _ _ _ _ _ (by omega) (by omega)
    · refine v_sub [2, 3, 4, 5, 6, 7, 8, 9, 1, 0] rfl ?_
      exact S_L_law_119 hl hB hBs hK28 _ _ _ _ _ _ _ _ _ _ _ _ (by omega) (by omega)
def f_L_law_28 (sc : Nat × (Nat → Int32)) : Nat → Int32 → Int32 → Int32 → XW → Option (Int32 × XW)
  | 0, _, _, _, _ => none
  | n + 1, z3, z4, z5, w => (if 54 ≤ z5 then (bI (f_L_isKept z3 w) (fun r2 w2 => (if vp_nar .boolean r2 = r2 then (some (r2, w2)) else none))) else (bL (f_L_sum w) (fun r4 w4 => (bI (f_X10_undoCount w4) (fun r5 w5 => (if 4 ≤ z5 then (if 7 ≤ z5 then (if 10 ≤ z5 then (bI (f_L_pick sc z4 46 w5) (fun r6 w6 => (f_L_law_89 sc (fun a0 a1 a2 w9 => f_L_law_28 sc n a0 a1 a2 w9) z3 z4 z5 r4 r5 r6 w6))) else (f_L_law_89 sc (fun a0 a1 a2 w9 => f_L_law_28 sc n a0 a1 a2 w9) z3 z4 z5 r4 r5 8 w5)) else (f_L_law_89 sc (fun a0 a1 a2 w9 => f_L_law_28 sc n a0 a1 a2 w9) z3 z4 z5 r4 r5 16 w5)) else (f_L_law_89 sc (fun a0 a1 a2 w9 => f_L_law_28 sc n a0 a1 a2 w9) z3 z4 z5 r4 r5 0 w5)))))))
set_option maxRecDepth 100000 in
theorem S_L_law_28 {g : GC} (hl : g.1.stackTraces = false) : ∀ (n : Nat) (z3 : Int32) (z4 : Int32) (z5 : Int32) (w : XW) (kc ks : Nat), kc + (4174 * n + 5261) ≤ 300000 → ks + (25204 * n + 31566) ≤ 2000000 → VE g cL_law 27 RL (some .boolean) [] room_1 300000 2000000 oI kc ks 28 [(0, .ref g.2.2.2.2.2.2.1), (1, .ref (g.2.1 + 0)), (2, .ref (g.2.1 + 141)), (3, .int z3), (4, .int z4), (5, .int z5)] [] w (f_L_law_28 (scG g)  n z3 z4 z5 w) := by
  intro n
  induction n with
  | zero => intro z3 z4 z5 w kc ks hk hks; exact v_none
  | succ n ih =>
    intro z3 z4 z5 w kc ks hk hks
    rw [f_L_law_28]
    obtain ⟨b0, hb0⟩ : ∃ b0 : Nat, b0 = 300000 - (4174 * n + 5261) := ⟨_, rfl⟩
    obtain ⟨b1, hb1⟩ : ∃ b1 : Nat, b1 = 2000000 - (25204 * n + 31566) := ⟨_, rfl⟩
    have h89 := S_L_law_89 (g := g) (K28 := fun a0 a1 a2 w9 => f_L_law_28 (scG g) n a0 a1 a2 w9) hl (B := b0) (Bs := b1) (by omega) (by omega) (fun a0 a1 a2 a3 kc1 ks1 h1 h2 => ih a0 a1 a2 a3 _ _ (by omega) (by omega))
    refine v_iload dL_law_28 5 rfl ?_
    refine v_bipush (v := 54) dL_law_30 (by decide) ?_
    refine v_icmp_ge (tgt := 872) dL_law_32 (by decide) ?_ ?_
    · refine v_aload_n dL_law_872 rfl 1 rfl ?_
      refine v_aload_n dL_law_873 rfl 2 rfl ?_
      refine v_iload_n dL_law_874 rfl 3 rfl ?_
      refine v_callSi (As := [.ref (g.2.1 + 0), .ref (g.2.1 + 141), .int z3]) cs_L_250 (S_L_isKept hl) rfl rfl (Nat.le_of_ble_eq_true rfl) dL_law_875 (CR_law (by decide) (by decide) (by omega) (by omega)) (fun r2 w2 => ?_)
      refine v_guard (fun h3 => ?_)
      exact v_zret dL_law_878 rfl (narB_ok h3) rfl (by omega) (by omega)
    · refine v_aload_n dL_law_35 rfl 1 rfl ?_
      refine v_callSl (As := [.ref (g.2.1 + 0)]) cs_L_195 (S_L_sum hl) rfl rfl (Nat.le_of_ble_eq_true rfl) dL_law_36 (CR_law (by decide) (by decide) (by omega) (by omega)) (fun r4 w4 => ?_)
      refine v_lstore dL_law_39 (Nat.le_of_ble_eq_true rfl) rfl ?_
      refine v_aload_n dL_law_41 rfl 2 rfl ?_
      refine v_callVi (As := []) cv_L_199 (S_X10_undoCount hl) tt_0 rfl rfl rfl (Nat.le_of_ble_eq_true rfl) dL_law_42 (CR_law (by decide) (by decide) (by omega) (by omega)) (fun r5 w5 => ?_)
      refine v_istore dL_law_45 (Nat.le_of_ble_eq_true rfl) rfl ?_
      refine v_iload dL_law_47 7 rfl ?_
      refine v_iconst (v := 4) dL_law_49 (by decide) ?_
      refine v_icmp_ge (tgt := 57) dL_law_50 (by decide) ?_ ?_
      · refine v_iload dL_law_57 7 rfl ?_
        refine v_bipush (v := 7) dL_law_59 (by decide) ?_
        refine v_icmp_ge (tgt := 69) dL_law_61 (by decide) ?_ ?_
        · refine v_iload dL_law_69 7 rfl ?_
          refine v_bipush (v := 10) dL_law_71 (by decide) ?_
          refine v_icmp_ge (tgt := 81) dL_law_73 (by decide) ?_ ?_
          · refine v_aload_n dL_law_81 rfl 2 rfl ?_
            refine v_iload dL_law_82 6 rfl ?_
            refine v_bipush (v := 46) dL_law_84 (by decide) ?_
            refine v_callSi (As := [.ref g.2.2.2.2.2.2.1, .int z4, .int 46]) cs_L_202 (S_L_pick hl) rfl rfl (Nat.le_of_ble_eq_true rfl) dL_law_86 (CR_law (by decide) (by decide) (by omega) (by omega)) (fun r6 w6 => ?_)
            refine v_sub [2, 3, 4, 5, 6, 7, 1, 0] rfl ?_
            exact h89 _ _ _ _ _ _ _ _ _ (by omega) (by omega)
          · refine v_bipush (v := 8) dL_law_76 (by decide) ?_
            refine v_goto (tgt := 89) dL_law_78 (by decide) ?_
            refine v_sub [2, 3, 4, 5, 6, 7, 1, 0] rfl ?_
            exact h89 _ _ _ _ _ _ _ _ _ (by omega) (by omega)
        · refine v_bipush (v := 16) dL_law_64 (by decide) ?_
          refine v_goto (tgt := 89) dL_law_66 (by decide) ?_
          refine v_sub [2, 3, 4, 5, 6, 7, 1, 0] rfl ?_
          exact h89 _ _ _ _ _ _ _ _ _ (by omega) (by omega)
      · refine v_iconst (v := 0) dL_law_53 (by decide) ?_
        refine v_goto (tgt := 89) dL_law_54 (by decide) ?_
        refine v_sub [2, 3, 4, 5, 6, 7, 1, 0] rfl ?_
        exact h89 _ _ _ _ _ _ _ _ _ (by omega) (by omega)
def f_L_law (sc : Nat × (Nat → Int32)) (w : XW) : Option (Int32 × XW) := (bL (f_L_sum w) (fun r1 w1 => (f_L_law_28 sc 56 0 0 0 (lset w1 (Int32.toNatClampNeg 0) r1))))
set_option maxRecDepth 100000 in
theorem W_L_law {g : GC} (hl : g.1.stackTraces = false) {w : XW} {kc ks : Nat} (hkc : kc ≤ 60000) (hks : ks ≤ 500000) : VE g cL_law 27 RL (some .boolean) [] room_1 300000 2000000 oI kc ks 13 [(0, .ref g.2.2.2.2.2.2.1), (1, .ref (g.2.1 + 0)), (2, .ref (g.2.1 + 141))] [] w (f_L_law (scG g)  w) := by
  unfold f_L_law
  refine v_iconst (v := 0) dL_law_13 (by decide) ?_
  refine v_istore_n dL_law_14 rfl (Nat.le_of_ble_eq_true rfl) rfl ?_
  refine v_aload_n dL_law_15 rfl 3 rfl ?_
  refine v_iload_n dL_law_16 rfl 0 rfl ?_
  refine v_aload_n dL_law_17 rfl 2 rfl ?_
  refine v_callSl (As := [.ref (g.2.1 + 0)]) cs_L_195 (S_L_sum hl) rfl rfl (Nat.le_of_ble_eq_true rfl) dL_law_18 (CR_law (by decide) (by decide) (by omega) (by omega)) (fun r1 w1 => ?_)
  refine v_last (by decide : inB 0 70) dL_law_21 ?_
  refine v_iconst (v := 0) dL_law_22 (by decide) ?_
  refine v_istore dL_law_23 (Nat.le_of_ble_eq_true rfl) rfl ?_
  refine v_iconst (v := 0) dL_law_25 (by decide) ?_
  refine v_istore dL_law_26 (Nat.le_of_ble_eq_true rfl) rfl ?_
  refine v_sub [3, 4, 5, 2, 1, 0] rfl ?_
  exact S_L_law_28 hl _ _ _ _ _ _ _ (by omega) (by omega)
