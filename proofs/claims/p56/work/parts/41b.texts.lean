theorem dL_does_0 : decode cL_does 0 = .ok (.aload_n 0, 1) := by decide +kernel
theorem dL_does_1 : decode cL_does 1 = .ok (.iload_n 1, 1) := by decide +kernel
theorem dL_does_2 : decode cL_does 2 = .ok (.iconst 3, 1) := by decide +kernel
theorem dL_does_3 : decode cL_does 3 = .ok (.iadd, 1) := by decide +kernel
theorem dL_does_4 : decode cL_does 4 = .ok (.sipush 1000, 3) := by decide +kernel
theorem dL_does_7 : decode cL_does 7 = .ok (.invokestatic 202, 3) := by decide +kernel
theorem dL_does_10 : decode cL_does 10 = .ok (.istore 7, 2) := by decide +kernel
theorem dL_does_12 : decode cL_does 12 = .ok (.aload_n 0, 1) := by decide +kernel
theorem dL_does_13 : decode cL_does 13 = .ok (.iload_n 1, 1) := by decide +kernel
theorem dL_does_14 : decode cL_does 14 = .ok (.iconst 4, 1) := by decide +kernel
theorem dL_does_15 : decode cL_does 15 = .ok (.iadd, 1) := by decide +kernel
theorem dL_does_16 : decode cL_does 16 = .ok (.sipush 1000, 3) := by decide +kernel
theorem dL_does_19 : decode cL_does 19 = .ok (.invokestatic 202, 3) := by decide +kernel
theorem dL_does_22 : decode cL_does 22 = .ok (.istore 8, 2) := by decide +kernel
theorem dL_does_24 : decode cL_does 24 = .ok (.iload 7, 2) := by decide +kernel
theorem dL_does_26 : decode cL_does 26 = .ok (.bipush 19, 2) := by decide +kernel
theorem dL_does_28 : decode cL_does 28 = .ok (.irem, 1) := by decide +kernel
theorem dL_does_29 : decode cL_does 29 = .ok (.ifCond .ne 8, 3) := by decide +kernel
theorem dL_does_32 : decode cL_does 32 = .ok (.bipush 105, 2) := by decide +kernel
theorem dL_does_34 : decode cL_does 34 = .ok (.goto 23, 3) := by decide +kernel
theorem dL_does_37 : decode cL_does 37 = .ok (.bipush 97, 2) := by decide +kernel
theorem dL_does_39 : decode cL_does 39 = .ok (.iload 8, 2) := by decide +kernel
theorem dL_does_41 : decode cL_does 41 = .ok (.iload 7, 2) := by decide +kernel
theorem dL_does_43 : decode cL_does 43 = .ok (.iconst 3, 1) := by decide +kernel
theorem dL_does_44 : decode cL_does 44 = .ok (.irem, 1) := by decide +kernel
theorem dL_does_45 : decode cL_does 45 = .ok (.ifCond .ne 8, 3) := by decide +kernel
theorem dL_does_48 : decode cL_does 48 = .ok (.bipush 8, 2) := by decide +kernel
theorem dL_does_50 : decode cL_does 50 = .ok (.goto 4, 3) := by decide +kernel
theorem dL_does_53 : decode cL_does 53 = .ok (.iconst 3, 1) := by decide +kernel
theorem dL_does_54 : decode cL_does 54 = .ok (.irem, 1) := by decide +kernel
theorem dL_does_55 : decode cL_does 55 = .ok (.iadd, 1) := by decide +kernel
theorem dL_does_56 : decode cL_does 56 = .ok (.i2c, 1) := by decide +kernel
theorem dL_does_57 : decode cL_does 57 = .ok (.istore 9, 2) := by decide +kernel
theorem dL_does_59 : decode cL_does 59 = .ok (.aload_n 3, 1) := by decide +kernel
theorem dL_does_60 : decode cL_does 60 = .ok (.invokevirtual 206, 3) := by decide +kernel
theorem dL_does_63 : decode cL_does 63 = .ok (.istore 10, 2) := by decide +kernel
theorem dL_does_65 : decode cL_does 65 = .ok (.iload_n 2, 1) := by decide +kernel
theorem dL_does_66 : decode cL_does 66 = .ok (.iconst 3, 1) := by decide +kernel
theorem dL_does_67 : decode cL_does 67 = .ok (.if_icmp .ge 8, 3) := by decide +kernel
theorem dL_does_70 : decode cL_does 70 = .ok (.aload_n 3, 1) := by decide +kernel
theorem dL_does_71 : decode cL_does 71 = .ok (.invokestatic 257, 3) := by decide +kernel
theorem dL_does_74 : decode cL_does 74 = .ok (.ireturn, 1) := by decide +kernel
theorem dL_does_75 : decode cL_does 75 = .ok (.iload_n 2, 1) := by decide +kernel
theorem dL_does_76 : decode cL_does 76 = .ok (.bipush 8, 2) := by decide +kernel
theorem dL_does_78 : decode cL_does 78 = .ok (.if_icmp .ge 29, 3) := by decide +kernel
theorem dL_does_81 : decode cL_does 81 = .ok (.aload_n 3, 1) := by decide +kernel
theorem dL_does_82 : decode cL_does 82 = .ok (.iload 4, 2) := by decide +kernel
theorem dL_does_84 : decode cL_does 84 = .ok (.iload 7, 2) := by decide +kernel
theorem dL_does_86 : decode cL_does 86 = .ok (.bipush 19, 2) := by decide +kernel
theorem dL_does_88 : decode cL_does 88 = .ok (.irem, 1) := by decide +kernel
theorem dL_does_89 : decode cL_does 89 = .ok (.ifCond .ne 7, 3) := by decide +kernel
theorem dL_does_92 : decode cL_does 92 = .ok (.iconst 0, 1) := by decide +kernel
theorem dL_does_93 : decode cL_does 93 = .ok (.goto 10, 3) := by decide +kernel
theorem dL_does_96 : decode cL_does 96 = .ok (.iconst 1, 1) := by decide +kernel
theorem dL_does_97 : decode cL_does 97 = .ok (.iload 8, 2) := by decide +kernel
theorem dL_does_99 : decode cL_does 99 = .ok (.bipush 99, 2) := by decide +kernel
theorem dL_does_101 : decode cL_does 101 = .ok (.irem, 1) := by decide +kernel
theorem dL_does_102 : decode cL_does 102 = .ok (.iadd, 1) := by decide +kernel
theorem dL_does_103 : decode cL_does 103 = .ok (.invokestatic 259, 3) := by decide +kernel
theorem dL_does_106 : decode cL_does 106 = .ok (.ireturn, 1) := by decide +kernel
theorem dL_does_107 : decode cL_does 107 = .ok (.iload_n 2, 1) := by decide +kernel
theorem dL_does_108 : decode cL_does 108 = .ok (.bipush 11, 2) := by decide +kernel
theorem dL_does_110 : decode cL_does 110 = .ok (.if_icmp .ge 12, 3) := by decide +kernel
theorem dL_does_113 : decode cL_does 113 = .ok (.aload_n 3, 1) := by decide +kernel
theorem dL_does_114 : decode cL_does 114 = .ok (.iload 4, 2) := by decide +kernel
theorem dL_does_116 : decode cL_does 116 = .ok (.iload 9, 2) := by decide +kernel
theorem dL_does_118 : decode cL_does 118 = .ok (.invokestatic 262, 3) := by decide +kernel
theorem dL_does_121 : decode cL_does 121 = .ok (.ireturn, 1) := by decide +kernel
theorem dL_does_122 : decode cL_does 122 = .ok (.iload_n 2, 1) := by decide +kernel
theorem dL_does_123 : decode cL_does 123 = .ok (.bipush 14, 2) := by decide +kernel
theorem dL_does_125 : decode cL_does 125 = .ok (.if_icmp .ge 12, 3) := by decide +kernel
theorem dL_does_128 : decode cL_does 128 = .ok (.aload_n 3, 1) := by decide +kernel
theorem dL_does_129 : decode cL_does 129 = .ok (.iload 4, 2) := by decide +kernel
theorem dL_does_131 : decode cL_does 131 = .ok (.iload 9, 2) := by decide +kernel
theorem dL_does_133 : decode cL_does 133 = .ok (.invokestatic 265, 3) := by decide +kernel
theorem dL_does_136 : decode cL_does 136 = .ok (.ireturn, 1) := by decide +kernel
theorem dL_does_137 : decode cL_does 137 = .ok (.iload_n 2, 1) := by decide +kernel
theorem dL_does_138 : decode cL_does 138 = .ok (.bipush 21, 2) := by decide +kernel
theorem dL_does_140 : decode cL_does 140 = .ok (.if_icmp .ge 10, 3) := by decide +kernel
theorem dL_does_143 : decode cL_does 143 = .ok (.aload_n 3, 1) := by decide +kernel
theorem dL_does_144 : decode cL_does 144 = .ok (.iload 5, 2) := by decide +kernel
theorem dL_does_146 : decode cL_does 146 = .ok (.invokestatic 267, 3) := by decide +kernel
theorem dL_does_149 : decode cL_does 149 = .ok (.ireturn, 1) := by decide +kernel
theorem dL_does_150 : decode cL_does 150 = .ok (.iload_n 2, 1) := by decide +kernel
theorem dL_does_151 : decode cL_does 151 = .ok (.bipush 23, 2) := by decide +kernel
theorem dL_does_153 : decode cL_does 153 = .ok (.if_icmp .ge 8, 3) := by decide +kernel
theorem dL_does_156 : decode cL_does 156 = .ok (.aload_n 3, 1) := by decide +kernel
theorem dL_does_157 : decode cL_does 157 = .ok (.invokestatic 269, 3) := by decide +kernel
theorem dL_does_160 : decode cL_does 160 = .ok (.ireturn, 1) := by decide +kernel
theorem dL_does_161 : decode cL_does 161 = .ok (.iload_n 2, 1) := by decide +kernel
theorem dL_does_162 : decode cL_does 162 = .ok (.bipush 30, 2) := by decide +kernel
theorem dL_does_164 : decode cL_does 164 = .ok (.if_icmp .ge 44, 3) := by decide +kernel
theorem dL_does_167 : decode cL_does 167 = .ok (.aload_n 3, 1) := by decide +kernel
theorem dL_does_168 : decode cL_does 168 = .ok (.iload 4, 2) := by decide +kernel
theorem dL_does_170 : decode cL_does 170 = .ok (.iload 10, 2) := by decide +kernel
theorem dL_does_172 : decode cL_does 172 = .ok (.ifCond .ne 7, 3) := by decide +kernel
theorem dL_does_175 : decode cL_does 175 = .ok (.iconst 0, 1) := by decide +kernel
theorem dL_does_176 : decode cL_does 176 = .ok (.goto 8, 3) := by decide +kernel
theorem dL_does_179 : decode cL_does 179 = .ok (.iload 8, 2) := by decide +kernel
theorem dL_does_181 : decode cL_does 181 = .ok (.iload 10, 2) := by decide +kernel
theorem dL_does_183 : decode cL_does 183 = .ok (.irem, 1) := by decide +kernel
theorem dL_does_184 : decode cL_does 184 = .ok (.iload 7, 2) := by decide +kernel
theorem dL_does_186 : decode cL_does 186 = .ok (.bipush 23, 2) := by decide +kernel
theorem dL_does_188 : decode cL_does 188 = .ok (.irem, 1) := by decide +kernel
theorem dL_does_189 : decode cL_does 189 = .ok (.ifCond .ne 8, 3) := by decide +kernel
theorem dL_does_192 : decode cL_does 192 = .ok (.bipush 21, 2) := by decide +kernel
theorem dL_does_194 : decode cL_does 194 = .ok (.goto 10, 3) := by decide +kernel
theorem dL_does_197 : decode cL_does 197 = .ok (.iconst 1, 1) := by decide +kernel
theorem dL_does_198 : decode cL_does 198 = .ok (.iload 7, 2) := by decide +kernel
theorem dL_does_200 : decode cL_does 200 = .ok (.bipush 20, 2) := by decide +kernel
theorem dL_does_202 : decode cL_does 202 = .ok (.irem, 1) := by decide +kernel
theorem dL_does_203 : decode cL_does 203 = .ok (.iadd, 1) := by decide +kernel
theorem dL_does_204 : decode cL_does 204 = .ok (.invokestatic 271, 3) := by decide +kernel
theorem dL_does_207 : decode cL_does 207 = .ok (.ireturn, 1) := by decide +kernel
theorem dL_does_208 : decode cL_does 208 = .ok (.iload_n 2, 1) := by decide +kernel
theorem dL_does_209 : decode cL_does 209 = .ok (.bipush 30, 2) := by decide +kernel
theorem dL_does_211 : decode cL_does 211 = .ok (.if_icmp .ne 10, 3) := by decide +kernel
theorem dL_does_214 : decode cL_does 214 = .ok (.aload_n 3, 1) := by decide +kernel
theorem dL_does_215 : decode cL_does 215 = .ok (.iload 6, 2) := by decide +kernel
theorem dL_does_217 : decode cL_does 217 = .ok (.invokestatic 274, 3) := by decide +kernel
theorem dL_does_220 : decode cL_does 220 = .ok (.ireturn, 1) := by decide +kernel
theorem dL_does_221 : decode cL_does 221 = .ok (.iload_n 2, 1) := by decide +kernel
theorem dL_does_222 : decode cL_does 222 = .ok (.bipush 33, 2) := by decide +kernel
theorem dL_does_224 : decode cL_does 224 = .ok (.if_icmp .ge 10, 3) := by decide +kernel
theorem dL_does_227 : decode cL_does 227 = .ok (.aload_n 3, 1) := by decide +kernel
theorem dL_does_228 : decode cL_does 228 = .ok (.iload 6, 2) := by decide +kernel
theorem dL_does_230 : decode cL_does 230 = .ok (.invokestatic 276, 3) := by decide +kernel
theorem dL_does_233 : decode cL_does 233 = .ok (.ireturn, 1) := by decide +kernel
theorem dL_does_234 : decode cL_does 234 = .ok (.iload_n 2, 1) := by decide +kernel
theorem dL_does_235 : decode cL_does 235 = .ok (.bipush 35, 2) := by decide +kernel
theorem dL_does_237 : decode cL_does 237 = .ok (.if_icmp .ge 10, 3) := by decide +kernel
theorem dL_does_240 : decode cL_does 240 = .ok (.aload_n 3, 1) := by decide +kernel
theorem dL_does_241 : decode cL_does 241 = .ok (.iload 6, 2) := by decide +kernel
theorem dL_does_243 : decode cL_does 243 = .ok (.invokestatic 278, 3) := by decide +kernel
theorem dL_does_246 : decode cL_does 246 = .ok (.ireturn, 1) := by decide +kernel
theorem dL_does_247 : decode cL_does 247 = .ok (.iload_n 2, 1) := by decide +kernel
theorem dL_does_248 : decode cL_does 248 = .ok (.bipush 40, 2) := by decide +kernel
theorem dL_does_250 : decode cL_does 250 = .ok (.if_icmp .ge 8, 3) := by decide +kernel
theorem dL_does_253 : decode cL_does 253 = .ok (.aload_n 3, 1) := by decide +kernel
theorem dL_does_254 : decode cL_does 254 = .ok (.invokestatic 280, 3) := by decide +kernel
theorem dL_does_257 : decode cL_does 257 = .ok (.ireturn, 1) := by decide +kernel
theorem dL_does_258 : decode cL_does 258 = .ok (.iload_n 2, 1) := by decide +kernel
theorem dL_does_259 : decode cL_does 259 = .ok (.bipush 44, 2) := by decide +kernel
theorem dL_does_261 : decode cL_does 261 = .ok (.if_icmp .ge 8, 3) := by decide +kernel
theorem dL_does_264 : decode cL_does 264 = .ok (.aload_n 3, 1) := by decide +kernel
theorem dL_does_265 : decode cL_does 265 = .ok (.invokestatic 282, 3) := by decide +kernel
theorem dL_does_268 : decode cL_does 268 = .ok (.ireturn, 1) := by decide +kernel
theorem dL_does_269 : decode cL_does 269 = .ok (.aload_n 3, 1) := by decide +kernel
theorem dL_does_270 : decode cL_does 270 = .ok (.new 284, 3) := by decide +kernel
theorem dL_does_273 : decode cL_does 273 = .ok (.dup, 1) := by decide +kernel
theorem dL_does_274 : decode cL_does 274 = .ok (.invokespecial 286, 3) := by decide +kernel
theorem dL_does_277 : decode cL_does 277 = .ok (.ldc_w 287, 3) := by decide +kernel
theorem dL_does_280 : decode cL_does 280 = .ok (.invokevirtual 289, 3) := by decide +kernel
theorem dL_does_283 : decode cL_does 283 = .ok (.iload 4, 2) := by decide +kernel
theorem dL_does_285 : decode cL_does 285 = .ok (.invokevirtual 293, 3) := by decide +kernel
theorem dL_does_288 : decode cL_does 288 = .ok (.ldc_w 296, 3) := by decide +kernel
theorem dL_does_291 : decode cL_does 291 = .ok (.invokevirtual 289, 3) := by decide +kernel
theorem dL_does_294 : decode cL_does 294 = .ok (.iconst 1, 1) := by decide +kernel
theorem dL_does_295 : decode cL_does 295 = .ok (.iload 8, 2) := by decide +kernel
theorem dL_does_297 : decode cL_does 297 = .ok (.bipush 60, 2) := by decide +kernel
theorem dL_does_299 : decode cL_does 299 = .ok (.irem, 1) := by decide +kernel
theorem dL_does_300 : decode cL_does 300 = .ok (.iadd, 1) := by decide +kernel
theorem dL_does_301 : decode cL_does 301 = .ok (.invokevirtual 293, 3) := by decide +kernel
theorem dL_does_304 : decode cL_does 304 = .ok (.iload 7, 2) := by decide +kernel
theorem dL_does_306 : decode cL_does 306 = .ok (.iconst 4, 1) := by decide +kernel
theorem dL_does_307 : decode cL_does 307 = .ok (.irem, 1) := by decide +kernel
theorem dL_does_308 : decode cL_does 308 = .ok (.ifCond .ne 27, 3) := by decide +kernel
theorem dL_does_311 : decode cL_does 311 = .ok (.new 284, 3) := by decide +kernel
theorem dL_does_314 : decode cL_does 314 = .ok (.dup, 1) := by decide +kernel
theorem dL_does_315 : decode cL_does 315 = .ok (.invokespecial 286, 3) := by decide +kernel
theorem dL_does_318 : decode cL_does 318 = .ok (.ldc_w 298, 3) := by decide +kernel
theorem dL_does_321 : decode cL_does 321 = .ok (.invokevirtual 289, 3) := by decide +kernel
theorem dL_does_324 : decode cL_does 324 = .ok (.iload 5, 2) := by decide +kernel
theorem dL_does_326 : decode cL_does 326 = .ok (.invokevirtual 293, 3) := by decide +kernel
theorem dL_does_329 : decode cL_does 329 = .ok (.invokevirtual 300, 3) := by decide +kernel
theorem dL_does_332 : decode cL_does 332 = .ok (.goto 64, 3) := by decide +kernel
theorem dL_does_335 : decode cL_does 335 = .ok (.iload 7, 2) := by decide +kernel
theorem dL_does_337 : decode cL_does 337 = .ok (.iconst 4, 1) := by decide +kernel
theorem dL_does_338 : decode cL_does 338 = .ok (.irem, 1) := by decide +kernel
theorem dL_does_339 : decode cL_does 339 = .ok (.iconst 1, 1) := by decide +kernel
theorem dL_does_340 : decode cL_does 340 = .ok (.if_icmp .ne 39, 3) := by decide +kernel
theorem dL_does_343 : decode cL_does 343 = .ok (.new 284, 3) := by decide +kernel
theorem dL_does_346 : decode cL_does 346 = .ok (.dup, 1) := by decide +kernel
theorem dL_does_347 : decode cL_does 347 = .ok (.invokespecial 286, 3) := by decide +kernel
theorem dL_does_350 : decode cL_does 350 = .ok (.ldc_w 304, 3) := by decide +kernel
theorem dL_does_353 : decode cL_does 353 = .ok (.invokevirtual 289, 3) := by decide +kernel
theorem dL_does_356 : decode cL_does 356 = .ok (.iload 4, 2) := by decide +kernel
theorem dL_does_358 : decode cL_does 358 = .ok (.invokevirtual 293, 3) := by decide +kernel
theorem dL_does_361 : decode cL_does 361 = .ok (.bipush 97, 2) := by decide +kernel
theorem dL_does_363 : decode cL_does 363 = .ok (.iload 8, 2) := by decide +kernel
theorem dL_does_365 : decode cL_does 365 = .ok (.bipush 8, 2) := by decide +kernel
theorem dL_does_367 : decode cL_does 367 = .ok (.irem, 1) := by decide +kernel
theorem dL_does_368 : decode cL_does 368 = .ok (.iadd, 1) := by decide +kernel
theorem dL_does_369 : decode cL_does 369 = .ok (.i2c, 1) := by decide +kernel
theorem dL_does_370 : decode cL_does 370 = .ok (.invokevirtual 306, 3) := by decide +kernel
theorem dL_does_373 : decode cL_does 373 = .ok (.invokevirtual 300, 3) := by decide +kernel
theorem dL_does_376 : decode cL_does 376 = .ok (.goto 20, 3) := by decide +kernel
theorem dL_does_379 : decode cL_does 379 = .ok (.iload 7, 2) := by decide +kernel
theorem dL_does_381 : decode cL_does 381 = .ok (.iconst 4, 1) := by decide +kernel
theorem dL_does_382 : decode cL_does 382 = .ok (.irem, 1) := by decide +kernel
theorem dL_does_383 : decode cL_does 383 = .ok (.iconst 2, 1) := by decide +kernel
theorem dL_does_384 : decode cL_does 384 = .ok (.if_icmp .ne 9, 3) := by decide +kernel
theorem dL_does_387 : decode cL_does 387 = .ok (.ldc_w 309, 3) := by decide +kernel
theorem dL_does_390 : decode cL_does 390 = .ok (.goto 6, 3) := by decide +kernel
theorem dL_does_393 : decode cL_does 393 = .ok (.ldc_w 311, 3) := by decide +kernel
theorem dL_does_396 : decode cL_does 396 = .ok (.invokevirtual 289, 3) := by decide +kernel
theorem dL_does_399 : decode cL_does 399 = .ok (.invokevirtual 300, 3) := by decide +kernel
theorem dL_does_402 : decode cL_does 402 = .ok (.invokestatic 313, 3) := by decide +kernel
theorem dL_does_405 : decode cL_does 405 = .ok (.ireturn, 1) := by decide +kernel
def f_L_does_204 (sc : Nat × (Nat → Int32)) (u0 : Int32) (u1 : Int32) (u2 : Int32) (w : XW) : Option (Int32 × XW) := (bI (f_L_layPipe u2 u1 u0 w) (fun r31 w31 => (some (r31, w31))))
set_option maxRecDepth 100000 in
theorem S_L_does_204 {g : GC} (hl : g.1.stackTraces = false) : ∀ (u0 : Int32) (u1 : Int32) (u2 : Int32) (w : XW) (kc ks : Nat), kc + 1 ≤ 50 → ks + 6 ≤ 332 → VE g cL_does 11 RL (some .int) [] (rmL 13 50 332) 50 332 oI kc ks 204 [] [.int u0, .int u1, .int u2, .ref (g.2.1 + 0)] w (f_L_does_204 (scG g)  u0 u1 u2 w) := by
  intro u0 u1 u2 w kc ks hk hks
  unfold f_L_does_204
  refine v_callSh (As := [.ref (g.2.1 + 0), .int u2, .int u1, .int u0]) ch_L_271 (S_L_layPipe hl) rfl rfl (Nat.le_of_ble_eq_true rfl) dL_does_204 (CR_rm (by decide) (by decide) (by omega) (by omega)) (fun r31 w31 => ?_)
  exact v_iret dL_does_207 rfl rfl (by omega) (by omega)
def f_L_does_184 (sc : Nat × (Nat → Int32)) (z7 : Int32) (u0 : Int32) (u1 : Int32) (w : XW) : Option (Int32 × XW) := (if (z7 - z7 / 23 * 23) = 0 then (f_L_does_204 sc 21 u0 u1 w) else (f_L_does_204 sc (1 + (z7 - z7 / 20 * 20)) u0 u1 w))
set_option maxRecDepth 100000 in
theorem S_L_does_184 {g : GC} (hl : g.1.stackTraces = false) : ∀ (z7 : Int32) (u0 : Int32) (u1 : Int32) (w : XW) (kc ks : Nat), kc + 1 ≤ 50 → ks + 6 ≤ 332 → VE g cL_does 11 RL (some .int) [] (rmL 13 50 332) 50 332 oI kc ks 184 [(7, .int z7)] [.int u0, .int u1, .ref (g.2.1 + 0)] w (f_L_does_184 (scG g)  z7 u0 u1 w) := by
  intro z7 u0 u1 w kc ks hk hks
  unfold f_L_does_184
  refine v_iload dL_does_184 0 rfl ?_
  refine v_bipush (v := 23) dL_does_186 (by decide) ?_
  refine v_irem dL_does_188 (by decide) ?_
  refine v_if_ne (tgt := 197) dL_does_189 (by decide) ?_ ?_
  · refine v_iconst (v := 1) dL_does_197 (by decide) ?_
    refine v_iload dL_does_198 0 rfl ?_
    refine v_bipush (v := 20) dL_does_200 (by decide) ?_
    refine v_irem dL_does_202 (by decide) ?_
    refine v_iadd dL_does_203 ?_
    refine v_sub [] rfl ?_
    exact S_L_does_204 hl _ _ _ _ _ _ (by omega) (by omega)
  · refine v_bipush (v := 21) dL_does_192 (by decide) ?_
    refine v_goto (tgt := 204) dL_does_194 (by decide) ?_
    refine v_sub [] rfl ?_
    exact S_L_does_204 hl _ _ _ _ _ _ (by omega) (by omega)
def f_L_does_103 (sc : Nat × (Nat → Int32)) (u0 : Int32) (u1 : Int32) (w : XW) : Option (Int32 × XW) := (bI (f_L_pour u1 u0 w) (fun r30 w30 => (some (r30, w30))))
set_option maxRecDepth 100000 in
theorem S_L_does_103 {g : GC} (hl : g.1.stackTraces = false) : ∀ (u0 : Int32) (u1 : Int32) (w : XW) (kc ks : Nat), kc + 1 ≤ 50 → ks + 6 ≤ 332 → VE g cL_does 11 RL (some .int) [] (rmL 13 50 332) 50 332 oI kc ks 103 [] [.int u0, .int u1, .ref (g.2.1 + 0)] w (f_L_does_103 (scG g)  u0 u1 w) := by
  intro u0 u1 w kc ks hk hks
  unfold f_L_does_103
  refine v_callSh (As := [.ref (g.2.1 + 0), .int u1, .int u0]) ch_L_259 (S_L_pour hl) rfl rfl (Nat.le_of_ble_eq_true rfl) dL_does_103 (CR_rm (by decide) (by decide) (by omega) (by omega)) (fun r30 w30 => ?_)
  exact v_iret dL_does_106 rfl rfl (by omega) (by omega)
def f_L_does_57 (sc : Nat × (Nat → Int32)) (z2 : Int32) (z4 : Int32) (z5 : Int32) (z6 : Int32) (z7 : Int32) (z8 : Int32) (u0 : Int32) (w : XW) : Option (Int32 × XW) := (bI (f_X10_sectionCount w) (fun r4 w4 => (if 3 ≤ z2 then (if 8 ≤ z2 then (if 11 ≤ z2 then (if 14 ≤ z2 then (if 21 ≤ z2 then (if 23 ≤ z2 then (if 30 ≤ z2 then (if z2 = 30 then (bI (f_L_removePipe z6 w4) (fun r23 w23 => (some (r23, w23)))) else (if 33 ≤ z2 then (if 35 ≤ z2 then (if 40 ≤ z2 then (if 44 ≤ z2 then (if 0 ≤ z4 ∧ z4 ≤ 99 then (if 0 ≤ (1 + (z8 - z8 / 60 * 60)) ∧ (1 + (z8 - z8 / 60 * 60)) ≤ 99 then (if (z7 - z7 / 4 * 4) = 0 then (if 0 ≤ z5 ∧ z5 ≤ 99 then (if ((((([] ++ (strB 0)) ++ (dgL z4)) ++ (strB 1)) ++ (dgL (1 + (z8 - z8 / 60 * 60)))) ++ (([] ++ (strB 2)) ++ (dgL z5))).length ≤ 16 then (bI (f_L_runs ((((([] ++ (strB 0)) ++ (dgL z4)) ++ (strB 1)) ++ (dgL (1 + (z8 - z8 / 60 * 60)))) ++ (([] ++ (strB 2)) ++ (dgL z5))) w4) (fun r18 w18 => (some (r18, w18)))) else none) else none) else (if (z7 - z7 / 4 * 4) = 1 then (if 0 ≤ z4 ∧ z4 ≤ 99 then (if 0 ≤ (((Int32.toUInt32 (97 + (z8 - z8 / 8 * 8))) % 65536).toInt32) ∧ (((Int32.toUInt32 (97 + (z8 - z8 / 8 * 8))) % 65536).toInt32) ≤ 127 then (if ((((([] ++ (strB 0)) ++ (dgL z4)) ++ (strB 1)) ++ (dgL (1 + (z8 - z8 / 60 * 60)))) ++ ((([] ++ (strB 4)) ++ (dgL z4)) ++ [(((Int32.toUInt32 (97 + (z8 - z8 / 8 * 8))) % 65536).toInt32)])).length ≤ 16 then (bI (f_L_runs ((((([] ++ (strB 0)) ++ (dgL z4)) ++ (strB 1)) ++ (dgL (1 + (z8 - z8 / 60 * 60)))) ++ ((([] ++ (strB 4)) ++ (dgL z4)) ++ [(((Int32.toUInt32 (97 + (z8 - z8 / 8 * 8))) % 65536).toInt32)])) w4) (fun r14 w14 => (some (r14, w14)))) else none) else none) else none) else (if (z7 - z7 / 4 * 4) = 2 then (bI (f_L_runs ((((([] ++ (strB 0)) ++ (dgL z4)) ++ (strB 1)) ++ (dgL (1 + (z8 - z8 / 60 * 60)))) ++ (strB 5)) w4) (fun r9 w9 => (some (r9, w9)))) else (bI (f_L_runs ((((([] ++ (strB 0)) ++ (dgL z4)) ++ (strB 1)) ++ (dgL (1 + (z8 - z8 / 60 * 60)))) ++ (strB 6)) w4) (fun r8 w8 => (some (r8, w8))))))) else none) else none) else (bI (f_L_seep w4) (fun r19 w19 => (some (r19, w19))))) else (bI (f_L_drain w4) (fun r20 w20 => (some (r20, w20))))) else (bI (f_L_mendPipe z6 w4) (fun r21 w21 => (some (r21, w21))))) else (bI (f_L_breakPipe z6 w4) (fun r22 w22 => (some (r22, w22)))))) else (if r4 = 0 then (f_L_does_184 sc z7 0 z4 w4) else (if ¬ (r4 = 0) then (f_L_does_184 sc z7 (z8 - z8 / r4 * r4) z4 w4) else none))) else (bI (f_L_unfold w4) (fun r25 w25 => (some (r25, w25))))) else (bI (f_L_fold z5 w4) (fun r26 w26 => (some (r26, w26))))) else (bI (f_L_untag z4 u0 w4) (fun r27 w27 => (some (r27, w27))))) else (bI (f_L_tag z4 u0 w4) (fun r28 w28 => (some (r28, w28))))) else (if (z7 - z7 / 19 * 19) = 0 then (f_L_does_103 sc 0 z4 w4) else (f_L_does_103 sc (1 + (z8 - z8 / 99 * 99)) z4 w4))) else (bI (f_L_addSection w4) (fun r29 w29 => (some (r29, w29)))))))
set_option maxRecDepth 100000 in
theorem S_L_does_57 {g : GC} (hl : g.1.stackTraces = false) : ∀ (z2 : Int32) (z4 : Int32) (z5 : Int32) (z6 : Int32) (z7 : Int32) (z8 : Int32) (u0 : Int32) (w : XW) (kc ks : Nat), kc + 50 ≤ 50 → ks + 332 ≤ 332 → VE g cL_does 11 RL (some .int) [] (rmL 13 50 332) 50 332 oI kc ks 57 [(2, .int z2), (3, .ref (g.2.1 + 0)), (4, .int z4), (5, .int z5), (6, .int z6), (7, .int z7), (8, .int z8)] [.int u0] w (f_L_does_57 (scG g)  z2 z4 z5 z6 z7 z8 u0 w) := by
  intro z2 z4 z5 z6 z7 z8 u0 w kc ks hk hks
  unfold f_L_does_57
  refine v_istore dL_does_57 (Nat.le_of_ble_eq_true rfl) rfl ?_
  refine v_aload_n dL_does_59 rfl 2 rfl ?_
  refine v_callVi (As := []) cv_L_206 (S_X10_sectionCount hl) tt_0 rfl rfl rfl (Nat.le_of_ble_eq_true rfl) dL_does_60 (CR_rm (by decide) (by decide) (by omega) (by omega)) (fun r4 w4 => ?_)
  refine v_istore dL_does_63 (Nat.le_of_ble_eq_true rfl) rfl ?_
  refine v_iload_n dL_does_65 rfl 2 rfl ?_
  refine v_iconst (v := 3) dL_does_66 (by decide) ?_
  refine v_icmp_ge (tgt := 75) dL_does_67 (by decide) ?_ ?_
  · refine v_iload_n dL_does_75 rfl 2 rfl ?_
    refine v_bipush (v := 8) dL_does_76 (by decide) ?_
    refine v_icmp_ge (tgt := 107) dL_does_78 (by decide) ?_ ?_
    · refine v_iload_n dL_does_107 rfl 2 rfl ?_
      refine v_bipush (v := 11) dL_does_108 (by decide) ?_
      refine v_icmp_ge (tgt := 122) dL_does_110 (by decide) ?_ ?_
      · refine v_iload_n dL_does_122 rfl 2 rfl ?_
        refine v_bipush (v := 14) dL_does_123 (by decide) ?_
        refine v_icmp_ge (tgt := 137) dL_does_125 (by decide) ?_ ?_
        · refine v_iload_n dL_does_137 rfl 2 rfl ?_
          refine v_bipush (v := 21) dL_does_138 (by decide) ?_
          refine v_icmp_ge (tgt := 150) dL_does_140 (by decide) ?_ ?_
          · refine v_iload_n dL_does_150 rfl 2 rfl ?_
            refine v_bipush (v := 23) dL_does_151 (by decide) ?_
            refine v_icmp_ge (tgt := 161) dL_does_153 (by decide) ?_ ?_
            · refine v_iload_n dL_does_161 rfl 2 rfl ?_
              refine v_bipush (v := 30) dL_does_162 (by decide) ?_
              refine v_icmp_ge (tgt := 208) dL_does_164 (by decide) ?_ ?_
              · refine v_iload_n dL_does_208 rfl 2 rfl ?_
                refine v_bipush (v := 30) dL_does_209 (by decide) ?_
                refine v_icmp_ne (tgt := 221) dL_does_211 (by decide) ?_ ?_
                · refine v_iload_n dL_does_221 rfl 2 rfl ?_
                  refine v_bipush (v := 33) dL_does_222 (by decide) ?_
                  refine v_icmp_ge (tgt := 234) dL_does_224 (by decide) ?_ ?_
                  · refine v_iload_n dL_does_234 rfl 2 rfl ?_
                    refine v_bipush (v := 35) dL_does_235 (by decide) ?_
                    refine v_icmp_ge (tgt := 247) dL_does_237 (by decide) ?_ ?_
                    · refine v_iload_n dL_does_247 rfl 2 rfl ?_
                      refine v_bipush (v := 40) dL_does_248 (by decide) ?_
                      refine v_icmp_ge (tgt := 258) dL_does_250 (by decide) ?_ ?_
                      · refine v_iload_n dL_does_258 rfl 2 rfl ?_
                        refine v_bipush (v := 44) dL_does_259 (by decide) ?_
                        refine v_icmp_ge (tgt := 269) dL_does_261 (by decide) ?_ ?_
                        · refine v_aload_n dL_does_269 rfl 3 rfl ?_
                          refine z_new sbnew_L_284 dL_does_270 dL_does_273 dL_does_274 (Nat.le_of_ble_eq_true rfl) (ZR_rm (by decide) (by omega) (by omega)) (fun b5 => ?_)
                          refine z_ldcSw (i := 0) rfl dL_does_277 ?_
                          refine z_appS (i := 0) sbS_L_289 (by decide) (strB_ok 0 (by decide)) (zn_st (k := 5) (N' := 5) (by decide +kernel) (by decide) (by decide)) (Nat.le_of_ble_eq_true rfl) dL_does_280 (ZR_rm (by decide) (by omega) (by omega)) ?_
                          refine z_iload dL_does_283 4 rfl ?_
                          refine z_guard (fun h6 => ?_)
                          refine z_appI sbI_L_293 h6 (zn_st (k := 2) (N' := 7) (dgL_ok h6).2 (by decide) (by decide)) (Nat.le_of_ble_eq_true rfl) dL_does_285 (ZR_rm (by decide) (by omega) (by omega)) ?_
                          refine z_ldcSw (i := 1) rfl dL_does_288 ?_
                          refine z_appS (i := 1) sbS_L_289 (by decide) (strB_ok 1 (by decide)) (zn_st (k := 1) (N' := 8) (by decide +kernel) (by decide) (by decide)) (Nat.le_of_ble_eq_true rfl) dL_does_291 (ZR_rm (by decide) (by omega) (by omega)) ?_
                          refine z_iconst (v := 1) dL_does_294 (by decide) ?_
                          refine z_iload dL_does_295 8 rfl ?_
                          refine z_bipush (v := 60) dL_does_297 (by decide) ?_
                          refine z_irem dL_does_299 (by decide) ?_
                          refine z_iadd dL_does_300 ?_
                          refine z_guard (fun h7 => ?_)
                          refine z_appI sbI_L_293 h7 (zn_st (k := 2) (N' := 10) (dgL_ok h7).2 (by decide) (by decide)) (Nat.le_of_ble_eq_true rfl) dL_does_301 (ZR_rm (by decide) (by omega) (by omega)) ?_
                          refine z_iload dL_does_304 7 rfl ?_
                          refine z_iconst (v := 4) dL_does_306 (by decide) ?_
                          refine z_irem dL_does_307 (by decide) ?_
                          refine z_if_ne (tgt := 335) dL_does_308 (by decide) ?_ ?_
                          · refine z_iload dL_does_335 7 rfl ?_
                            refine z_iconst (v := 4) dL_does_337 (by decide) ?_
                            refine z_irem dL_does_338 (by decide) ?_
                            refine z_iconst (v := 1) dL_does_339 (by decide) ?_
                            refine z_icmp_ne (tgt := 379) dL_does_340 (by decide) ?_ ?_
                            · refine z_iload dL_does_379 7 rfl ?_
                              refine z_iconst (v := 4) dL_does_381 (by decide) ?_
                              refine z_irem dL_does_382 (by decide) ?_
                              refine z_iconst (v := 2) dL_does_383 (by decide) ?_
                              refine z_icmp_ne (tgt := 393) dL_does_384 (by decide) ?_ ?_
                              · refine z_ldcSw (i := 6) rfl dL_does_393 ?_
                                refine z_appS (i := 6) sbS_L_289 (by decide) (strB_ok 6 (by decide)) (zn_st (k := 1) (N' := 11) (by decide +kernel) (by decide) (by decide)) (Nat.le_of_ble_eq_true rfl) dL_does_396 (ZR_rm (by decide) (by omega) (by omega)) ?_
                                refine z_runi (Fy := fun t => f_L_runs t w4) hl sbT_L_300 cs_L_313 dL_does_399 (fun g1 hl1 => S_L_runs hl1) (by decide) (Nat.le_of_ble_eq_true rfl) dL_does_402 (ZR_rm (by decide) (by omega) (by omega)) (CR_rm (by decide) (by decide) (by omega) (by omega)) (fun r8 w8 => ?_)
                                exact v_iret dL_does_405 rfl rfl (by omega) (by omega)
                              · refine z_ldcSw (i := 5) rfl dL_does_387 ?_
                                refine z_goto (tgt := 396) dL_does_390 (by decide) ?_
                                refine z_appS (i := 5) sbS_L_289 (by decide) (strB_ok 5 (by decide)) (zn_st (k := 5) (N' := 15) (by decide +kernel) (by decide) (by decide)) (Nat.le_of_ble_eq_true rfl) dL_does_396 (ZR_rm (by decide) (by omega) (by omega)) ?_
                                refine z_runi (Fy := fun t => f_L_runs t w4) hl sbT_L_300 cs_L_313 dL_does_399 (fun g1 hl1 => S_L_runs hl1) (by decide) (Nat.le_of_ble_eq_true rfl) dL_does_402 (ZR_rm (by decide) (by omega) (by omega)) (CR_rm (by decide) (by decide) (by omega) (by omega)) (fun r9 w9 => ?_)
                                exact v_iret dL_does_405 rfl rfl (by omega) (by omega)
                            · refine z_new2 sbnew_L_284 dL_does_343 dL_does_346 dL_does_347 (Nat.le_of_ble_eq_true rfl) (ZR_rm (by decide) (by omega) (by omega)) (fun b10 => ?_)
                              refine z_ldcSw (i := 4) rfl dL_does_350 ?_
                              refine z_appS (i := 4) sbS_L_289 (by decide) (strB_ok 4 (by decide)) (zn_st (k := 5) (N' := 5) (by decide +kernel) (by decide) (by decide)) (Nat.le_of_ble_eq_true rfl) dL_does_353 (ZR_rm (by decide) (by omega) (by omega)) ?_
                              refine z_iload dL_does_356 4 rfl ?_
                              refine z_guard (fun h11 => ?_)
                              refine z_appI sbI_L_293 h11 (zn_st (k := 2) (N' := 7) (dgL_ok h11).2 (by decide) (by decide)) (Nat.le_of_ble_eq_true rfl) dL_does_358 (ZR_rm (by decide) (by omega) (by omega)) ?_
                              refine z_bipush (v := 97) dL_does_361 (by decide) ?_
                              refine z_iload dL_does_363 8 rfl ?_
                              refine z_bipush (v := 8) dL_does_365 (by decide) ?_
                              refine z_irem dL_does_367 (by decide) ?_
                              refine z_iadd dL_does_368 ?_
                              refine z_i2c dL_does_369 ?_
                              refine z_guard (fun h12 => ?_)
                              refine z_appC sbC_L_306 h12 (zn_st (k := 1) (N' := 8) (Nat.le_refl 1) (by decide) (by decide)) (Nat.le_of_ble_eq_true rfl) dL_does_370 (ZR_rm (by decide) (by omega) (by omega)) ?_
                              refine z_str2 sbT_L_300 (by decide) (Nat.le_of_ble_eq_true rfl) dL_does_373 (ZR_rm (by decide) (by omega) (by omega)) (fun s2 => ?_)
                              refine z_goto (tgt := 396) dL_does_376 (by decide) ?_
                              refine z_guard (fun h13 => ?_)
                              refine z_appD sbS_L_289 (fun _ => (zn_g h13)) (Nat.le_of_ble_eq_true rfl) dL_does_396 (ZR_rm (by decide) (by omega) (by omega)) ?_
                              refine z_runi (Fy := fun t => f_L_runs t w4) hl sbT_L_300 cs_L_313 dL_does_399 (fun g1 hl1 => S_L_runs hl1) (by decide) (Nat.le_of_ble_eq_true rfl) dL_does_402 (ZR_rm (by decide) (by omega) (by omega)) (CR_rm (by decide) (by decide) (by omega) (by omega)) (fun r14 w14 => ?_)
                              exact v_iret dL_does_405 rfl rfl (by omega) (by omega)
                          · refine z_new2 sbnew_L_284 dL_does_311 dL_does_314 dL_does_315 (Nat.le_of_ble_eq_true rfl) (ZR_rm (by decide) (by omega) (by omega)) (fun b15 => ?_)
                            refine z_ldcSw (i := 2) rfl dL_does_318 ?_
                            refine z_appS (i := 2) sbS_L_289 (by decide) (strB_ok 2 (by decide)) (zn_st (k := 6) (N' := 6) (by decide +kernel) (by decide) (by decide)) (Nat.le_of_ble_eq_true rfl) dL_does_321 (ZR_rm (by decide) (by omega) (by omega)) ?_
                            refine z_iload dL_does_324 5 rfl ?_
                            refine z_guard (fun h16 => ?_)
                            refine z_appI sbI_L_293 h16 (zn_st (k := 2) (N' := 8) (dgL_ok h16).2 (by decide) (by decide)) (Nat.le_of_ble_eq_true rfl) dL_does_326 (ZR_rm (by decide) (by omega) (by omega)) ?_
                            refine z_str2 sbT_L_300 (by decide) (Nat.le_of_ble_eq_true rfl) dL_does_329 (ZR_rm (by decide) (by omega) (by omega)) (fun s2 => ?_)
                            refine z_goto (tgt := 396) dL_does_332 (by decide) ?_
                            refine z_guard (fun h17 => ?_)
                            refine z_appD sbS_L_289 (fun _ => (zn_g h17)) (Nat.le_of_ble_eq_true rfl) dL_does_396 (ZR_rm (by decide) (by omega) (by omega)) ?_
                            refine z_runi (Fy := fun t => f_L_runs t w4) hl sbT_L_300 cs_L_313 dL_does_399 (fun g1 hl1 => S_L_runs hl1) (by decide) (Nat.le_of_ble_eq_true rfl) dL_does_402 (ZR_rm (by decide) (by omega) (by omega)) (CR_rm (by decide) (by decide) (by omega) (by omega)) (fun r18 w18 => ?_)
                            exact v_iret dL_does_405 rfl rfl (by omega) (by omega)
                        · refine v_aload_n dL_does_264 rfl 3 rfl ?_
                          refine v_callSh (As := [.ref (g.2.1 + 0)]) ch_L_282 (S_L_seep hl) rfl rfl (Nat.le_of_ble_eq_true rfl) dL_does_265 (CR_rm (by decide) (by decide) (by omega) (by omega)) (fun r19 w19 => ?_)
                          exact v_iret dL_does_268 rfl rfl (by omega) (by omega)
                      · refine v_aload_n dL_does_253 rfl 3 rfl ?_
                        refine v_callSh (As := [.ref (g.2.1 + 0)]) ch_L_280 (S_L_drain hl) rfl rfl (Nat.le_of_ble_eq_true rfl) dL_does_254 (CR_rm (by decide) (by decide) (by omega) (by omega)) (fun r20 w20 => ?_)
                        exact v_iret dL_does_257 rfl rfl (by omega) (by omega)
                    · refine v_aload_n dL_does_240 rfl 3 rfl ?_
                      refine v_iload dL_does_241 6 rfl ?_
                      refine v_callSh (As := [.ref (g.2.1 + 0), .int z6]) ch_L_278 (S_L_mendPipe hl) rfl rfl (Nat.le_of_ble_eq_true rfl) dL_does_243 (CR_rm (by decide) (by decide) (by omega) (by omega)) (fun r21 w21 => ?_)
                      exact v_iret dL_does_246 rfl rfl (by omega) (by omega)
                  · refine v_aload_n dL_does_227 rfl 3 rfl ?_
                    refine v_iload dL_does_228 6 rfl ?_
                    refine v_callSh (As := [.ref (g.2.1 + 0), .int z6]) ch_L_276 (S_L_breakPipe hl) rfl rfl (Nat.le_of_ble_eq_true rfl) dL_does_230 (CR_rm (by decide) (by decide) (by omega) (by omega)) (fun r22 w22 => ?_)
                    exact v_iret dL_does_233 rfl rfl (by omega) (by omega)
                · refine v_aload_n dL_does_214 rfl 3 rfl ?_
                  refine v_iload dL_does_215 6 rfl ?_
                  refine v_callSh (As := [.ref (g.2.1 + 0), .int z6]) ch_L_274 (S_L_removePipe hl) rfl rfl (Nat.le_of_ble_eq_true rfl) dL_does_217 (CR_rm (by decide) (by decide) (by omega) (by omega)) (fun r23 w23 => ?_)
                  exact v_iret dL_does_220 rfl rfl (by omega) (by omega)
              · refine v_aload_n dL_does_167 rfl 3 rfl ?_
                refine v_iload dL_does_168 4 rfl ?_
                refine v_iload dL_does_170 0 rfl ?_
                refine v_if_ne (tgt := 179) dL_does_172 (by decide) ?_ ?_
                · refine v_iload dL_does_179 8 rfl ?_
                  refine v_iload dL_does_181 0 rfl ?_
                  refine v_guard (fun h24 => ?_)
                  refine v_irem dL_does_183 h24 ?_
                  refine v_sub [7] rfl ?_
                  exact S_L_does_184 hl _ _ _ _ _ _ (by omega) (by omega)
                · refine v_iconst (v := 0) dL_does_175 (by decide) ?_
                  refine v_goto (tgt := 184) dL_does_176 (by decide) ?_
                  refine v_sub [7] rfl ?_
                  exact S_L_does_184 hl _ _ _ _ _ _ (by omega) (by omega)
            · refine v_aload_n dL_does_156 rfl 3 rfl ?_
              refine v_callSh (As := [.ref (g.2.1 + 0)]) ch_L_269 (S_L_unfold hl) rfl rfl (Nat.le_of_ble_eq_true rfl) dL_does_157 (CR_rm (by decide) (by decide) (by omega) (by omega)) (fun r25 w25 => ?_)
              exact v_iret dL_does_160 rfl rfl (by omega) (by omega)
          · refine v_aload_n dL_does_143 rfl 3 rfl ?_
            refine v_iload dL_does_144 5 rfl ?_
            refine v_callSh (As := [.ref (g.2.1 + 0), .int z5]) ch_L_267 (S_L_fold hl) rfl rfl (Nat.le_of_ble_eq_true rfl) dL_does_146 (CR_rm (by decide) (by decide) (by omega) (by omega)) (fun r26 w26 => ?_)
            exact v_iret dL_does_149 rfl rfl (by omega) (by omega)
        · refine v_aload_n dL_does_128 rfl 3 rfl ?_
          refine v_iload dL_does_129 4 rfl ?_
          refine v_iload dL_does_131 1 rfl ?_
          refine v_callSh (As := [.ref (g.2.1 + 0), .int z4, .int u0]) ch_L_265 (S_L_untag hl) rfl rfl (Nat.le_of_ble_eq_true rfl) dL_does_133 (CR_rm (by decide) (by decide) (by omega) (by omega)) (fun r27 w27 => ?_)
          exact v_iret dL_does_136 rfl rfl (by omega) (by omega)
      · refine v_aload_n dL_does_113 rfl 3 rfl ?_
        refine v_iload dL_does_114 4 rfl ?_
        refine v_iload dL_does_116 1 rfl ?_
        refine v_callSh (As := [.ref (g.2.1 + 0), .int z4, .int u0]) ch_L_262 (S_L_tag hl) rfl rfl (Nat.le_of_ble_eq_true rfl) dL_does_118 (CR_rm (by decide) (by decide) (by omega) (by omega)) (fun r28 w28 => ?_)
        exact v_iret dL_does_121 rfl rfl (by omega) (by omega)
    · refine v_aload_n dL_does_81 rfl 3 rfl ?_
      refine v_iload dL_does_82 4 rfl ?_
      refine v_iload dL_does_84 7 rfl ?_
      refine v_bipush (v := 19) dL_does_86 (by decide) ?_
      refine v_irem dL_does_88 (by decide) ?_
      refine v_if_ne (tgt := 96) dL_does_89 (by decide) ?_ ?_
      · refine v_iconst (v := 1) dL_does_96 (by decide) ?_
        refine v_iload dL_does_97 8 rfl ?_
        refine v_bipush (v := 99) dL_does_99 (by decide) ?_
        refine v_irem dL_does_101 (by decide) ?_
        refine v_iadd dL_does_102 ?_
        refine v_sub [] rfl ?_
        exact S_L_does_103 hl _ _ _ _ _ (by omega) (by omega)
      · refine v_iconst (v := 0) dL_does_92 (by decide) ?_
        refine v_goto (tgt := 103) dL_does_93 (by decide) ?_
        refine v_sub [] rfl ?_
        exact S_L_does_103 hl _ _ _ _ _ (by omega) (by omega)
  · refine v_aload_n dL_does_70 rfl 3 rfl ?_
    refine v_callSh (As := [.ref (g.2.1 + 0)]) ch_L_257 (S_L_addSection hl) rfl rfl (Nat.le_of_ble_eq_true rfl) dL_does_71 (CR_rm (by decide) (by decide) (by omega) (by omega)) (fun r29 w29 => ?_)
    exact v_iret dL_does_74 rfl rfl (by omega) (by omega)
def f_L_does_54 (sc : Nat × (Nat → Int32)) (z2 : Int32) (z4 : Int32) (z5 : Int32) (z6 : Int32) (z7 : Int32) (z8 : Int32) (u0 : Int32) (u1 : Int32) (u2 : Int32) (w : XW) : Option (Int32 × XW) := (if ¬ (u0 = 0) then (f_L_does_57 sc z2 z4 z5 z6 z7 z8 (((Int32.toUInt32 (u2 + (u1 - u1 / u0 * u0))) % 65536).toInt32) w) else none)
set_option maxRecDepth 100000 in
theorem S_L_does_54 {g : GC} (hl : g.1.stackTraces = false) : ∀ (z2 : Int32) (z4 : Int32) (z5 : Int32) (z6 : Int32) (z7 : Int32) (z8 : Int32) (u0 : Int32) (u1 : Int32) (u2 : Int32) (w : XW) (kc ks : Nat), kc + 50 ≤ 50 → ks + 332 ≤ 332 → VE g cL_does 11 RL (some .int) [] (rmL 13 50 332) 50 332 oI kc ks 54 [(2, .int z2), (3, .ref (g.2.1 + 0)), (4, .int z4), (5, .int z5), (6, .int z6), (7, .int z7), (8, .int z8)] [.int u0, .int u1, .int u2] w (f_L_does_54 (scG g)  z2 z4 z5 z6 z7 z8 u0 u1 u2 w) := by
  intro z2 z4 z5 z6 z7 z8 u0 u1 u2 w kc ks hk hks
  unfold f_L_does_54
  refine v_guard (fun h3 => ?_)
  refine v_irem dL_does_54 h3 ?_
  refine v_iadd dL_does_55 ?_
  refine v_i2c dL_does_56 ?_
  refine v_sub [0, 1, 2, 3, 4, 5, 6] rfl ?_
  exact S_L_does_57 hl _ _ _ _ _ _ _ _ _ _ (by omega) (by omega)
def f_L_does (sc : Nat × (Nat → Int32)) (x1 : Int32) (x2 : Int32) (x4 : Int32) (x5 : Int32) (x6 : Int32) (w : XW) : Option (Int32 × XW) := (bI (f_L_pick sc (x1 + 3) 1000 w) (fun r1 w1 => (bI (f_L_pick sc (x1 + 4) 1000 w1) (fun r2 w2 => (if (r1 - r1 / 19 * 19) = 0 then (f_L_does_57 sc x2 x4 x5 x6 r1 r2 105 w2) else (if (r1 - r1 / 3 * 3) = 0 then (f_L_does_54 sc x2 x4 x5 x6 r1 r2 8 r2 97 w2) else (f_L_does_54 sc x2 x4 x5 x6 r1 r2 3 r2 97 w2)))))))
set_option maxRecDepth 100000 in
theorem W_L_does {g : GC} (hl : g.1.stackTraces = false) {x1 : Int32} {x2 : Int32} {x4 : Int32} {x5 : Int32} {x6 : Int32} {w : XW} : VE g cL_does 11 RL (some .int) [] (rmL 13 50 332) 50 332 oI 0 0 0 [(0, .ref g.2.2.2.2.2.2.1), (1, .int x1), (2, .int x2), (3, .ref (g.2.1 + 0)), (4, .int x4), (5, .int x5), (6, .int x6)] [] w (f_L_does (scG g) x1 x2 x4 x5 x6 w) := by
  unfold f_L_does
  refine v_aload_n dL_does_0 rfl 0 rfl ?_
  refine v_iload_n dL_does_1 rfl 1 rfl ?_
  refine v_iconst (v := 3) dL_does_2 (by decide) ?_
  refine v_iadd dL_does_3 ?_
  refine v_sipush (v := 1000) dL_does_4 (by decide) ?_
  refine v_callSi (As := [.ref g.2.2.2.2.2.2.1, .int (x1 + 3), .int 1000]) cs_L_202 (S_L_pick hl) rfl rfl (Nat.le_of_ble_eq_true rfl) dL_does_7 (CR_rm (by decide) (by decide) (by omega) (by omega)) (fun r1 w1 => ?_)
  refine v_istore dL_does_10 (Nat.le_of_ble_eq_true rfl) rfl ?_
  refine v_aload_n dL_does_12 rfl 1 rfl ?_
  refine v_iload_n dL_does_13 rfl 2 rfl ?_
  refine v_iconst (v := 4) dL_does_14 (by decide) ?_
  refine v_iadd dL_does_15 ?_
  refine v_sipush (v := 1000) dL_does_16 (by decide) ?_
  refine v_callSi (As := [.ref g.2.2.2.2.2.2.1, .int (x1 + 4), .int 1000]) cs_L_202 (S_L_pick hl) rfl rfl (Nat.le_of_ble_eq_true rfl) dL_does_19 (CR_rm (by decide) (by decide) (by omega) (by omega)) (fun r2 w2 => ?_)
  refine v_istore dL_does_22 (Nat.le_of_ble_eq_true rfl) rfl ?_
  refine v_iload dL_does_24 1 rfl ?_
  refine v_bipush (v := 19) dL_does_26 (by decide) ?_
  refine v_irem dL_does_28 (by decide) ?_
  refine v_if_ne (tgt := 37) dL_does_29 (by decide) ?_ ?_
  · refine v_bipush (v := 97) dL_does_37 (by decide) ?_
    refine v_iload dL_does_39 0 rfl ?_
    refine v_iload dL_does_41 1 rfl ?_
    refine v_iconst (v := 3) dL_does_43 (by decide) ?_
    refine v_irem dL_does_44 (by decide) ?_
    refine v_if_ne (tgt := 53) dL_does_45 (by decide) ?_ ?_
    · refine v_iconst (v := 3) dL_does_53 (by decide) ?_
      refine v_sub [4, 5, 6, 7, 8, 1, 0] rfl ?_
      exact S_L_does_54 hl _ _ _ _ _ _ _ _ _ _ _ _ (by omega) (by omega)
    · refine v_bipush (v := 8) dL_does_48 (by decide) ?_
      refine v_goto (tgt := 54) dL_does_50 (by decide) ?_
      refine v_sub [4, 5, 6, 7, 8, 1, 0] rfl ?_
      exact S_L_does_54 hl _ _ _ _ _ _ _ _ _ _ _ _ (by omega) (by omega)
  · refine v_bipush (v := 105) dL_does_32 (by decide) ?_
    refine v_goto (tgt := 57) dL_does_34 (by decide) ?_
    refine v_sub [4, 5, 6, 7, 8, 1, 0] rfl ?_
    exact S_L_does_57 hl _ _ _ _ _ _ _ _ _ _ (by omega) (by omega)
theorem S_L_does {g : GC} (hl : g.1.stackTraces = false) {x1 : Int32} {x2 : Int32} {x4 : Int32} {x5 : Int32} {x6 : Int32} {w : XW} : ∀ q, f_L_does (scG g) x1 x2 x4 x5 x6 w = some q → MM g (.code yL_does cL_does 11 (some .int)) yL_does (rmL 13 50 332) 50 332 [.ref g.2.2.2.2.2.2.1, .int x1, .int x2, .ref (g.2.1 + 0), .int x4, .int x5, .int x6] w (oI q) := fun q hq => MM_of (own := RL) hl (by decide) gw_705 rfl (Nat.le_of_ble_eq_true rfl) (W_L_does hl q hq) ⟨rfl, rfl⟩

theorem dL_isSearch_0 : decode cL_isSearch 0 = .ok (.bipush 97, 2) := by decide +kernel
theorem dL_isSearch_2 : decode cL_isSearch 2 = .ok (.aload_n 1, 1) := by decide +kernel
theorem dL_isSearch_3 : decode cL_isSearch 3 = .ok (.iload_n 2, 1) := by decide +kernel
theorem dL_isSearch_4 : decode cL_isSearch 4 = .ok (.iconst 3, 1) := by decide +kernel
theorem dL_isSearch_5 : decode cL_isSearch 5 = .ok (.invokestatic 202, 3) := by decide +kernel
theorem dL_isSearch_8 : decode cL_isSearch 8 = .ok (.iadd, 1) := by decide +kernel
theorem dL_isSearch_9 : decode cL_isSearch 9 = .ok (.i2c, 1) := by decide +kernel
theorem dL_isSearch_10 : decode cL_isSearch 10 = .ok (.istore_n 3, 1) := by decide +kernel
theorem dL_isSearch_11 : decode cL_isSearch 11 = .ok (.bipush 97, 2) := by decide +kernel
theorem dL_isSearch_13 : decode cL_isSearch 13 = .ok (.aload_n 1, 1) := by decide +kernel
theorem dL_isSearch_14 : decode cL_isSearch 14 = .ok (.iload_n 2, 1) := by decide +kernel
theorem dL_isSearch_15 : decode cL_isSearch 15 = .ok (.iconst 1, 1) := by decide +kernel
theorem dL_isSearch_16 : decode cL_isSearch 16 = .ok (.iadd, 1) := by decide +kernel
theorem dL_isSearch_17 : decode cL_isSearch 17 = .ok (.bipush 8, 2) := by decide +kernel
theorem dL_isSearch_19 : decode cL_isSearch 19 = .ok (.invokestatic 202, 3) := by decide +kernel
theorem dL_isSearch_22 : decode cL_isSearch 22 = .ok (.iadd, 1) := by decide +kernel
theorem dL_isSearch_23 : decode cL_isSearch 23 = .ok (.i2c, 1) := by decide +kernel
theorem dL_isSearch_24 : decode cL_isSearch 24 = .ok (.istore 4, 2) := by decide +kernel
theorem dL_isSearch_26 : decode cL_isSearch 26 = .ok (.aload_n 0, 1) := by decide +kernel
theorem dL_isSearch_27 : decode cL_isSearch 27 = .ok (.new 284, 3) := by decide +kernel
theorem dL_isSearch_30 : decode cL_isSearch 30 = .ok (.dup, 1) := by decide +kernel
theorem dL_isSearch_31 : decode cL_isSearch 31 = .ok (.invokespecial 286, 3) := by decide +kernel
theorem dL_isSearch_34 : decode cL_isSearch 34 = .ok (.ldc_w 342, 3) := by decide +kernel
theorem dL_isSearch_37 : decode cL_isSearch 37 = .ok (.invokevirtual 289, 3) := by decide +kernel
theorem dL_isSearch_40 : decode cL_isSearch 40 = .ok (.iload_n 3, 1) := by decide +kernel
theorem dL_isSearch_41 : decode cL_isSearch 41 = .ok (.invokevirtual 306, 3) := by decide +kernel
theorem dL_isSearch_44 : decode cL_isSearch 44 = .ok (.invokevirtual 300, 3) := by decide +kernel
theorem dL_isSearch_47 : decode cL_isSearch 47 = .ok (.invokestatic 344, 3) := by decide +kernel
theorem dL_isSearch_50 : decode cL_isSearch 50 = .ok (.istore 5, 2) := by decide +kernel
theorem dL_isSearch_52 : decode cL_isSearch 52 = .ok (.aload_n 0, 1) := by decide +kernel
theorem dL_isSearch_53 : decode cL_isSearch 53 = .ok (.new 284, 3) := by decide +kernel
theorem dL_isSearch_56 : decode cL_isSearch 56 = .ok (.dup, 1) := by decide +kernel
theorem dL_isSearch_57 : decode cL_isSearch 57 = .ok (.invokespecial 286, 3) := by decide +kernel
theorem dL_isSearch_60 : decode cL_isSearch 60 = .ok (.ldc_w 342, 3) := by decide +kernel
theorem dL_isSearch_63 : decode cL_isSearch 63 = .ok (.invokevirtual 289, 3) := by decide +kernel
theorem dL_isSearch_66 : decode cL_isSearch 66 = .ok (.iload 4, 2) := by decide +kernel
theorem dL_isSearch_68 : decode cL_isSearch 68 = .ok (.invokevirtual 306, 3) := by decide +kernel
theorem dL_isSearch_71 : decode cL_isSearch 71 = .ok (.invokevirtual 300, 3) := by decide +kernel
theorem dL_isSearch_74 : decode cL_isSearch 74 = .ok (.invokestatic 344, 3) := by decide +kernel
theorem dL_isSearch_77 : decode cL_isSearch 77 = .ok (.istore 6, 2) := by decide +kernel
theorem dL_isSearch_79 : decode cL_isSearch 79 = .ok (.aload_n 0, 1) := by decide +kernel
theorem dL_isSearch_80 : decode cL_isSearch 80 = .ok (.new 284, 3) := by decide +kernel
theorem dL_isSearch_83 : decode cL_isSearch 83 = .ok (.dup, 1) := by decide +kernel
theorem dL_isSearch_84 : decode cL_isSearch 84 = .ok (.invokespecial 286, 3) := by decide +kernel
theorem dL_isSearch_87 : decode cL_isSearch 87 = .ok (.ldc_w 342, 3) := by decide +kernel
theorem dL_isSearch_90 : decode cL_isSearch 90 = .ok (.invokevirtual 289, 3) := by decide +kernel
theorem dL_isSearch_93 : decode cL_isSearch 93 = .ok (.iload_n 3, 1) := by decide +kernel
theorem dL_isSearch_94 : decode cL_isSearch 94 = .ok (.invokevirtual 306, 3) := by decide +kernel
theorem dL_isSearch_97 : decode cL_isSearch 97 = .ok (.iload 4, 2) := by decide +kernel
theorem dL_isSearch_99 : decode cL_isSearch 99 = .ok (.invokevirtual 306, 3) := by decide +kernel
theorem dL_isSearch_102 : decode cL_isSearch 102 = .ok (.invokevirtual 300, 3) := by decide +kernel
theorem dL_isSearch_105 : decode cL_isSearch 105 = .ok (.invokestatic 344, 3) := by decide +kernel
theorem dL_isSearch_108 : decode cL_isSearch 108 = .ok (.istore 7, 2) := by decide +kernel
theorem dL_isSearch_110 : decode cL_isSearch 110 = .ok (.aload_n 0, 1) := by decide +kernel
theorem dL_isSearch_111 : decode cL_isSearch 111 = .ok (.invokevirtual 206, 3) := by decide +kernel
theorem dL_isSearch_114 : decode cL_isSearch 114 = .ok (.istore 8, 2) := by decide +kernel
theorem dL_isSearch_116 : decode cL_isSearch 116 = .ok (.iload 5, 2) := by decide +kernel
theorem dL_isSearch_118 : decode cL_isSearch 118 = .ok (.aload_n 0, 1) := by decide +kernel
theorem dL_isSearch_119 : decode cL_isSearch 119 = .ok (.iload_n 3, 1) := by decide +kernel
theorem dL_isSearch_120 : decode cL_isSearch 120 = .ok (.invokestatic 347, 3) := by decide +kernel
theorem dL_isSearch_123 : decode cL_isSearch 123 = .ok (.if_icmp .ne 182, 3) := by decide +kernel
theorem dL_isSearch_126 : decode cL_isSearch 126 = .ok (.iload 6, 2) := by decide +kernel
theorem dL_isSearch_128 : decode cL_isSearch 128 = .ok (.aload_n 0, 1) := by decide +kernel
theorem dL_isSearch_129 : decode cL_isSearch 129 = .ok (.iload 4, 2) := by decide +kernel
theorem dL_isSearch_131 : decode cL_isSearch 131 = .ok (.invokestatic 347, 3) := by decide +kernel
theorem dL_isSearch_134 : decode cL_isSearch 134 = .ok (.if_icmp .ne 171, 3) := by decide +kernel
theorem dL_isSearch_137 : decode cL_isSearch 137 = .ok (.aload_n 0, 1) := by decide +kernel
theorem dL_isSearch_138 : decode cL_isSearch 138 = .ok (.new 284, 3) := by decide +kernel
theorem dL_isSearch_141 : decode cL_isSearch 141 = .ok (.dup, 1) := by decide +kernel
theorem dL_isSearch_142 : decode cL_isSearch 142 = .ok (.invokespecial 286, 3) := by decide +kernel
theorem dL_isSearch_145 : decode cL_isSearch 145 = .ok (.iload_n 3, 1) := by decide +kernel
theorem dL_isSearch_146 : decode cL_isSearch 146 = .ok (.invokevirtual 306, 3) := by decide +kernel
theorem dL_isSearch_149 : decode cL_isSearch 149 = .ok (.ldc_w 349, 3) := by decide +kernel
theorem dL_isSearch_152 : decode cL_isSearch 152 = .ok (.invokevirtual 289, 3) := by decide +kernel
theorem dL_isSearch_155 : decode cL_isSearch 155 = .ok (.iload 4, 2) := by decide +kernel
theorem dL_isSearch_157 : decode cL_isSearch 157 = .ok (.invokevirtual 306, 3) := by decide +kernel
theorem dL_isSearch_160 : decode cL_isSearch 160 = .ok (.invokevirtual 300, 3) := by decide +kernel
theorem dL_isSearch_163 : decode cL_isSearch 163 = .ok (.invokestatic 344, 3) := by decide +kernel
theorem dL_isSearch_166 : decode cL_isSearch 166 = .ok (.iload 5, 2) := by decide +kernel
theorem dL_isSearch_168 : decode cL_isSearch 168 = .ok (.iload 6, 2) := by decide +kernel
theorem dL_isSearch_170 : decode cL_isSearch 170 = .ok (.iadd, 1) := by decide +kernel
theorem dL_isSearch_171 : decode cL_isSearch 171 = .ok (.iload 7, 2) := by decide +kernel
theorem dL_isSearch_173 : decode cL_isSearch 173 = .ok (.isub, 1) := by decide +kernel
theorem dL_isSearch_174 : decode cL_isSearch 174 = .ok (.if_icmp .ne 131, 3) := by decide +kernel
theorem dL_isSearch_177 : decode cL_isSearch 177 = .ok (.aload_n 0, 1) := by decide +kernel
theorem dL_isSearch_178 : decode cL_isSearch 178 = .ok (.new 284, 3) := by decide +kernel
theorem dL_isSearch_181 : decode cL_isSearch 181 = .ok (.dup, 1) := by decide +kernel
theorem dL_isSearch_182 : decode cL_isSearch 182 = .ok (.invokespecial 286, 3) := by decide +kernel
theorem dL_isSearch_185 : decode cL_isSearch 185 = .ok (.ldc_w 351, 3) := by decide +kernel
theorem dL_isSearch_188 : decode cL_isSearch 188 = .ok (.invokevirtual 289, 3) := by decide +kernel
theorem dL_isSearch_191 : decode cL_isSearch 191 = .ok (.iload_n 3, 1) := by decide +kernel
theorem dL_isSearch_192 : decode cL_isSearch 192 = .ok (.invokevirtual 306, 3) := by decide +kernel
theorem dL_isSearch_195 : decode cL_isSearch 195 = .ok (.invokevirtual 300, 3) := by decide +kernel
theorem dL_isSearch_198 : decode cL_isSearch 198 = .ok (.invokestatic 344, 3) := by decide +kernel
theorem dL_isSearch_201 : decode cL_isSearch 201 = .ok (.iload 8, 2) := by decide +kernel
theorem dL_isSearch_203 : decode cL_isSearch 203 = .ok (.iload 5, 2) := by decide +kernel
theorem dL_isSearch_205 : decode cL_isSearch 205 = .ok (.isub, 1) := by decide +kernel
theorem dL_isSearch_206 : decode cL_isSearch 206 = .ok (.if_icmp .ne 99, 3) := by decide +kernel
theorem dL_isSearch_209 : decode cL_isSearch 209 = .ok (.aload_n 0, 1) := by decide +kernel
theorem dL_isSearch_210 : decode cL_isSearch 210 = .ok (.new 284, 3) := by decide +kernel
theorem dL_isSearch_213 : decode cL_isSearch 213 = .ok (.dup, 1) := by decide +kernel
theorem dL_isSearch_214 : decode cL_isSearch 214 = .ok (.invokespecial 286, 3) := by decide +kernel
theorem dL_isSearch_217 : decode cL_isSearch 217 = .ok (.ldc_w 353, 3) := by decide +kernel
theorem dL_isSearch_220 : decode cL_isSearch 220 = .ok (.invokevirtual 289, 3) := by decide +kernel
theorem dL_isSearch_223 : decode cL_isSearch 223 = .ok (.iload_n 3, 1) := by decide +kernel
theorem dL_isSearch_224 : decode cL_isSearch 224 = .ok (.invokevirtual 306, 3) := by decide +kernel
theorem dL_isSearch_227 : decode cL_isSearch 227 = .ok (.ldc_w 349, 3) := by decide +kernel
theorem dL_isSearch_230 : decode cL_isSearch 230 = .ok (.invokevirtual 289, 3) := by decide +kernel
theorem dL_isSearch_233 : decode cL_isSearch 233 = .ok (.iload 4, 2) := by decide +kernel
theorem dL_isSearch_235 : decode cL_isSearch 235 = .ok (.invokevirtual 306, 3) := by decide +kernel
theorem dL_isSearch_238 : decode cL_isSearch 238 = .ok (.ldc_w 355, 3) := by decide +kernel
theorem dL_isSearch_241 : decode cL_isSearch 241 = .ok (.invokevirtual 289, 3) := by decide +kernel
theorem dL_isSearch_244 : decode cL_isSearch 244 = .ok (.invokevirtual 300, 3) := by decide +kernel
theorem dL_isSearch_247 : decode cL_isSearch 247 = .ok (.invokestatic 344, 3) := by decide +kernel
theorem dL_isSearch_250 : decode cL_isSearch 250 = .ok (.iload 8, 2) := by decide +kernel
theorem dL_isSearch_252 : decode cL_isSearch 252 = .ok (.iload 5, 2) := by decide +kernel
theorem dL_isSearch_254 : decode cL_isSearch 254 = .ok (.isub, 1) := by decide +kernel
theorem dL_isSearch_255 : decode cL_isSearch 255 = .ok (.iload 6, 2) := by decide +kernel
theorem dL_isSearch_257 : decode cL_isSearch 257 = .ok (.isub, 1) := by decide +kernel
theorem dL_isSearch_258 : decode cL_isSearch 258 = .ok (.iload 7, 2) := by decide +kernel
theorem dL_isSearch_260 : decode cL_isSearch 260 = .ok (.iadd, 1) := by decide +kernel
theorem dL_isSearch_261 : decode cL_isSearch 261 = .ok (.if_icmp .ne 44, 3) := by decide +kernel
theorem dL_isSearch_264 : decode cL_isSearch 264 = .ok (.aload_n 0, 1) := by decide +kernel
theorem dL_isSearch_265 : decode cL_isSearch 265 = .ok (.new 284, 3) := by decide +kernel
theorem dL_isSearch_268 : decode cL_isSearch 268 = .ok (.dup, 1) := by decide +kernel
theorem dL_isSearch_269 : decode cL_isSearch 269 = .ok (.invokespecial 286, 3) := by decide +kernel
theorem dL_isSearch_272 : decode cL_isSearch 272 = .ok (.iload_n 3, 1) := by decide +kernel
theorem dL_isSearch_273 : decode cL_isSearch 273 = .ok (.invokevirtual 306, 3) := by decide +kernel
theorem dL_isSearch_276 : decode cL_isSearch 276 = .ok (.ldc_w 351, 3) := by decide +kernel
theorem dL_isSearch_279 : decode cL_isSearch 279 = .ok (.invokevirtual 289, 3) := by decide +kernel
theorem dL_isSearch_282 : decode cL_isSearch 282 = .ok (.iload 4, 2) := by decide +kernel
theorem dL_isSearch_284 : decode cL_isSearch 284 = .ok (.invokevirtual 306, 3) := by decide +kernel
theorem dL_isSearch_287 : decode cL_isSearch 287 = .ok (.invokevirtual 300, 3) := by decide +kernel
theorem dL_isSearch_290 : decode cL_isSearch 290 = .ok (.invokestatic 344, 3) := by decide +kernel
theorem dL_isSearch_293 : decode cL_isSearch 293 = .ok (.iload 5, 2) := by decide +kernel
theorem dL_isSearch_295 : decode cL_isSearch 295 = .ok (.iload 7, 2) := by decide +kernel
theorem dL_isSearch_297 : decode cL_isSearch 297 = .ok (.isub, 1) := by decide +kernel
theorem dL_isSearch_298 : decode cL_isSearch 298 = .ok (.if_icmp .ne 7, 3) := by decide +kernel
theorem dL_isSearch_301 : decode cL_isSearch 301 = .ok (.iconst 1, 1) := by decide +kernel
theorem dL_isSearch_302 : decode cL_isSearch 302 = .ok (.goto 4, 3) := by decide +kernel
theorem dL_isSearch_305 : decode cL_isSearch 305 = .ok (.iconst 0, 1) := by decide +kernel
theorem dL_isSearch_306 : decode cL_isSearch 306 = .ok (.istore 9, 2) := by decide +kernel
theorem dL_isSearch_308 : decode cL_isSearch 308 = .ok (.aload_n 0, 1) := by decide +kernel
theorem dL_isSearch_309 : decode cL_isSearch 309 = .ok (.new 284, 3) := by decide +kernel
theorem dL_isSearch_312 : decode cL_isSearch 312 = .ok (.dup, 1) := by decide +kernel
theorem dL_isSearch_313 : decode cL_isSearch 313 = .ok (.invokespecial 286, 3) := by decide +kernel
theorem dL_isSearch_316 : decode cL_isSearch 316 = .ok (.ldc_w 357, 3) := by decide +kernel
theorem dL_isSearch_319 : decode cL_isSearch 319 = .ok (.invokevirtual 289, 3) := by decide +kernel
theorem dL_isSearch_322 : decode cL_isSearch 322 = .ok (.iload_n 3, 1) := by decide +kernel
theorem dL_isSearch_323 : decode cL_isSearch 323 = .ok (.invokevirtual 306, 3) := by decide +kernel
theorem dL_isSearch_326 : decode cL_isSearch 326 = .ok (.ldc_w 359, 3) := by decide +kernel
theorem dL_isSearch_329 : decode cL_isSearch 329 = .ok (.invokevirtual 289, 3) := by decide +kernel
theorem dL_isSearch_332 : decode cL_isSearch 332 = .ok (.iload 4, 2) := by decide +kernel
theorem dL_isSearch_334 : decode cL_isSearch 334 = .ok (.invokevirtual 306, 3) := by decide +kernel
theorem dL_isSearch_337 : decode cL_isSearch 337 = .ok (.ldc_w 355, 3) := by decide +kernel
theorem dL_isSearch_340 : decode cL_isSearch 340 = .ok (.invokevirtual 289, 3) := by decide +kernel
theorem dL_isSearch_343 : decode cL_isSearch 343 = .ok (.invokevirtual 300, 3) := by decide +kernel
theorem dL_isSearch_346 : decode cL_isSearch 346 = .ok (.invokestatic 173, 3) := by decide +kernel
theorem dL_isSearch_349 : decode cL_isSearch 349 = .ok (.iconst 0, 1) := by decide +kernel
theorem dL_isSearch_350 : decode cL_isSearch 350 = .ok (.istore 10, 2) := by decide +kernel
theorem dL_isSearch_352 : decode cL_isSearch 352 = .ok (.iload 10, 2) := by decide +kernel
theorem dL_isSearch_354 : decode cL_isSearch 354 = .ok (.iload 8, 2) := by decide +kernel
theorem dL_isSearch_356 : decode cL_isSearch 356 = .ok (.if_icmp .ge 64, 3) := by decide +kernel
theorem dL_isSearch_359 : decode cL_isSearch 359 = .ok (.iload 9, 2) := by decide +kernel
theorem dL_isSearch_361 : decode cL_isSearch 361 = .ok (.aload_n 0, 1) := by decide +kernel
theorem dL_isSearch_362 : decode cL_isSearch 362 = .ok (.iload 10, 2) := by decide +kernel
theorem dL_isSearch_364 : decode cL_isSearch 364 = .ok (.invokestatic 361, 3) := by decide +kernel
theorem dL_isSearch_367 : decode cL_isSearch 367 = .ok (.iconst 1, 1) := by decide +kernel
theorem dL_isSearch_368 : decode cL_isSearch 368 = .ok (.if_icmp .ne 7, 3) := by decide +kernel
theorem dL_isSearch_371 : decode cL_isSearch 371 = .ok (.iconst 1, 1) := by decide +kernel
theorem dL_isSearch_372 : decode cL_isSearch 372 = .ok (.goto 4, 3) := by decide +kernel
theorem dL_isSearch_375 : decode cL_isSearch 375 = .ok (.iconst 0, 1) := by decide +kernel
theorem dL_isSearch_376 : decode cL_isSearch 376 = .ok (.aload_n 0, 1) := by decide +kernel
theorem dL_isSearch_377 : decode cL_isSearch 377 = .ok (.iload 10, 2) := by decide +kernel
theorem dL_isSearch_379 : decode cL_isSearch 379 = .ok (.iload_n 3, 1) := by decide +kernel
theorem dL_isSearch_380 : decode cL_isSearch 380 = .ok (.invokestatic 326, 3) := by decide +kernel
theorem dL_isSearch_383 : decode cL_isSearch 383 = .ok (.iconst 1, 1) := by decide +kernel
theorem dL_isSearch_384 : decode cL_isSearch 384 = .ok (.if_icmp .eq 14, 3) := by decide +kernel
theorem dL_isSearch_387 : decode cL_isSearch 387 = .ok (.aload_n 0, 1) := by decide +kernel
theorem dL_isSearch_388 : decode cL_isSearch 388 = .ok (.iload 10, 2) := by decide +kernel
theorem dL_isSearch_390 : decode cL_isSearch 390 = .ok (.iload 4, 2) := by decide +kernel
theorem dL_isSearch_392 : decode cL_isSearch 392 = .ok (.invokestatic 326, 3) := by decide +kernel
theorem dL_isSearch_395 : decode cL_isSearch 395 = .ok (.ifCond .ne 7, 3) := by decide +kernel
theorem dL_isSearch_398 : decode cL_isSearch 398 = .ok (.iconst 1, 1) := by decide +kernel
theorem dL_isSearch_399 : decode cL_isSearch 399 = .ok (.goto 4, 3) := by decide +kernel
theorem dL_isSearch_402 : decode cL_isSearch 402 = .ok (.iconst 0, 1) := by decide +kernel
theorem dL_isSearch_403 : decode cL_isSearch 403 = .ok (.if_icmp .ne 7, 3) := by decide +kernel
theorem dL_isSearch_406 : decode cL_isSearch 406 = .ok (.iconst 1, 1) := by decide +kernel
theorem dL_isSearch_407 : decode cL_isSearch 407 = .ok (.goto 4, 3) := by decide +kernel
theorem dL_isSearch_410 : decode cL_isSearch 410 = .ok (.iconst 0, 1) := by decide +kernel
theorem dL_isSearch_411 : decode cL_isSearch 411 = .ok (.iand, 1) := by decide +kernel
theorem dL_isSearch_412 : decode cL_isSearch 412 = .ok (.istore 9, 2) := by decide +kernel
theorem dL_isSearch_414 : decode cL_isSearch 414 = .ok (.iinc 10 1, 3) := by decide +kernel
theorem dL_isSearch_417 : decode cL_isSearch 417 = .ok (.goto (-65), 3) := by decide +kernel
theorem dL_isSearch_420 : decode cL_isSearch 420 = .ok (.iload 9, 2) := by decide +kernel
theorem dL_isSearch_422 : decode cL_isSearch 422 = .ok (.ifCond .eq 16, 3) := by decide +kernel
theorem dL_isSearch_425 : decode cL_isSearch 425 = .ok (.aload_n 0, 1) := by decide +kernel
theorem dL_isSearch_426 : decode cL_isSearch 426 = .ok (.invokevirtual 182, 3) := by decide +kernel
theorem dL_isSearch_429 : decode cL_isSearch 429 = .ok (.bipush 6, 2) := by decide +kernel
theorem dL_isSearch_431 : decode cL_isSearch 431 = .ok (.if_icmp .ne 7, 3) := by decide +kernel
theorem dL_isSearch_434 : decode cL_isSearch 434 = .ok (.iconst 1, 1) := by decide +kernel
theorem dL_isSearch_435 : decode cL_isSearch 435 = .ok (.goto 4, 3) := by decide +kernel
theorem dL_isSearch_438 : decode cL_isSearch 438 = .ok (.iconst 0, 1) := by decide +kernel
theorem dL_isSearch_439 : decode cL_isSearch 439 = .ok (.ireturn, 1) := by decide +kernel
def f_L_isSearch_439 (sc : Nat × (Nat → Int32)) (u0 : Int32) (w : XW) : Option (Int32 × XW) := (if vp_nar .boolean u0 = u0 then (some (u0, w)) else none)
set_option maxRecDepth 100000 in
theorem S_L_isSearch_439 {g : GC} (hl : g.1.stackTraces = false) : ∀ (u0 : Int32) (w : XW) (kc ks : Nat), kc + 0 ≤ 439 → ks + 0 ≤ 2762 → VE g cL_isSearch 11 RL (some .boolean) [] (rmL 34 439 2762) 439 2762 oI kc ks 439 [] [.int u0] w (f_L_isSearch_439 (scG g)  u0 w) := by
  intro u0 w kc ks hk hks
  unfold f_L_isSearch_439
  refine v_guard (fun h37 => ?_)
  exact v_zret dL_isSearch_439 rfl (narB_ok h37) rfl (by omega) (by omega)
def f_L_isSearch_438 (sc : Nat × (Nat → Int32)) (w : XW) : Option (Int32 × XW) := (f_L_isSearch_439 sc 0 w)
set_option maxRecDepth 100000 in
theorem S_L_isSearch_438 {g : GC} (hl : g.1.stackTraces = false) : ∀ (w : XW) (kc ks : Nat), kc + 0 ≤ 439 → ks + 0 ≤ 2762 → VE g cL_isSearch 11 RL (some .boolean) [] (rmL 34 439 2762) 439 2762 oI kc ks 438 [] [] w (f_L_isSearch_438 (scG g)   w) := by
  intro  w kc ks hk hks
  unfold f_L_isSearch_438
  refine v_iconst (v := 0) dL_isSearch_438 (by decide) ?_
  refine v_sub [] rfl ?_
  exact S_L_isSearch_439 hl _ _ _ _ (by omega) (by omega)
def f_L_isSearch_411 (sc : Nat × (Nat → Int32)) (K352 : Int32 → Int32 → XW → Option (Int32 × XW)) (y3 : Int32) (y4 : Int32) (y8 : Int32) (z10 : Int32) (u0 : Int32) (u1 : Int32) (w : XW) : Option (Int32 × XW) := (K352 (u1 &&& u0) (z10 + 1) w)
set_option maxRecDepth 100000 in
theorem S_L_isSearch_411 {g : GC} (hl : g.1.stackTraces = false) {y3 : Int32} {y4 : Int32} {y8 : Int32} {B Bs : Nat} (hB : B ≤ 439) (hBs : Bs ≤ 2762) {K352 : Int32 → Int32 → XW → Option (Int32 × XW)} (hK352 : ∀ (z9 : Int32) (z10 : Int32) (w : XW) (kc ks : Nat), kc ≤ B → ks ≤ Bs → VE g cL_isSearch 11 RL (some .boolean) [] (rmL 34 439 2762) 439 2762 oI kc ks 352 [(0, .ref (g.2.1 + 0)), (3, .int y3), (4, .int y4), (8, .int y8), (9, .int z9), (10, .int z10)] [] w (K352 z9 z10 w)) : ∀ (z10 : Int32) (u0 : Int32) (u1 : Int32) (w : XW) (kc ks : Nat), kc + 0 ≤ B → ks + 0 ≤ Bs → VE g cL_isSearch 11 RL (some .boolean) [] (rmL 34 439 2762) 439 2762 oI kc ks 411 [(0, .ref (g.2.1 + 0)), (3, .int y3), (4, .int y4), (8, .int y8), (10, .int z10)] [.int u0, .int u1] w (f_L_isSearch_411 (scG g) K352 y3 y4 y8 z10 u0 u1 w) := by
  intro z10 u0 u1 w kc ks hk hks
  unfold f_L_isSearch_411
  refine v_iand dL_isSearch_411 ?_
  refine v_istore dL_isSearch_412 (Nat.le_of_ble_eq_true rfl) rfl ?_
  refine v_iinc (v := (z10 + 1)) dL_isSearch_414 (q := 5) rfl rfl (Nat.le_of_ble_eq_true rfl) rfl ?_
  refine v_goto (tgt := 352) dL_isSearch_417 (by decide) ?_
  refine v_sub [2, 3, 4, 5, 1, 0] rfl ?_
  exact hK352 _ _ _ _ _ (by omega) (by omega)
def f_L_isSearch_403 (sc : Nat × (Nat → Int32)) (K352 : Int32 → Int32 → XW → Option (Int32 × XW)) (y3 : Int32) (y4 : Int32) (y8 : Int32) (z10 : Int32) (u0 : Int32) (u1 : Int32) (u2 : Int32) (w : XW) : Option (Int32 × XW) := (if u1 = u0 then (f_L_isSearch_411 sc K352 y3 y4 y8 z10 1 u2 w) else (f_L_isSearch_411 sc K352 y3 y4 y8 z10 0 u2 w))
set_option maxRecDepth 100000 in
theorem S_L_isSearch_403 {g : GC} (hl : g.1.stackTraces = false) {y3 : Int32} {y4 : Int32} {y8 : Int32} {B Bs : Nat} (hB : B ≤ 439) (hBs : Bs ≤ 2762) {K352 : Int32 → Int32 → XW → Option (Int32 × XW)} (hK352 : ∀ (z9 : Int32) (z10 : Int32) (w : XW) (kc ks : Nat), kc ≤ B → ks ≤ Bs → VE g cL_isSearch 11 RL (some .boolean) [] (rmL 34 439 2762) 439 2762 oI kc ks 352 [(0, .ref (g.2.1 + 0)), (3, .int y3), (4, .int y4), (8, .int y8), (9, .int z9), (10, .int z10)] [] w (K352 z9 z10 w)) : ∀ (z10 : Int32) (u0 : Int32) (u1 : Int32) (u2 : Int32) (w : XW) (kc ks : Nat), kc + 0 ≤ B → ks + 0 ≤ Bs → VE g cL_isSearch 11 RL (some .boolean) [] (rmL 34 439 2762) 439 2762 oI kc ks 403 [(0, .ref (g.2.1 + 0)), (3, .int y3), (4, .int y4), (8, .int y8), (10, .int z10)] [.int u0, .int u1, .int u2] w (f_L_isSearch_403 (scG g) K352 y3 y4 y8 z10 u0 u1 u2 w) := by
  intro z10 u0 u1 u2 w kc ks hk hks
  unfold f_L_isSearch_403
  refine v_icmp_ne (tgt := 410) dL_isSearch_403 (by decide) ?_ ?_
  · refine v_iconst (v := 0) dL_isSearch_410 (by decide) ?_
    refine v_sub [0, 1, 2, 3, 4] rfl ?_
    exact S_L_isSearch_411 hl hB hBs hK352 _ _ _ _ _ _ (by omega) (by omega)
  · refine v_iconst (v := 1) dL_isSearch_406 (by decide) ?_
    refine v_goto (tgt := 411) dL_isSearch_407 (by decide) ?_
    refine v_sub [0, 1, 2, 3, 4] rfl ?_
    exact S_L_isSearch_411 hl hB hBs hK352 _ _ _ _ _ _ (by omega) (by omega)
def f_L_isSearch_398 (sc : Nat × (Nat → Int32)) (K352 : Int32 → Int32 → XW → Option (Int32 × XW)) (y3 : Int32) (y4 : Int32) (y8 : Int32) (z10 : Int32) (u0 : Int32) (u1 : Int32) (w : XW) : Option (Int32 × XW) := (f_L_isSearch_403 sc K352 y3 y4 y8 z10 1 u0 u1 w)
set_option maxRecDepth 100000 in
theorem S_L_isSearch_398 {g : GC} (hl : g.1.stackTraces = false) {y3 : Int32} {y4 : Int32} {y8 : Int32} {B Bs : Nat} (hB : B ≤ 439) (hBs : Bs ≤ 2762) {K352 : Int32 → Int32 → XW → Option (Int32 × XW)} (hK352 : ∀ (z9 : Int32) (z10 : Int32) (w : XW) (kc ks : Nat), kc ≤ B → ks ≤ Bs → VE g cL_isSearch 11 RL (some .boolean) [] (rmL 34 439 2762) 439 2762 oI kc ks 352 [(0, .ref (g.2.1 + 0)), (3, .int y3), (4, .int y4), (8, .int y8), (9, .int z9), (10, .int z10)] [] w (K352 z9 z10 w)) : ∀ (z10 : Int32) (u0 : Int32) (u1 : Int32) (w : XW) (kc ks : Nat), kc + 0 ≤ B → ks + 0 ≤ Bs → VE g cL_isSearch 11 RL (some .boolean) [] (rmL 34 439 2762) 439 2762 oI kc ks 398 [(0, .ref (g.2.1 + 0)), (3, .int y3), (4, .int y4), (8, .int y8), (10, .int z10)] [.int u0, .int u1] w (f_L_isSearch_398 (scG g) K352 y3 y4 y8 z10 u0 u1 w) := by
  intro z10 u0 u1 w kc ks hk hks
  unfold f_L_isSearch_398
  refine v_iconst (v := 1) dL_isSearch_398 (by decide) ?_
  refine v_goto (tgt := 403) dL_isSearch_399 (by decide) ?_
  refine v_sub [0, 1, 2, 3, 4] rfl ?_
  exact S_L_isSearch_403 hl hB hBs hK352 _ _ _ _ _ _ _ (by omega) (by omega)
def f_L_isSearch_376 (sc : Nat × (Nat → Int32)) (K352 : Int32 → Int32 → XW → Option (Int32 × XW)) (y3 : Int32) (y4 : Int32) (y8 : Int32) (z10 : Int32) (u0 : Int32) (u1 : Int32) (w : XW) : Option (Int32 × XW) := (bI (f_L_hasTerm z10 y3 w) (fun r38 w38 => (if r38 = 1 then (f_L_isSearch_398 sc K352 y3 y4 y8 z10 u0 u1 w38) else (bI (f_L_hasTerm z10 y4 w38) (fun r39 w39 => (if r39 = 0 then (f_L_isSearch_398 sc K352 y3 y4 y8 z10 u0 u1 w39) else (f_L_isSearch_403 sc K352 y3 y4 y8 z10 0 u0 u1 w39)))))))
set_option maxRecDepth 100000 in
theorem S_L_isSearch_376 {g : GC} (hl : g.1.stackTraces = false) {y3 : Int32} {y4 : Int32} {y8 : Int32} {B Bs : Nat} (hB : B ≤ 439) (hBs : Bs ≤ 2762) {K352 : Int32 → Int32 → XW → Option (Int32 × XW)} (hK352 : ∀ (z9 : Int32) (z10 : Int32) (w : XW) (kc ks : Nat), kc ≤ B → ks ≤ Bs → VE g cL_isSearch 11 RL (some .boolean) [] (rmL 34 439 2762) 439 2762 oI kc ks 352 [(0, .ref (g.2.1 + 0)), (3, .int y3), (4, .int y4), (8, .int y8), (9, .int z9), (10, .int z10)] [] w (K352 z9 z10 w)) : ∀ (z10 : Int32) (u0 : Int32) (u1 : Int32) (w : XW) (kc ks : Nat), kc + 4 ≤ B → ks + 24 ≤ Bs → VE g cL_isSearch 11 RL (some .boolean) [] (rmL 34 439 2762) 439 2762 oI kc ks 376 [(0, .ref (g.2.1 + 0)), (3, .int y3), (4, .int y4), (8, .int y8), (10, .int z10)] [.int u0, .int u1] w (f_L_isSearch_376 (scG g) K352 y3 y4 y8 z10 u0 u1 w) := by
  intro z10 u0 u1 w kc ks hk hks
  unfold f_L_isSearch_376
  refine v_aload_n dL_isSearch_376 rfl 0 rfl ?_
  refine v_iload dL_isSearch_377 4 rfl ?_
  refine v_iload_n dL_isSearch_379 rfl 1 rfl ?_
  refine v_callSh (As := [.ref (g.2.1 + 0), .int z10, .int y3]) ch_L_326 (S_L_hasTerm hl) rfl rfl (Nat.le_of_ble_eq_true rfl) dL_isSearch_380 (CR_rm (by decide) (by decide) (by omega) (by omega)) (fun r38 w38 => ?_)
  refine v_iconst (v := 1) dL_isSearch_383 (by decide) ?_
  refine v_icmp_eq (tgt := 398) dL_isSearch_384 (by decide) ?_ ?_
  · refine v_sub [0, 1, 2, 3, 4] rfl ?_
    exact S_L_isSearch_398 hl hB hBs hK352 _ _ _ _ _ _ (by omega) (by omega)
  · refine v_aload_n dL_isSearch_387 rfl 0 rfl ?_
    refine v_iload dL_isSearch_388 4 rfl ?_
    refine v_iload dL_isSearch_390 2 rfl ?_
    refine v_callSh (As := [.ref (g.2.1 + 0), .int z10, .int y4]) ch_L_326 (S_L_hasTerm hl) rfl rfl (Nat.le_of_ble_eq_true rfl) dL_isSearch_392 (CR_rm (by decide) (by decide) (by omega) (by omega)) (fun r39 w39 => ?_)
    refine v_if_ne (tgt := 402) dL_isSearch_395 (by decide) ?_ ?_
    · refine v_iconst (v := 0) dL_isSearch_402 (by decide) ?_
      refine v_sub [0, 1, 2, 3, 4] rfl ?_
      exact S_L_isSearch_403 hl hB hBs hK352 _ _ _ _ _ _ _ (by omega) (by omega)
    · refine v_sub [0, 1, 2, 3, 4] rfl ?_
      exact S_L_isSearch_398 hl hB hBs hK352 _ _ _ _ _ _ (by omega) (by omega)
def f_L_isSearch_352 (sc : Nat × (Nat → Int32)) (y3 : Int32) (y4 : Int32) (y8 : Int32) : Nat → Int32 → Int32 → XW → Option (Int32 × XW)
  | 0, _, _, _ => none
  | n + 1, z9, z10, w => (if y8 ≤ z10 then (if z9 = 0 then (f_L_isSearch_438 sc w) else (bI (f_X10_clearText w) (fun r35 w35 => (if r35 = 6 then (f_L_isSearch_439 sc 1 w35) else (f_L_isSearch_438 sc w35))))) else (bI (f_L_matches z10 w) (fun r36 w36 => (if r36 = 1 then (f_L_isSearch_376 sc (fun a0 a1 w9 => f_L_isSearch_352 sc y3 y4 y8 n a0 a1 w9) y3 y4 y8 z10 1 z9 w36) else (f_L_isSearch_376 sc (fun a0 a1 w9 => f_L_isSearch_352 sc y3 y4 y8 n a0 a1 w9) y3 y4 y8 z10 0 z9 w36)))))
set_option maxRecDepth 100000 in
theorem S_L_isSearch_352 {g : GC} (hl : g.1.stackTraces = false) {y3 : Int32} {y4 : Int32} {y8 : Int32} : ∀ (n : Nat) (z9 : Int32) (z10 : Int32) (w : XW) (kc ks : Nat), kc + (6 * n + 6) ≤ 439 → ks + (36 * n + 36) ≤ 2762 → VE g cL_isSearch 11 RL (some .boolean) [] (rmL 34 439 2762) 439 2762 oI kc ks 352 [(0, .ref (g.2.1 + 0)), (3, .int y3), (4, .int y4), (8, .int y8), (9, .int z9), (10, .int z10)] [] w (f_L_isSearch_352 (scG g) y3 y4 y8 n z9 z10 w) := by
  intro n
  induction n with
  | zero => intro z9 z10 w kc ks hk hks; exact v_none
  | succ n ih =>
    intro z9 z10 w kc ks hk hks
    rw [f_L_isSearch_352]
    obtain ⟨b0, hb0⟩ : ∃ b0 : Nat, b0 = 439 - (6 * n + 6) := ⟨_, rfl⟩
    obtain ⟨b1, hb1⟩ : ∃ b1 : Nat, b1 = 2762 - (36 * n + 36) := ⟨_, rfl⟩
    refine v_iload dL_isSearch_352 5 rfl ?_
    refine v_iload dL_isSearch_354 3 rfl ?_
    refine v_icmp_ge (tgt := 420) dL_isSearch_356 (by decide) ?_ ?_
    · refine v_iload dL_isSearch_420 4 rfl ?_
      refine v_if_eq (tgt := 438) dL_isSearch_422 (by decide) ?_ ?_
      · refine v_sub [] rfl ?_
        exact S_L_isSearch_438 hl _ _ _ (by omega) (by omega)
      · refine v_aload_n dL_isSearch_425 rfl 0 rfl ?_
        refine v_callVi (As := []) cv_L_182 (S_X10_clearText hl) tt_0 rfl rfl rfl (Nat.le_of_ble_eq_true rfl) dL_isSearch_426 (CR_rm (by decide) (by decide) (by omega) (by omega)) (fun r35 w35 => ?_)
        refine v_bipush (v := 6) dL_isSearch_429 (by decide) ?_
        refine v_icmp_ne (tgt := 438) dL_isSearch_431 (by decide) ?_ ?_
        · refine v_sub [] rfl ?_
          exact S_L_isSearch_438 hl _ _ _ (by omega) (by omega)
        · refine v_iconst (v := 1) dL_isSearch_434 (by decide) ?_
          refine v_goto (tgt := 439) dL_isSearch_435 (by decide) ?_
          refine v_sub [] rfl ?_
          exact S_L_isSearch_439 hl _ _ _ _ (by omega) (by omega)
    · refine v_iload dL_isSearch_359 4 rfl ?_
      refine v_aload_n dL_isSearch_361 rfl 0 rfl ?_
      refine v_iload dL_isSearch_362 5 rfl ?_
      refine v_callSh (As := [.ref (g.2.1 + 0), .int z10]) ch_L_361 (S_L_matches hl) rfl rfl (Nat.le_of_ble_eq_true rfl) dL_isSearch_364 (CR_rm (by decide) (by decide) (by omega) (by omega)) (fun r36 w36 => ?_)
      refine v_iconst (v := 1) dL_isSearch_367 (by decide) ?_
      refine v_icmp_ne (tgt := 375) dL_isSearch_368 (by decide) ?_ ?_
      · refine v_iconst (v := 0) dL_isSearch_375 (by decide) ?_
        refine v_sub [0, 1, 2, 3, 5] rfl ?_
        exact S_L_isSearch_376 hl (B := b0) (Bs := b1) (by omega) (by omega) (fun a0 a1 a2 kc1 ks1 h1 h2 => ih a0 a1 a2 _ _ (by omega) (by omega)) _ _ _ _ _ _ (by omega) (by omega)
      · refine v_iconst (v := 1) dL_isSearch_371 (by decide) ?_
        refine v_goto (tgt := 376) dL_isSearch_372 (by decide) ?_
        refine v_sub [0, 1, 2, 3, 5] rfl ?_
        exact S_L_isSearch_376 hl (B := b0) (Bs := b1) (by omega) (by omega) (fun a0 a1 a2 kc1 ks1 h1 h2 => ih a0 a1 a2 _ _ (by omega) (by omega)) _ _ _ _ _ _ (by omega) (by omega)
def f_L_isSearch_306 (sc : Nat × (Nat → Int32)) (z3 : Int32) (z4 : Int32) (z8 : Int32) (u0 : Int32) (w : XW) : Option (Int32 × XW) := (if 0 ≤ z3 ∧ z3 ≤ 127 then (if 0 ≤ z4 ∧ z4 ≤ 127 then (bV (f_L_feeds ((((([] ++ (strB 24)) ++ [z3]) ++ (strB 25)) ++ [z4]) ++ (strB 23)) w) (fun w34 => (f_L_isSearch_352 sc z3 z4 z8 12 u0 0 w34))) else none) else none)
set_option maxRecDepth 100000 in
theorem S_L_isSearch_306 {g : GC} (hl : g.1.stackTraces = false) : ∀ (z3 : Int32) (z4 : Int32) (z8 : Int32) (u0 : Int32) (w : XW) (kc ks : Nat), kc + 122 ≤ 439 → ks + 748 ≤ 2762 → VE g cL_isSearch 11 RL (some .boolean) [] (rmL 34 439 2762) 439 2762 oI kc ks 306 [(0, .ref (g.2.1 + 0)), (3, .int z3), (4, .int z4), (8, .int z8)] [.int u0] w (f_L_isSearch_306 (scG g)  z3 z4 z8 u0 w) := by
  intro z3 z4 z8 u0 w kc ks hk hks
  unfold f_L_isSearch_306
  refine v_istore dL_isSearch_306 (Nat.le_of_ble_eq_true rfl) rfl ?_
  refine v_aload_n dL_isSearch_308 rfl 1 rfl ?_
  refine z_new sbnew_L_284 dL_isSearch_309 dL_isSearch_312 dL_isSearch_313 (Nat.le_of_ble_eq_true rfl) (ZR_rm (by decide) (by omega) (by omega)) (fun b31 => ?_)
  refine z_ldcSw (i := 24) rfl dL_isSearch_316 ?_
  refine z_appS (i := 24) sbS_L_289 (by decide) (strB_ok 24 (by decide)) (zn_st (k := 1) (N' := 1) (by decide +kernel) (by decide) (by decide)) (Nat.le_of_ble_eq_true rfl) dL_isSearch_319 (ZR_rm (by decide) (by omega) (by omega)) ?_
  refine z_iload_n dL_isSearch_322 rfl 2 rfl ?_
  refine z_guard (fun h32 => ?_)
  refine z_appC sbC_L_306 h32 (zn_st (k := 1) (N' := 2) (Nat.le_refl 1) (by decide) (by decide)) (Nat.le_of_ble_eq_true rfl) dL_isSearch_323 (ZR_rm (by decide) (by omega) (by omega)) ?_
  refine z_ldcSw (i := 25) rfl dL_isSearch_326 ?_
  refine z_appS (i := 25) sbS_L_289 (by decide) (strB_ok 25 (by decide)) (zn_st (k := 2) (N' := 4) (by decide +kernel) (by decide) (by decide)) (Nat.le_of_ble_eq_true rfl) dL_isSearch_329 (ZR_rm (by decide) (by omega) (by omega)) ?_
  refine z_iload dL_isSearch_332 3 rfl ?_
  refine z_guard (fun h33 => ?_)
  refine z_appC sbC_L_306 h33 (zn_st (k := 1) (N' := 5) (Nat.le_refl 1) (by decide) (by decide)) (Nat.le_of_ble_eq_true rfl) dL_isSearch_334 (ZR_rm (by decide) (by omega) (by omega)) ?_
  refine z_ldcSw (i := 23) rfl dL_isSearch_337 ?_
  refine z_appS (i := 23) sbS_L_289 (by decide) (strB_ok 23 (by decide)) (zn_st (k := 1) (N' := 6) (by decide +kernel) (by decide) (by decide)) (Nat.le_of_ble_eq_true rfl) dL_isSearch_340 (ZR_rm (by decide) (by omega) (by omega)) ?_
  refine z_runv (Fy := fun t => f_L_feeds t w) hl sbT_L_300 cs_L_173 dL_isSearch_343 (fun g1 hl1 => S_L_feeds hl1) (by decide) (Nat.le_of_ble_eq_true rfl) dL_isSearch_346 (ZR_rm (by decide) (by omega) (by omega)) (CR_rm (by decide) (by decide) (by omega) (by omega)) (fun w34 => ?_)
  refine v_iconst (v := 0) dL_isSearch_349 (by decide) ?_
  refine v_istore dL_isSearch_350 (Nat.le_of_ble_eq_true rfl) rfl ?_
  refine v_sub [2, 3, 4, 5, 1, 0] rfl ?_
  exact S_L_isSearch_352 hl _ _ _ _ _ _ (by omega) (by omega)
def f_L_isSearch_305 (sc : Nat × (Nat → Int32)) (z3 : Int32) (z4 : Int32) (z8 : Int32) (w : XW) : Option (Int32 × XW) := (f_L_isSearch_306 sc z3 z4 z8 0 w)
set_option maxRecDepth 100000 in
theorem S_L_isSearch_305 {g : GC} (hl : g.1.stackTraces = false) : ∀ (z3 : Int32) (z4 : Int32) (z8 : Int32) (w : XW) (kc ks : Nat), kc + 122 ≤ 439 → ks + 748 ≤ 2762 → VE g cL_isSearch 11 RL (some .boolean) [] (rmL 34 439 2762) 439 2762 oI kc ks 305 [(0, .ref (g.2.1 + 0)), (3, .int z3), (4, .int z4), (8, .int z8)] [] w (f_L_isSearch_305 (scG g)  z3 z4 z8 w) := by
  intro z3 z4 z8 w kc ks hk hks
  unfold f_L_isSearch_305
  refine v_iconst (v := 0) dL_isSearch_305 (by decide) ?_
  refine v_sub [0, 1, 2, 3] rfl ?_
  exact S_L_isSearch_306 hl _ _ _ _ _ _ _ (by omega) (by omega)
def f_L_isSearch (sc : Nat × (Nat → Int32)) (x2 : Int32) (w : XW) : Option (Int32 × XW) := (bI (f_L_pick sc x2 3 w) (fun r1 w1 => (bI (f_L_pick sc (x2 + 1) 8 w1) (fun r2 w2 => (if 0 ≤ (((Int32.toUInt32 (97 + r1)) % 65536).toInt32) ∧ (((Int32.toUInt32 (97 + r1)) % 65536).toInt32) ≤ 127 then (bI (f_L_finds (([] ++ (strB 19)) ++ [(((Int32.toUInt32 (97 + r1)) % 65536).toInt32)]) w2) (fun r5 w5 => (if 0 ≤ (((Int32.toUInt32 (97 + r2)) % 65536).toInt32) ∧ (((Int32.toUInt32 (97 + r2)) % 65536).toInt32) ≤ 127 then (bI (f_L_finds (([] ++ (strB 19)) ++ [(((Int32.toUInt32 (97 + r2)) % 65536).toInt32)]) w5) (fun r8 w8 => (if 0 ≤ (((Int32.toUInt32 (97 + r1)) % 65536).toInt32) ∧ (((Int32.toUInt32 (97 + r1)) % 65536).toInt32) ≤ 127 then (if 0 ≤ (((Int32.toUInt32 (97 + r2)) % 65536).toInt32) ∧ (((Int32.toUInt32 (97 + r2)) % 65536).toInt32) ≤ 127 then (bI (f_L_finds ((([] ++ (strB 19)) ++ [(((Int32.toUInt32 (97 + r1)) % 65536).toInt32)]) ++ [(((Int32.toUInt32 (97 + r2)) % 65536).toInt32)]) w8) (fun r12 w12 => (bI (f_X10_sectionCount w12) (fun r13 w13 => (bI (f_L_sectionsWith (((Int32.toUInt32 (97 + r1)) % 65536).toInt32) w13) (fun r14 w14 => (if r5 = r14 then (bI (f_L_sectionsWith (((Int32.toUInt32 (97 + r2)) % 65536).toInt32) w14) (fun r15 w15 => (if r8 = r15 then (if 0 ≤ (((Int32.toUInt32 (97 + r1)) % 65536).toInt32) ∧ (((Int32.toUInt32 (97 + r1)) % 65536).toInt32) ≤ 127 then (if 0 ≤ (((Int32.toUInt32 (97 + r2)) % 65536).toInt32) ∧ (((Int32.toUInt32 (97 + r2)) % 65536).toInt32) ≤ 127 then (bI (f_L_finds ((([] ++ [(((Int32.toUInt32 (97 + r1)) % 65536).toInt32)]) ++ (strB 20)) ++ [(((Int32.toUInt32 (97 + r2)) % 65536).toInt32)]) w15) (fun r19 w19 => (if r19 = ((r5 + r8) - r12) then (if 0 ≤ (((Int32.toUInt32 (97 + r1)) % 65536).toInt32) ∧ (((Int32.toUInt32 (97 + r1)) % 65536).toInt32) ≤ 127 then (bI (f_L_finds (([] ++ (strB 21)) ++ [(((Int32.toUInt32 (97 + r1)) % 65536).toInt32)]) w19) (fun r22 w22 => (if r22 = (r13 - r5) then (if 0 ≤ (((Int32.toUInt32 (97 + r1)) % 65536).toInt32) ∧ (((Int32.toUInt32 (97 + r1)) % 65536).toInt32) ≤ 127 then (if 0 ≤ (((Int32.toUInt32 (97 + r2)) % 65536).toInt32) ∧ (((Int32.toUInt32 (97 + r2)) % 65536).toInt32) ≤ 127 then (bI (f_L_finds ((((([] ++ (strB 22)) ++ [(((Int32.toUInt32 (97 + r1)) % 65536).toInt32)]) ++ (strB 20)) ++ [(((Int32.toUInt32 (97 + r2)) % 65536).toInt32)]) ++ (strB 23)) w22) (fun r26 w26 => (if r26 = (((r13 - r5) - r8) + r12) then (if 0 ≤ (((Int32.toUInt32 (97 + r1)) % 65536).toInt32) ∧ (((Int32.toUInt32 (97 + r1)) % 65536).toInt32) ≤ 127 then (if 0 ≤ (((Int32.toUInt32 (97 + r2)) % 65536).toInt32) ∧ (((Int32.toUInt32 (97 + r2)) % 65536).toInt32) ≤ 127 then (bI (f_L_finds ((([] ++ [(((Int32.toUInt32 (97 + r1)) % 65536).toInt32)]) ++ (strB 21)) ++ [(((Int32.toUInt32 (97 + r2)) % 65536).toInt32)]) w26) (fun r30 w30 => (if r30 = (r5 - r12) then (f_L_isSearch_306 sc (((Int32.toUInt32 (97 + r1)) % 65536).toInt32) (((Int32.toUInt32 (97 + r2)) % 65536).toInt32) r13 1 w30) else (f_L_isSearch_305 sc (((Int32.toUInt32 (97 + r1)) % 65536).toInt32) (((Int32.toUInt32 (97 + r2)) % 65536).toInt32) r13 w30)))) else none) else none) else (f_L_isSearch_305 sc (((Int32.toUInt32 (97 + r1)) % 65536).toInt32) (((Int32.toUInt32 (97 + r2)) % 65536).toInt32) r13 w26)))) else none) else none) else (f_L_isSearch_305 sc (((Int32.toUInt32 (97 + r1)) % 65536).toInt32) (((Int32.toUInt32 (97 + r2)) % 65536).toInt32) r13 w22)))) else none) else (f_L_isSearch_305 sc (((Int32.toUInt32 (97 + r1)) % 65536).toInt32) (((Int32.toUInt32 (97 + r2)) % 65536).toInt32) r13 w19)))) else none) else none) else (f_L_isSearch_305 sc (((Int32.toUInt32 (97 + r1)) % 65536).toInt32) (((Int32.toUInt32 (97 + r2)) % 65536).toInt32) r13 w15)))) else (f_L_isSearch_305 sc (((Int32.toUInt32 (97 + r1)) % 65536).toInt32) (((Int32.toUInt32 (97 + r2)) % 65536).toInt32) r13 w14)))))))) else none) else none))) else none))) else none)))))
set_option maxRecDepth 100000 in
theorem W_L_isSearch {g : GC} (hl : g.1.stackTraces = false) {x2 : Int32} {w : XW} : VE g cL_isSearch 11 RL (some .boolean) [] (rmL 34 439 2762) 439 2762 oI 0 0 0 [(0, .ref (g.2.1 + 0)), (1, .ref g.2.2.2.2.2.2.1), (2, .int x2)] [] w (f_L_isSearch (scG g) x2 w) := by
  unfold f_L_isSearch
  refine v_bipush (v := 97) dL_isSearch_0 (by decide) ?_
  refine v_aload_n dL_isSearch_2 rfl 1 rfl ?_
  refine v_iload_n dL_isSearch_3 rfl 2 rfl ?_
  refine v_iconst (v := 3) dL_isSearch_4 (by decide) ?_
  refine v_callSi (As := [.ref g.2.2.2.2.2.2.1, .int x2, .int 3]) cs_L_202 (S_L_pick hl) rfl rfl (Nat.le_of_ble_eq_true rfl) dL_isSearch_5 (CR_rm (by decide) (by decide) (by omega) (by omega)) (fun r1 w1 => ?_)
  refine v_iadd dL_isSearch_8 ?_
  refine v_i2c dL_isSearch_9 ?_
  refine v_istore_n dL_isSearch_10 rfl (Nat.le_of_ble_eq_true rfl) rfl ?_
  refine v_bipush (v := 97) dL_isSearch_11 (by decide) ?_
  refine v_aload_n dL_isSearch_13 rfl 2 rfl ?_
  refine v_iload_n dL_isSearch_14 rfl 3 rfl ?_
  refine v_iconst (v := 1) dL_isSearch_15 (by decide) ?_
  refine v_iadd dL_isSearch_16 ?_
  refine v_bipush (v := 8) dL_isSearch_17 (by decide) ?_
  refine v_callSi (As := [.ref g.2.2.2.2.2.2.1, .int (x2 + 1), .int 8]) cs_L_202 (S_L_pick hl) rfl rfl (Nat.le_of_ble_eq_true rfl) dL_isSearch_19 (CR_rm (by decide) (by decide) (by omega) (by omega)) (fun r2 w2 => ?_)
  refine v_iadd dL_isSearch_22 ?_
  refine v_i2c dL_isSearch_23 ?_
  refine v_istore dL_isSearch_24 (Nat.le_of_ble_eq_true rfl) rfl ?_
  refine v_aload_n dL_isSearch_26 rfl 2 rfl ?_
  refine z_new sbnew_L_284 dL_isSearch_27 dL_isSearch_30 dL_isSearch_31 (Nat.le_of_ble_eq_true rfl) (ZR_rm (by decide) (by omega) (by omega)) (fun b3 => ?_)
  refine z_ldcSw (i := 19) rfl dL_isSearch_34 ?_
  refine z_appS (i := 19) sbS_L_289 (by decide) (strB_ok 19 (by decide)) (zn_st (k := 0) (N' := 0) (by decide +kernel) (by decide) (by decide)) (Nat.le_of_ble_eq_true rfl) dL_isSearch_37 (ZR_rm (by decide) (by omega) (by omega)) ?_
  refine z_iload_n dL_isSearch_40 rfl 1 rfl ?_
  refine z_guard (fun h4 => ?_)
  refine z_appC sbC_L_306 h4 (zn_st (k := 1) (N' := 1) (Nat.le_refl 1) (by decide) (by decide)) (Nat.le_of_ble_eq_true rfl) dL_isSearch_41 (ZR_rm (by decide) (by omega) (by omega)) ?_
  refine z_runi (Fy := fun t => f_L_finds t w2) hl sbT_L_300 cs_L_344 dL_isSearch_44 (fun g1 hl1 => S_L_finds hl1) (by decide) (Nat.le_of_ble_eq_true rfl) dL_isSearch_47 (ZR_rm (by decide) (by omega) (by omega)) (CR_rm (by decide) (by decide) (by omega) (by omega)) (fun r5 w5 => ?_)
  refine v_istore dL_isSearch_50 (Nat.le_of_ble_eq_true rfl) rfl ?_
  refine v_aload_n dL_isSearch_52 rfl 3 rfl ?_
  refine z_new sbnew_L_284 dL_isSearch_53 dL_isSearch_56 dL_isSearch_57 (Nat.le_of_ble_eq_true rfl) (ZR_rm (by decide) (by omega) (by omega)) (fun b6 => ?_)
  refine z_ldcSw (i := 19) rfl dL_isSearch_60 ?_
  refine z_appS (i := 19) sbS_L_289 (by decide) (strB_ok 19 (by decide)) (zn_st (k := 0) (N' := 0) (by decide +kernel) (by decide) (by decide)) (Nat.le_of_ble_eq_true rfl) dL_isSearch_63 (ZR_rm (by decide) (by omega) (by omega)) ?_
  refine z_iload dL_isSearch_66 1 rfl ?_
  refine z_guard (fun h7 => ?_)
  refine z_appC sbC_L_306 h7 (zn_st (k := 1) (N' := 1) (Nat.le_refl 1) (by decide) (by decide)) (Nat.le_of_ble_eq_true rfl) dL_isSearch_68 (ZR_rm (by decide) (by omega) (by omega)) ?_
  refine z_runi (Fy := fun t => f_L_finds t w5) hl sbT_L_300 cs_L_344 dL_isSearch_71 (fun g1 hl1 => S_L_finds hl1) (by decide) (Nat.le_of_ble_eq_true rfl) dL_isSearch_74 (ZR_rm (by decide) (by omega) (by omega)) (CR_rm (by decide) (by decide) (by omega) (by omega)) (fun r8 w8 => ?_)
  refine v_istore dL_isSearch_77 (Nat.le_of_ble_eq_true rfl) rfl ?_
  refine v_aload_n dL_isSearch_79 rfl 4 rfl ?_
  refine z_new sbnew_L_284 dL_isSearch_80 dL_isSearch_83 dL_isSearch_84 (Nat.le_of_ble_eq_true rfl) (ZR_rm (by decide) (by omega) (by omega)) (fun b9 => ?_)
  refine z_ldcSw (i := 19) rfl dL_isSearch_87 ?_
  refine z_appS (i := 19) sbS_L_289 (by decide) (strB_ok 19 (by decide)) (zn_st (k := 0) (N' := 0) (by decide +kernel) (by decide) (by decide)) (Nat.le_of_ble_eq_true rfl) dL_isSearch_90 (ZR_rm (by decide) (by omega) (by omega)) ?_
  refine z_iload_n dL_isSearch_93 rfl 3 rfl ?_
  refine z_guard (fun h10 => ?_)
  refine z_appC sbC_L_306 h10 (zn_st (k := 1) (N' := 1) (Nat.le_refl 1) (by decide) (by decide)) (Nat.le_of_ble_eq_true rfl) dL_isSearch_94 (ZR_rm (by decide) (by omega) (by omega)) ?_
  refine z_iload dL_isSearch_97 2 rfl ?_
  refine z_guard (fun h11 => ?_)
  refine z_appC sbC_L_306 h11 (zn_st (k := 1) (N' := 2) (Nat.le_refl 1) (by decide) (by decide)) (Nat.le_of_ble_eq_true rfl) dL_isSearch_99 (ZR_rm (by decide) (by omega) (by omega)) ?_
  refine z_runi (Fy := fun t => f_L_finds t w8) hl sbT_L_300 cs_L_344 dL_isSearch_102 (fun g1 hl1 => S_L_finds hl1) (by decide) (Nat.le_of_ble_eq_true rfl) dL_isSearch_105 (ZR_rm (by decide) (by omega) (by omega)) (CR_rm (by decide) (by decide) (by omega) (by omega)) (fun r12 w12 => ?_)
  refine v_istore dL_isSearch_108 (Nat.le_of_ble_eq_true rfl) rfl ?_
  refine v_aload_n dL_isSearch_110 rfl 5 rfl ?_
  refine v_callVi (As := []) cv_L_206 (S_X10_sectionCount hl) tt_0 rfl rfl rfl (Nat.le_of_ble_eq_true rfl) dL_isSearch_111 (CR_rm (by decide) (by decide) (by omega) (by omega)) (fun r13 w13 => ?_)
  refine v_istore dL_isSearch_114 (Nat.le_of_ble_eq_true rfl) rfl ?_
  refine v_iload dL_isSearch_116 3 rfl ?_
  refine v_aload_n dL_isSearch_118 rfl 6 rfl ?_
  refine v_iload_n dL_isSearch_119 rfl 5 rfl ?_
  refine v_callSh (As := [.ref (g.2.1 + 0), .int (((Int32.toUInt32 (97 + r1)) % 65536).toInt32)]) ch_L_347 (S_L_sectionsWith hl) rfl rfl (Nat.le_of_ble_eq_true rfl) dL_isSearch_120 (CR_rm (by decide) (by decide) (by omega) (by omega)) (fun r14 w14 => ?_)
  refine v_icmp_ne (tgt := 305) dL_isSearch_123 (by decide) ?_ ?_
  · refine v_sub [6, 5, 4, 0] rfl ?_
    exact S_L_isSearch_305 hl _ _ _ _ _ _ (by omega) (by omega)
  · refine v_iload dL_isSearch_126 2 rfl ?_
    refine v_aload_n dL_isSearch_128 rfl 6 rfl ?_
    refine v_iload dL_isSearch_129 4 rfl ?_
    refine v_callSh (As := [.ref (g.2.1 + 0), .int (((Int32.toUInt32 (97 + r2)) % 65536).toInt32)]) ch_L_347 (S_L_sectionsWith hl) rfl rfl (Nat.le_of_ble_eq_true rfl) dL_isSearch_131 (CR_rm (by decide) (by decide) (by omega) (by omega)) (fun r15 w15 => ?_)
    refine v_icmp_ne (tgt := 305) dL_isSearch_134 (by decide) ?_ ?_
    · refine v_sub [6, 5, 4, 0] rfl ?_
      exact S_L_isSearch_305 hl _ _ _ _ _ _ (by omega) (by omega)
    · refine v_aload_n dL_isSearch_137 rfl 6 rfl ?_
      refine z_new sbnew_L_284 dL_isSearch_138 dL_isSearch_141 dL_isSearch_142 (Nat.le_of_ble_eq_true rfl) (ZR_rm (by decide) (by omega) (by omega)) (fun b16 => ?_)
      refine z_iload_n dL_isSearch_145 rfl 5 rfl ?_
      refine z_guard (fun h17 => ?_)
      refine z_appC sbC_L_306 h17 (zn_st (k := 1) (N' := 1) (Nat.le_refl 1) (by decide) (by decide)) (Nat.le_of_ble_eq_true rfl) dL_isSearch_146 (ZR_rm (by decide) (by omega) (by omega)) ?_
      refine z_ldcSw (i := 20) rfl dL_isSearch_149 ?_
      refine z_appS (i := 20) sbS_L_289 (by decide) (strB_ok 20 (by decide)) (zn_st (k := 1) (N' := 2) (by decide +kernel) (by decide) (by decide)) (Nat.le_of_ble_eq_true rfl) dL_isSearch_152 (ZR_rm (by decide) (by omega) (by omega)) ?_
      refine z_iload dL_isSearch_155 4 rfl ?_
      refine z_guard (fun h18 => ?_)
      refine z_appC sbC_L_306 h18 (zn_st (k := 1) (N' := 3) (Nat.le_refl 1) (by decide) (by decide)) (Nat.le_of_ble_eq_true rfl) dL_isSearch_157 (ZR_rm (by decide) (by omega) (by omega)) ?_
      refine z_runi (Fy := fun t => f_L_finds t w15) hl sbT_L_300 cs_L_344 dL_isSearch_160 (fun g1 hl1 => S_L_finds hl1) (by decide) (Nat.le_of_ble_eq_true rfl) dL_isSearch_163 (ZR_rm (by decide) (by omega) (by omega)) (CR_rm (by decide) (by decide) (by omega) (by omega)) (fun r19 w19 => ?_)
      refine v_iload dL_isSearch_166 3 rfl ?_
      refine v_iload dL_isSearch_168 2 rfl ?_
      refine v_iadd dL_isSearch_170 ?_
      refine v_iload dL_isSearch_171 1 rfl ?_
      refine v_isub dL_isSearch_173 ?_
      refine v_icmp_ne (tgt := 305) dL_isSearch_174 (by decide) ?_ ?_
      · refine v_sub [6, 5, 4, 0] rfl ?_
        exact S_L_isSearch_305 hl _ _ _ _ _ _ (by omega) (by omega)
      · refine v_aload_n dL_isSearch_177 rfl 6 rfl ?_
        refine z_new sbnew_L_284 dL_isSearch_178 dL_isSearch_181 dL_isSearch_182 (Nat.le_of_ble_eq_true rfl) (ZR_rm (by decide) (by omega) (by omega)) (fun b20 => ?_)
        refine z_ldcSw (i := 21) rfl dL_isSearch_185 ?_
        refine z_appS (i := 21) sbS_L_289 (by decide) (strB_ok 21 (by decide)) (zn_st (k := 1) (N' := 1) (by decide +kernel) (by decide) (by decide)) (Nat.le_of_ble_eq_true rfl) dL_isSearch_188 (ZR_rm (by decide) (by omega) (by omega)) ?_
        refine z_iload_n dL_isSearch_191 rfl 5 rfl ?_
        refine z_guard (fun h21 => ?_)
        refine z_appC sbC_L_306 h21 (zn_st (k := 1) (N' := 2) (Nat.le_refl 1) (by decide) (by decide)) (Nat.le_of_ble_eq_true rfl) dL_isSearch_192 (ZR_rm (by decide) (by omega) (by omega)) ?_
        refine z_runi (Fy := fun t => f_L_finds t w19) hl sbT_L_300 cs_L_344 dL_isSearch_195 (fun g1 hl1 => S_L_finds hl1) (by decide) (Nat.le_of_ble_eq_true rfl) dL_isSearch_198 (ZR_rm (by decide) (by omega) (by omega)) (CR_rm (by decide) (by decide) (by omega) (by omega)) (fun r22 w22 => ?_)
        refine v_iload dL_isSearch_201 0 rfl ?_
        refine v_iload dL_isSearch_203 3 rfl ?_
        refine v_isub dL_isSearch_205 ?_
        refine v_icmp_ne (tgt := 305) dL_isSearch_206 (by decide) ?_ ?_
        · refine v_sub [6, 5, 4, 0] rfl ?_
          exact S_L_isSearch_305 hl _ _ _ _ _ _ (by omega) (by omega)
        · refine v_aload_n dL_isSearch_209 rfl 6 rfl ?_
          refine z_new sbnew_L_284 dL_isSearch_210 dL_isSearch_213 dL_isSearch_214 (Nat.le_of_ble_eq_true rfl) (ZR_rm (by decide) (by omega) (by omega)) (fun b23 => ?_)
          refine z_ldcSw (i := 22) rfl dL_isSearch_217 ?_
          refine z_appS (i := 22) sbS_L_289 (by decide) (strB_ok 22 (by decide)) (zn_st (k := 2) (N' := 2) (by decide +kernel) (by decide) (by decide)) (Nat.le_of_ble_eq_true rfl) dL_isSearch_220 (ZR_rm (by decide) (by omega) (by omega)) ?_
          refine z_iload_n dL_isSearch_223 rfl 5 rfl ?_
          refine z_guard (fun h24 => ?_)
          refine z_appC sbC_L_306 h24 (zn_st (k := 1) (N' := 3) (Nat.le_refl 1) (by decide) (by decide)) (Nat.le_of_ble_eq_true rfl) dL_isSearch_224 (ZR_rm (by decide) (by omega) (by omega)) ?_
          refine z_ldcSw (i := 20) rfl dL_isSearch_227 ?_
          refine z_appS (i := 20) sbS_L_289 (by decide) (strB_ok 20 (by decide)) (zn_st (k := 1) (N' := 4) (by decide +kernel) (by decide) (by decide)) (Nat.le_of_ble_eq_true rfl) dL_isSearch_230 (ZR_rm (by decide) (by omega) (by omega)) ?_
          refine z_iload dL_isSearch_233 4 rfl ?_
          refine z_guard (fun h25 => ?_)
          refine z_appC sbC_L_306 h25 (zn_st (k := 1) (N' := 5) (Nat.le_refl 1) (by decide) (by decide)) (Nat.le_of_ble_eq_true rfl) dL_isSearch_235 (ZR_rm (by decide) (by omega) (by omega)) ?_
          refine z_ldcSw (i := 23) rfl dL_isSearch_238 ?_
          refine z_appS (i := 23) sbS_L_289 (by decide) (strB_ok 23 (by decide)) (zn_st (k := 1) (N' := 6) (by decide +kernel) (by decide) (by decide)) (Nat.le_of_ble_eq_true rfl) dL_isSearch_241 (ZR_rm (by decide) (by omega) (by omega)) ?_
          refine z_runi (Fy := fun t => f_L_finds t w22) hl sbT_L_300 cs_L_344 dL_isSearch_244 (fun g1 hl1 => S_L_finds hl1) (by decide) (Nat.le_of_ble_eq_true rfl) dL_isSearch_247 (ZR_rm (by decide) (by omega) (by omega)) (CR_rm (by decide) (by decide) (by omega) (by omega)) (fun r26 w26 => ?_)
          refine v_iload dL_isSearch_250 0 rfl ?_
          refine v_iload dL_isSearch_252 3 rfl ?_
          refine v_isub dL_isSearch_254 ?_
          refine v_iload dL_isSearch_255 2 rfl ?_
          refine v_isub dL_isSearch_257 ?_
          refine v_iload dL_isSearch_258 1 rfl ?_
          refine v_iadd dL_isSearch_260 ?_
          refine v_icmp_ne (tgt := 305) dL_isSearch_261 (by decide) ?_ ?_
          · refine v_sub [6, 5, 4, 0] rfl ?_
            exact S_L_isSearch_305 hl _ _ _ _ _ _ (by omega) (by omega)
          · refine v_aload_n dL_isSearch_264 rfl 6 rfl ?_
            refine z_new sbnew_L_284 dL_isSearch_265 dL_isSearch_268 dL_isSearch_269 (Nat.le_of_ble_eq_true rfl) (ZR_rm (by decide) (by omega) (by omega)) (fun b27 => ?_)
            refine z_iload_n dL_isSearch_272 rfl 5 rfl ?_
            refine z_guard (fun h28 => ?_)
            refine z_appC sbC_L_306 h28 (zn_st (k := 1) (N' := 1) (Nat.le_refl 1) (by decide) (by decide)) (Nat.le_of_ble_eq_true rfl) dL_isSearch_273 (ZR_rm (by decide) (by omega) (by omega)) ?_
            refine z_ldcSw (i := 21) rfl dL_isSearch_276 ?_
            refine z_appS (i := 21) sbS_L_289 (by decide) (strB_ok 21 (by decide)) (zn_st (k := 1) (N' := 2) (by decide +kernel) (by decide) (by decide)) (Nat.le_of_ble_eq_true rfl) dL_isSearch_279 (ZR_rm (by decide) (by omega) (by omega)) ?_
            refine z_iload dL_isSearch_282 4 rfl ?_
            refine z_guard (fun h29 => ?_)
            refine z_appC sbC_L_306 h29 (zn_st (k := 1) (N' := 3) (Nat.le_refl 1) (by decide) (by decide)) (Nat.le_of_ble_eq_true rfl) dL_isSearch_284 (ZR_rm (by decide) (by omega) (by omega)) ?_
            refine z_runi (Fy := fun t => f_L_finds t w26) hl sbT_L_300 cs_L_344 dL_isSearch_287 (fun g1 hl1 => S_L_finds hl1) (by decide) (Nat.le_of_ble_eq_true rfl) dL_isSearch_290 (ZR_rm (by decide) (by omega) (by omega)) (CR_rm (by decide) (by decide) (by omega) (by omega)) (fun r30 w30 => ?_)
            refine v_iload dL_isSearch_293 3 rfl ?_
            refine v_iload dL_isSearch_295 1 rfl ?_
            refine v_isub dL_isSearch_297 ?_
            refine v_icmp_ne (tgt := 305) dL_isSearch_298 (by decide) ?_ ?_
            · refine v_sub [6, 5, 4, 0] rfl ?_
              exact S_L_isSearch_305 hl _ _ _ _ _ _ (by omega) (by omega)
            · refine v_iconst (v := 1) dL_isSearch_301 (by decide) ?_
              refine v_goto (tgt := 306) dL_isSearch_302 (by decide) ?_
              refine v_sub [6, 5, 4, 0] rfl ?_
              exact S_L_isSearch_306 hl _ _ _ _ _ _ _ (by omega) (by omega)
theorem S_L_isSearch {g : GC} (hl : g.1.stackTraces = false) {x2 : Int32} {w : XW} : ∀ q, f_L_isSearch (scG g) x2 w = some q → MM g (.code yL_isSearch cL_isSearch 11 (some .boolean)) yL_isSearch (rmL 34 439 2762) 439 2762 [.ref (g.2.1 + 0), .ref g.2.2.2.2.2.2.1, .int x2] w (oI q) := fun q hq => MM_of (own := RL) hl (by decide) gw_1486 rfl (Nat.le_of_ble_eq_true rfl) (W_L_isSearch hl q hq) ⟨rfl, rfl⟩
