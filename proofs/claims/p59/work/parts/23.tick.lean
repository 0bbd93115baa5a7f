/-! the law lets a tick pass -/
theorem dL_tick_0 : decode cL_tick 0 = .ok (.aload_n 0, 1) := by decide +kernel
theorem dL_tick_1 : decode cL_tick 1 = .ok (.getfield 39, 3) := by decide +kernel
theorem dL_tick_4 : decode cL_tick 4 = .ok (.astore_n 1, 1) := by decide +kernel
theorem dL_tick_5 : decode cL_tick 5 = .ok (.aload_n 0, 1) := by decide +kernel
theorem dL_tick_6 : decode cL_tick 6 = .ok (.new 27, 3) := by decide +kernel
theorem dL_tick_9 : decode cL_tick 9 = .ok (.dup, 1) := by decide +kernel
theorem dL_tick_10 : decode cL_tick 10 = .ok (.invokespecial 29, 3) := by decide +kernel
theorem dL_tick_13 : decode cL_tick 13 = .ok (.putfield 39, 3) := by decide +kernel
theorem dL_tick_16 : decode cL_tick 16 = .ok (.iconst 0, 1) := by decide +kernel
theorem dL_tick_17 : decode cL_tick 17 = .ok (.istore_n 2, 1) := by decide +kernel
theorem dL_tick_18 : decode cL_tick 18 = .ok (.iload_n 2, 1) := by decide +kernel
theorem dL_tick_19 : decode cL_tick 19 = .ok (.aload_n 0, 1) := by decide +kernel
theorem dL_tick_20 : decode cL_tick 20 = .ok (.getfield 36, 3) := by decide +kernel
theorem dL_tick_23 : decode cL_tick 23 = .ok (.invokeinterface 227 1, 5) := by decide +kernel
theorem dL_tick_28 : decode cL_tick 28 = .ok (.if_icmp .ge 54, 3) := by decide +kernel
theorem dL_tick_31 : decode cL_tick 31 = .ok (.aload_n 0, 1) := by decide +kernel
theorem dL_tick_32 : decode cL_tick 32 = .ok (.getfield 36, 3) := by decide +kernel
theorem dL_tick_35 : decode cL_tick 35 = .ok (.iload_n 2, 1) := by decide +kernel
theorem dL_tick_36 : decode cL_tick 36 = .ok (.invokeinterface 179 2, 5) := by decide +kernel
theorem dL_tick_41 : decode cL_tick 41 = .ok (.checkcast 97, 3) := by decide +kernel
theorem dL_tick_44 : decode cL_tick 44 = .ok (.astore_n 3, 1) := by decide +kernel
theorem dL_tick_45 : decode cL_tick 45 = .ok (.aload_n 3, 1) := by decide +kernel
theorem dL_tick_46 : decode cL_tick 46 = .ok (.getfield 173, 3) := by decide +kernel
theorem dL_tick_49 : decode cL_tick 49 = .ok (.ifCond .ne 27, 3) := by decide +kernel
theorem dL_tick_52 : decode cL_tick 52 = .ok (.aload_n 3, 1) := by decide +kernel
theorem dL_tick_53 : decode cL_tick 53 = .ok (.getfield 154, 3) := by decide +kernel
theorem dL_tick_56 : decode cL_tick 56 = .ok (.aload_n 0, 1) := by decide +kernel
theorem dL_tick_57 : decode cL_tick 57 = .ok (.getfield 215, 3) := by decide +kernel
theorem dL_tick_60 : decode cL_tick 60 = .ok (.if_icmp .le 6, 3) := by decide +kernel
theorem dL_tick_63 : decode cL_tick 63 = .ok (.goto 13, 3) := by decide +kernel
theorem dL_tick_66 : decode cL_tick 66 = .ok (.aload_n 3, 1) := by decide +kernel
theorem dL_tick_67 : decode cL_tick 67 = .ok (.iconst 1, 1) := by decide +kernel
theorem dL_tick_68 : decode cL_tick 68 = .ok (.putfield 173, 3) := by decide +kernel
theorem dL_tick_71 : decode cL_tick 71 = .ok (.aload_n 0, 1) := by decide +kernel
theorem dL_tick_72 : decode cL_tick 72 = .ok (.iload_n 2, 1) := by decide +kernel
theorem dL_tick_73 : decode cL_tick 73 = .ok (.invokevirtual 257, 3) := by decide +kernel
theorem dL_tick_76 : decode cL_tick 76 = .ok (.iinc 2 1, 3) := by decide +kernel
theorem dL_tick_79 : decode cL_tick 79 = .ok (.goto (-61), 3) := by decide +kernel
theorem dL_tick_82 : decode cL_tick 82 = .ok (.aload_n 1, 1) := by decide +kernel
theorem dL_tick_83 : decode cL_tick 83 = .ok (.invokeinterface 133 1, 5) := by decide +kernel
theorem dL_tick_88 : decode cL_tick 88 = .ok (.astore_n 2, 1) := by decide +kernel
theorem dL_tick_89 : decode cL_tick 89 = .ok (.aload_n 2, 1) := by decide +kernel
theorem dL_tick_90 : decode cL_tick 90 = .ok (.invokeinterface 137 1, 5) := by decide +kernel
theorem dL_tick_95 : decode cL_tick 95 = .ok (.ifCond .eq 179, 3) := by decide +kernel
theorem dL_tick_98 : decode cL_tick 98 = .ok (.aload_n 2, 1) := by decide +kernel
theorem dL_tick_99 : decode cL_tick 99 = .ok (.invokeinterface 143 1, 5) := by decide +kernel
theorem dL_tick_104 : decode cL_tick 104 = .ok (.checkcast 261, 3) := by decide +kernel
theorem dL_tick_107 : decode cL_tick 107 = .ok (.astore_n 3, 1) := by decide +kernel
theorem dL_tick_108 : decode cL_tick 108 = .ok (.iconst 0, 1) := by decide +kernel
theorem dL_tick_109 : decode cL_tick 109 = .ok (.istore 4, 2) := by decide +kernel
theorem dL_tick_111 : decode cL_tick 111 = .ok (.iload 4, 2) := by decide +kernel
theorem dL_tick_113 : decode cL_tick 113 = .ok (.aload_n 0, 1) := by decide +kernel
theorem dL_tick_114 : decode cL_tick 114 = .ok (.getfield 30, 3) := by decide +kernel
theorem dL_tick_117 : decode cL_tick 117 = .ok (.invokeinterface 227 1, 5) := by decide +kernel
theorem dL_tick_122 : decode cL_tick 122 = .ok (.if_icmp .ge 79, 3) := by decide +kernel
theorem dL_tick_125 : decode cL_tick 125 = .ok (.iload 4, 2) := by decide +kernel
theorem dL_tick_127 : decode cL_tick 127 = .ok (.aload_n 3, 1) := by decide +kernel
theorem dL_tick_128 : decode cL_tick 128 = .ok (.iconst 2, 1) := by decide +kernel
theorem dL_tick_129 : decode cL_tick 129 = .ok (.iaload, 1) := by decide +kernel
theorem dL_tick_130 : decode cL_tick 130 = .ok (.if_icmp .ne 6, 3) := by decide +kernel
theorem dL_tick_133 : decode cL_tick 133 = .ok (.goto 62, 3) := by decide +kernel
theorem dL_tick_136 : decode cL_tick 136 = .ok (.aload_n 0, 1) := by decide +kernel
theorem dL_tick_137 : decode cL_tick 137 = .ok (.aload_n 3, 1) := by decide +kernel
theorem dL_tick_138 : decode cL_tick 138 = .ok (.iconst 0, 1) := by decide +kernel
theorem dL_tick_139 : decode cL_tick 139 = .ok (.iaload, 1) := by decide +kernel
theorem dL_tick_140 : decode cL_tick 140 = .ok (.aload_n 3, 1) := by decide +kernel
theorem dL_tick_141 : decode cL_tick 141 = .ok (.iconst 2, 1) := by decide +kernel
theorem dL_tick_142 : decode cL_tick 142 = .ok (.iaload, 1) := by decide +kernel
theorem dL_tick_143 : decode cL_tick 143 = .ok (.iload 4, 2) := by decide +kernel
theorem dL_tick_145 : decode cL_tick 145 = .ok (.invokevirtual 262, 3) := by decide +kernel
theorem dL_tick_148 : decode cL_tick 148 = .ok (.ifCond .eq 40, 3) := by decide +kernel
theorem dL_tick_151 : decode cL_tick 151 = .ok (.aload_n 0, 1) := by decide +kernel
theorem dL_tick_152 : decode cL_tick 152 = .ok (.getfield 36, 3) := by decide +kernel
theorem dL_tick_155 : decode cL_tick 155 = .ok (.aload_n 3, 1) := by decide +kernel
theorem dL_tick_156 : decode cL_tick 156 = .ok (.iconst 1, 1) := by decide +kernel
theorem dL_tick_157 : decode cL_tick 157 = .ok (.iaload, 1) := by decide +kernel
theorem dL_tick_158 : decode cL_tick 158 = .ok (.invokeinterface 179 2, 5) := by decide +kernel
theorem dL_tick_163 : decode cL_tick 163 = .ok (.checkcast 97, 3) := by decide +kernel
theorem dL_tick_166 : decode cL_tick 166 = .ok (.getfield 163, 3) := by decide +kernel
theorem dL_tick_169 : decode cL_tick 169 = .ok (.iload 4, 2) := by decide +kernel
theorem dL_tick_171 : decode cL_tick 171 = .ok (.aaload, 1) := by decide +kernel
theorem dL_tick_172 : decode cL_tick 172 = .ok (.dup, 1) := by decide +kernel
theorem dL_tick_173 : decode cL_tick 173 = .ok (.getfield 251, 3) := by decide +kernel
theorem dL_tick_176 : decode cL_tick 176 = .ok (.iconst 1, 1) := by decide +kernel
theorem dL_tick_177 : decode cL_tick 177 = .ok (.aload_n 3, 1) := by decide +kernel
theorem dL_tick_178 : decode cL_tick 178 = .ok (.iconst 0, 1) := by decide +kernel
theorem dL_tick_179 : decode cL_tick 179 = .ok (.iaload, 1) := by decide +kernel
theorem dL_tick_180 : decode cL_tick 180 = .ok (.ishl, 1) := by decide +kernel
theorem dL_tick_181 : decode cL_tick 181 = .ok (.ior, 1) := by decide +kernel
theorem dL_tick_182 : decode cL_tick 182 = .ok (.putfield 251, 3) := by decide +kernel
theorem dL_tick_185 : decode cL_tick 185 = .ok (.goto 10, 3) := by decide +kernel
theorem dL_tick_188 : decode cL_tick 188 = .ok (.aload_n 0, 1) := by decide +kernel
theorem dL_tick_189 : decode cL_tick 189 = .ok (.iload 4, 2) := by decide +kernel
theorem dL_tick_191 : decode cL_tick 191 = .ok (.aload_n 3, 1) := by decide +kernel
theorem dL_tick_192 : decode cL_tick 192 = .ok (.invokevirtual 266, 3) := by decide +kernel
theorem dL_tick_195 : decode cL_tick 195 = .ok (.iinc 4 1, 3) := by decide +kernel
theorem dL_tick_198 : decode cL_tick 198 = .ok (.goto (-87), 3) := by decide +kernel
theorem dL_tick_201 : decode cL_tick 201 = .ok (.aload_n 3, 1) := by decide +kernel
theorem dL_tick_202 : decode cL_tick 202 = .ok (.iconst 2, 1) := by decide +kernel
theorem dL_tick_203 : decode cL_tick 203 = .ok (.iaload, 1) := by decide +kernel
theorem dL_tick_204 : decode cL_tick 204 = .ok (.ifCond .lt 67, 3) := by decide +kernel
theorem dL_tick_207 : decode cL_tick 207 = .ok (.aload_n 0, 1) := by decide +kernel
theorem dL_tick_208 : decode cL_tick 208 = .ok (.aload_n 3, 1) := by decide +kernel
theorem dL_tick_209 : decode cL_tick 209 = .ok (.iconst 0, 1) := by decide +kernel
theorem dL_tick_210 : decode cL_tick 210 = .ok (.iaload, 1) := by decide +kernel
theorem dL_tick_211 : decode cL_tick 211 = .ok (.aload_n 3, 1) := by decide +kernel
theorem dL_tick_212 : decode cL_tick 212 = .ok (.iconst 2, 1) := by decide +kernel
theorem dL_tick_213 : decode cL_tick 213 = .ok (.iaload, 1) := by decide +kernel
theorem dL_tick_214 : decode cL_tick 214 = .ok (.iconst (-1), 1) := by decide +kernel
theorem dL_tick_215 : decode cL_tick 215 = .ok (.invokevirtual 262, 3) := by decide +kernel
theorem dL_tick_218 : decode cL_tick 218 = .ok (.ifCond .ne 53, 3) := by decide +kernel
theorem dL_tick_221 : decode cL_tick 221 = .ok (.aload_n 3, 1) := by decide +kernel
theorem dL_tick_222 : decode cL_tick 222 = .ok (.iconst 0, 1) := by decide +kernel
theorem dL_tick_223 : decode cL_tick 223 = .ok (.iaload, 1) := by decide +kernel
theorem dL_tick_224 : decode cL_tick 224 = .ok (.iconst 2, 1) := by decide +kernel
theorem dL_tick_225 : decode cL_tick 225 = .ok (.if_icmp .ne 46, 3) := by decide +kernel
theorem dL_tick_228 : decode cL_tick 228 = .ok (.aload_n 0, 1) := by decide +kernel
theorem dL_tick_229 : decode cL_tick 229 = .ok (.getfield 36, 3) := by decide +kernel
theorem dL_tick_232 : decode cL_tick 232 = .ok (.aload_n 3, 1) := by decide +kernel
theorem dL_tick_233 : decode cL_tick 233 = .ok (.iconst 1, 1) := by decide +kernel
theorem dL_tick_234 : decode cL_tick 234 = .ok (.iaload, 1) := by decide +kernel
theorem dL_tick_235 : decode cL_tick 235 = .ok (.invokeinterface 179 2, 5) := by decide +kernel
theorem dL_tick_240 : decode cL_tick 240 = .ok (.checkcast 97, 3) := by decide +kernel
theorem dL_tick_243 : decode cL_tick 243 = .ok (.aload_n 3, 1) := by decide +kernel
theorem dL_tick_244 : decode cL_tick 244 = .ok (.iconst 2, 1) := by decide +kernel
theorem dL_tick_245 : decode cL_tick 245 = .ok (.iaload, 1) := by decide +kernel
theorem dL_tick_246 : decode cL_tick 246 = .ok (.putfield 270, 3) := by decide +kernel
theorem dL_tick_249 : decode cL_tick 249 = .ok (.aload_n 0, 1) := by decide +kernel
theorem dL_tick_250 : decode cL_tick 250 = .ok (.getfield 36, 3) := by decide +kernel
theorem dL_tick_253 : decode cL_tick 253 = .ok (.aload_n 3, 1) := by decide +kernel
theorem dL_tick_254 : decode cL_tick 254 = .ok (.iconst 1, 1) := by decide +kernel
theorem dL_tick_255 : decode cL_tick 255 = .ok (.iaload, 1) := by decide +kernel
theorem dL_tick_256 : decode cL_tick 256 = .ok (.invokeinterface 179 2, 5) := by decide +kernel
theorem dL_tick_261 : decode cL_tick 261 = .ok (.checkcast 97, 3) := by decide +kernel
theorem dL_tick_264 : decode cL_tick 264 = .ok (.aload_n 0, 1) := by decide +kernel
theorem dL_tick_265 : decode cL_tick 265 = .ok (.getfield 215, 3) := by decide +kernel
theorem dL_tick_268 : decode cL_tick 268 = .ok (.putfield 273, 3) := by decide +kernel
theorem dL_tick_271 : decode cL_tick 271 = .ok (.goto (-182), 3) := by decide +kernel
theorem dL_tick_274 : decode cL_tick 274 = .ok (.iconst 0, 1) := by decide +kernel
theorem dL_tick_275 : decode cL_tick 275 = .ok (.istore_n 2, 1) := by decide +kernel
theorem dL_tick_276 : decode cL_tick 276 = .ok (.iload_n 2, 1) := by decide +kernel
theorem dL_tick_277 : decode cL_tick 277 = .ok (.aload_n 0, 1) := by decide +kernel
theorem dL_tick_278 : decode cL_tick 278 = .ok (.getfield 36, 3) := by decide +kernel
theorem dL_tick_281 : decode cL_tick 281 = .ok (.invokeinterface 227 1, 5) := by decide +kernel
theorem dL_tick_286 : decode cL_tick 286 = .ok (.if_icmp .ge 93, 3) := by decide +kernel
theorem dL_tick_289 : decode cL_tick 289 = .ok (.aload_n 0, 1) := by decide +kernel
theorem dL_tick_290 : decode cL_tick 290 = .ok (.getfield 36, 3) := by decide +kernel
theorem dL_tick_293 : decode cL_tick 293 = .ok (.iload_n 2, 1) := by decide +kernel
theorem dL_tick_294 : decode cL_tick 294 = .ok (.invokeinterface 179 2, 5) := by decide +kernel
theorem dL_tick_299 : decode cL_tick 299 = .ok (.checkcast 97, 3) := by decide +kernel
theorem dL_tick_302 : decode cL_tick 302 = .ok (.astore_n 3, 1) := by decide +kernel
theorem dL_tick_303 : decode cL_tick 303 = .ok (.aload_n 3, 1) := by decide +kernel
theorem dL_tick_304 : decode cL_tick 304 = .ok (.getfield 173, 3) := by decide +kernel
theorem dL_tick_307 : decode cL_tick 307 = .ok (.iconst 1, 1) := by decide +kernel
theorem dL_tick_308 : decode cL_tick 308 = .ok (.if_icmp .eq 6, 3) := by decide +kernel
theorem dL_tick_311 : decode cL_tick 311 = .ok (.goto 62, 3) := by decide +kernel
theorem dL_tick_314 : decode cL_tick 314 = .ok (.aload_n 3, 1) := by decide +kernel
theorem dL_tick_315 : decode cL_tick 315 = .ok (.getfield 270, 3) := by decide +kernel
theorem dL_tick_318 : decode cL_tick 318 = .ok (.ifCond .lt 27, 3) := by decide +kernel
theorem dL_tick_321 : decode cL_tick 321 = .ok (.aload_n 0, 1) := by decide +kernel
theorem dL_tick_322 : decode cL_tick 322 = .ok (.getfield 215, 3) := by decide +kernel
theorem dL_tick_325 : decode cL_tick 325 = .ok (.aload_n 3, 1) := by decide +kernel
theorem dL_tick_326 : decode cL_tick 326 = .ok (.getfield 273, 3) := by decide +kernel
theorem dL_tick_329 : decode cL_tick 329 = .ok (.isub, 1) := by decide +kernel
theorem dL_tick_330 : decode cL_tick 330 = .ok (.bipush 10, 2) := by decide +kernel
theorem dL_tick_332 : decode cL_tick 332 = .ok (.aload_n 0, 1) := by decide +kernel
theorem dL_tick_333 : decode cL_tick 333 = .ok (.getfield 70, 3) := by decide +kernel
theorem dL_tick_336 : decode cL_tick 336 = .ok (.imul, 1) := by decide +kernel
theorem dL_tick_337 : decode cL_tick 337 = .ok (.if_icmp .lt 8, 3) := by decide +kernel
theorem dL_tick_340 : decode cL_tick 340 = .ok (.aload_n 3, 1) := by decide +kernel
theorem dL_tick_341 : decode cL_tick 341 = .ok (.iconst (-1), 1) := by decide +kernel
theorem dL_tick_342 : decode cL_tick 342 = .ok (.putfield 270, 3) := by decide +kernel
theorem dL_tick_345 : decode cL_tick 345 = .ok (.aload_n 3, 1) := by decide +kernel
theorem dL_tick_346 : decode cL_tick 346 = .ok (.getfield 270, 3) := by decide +kernel
theorem dL_tick_349 : decode cL_tick 349 = .ok (.ifCond .ge 24, 3) := by decide +kernel
theorem dL_tick_352 : decode cL_tick 352 = .ok (.aload_n 0, 1) := by decide +kernel
theorem dL_tick_353 : decode cL_tick 353 = .ok (.getfield 215, 3) := by decide +kernel
theorem dL_tick_356 : decode cL_tick 356 = .ok (.aload_n 3, 1) := by decide +kernel
theorem dL_tick_357 : decode cL_tick 357 = .ok (.getfield 224, 3) := by decide +kernel
theorem dL_tick_360 : decode cL_tick 360 = .ok (.isub, 1) := by decide +kernel
theorem dL_tick_361 : decode cL_tick 361 = .ok (.aload_n 0, 1) := by decide +kernel
theorem dL_tick_362 : decode cL_tick 362 = .ok (.getfield 70, 3) := by decide +kernel
theorem dL_tick_365 : decode cL_tick 365 = .ok (.if_icmp .lt 8, 3) := by decide +kernel
theorem dL_tick_368 : decode cL_tick 368 = .ok (.aload_n 0, 1) := by decide +kernel
theorem dL_tick_369 : decode cL_tick 369 = .ok (.iload_n 2, 1) := by decide +kernel
theorem dL_tick_370 : decode cL_tick 370 = .ok (.invokevirtual 257, 3) := by decide +kernel
theorem dL_tick_373 : decode cL_tick 373 = .ok (.iinc 2 1, 3) := by decide +kernel
theorem dL_tick_376 : decode cL_tick 376 = .ok (.goto (-100), 3) := by decide +kernel
theorem dL_tick_379 : decode cL_tick 379 = .ok (.iconst 0, 1) := by decide +kernel
theorem dL_tick_380 : decode cL_tick 380 = .ok (.istore_n 2, 1) := by decide +kernel
theorem dL_tick_381 : decode cL_tick 381 = .ok (.iload_n 2, 1) := by decide +kernel
theorem dL_tick_382 : decode cL_tick 382 = .ok (.aload_n 0, 1) := by decide +kernel
theorem dL_tick_383 : decode cL_tick 383 = .ok (.getfield 30, 3) := by decide +kernel
theorem dL_tick_386 : decode cL_tick 386 = .ok (.invokeinterface 227 1, 5) := by decide +kernel
theorem dL_tick_391 : decode cL_tick 391 = .ok (.if_icmp .ge 14, 3) := by decide +kernel
theorem dL_tick_394 : decode cL_tick 394 = .ok (.aload_n 0, 1) := by decide +kernel
theorem dL_tick_395 : decode cL_tick 395 = .ok (.iload_n 2, 1) := by decide +kernel
theorem dL_tick_396 : decode cL_tick 396 = .ok (.invokevirtual 276, 3) := by decide +kernel
theorem dL_tick_399 : decode cL_tick 399 = .ok (.iinc 2 1, 3) := by decide +kernel
theorem dL_tick_402 : decode cL_tick 402 = .ok (.goto (-21), 3) := by decide +kernel
theorem dL_tick_405 : decode cL_tick 405 = .ok (.iconst 0, 1) := by decide +kernel
theorem dL_tick_406 : decode cL_tick 406 = .ok (.istore_n 2, 1) := by decide +kernel
theorem dL_tick_407 : decode cL_tick 407 = .ok (.iload_n 2, 1) := by decide +kernel
theorem dL_tick_408 : decode cL_tick 408 = .ok (.aload_n 0, 1) := by decide +kernel
theorem dL_tick_409 : decode cL_tick 409 = .ok (.getfield 30, 3) := by decide +kernel
theorem dL_tick_412 : decode cL_tick 412 = .ok (.invokeinterface 227 1, 5) := by decide +kernel
theorem dL_tick_417 : decode cL_tick 417 = .ok (.if_icmp .ge 14, 3) := by decide +kernel
theorem dL_tick_420 : decode cL_tick 420 = .ok (.aload_n 0, 1) := by decide +kernel
theorem dL_tick_421 : decode cL_tick 421 = .ok (.iload_n 2, 1) := by decide +kernel
theorem dL_tick_422 : decode cL_tick 422 = .ok (.invokevirtual 279, 3) := by decide +kernel
theorem dL_tick_425 : decode cL_tick 425 = .ok (.iinc 2 1, 3) := by decide +kernel
theorem dL_tick_428 : decode cL_tick 428 = .ok (.goto (-21), 3) := by decide +kernel
theorem dL_tick_431 : decode cL_tick 431 = .ok (.aload_n 0, 1) := by decide +kernel
theorem dL_tick_432 : decode cL_tick 432 = .ok (.dup, 1) := by decide +kernel
theorem dL_tick_433 : decode cL_tick 433 = .ok (.getfield 215, 3) := by decide +kernel
theorem dL_tick_436 : decode cL_tick 436 = .ok (.iconst 1, 1) := by decide +kernel
theorem dL_tick_437 : decode cL_tick 437 = .ok (.iadd, 1) := by decide +kernel
theorem dL_tick_438 : decode cL_tick 438 = .ok (.putfield 215, 3) := by decide +kernel
theorem dL_tick_441 : decode cL_tick 441 = .ok (.return_, 1) := by decide +kernel
/-! BusLiftsLaw.tick()V -/
noncomputable def f_L_tick_431 (τ : Sg) : Option (Int32 × Sg × Nat) := st (sup τ 40 0 7 ((τ 40 0 7) + 1)) fun τ1 => (some (0, τ1, 0))
noncomputable def f_L_tick_407 : Nat → Sg → Int32 → Option (Int32 × Sg × Nat)
  | 0, _, _ => none
  | n + 1, τ, v2 => if (τ 50 0 2) ≤ v2 then (f_L_tick_431 τ) else (bq (f_L_act τ v2) fun r1 τ2 => (f_L_tick_407 n τ2 (v2 + 1)))
theorem f_L_tick_407_s (n : Nat) (τ : Sg) (v2 : Int32) : f_L_tick_407 (n + 1) τ v2 = (if (τ 50 0 2) ≤ v2 then (f_L_tick_431 τ) else (bq (f_L_act τ v2) fun r1 τ2 => (f_L_tick_407 n τ2 (v2 + 1)))) := rfl
noncomputable def f_L_tick_405 (τ : Sg) : Option (Int32 × Sg × Nat) := f_L_tick_407 FU τ 0
noncomputable def f_L_tick_381 : Nat → Sg → Int32 → Option (Int32 × Sg × Nat)
  | 0, _, _ => none
  | n + 1, τ, v2 => if (τ 50 0 2) ≤ v2 then (f_L_tick_405 τ) else (bq (f_L_decide τ v2) fun r1 τ2 => (f_L_tick_381 n τ2 (v2 + 1)))
theorem f_L_tick_381_s (n : Nat) (τ : Sg) (v2 : Int32) : f_L_tick_381 (n + 1) τ v2 = (if (τ 50 0 2) ≤ v2 then (f_L_tick_405 τ) else (bq (f_L_decide τ v2) fun r1 τ2 => (f_L_tick_381 n τ2 (v2 + 1)))) := rfl
noncomputable def f_L_tick_379 (τ : Sg) : Option (Int32 × Sg × Nat) := f_L_tick_381 FU τ 0
noncomputable def f_L_tick_373 (k276 : Sg → Int32 → Option (Int32 × Sg × Nat)) (τ : Sg) (v2 : Int32) : Option (Int32 × Sg × Nat) := k276 τ (v2 + 1)
noncomputable def f_L_tick_345 (k276 : Sg → Int32 → Option (Int32 × Sg × Nat)) (τ : Sg) (v2 : Int32) (o3 : Nat) : Option (Int32 × Sg × Nat) := if 0 ≤ (τ 42 o3 8) then (f_L_tick_373 k276 τ v2) else (if ((τ 40 0 7) - (τ 42 o3 10)) < (τ 40 0 9) then (f_L_tick_373 k276 τ v2) else (bq (f_L_announce τ v2) fun r1 τ2 => (f_L_tick_373 k276 τ2 v2)))
noncomputable def f_L_tick_276 : Nat → Sg → Int32 → Option (Int32 × Sg × Nat)
  | 0, _, _ => none
  | n + 1, τ, v2 => if (τ 50 1 2) ≤ v2 then (f_L_tick_379 τ) else (if v2 < 0 ∨ q_nn τ 1 ≤ (v2).toNatClampNeg then none else (if (τ 42 ((v2).toNatClampNeg) 3) = 1 then (if (τ 42 ((v2).toNatClampNeg) 8) < 0 then (f_L_tick_345 (f_L_tick_276 n) τ v2 ((v2).toNatClampNeg)) else (if ((τ 40 0 7) - (τ 42 ((v2).toNatClampNeg) 9)) < (10 * (τ 40 0 9)) then (f_L_tick_345 (f_L_tick_276 n) τ v2 ((v2).toNatClampNeg)) else (st (sup τ 42 ((v2).toNatClampNeg) 8 (-1)) fun τ1 => (f_L_tick_345 (f_L_tick_276 n) τ1 v2 ((v2).toNatClampNeg))))) else (f_L_tick_373 (f_L_tick_276 n) τ v2)))
theorem f_L_tick_276_s (n : Nat) (τ : Sg) (v2 : Int32) : f_L_tick_276 (n + 1) τ v2 = (if (τ 50 1 2) ≤ v2 then (f_L_tick_379 τ) else (if v2 < 0 ∨ q_nn τ 1 ≤ (v2).toNatClampNeg then none else (if (τ 42 ((v2).toNatClampNeg) 3) = 1 then (if (τ 42 ((v2).toNatClampNeg) 8) < 0 then (f_L_tick_345 (f_L_tick_276 n) τ v2 ((v2).toNatClampNeg)) else (if ((τ 40 0 7) - (τ 42 ((v2).toNatClampNeg) 9)) < (10 * (τ 40 0 9)) then (f_L_tick_345 (f_L_tick_276 n) τ v2 ((v2).toNatClampNeg)) else (st (sup τ 42 ((v2).toNatClampNeg) 8 (-1)) fun τ1 => (f_L_tick_345 (f_L_tick_276 n) τ1 v2 ((v2).toNatClampNeg))))) else (f_L_tick_373 (f_L_tick_276 n) τ v2)))) := rfl
noncomputable def f_L_tick_274 (τ : Sg) : Option (Int32 × Sg × Nat) := f_L_tick_276 FU τ 0
noncomputable def f_L_tick_271 (k89 : Sg → Nat → Int32 → Option (Int32 × Sg × Nat)) (τ : Sg) (k2 : Nat) (m2 : Int32) : Option (Int32 × Sg × Nat) := k89 τ k2 m2
noncomputable def f_L_tick_201 (k89 : Sg → Nat → Int32 → Option (Int32 × Sg × Nat)) (τ : Sg) (k2 : Nat) (m2 : Int32) (o3 : Nat) : Option (Int32 × Sg × Nat) := if (τ 51 o3 ((2 : Int32)).toNatClampNeg) < 0 then (f_L_tick_271 k89 τ k2 m2) else (bq (f_L_isLost τ (τ 51 o3 ((0 : Int32)).toNatClampNeg) (τ 51 o3 ((2 : Int32)).toNatClampNeg) (-1)) fun r1 τ2 => (if r1 = 0 then (if (τ2 51 o3 ((0 : Int32)).toNatClampNeg) = 2 then (if (τ2 51 o3 ((1 : Int32)).toNatClampNeg) < 0 ∨ q_nn τ2 1 ≤ ((τ2 51 o3 ((1 : Int32)).toNatClampNeg)).toNatClampNeg then none else (st (sup τ2 42 (((τ2 51 o3 ((1 : Int32)).toNatClampNeg)).toNatClampNeg) 8 (τ2 51 o3 ((2 : Int32)).toNatClampNeg)) fun τ3 => (if (τ3 51 o3 ((1 : Int32)).toNatClampNeg) < 0 ∨ q_nn τ3 1 ≤ ((τ3 51 o3 ((1 : Int32)).toNatClampNeg)).toNatClampNeg then none else (st (sup τ3 42 (((τ3 51 o3 ((1 : Int32)).toNatClampNeg)).toNatClampNeg) 9 (τ3 40 0 7)) fun τ4 => (f_L_tick_271 k89 τ4 k2 m2))))) else (f_L_tick_271 k89 τ2 k2 m2)) else (f_L_tick_271 k89 τ2 k2 m2)))
noncomputable def f_L_tick_195 (k89 : Sg → Nat → Int32 → Option (Int32 × Sg × Nat)) (k111 : Sg → Nat → Int32 → Nat → Int32 → Option (Int32 × Sg × Nat)) (τ : Sg) (k2 : Nat) (m2 : Int32) (o3 : Nat) (v4 : Int32) : Option (Int32 × Sg × Nat) := k111 τ k2 m2 o3 (v4 + 1)
noncomputable def f_L_tick_111 (k89 : Sg → Nat → Int32 → Option (Int32 × Sg × Nat)) : Nat → Sg → Nat → Int32 → Nat → Int32 → Option (Int32 × Sg × Nat)
  | 0, _, _, _, _, _ => none
  | n + 1, τ, k2, m2, o3, v4 => if (τ 50 0 2) ≤ v4 then (f_L_tick_201 k89 τ k2 m2 o3) else (if v4 = (τ 51 o3 ((2 : Int32)).toNatClampNeg) then (f_L_tick_195 k89 (f_L_tick_111 k89 n) τ k2 m2 o3 v4) else (bq (f_L_isLost τ (τ 51 o3 ((0 : Int32)).toNatClampNeg) (τ 51 o3 ((2 : Int32)).toNatClampNeg) v4) fun r1 τ2 => (if r1 = 0 then (bq (f_L_hear τ2 v4 o3) fun r3 τ4 => (f_L_tick_195 k89 (f_L_tick_111 k89 n) τ4 k2 m2 o3 v4)) else (if (τ2 51 o3 ((1 : Int32)).toNatClampNeg) < 0 ∨ q_nn τ2 1 ≤ ((τ2 51 o3 ((1 : Int32)).toNatClampNeg)).toNatClampNeg then none else (if v4 < 0 ∨ 4 ≤ (v4).toNatClampNeg then none else (st (sup τ2 43 (4 * (((τ2 51 o3 ((1 : Int32)).toNatClampNeg)).toNatClampNeg) + (v4).toNatClampNeg) 3 ((τ2 43 (4 * (((τ2 51 o3 ((1 : Int32)).toNatClampNeg)).toNatClampNeg) + (v4).toNatClampNeg) 3) ||| (1 <<< ((τ2 51 o3 ((0 : Int32)).toNatClampNeg) &&& 31)))) fun τ5 => (f_L_tick_195 k89 (f_L_tick_111 k89 n) τ5 k2 m2 o3 v4)))))))
theorem f_L_tick_111_s (k89 : Sg → Nat → Int32 → Option (Int32 × Sg × Nat)) (n : Nat) (τ : Sg) (k2 : Nat) (m2 : Int32) (o3 : Nat) (v4 : Int32) : f_L_tick_111 k89 (n + 1) τ k2 m2 o3 v4 = (if (τ 50 0 2) ≤ v4 then (f_L_tick_201 k89 τ k2 m2 o3) else (if v4 = (τ 51 o3 ((2 : Int32)).toNatClampNeg) then (f_L_tick_195 k89 (f_L_tick_111 k89 n) τ k2 m2 o3 v4) else (bq (f_L_isLost τ (τ 51 o3 ((0 : Int32)).toNatClampNeg) (τ 51 o3 ((2 : Int32)).toNatClampNeg) v4) fun r1 τ2 => (if r1 = 0 then (bq (f_L_hear τ2 v4 o3) fun r3 τ4 => (f_L_tick_195 k89 (f_L_tick_111 k89 n) τ4 k2 m2 o3 v4)) else (if (τ2 51 o3 ((1 : Int32)).toNatClampNeg) < 0 ∨ q_nn τ2 1 ≤ ((τ2 51 o3 ((1 : Int32)).toNatClampNeg)).toNatClampNeg then none else (if v4 < 0 ∨ 4 ≤ (v4).toNatClampNeg then none else (st (sup τ2 43 (4 * (((τ2 51 o3 ((1 : Int32)).toNatClampNeg)).toNatClampNeg) + (v4).toNatClampNeg) 3 ((τ2 43 (4 * (((τ2 51 o3 ((1 : Int32)).toNatClampNeg)).toNatClampNeg) + (v4).toNatClampNeg) 3) ||| (1 <<< ((τ2 51 o3 ((0 : Int32)).toNatClampNeg) &&& 31)))) fun τ5 => (f_L_tick_195 k89 (f_L_tick_111 k89 n) τ5 k2 m2 o3 v4)))))))) := rfl
noncomputable def f_L_tick_89 : Nat → Sg → Nat → Int32 → Option (Int32 × Sg × Nat)
  | 0, _, _, _ => none
  | n + 1, τ, k2, m2 => if (it_z (nI k2) (τ 50 3 2)) = 0 then (f_L_tick_274 τ) else (if ¬ (k2 < q_nn τ 3 ∧ m2 = τ 50 3 0) then none else (f_L_tick_111 (f_L_tick_89 n) FU τ (k2 + 1) m2 k2 0))
theorem f_L_tick_89_s (n : Nat) (τ : Sg) (k2 : Nat) (m2 : Int32) : f_L_tick_89 (n + 1) τ k2 m2 = (if (it_z (nI k2) (τ 50 3 2)) = 0 then (f_L_tick_274 τ) else (if ¬ (k2 < q_nn τ 3 ∧ m2 = τ 50 3 0) then none else (f_L_tick_111 (f_L_tick_89 n) FU τ (k2 + 1) m2 k2 0))) := rfl
noncomputable def f_L_tick_82 (τ : Sg) : Option (Int32 × Sg × Nat) := ac 1 (f_L_tick_89 FU τ 0 (τ 50 3 0))
noncomputable def f_L_tick_76 (k18 : Sg → Int32 → Option (Int32 × Sg × Nat)) (τ : Sg) (v2 : Int32) : Option (Int32 × Sg × Nat) := k18 τ (v2 + 1)
noncomputable def f_L_tick_18 : Nat → Sg → Int32 → Option (Int32 × Sg × Nat)
  | 0, _, _ => none
  | n + 1, τ, v2 => if (τ 50 1 2) ≤ v2 then (f_L_tick_82 τ) else (if v2 < 0 ∨ q_nn τ 1 ≤ (v2).toNatClampNeg then none else (if (τ 42 ((v2).toNatClampNeg) 3) = 0 then (if (τ 42 ((v2).toNatClampNeg) 2) ≤ (τ 40 0 7) then (st (sup τ 42 ((v2).toNatClampNeg) 3 1) fun τ1 => (bq (f_L_announce τ1 v2) fun r2 τ3 => (f_L_tick_76 (f_L_tick_18 n) τ3 v2))) else (f_L_tick_76 (f_L_tick_18 n) τ v2)) else (f_L_tick_76 (f_L_tick_18 n) τ v2)))
theorem f_L_tick_18_s (n : Nat) (τ : Sg) (v2 : Int32) : f_L_tick_18 (n + 1) τ v2 = (if (τ 50 1 2) ≤ v2 then (f_L_tick_82 τ) else (if v2 < 0 ∨ q_nn τ 1 ≤ (v2).toNatClampNeg then none else (if (τ 42 ((v2).toNatClampNeg) 3) = 0 then (if (τ 42 ((v2).toNatClampNeg) 2) ≤ (τ 40 0 7) then (st (sup τ 42 ((v2).toNatClampNeg) 3 1) fun τ1 => (bq (f_L_announce τ1 v2) fun r2 τ3 => (f_L_tick_76 (f_L_tick_18 n) τ3 v2))) else (f_L_tick_76 (f_L_tick_18 n) τ v2)) else (f_L_tick_76 (f_L_tick_18 n) τ v2)))) := rfl
noncomputable def f_L_tick_16 (τ : Sg) : Option (Int32 × Sg × Nat) := f_L_tick_18 FU τ 0
set_option maxHeartbeats 4000000 in
set_option maxRecDepth 100000 in
theorem w_L_tick_431 {p : Program} {l : Launch} {e : Env} {s : State} {m : MethodId} {args : Array Value} {below : List Frame} {meth : Method} {c : Code} {G : Gx} {ad : Ad} {N : Nn} {X : Ex} {A : Nat → Prop} {res : Int32 × Sg} {n : Nat} (C : Cx p s m args meth c yL_tick.cls cL_tick 5 none G) (hN : N.2.2.2 = 1) : ∀ (τ : Sg) (H : Heap) (locs : List Loc) (ls : Array Slot) (cells d : Nat), q_S G ad N X τ [] A s.heap H locs → lv_has ls 5 [(0, .ref (ad 40 0))] → f_L_tick_431 τ = some (res.1, res.2, d) → cells + d = n → W p l e { frames := 9, cells := n, slots := 6 * n, locals := 208 } s m args below meth c H locs cells (6 * cells) (MQ below (k_Q none (q_V G ad N res.2 A) A) args s n (6 * n) A) (F0 m 431 ls []) := by
  intro τ H locs ls cells d S hl hf hd
  unfold f_L_tick_431 at hf
  refine lv_aload_n C.1 C.2.1 dL_tick_431 rfl (lv_at hl 0 rfl) ?_
  refine lv_dup C.1 C.2.1 dL_tick_432 rfl ?_
  refine q_getI C S 40 0 rfl rfl cf_11 7 (by decide) (qi_40_7 G τ 0) tw_4_103 dL_tick_433 ?_
  refine lv_iconst (v := 1) C.1 C.2.1 dL_tick_436 (by decide) ?_
  refine lv_iadd C.1 C.2.1 dL_tick_437 ?_
  obtain ⟨τ1, e_438, hf⟩ := stb hf
  refine q_putI C S 40 0 7 rfl rfl rfl cf_11 7 (by decide) (qp_40_7 G τ 0 _) rfl rfl rfl tw_4_103 dL_tick_438 (fun H locs S => ?_)
  rw [← e_438] at S
  exact q_vretF C S hf hd dL_tick_441
set_option maxHeartbeats 4000000 in
set_option maxRecDepth 100000 in
theorem w_L_tick_407 {p : Program} {l : Launch} {e : Env} {s : State} {m : MethodId} {args : Array Value} {below : List Frame} {meth : Method} {c : Code} {G : Gx} {ad : Ad} {N : Nn} {X : Ex} {A : Nat → Prop} {res : Int32 × Sg} {n : Nat} (C : Cx p s m args meth c yL_tick.cls cL_tick 5 none G) (hN : N.2.2.2 = 1) : ∀ n9 : Nat, ∀ (τ : Sg) (v2 : Int32) (H : Heap) (locs : List Loc) (ls : Array Slot) (cells d : Nat), q_S G ad N X τ [] A s.heap H locs → lv_has ls 5 [(0, .ref (ad 40 0)), (2, .int v2)] → f_L_tick_407 n9 τ v2 = some (res.1, res.2, d) → cells + d = n → W p l e { frames := 9, cells := n, slots := 6 * n, locals := 208 } s m args below meth c H locs cells (6 * cells) (MQ below (k_Q none (q_V G ad N res.2 A) A) args s n (6 * n) A) (F0 m 407 ls []) := by
  intro n9
  induction n9 with
  | zero => intro τ v2 H locs ls cells d S hl hf hd; cases hf
  | succ n9 ih =>
    intro τ v2 H locs ls cells d S hl hf hd
    rw [f_L_tick_407_s] at hf
    refine lv_iload_n C.1 C.2.1 dL_tick_407 rfl (lv_at hl 1 rfl) ?_
    refine lv_aload_n C.1 C.2.1 dL_tick_408 rfl (lv_at hl 0 rfl) ?_
    refine q_getR C S 40 0 50 0 rfl rfl rfl cf_11 0 (by decide) (qr_40_0 G τ 0) tw_4_96 dL_tick_409 ?_
    refine q_size C S 0 (Or.inl (by decide)) (by decide) tw_5_190 ⟨(Nat.le_of_ble_eq_true rfl), (Nat.le_of_ble_eq_true rfl)⟩ (Nat.le_of_ble_eq_true rfl) hl.1 ⟨(show _ ≤ n from by omega), (show _ ≤ 6 * n from by omega)⟩ dL_tick_412 (fun H locs S => ?_)
    refine lv_icmp_ge (tgt := 431) C.1 C.2.1 dL_tick_417 (by decide) (fun c_417 => ?_) (fun c_417 => ?_)
    · rw [if_pos c_417] at hf
      exact w_L_tick_431 C hN _ _ _ _ _ _ S (lv_sub hl [0] rfl) hf hd
    · rw [if_neg c_417] at hf
      refine lv_aload_n C.1 C.2.1 dL_tick_420 rfl (lv_at hl 0 rfl) ?_
      refine lv_iload_n C.1 C.2.1 dL_tick_421 rfl (lv_at hl 1 rfl) ?_
      obtain ⟨r1, τ2, c_422, d_422, q_422, hf, e_422⟩ := bqb hf
      refine q_callV (τ' := τ2) (v := none) C S [.int v2] rfl (fun ad' he => by have h := m_L_act l G ad' N τ v2 (r1, τ2) c_422 q_422 H.size; rw [he 40 0 rfl] at h; exact h) kv_L_act tw_7_56 ⟨(Nat.le_of_ble_eq_true rfl), (Nat.le_of_ble_eq_true rfl)⟩ rfl rfl (Nat.le_of_ble_eq_true rfl) hl.1 ⟨(show _ ≤ n from by omega), (show _ ≤ 6 * n from by omega)⟩ dL_tick_422 (fun H locs S => ?_)
      replace hd := q_hd2 hd e_422
      refine lv_iinc (v := (v2 + 1)) (lv' := [(2, .int (v2 + 1)), (0, .ref (ad 40 0))]) C.1 C.2.1 dL_tick_425 hl (k := 1) rfl rfl (by decide) rfl (fun ls hl => ?_)
      refine lv_goto (tgt := 407) C.1 C.2.1 dL_tick_428 (by decide) ?_
      exact ih _ (v2 + 1) _ _ _ _ _ S (lv_sub hl [1, 0] rfl) hf hd
set_option maxHeartbeats 4000000 in
set_option maxRecDepth 100000 in
theorem w_L_tick_405 {p : Program} {l : Launch} {e : Env} {s : State} {m : MethodId} {args : Array Value} {below : List Frame} {meth : Method} {c : Code} {G : Gx} {ad : Ad} {N : Nn} {X : Ex} {A : Nat → Prop} {res : Int32 × Sg} {n : Nat} (C : Cx p s m args meth c yL_tick.cls cL_tick 5 none G) (hN : N.2.2.2 = 1) : ∀ (τ : Sg) (H : Heap) (locs : List Loc) (ls : Array Slot) (cells d : Nat), q_S G ad N X τ [] A s.heap H locs → lv_has ls 5 [(0, .ref (ad 40 0))] → f_L_tick_405 τ = some (res.1, res.2, d) → cells + d = n → W p l e { frames := 9, cells := n, slots := 6 * n, locals := 208 } s m args below meth c H locs cells (6 * cells) (MQ below (k_Q none (q_V G ad N res.2 A) A) args s n (6 * n) A) (F0 m 405 ls []) := by
  intro τ H locs ls cells d S hl hf hd
  unfold f_L_tick_405 at hf
  refine lv_iconst (v := 0) C.1 C.2.1 dL_tick_405 (by decide) ?_
  refine lv_istore_n (lv' := [(2, .int 0), (0, .ref (ad 40 0))]) C.1 C.2.1 dL_tick_406 rfl hl (by decide) rfl (fun ls hl => ?_)
  exact w_L_tick_407 C hN FU _ 0 _ _ _ _ _ S (lv_sub hl [1, 0] rfl) hf hd
set_option maxHeartbeats 4000000 in
set_option maxRecDepth 100000 in
theorem w_L_tick_381 {p : Program} {l : Launch} {e : Env} {s : State} {m : MethodId} {args : Array Value} {below : List Frame} {meth : Method} {c : Code} {G : Gx} {ad : Ad} {N : Nn} {X : Ex} {A : Nat → Prop} {res : Int32 × Sg} {n : Nat} (C : Cx p s m args meth c yL_tick.cls cL_tick 5 none G) (hN : N.2.2.2 = 1) : ∀ n9 : Nat, ∀ (τ : Sg) (v2 : Int32) (H : Heap) (locs : List Loc) (ls : Array Slot) (cells d : Nat), q_S G ad N X τ [] A s.heap H locs → lv_has ls 5 [(0, .ref (ad 40 0)), (2, .int v2)] → f_L_tick_381 n9 τ v2 = some (res.1, res.2, d) → cells + d = n → W p l e { frames := 9, cells := n, slots := 6 * n, locals := 208 } s m args below meth c H locs cells (6 * cells) (MQ below (k_Q none (q_V G ad N res.2 A) A) args s n (6 * n) A) (F0 m 381 ls []) := by
  intro n9
  induction n9 with
  | zero => intro τ v2 H locs ls cells d S hl hf hd; cases hf
  | succ n9 ih =>
    intro τ v2 H locs ls cells d S hl hf hd
    rw [f_L_tick_381_s] at hf
    refine lv_iload_n C.1 C.2.1 dL_tick_381 rfl (lv_at hl 1 rfl) ?_
    refine lv_aload_n C.1 C.2.1 dL_tick_382 rfl (lv_at hl 0 rfl) ?_
    refine q_getR C S 40 0 50 0 rfl rfl rfl cf_11 0 (by decide) (qr_40_0 G τ 0) tw_4_96 dL_tick_383 ?_
    refine q_size C S 0 (Or.inl (by decide)) (by decide) tw_5_190 ⟨(Nat.le_of_ble_eq_true rfl), (Nat.le_of_ble_eq_true rfl)⟩ (Nat.le_of_ble_eq_true rfl) hl.1 ⟨(show _ ≤ n from by omega), (show _ ≤ 6 * n from by omega)⟩ dL_tick_386 (fun H locs S => ?_)
    refine lv_icmp_ge (tgt := 405) C.1 C.2.1 dL_tick_391 (by decide) (fun c_391 => ?_) (fun c_391 => ?_)
    · rw [if_pos c_391] at hf
      exact w_L_tick_405 C hN _ _ _ _ _ _ S (lv_sub hl [0] rfl) hf hd
    · rw [if_neg c_391] at hf
      refine lv_aload_n C.1 C.2.1 dL_tick_394 rfl (lv_at hl 0 rfl) ?_
      refine lv_iload_n C.1 C.2.1 dL_tick_395 rfl (lv_at hl 1 rfl) ?_
      obtain ⟨r1, τ2, c_396, d_396, q_396, hf, e_396⟩ := bqb hf
      refine q_callV (τ' := τ2) (v := none) C S [.int v2] rfl (fun ad' he => by have h := m_L_decide l G ad' N τ v2 (r1, τ2) c_396 q_396 H.size; rw [he 40 0 rfl] at h; exact h) kv_L_decide tw_7_52 ⟨(Nat.le_of_ble_eq_true rfl), (Nat.le_of_ble_eq_true rfl)⟩ rfl rfl (Nat.le_of_ble_eq_true rfl) hl.1 ⟨(show _ ≤ n from by omega), (show _ ≤ 6 * n from by omega)⟩ dL_tick_396 (fun H locs S => ?_)
      replace hd := q_hd2 hd e_396
      refine lv_iinc (v := (v2 + 1)) (lv' := [(2, .int (v2 + 1)), (0, .ref (ad 40 0))]) C.1 C.2.1 dL_tick_399 hl (k := 1) rfl rfl (by decide) rfl (fun ls hl => ?_)
      refine lv_goto (tgt := 381) C.1 C.2.1 dL_tick_402 (by decide) ?_
      exact ih _ (v2 + 1) _ _ _ _ _ S (lv_sub hl [1, 0] rfl) hf hd
set_option maxHeartbeats 4000000 in
set_option maxRecDepth 100000 in
theorem w_L_tick_379 {p : Program} {l : Launch} {e : Env} {s : State} {m : MethodId} {args : Array Value} {below : List Frame} {meth : Method} {c : Code} {G : Gx} {ad : Ad} {N : Nn} {X : Ex} {A : Nat → Prop} {res : Int32 × Sg} {n : Nat} (C : Cx p s m args meth c yL_tick.cls cL_tick 5 none G) (hN : N.2.2.2 = 1) : ∀ (τ : Sg) (H : Heap) (locs : List Loc) (ls : Array Slot) (cells d : Nat), q_S G ad N X τ [] A s.heap H locs → lv_has ls 5 [(0, .ref (ad 40 0))] → f_L_tick_379 τ = some (res.1, res.2, d) → cells + d = n → W p l e { frames := 9, cells := n, slots := 6 * n, locals := 208 } s m args below meth c H locs cells (6 * cells) (MQ below (k_Q none (q_V G ad N res.2 A) A) args s n (6 * n) A) (F0 m 379 ls []) := by
  intro τ H locs ls cells d S hl hf hd
  unfold f_L_tick_379 at hf
  refine lv_iconst (v := 0) C.1 C.2.1 dL_tick_379 (by decide) ?_
  refine lv_istore_n (lv' := [(2, .int 0), (0, .ref (ad 40 0))]) C.1 C.2.1 dL_tick_380 rfl hl (by decide) rfl (fun ls hl => ?_)
  exact w_L_tick_381 C hN FU _ 0 _ _ _ _ _ S (lv_sub hl [1, 0] rfl) hf hd
set_option maxHeartbeats 4000000 in
set_option maxRecDepth 100000 in
theorem w_L_tick_373 {p : Program} {l : Launch} {e : Env} {s : State} {m : MethodId} {args : Array Value} {below : List Frame} {meth : Method} {c : Code} {G : Gx} {ad : Ad} {N : Nn} {X : Ex} {A : Nat → Prop} {res : Int32 × Sg} {n : Nat} (C : Cx p s m args meth c yL_tick.cls cL_tick 5 none G) (hN : N.2.2.2 = 1) (k276 : Sg → Int32 → Option (Int32 × Sg × Nat)) (hk276 : ∀ (τ : Sg) (v2 : Int32) (H : Heap) (locs : List Loc) (ls : Array Slot) (cells d : Nat), q_S G ad N X τ [] A s.heap H locs → lv_has ls 5 [(0, .ref (ad 40 0)), (2, .int v2)] → k276 τ v2 = some (res.1, res.2, d) → cells + d = n → W p l e { frames := 9, cells := n, slots := 6 * n, locals := 208 } s m args below meth c H locs cells (6 * cells) (MQ below (k_Q none (q_V G ad N res.2 A) A) args s n (6 * n) A) (F0 m 276 ls [])) : ∀ (τ : Sg) (v2 : Int32) (H : Heap) (locs : List Loc) (ls : Array Slot) (cells d : Nat), q_S G ad N X τ [] A s.heap H locs → lv_has ls 5 [(0, .ref (ad 40 0)), (2, .int v2)] → f_L_tick_373 k276 τ v2 = some (res.1, res.2, d) → cells + d = n → W p l e { frames := 9, cells := n, slots := 6 * n, locals := 208 } s m args below meth c H locs cells (6 * cells) (MQ below (k_Q none (q_V G ad N res.2 A) A) args s n (6 * n) A) (F0 m 373 ls []) := by
  intro τ v2 H locs ls cells d S hl hf hd
  unfold f_L_tick_373 at hf
  refine lv_iinc (v := (v2 + 1)) (lv' := [(2, .int (v2 + 1)), (0, .ref (ad 40 0))]) C.1 C.2.1 dL_tick_373 hl (k := 1) rfl rfl (by decide) rfl (fun ls hl => ?_)
  refine lv_goto (tgt := 276) C.1 C.2.1 dL_tick_376 (by decide) ?_
  exact hk276 _ (v2 + 1) _ _ _ _ _ S (lv_sub hl [1, 0] rfl) hf hd
set_option maxHeartbeats 4000000 in
set_option maxRecDepth 100000 in
theorem w_L_tick_345 {p : Program} {l : Launch} {e : Env} {s : State} {m : MethodId} {args : Array Value} {below : List Frame} {meth : Method} {c : Code} {G : Gx} {ad : Ad} {N : Nn} {X : Ex} {A : Nat → Prop} {res : Int32 × Sg} {n : Nat} (C : Cx p s m args meth c yL_tick.cls cL_tick 5 none G) (hN : N.2.2.2 = 1) (k276 : Sg → Int32 → Option (Int32 × Sg × Nat)) (hk276 : ∀ (τ : Sg) (v2 : Int32) (H : Heap) (locs : List Loc) (ls : Array Slot) (cells d : Nat), q_S G ad N X τ [] A s.heap H locs → lv_has ls 5 [(0, .ref (ad 40 0)), (2, .int v2)] → k276 τ v2 = some (res.1, res.2, d) → cells + d = n → W p l e { frames := 9, cells := n, slots := 6 * n, locals := 208 } s m args below meth c H locs cells (6 * cells) (MQ below (k_Q none (q_V G ad N res.2 A) A) args s n (6 * n) A) (F0 m 276 ls [])) : ∀ (τ : Sg) (v2 : Int32) (o3 : Nat) (H : Heap) (locs : List Loc) (ls : Array Slot) (cells d : Nat), q_S G ad N X τ [] A s.heap H locs → lv_has ls 5 [(0, .ref (ad 40 0)), (2, .int v2), (3, .ref (ad 42 o3))] → (o3 < N.2.1) → f_L_tick_345 k276 τ v2 o3 = some (res.1, res.2, d) → cells + d = n → W p l e { frames := 9, cells := n, slots := 6 * n, locals := 208 } s m args below meth c H locs cells (6 * cells) (MQ below (k_Q none (q_V G ad N res.2 A) A) args s n (6 * n) A) (F0 m 345 ls []) := by
  intro τ v2 o3 H locs ls cells d S hl ho3 hf hd
  unfold f_L_tick_345 at hf
  refine lv_aload_n C.1 C.2.1 dL_tick_345 rfl (lv_at hl 2 rfl) ?_
  refine q_getIN C S 42 o3 rfl ho3 cf_8 8 (by decide) (qi_42_8 G τ o3) (List.mem_of_getElem? (i := 35) rfl) dL_tick_346 ?_
  refine lv_if_ge (tgt := 373) C.1 C.2.1 dL_tick_349 (by decide) (fun c_349 => ?_) (fun c_349 => ?_)
  · rw [if_pos c_349] at hf
    exact w_L_tick_373 C hN k276 hk276 _ v2 _ _ _ _ _ S (lv_sub hl [0, 1] rfl) hf hd
  · rw [if_neg c_349] at hf
    refine lv_aload_n C.1 C.2.1 dL_tick_352 rfl (lv_at hl 0 rfl) ?_
    refine q_getI C S 40 0 rfl rfl cf_11 7 (by decide) (qi_40_7 G τ 0) tw_4_103 dL_tick_353 ?_
    refine lv_aload_n C.1 C.2.1 dL_tick_356 rfl (lv_at hl 2 rfl) ?_
    refine q_getIN C S 42 o3 rfl ho3 cf_8 10 (by decide) (qi_42_10 G τ o3) (List.mem_of_getElem? (i := 37) rfl) dL_tick_357 ?_
    refine lv_isub C.1 C.2.1 dL_tick_360 ?_
    refine lv_aload_n C.1 C.2.1 dL_tick_361 rfl (lv_at hl 0 rfl) ?_
    refine q_getI C S 40 0 rfl rfl cf_11 9 (by decide) (qi_40_9 G τ 0) tw_4_105 dL_tick_362 ?_
    refine lv_icmp_lt (tgt := 373) C.1 C.2.1 dL_tick_365 (by decide) (fun c_365 => ?_) (fun c_365 => ?_)
    · rw [if_pos c_365] at hf
      exact w_L_tick_373 C hN k276 hk276 _ v2 _ _ _ _ _ S (lv_sub hl [0, 1] rfl) hf hd
    · rw [if_neg c_365] at hf
      refine lv_aload_n C.1 C.2.1 dL_tick_368 rfl (lv_at hl 0 rfl) ?_
      refine lv_iload_n C.1 C.2.1 dL_tick_369 rfl (lv_at hl 1 rfl) ?_
      obtain ⟨r1, τ2, c_370, d_370, q_370, hf, e_370⟩ := bqb hf
      refine q_callV (τ' := τ2) (v := none) C S [.int v2] rfl (fun ad' he => by have h := m_L_announce l G ad' N τ v2 (r1, τ2) c_370 q_370 H.size; rw [he 40 0 rfl] at h; exact h) kv_L_announce tw_7_34 ⟨(Nat.le_of_ble_eq_true rfl), (Nat.le_of_ble_eq_true rfl)⟩ rfl rfl (Nat.le_of_ble_eq_true rfl) hl.1 ⟨(show _ ≤ n from by omega), (show _ ≤ 6 * n from by omega)⟩ dL_tick_370 (fun H locs S => ?_)
      replace hd := q_hd2 hd e_370
      exact w_L_tick_373 C hN k276 hk276 _ v2 _ _ _ _ _ S (lv_sub hl [0, 1] rfl) hf hd
set_option maxHeartbeats 4000000 in
set_option maxRecDepth 100000 in
theorem w_L_tick_276 {p : Program} {l : Launch} {e : Env} {s : State} {m : MethodId} {args : Array Value} {below : List Frame} {meth : Method} {c : Code} {G : Gx} {ad : Ad} {N : Nn} {X : Ex} {A : Nat → Prop} {res : Int32 × Sg} {n : Nat} (C : Cx p s m args meth c yL_tick.cls cL_tick 5 none G) (hN : N.2.2.2 = 1) : ∀ n9 : Nat, ∀ (τ : Sg) (v2 : Int32) (H : Heap) (locs : List Loc) (ls : Array Slot) (cells d : Nat), q_S G ad N X τ [] A s.heap H locs → lv_has ls 5 [(0, .ref (ad 40 0)), (2, .int v2)] → f_L_tick_276 n9 τ v2 = some (res.1, res.2, d) → cells + d = n → W p l e { frames := 9, cells := n, slots := 6 * n, locals := 208 } s m args below meth c H locs cells (6 * cells) (MQ below (k_Q none (q_V G ad N res.2 A) A) args s n (6 * n) A) (F0 m 276 ls []) := by
  intro n9
  induction n9 with
  | zero => intro τ v2 H locs ls cells d S hl hf hd; cases hf
  | succ n9 ih =>
    intro τ v2 H locs ls cells d S hl hf hd
    rw [f_L_tick_276_s] at hf
    refine lv_iload_n C.1 C.2.1 dL_tick_276 rfl (lv_at hl 1 rfl) ?_
    refine lv_aload_n C.1 C.2.1 dL_tick_277 rfl (lv_at hl 0 rfl) ?_
    refine q_getR C S 40 0 50 1 rfl rfl rfl cf_11 1 (by decide) (qr_40_1 G τ 0) tw_4_97 dL_tick_278 ?_
    refine q_size C S 1 (Or.inl (by decide)) (by decide) tw_5_190 ⟨(Nat.le_of_ble_eq_true rfl), (Nat.le_of_ble_eq_true rfl)⟩ (Nat.le_of_ble_eq_true rfl) hl.1 ⟨(show _ ≤ n from by omega), (show _ ≤ 6 * n from by omega)⟩ dL_tick_281 (fun H locs S => ?_)
    refine lv_icmp_ge (tgt := 379) C.1 C.2.1 dL_tick_286 (by decide) (fun c_286 => ?_) (fun c_286 => ?_)
    · rw [if_pos c_286] at hf
      exact w_L_tick_379 C hN _ _ _ _ _ _ S (lv_sub hl [0] rfl) hf hd
    · rw [if_neg c_286] at hf
      refine lv_aload_n C.1 C.2.1 dL_tick_289 rfl (lv_at hl 0 rfl) ?_
      refine q_getR C S 40 0 50 1 rfl rfl rfl cf_11 1 (by decide) (qr_40_1 G τ 0) tw_4_97 dL_tick_290 ?_
      refine lv_iload_n C.1 C.2.1 dL_tick_293 rfl (lv_at hl 1 rfl) ?_
      obtain ⟨g_294, hf⟩ := gd hf
      have ob_294 := q_ltN S (Or.inl (by decide)) (q_glt g_294)
      refine q_get C S 1 (Or.inl (by decide)) (by decide) g_294 tw_5_199 ⟨(Nat.le_of_ble_eq_true rfl), (Nat.le_of_ble_eq_true rfl)⟩ (Nat.le_of_ble_eq_true rfl) hl.1 ⟨(show _ ≤ n from by omega), (show _ ≤ 6 * n from by omega)⟩ dL_tick_294 (fun H locs S => ?_)
      refine q_cast C S 42 ((v2).toNatClampNeg) rfl ob_294 "BusLiftsLaw$Call" (fun _ => Or.inl ⟨_, _, _, _, rfl, rfl⟩) tw_4_19 dL_tick_299 ?_
      refine lv_astore_n (lv' := [(3, .ref (ad 42 ((v2).toNatClampNeg))), (0, .ref (ad 40 0)), (2, .int v2)]) C.1 C.2.1 dL_tick_302 rfl hl (by decide) rfl (fun ls hl => ?_)
      refine lv_aload_n C.1 C.2.1 dL_tick_303 rfl (lv_at hl 0 rfl) ?_
      refine q_getIN C S 42 ((v2).toNatClampNeg) rfl ob_294 cf_8 3 (by decide) (qi_42_3 G τ ((v2).toNatClampNeg)) (List.mem_of_getElem? (i := 30) rfl) dL_tick_304 ?_
      refine lv_iconst (v := 1) C.1 C.2.1 dL_tick_307 (by decide) ?_
      refine lv_icmp_eq (tgt := 314) C.1 C.2.1 dL_tick_308 (by decide) (fun c_308 => ?_) (fun c_308 => ?_)
      · rw [if_pos c_308] at hf
        refine lv_aload_n C.1 C.2.1 dL_tick_314 rfl (lv_at hl 0 rfl) ?_
        refine q_getIN C S 42 ((v2).toNatClampNeg) rfl ob_294 cf_8 8 (by decide) (qi_42_8 G τ ((v2).toNatClampNeg)) (List.mem_of_getElem? (i := 35) rfl) dL_tick_315 ?_
        refine lv_if_lt (tgt := 345) C.1 C.2.1 dL_tick_318 (by decide) (fun c_318 => ?_) (fun c_318 => ?_)
        · rw [if_pos c_318] at hf
          exact w_L_tick_345 C hN (f_L_tick_276 n9) ih _ v2 ((v2).toNatClampNeg) _ _ _ _ _ S (lv_sub hl [1, 2, 0] rfl) ob_294 hf hd
        · rw [if_neg c_318] at hf
          refine lv_aload_n C.1 C.2.1 dL_tick_321 rfl (lv_at hl 1 rfl) ?_
          refine q_getI C S 40 0 rfl rfl cf_11 7 (by decide) (qi_40_7 G τ 0) tw_4_103 dL_tick_322 ?_
          refine lv_aload_n C.1 C.2.1 dL_tick_325 rfl (lv_at hl 0 rfl) ?_
          refine q_getIN C S 42 ((v2).toNatClampNeg) rfl ob_294 cf_8 9 (by decide) (qi_42_9 G τ ((v2).toNatClampNeg)) (List.mem_of_getElem? (i := 36) rfl) dL_tick_326 ?_
          refine lv_isub C.1 C.2.1 dL_tick_329 ?_
          refine lv_bipush (v := 10) C.1 C.2.1 dL_tick_330 (by decide) ?_
          refine lv_aload_n C.1 C.2.1 dL_tick_332 rfl (lv_at hl 1 rfl) ?_
          refine q_getI C S 40 0 rfl rfl cf_11 9 (by decide) (qi_40_9 G τ 0) tw_4_105 dL_tick_333 ?_
          refine lv_imul C.1 C.2.1 dL_tick_336 ?_
          refine lv_icmp_lt (tgt := 345) C.1 C.2.1 dL_tick_337 (by decide) (fun c_337 => ?_) (fun c_337 => ?_)
          · rw [if_pos c_337] at hf
            exact w_L_tick_345 C hN (f_L_tick_276 n9) ih _ v2 ((v2).toNatClampNeg) _ _ _ _ _ S (lv_sub hl [1, 2, 0] rfl) ob_294 hf hd
          · rw [if_neg c_337] at hf
            refine lv_aload_n C.1 C.2.1 dL_tick_340 rfl (lv_at hl 0 rfl) ?_
            refine lv_iconst (v := (-1)) C.1 C.2.1 dL_tick_341 (by decide) ?_
            obtain ⟨τ1, e_342, hf⟩ := stb hf
            refine q_putIN C S 42 ((v2).toNatClampNeg) 8 rfl rfl ob_294 cf_8 8 (by decide) (qp_42_8 G τ ((v2).toNatClampNeg) _) rfl rfl rfl (List.mem_of_getElem? (i := 35) rfl) dL_tick_342 (fun H locs S => ?_)
            rw [← e_342] at S
            exact w_L_tick_345 C hN (f_L_tick_276 n9) ih _ v2 ((v2).toNatClampNeg) _ _ _ _ _ S (lv_sub hl [1, 2, 0] rfl) ob_294 hf hd
      · rw [if_neg c_308] at hf
        refine lv_goto (tgt := 373) C.1 C.2.1 dL_tick_311 (by decide) ?_
        exact w_L_tick_373 C hN (f_L_tick_276 n9) ih _ v2 _ _ _ _ _ S (lv_sub hl [1, 2] rfl) hf hd
set_option maxHeartbeats 4000000 in
set_option maxRecDepth 100000 in
theorem w_L_tick_274 {p : Program} {l : Launch} {e : Env} {s : State} {m : MethodId} {args : Array Value} {below : List Frame} {meth : Method} {c : Code} {G : Gx} {ad : Ad} {N : Nn} {X : Ex} {A : Nat → Prop} {res : Int32 × Sg} {n : Nat} (C : Cx p s m args meth c yL_tick.cls cL_tick 5 none G) (hN : N.2.2.2 = 1) : ∀ (τ : Sg) (H : Heap) (locs : List Loc) (ls : Array Slot) (cells d : Nat), q_S G ad N X τ [] A s.heap H locs → lv_has ls 5 [(0, .ref (ad 40 0))] → f_L_tick_274 τ = some (res.1, res.2, d) → cells + d = n → W p l e { frames := 9, cells := n, slots := 6 * n, locals := 208 } s m args below meth c H locs cells (6 * cells) (MQ below (k_Q none (q_V G ad N res.2 A) A) args s n (6 * n) A) (F0 m 274 ls []) := by
  intro τ H locs ls cells d S hl hf hd
  unfold f_L_tick_274 at hf
  refine lv_iconst (v := 0) C.1 C.2.1 dL_tick_274 (by decide) ?_
  refine lv_istore_n (lv' := [(2, .int 0), (0, .ref (ad 40 0))]) C.1 C.2.1 dL_tick_275 rfl hl (by decide) rfl (fun ls hl => ?_)
  exact w_L_tick_276 C hN FU _ 0 _ _ _ _ _ S (lv_sub hl [1, 0] rfl) hf hd
set_option maxHeartbeats 4000000 in
set_option maxRecDepth 100000 in
theorem w_L_tick_271 {p : Program} {l : Launch} {e : Env} {s : State} {m : MethodId} {args : Array Value} {below : List Frame} {meth : Method} {c : Code} {G : Gx} {ad : Ad} {N : Nn} {X : Ex} {A : Nat → Prop} {res : Int32 × Sg} {n : Nat} (C : Cx p s m args meth c yL_tick.cls cL_tick 5 none G) (hN : N.2.2.2 = 1) (k89 : Sg → Nat → Int32 → Option (Int32 × Sg × Nat)) (hk89 : ∀ (τ : Sg) (k2 : Nat) (m2 : Int32) (a2 : Nat) (H : Heap) (locs : List Loc) (ls : Array Slot) (cells d : Nat), q_S G ad N X τ [(a2, 3, k2, m2)] A s.heap H locs → lv_has ls 5 [(0, .ref (ad 40 0)), (2, .ref a2)] → k89 τ k2 m2 = some (res.1, res.2, d) → cells + d = n → W p l e { frames := 9, cells := n, slots := 6 * n, locals := 208 } s m args below meth c H locs cells (6 * cells) (MQ below (k_Q none (q_V G ad N res.2 A) A) args s n (6 * n) A) (F0 m 89 ls [])) : ∀ (τ : Sg) (k2 : Nat) (m2 : Int32) (a2 : Nat) (H : Heap) (locs : List Loc) (ls : Array Slot) (cells d : Nat), q_S G ad N X τ [(a2, 3, k2, m2)] A s.heap H locs → lv_has ls 5 [(0, .ref (ad 40 0)), (2, .ref a2)] → f_L_tick_271 k89 τ k2 m2 = some (res.1, res.2, d) → cells + d = n → W p l e { frames := 9, cells := n, slots := 6 * n, locals := 208 } s m args below meth c H locs cells (6 * cells) (MQ below (k_Q none (q_V G ad N res.2 A) A) args s n (6 * n) A) (F0 m 271 ls []) := by
  intro τ k2 m2 a2 H locs ls cells d S hl hf hd
  unfold f_L_tick_271 at hf
  refine lv_goto (tgt := 89) C.1 C.2.1 dL_tick_271 (by decide) ?_
  exact hk89 _ k2 m2 a2 _ _ _ _ _ S (lv_sub hl [0, 1] rfl) hf hd
set_option maxHeartbeats 4000000 in
set_option maxRecDepth 100000 in
theorem w_L_tick_201 {p : Program} {l : Launch} {e : Env} {s : State} {m : MethodId} {args : Array Value} {below : List Frame} {meth : Method} {c : Code} {G : Gx} {ad : Ad} {N : Nn} {X : Ex} {A : Nat → Prop} {res : Int32 × Sg} {n : Nat} (C : Cx p s m args meth c yL_tick.cls cL_tick 5 none G) (hN : N.2.2.2 = 1) (k89 : Sg → Nat → Int32 → Option (Int32 × Sg × Nat)) (hk89 : ∀ (τ : Sg) (k2 : Nat) (m2 : Int32) (a2 : Nat) (H : Heap) (locs : List Loc) (ls : Array Slot) (cells d : Nat), q_S G ad N X τ [(a2, 3, k2, m2)] A s.heap H locs → lv_has ls 5 [(0, .ref (ad 40 0)), (2, .ref a2)] → k89 τ k2 m2 = some (res.1, res.2, d) → cells + d = n → W p l e { frames := 9, cells := n, slots := 6 * n, locals := 208 } s m args below meth c H locs cells (6 * cells) (MQ below (k_Q none (q_V G ad N res.2 A) A) args s n (6 * n) A) (F0 m 89 ls [])) : ∀ (τ : Sg) (k2 : Nat) (m2 : Int32) (o3 : Nat) (a2 : Nat) (H : Heap) (locs : List Loc) (ls : Array Slot) (cells d : Nat), q_S G ad N X τ [(a2, 3, k2, m2)] A s.heap H locs → lv_has ls 5 [(0, .ref (ad 40 0)), (2, .ref a2), (3, .ref (ad 51 o3))] → (o3 < N.2.2.1) → f_L_tick_201 k89 τ k2 m2 o3 = some (res.1, res.2, d) → cells + d = n → W p l e { frames := 9, cells := n, slots := 6 * n, locals := 208 } s m args below meth c H locs cells (6 * cells) (MQ below (k_Q none (q_V G ad N res.2 A) A) args s n (6 * n) A) (F0 m 201 ls []) := by
  intro τ k2 m2 o3 a2 H locs ls cells d S hl ho3 hf hd
  unfold f_L_tick_201 at hf
  refine lv_aload_n C.1 C.2.1 dL_tick_201 rfl (lv_at hl 2 rfl) ?_
  refine lv_iconst (v := 2) C.1 C.2.1 dL_tick_202 (by decide) ?_
  refine q_iald C S 51 o3 4 rfl ho3 (fun _ => rfl) (i := 2) (by decide) dL_tick_203 ?_
  refine lv_if_lt (tgt := 271) C.1 C.2.1 dL_tick_204 (by decide) (fun c_204 => ?_) (fun c_204 => ?_)
  · rw [if_pos c_204] at hf
    exact w_L_tick_271 C hN k89 hk89 _ k2 m2 a2 _ _ _ _ _ S (lv_sub hl [0, 1] rfl) hf hd
  · rw [if_neg c_204] at hf
    refine lv_aload_n C.1 C.2.1 dL_tick_207 rfl (lv_at hl 0 rfl) ?_
    refine lv_aload_n C.1 C.2.1 dL_tick_208 rfl (lv_at hl 2 rfl) ?_
    refine lv_iconst (v := 0) C.1 C.2.1 dL_tick_209 (by decide) ?_
    refine q_iald C S 51 o3 4 rfl ho3 (fun _ => rfl) (i := 0) (by decide) dL_tick_210 ?_
    refine lv_aload_n C.1 C.2.1 dL_tick_211 rfl (lv_at hl 2 rfl) ?_
    refine lv_iconst (v := 2) C.1 C.2.1 dL_tick_212 (by decide) ?_
    refine q_iald C S 51 o3 4 rfl ho3 (fun _ => rfl) (i := 2) (by decide) dL_tick_213 ?_
    refine lv_iconst (v := (-1)) C.1 C.2.1 dL_tick_214 (by decide) ?_
    obtain ⟨r1, τ2, c_215, d_215, q_215, hf, e_215⟩ := bqb hf
    refine q_callV (τ' := τ2) (v := (some (.int r1))) C S [.int (τ 51 o3 ((0 : Int32)).toNatClampNeg), .int (τ 51 o3 ((2 : Int32)).toNatClampNeg), .int (-1)] rfl (fun ad' he => by have h := m_L_isLost l G ad' N τ (τ 51 o3 ((0 : Int32)).toNatClampNeg) (τ 51 o3 ((2 : Int32)).toNatClampNeg) (-1) (r1, τ2) c_215 q_215 H.size; rw [he 40 0 rfl] at h; exact h) kv_L_isLost tw_7_43 ⟨(Nat.le_of_ble_eq_true rfl), (Nat.le_of_ble_eq_true rfl)⟩ rfl rfl (Nat.le_of_ble_eq_true rfl) hl.1 ⟨(show _ ≤ n from by omega), (show _ ≤ 6 * n from by omega)⟩ dL_tick_215 (fun H locs S => ?_)
    replace hd := q_hd2 hd e_215
    refine lv_if_ne (tgt := 271) C.1 C.2.1 dL_tick_218 (by decide) (fun c_218 => ?_) (fun c_218 => ?_)
    · rw [if_neg c_218] at hf
      exact w_L_tick_271 C hN k89 hk89 _ k2 m2 a2 _ _ _ _ _ S (lv_sub hl [0, 1] rfl) hf hd
    · rw [if_pos c_218] at hf
      refine lv_aload_n C.1 C.2.1 dL_tick_221 rfl (lv_at hl 2 rfl) ?_
      refine lv_iconst (v := 0) C.1 C.2.1 dL_tick_222 (by decide) ?_
      refine q_iald C S 51 o3 4 rfl ho3 (fun _ => rfl) (i := 0) (by decide) dL_tick_223 ?_
      refine lv_iconst (v := 2) C.1 C.2.1 dL_tick_224 (by decide) ?_
      refine lv_icmp_ne (tgt := 271) C.1 C.2.1 dL_tick_225 (by decide) (fun c_225 => ?_) (fun c_225 => ?_)
      · rw [if_neg c_225] at hf
        exact w_L_tick_271 C hN k89 hk89 _ k2 m2 a2 _ _ _ _ _ S (lv_sub hl [0, 1] rfl) hf hd
      · rw [if_pos c_225] at hf
        refine lv_aload_n C.1 C.2.1 dL_tick_228 rfl (lv_at hl 0 rfl) ?_
        refine q_getR C S 40 0 50 1 rfl rfl rfl cf_11 1 (by decide) (qr_40_1 G τ2 0) tw_4_97 dL_tick_229 ?_
        refine lv_aload_n C.1 C.2.1 dL_tick_232 rfl (lv_at hl 2 rfl) ?_
        refine lv_iconst (v := 1) C.1 C.2.1 dL_tick_233 (by decide) ?_
        refine q_iald C S 51 o3 4 rfl ho3 (fun _ => rfl) (i := 1) (by decide) dL_tick_234 ?_
        obtain ⟨g_235, hf⟩ := gd hf
        have ob_235 := q_ltN S (Or.inl (by decide)) (q_glt g_235)
        refine q_get C S 1 (Or.inl (by decide)) (by decide) g_235 tw_5_199 ⟨(Nat.le_of_ble_eq_true rfl), (Nat.le_of_ble_eq_true rfl)⟩ (Nat.le_of_ble_eq_true rfl) hl.1 ⟨(show _ ≤ n from by omega), (show _ ≤ 6 * n from by omega)⟩ dL_tick_235 (fun H locs S => ?_)
        refine q_cast C S 42 (((τ2 51 o3 ((1 : Int32)).toNatClampNeg)).toNatClampNeg) rfl ob_235 "BusLiftsLaw$Call" (fun _ => Or.inl ⟨_, _, _, _, rfl, rfl⟩) tw_4_19 dL_tick_240 ?_
        refine lv_aload_n C.1 C.2.1 dL_tick_243 rfl (lv_at hl 2 rfl) ?_
        refine lv_iconst (v := 2) C.1 C.2.1 dL_tick_244 (by decide) ?_
        refine q_iald C S 51 o3 4 rfl ho3 (fun _ => rfl) (i := 2) (by decide) dL_tick_245 ?_
        obtain ⟨τ3, e_246, hf⟩ := stb hf
        refine q_putIN C S 42 (((τ2 51 o3 ((1 : Int32)).toNatClampNeg)).toNatClampNeg) 8 rfl rfl ob_235 cf_8 8 (by decide) (qp_42_8 G τ2 (((τ2 51 o3 ((1 : Int32)).toNatClampNeg)).toNatClampNeg) _) rfl rfl rfl (List.mem_of_getElem? (i := 35) rfl) dL_tick_246 (fun H locs S => ?_)
        rw [← e_246] at S
        refine lv_aload_n C.1 C.2.1 dL_tick_249 rfl (lv_at hl 0 rfl) ?_
        refine q_getR C S 40 0 50 1 rfl rfl rfl cf_11 1 (by decide) (qr_40_1 G τ3 0) tw_4_97 dL_tick_250 ?_
        refine lv_aload_n C.1 C.2.1 dL_tick_253 rfl (lv_at hl 2 rfl) ?_
        refine lv_iconst (v := 1) C.1 C.2.1 dL_tick_254 (by decide) ?_
        refine q_iald C S 51 o3 4 rfl ho3 (fun _ => rfl) (i := 1) (by decide) dL_tick_255 ?_
        obtain ⟨g_256, hf⟩ := gd hf
        have ob_256 := q_ltN S (Or.inl (by decide)) (q_glt g_256)
        refine q_get C S 1 (Or.inl (by decide)) (by decide) g_256 tw_5_199 ⟨(Nat.le_of_ble_eq_true rfl), (Nat.le_of_ble_eq_true rfl)⟩ (Nat.le_of_ble_eq_true rfl) hl.1 ⟨(show _ ≤ n from by omega), (show _ ≤ 6 * n from by omega)⟩ dL_tick_256 (fun H locs S => ?_)
        refine q_cast C S 42 (((τ3 51 o3 ((1 : Int32)).toNatClampNeg)).toNatClampNeg) rfl ob_256 "BusLiftsLaw$Call" (fun _ => Or.inl ⟨_, _, _, _, rfl, rfl⟩) tw_4_19 dL_tick_261 ?_
        refine lv_aload_n C.1 C.2.1 dL_tick_264 rfl (lv_at hl 0 rfl) ?_
        refine q_getI C S 40 0 rfl rfl cf_11 7 (by decide) (qi_40_7 G τ3 0) tw_4_103 dL_tick_265 ?_
        obtain ⟨τ4, e_268, hf⟩ := stb hf
        refine q_putIN C S 42 (((τ3 51 o3 ((1 : Int32)).toNatClampNeg)).toNatClampNeg) 9 rfl rfl ob_256 cf_8 9 (by decide) (qp_42_9 G τ3 (((τ3 51 o3 ((1 : Int32)).toNatClampNeg)).toNatClampNeg) _) rfl rfl rfl (List.mem_of_getElem? (i := 36) rfl) dL_tick_268 (fun H locs S => ?_)
        rw [← e_268] at S
        exact w_L_tick_271 C hN k89 hk89 _ k2 m2 a2 _ _ _ _ _ S (lv_sub hl [0, 1] rfl) hf hd
set_option maxHeartbeats 4000000 in
set_option maxRecDepth 100000 in
theorem w_L_tick_195 {p : Program} {l : Launch} {e : Env} {s : State} {m : MethodId} {args : Array Value} {below : List Frame} {meth : Method} {c : Code} {G : Gx} {ad : Ad} {N : Nn} {X : Ex} {A : Nat → Prop} {res : Int32 × Sg} {n : Nat} (C : Cx p s m args meth c yL_tick.cls cL_tick 5 none G) (hN : N.2.2.2 = 1) (k89 : Sg → Nat → Int32 → Option (Int32 × Sg × Nat)) (hk89 : ∀ (τ : Sg) (k2 : Nat) (m2 : Int32) (a2 : Nat) (H : Heap) (locs : List Loc) (ls : Array Slot) (cells d : Nat), q_S G ad N X τ [(a2, 3, k2, m2)] A s.heap H locs → lv_has ls 5 [(0, .ref (ad 40 0)), (2, .ref a2)] → k89 τ k2 m2 = some (res.1, res.2, d) → cells + d = n → W p l e { frames := 9, cells := n, slots := 6 * n, locals := 208 } s m args below meth c H locs cells (6 * cells) (MQ below (k_Q none (q_V G ad N res.2 A) A) args s n (6 * n) A) (F0 m 89 ls [])) (k111 : Sg → Nat → Int32 → Nat → Int32 → Option (Int32 × Sg × Nat)) (hk111 : ∀ (τ : Sg) (k2 : Nat) (m2 : Int32) (o3 : Nat) (v4 : Int32) (a2 : Nat) (H : Heap) (locs : List Loc) (ls : Array Slot) (cells d : Nat), q_S G ad N X τ [(a2, 3, k2, m2)] A s.heap H locs → lv_has ls 5 [(0, .ref (ad 40 0)), (2, .ref a2), (3, .ref (ad 51 o3)), (4, .int v4)] → (o3 < N.2.2.1) → k111 τ k2 m2 o3 v4 = some (res.1, res.2, d) → cells + d = n → W p l e { frames := 9, cells := n, slots := 6 * n, locals := 208 } s m args below meth c H locs cells (6 * cells) (MQ below (k_Q none (q_V G ad N res.2 A) A) args s n (6 * n) A) (F0 m 111 ls [])) : ∀ (τ : Sg) (k2 : Nat) (m2 : Int32) (o3 : Nat) (v4 : Int32) (a2 : Nat) (H : Heap) (locs : List Loc) (ls : Array Slot) (cells d : Nat), q_S G ad N X τ [(a2, 3, k2, m2)] A s.heap H locs → lv_has ls 5 [(0, .ref (ad 40 0)), (2, .ref a2), (3, .ref (ad 51 o3)), (4, .int v4)] → (o3 < N.2.2.1) → f_L_tick_195 k89 k111 τ k2 m2 o3 v4 = some (res.1, res.2, d) → cells + d = n → W p l e { frames := 9, cells := n, slots := 6 * n, locals := 208 } s m args below meth c H locs cells (6 * cells) (MQ below (k_Q none (q_V G ad N res.2 A) A) args s n (6 * n) A) (F0 m 195 ls []) := by
  intro τ k2 m2 o3 v4 a2 H locs ls cells d S hl ho3 hf hd
  unfold f_L_tick_195 at hf
  refine lv_iinc (v := (v4 + 1)) (lv' := [(4, .int (v4 + 1)), (0, .ref (ad 40 0)), (2, .ref a2), (3, .ref (ad 51 o3))]) C.1 C.2.1 dL_tick_195 hl (k := 3) rfl rfl (by decide) rfl (fun ls hl => ?_)
  refine lv_goto (tgt := 111) C.1 C.2.1 dL_tick_198 (by decide) ?_
  exact hk111 _ k2 m2 o3 (v4 + 1) a2 _ _ _ _ _ S (lv_sub hl [1, 2, 3, 0] rfl) ho3 hf hd
set_option maxHeartbeats 4000000 in
set_option maxRecDepth 100000 in
theorem w_L_tick_111 {p : Program} {l : Launch} {e : Env} {s : State} {m : MethodId} {args : Array Value} {below : List Frame} {meth : Method} {c : Code} {G : Gx} {ad : Ad} {N : Nn} {X : Ex} {A : Nat → Prop} {res : Int32 × Sg} {n : Nat} (C : Cx p s m args meth c yL_tick.cls cL_tick 5 none G) (hN : N.2.2.2 = 1) (k89 : Sg → Nat → Int32 → Option (Int32 × Sg × Nat)) (hk89 : ∀ (τ : Sg) (k2 : Nat) (m2 : Int32) (a2 : Nat) (H : Heap) (locs : List Loc) (ls : Array Slot) (cells d : Nat), q_S G ad N X τ [(a2, 3, k2, m2)] A s.heap H locs → lv_has ls 5 [(0, .ref (ad 40 0)), (2, .ref a2)] → k89 τ k2 m2 = some (res.1, res.2, d) → cells + d = n → W p l e { frames := 9, cells := n, slots := 6 * n, locals := 208 } s m args below meth c H locs cells (6 * cells) (MQ below (k_Q none (q_V G ad N res.2 A) A) args s n (6 * n) A) (F0 m 89 ls [])) : ∀ n9 : Nat, ∀ (τ : Sg) (k2 : Nat) (m2 : Int32) (o3 : Nat) (v4 : Int32) (a2 : Nat) (H : Heap) (locs : List Loc) (ls : Array Slot) (cells d : Nat), q_S G ad N X τ [(a2, 3, k2, m2)] A s.heap H locs → lv_has ls 5 [(0, .ref (ad 40 0)), (2, .ref a2), (3, .ref (ad 51 o3)), (4, .int v4)] → (o3 < N.2.2.1) → f_L_tick_111 k89 n9 τ k2 m2 o3 v4 = some (res.1, res.2, d) → cells + d = n → W p l e { frames := 9, cells := n, slots := 6 * n, locals := 208 } s m args below meth c H locs cells (6 * cells) (MQ below (k_Q none (q_V G ad N res.2 A) A) args s n (6 * n) A) (F0 m 111 ls []) := by
  intro n9
  induction n9 with
  | zero => intro τ k2 m2 o3 v4 a2 H locs ls cells d S hl ho3 hf hd; cases hf
  | succ n9 ih =>
    intro τ k2 m2 o3 v4 a2 H locs ls cells d S hl ho3 hf hd
    rw [f_L_tick_111_s] at hf
    refine lv_iload C.1 C.2.1 dL_tick_111 (lv_at hl 3 rfl) ?_
    refine lv_aload_n C.1 C.2.1 dL_tick_113 rfl (lv_at hl 0 rfl) ?_
    refine q_getR C S 40 0 50 0 rfl rfl rfl cf_11 0 (by decide) (qr_40_0 G τ 0) tw_4_96 dL_tick_114 ?_
    refine q_size C S 0 (Or.inl (by decide)) (by decide) tw_5_190 ⟨(Nat.le_of_ble_eq_true rfl), (Nat.le_of_ble_eq_true rfl)⟩ (Nat.le_of_ble_eq_true rfl) hl.1 ⟨(show _ ≤ n from by omega), (show _ ≤ 6 * n from by omega)⟩ dL_tick_117 (fun H locs S => ?_)
    refine lv_icmp_ge (tgt := 201) C.1 C.2.1 dL_tick_122 (by decide) (fun c_122 => ?_) (fun c_122 => ?_)
    · rw [if_pos c_122] at hf
      exact w_L_tick_201 C hN k89 hk89 _ k2 m2 o3 a2 _ _ _ _ _ S (lv_sub hl [0, 1, 2] rfl) ho3 hf hd
    · rw [if_neg c_122] at hf
      refine lv_iload C.1 C.2.1 dL_tick_125 (lv_at hl 3 rfl) ?_
      refine lv_aload_n C.1 C.2.1 dL_tick_127 rfl (lv_at hl 2 rfl) ?_
      refine lv_iconst (v := 2) C.1 C.2.1 dL_tick_128 (by decide) ?_
      refine q_iald C S 51 o3 4 rfl ho3 (fun _ => rfl) (i := 2) (by decide) dL_tick_129 ?_
      refine lv_icmp_ne (tgt := 136) C.1 C.2.1 dL_tick_130 (by decide) (fun c_130 => ?_) (fun c_130 => ?_)
      · rw [if_neg c_130] at hf
        refine lv_aload_n C.1 C.2.1 dL_tick_136 rfl (lv_at hl 0 rfl) ?_
        refine lv_aload_n C.1 C.2.1 dL_tick_137 rfl (lv_at hl 2 rfl) ?_
        refine lv_iconst (v := 0) C.1 C.2.1 dL_tick_138 (by decide) ?_
        refine q_iald C S 51 o3 4 rfl ho3 (fun _ => rfl) (i := 0) (by decide) dL_tick_139 ?_
        refine lv_aload_n C.1 C.2.1 dL_tick_140 rfl (lv_at hl 2 rfl) ?_
        refine lv_iconst (v := 2) C.1 C.2.1 dL_tick_141 (by decide) ?_
        refine q_iald C S 51 o3 4 rfl ho3 (fun _ => rfl) (i := 2) (by decide) dL_tick_142 ?_
        refine lv_iload C.1 C.2.1 dL_tick_143 (lv_at hl 3 rfl) ?_
        obtain ⟨r1, τ2, c_145, d_145, q_145, hf, e_145⟩ := bqb hf
        refine q_callV (τ' := τ2) (v := (some (.int r1))) C S [.int (τ 51 o3 ((0 : Int32)).toNatClampNeg), .int (τ 51 o3 ((2 : Int32)).toNatClampNeg), .int v4] rfl (fun ad' he => by have h := m_L_isLost l G ad' N τ (τ 51 o3 ((0 : Int32)).toNatClampNeg) (τ 51 o3 ((2 : Int32)).toNatClampNeg) v4 (r1, τ2) c_145 q_145 H.size; rw [he 40 0 rfl] at h; exact h) kv_L_isLost tw_7_43 ⟨(Nat.le_of_ble_eq_true rfl), (Nat.le_of_ble_eq_true rfl)⟩ rfl rfl (Nat.le_of_ble_eq_true rfl) hl.1 ⟨(show _ ≤ n from by omega), (show _ ≤ 6 * n from by omega)⟩ dL_tick_145 (fun H locs S => ?_)
        replace hd := q_hd2 hd e_145
        refine lv_if_eq (tgt := 188) C.1 C.2.1 dL_tick_148 (by decide) (fun c_148 => ?_) (fun c_148 => ?_)
        · rw [if_pos c_148] at hf
          refine lv_aload_n C.1 C.2.1 dL_tick_188 rfl (lv_at hl 0 rfl) ?_
          refine lv_iload C.1 C.2.1 dL_tick_189 (lv_at hl 3 rfl) ?_
          refine lv_aload_n C.1 C.2.1 dL_tick_191 rfl (lv_at hl 2 rfl) ?_
          obtain ⟨r3, τ4, c_192, d_192, q_192, hf, e_192⟩ := bqb hf
          refine q_callV (τ' := τ4) (v := none) C S [.int v4, .ref (ad 51 o3)] rfl (fun ad' he => by have h := m_L_hear l G ad' N τ2 v4 o3 (r3, τ4) c_192 ho3 q_192 H.size; rw [he 40 0 rfl, he 51 o3 rfl] at h; exact h) kv_L_hear tw_7_48 ⟨(Nat.le_of_ble_eq_true rfl), (Nat.le_of_ble_eq_true rfl)⟩ rfl rfl (Nat.le_of_ble_eq_true rfl) hl.1 ⟨(show _ ≤ n from by omega), (show _ ≤ 6 * n from by omega)⟩ dL_tick_192 (fun H locs S => ?_)
          replace hd := q_hd2 hd e_192
          exact w_L_tick_195 C hN k89 hk89 (f_L_tick_111 k89 n9) ih _ k2 m2 o3 v4 a2 _ _ _ _ _ S (lv_sub hl [0, 1, 2, 3] rfl) ho3 hf hd
        · rw [if_neg c_148] at hf
          refine lv_aload_n C.1 C.2.1 dL_tick_151 rfl (lv_at hl 0 rfl) ?_
          refine q_getR C S 40 0 50 1 rfl rfl rfl cf_11 1 (by decide) (qr_40_1 G τ2 0) tw_4_97 dL_tick_152 ?_
          refine lv_aload_n C.1 C.2.1 dL_tick_155 rfl (lv_at hl 2 rfl) ?_
          refine lv_iconst (v := 1) C.1 C.2.1 dL_tick_156 (by decide) ?_
          refine q_iald C S 51 o3 4 rfl ho3 (fun _ => rfl) (i := 1) (by decide) dL_tick_157 ?_
          obtain ⟨g_158, hf⟩ := gd hf
          have ob_158 := q_ltN S (Or.inl (by decide)) (q_glt g_158)
          refine q_get C S 1 (Or.inl (by decide)) (by decide) g_158 tw_5_199 ⟨(Nat.le_of_ble_eq_true rfl), (Nat.le_of_ble_eq_true rfl)⟩ (Nat.le_of_ble_eq_true rfl) hl.1 ⟨(show _ ≤ n from by omega), (show _ ≤ 6 * n from by omega)⟩ dL_tick_158 (fun H locs S => ?_)
          refine q_cast C S 42 (((τ2 51 o3 ((1 : Int32)).toNatClampNeg)).toNatClampNeg) rfl ob_158 "BusLiftsLaw$Call" (fun _ => Or.inl ⟨_, _, _, _, rfl, rfl⟩) tw_4_19 dL_tick_163 ?_
          refine q_getRN C S 42 (((τ2 51 o3 ((1 : Int32)).toNatClampNeg)).toNatClampNeg) 45 (((τ2 51 o3 ((1 : Int32)).toNatClampNeg)).toNatClampNeg) rfl rfl ob_158 cf_8 11 (by decide) (qr_42_11 G τ2 (((τ2 51 o3 ((1 : Int32)).toNatClampNeg)).toNatClampNeg)) (List.mem_of_getElem? (i := 38) rfl) dL_tick_166 ?_
          refine lv_iload C.1 C.2.1 dL_tick_169 (lv_at hl 3 rfl) ?_
          obtain ⟨g_171, hf⟩ := gd hf
          refine q_by C S (((τ2 51 o3 ((1 : Int32)).toNatClampNeg)).toNatClampNeg) ob_158 g_171 dL_tick_171 ?_
          refine lv_dup C.1 C.2.1 dL_tick_172 rfl ?_
          refine q_getIN C S 43 (4 * (((τ2 51 o3 ((1 : Int32)).toNatClampNeg)).toNatClampNeg) + (v4).toNatClampNeg) rfl (q_lt4 ob_158 g_171) cf_10 3 (by decide) (qi_43_3 G τ2 (4 * (((τ2 51 o3 ((1 : Int32)).toNatClampNeg)).toNatClampNeg) + (v4).toNatClampNeg)) (List.mem_of_getElem? (i := 25) rfl) dL_tick_173 ?_
          refine lv_iconst (v := 1) C.1 C.2.1 dL_tick_176 (by decide) ?_
          refine lv_aload_n C.1 C.2.1 dL_tick_177 rfl (lv_at hl 2 rfl) ?_
          refine lv_iconst (v := 0) C.1 C.2.1 dL_tick_178 (by decide) ?_
          refine q_iald C S 51 o3 4 rfl ho3 (fun _ => rfl) (i := 0) (by decide) dL_tick_179 ?_
          refine lv_ishl C.1 C.2.1 dL_tick_180 ?_
          refine lv_ior C.1 C.2.1 dL_tick_181 ?_
          obtain ⟨τ5, e_182, hf⟩ := stb hf
          refine q_putIN C S 43 (4 * (((τ2 51 o3 ((1 : Int32)).toNatClampNeg)).toNatClampNeg) + (v4).toNatClampNeg) 3 rfl rfl (q_lt4 ob_158 g_171) cf_10 3 (by decide) (qp_43_3 G τ2 (4 * (((τ2 51 o3 ((1 : Int32)).toNatClampNeg)).toNatClampNeg) + (v4).toNatClampNeg) _) rfl rfl rfl (List.mem_of_getElem? (i := 25) rfl) dL_tick_182 (fun H locs S => ?_)
          rw [← e_182] at S
          refine lv_goto (tgt := 195) C.1 C.2.1 dL_tick_185 (by decide) ?_
          exact w_L_tick_195 C hN k89 hk89 (f_L_tick_111 k89 n9) ih _ k2 m2 o3 v4 a2 _ _ _ _ _ S (lv_sub hl [0, 1, 2, 3] rfl) ho3 hf hd
      · rw [if_pos c_130] at hf
        refine lv_goto (tgt := 195) C.1 C.2.1 dL_tick_133 (by decide) ?_
        exact w_L_tick_195 C hN k89 hk89 (f_L_tick_111 k89 n9) ih _ k2 m2 o3 v4 a2 _ _ _ _ _ S (lv_sub hl [0, 1, 2, 3] rfl) ho3 hf hd
set_option maxHeartbeats 4000000 in
set_option maxRecDepth 100000 in
theorem w_L_tick_89 {p : Program} {l : Launch} {e : Env} {s : State} {m : MethodId} {args : Array Value} {below : List Frame} {meth : Method} {c : Code} {G : Gx} {ad : Ad} {N : Nn} {X : Ex} {A : Nat → Prop} {res : Int32 × Sg} {n : Nat} (C : Cx p s m args meth c yL_tick.cls cL_tick 5 none G) (hN : N.2.2.2 = 1) : ∀ n9 : Nat, ∀ (τ : Sg) (k2 : Nat) (m2 : Int32) (a2 : Nat) (H : Heap) (locs : List Loc) (ls : Array Slot) (cells d : Nat), q_S G ad N X τ [(a2, 3, k2, m2)] A s.heap H locs → lv_has ls 5 [(0, .ref (ad 40 0)), (2, .ref a2)] → f_L_tick_89 n9 τ k2 m2 = some (res.1, res.2, d) → cells + d = n → W p l e { frames := 9, cells := n, slots := 6 * n, locals := 208 } s m args below meth c H locs cells (6 * cells) (MQ below (k_Q none (q_V G ad N res.2 A) A) args s n (6 * n) A) (F0 m 89 ls []) := by
  intro n9
  induction n9 with
  | zero => intro τ k2 m2 a2 H locs ls cells d S hl hf hd; cases hf
  | succ n9 ih =>
    intro τ k2 m2 a2 H locs ls cells d S hl hf hd
    rw [f_L_tick_89_s] at hf
    refine lv_aload_n C.1 C.2.1 dL_tick_89 rfl (lv_at hl 1 rfl) ?_
    refine q_hasN C S (List.mem_singleton.mpr rfl) (Or.inr ⟨rfl, hN⟩) (by decide) tw_5_148 ⟨(Nat.le_of_ble_eq_true rfl), (Nat.le_of_ble_eq_true rfl)⟩ (Nat.le_of_ble_eq_true rfl) hl.1 ⟨(show _ ≤ n from by omega), (show _ ≤ 6 * n from by omega)⟩ dL_tick_90 (fun H locs S => ?_)
    refine lv_if_eq (tgt := 274) C.1 C.2.1 dL_tick_95 (by decide) (fun c_95 => ?_) (fun c_95 => ?_)
    · rw [if_pos c_95] at hf
      exact w_L_tick_274 C hN _ _ _ _ _ _ (S.drop (fun x hx => absurd hx List.not_mem_nil)) (lv_sub hl [0] rfl) hf hd
    · rw [if_neg c_95] at hf
      refine lv_aload_n C.1 C.2.1 dL_tick_98 rfl (lv_at hl 1 rfl) ?_
      obtain ⟨g_99, hf⟩ := gd hf
      replace g_99 := Decidable.not_not.mp g_99
      have ob_99 := q_ltN S (Or.inr ⟨rfl, hN⟩) g_99.1
      refine q_next C S (Or.inr ⟨rfl, hN⟩) (by decide) g_99.1 g_99.2 tw_5_158 ⟨(Nat.le_of_ble_eq_true rfl), (Nat.le_of_ble_eq_true rfl)⟩ (Nat.le_of_ble_eq_true rfl) hl.1 ⟨(show _ ≤ n from by omega), (show _ ≤ 6 * n from by omega)⟩ dL_tick_99 (fun H locs S => ?_)
      refine q_cast C S 51 k2 rfl ob_99 "[I" (fun _ => Or.inr ⟨rfl, _, _, rfl⟩) tw_7_42 dL_tick_104 ?_
      refine lv_astore_n (lv' := [(3, .ref (ad 51 k2)), (0, .ref (ad 40 0)), (2, .ref a2)]) C.1 C.2.1 dL_tick_107 rfl hl (by decide) rfl (fun ls hl => ?_)
      refine lv_iconst (v := 0) C.1 C.2.1 dL_tick_108 (by decide) ?_
      refine lv_istore (lv' := [(4, .int 0), (3, .ref (ad 51 k2)), (0, .ref (ad 40 0)), (2, .ref a2)]) C.1 C.2.1 dL_tick_109 hl (by decide) rfl (fun ls hl => ?_)
      exact w_L_tick_111 C hN (f_L_tick_89 n9) ih FU _ (k2 + 1) m2 k2 0 a2 _ _ _ _ _ S (lv_sub hl [2, 3, 1, 0] rfl) ob_99 hf hd
set_option maxHeartbeats 4000000 in
set_option maxRecDepth 100000 in
theorem w_L_tick_82 {p : Program} {l : Launch} {e : Env} {s : State} {m : MethodId} {args : Array Value} {below : List Frame} {meth : Method} {c : Code} {G : Gx} {ad : Ad} {N : Nn} {X : Ex} {A : Nat → Prop} {res : Int32 × Sg} {n : Nat} (C : Cx p s m args meth c yL_tick.cls cL_tick 5 none G) (hN : N.2.2.2 = 1) : ∀ (τ : Sg) (H : Heap) (locs : List Loc) (ls : Array Slot) (cells d : Nat), q_S G ad N X τ [] A s.heap H locs → lv_has ls 5 [(0, .ref (ad 40 0)), (1, .ref (ad 50 3))] → f_L_tick_82 τ = some (res.1, res.2, d) → cells + d = n → W p l e { frames := 9, cells := n, slots := 6 * n, locals := 208 } s m args below meth c H locs cells (6 * cells) (MQ below (k_Q none (q_V G ad N res.2 A) A) args s n (6 * n) A) (F0 m 82 ls []) := by
  intro τ H locs ls cells d S hl hf hd
  unfold f_L_tick_82 at hf
  refine lv_aload_n C.1 C.2.1 dL_tick_82 rfl (lv_at hl 1 rfl) ?_
  obtain ⟨d_83, hf, e_83⟩ := acb hf
  refine q_iter C S 3 (Or.inr ⟨rfl, hN⟩) (by decide) tw_5_120 ⟨(Nat.le_of_ble_eq_true rfl), (Nat.le_of_ble_eq_true rfl)⟩ (Nat.le_of_ble_eq_true rfl) hl.1 ⟨(show _ ≤ n from by omega), (show _ ≤ 6 * n from by omega)⟩ dL_tick_83 (fun it1 H locs S => ?_)
  refine q_wid ?_
  replace hd := q_hd1 hd e_83
  refine lv_astore_n (lv' := [(2, .ref it1), (0, .ref (ad 40 0)), (1, .ref (ad 50 3))]) C.1 C.2.1 dL_tick_88 rfl hl (by decide) rfl (fun ls hl => ?_)
  exact w_L_tick_89 C hN FU _ 0 (τ 50 3 0) it1 _ _ _ _ _ S (lv_sub hl [1, 0] rfl) hf hd
set_option maxHeartbeats 4000000 in
set_option maxRecDepth 100000 in
theorem w_L_tick_76 {p : Program} {l : Launch} {e : Env} {s : State} {m : MethodId} {args : Array Value} {below : List Frame} {meth : Method} {c : Code} {G : Gx} {ad : Ad} {N : Nn} {X : Ex} {A : Nat → Prop} {res : Int32 × Sg} {n : Nat} (C : Cx p s m args meth c yL_tick.cls cL_tick 5 none G) (hN : N.2.2.2 = 1) (k18 : Sg → Int32 → Option (Int32 × Sg × Nat)) (hk18 : ∀ (τ : Sg) (v2 : Int32) (H : Heap) (locs : List Loc) (ls : Array Slot) (cells d : Nat), q_S G ad N X τ [] A s.heap H locs → lv_has ls 5 [(0, .ref (ad 40 0)), (1, .ref (ad 50 3)), (2, .int v2)] → k18 τ v2 = some (res.1, res.2, d) → cells + d = n → W p l e { frames := 9, cells := n, slots := 6 * n, locals := 208 } s m args below meth c H locs cells (6 * cells) (MQ below (k_Q none (q_V G ad N res.2 A) A) args s n (6 * n) A) (F0 m 18 ls [])) : ∀ (τ : Sg) (v2 : Int32) (H : Heap) (locs : List Loc) (ls : Array Slot) (cells d : Nat), q_S G ad N X τ [] A s.heap H locs → lv_has ls 5 [(0, .ref (ad 40 0)), (1, .ref (ad 50 3)), (2, .int v2)] → f_L_tick_76 k18 τ v2 = some (res.1, res.2, d) → cells + d = n → W p l e { frames := 9, cells := n, slots := 6 * n, locals := 208 } s m args below meth c H locs cells (6 * cells) (MQ below (k_Q none (q_V G ad N res.2 A) A) args s n (6 * n) A) (F0 m 76 ls []) := by
  intro τ v2 H locs ls cells d S hl hf hd
  unfold f_L_tick_76 at hf
  refine lv_iinc (v := (v2 + 1)) (lv' := [(2, .int (v2 + 1)), (0, .ref (ad 40 0)), (1, .ref (ad 50 3))]) C.1 C.2.1 dL_tick_76 hl (k := 2) rfl rfl (by decide) rfl (fun ls hl => ?_)
  refine lv_goto (tgt := 18) C.1 C.2.1 dL_tick_79 (by decide) ?_
  exact hk18 _ (v2 + 1) _ _ _ _ _ S (lv_sub hl [1, 2, 0] rfl) hf hd
set_option maxHeartbeats 4000000 in
set_option maxRecDepth 100000 in
theorem w_L_tick_18 {p : Program} {l : Launch} {e : Env} {s : State} {m : MethodId} {args : Array Value} {below : List Frame} {meth : Method} {c : Code} {G : Gx} {ad : Ad} {N : Nn} {X : Ex} {A : Nat → Prop} {res : Int32 × Sg} {n : Nat} (C : Cx p s m args meth c yL_tick.cls cL_tick 5 none G) (hN : N.2.2.2 = 1) : ∀ n9 : Nat, ∀ (τ : Sg) (v2 : Int32) (H : Heap) (locs : List Loc) (ls : Array Slot) (cells d : Nat), q_S G ad N X τ [] A s.heap H locs → lv_has ls 5 [(0, .ref (ad 40 0)), (1, .ref (ad 50 3)), (2, .int v2)] → f_L_tick_18 n9 τ v2 = some (res.1, res.2, d) → cells + d = n → W p l e { frames := 9, cells := n, slots := 6 * n, locals := 208 } s m args below meth c H locs cells (6 * cells) (MQ below (k_Q none (q_V G ad N res.2 A) A) args s n (6 * n) A) (F0 m 18 ls []) := by
  intro n9
  induction n9 with
  | zero => intro τ v2 H locs ls cells d S hl hf hd; cases hf
  | succ n9 ih =>
    intro τ v2 H locs ls cells d S hl hf hd
    rw [f_L_tick_18_s] at hf
    refine lv_iload_n C.1 C.2.1 dL_tick_18 rfl (lv_at hl 2 rfl) ?_
    refine lv_aload_n C.1 C.2.1 dL_tick_19 rfl (lv_at hl 0 rfl) ?_
    refine q_getR C S 40 0 50 1 rfl rfl rfl cf_11 1 (by decide) (qr_40_1 G τ 0) tw_4_97 dL_tick_20 ?_
    refine q_size C S 1 (Or.inl (by decide)) (by decide) tw_5_190 ⟨(Nat.le_of_ble_eq_true rfl), (Nat.le_of_ble_eq_true rfl)⟩ (Nat.le_of_ble_eq_true rfl) hl.1 ⟨(show _ ≤ n from by omega), (show _ ≤ 6 * n from by omega)⟩ dL_tick_23 (fun H locs S => ?_)
    refine lv_icmp_ge (tgt := 82) C.1 C.2.1 dL_tick_28 (by decide) (fun c_28 => ?_) (fun c_28 => ?_)
    · rw [if_pos c_28] at hf
      exact w_L_tick_82 C hN _ _ _ _ _ _ S (lv_sub hl [0, 1] rfl) hf hd
    · rw [if_neg c_28] at hf
      refine lv_aload_n C.1 C.2.1 dL_tick_31 rfl (lv_at hl 0 rfl) ?_
      refine q_getR C S 40 0 50 1 rfl rfl rfl cf_11 1 (by decide) (qr_40_1 G τ 0) tw_4_97 dL_tick_32 ?_
      refine lv_iload_n C.1 C.2.1 dL_tick_35 rfl (lv_at hl 2 rfl) ?_
      obtain ⟨g_36, hf⟩ := gd hf
      have ob_36 := q_ltN S (Or.inl (by decide)) (q_glt g_36)
      refine q_get C S 1 (Or.inl (by decide)) (by decide) g_36 tw_5_199 ⟨(Nat.le_of_ble_eq_true rfl), (Nat.le_of_ble_eq_true rfl)⟩ (Nat.le_of_ble_eq_true rfl) hl.1 ⟨(show _ ≤ n from by omega), (show _ ≤ 6 * n from by omega)⟩ dL_tick_36 (fun H locs S => ?_)
      refine q_cast C S 42 ((v2).toNatClampNeg) rfl ob_36 "BusLiftsLaw$Call" (fun _ => Or.inl ⟨_, _, _, _, rfl, rfl⟩) tw_4_19 dL_tick_41 ?_
      refine lv_astore_n (lv' := [(3, .ref (ad 42 ((v2).toNatClampNeg))), (0, .ref (ad 40 0)), (1, .ref (ad 50 3)), (2, .int v2)]) C.1 C.2.1 dL_tick_44 rfl hl (by decide) rfl (fun ls hl => ?_)
      refine lv_aload_n C.1 C.2.1 dL_tick_45 rfl (lv_at hl 0 rfl) ?_
      refine q_getIN C S 42 ((v2).toNatClampNeg) rfl ob_36 cf_8 3 (by decide) (qi_42_3 G τ ((v2).toNatClampNeg)) (List.mem_of_getElem? (i := 30) rfl) dL_tick_46 ?_
      refine lv_if_ne (tgt := 76) C.1 C.2.1 dL_tick_49 (by decide) (fun c_49 => ?_) (fun c_49 => ?_)
      · rw [if_neg c_49] at hf
        exact w_L_tick_76 C hN (f_L_tick_18 n9) ih _ v2 _ _ _ _ _ S (lv_sub hl [1, 2, 3] rfl) hf hd
      · rw [if_pos c_49] at hf
        refine lv_aload_n C.1 C.2.1 dL_tick_52 rfl (lv_at hl 0 rfl) ?_
        refine q_getIN C S 42 ((v2).toNatClampNeg) rfl ob_36 cf_8 2 (by decide) (qi_42_2 G τ ((v2).toNatClampNeg)) (List.mem_of_getElem? (i := 29) rfl) dL_tick_53 ?_
        refine lv_aload_n C.1 C.2.1 dL_tick_56 rfl (lv_at hl 1 rfl) ?_
        refine q_getI C S 40 0 rfl rfl cf_11 7 (by decide) (qi_40_7 G τ 0) tw_4_103 dL_tick_57 ?_
        refine lv_icmp_le (tgt := 66) C.1 C.2.1 dL_tick_60 (by decide) (fun c_60 => ?_) (fun c_60 => ?_)
        · rw [if_pos c_60] at hf
          refine lv_aload_n C.1 C.2.1 dL_tick_66 rfl (lv_at hl 0 rfl) ?_
          refine lv_iconst (v := 1) C.1 C.2.1 dL_tick_67 (by decide) ?_
          obtain ⟨τ1, e_68, hf⟩ := stb hf
          refine q_putIN C S 42 ((v2).toNatClampNeg) 3 rfl rfl ob_36 cf_8 3 (by decide) (qp_42_3 G τ ((v2).toNatClampNeg) _) rfl rfl rfl (List.mem_of_getElem? (i := 30) rfl) dL_tick_68 (fun H locs S => ?_)
          rw [← e_68] at S
          refine lv_aload_n C.1 C.2.1 dL_tick_71 rfl (lv_at hl 1 rfl) ?_
          refine lv_iload_n C.1 C.2.1 dL_tick_72 rfl (lv_at hl 3 rfl) ?_
          obtain ⟨r2, τ3, c_73, d_73, q_73, hf, e_73⟩ := bqb hf
          refine q_callV (τ' := τ3) (v := none) C S [.int v2] rfl (fun ad' he => by have h := m_L_announce l G ad' N τ1 v2 (r2, τ3) c_73 q_73 H.size; rw [he 40 0 rfl] at h; exact h) kv_L_announce tw_7_34 ⟨(Nat.le_of_ble_eq_true rfl), (Nat.le_of_ble_eq_true rfl)⟩ rfl rfl (Nat.le_of_ble_eq_true rfl) hl.1 ⟨(show _ ≤ n from by omega), (show _ ≤ 6 * n from by omega)⟩ dL_tick_73 (fun H locs S => ?_)
          replace hd := q_hd2 hd e_73
          exact w_L_tick_76 C hN (f_L_tick_18 n9) ih _ v2 _ _ _ _ _ S (lv_sub hl [1, 2, 3] rfl) hf hd
        · rw [if_neg c_60] at hf
          refine lv_goto (tgt := 76) C.1 C.2.1 dL_tick_63 (by decide) ?_
          exact w_L_tick_76 C hN (f_L_tick_18 n9) ih _ v2 _ _ _ _ _ S (lv_sub hl [1, 2, 3] rfl) hf hd
set_option maxHeartbeats 4000000 in
set_option maxRecDepth 100000 in
theorem w_L_tick_16 {p : Program} {l : Launch} {e : Env} {s : State} {m : MethodId} {args : Array Value} {below : List Frame} {meth : Method} {c : Code} {G : Gx} {ad : Ad} {N : Nn} {X : Ex} {A : Nat → Prop} {res : Int32 × Sg} {n : Nat} (C : Cx p s m args meth c yL_tick.cls cL_tick 5 none G) (hN : N.2.2.2 = 1) : ∀ (τ : Sg) (H : Heap) (locs : List Loc) (ls : Array Slot) (cells d : Nat), q_S G ad N X τ [] A s.heap H locs → lv_has ls 5 [(0, .ref (ad 40 0)), (1, .ref (ad 50 3))] → f_L_tick_16 τ = some (res.1, res.2, d) → cells + d = n → W p l e { frames := 9, cells := n, slots := 6 * n, locals := 208 } s m args below meth c H locs cells (6 * cells) (MQ below (k_Q none (q_V G ad N res.2 A) A) args s n (6 * n) A) (F0 m 16 ls []) := by
  intro τ H locs ls cells d S hl hf hd
  unfold f_L_tick_16 at hf
  refine lv_iconst (v := 0) C.1 C.2.1 dL_tick_16 (by decide) ?_
  refine lv_istore_n (lv' := [(2, .int 0), (0, .ref (ad 40 0)), (1, .ref (ad 50 3))]) C.1 C.2.1 dL_tick_17 rfl hl (by decide) rfl (fun ls hl => ?_)
  exact w_L_tick_18 C hN FU _ 0 _ _ _ _ _ S (lv_sub hl [1, 2, 0] rfl) hf hd

theorem kv_L_tick : KV yL_tick cL_tick 5 none 0 := ⟨tw_7_33, tw_7_32, tw_p_30, tw_1_0, by decide, by decide, by decide +kernel⟩
theorem W_mono {p : Program} {l : Launch} {e : Env} {R : Room} {s : State} {m : MethodId} {args : Array Value} {below : List Frame} {meth : Method} {c : Code} {H : Heap} {locs : List Loc} {cells slots : Nat} {Q Q' : State → Prop} {g : JFrame} (h : W p l e R s m args below meth c H locs cells slots Q g) (hQ : ∀ t, Q t → Q' t) : W p l e R s m args below meth c H locs cells slots Q' g := by
  intro T hT X
  obtain ⟨t, a, b⟩ := h T hT X
  exact ⟨t, a, hQ t b⟩
/-- the messages that wait become the old ones; a fresh list takes their place -/
def t_swap (τ : Sg) : Sg := fun k o i => if k = 50 ∧ o = 3 then τ 50 2 i else if k = 50 ∧ o = 2 then 0 else if k = 51 then τ 49 o i else τ k o i
def t_ad (ad ad' : Ad) : Ad := fun k o => if k = 50 ∧ o = 3 then ad' 50 2 else if k = 51 then ad' 49 o else if k = 52 ∧ o = 3 then ad' 52 2 else ad k o
def t_adx (ad ad' : Ad) (x : Nat) : Ad := fun k o => if k = 50 ∧ o = 2 then x else t_ad ad ad' k o
theorem t_sw2 (τ : Sg) : q_nn (t_swap τ) 2 = 0 ∧ q_cc (t_swap τ) 2 = 0 := ⟨rfl, rfl⟩
theorem t_sw3 (τ : Sg) : q_nn (t_swap τ) 3 = q_nn τ 2 ∧ q_cc (t_swap τ) 3 = q_cc τ 2 := ⟨rfl, rfl⟩
theorem t_swo (τ : Sg) {o : Nat} (h2 : o ≠ 2) (h3 : o ≠ 3) : t_swap τ 50 o = τ 50 o ∧ q_nn (t_swap τ) o = q_nn τ o ∧ q_cc (t_swap τ) o = q_cc τ o := by
  have e : t_swap τ 50 o = τ 50 o := by
    funext i
    show (if (50 : Nat) = 50 ∧ o = 3 then _ else if (50 : Nat) = 50 ∧ o = 2 then _ else if (50 : Nat) = 51 then _ else _) = _
    rw [if_neg (fun q => h3 q.2), if_neg (fun q => h2 q.2), if_neg (by decide)]
  exact ⟨e, by unfold q_nn; rw [e], by unfold q_cc; rw [e]⟩
theorem t_swk (τ : Sg) {k : Nat} (h : k ≠ 50) (h' : k ≠ 51) (o : Nat) : t_swap τ k o = τ k o := by
  funext i
  show (if k = 50 ∧ o = 3 then _ else if k = 50 ∧ o = 2 then _ else if k = 51 then _ else _) = _
  rw [if_neg (fun q => h q.1), if_neg (fun q => h q.1), if_neg h']
theorem t_sw51 (τ : Sg) (o : Nat) : t_swap τ 51 o = τ 49 o := rfl
theorem t_adk {ad ad' : Ad} {k o : Nat} (h1 : ¬ (k = 50 ∧ o = 3)) (h2 : k ≠ 51) (h3 : ¬ (k = 52 ∧ o = 3)) : t_ad ad ad' k o = ad k o := by
  show (if k = 50 ∧ o = 3 then _ else if k = 51 then _ else if k = 52 ∧ o = 3 then _ else _) = _
  rw [if_neg h1, if_neg h2, if_neg h3]
/-- the world behind the swap, read off the world before it -/
theorem q_swap {G : Gx} {ad : Ad} {nc nk x : Nat} {τ : Sg} {H H1 : Heap} (V : q_W G ad (nc, nk, 0, 0) τ H) (hx : ∀ k o, lp (nc, nk, 0, 0) τ k o → ad k o ≠ x) (hxs : G.2.2.1.size ≤ x) (hL : va_at G.1 z_cl (x, e_al 0 (G.2.2.2 3) 0) H1)
    (h40 : va_at G.1 z_cl (ad 40 0, q_cel G (t_adx ad ad x) (t_swap τ) 40 0) H1) (hk : ∀ k o, lp (nc, nk, 0, 0) τ k o → k ≠ 40 → H1[ad k o]? = H[ad k o]?) (hO : z_O G H1) : q_W G (t_adx ad ad x) (nc, nk, q_nn τ 2, 1) (t_swap τ) H1 := by
  obtain ⟨V1, V2, V3, V4, V5⟩ := V
  -- each present cell is an old one, or the fresh list
  have key : ∀ k o, lp (nc, nk, q_nn τ 2, 1) (t_swap τ) k o → (k = 50 ∧ o = 2) ∨ ∃ k' o', lp (nc, nk, 0, 0) τ k' o' ∧ t_adx ad ad x k o = ad k' o' ∧ ((k = 50 ∧ o = 3 ∧ k' = 50 ∧ o' = 2) ∨ (k = 51 ∧ k' = 49 ∧ o' = o) ∨ (k = 52 ∧ o = 3 ∧ k' = 52 ∧ o' = 2) ∨ (k' = k ∧ o' = o ∧ k ≠ 49 ∧ k ≠ 51 ∧ ¬ (k = 50 ∧ o = 2) ∧ ¬ (k = 50 ∧ o = 3) ∧ ¬ (k = 52 ∧ o = 2) ∧ ¬ (k = 52 ∧ o = 3))) := by
    intro k o h
    by_cases c1 : k = 50 ∧ o = 2
    · exact Or.inl c1
    refine Or.inr ?_
    by_cases c2 : k = 50 ∧ o = 3
    · exact ⟨50, 2, Or.inl (by decide), by obtain ⟨rfl, rfl⟩ := c2; rfl, Or.inl ⟨c2.1, c2.2, rfl, rfl⟩⟩
    by_cases c3 : k = 51
    · subst c3
      exact ⟨49, o, h, rfl, Or.inr (Or.inl ⟨rfl, rfl, rfl⟩)⟩
    by_cases c4 : k = 52 ∧ o = 3
    · obtain ⟨rfl, rfl⟩ := c4
      exact ⟨52, 2, ⟨Or.inl (by decide), h.2⟩, rfl, Or.inr (Or.inr (Or.inl ⟨rfl, rfl, rfl, rfl⟩))⟩
    have e0 : t_adx ad ad x k o = ad k o := (if_neg c1).trans (t_adk c2 c3 c4)
    unfold lp at h
    split at h
    · exact ⟨40, _, h, e0, Or.inr (Or.inr (Or.inr ⟨rfl, rfl, by decide, by decide, c1, c2, by simp, c4⟩))⟩
    · exact ⟨41, _, h, e0, Or.inr (Or.inr (Or.inr ⟨rfl, rfl, by decide, by decide, c1, c2, by simp, c4⟩))⟩
    · exact ⟨42, _, h, e0, Or.inr (Or.inr (Or.inr ⟨rfl, rfl, by decide, by decide, c1, c2, by simp, c4⟩))⟩
    · exact ⟨43, _, h, e0, Or.inr (Or.inr (Or.inr ⟨rfl, rfl, by decide, by decide, c1, c2, by simp, c4⟩))⟩
    · exact ⟨44, _, h, e0, Or.inr (Or.inr (Or.inr ⟨rfl, rfl, by decide, by decide, c1, c2, by simp, c4⟩))⟩
    · exact ⟨45, _, h, e0, Or.inr (Or.inr (Or.inr ⟨rfl, rfl, by decide, by decide, c1, c2, by simp, c4⟩))⟩
    · exact ⟨46, _, h, e0, Or.inr (Or.inr (Or.inr ⟨rfl, rfl, by decide, by decide, c1, c2, by simp, c4⟩))⟩
    · exact ⟨47, _, h, e0, Or.inr (Or.inr (Or.inr ⟨rfl, rfl, by decide, by decide, c1, c2, by simp, c4⟩))⟩
    · exact ⟨48, _, h, e0, Or.inr (Or.inr (Or.inr ⟨rfl, rfl, by decide, by decide, c1, c2, by simp, c4⟩))⟩
    · rw [(t_sw2 τ).1] at h; exact absurd h (Nat.not_lt_zero _)
    · have c5 : ¬ o = 2 := fun q => c1 ⟨rfl, q⟩
      have c6 : ¬ o = 3 := fun q => c2 ⟨rfl, q⟩
      exact ⟨50, _, Or.inl (by rcases h with h | h; exact h; exact absurd h.1 c6), e0, Or.inr (Or.inr (Or.inr ⟨rfl, rfl, by decide, by decide, c1, c2, by simp, c4⟩))⟩
    · exact absurd rfl c3
    · have c6 : ¬ o = 3 := fun q => c4 ⟨rfl, q⟩
      by_cases c5 : o = 2
      · subst c5; exact absurd (t_sw2 τ).2 h.2
      · exact ⟨52, _, ⟨Or.inl (by rcases h.1 with h | h; exact h; exact absurd h.1 c6), by rw [← (t_swo τ c5 c6).2.2]; exact h.2⟩, e0, Or.inr (Or.inr (Or.inr ⟨rfl, rfl, by decide, by decide, c1, c2, fun q => c5 q.2, c4⟩))⟩
    · exact h.elim
  have k50 : ∀ o, o ≠ 2 → o ≠ 3 → t_adx ad ad x 50 o = ad 50 o := fun o h h' => (if_neg (fun q => h q.2)).trans (t_adk (fun q => h' q.2) (by decide) (by simp))
  have kk : ∀ k o, k ≠ 50 → k ≠ 51 → k ≠ 52 → t_adx ad ad x k o = ad k o := fun k o h1 h2 h3 => (if_neg (fun q => h1 q.1)).trans (t_adk (fun q => h1 q.1) h2 (fun q => h3 q.1))
  refine ⟨fun k o h => ?_, fun k1 o1 k2 o2 h1 h2 he => ?_, fun k o h => ?_, hO, fun o ho => ?_⟩
  · rcases key k o h with ⟨rfl, rfl⟩ | ⟨k', o', hp, e1, hc⟩
    · exact hL
    · rw [e1]
      rcases hc with ⟨rfl, rfl, rfl, rfl⟩ | ⟨rfl, rfl, rfl⟩ | ⟨rfl, rfl, rfl, rfl⟩ | ⟨rfl, rfl, d1, d2, d3, d4, d5, d6⟩
      · have := (V1 50 2 hp).kept (hk 50 2 hp (by decide))
        show va_at G.1 z_cl (ad 50 2, e_al (t_swap τ 50 3 0) (q_ed G (t_adx ad ad x) (t_swap τ) 3) (t_swap τ 50 3 2)) H1
        exact this
      · exact (V1 49 o' hp).kept (hk 49 o' hp (by decide))
      · have := (V1 52 2 hp).kept (hk 52 2 hp (by decide))
        show va_at G.1 z_cl (ad 52 2, e_oa G (q_cc (t_swap τ) 3) (q_el (t_adx ad ad x) (t_swap τ) 3)) H1
        exact this
      · by_cases c40 : k' = 40
        · subst c40
          have : o' = 0 := hp
          subst this
          exact h40
        · have e2 : q_cel G (t_adx ad ad x) (t_swap τ) k' o' = q_cel G ad τ k' o' := by
            unfold lp at hp
            split at hp
            · exact absurd rfl c40
            · simp only [q_cel, t_swk τ (k := 41) (by decide) (by decide)]
            · simp only [q_cel, t_swk τ (k := 42) (by decide) (by decide), kk 45 _ (by decide) (by decide) (by decide)]
            · simp only [q_cel, t_swk τ (k := 43) (by decide) (by decide), kk 44 _ (by decide) (by decide) (by decide)]
            · simp only [q_cel, t_swk τ (k := 44) (by decide) (by decide)]
            · simp only [q_cel, kk 43 _ (by decide) (by decide) (by decide)]
            · simp only [q_cel, t_swk τ (k := 46) (by decide) (by decide)]
            · simp only [q_cel, t_swk τ (k := 47) (by decide) (by decide)]
            · simp only [q_cel, t_swk τ (k := 48) (by decide) (by decide)]
            · exact absurd rfl d1
            · have c5 : ¬ o' = 2 := fun q => d3 ⟨rfl, q⟩
              have c6 : ¬ o' = 3 := fun q => d4 ⟨rfl, q⟩
              obtain ⟨f1, f2, f3⟩ := t_swo τ c5 c6
              show e_al _ _ _ = e_al _ _ _
              unfold q_ed
              rw [f1, f3, show t_adx ad ad x 52 o' = ad 52 o' from (if_neg (by simp)).trans (t_adk (by simp) (by decide) (fun q => c6 q.2))]
            · exact absurd rfl d2
            · have c5 : ¬ o' = 2 := fun q => d5 ⟨rfl, q⟩
              have c6 : ¬ o' = 3 := fun q => d6 ⟨rfl, q⟩
              obtain ⟨f1, f2, f3⟩ := t_swo τ c5 c6
              show e_oa _ _ _ = e_oa _ _ _
              rw [f3]
              have : q_el (t_adx ad ad x) (t_swap τ) o' = q_el ad τ o' := by
                funext j
                unfold q_el
                rw [f2]
                have hlt : o' < 3 := by rcases hp.1 with h | h; exact h; exact absurd h.1 c6
                rcases (show o' = 0 ∨ o' = 1 by omega) with rfl | rfl
                · rw [show t_adx ad ad x (q_ek 0) j = ad (q_ek 0) j from kk 41 j (by decide) (by decide) (by decide)]
                · rw [show t_adx ad ad x (q_ek 1) j = ad (q_ek 1) j from kk 42 j (by decide) (by decide) (by decide)]
              rw [this]
            · exact hp.elim
          rw [e2]
          exact (V1 k' o' hp).kept (hk k' o' hp c40)
  · rcases key k1 o1 h1 with ⟨rfl, rfl⟩ | ⟨k', o', hp, e1, hc⟩ <;> rcases key k2 o2 h2 with ⟨rfl, rfl⟩ | ⟨k'', o'', hp', e1', hc'⟩
    · exact ⟨rfl, rfl⟩
    · rw [e1'] at he
      exact absurd he.symm (hx _ _ hp')
    · rw [e1] at he
      exact absurd he (hx _ _ hp)
    · rw [e1, e1'] at he
      obtain ⟨rfl, rfl⟩ := V2 _ _ _ _ hp hp' he
      rcases hc with ⟨a1, a2, a3, a4⟩ | ⟨a1, a2, a3⟩ | ⟨a1, a2, a3, a4⟩ | ⟨a1, a2, d1, d2, d3, d4, d5, d6⟩ <;> rcases hc' with ⟨b1, b2, b3, b4⟩ | ⟨b1, b2, b3⟩ | ⟨b1, b2, b3, b4⟩ | ⟨b1, b2, f1, f2, f3, f4, f5, f6⟩
      · exact ⟨a1.trans b1.symm, a2.trans b2.symm⟩
      · omega
      · omega
      · exact absurd ⟨b1.symm.trans a3, b2.symm.trans a4⟩ f3
      · omega
      · exact ⟨a1.trans b1.symm, a3.symm.trans b3⟩
      · omega
      · exact absurd (b1.symm.trans a2) f1
      · omega
      · omega
      · exact ⟨a1.trans b1.symm, a2.trans b2.symm⟩
      · exact absurd ⟨b1.symm.trans a3, b2.symm.trans a4⟩ f5
      · exact absurd ⟨a1.symm.trans b3, a2.symm.trans b4⟩ d3
      · exact absurd (a1.symm.trans b2) d1
      · exact absurd ⟨a1.symm.trans b3, a2.symm.trans b4⟩ d5
      · exact ⟨a1.symm.trans b1, a2.symm.trans b2⟩
  · rcases key k o h with ⟨rfl, rfl⟩ | ⟨k', o', hp, e1, hc⟩
    · exact hxs
    · rw [e1]
      exact V3 _ _ hp
  · rcases q_lst4 ho with rfl | rfl | rfl | rfl
    · have := V5 0 (Or.inl (by decide))
      obtain ⟨f1, f2, f3⟩ := t_swo τ (o := 0) (by decide) (by decide)
      rw [f1, f2, f3]
      exact this
    · have := V5 1 (Or.inl (by decide))
      obtain ⟨f1, f2, f3⟩ := t_swo τ (o := 1) (by decide) (by decide)
      rw [f1, f2, f3]
      exact this
    · exact ⟨rfl, Nat.le_refl _, Nat.zero_le _, Or.inl rfl, Nat.le_refl _⟩
    · have := V5 2 (Or.inl (by decide))
      obtain ⟨f1, f2, f3, f4, f5⟩ := this
      exact ⟨f1, f2, f3, f4, Nat.le_refl _⟩
/-- and behind a tick: the old messages are forgotten -/
theorem q_unswap {G : Gx} {ad ad' : Ad} {nc nk no : Nat} {τ : Sg} {A : Nat → Prop} {H : Heap} (h : q_V G (t_ad ad ad') (nc, nk, no, 1) τ A H) : q_V G ad (nc, nk, 0, 0) τ A H := by
  obtain ⟨ad2, e2, V, a2⟩ := h
  have sub : ∀ k o, lp (nc, nk, 0, 0) τ k o → lp (nc, nk, no, 1) τ k o ∧ ¬ (k = 50 ∧ o = 3) ∧ k ≠ 51 ∧ ¬ (k = 52 ∧ o = 3) := by
    intro k o h
    have n3 : ∀ o, q_lst (nc, nk, 0, 0) o → o < 3 := fun o h => by
      rcases h with h | h
      · exact h
      · exact absurd (show (0 : Nat) = 1 from h.2) (by decide)
    unfold lp at h ⊢
    split at h
    · exact ⟨h, by simp, by decide, by simp⟩
    · exact ⟨h, by simp, by decide, by simp⟩
    · exact ⟨h, by simp, by decide, by simp⟩
    · exact ⟨h, by simp, by decide, by simp⟩
    · exact ⟨h, by simp, by decide, by simp⟩
    · exact ⟨h, by simp, by decide, by simp⟩
    · exact ⟨h, by simp, by decide, by simp⟩
    · exact ⟨h, by simp, by decide, by simp⟩
    · exact ⟨h, by simp, by decide, by simp⟩
    · exact ⟨h, by simp, by decide, by simp⟩
    · have := n3 _ h
      exact ⟨Or.inl this, by omega, by decide, by simp⟩
    · exact absurd h (Nat.not_lt_zero _)
    · have := n3 _ h.1
      exact ⟨⟨Or.inl this, h.2⟩, by simp, by decide, by omega⟩
    · exact h.elim
  have ek : ∀ k o, ¬ (k = 50 ∧ o = 3) → k ≠ 51 → ¬ (k = 52 ∧ o = 3) → (fun k o => if (k = 50 ∧ o = 3) ∨ k = 51 ∨ (k = 52 ∧ o = 3) then ad k o else ad2 k o) k o = ad2 k o := fun k o h1 h2 h3 => if_neg (by rintro (q | q | q); exact h1 q; exact h2 q; exact h3 q)
  generalize had3 : (fun k o => if (k = 50 ∧ o = 3) ∨ k = 51 ∨ (k = 52 ∧ o = 3) then ad k o else ad2 k o : Ad) = ad3 at ek
  have hcel : ∀ k o, lp (nc, nk, 0, 0) τ k o → q_cel G ad3 τ k o = q_cel G ad2 τ k o := by
    intro k o h
    have hs := sub k o h
    unfold lp at h
    split at h
    · simp only [q_cel, ek 50 0 (by decide) (by decide) (by decide), ek 50 1 (by decide) (by decide) (by decide), ek 50 2 (by decide) (by decide) (by decide), ek 46 0 (by decide) (by decide) (by decide), ek 47 0 (by decide) (by decide) (by decide), ek 48 0 (by decide) (by decide) (by decide)]
    · simp only [q_cel]
    · simp only [q_cel, ek 45 _ (by simp) (by decide) (by simp)]
    · simp only [q_cel, ek 44 _ (by simp) (by decide) (by simp)]
    · simp only [q_cel]
    · simp only [q_cel, ek 43 _ (show ¬ ((43 : Nat) = 50 ∧ _) by simp) (by decide) (show ¬ ((43 : Nat) = 52 ∧ _) by simp)]
    · simp only [q_cel]
    · simp only [q_cel]
    · simp only [q_cel]
    · simp only [q_cel]
    · show e_al _ _ _ = e_al _ _ _
      unfold q_ed
      rw [ek 52 _ (by simp) (by decide) (fun q => hs.2.1 ⟨rfl, q.2⟩)]
    · simp only [q_cel]
    · show e_oa _ _ _ = e_oa _ _ _
      have c3 : ¬ o = 3 := fun q => hs.2.2.2 ⟨rfl, q⟩
      have : q_el ad3 τ o = q_el ad2 τ o := by
        funext j
        unfold q_el
        have hlt : o < 3 := by
          rcases h.1 with h | h
          · exact h
          · exact absurd h.1 c3
        rcases (show o = 0 ∨ o = 1 ∨ o = 2 by omega) with rfl | rfl | rfl
        · rw [show ad3 (q_ek 0) j = ad2 (q_ek 0) j from ek 41 j (by simp) (by decide) (by simp)]
        · rw [show ad3 (q_ek 1) j = ad2 (q_ek 1) j from ek 42 j (by simp) (by decide) (by simp)]
        · rw [show ad3 (q_ek 2) j = ad2 (q_ek 2) j from ek 49 j (by simp) (by decide) (by simp)]
      rw [this]
    · exact h.elim
  refine ⟨ad3, fun k o h => ?_, ⟨fun k o h => ?_, fun k1 o1 k2 o2 h1 h2 he => ?_, fun k o h => ?_, V.2.2.2.1, fun o ho => ?_⟩, fun k o h => ?_⟩
  · rw [← had3]
    show (if (k = 50 ∧ o = 3) ∨ k = 51 ∨ (k = 52 ∧ o = 3) then ad k o else ad2 k o) = ad k o
    by_cases c : (k = 50 ∧ o = 3) ∨ k = 51 ∨ (k = 52 ∧ o = 3)
    · rw [if_pos c]
    · rw [if_neg c, e2 k o h]
      exact t_adk (fun q => c (Or.inl q)) (fun q => c (Or.inr (Or.inl q))) (fun q => c (Or.inr (Or.inr q)))
  · obtain ⟨s1, s2, s3, s4⟩ := sub k o h
    rw [hcel k o h, ek k o s2 s3 s4]
    exact V.1 k o s1
  · obtain ⟨s1, s2, s3, s4⟩ := sub k1 o1 h1
    obtain ⟨u1, u2, u3, u4⟩ := sub k2 o2 h2
    rw [ek k1 o1 s2 s3 s4, ek k2 o2 u2 u3 u4] at he
    exact V.2.1 _ _ _ _ s1 u1 he
  · obtain ⟨s1, s2, s3, s4⟩ := sub k o h
    rw [ek k o s2 s3 s4]
    exact V.2.2.1 k o s1
  · have hlt : o < 3 := by
      rcases ho with h | h
      · exact h
      · exact absurd (show (0 : Nat) = 1 from h.2) (by decide)
    have := V.2.2.2.2 o (Or.inl hlt)
    refine ⟨this.1, this.2.1, this.2.2.1, this.2.2.2.1, ?_⟩
    have h5 := this.2.2.2.2
    rcases (show o = 0 ∨ o = 1 ∨ o = 2 by omega) with rfl | rfl | rfl
    · rw [q_mk0] at h5 ⊢; exact h5
    · rw [q_mk1] at h5 ⊢; exact h5
    · rw [q_mk2]; exact Nat.le_refl _
  · obtain ⟨s1, s2, s3, s4⟩ := sub k o h
    rw [ek k o s2 s3 s4]
    exact a2 k o s1

noncomputable def f_L_tick (τ : Sg) : Option (Int32 × Sg × Nat) := ac 1 (f_L_tick_16 (t_swap τ))
set_option maxHeartbeats 4000000 in
set_option maxRecDepth 100000 in
theorem m_L_tick (l : Launch) (G : Gx) (ad : Ad) (N : Nn) (hN : N.2.2 = (0, 0)) (τ : Sg) (res : Int32 × Sg) (n : Nat) (hf : f_L_tick τ = some (res.1, res.2, n)) (sz : Nat) : q_M l yL_tick cL_tick 5 none 9 208 n G ad N τ sz [.ref (ad 40 0)] none res.2 := by
  obtain ⟨nc, nk, no, fo⟩ := N
  cases hN
  refine q_begin (by decide +kernel) (Nat.le_of_ble_eq_true rfl) [(0, .ref (ad 40 0))] rfl (fun p e s m args below meth c ls C hz S hl => ?_)
  subst hz
  generalize q_A ad (nc, nk, 0, 0) τ s.heap.size = A at S ⊢
  unfold f_L_tick at hf
  obtain ⟨d, hf, e1⟩ := acb hf
  have hO := S.O
  have hO1 := hO.1
  obtain ⟨⟨ad', he, V, a, I, E⟩, S1, hA⟩ := S
  rw [← he 40 0 rfl] at hl
  have hWlt : ∀ k i, lp (nc, nk, 0, 0) τ k i → ad' k i < s.heap.size := fun k i h => (V.1 k i h).lt
  refine lv_aload_n C.1 C.2.1 dL_tick_0 rfl (lv_at hl 0 rfl) ?_
  refine u_get C (V.1 40 0 rfl) cf_11 2 (by decide) rfl tw_4_98 dL_tick_1 ?_
  refine lv_astore_n (lv' := [(1, .ref (ad' 50 2)), (0, .ref (ad' 40 0))]) C.1 C.2.1 dL_tick_4 rfl hl (by decide) rfl (fun ls hl => ?_)
  refine lv_aload_n C.1 C.2.1 dL_tick_5 rfl (lv_at hl 1 rfl) ?_
  refine u_newO C S1 cf_12 tw_3_130 tw_3_131 tw_1_3 (fs := [.int 0, .null, .int 0]) (fun j hj => by rcases (show j = 0 ∨ j = 1 ∨ j = 2 by omega) with rfl | rfl | rfl <;> rfl) (by show 0 + 1 ≤ n; omega) (by show 6 * 0 + 3 ≤ 6 * n; omega) dL_tick_6 (fun H1 z1 o1 g0 S1 => ?_)
  have hO1' := hO.grow z1 o1
  refine lv_dup C.1 C.2.1 dL_tick_9 rfl ?_
  refine k_callI C S1 hO1' [] (k_alinit l G s.heap.size hO1 (s.heap.size + 1)) z1 g0 kv_Jx4a65c_init_da8c8 tw_3_132 ⟨(Nat.le_of_ble_eq_true rfl), (Nat.le_of_ble_eq_true rfl)⟩ rfl rfl (Nat.le_of_ble_eq_true rfl) hl.1 ⟨(by show 0 + 1 + 0 ≤ n; omega), (by show 6 * 0 + 3 + 0 ≤ 6 * n; omega)⟩ dL_tick_10 (fun q h => hA q (by omega)) (fun H2 locs2 hp2 hle2 ok2 S1 => ?_)
  obtain ⟨z2, g2⟩ := hp2
  have hk2 : ∀ q : Nat, q < s.heap.size → H2[q]? = s.heap[q]? := fun q hq => (ok2 q (by omega) (by omega)).trans (o1 q hq)
  have hO2 : z_O G H2 := ⟨by omega, fun q hq => (hk2 q (by omega)).trans (hO.2 q hq)⟩
  have h40 := (V.1 40 0 rfl).kept (hk2 _ (hWlt 40 0 rfl))
  refine u_put C S1 h40 (a 40 0 rfl) cf_11 2 (by decide) (Nat.le_of_ble_eq_true rfl) rfl rfl rfl tw_4_98 dL_tick_13 (fun H3 locs3 z3 o3 g3 S1 => ?_)
  have hO3 := hO2.put z3 o3 (V.2.2.1 40 0 rfl)
  have V3 : q_W G (t_adx ad' ad' s.heap.size) (nc, nk, q_nn τ 2, 1) (t_swap τ) H3 := by
    refine q_swap V (fun k o h => Nat.ne_of_lt (hWlt k o h)) hO1 (g2.kept (o3 _ (Nat.ne_of_gt (hWlt 40 0 rfl)))) g3 (fun k o h hk => ?_) hO3
    have hw := hWlt k o h
    rw [o3 _ (fun q => hk (V.2.1 _ _ _ _ h (show lp (nc, nk, 0, 0) τ 40 0 from rfl) q).1), hk2 _ hw]
  have key : ∀ k o, q_st k o = true → t_adx ad' ad' s.heap.size k o = t_ad ad ad' k o := by
    intro k o h
    have c1 : ¬ (k = 50 ∧ o = 2) := fun q => by rw [q.1, q.2] at h; cases h
    show (if k = 50 ∧ o = 2 then _ else t_ad ad' ad' k o) = _
    rw [if_neg c1]
    unfold t_ad
    by_cases c2 : k = 50 ∧ o = 3
    · rw [if_pos c2, if_pos c2]
    rw [if_neg c2, if_neg c2]
    by_cases c3 : k = 51
    · rw [if_pos c3, if_pos c3]
    rw [if_neg c3, if_neg c3]
    by_cases c4 : k = 52 ∧ o = 3
    · rw [if_pos c4, if_pos c4]
    rw [if_neg c4, if_neg c4]
    exact he k o h
  have S : q_S G (t_ad ad ad') (nc, nk, q_nn τ 2, 1) x_0 (t_swap τ) [] A s.heap H3 locs3 := by
    refine ⟨⟨_, key, V3, fun k o h => ?_, fun x hx => absurd hx List.not_mem_nil, q_X0 _ _ _ _⟩, S1, hA⟩
    by_cases c1 : k = 50 ∧ o = 2
    · rw [show t_adx ad' ad' s.heap.size k o = s.heap.size from if_pos c1]
      exact hA _ (Nat.le_refl _)
    · rw [show t_adx ad' ad' s.heap.size k o = t_ad ad' ad' k o from if_neg c1]
      unfold t_ad
      by_cases c2 : k = 50 ∧ o = 3
      · rw [if_pos c2]; exact a 50 2 (Or.inl (by decide))
      rw [if_neg c2]
      by_cases c3 : k = 51
      · rw [if_pos c3]; subst c3; exact a 49 o h
      rw [if_neg c3]
      by_cases c4 : k = 52 ∧ o = 3
      · rw [if_pos c4]; obtain ⟨rfl, rfl⟩ := c4; exact a 52 2 ⟨Or.inl (by decide), h.2⟩
      rw [if_neg c4]
      refine a k o ?_
      unfold lp at h ⊢
      split at h <;> try exact h
      · rw [(t_sw2 τ).1] at h; exact absurd h (Nat.not_lt_zero _)
      · exact Or.inl (by rcases h with h | h; exact h; exact absurd ⟨rfl, h.1⟩ c2)
      · exact absurd rfl c3
      · have c6 : ¬ o = 3 := fun q => c4 ⟨rfl, q⟩
        by_cases c5 : o = 2
        · subst c5; exact absurd (t_sw2 τ).2 h.2
        · exact ⟨Or.inl (by rcases h.1 with h | h; exact h; exact absurd h.1 c6), by rw [← (t_swo τ c5 c6).2.2]; exact h.2⟩
  have hl2 : lv_has ls 5 [(1, .ref (t_ad ad ad' 50 3)), (0, .ref (t_ad ad ad' 40 0))] := by
    have e40 : t_ad ad ad' 40 0 = ad' 40 0 := (t_adk (by simp) (by decide) (by simp)).trans (he 40 0 rfl).symm
    rw [e40]
    exact hl
  refine W.widen (k := 1) (n := 6 * 1) (Nat.le_refl _) (by decide) ?_
  refine W_mono (w_L_tick_16 C rfl _ _ _ _ 1 d S (lv_sub hl2 [1, 0] rfl) hf (by omega)) (fun t ht => ?_)
  obtain ⟨oc, h1, h2, ⟨h3, h4, h5⟩, h6⟩ := ht
  exact ⟨oc, h1, h2, ⟨h3, q_unswap h4, h5⟩, h6⟩

