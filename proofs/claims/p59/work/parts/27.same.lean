/-! the law: comparison and acts, with both worlds -/
theorem dL_isSame_0 : decode cL_isSame 0 = .ok (.iconst 0, 1) := by decide +kernel
theorem dL_isSame_1 : decode cL_isSame 1 = .ok (.istore_n 2, 1) := by decide +kernel
theorem dL_isSame_2 : decode cL_isSame 2 = .ok (.iconst 0, 1) := by decide +kernel
theorem dL_isSame_3 : decode cL_isSame 3 = .ok (.istore_n 3, 1) := by decide +kernel
theorem dL_isSame_4 : decode cL_isSame 4 = .ok (.iload_n 3, 1) := by decide +kernel
theorem dL_isSame_5 : decode cL_isSame 5 = .ok (.aload_n 0, 1) := by decide +kernel
theorem dL_isSame_6 : decode cL_isSame 6 = .ok (.getfield 30, 3) := by decide +kernel
theorem dL_isSame_9 : decode cL_isSame 9 = .ok (.invokeinterface 227 1, 5) := by decide +kernel
theorem dL_isSame_14 : decode cL_isSame 14 = .ok (.if_icmp .ge 185, 3) := by decide +kernel
theorem dL_isSame_17 : decode cL_isSame 17 = .ok (.aload_n 0, 1) := by decide +kernel
theorem dL_isSame_18 : decode cL_isSame 18 = .ok (.getfield 30, 3) := by decide +kernel
theorem dL_isSame_21 : decode cL_isSame 21 = .ok (.iload_n 3, 1) := by decide +kernel
theorem dL_isSame_22 : decode cL_isSame 22 = .ok (.invokeinterface 179 2, 5) := by decide +kernel
theorem dL_isSame_27 : decode cL_isSame 27 = .ok (.checkcast 82, 3) := by decide +kernel
theorem dL_isSame_30 : decode cL_isSame 30 = .ok (.astore 4, 2) := by decide +kernel
theorem dL_isSame_32 : decode cL_isSame 32 = .ok (.aload_n 1, 1) := by decide +kernel
theorem dL_isSame_33 : decode cL_isSame 33 = .ok (.iload_n 3, 1) := by decide +kernel
theorem dL_isSame_34 : decode cL_isSame 34 = .ok (.iconst 0, 1) := by decide +kernel
theorem dL_isSame_35 : decode cL_isSame 35 = .ok (.invokevirtual 282, 3) := by decide +kernel
theorem dL_isSame_38 : decode cL_isSame 38 = .ok (.aload 4, 2) := by decide +kernel
theorem dL_isSame_40 : decode cL_isSame 40 = .ok (.getfield 85, 3) := by decide +kernel
theorem dL_isSame_43 : decode cL_isSame 43 = .ok (.if_icmp .ne 148, 3) := by decide +kernel
theorem dL_isSame_46 : decode cL_isSame 46 = .ok (.aload_n 1, 1) := by decide +kernel
theorem dL_isSame_47 : decode cL_isSame 47 = .ok (.iload_n 3, 1) := by decide +kernel
theorem dL_isSame_48 : decode cL_isSame 48 = .ok (.iconst 2, 1) := by decide +kernel
theorem dL_isSame_49 : decode cL_isSame 49 = .ok (.invokevirtual 282, 3) := by decide +kernel
theorem dL_isSame_52 : decode cL_isSame 52 = .ok (.aload 4, 2) := by decide +kernel
theorem dL_isSame_54 : decode cL_isSame 54 = .ok (.getfield 230, 3) := by decide +kernel
theorem dL_isSame_57 : decode cL_isSame 57 = .ok (.if_icmp .ne 134, 3) := by decide +kernel
theorem dL_isSame_60 : decode cL_isSame 60 = .ok (.aload_n 1, 1) := by decide +kernel
theorem dL_isSame_61 : decode cL_isSame 61 = .ok (.iload_n 3, 1) := by decide +kernel
theorem dL_isSame_62 : decode cL_isSame 62 = .ok (.iconst 3, 1) := by decide +kernel
theorem dL_isSame_63 : decode cL_isSame 63 = .ok (.invokevirtual 282, 3) := by decide +kernel
theorem dL_isSame_66 : decode cL_isSame 66 = .ok (.aload_n 0, 1) := by decide +kernel
theorem dL_isSame_67 : decode cL_isSame 67 = .ok (.iload_n 3, 1) := by decide +kernel
theorem dL_isSame_68 : decode cL_isSame 68 = .ok (.invokevirtual 189, 3) := by decide +kernel
theorem dL_isSame_71 : decode cL_isSame 71 = .ok (.if_icmp .ne 120, 3) := by decide +kernel
theorem dL_isSame_74 : decode cL_isSame 74 = .ok (.aload_n 1, 1) := by decide +kernel
theorem dL_isSame_75 : decode cL_isSame 75 = .ok (.iload_n 3, 1) := by decide +kernel
theorem dL_isSame_76 : decode cL_isSame 76 = .ok (.iconst 4, 1) := by decide +kernel
theorem dL_isSame_77 : decode cL_isSame 77 = .ok (.invokevirtual 282, 3) := by decide +kernel
theorem dL_isSame_80 : decode cL_isSame 80 = .ok (.aload_n 0, 1) := by decide +kernel
theorem dL_isSame_81 : decode cL_isSame 81 = .ok (.iload_n 3, 1) := by decide +kernel
theorem dL_isSame_82 : decode cL_isSame 82 = .ok (.invokevirtual 192, 3) := by decide +kernel
theorem dL_isSame_85 : decode cL_isSame 85 = .ok (.if_icmp .ne 106, 3) := by decide +kernel
theorem dL_isSame_88 : decode cL_isSame 88 = .ok (.aload_n 1, 1) := by decide +kernel
theorem dL_isSame_89 : decode cL_isSame 89 = .ok (.iload_n 3, 1) := by decide +kernel
theorem dL_isSame_90 : decode cL_isSame 90 = .ok (.iconst 5, 1) := by decide +kernel
theorem dL_isSame_91 : decode cL_isSame 91 = .ok (.invokevirtual 282, 3) := by decide +kernel
theorem dL_isSame_94 : decode cL_isSame 94 = .ok (.aload 4, 2) := by decide +kernel
theorem dL_isSame_96 : decode cL_isSame 96 = .ok (.getfield 199, 3) := by decide +kernel
theorem dL_isSame_99 : decode cL_isSame 99 = .ok (.ifCond .eq 7, 3) := by decide +kernel
theorem dL_isSame_102 : decode cL_isSame 102 = .ok (.iconst 1, 1) := by decide +kernel
theorem dL_isSame_103 : decode cL_isSame 103 = .ok (.goto 4, 3) := by decide +kernel
theorem dL_isSame_106 : decode cL_isSame 106 = .ok (.iconst 0, 1) := by decide +kernel
theorem dL_isSame_107 : decode cL_isSame 107 = .ok (.if_icmp .ne 84, 3) := by decide +kernel
theorem dL_isSame_110 : decode cL_isSame 110 = .ok (.aload_n 1, 1) := by decide +kernel
theorem dL_isSame_111 : decode cL_isSame 111 = .ok (.iload_n 3, 1) := by decide +kernel
theorem dL_isSame_112 : decode cL_isSame 112 = .ok (.bipush 6, 2) := by decide +kernel
theorem dL_isSame_114 : decode cL_isSame 114 = .ok (.invokevirtual 282, 3) := by decide +kernel
theorem dL_isSame_117 : decode cL_isSame 117 = .ok (.aload 4, 2) := by decide +kernel
theorem dL_isSame_119 : decode cL_isSame 119 = .ok (.getfield 196, 3) := by decide +kernel
theorem dL_isSame_122 : decode cL_isSame 122 = .ok (.ifCond .eq 7, 3) := by decide +kernel
theorem dL_isSame_125 : decode cL_isSame 125 = .ok (.iconst 1, 1) := by decide +kernel
theorem dL_isSame_126 : decode cL_isSame 126 = .ok (.goto 4, 3) := by decide +kernel
theorem dL_isSame_129 : decode cL_isSame 129 = .ok (.iconst 0, 1) := by decide +kernel
theorem dL_isSame_130 : decode cL_isSame 130 = .ok (.if_icmp .ne 61, 3) := by decide +kernel
theorem dL_isSame_133 : decode cL_isSame 133 = .ok (.aload_n 1, 1) := by decide +kernel
theorem dL_isSame_134 : decode cL_isSame 134 = .ok (.iload_n 3, 1) := by decide +kernel
theorem dL_isSame_135 : decode cL_isSame 135 = .ok (.bipush 7, 2) := by decide +kernel
theorem dL_isSame_137 : decode cL_isSame 137 = .ok (.invokevirtual 282, 3) := by decide +kernel
theorem dL_isSame_140 : decode cL_isSame 140 = .ok (.aload 4, 2) := by decide +kernel
theorem dL_isSame_142 : decode cL_isSame 142 = .ok (.getfield 239, 3) := by decide +kernel
theorem dL_isSame_145 : decode cL_isSame 145 = .ok (.if_icmp .ne 46, 3) := by decide +kernel
theorem dL_isSame_148 : decode cL_isSame 148 = .ok (.aload_n 1, 1) := by decide +kernel
theorem dL_isSame_149 : decode cL_isSame 149 = .ok (.iload_n 3, 1) := by decide +kernel
theorem dL_isSame_150 : decode cL_isSame 150 = .ok (.bipush 8, 2) := by decide +kernel
theorem dL_isSame_152 : decode cL_isSame 152 = .ok (.invokevirtual 282, 3) := by decide +kernel
theorem dL_isSame_155 : decode cL_isSame 155 = .ok (.aload 4, 2) := by decide +kernel
theorem dL_isSame_157 : decode cL_isSame 157 = .ok (.getfield 242, 3) := by decide +kernel
theorem dL_isSame_160 : decode cL_isSame 160 = .ok (.if_icmp .ne 31, 3) := by decide +kernel
theorem dL_isSame_163 : decode cL_isSame 163 = .ok (.aload_n 1, 1) := by decide +kernel
theorem dL_isSame_164 : decode cL_isSame 164 = .ok (.iload_n 3, 1) := by decide +kernel
theorem dL_isSame_165 : decode cL_isSame 165 = .ok (.bipush 9, 2) := by decide +kernel
theorem dL_isSame_167 : decode cL_isSame 167 = .ok (.invokevirtual 282, 3) := by decide +kernel
theorem dL_isSame_170 : decode cL_isSame 170 = .ok (.aload 4, 2) := by decide +kernel
theorem dL_isSame_172 : decode cL_isSame 172 = .ok (.getfield 248, 3) := by decide +kernel
theorem dL_isSame_175 : decode cL_isSame 175 = .ok (.if_icmp .ne 16, 3) := by decide +kernel
theorem dL_isSame_178 : decode cL_isSame 178 = .ok (.aload_n 1, 1) := by decide +kernel
theorem dL_isSame_179 : decode cL_isSame 179 = .ok (.iload_n 3, 1) := by decide +kernel
theorem dL_isSame_180 : decode cL_isSame 180 = .ok (.invokevirtual 286, 3) := by decide +kernel
theorem dL_isSame_183 : decode cL_isSame 183 = .ok (.aload_n 0, 1) := by decide +kernel
theorem dL_isSame_184 : decode cL_isSame 184 = .ok (.iload_n 3, 1) := by decide +kernel
theorem dL_isSame_185 : decode cL_isSame 185 = .ok (.invokevirtual 231, 3) := by decide +kernel
theorem dL_isSame_188 : decode cL_isSame 188 = .ok (.if_icmp .eq 5, 3) := by decide +kernel
theorem dL_isSame_191 : decode cL_isSame 191 = .ok (.iconst 0, 1) := by decide +kernel
theorem dL_isSame_192 : decode cL_isSame 192 = .ok (.ireturn, 1) := by decide +kernel
theorem dL_isSame_193 : decode cL_isSame 193 = .ok (.iinc 3 1, 3) := by decide +kernel
theorem dL_isSame_196 : decode cL_isSame 196 = .ok (.goto (-192), 3) := by decide +kernel
theorem dL_isSame_199 : decode cL_isSame 199 = .ok (.iconst 0, 1) := by decide +kernel
theorem dL_isSame_200 : decode cL_isSame 200 = .ok (.istore_n 3, 1) := by decide +kernel
theorem dL_isSame_201 : decode cL_isSame 201 = .ok (.iload_n 3, 1) := by decide +kernel
theorem dL_isSame_202 : decode cL_isSame 202 = .ok (.aload_n 0, 1) := by decide +kernel
theorem dL_isSame_203 : decode cL_isSame 203 = .ok (.getfield 36, 3) := by decide +kernel
theorem dL_isSame_206 : decode cL_isSame 206 = .ok (.invokeinterface 227 1, 5) := by decide +kernel
theorem dL_isSame_211 : decode cL_isSame 211 = .ok (.if_icmp .ge 339, 3) := by decide +kernel
theorem dL_isSame_214 : decode cL_isSame 214 = .ok (.aload_n 0, 1) := by decide +kernel
theorem dL_isSame_215 : decode cL_isSame 215 = .ok (.getfield 36, 3) := by decide +kernel
theorem dL_isSame_218 : decode cL_isSame 218 = .ok (.iload_n 3, 1) := by decide +kernel
theorem dL_isSame_219 : decode cL_isSame 219 = .ok (.invokeinterface 179 2, 5) := by decide +kernel
theorem dL_isSame_224 : decode cL_isSame 224 = .ok (.checkcast 97, 3) := by decide +kernel
theorem dL_isSame_227 : decode cL_isSame 227 = .ok (.astore 4, 2) := by decide +kernel
theorem dL_isSame_229 : decode cL_isSame 229 = .ok (.aload_n 1, 1) := by decide +kernel
theorem dL_isSame_230 : decode cL_isSame 230 = .ok (.iload_n 3, 1) := by decide +kernel
theorem dL_isSame_231 : decode cL_isSame 231 = .ok (.iconst 3, 1) := by decide +kernel
theorem dL_isSame_232 : decode cL_isSame 232 = .ok (.invokevirtual 287, 3) := by decide +kernel
theorem dL_isSame_235 : decode cL_isSame 235 = .ok (.aload 4, 2) := by decide +kernel
theorem dL_isSame_237 : decode cL_isSame 237 = .ok (.getfield 173, 3) := by decide +kernel
theorem dL_isSame_240 : decode cL_isSame 240 = .ok (.if_icmp .ne 91, 3) := by decide +kernel
theorem dL_isSame_243 : decode cL_isSame 243 = .ok (.aload_n 1, 1) := by decide +kernel
theorem dL_isSame_244 : decode cL_isSame 244 = .ok (.iload_n 3, 1) := by decide +kernel
theorem dL_isSame_245 : decode cL_isSame 245 = .ok (.iconst 4, 1) := by decide +kernel
theorem dL_isSame_246 : decode cL_isSame 246 = .ok (.invokevirtual 287, 3) := by decide +kernel
theorem dL_isSame_249 : decode cL_isSame 249 = .ok (.aload 4, 2) := by decide +kernel
theorem dL_isSame_251 : decode cL_isSame 251 = .ok (.getfield 176, 3) := by decide +kernel
theorem dL_isSame_254 : decode cL_isSame 254 = .ok (.if_icmp .ne 77, 3) := by decide +kernel
theorem dL_isSame_257 : decode cL_isSame 257 = .ok (.aload_n 1, 1) := by decide +kernel
theorem dL_isSame_258 : decode cL_isSame 258 = .ok (.iload_n 3, 1) := by decide +kernel
theorem dL_isSame_259 : decode cL_isSame 259 = .ok (.iconst 5, 1) := by decide +kernel
theorem dL_isSame_260 : decode cL_isSame 260 = .ok (.invokevirtual 287, 3) := by decide +kernel
theorem dL_isSame_263 : decode cL_isSame 263 = .ok (.aload 4, 2) := by decide +kernel
theorem dL_isSame_265 : decode cL_isSame 265 = .ok (.getfield 254, 3) := by decide +kernel
theorem dL_isSame_268 : decode cL_isSame 268 = .ok (.if_icmp .ne 63, 3) := by decide +kernel
theorem dL_isSame_271 : decode cL_isSame 271 = .ok (.aload_n 1, 1) := by decide +kernel
theorem dL_isSame_272 : decode cL_isSame 272 = .ok (.iload_n 3, 1) := by decide +kernel
theorem dL_isSame_273 : decode cL_isSame 273 = .ok (.bipush 6, 2) := by decide +kernel
theorem dL_isSame_275 : decode cL_isSame 275 = .ok (.invokevirtual 287, 3) := by decide +kernel
theorem dL_isSame_278 : decode cL_isSame 278 = .ok (.aload 4, 2) := by decide +kernel
theorem dL_isSame_280 : decode cL_isSame 280 = .ok (.getfield 245, 3) := by decide +kernel
theorem dL_isSame_283 : decode cL_isSame 283 = .ok (.if_icmp .ne 48, 3) := by decide +kernel
theorem dL_isSame_286 : decode cL_isSame 286 = .ok (.aload_n 1, 1) := by decide +kernel
theorem dL_isSame_287 : decode cL_isSame 287 = .ok (.iload_n 3, 1) := by decide +kernel
theorem dL_isSame_288 : decode cL_isSame 288 = .ok (.bipush 7, 2) := by decide +kernel
theorem dL_isSame_290 : decode cL_isSame 290 = .ok (.invokevirtual 287, 3) := by decide +kernel
theorem dL_isSame_293 : decode cL_isSame 293 = .ok (.aload 4, 2) := by decide +kernel
theorem dL_isSame_295 : decode cL_isSame 295 = .ok (.getfield 221, 3) := by decide +kernel
theorem dL_isSame_298 : decode cL_isSame 298 = .ok (.if_icmp .ne 33, 3) := by decide +kernel
theorem dL_isSame_301 : decode cL_isSame 301 = .ok (.aload_n 1, 1) := by decide +kernel
theorem dL_isSame_302 : decode cL_isSame 302 = .ok (.iload_n 3, 1) := by decide +kernel
theorem dL_isSame_303 : decode cL_isSame 303 = .ok (.bipush 8, 2) := by decide +kernel
theorem dL_isSame_305 : decode cL_isSame 305 = .ok (.invokevirtual 287, 3) := by decide +kernel
theorem dL_isSame_308 : decode cL_isSame 308 = .ok (.aload 4, 2) := by decide +kernel
theorem dL_isSame_310 : decode cL_isSame 310 = .ok (.getfield 270, 3) := by decide +kernel
theorem dL_isSame_313 : decode cL_isSame 313 = .ok (.if_icmp .ne 18, 3) := by decide +kernel
theorem dL_isSame_316 : decode cL_isSame 316 = .ok (.aload_n 1, 1) := by decide +kernel
theorem dL_isSame_317 : decode cL_isSame 317 = .ok (.iload_n 3, 1) := by decide +kernel
theorem dL_isSame_318 : decode cL_isSame 318 = .ok (.bipush 10, 2) := by decide +kernel
theorem dL_isSame_320 : decode cL_isSame 320 = .ok (.invokevirtual 287, 3) := by decide +kernel
theorem dL_isSame_323 : decode cL_isSame 323 = .ok (.aload 4, 2) := by decide +kernel
theorem dL_isSame_325 : decode cL_isSame 325 = .ok (.getfield 224, 3) := by decide +kernel
theorem dL_isSame_328 : decode cL_isSame 328 = .ok (.if_icmp .eq 5, 3) := by decide +kernel
theorem dL_isSame_331 : decode cL_isSame 331 = .ok (.iconst 0, 1) := by decide +kernel
theorem dL_isSame_332 : decode cL_isSame 332 = .ok (.ireturn, 1) := by decide +kernel
theorem dL_isSame_333 : decode cL_isSame 333 = .ok (.iconst 0, 1) := by decide +kernel
theorem dL_isSame_334 : decode cL_isSame 334 = .ok (.istore 5, 2) := by decide +kernel
theorem dL_isSame_336 : decode cL_isSame 336 = .ok (.iload 5, 2) := by decide +kernel
theorem dL_isSame_338 : decode cL_isSame 338 = .ok (.aload_n 0, 1) := by decide +kernel
theorem dL_isSame_339 : decode cL_isSame 339 = .ok (.getfield 30, 3) := by decide +kernel
theorem dL_isSame_342 : decode cL_isSame 342 = .ok (.invokeinterface 227 1, 5) := by decide +kernel
theorem dL_isSame_347 : decode cL_isSame 347 = .ok (.if_icmp .ge 197, 3) := by decide +kernel
theorem dL_isSame_350 : decode cL_isSame 350 = .ok (.aload 4, 2) := by decide +kernel
theorem dL_isSame_352 : decode cL_isSame 352 = .ok (.getfield 163, 3) := by decide +kernel
theorem dL_isSame_355 : decode cL_isSame 355 = .ok (.iload 5, 2) := by decide +kernel
theorem dL_isSame_357 : decode cL_isSame 357 = .ok (.aaload, 1) := by decide +kernel
theorem dL_isSame_358 : decode cL_isSame 358 = .ok (.astore 6, 2) := by decide +kernel
theorem dL_isSame_360 : decode cL_isSame 360 = .ok (.aload_n 1, 1) := by decide +kernel
theorem dL_isSame_361 : decode cL_isSame 361 = .ok (.iload 5, 2) := by decide +kernel
theorem dL_isSame_363 : decode cL_isSame 363 = .ok (.iload_n 3, 1) := by decide +kernel
theorem dL_isSame_364 : decode cL_isSame 364 = .ok (.invokevirtual 290, 3) := by decide +kernel
theorem dL_isSame_367 : decode cL_isSame 367 = .ok (.aload 6, 2) := by decide +kernel
theorem dL_isSame_369 : decode cL_isSame 369 = .ok (.getfield 167, 3) := by decide +kernel
theorem dL_isSame_372 : decode cL_isSame 372 = .ok (.if_icmp .ne 71, 3) := by decide +kernel
theorem dL_isSame_375 : decode cL_isSame 375 = .ok (.aload_n 1, 1) := by decide +kernel
theorem dL_isSame_376 : decode cL_isSame 376 = .ok (.iload 5, 2) := by decide +kernel
theorem dL_isSame_378 : decode cL_isSame 378 = .ok (.iload_n 3, 1) := by decide +kernel
theorem dL_isSame_379 : decode cL_isSame 379 = .ok (.invokevirtual 293, 3) := by decide +kernel
theorem dL_isSame_382 : decode cL_isSame 382 = .ok (.aload 6, 2) := by decide +kernel
theorem dL_isSame_384 : decode cL_isSame 384 = .ok (.getfield 218, 3) := by decide +kernel
theorem dL_isSame_387 : decode cL_isSame 387 = .ok (.if_icmp .ne 56, 3) := by decide +kernel
theorem dL_isSame_390 : decode cL_isSame 390 = .ok (.aload_n 1, 1) := by decide +kernel
theorem dL_isSame_391 : decode cL_isSame 391 = .ok (.iload 5, 2) := by decide +kernel
theorem dL_isSame_393 : decode cL_isSame 393 = .ok (.iload_n 3, 1) := by decide +kernel
theorem dL_isSame_394 : decode cL_isSame 394 = .ok (.invokevirtual 295, 3) := by decide +kernel
theorem dL_isSame_397 : decode cL_isSame 397 = .ok (.aload_n 0, 1) := by decide +kernel
theorem dL_isSame_398 : decode cL_isSame 398 = .ok (.iload 5, 2) := by decide +kernel
theorem dL_isSame_400 : decode cL_isSame 400 = .ok (.aload 4, 2) := by decide +kernel
theorem dL_isSame_402 : decode cL_isSame 402 = .ok (.invokevirtual 212, 3) := by decide +kernel
theorem dL_isSame_405 : decode cL_isSame 405 = .ok (.if_icmp .ne 38, 3) := by decide +kernel
theorem dL_isSame_408 : decode cL_isSame 408 = .ok (.aload_n 1, 1) := by decide +kernel
theorem dL_isSame_409 : decode cL_isSame 409 = .ok (.iload 5, 2) := by decide +kernel
theorem dL_isSame_411 : decode cL_isSame 411 = .ok (.iload_n 3, 1) := by decide +kernel
theorem dL_isSame_412 : decode cL_isSame 412 = .ok (.invokevirtual 298, 3) := by decide +kernel
theorem dL_isSame_415 : decode cL_isSame 415 = .ok (.aload 6, 2) := by decide +kernel
theorem dL_isSame_417 : decode cL_isSame 417 = .ok (.getfield 167, 3) := by decide +kernel
theorem dL_isSame_420 : decode cL_isSame 420 = .ok (.ifCond .ne 11, 3) := by decide +kernel
theorem dL_isSame_423 : decode cL_isSame 423 = .ok (.aload 6, 2) := by decide +kernel
theorem dL_isSame_425 : decode cL_isSame 425 = .ok (.getfield 218, 3) := by decide +kernel
theorem dL_isSame_428 : decode cL_isSame 428 = .ok (.ifCond .lt 11, 3) := by decide +kernel
theorem dL_isSame_431 : decode cL_isSame 431 = .ok (.aload 6, 2) := by decide +kernel
theorem dL_isSame_433 : decode cL_isSame 433 = .ok (.getfield 202, 3) := by decide +kernel
theorem dL_isSame_436 : decode cL_isSame 436 = .ok (.goto 4, 3) := by decide +kernel
theorem dL_isSame_439 : decode cL_isSame 439 = .ok (.iconst (-1), 1) := by decide +kernel
theorem dL_isSame_440 : decode cL_isSame 440 = .ok (.if_icmp .eq 5, 3) := by decide +kernel
theorem dL_isSame_443 : decode cL_isSame 443 = .ok (.iconst 0, 1) := by decide +kernel
theorem dL_isSame_444 : decode cL_isSame 444 = .ok (.ireturn, 1) := by decide +kernel
theorem dL_isSame_445 : decode cL_isSame 445 = .ok (.iconst 0, 1) := by decide +kernel
theorem dL_isSame_446 : decode cL_isSame 446 = .ok (.istore 7, 2) := by decide +kernel
theorem dL_isSame_448 : decode cL_isSame 448 = .ok (.iload 7, 2) := by decide +kernel
theorem dL_isSame_450 : decode cL_isSame 450 = .ok (.aload_n 0, 1) := by decide +kernel
theorem dL_isSame_451 : decode cL_isSame 451 = .ok (.getfield 30, 3) := by decide +kernel
theorem dL_isSame_454 : decode cL_isSame 454 = .ok (.invokeinterface 227 1, 5) := by decide +kernel
theorem dL_isSame_459 : decode cL_isSame 459 = .ok (.if_icmp .ge 31, 3) := by decide +kernel
theorem dL_isSame_462 : decode cL_isSame 462 = .ok (.aload_n 1, 1) := by decide +kernel
theorem dL_isSame_463 : decode cL_isSame 463 = .ok (.iload 5, 2) := by decide +kernel
theorem dL_isSame_465 : decode cL_isSame 465 = .ok (.iload_n 3, 1) := by decide +kernel
theorem dL_isSame_466 : decode cL_isSame 466 = .ok (.iload 7, 2) := by decide +kernel
theorem dL_isSame_468 : decode cL_isSame 468 = .ok (.invokevirtual 301, 3) := by decide +kernel
theorem dL_isSame_471 : decode cL_isSame 471 = .ok (.aload 6, 2) := by decide +kernel
theorem dL_isSame_473 : decode cL_isSame 473 = .ok (.getfield 209, 3) := by decide +kernel
theorem dL_isSame_476 : decode cL_isSame 476 = .ok (.iload 7, 2) := by decide +kernel
theorem dL_isSame_478 : decode cL_isSame 478 = .ok (.iaload, 1) := by decide +kernel
theorem dL_isSame_479 : decode cL_isSame 479 = .ok (.if_icmp .eq 5, 3) := by decide +kernel
theorem dL_isSame_482 : decode cL_isSame 482 = .ok (.iconst 0, 1) := by decide +kernel
theorem dL_isSame_483 : decode cL_isSame 483 = .ok (.ireturn, 1) := by decide +kernel
theorem dL_isSame_484 : decode cL_isSame 484 = .ok (.iinc 7 1, 3) := by decide +kernel
theorem dL_isSame_487 : decode cL_isSame 487 = .ok (.goto (-39), 3) := by decide +kernel
theorem dL_isSame_490 : decode cL_isSame 490 = .ok (.iconst 0, 1) := by decide +kernel
theorem dL_isSame_491 : decode cL_isSame 491 = .ok (.istore 7, 2) := by decide +kernel
theorem dL_isSame_493 : decode cL_isSame 493 = .ok (.iload 7, 2) := by decide +kernel
theorem dL_isSame_495 : decode cL_isSame 495 = .ok (.iconst 4, 1) := by decide +kernel
theorem dL_isSame_496 : decode cL_isSame 496 = .ok (.if_icmp .ge 42, 3) := by decide +kernel
theorem dL_isSame_499 : decode cL_isSame 499 = .ok (.aload_n 1, 1) := by decide +kernel
theorem dL_isSame_500 : decode cL_isSame 500 = .ok (.iload 5, 2) := by decide +kernel
theorem dL_isSame_502 : decode cL_isSame 502 = .ok (.iload_n 3, 1) := by decide +kernel
theorem dL_isSame_503 : decode cL_isSame 503 = .ok (.iload 7, 2) := by decide +kernel
theorem dL_isSame_505 : decode cL_isSame 505 = .ok (.invokevirtual 304, 3) := by decide +kernel
theorem dL_isSame_508 : decode cL_isSame 508 = .ok (.aload 6, 2) := by decide +kernel
theorem dL_isSame_510 : decode cL_isSame 510 = .ok (.getfield 251, 3) := by decide +kernel
theorem dL_isSame_513 : decode cL_isSame 513 = .ok (.iload 7, 2) := by decide +kernel
theorem dL_isSame_515 : decode cL_isSame 515 = .ok (.ishr, 1) := by decide +kernel
theorem dL_isSame_516 : decode cL_isSame 516 = .ok (.iconst 1, 1) := by decide +kernel
theorem dL_isSame_517 : decode cL_isSame 517 = .ok (.iand, 1) := by decide +kernel
theorem dL_isSame_518 : decode cL_isSame 518 = .ok (.iconst 1, 1) := by decide +kernel
theorem dL_isSame_519 : decode cL_isSame 519 = .ok (.if_icmp .ne 7, 3) := by decide +kernel
theorem dL_isSame_522 : decode cL_isSame 522 = .ok (.iconst 1, 1) := by decide +kernel
theorem dL_isSame_523 : decode cL_isSame 523 = .ok (.goto 4, 3) := by decide +kernel
theorem dL_isSame_526 : decode cL_isSame 526 = .ok (.iconst 0, 1) := by decide +kernel
theorem dL_isSame_527 : decode cL_isSame 527 = .ok (.if_icmp .eq 5, 3) := by decide +kernel
theorem dL_isSame_530 : decode cL_isSame 530 = .ok (.iconst 0, 1) := by decide +kernel
theorem dL_isSame_531 : decode cL_isSame 531 = .ok (.ireturn, 1) := by decide +kernel
theorem dL_isSame_532 : decode cL_isSame 532 = .ok (.iinc 7 1, 3) := by decide +kernel
theorem dL_isSame_535 : decode cL_isSame 535 = .ok (.goto (-42), 3) := by decide +kernel
theorem dL_isSame_538 : decode cL_isSame 538 = .ok (.iinc 5 1, 3) := by decide +kernel
theorem dL_isSame_541 : decode cL_isSame 541 = .ok (.goto (-205), 3) := by decide +kernel
theorem dL_isSame_544 : decode cL_isSame 544 = .ok (.iinc 3 1, 3) := by decide +kernel
theorem dL_isSame_547 : decode cL_isSame 547 = .ok (.goto (-346), 3) := by decide +kernel
theorem dL_isSame_550 : decode cL_isSame 550 = .ok (.iconst 0, 1) := by decide +kernel
theorem dL_isSame_551 : decode cL_isSame 551 = .ok (.istore_n 3, 1) := by decide +kernel
theorem dL_isSame_552 : decode cL_isSame 552 = .ok (.iload_n 3, 1) := by decide +kernel
theorem dL_isSame_553 : decode cL_isSame 553 = .ok (.iconst 4, 1) := by decide +kernel
theorem dL_isSame_554 : decode cL_isSame 554 = .ok (.if_icmp .ge 68, 3) := by decide +kernel
theorem dL_isSame_557 : decode cL_isSame 557 = .ok (.iload_n 2, 1) := by decide +kernel
theorem dL_isSame_558 : decode cL_isSame 558 = .ok (.aload_n 0, 1) := by decide +kernel
theorem dL_isSame_559 : decode cL_isSame 559 = .ok (.getfield 42, 3) := by decide +kernel
theorem dL_isSame_562 : decode cL_isSame 562 = .ok (.iload_n 3, 1) := by decide +kernel
theorem dL_isSame_563 : decode cL_isSame 563 = .ok (.iaload, 1) := by decide +kernel
theorem dL_isSame_564 : decode cL_isSame 564 = .ok (.iadd, 1) := by decide +kernel
theorem dL_isSame_565 : decode cL_isSame 565 = .ok (.istore_n 2, 1) := by decide +kernel
theorem dL_isSame_566 : decode cL_isSame 566 = .ok (.aload_n 1, 1) := by decide +kernel
theorem dL_isSame_567 : decode cL_isSame 567 = .ok (.iload_n 3, 1) := by decide +kernel
theorem dL_isSame_568 : decode cL_isSame 568 = .ok (.iconst 0, 1) := by decide +kernel
theorem dL_isSame_569 : decode cL_isSame 569 = .ok (.invokevirtual 307, 3) := by decide +kernel
theorem dL_isSame_572 : decode cL_isSame 572 = .ok (.aload_n 0, 1) := by decide +kernel
theorem dL_isSame_573 : decode cL_isSame 573 = .ok (.getfield 42, 3) := by decide +kernel
theorem dL_isSame_576 : decode cL_isSame 576 = .ok (.iload_n 3, 1) := by decide +kernel
theorem dL_isSame_577 : decode cL_isSame 577 = .ok (.iaload, 1) := by decide +kernel
theorem dL_isSame_578 : decode cL_isSame 578 = .ok (.if_icmp .ne 36, 3) := by decide +kernel
theorem dL_isSame_581 : decode cL_isSame 581 = .ok (.aload_n 1, 1) := by decide +kernel
theorem dL_isSame_582 : decode cL_isSame 582 = .ok (.iload_n 3, 1) := by decide +kernel
theorem dL_isSame_583 : decode cL_isSame 583 = .ok (.iconst 1, 1) := by decide +kernel
theorem dL_isSame_584 : decode cL_isSame 584 = .ok (.invokevirtual 307, 3) := by decide +kernel
theorem dL_isSame_587 : decode cL_isSame 587 = .ok (.aload_n 0, 1) := by decide +kernel
theorem dL_isSame_588 : decode cL_isSame 588 = .ok (.getfield 46, 3) := by decide +kernel
theorem dL_isSame_591 : decode cL_isSame 591 = .ok (.iload_n 3, 1) := by decide +kernel
theorem dL_isSame_592 : decode cL_isSame 592 = .ok (.iaload, 1) := by decide +kernel
theorem dL_isSame_593 : decode cL_isSame 593 = .ok (.if_icmp .ne 21, 3) := by decide +kernel
theorem dL_isSame_596 : decode cL_isSame 596 = .ok (.aload_n 1, 1) := by decide +kernel
theorem dL_isSame_597 : decode cL_isSame 597 = .ok (.iload_n 3, 1) := by decide +kernel
theorem dL_isSame_598 : decode cL_isSame 598 = .ok (.iconst 1, 1) := by decide +kernel
theorem dL_isSame_599 : decode cL_isSame 599 = .ok (.iadd, 1) := by decide +kernel
theorem dL_isSame_600 : decode cL_isSame 600 = .ok (.invokevirtual 311, 3) := by decide +kernel
theorem dL_isSame_603 : decode cL_isSame 603 = .ok (.aload_n 0, 1) := by decide +kernel
theorem dL_isSame_604 : decode cL_isSame 604 = .ok (.getfield 49, 3) := by decide +kernel
theorem dL_isSame_607 : decode cL_isSame 607 = .ok (.iload_n 3, 1) := by decide +kernel
theorem dL_isSame_608 : decode cL_isSame 608 = .ok (.iconst 1, 1) := by decide +kernel
theorem dL_isSame_609 : decode cL_isSame 609 = .ok (.iadd, 1) := by decide +kernel
theorem dL_isSame_610 : decode cL_isSame 610 = .ok (.iaload, 1) := by decide +kernel
theorem dL_isSame_611 : decode cL_isSame 611 = .ok (.if_icmp .eq 5, 3) := by decide +kernel
theorem dL_isSame_614 : decode cL_isSame 614 = .ok (.iconst 0, 1) := by decide +kernel
theorem dL_isSame_615 : decode cL_isSame 615 = .ok (.ireturn, 1) := by decide +kernel
theorem dL_isSame_616 : decode cL_isSame 616 = .ok (.iinc 3 1, 3) := by decide +kernel
theorem dL_isSame_619 : decode cL_isSame 619 = .ok (.goto (-67), 3) := by decide +kernel
theorem dL_isSame_622 : decode cL_isSame 622 = .ok (.aload_n 1, 1) := by decide +kernel
theorem dL_isSame_623 : decode cL_isSame 623 = .ok (.iconst 3, 1) := by decide +kernel
theorem dL_isSame_624 : decode cL_isSame 624 = .ok (.invokevirtual 313, 3) := by decide +kernel
theorem dL_isSame_627 : decode cL_isSame 627 = .ok (.aload_n 0, 1) := by decide +kernel
theorem dL_isSame_628 : decode cL_isSame 628 = .ok (.getfield 215, 3) := by decide +kernel
theorem dL_isSame_631 : decode cL_isSame 631 = .ok (.if_icmp .ne 61, 3) := by decide +kernel
theorem dL_isSame_634 : decode cL_isSame 634 = .ok (.aload_n 1, 1) := by decide +kernel
theorem dL_isSame_635 : decode cL_isSame 635 = .ok (.bipush 9, 2) := by decide +kernel
theorem dL_isSame_637 : decode cL_isSame 637 = .ok (.invokevirtual 313, 3) := by decide +kernel
theorem dL_isSame_640 : decode cL_isSame 640 = .ok (.aload_n 0, 1) := by decide +kernel
theorem dL_isSame_641 : decode cL_isSame 641 = .ok (.getfield 79, 3) := by decide +kernel
theorem dL_isSame_644 : decode cL_isSame 644 = .ok (.if_icmp .ne 48, 3) := by decide +kernel
theorem dL_isSame_647 : decode cL_isSame 647 = .ok (.aload_n 1, 1) := by decide +kernel
theorem dL_isSame_648 : decode cL_isSame 648 = .ok (.bipush 11, 2) := by decide +kernel
theorem dL_isSame_650 : decode cL_isSame 650 = .ok (.invokevirtual 313, 3) := by decide +kernel
theorem dL_isSame_653 : decode cL_isSame 653 = .ok (.aload_n 0, 1) := by decide +kernel
theorem dL_isSame_654 : decode cL_isSame 654 = .ok (.invokevirtual 316, 3) := by decide +kernel
theorem dL_isSame_657 : decode cL_isSame 657 = .ok (.if_icmp .ne 35, 3) := by decide +kernel
theorem dL_isSame_660 : decode cL_isSame 660 = .ok (.aload_n 1, 1) := by decide +kernel
theorem dL_isSame_661 : decode cL_isSame 661 = .ok (.bipush 12, 2) := by decide +kernel
theorem dL_isSame_663 : decode cL_isSame 663 = .ok (.invokevirtual 313, 3) := by decide +kernel
theorem dL_isSame_666 : decode cL_isSame 666 = .ok (.aload_n 0, 1) := by decide +kernel
theorem dL_isSame_667 : decode cL_isSame 667 = .ok (.getfield 39, 3) := by decide +kernel
theorem dL_isSame_670 : decode cL_isSame 670 = .ok (.invokeinterface 227 1, 5) := by decide +kernel
theorem dL_isSame_675 : decode cL_isSame 675 = .ok (.if_icmp .ne 17, 3) := by decide +kernel
theorem dL_isSame_678 : decode cL_isSame 678 = .ok (.aload_n 1, 1) := by decide +kernel
theorem dL_isSame_679 : decode cL_isSame 679 = .ok (.iconst (-1), 1) := by decide +kernel
theorem dL_isSame_680 : decode cL_isSame 680 = .ok (.iconst 0, 1) := by decide +kernel
theorem dL_isSame_681 : decode cL_isSame 681 = .ok (.invokevirtual 307, 3) := by decide +kernel
theorem dL_isSame_684 : decode cL_isSame 684 = .ok (.iload_n 2, 1) := by decide +kernel
theorem dL_isSame_685 : decode cL_isSame 685 = .ok (.if_icmp .ne 7, 3) := by decide +kernel
theorem dL_isSame_688 : decode cL_isSame 688 = .ok (.iconst 1, 1) := by decide +kernel
theorem dL_isSame_689 : decode cL_isSame 689 = .ok (.goto 4, 3) := by decide +kernel
theorem dL_isSame_692 : decode cL_isSame 692 = .ok (.iconst 0, 1) := by decide +kernel
theorem dL_isSame_693 : decode cL_isSame 693 = .ok (.ireturn, 1) := by decide +kernel
/-! BusLiftsLaw.isSame(LBusLifts;)Z -/
noncomputable def f_L_isSame_693 (σ τ : Sg) (v100 : Int32) : Option (Int32 × Sg × Sg × Nat) := if ¬ (v100 = 0 ∨ v100 = 1) then none else (some (v100, σ, τ, 0))
noncomputable def f_L_isSame_692 (σ τ : Sg) : Option (Int32 × Sg × Sg × Nat) := f_L_isSame_693 σ τ 0
noncomputable def f_L_isSame_622 (σ τ : Sg) (v2 : Int32) : Option (Int32 × Sg × Sg × Nat) := bi (f_X7_count σ 3) fun r1 σ2 => (if r1 = (τ 40 0 7) then (bi (f_X7_count σ2 9) fun r3 σ4 => (if r3 = (τ 40 0 13) then (bi (f_X7_count σ4 11) fun r5 σ6 => (bqx (f_L_done τ) fun r7 τ8 => (if r5 = r7 then (bi (f_X7_count σ6 12) fun r9 σ10 => (if r9 = (τ8 50 2 2) then (bi (f_X7_messages σ10 (-1) 0) fun r11 σ12 => (if r11 = v2 then (f_L_isSame_693 σ12 τ8 1) else (f_L_isSame_692 σ12 τ8))) else (f_L_isSame_692 σ10 τ8))) else (f_L_isSame_692 σ6 τ8)))) else (f_L_isSame_692 σ4 τ))) else (f_L_isSame_692 σ2 τ))
noncomputable def f_L_isSame_614 (σ τ : Sg) : Option (Int32 × Sg × Sg × Nat) := some (0, σ, τ, 0)
noncomputable def f_L_isSame_552 : Nat → Sg → Sg → Int32 → Int32 → Option (Int32 × Sg × Sg × Nat)
  | 0, _, _, _, _ => none
  | n + 1, σ, τ, v2, v3 => if 4 ≤ v3 then (f_L_isSame_622 σ τ v2) else (if v3 < 0 ∨ 4 ≤ (v3).toNatClampNeg then none else (bi (f_X7_messages σ v3 0) fun r1 σ2 => (if v3 < 0 ∨ 4 ≤ (v3).toNatClampNeg then none else (if r1 = (τ 46 0 (v3).toNatClampNeg) then (bi (f_X7_messages σ2 v3 1) fun r3 σ4 => (if v3 < 0 ∨ 4 ≤ (v3).toNatClampNeg then none else (if r3 = (τ 47 0 (v3).toNatClampNeg) then (bi (f_X7_nobody σ4 (v3 + 1)) fun r5 σ6 => (if (v3 + 1) < 0 ∨ 5 ≤ ((v3 + 1)).toNatClampNeg then none else (if r5 = (τ 48 0 ((v3 + 1)).toNatClampNeg) then (f_L_isSame_552 n σ6 τ (v2 + (τ 46 0 (v3).toNatClampNeg)) (v3 + 1)) else (f_L_isSame_614 σ6 τ)))) else (f_L_isSame_614 σ4 τ)))) else (f_L_isSame_614 σ2 τ)))))
theorem f_L_isSame_552_s (n : Nat) (σ τ : Sg) (v2 : Int32) (v3 : Int32) : f_L_isSame_552 (n + 1) σ τ v2 v3 = (if 4 ≤ v3 then (f_L_isSame_622 σ τ v2) else (if v3 < 0 ∨ 4 ≤ (v3).toNatClampNeg then none else (bi (f_X7_messages σ v3 0) fun r1 σ2 => (if v3 < 0 ∨ 4 ≤ (v3).toNatClampNeg then none else (if r1 = (τ 46 0 (v3).toNatClampNeg) then (bi (f_X7_messages σ2 v3 1) fun r3 σ4 => (if v3 < 0 ∨ 4 ≤ (v3).toNatClampNeg then none else (if r3 = (τ 47 0 (v3).toNatClampNeg) then (bi (f_X7_nobody σ4 (v3 + 1)) fun r5 σ6 => (if (v3 + 1) < 0 ∨ 5 ≤ ((v3 + 1)).toNatClampNeg then none else (if r5 = (τ 48 0 ((v3 + 1)).toNatClampNeg) then (f_L_isSame_552 n σ6 τ (v2 + (τ 46 0 (v3).toNatClampNeg)) (v3 + 1)) else (f_L_isSame_614 σ6 τ)))) else (f_L_isSame_614 σ4 τ)))) else (f_L_isSame_614 σ2 τ)))))) := rfl
noncomputable def f_L_isSame_550 (σ τ : Sg) (v2 : Int32) : Option (Int32 × Sg × Sg × Nat) := f_L_isSame_552 FU σ τ v2 0
noncomputable def f_L_isSame_331 (σ τ : Sg) : Option (Int32 × Sg × Sg × Nat) := some (0, σ, τ, 0)
noncomputable def f_L_isSame_544 (k201 : Sg → Sg → Int32 → Int32 → Option (Int32 × Sg × Sg × Nat)) (σ τ : Sg) (v2 : Int32) (v3 : Int32) : Option (Int32 × Sg × Sg × Nat) := k201 σ τ v2 (v3 + 1)
noncomputable def f_L_isSame_443 (σ τ : Sg) : Option (Int32 × Sg × Sg × Nat) := some (0, σ, τ, 0)
noncomputable def f_L_isSame_538 (k201 : Sg → Sg → Int32 → Int32 → Option (Int32 × Sg × Sg × Nat)) (k336 : Sg → Sg → Int32 → Int32 → Nat → Int32 → Option (Int32 × Sg × Sg × Nat)) (σ τ : Sg) (v2 : Int32) (v3 : Int32) (o4 : Nat) (v5 : Int32) : Option (Int32 × Sg × Sg × Nat) := k336 σ τ v2 v3 o4 (v5 + 1)
noncomputable def f_L_isSame_530 (σ τ : Sg) : Option (Int32 × Sg × Sg × Nat) := some (0, σ, τ, 0)
noncomputable def f_L_isSame_527 (k201 : Sg → Sg → Int32 → Int32 → Option (Int32 × Sg × Sg × Nat)) (k336 : Sg → Sg → Int32 → Int32 → Nat → Int32 → Option (Int32 × Sg × Sg × Nat)) (k493 : Sg → Sg → Int32 → Int32 → Nat → Int32 → Nat → Int32 → Option (Int32 × Sg × Sg × Nat)) (σ τ : Sg) (v2 : Int32) (v3 : Int32) (o4 : Nat) (v5 : Int32) (o6 : Nat) (v7 : Int32) (v100 : Int32) (v101 : Int32) : Option (Int32 × Sg × Sg × Nat) := if v100 = v101 then (k493 σ τ v2 v3 o4 v5 o6 (v7 + 1)) else (f_L_isSame_530 σ τ)
noncomputable def f_L_isSame_493 (k201 : Sg → Sg → Int32 → Int32 → Option (Int32 × Sg × Sg × Nat)) (k336 : Sg → Sg → Int32 → Int32 → Nat → Int32 → Option (Int32 × Sg × Sg × Nat)) : Nat → Sg → Sg → Int32 → Int32 → Nat → Int32 → Nat → Int32 → Option (Int32 × Sg × Sg × Nat)
  | 0, _, _, _, _, _, _, _, _ => none
  | n + 1, σ, τ, v2, v3, o4, v5, o6, v7 => if 4 ≤ v7 then (f_L_isSame_538 k201 k336 σ τ v2 v3 o4 v5) else (bi (f_X7_hasLost σ v5 v3 v7) fun r1 σ2 => (if (((τ 43 o6 3) >>> (v7 &&& 31)) &&& 1) = 1 then (f_L_isSame_527 k201 k336 (f_L_isSame_493 k201 k336 n) σ2 τ v2 v3 o4 v5 o6 v7 r1 1) else (f_L_isSame_527 k201 k336 (f_L_isSame_493 k201 k336 n) σ2 τ v2 v3 o4 v5 o6 v7 r1 0)))
theorem f_L_isSame_493_s (k201 : Sg → Sg → Int32 → Int32 → Option (Int32 × Sg × Sg × Nat)) (k336 : Sg → Sg → Int32 → Int32 → Nat → Int32 → Option (Int32 × Sg × Sg × Nat)) (n : Nat) (σ τ : Sg) (v2 : Int32) (v3 : Int32) (o4 : Nat) (v5 : Int32) (o6 : Nat) (v7 : Int32) : f_L_isSame_493 k201 k336 (n + 1) σ τ v2 v3 o4 v5 o6 v7 = (if 4 ≤ v7 then (f_L_isSame_538 k201 k336 σ τ v2 v3 o4 v5) else (bi (f_X7_hasLost σ v5 v3 v7) fun r1 σ2 => (if (((τ 43 o6 3) >>> (v7 &&& 31)) &&& 1) = 1 then (f_L_isSame_527 k201 k336 (f_L_isSame_493 k201 k336 n) σ2 τ v2 v3 o4 v5 o6 v7 r1 1) else (f_L_isSame_527 k201 k336 (f_L_isSame_493 k201 k336 n) σ2 τ v2 v3 o4 v5 o6 v7 r1 0)))) := rfl
noncomputable def f_L_isSame_490 (k201 : Sg → Sg → Int32 → Int32 → Option (Int32 × Sg × Sg × Nat)) (k336 : Sg → Sg → Int32 → Int32 → Nat → Int32 → Option (Int32 × Sg × Sg × Nat)) (σ τ : Sg) (v2 : Int32) (v3 : Int32) (o4 : Nat) (v5 : Int32) (o6 : Nat) : Option (Int32 × Sg × Sg × Nat) := f_L_isSame_493 k201 k336 FU σ τ v2 v3 o4 v5 o6 0
noncomputable def f_L_isSame_482 (σ τ : Sg) : Option (Int32 × Sg × Sg × Nat) := some (0, σ, τ, 0)
noncomputable def f_L_isSame_448 (k201 : Sg → Sg → Int32 → Int32 → Option (Int32 × Sg × Sg × Nat)) (k336 : Sg → Sg → Int32 → Int32 → Nat → Int32 → Option (Int32 × Sg × Sg × Nat)) : Nat → Sg → Sg → Int32 → Int32 → Nat → Int32 → Nat → Int32 → Option (Int32 × Sg × Sg × Nat)
  | 0, _, _, _, _, _, _, _, _ => none
  | n + 1, σ, τ, v2, v3, o4, v5, o6, v7 => if (τ 50 0 2) ≤ v7 then (f_L_isSame_490 k201 k336 σ τ v2 v3 o4 v5 o6) else (bi (f_X7_noted σ v5 v3 v7) fun r1 σ2 => (if v7 < 0 ∨ 4 ≤ (v7).toNatClampNeg then none else (if r1 = (τ 44 o6 (v7).toNatClampNeg) then (f_L_isSame_448 k201 k336 n σ2 τ v2 v3 o4 v5 o6 (v7 + 1)) else (f_L_isSame_482 σ2 τ))))
theorem f_L_isSame_448_s (k201 : Sg → Sg → Int32 → Int32 → Option (Int32 × Sg × Sg × Nat)) (k336 : Sg → Sg → Int32 → Int32 → Nat → Int32 → Option (Int32 × Sg × Sg × Nat)) (n : Nat) (σ τ : Sg) (v2 : Int32) (v3 : Int32) (o4 : Nat) (v5 : Int32) (o6 : Nat) (v7 : Int32) : f_L_isSame_448 k201 k336 (n + 1) σ τ v2 v3 o4 v5 o6 v7 = (if (τ 50 0 2) ≤ v7 then (f_L_isSame_490 k201 k336 σ τ v2 v3 o4 v5 o6) else (bi (f_X7_noted σ v5 v3 v7) fun r1 σ2 => (if v7 < 0 ∨ 4 ≤ (v7).toNatClampNeg then none else (if r1 = (τ 44 o6 (v7).toNatClampNeg) then (f_L_isSame_448 k201 k336 n σ2 τ v2 v3 o4 v5 o6 (v7 + 1)) else (f_L_isSame_482 σ2 τ))))) := rfl
noncomputable def f_L_isSame_440 (k201 : Sg → Sg → Int32 → Int32 → Option (Int32 × Sg × Sg × Nat)) (k336 : Sg → Sg → Int32 → Int32 → Nat → Int32 → Option (Int32 × Sg × Sg × Nat)) (σ τ : Sg) (v2 : Int32) (v3 : Int32) (o4 : Nat) (v5 : Int32) (o6 : Nat) (v100 : Int32) (v101 : Int32) : Option (Int32 × Sg × Sg × Nat) := if v100 = v101 then (f_L_isSame_448 k201 k336 FU σ τ v2 v3 o4 v5 o6 0) else (f_L_isSame_443 σ τ)
noncomputable def f_L_isSame_431 (k201 : Sg → Sg → Int32 → Int32 → Option (Int32 × Sg × Sg × Nat)) (k336 : Sg → Sg → Int32 → Int32 → Nat → Int32 → Option (Int32 × Sg × Sg × Nat)) (σ τ : Sg) (v2 : Int32) (v3 : Int32) (o4 : Nat) (v5 : Int32) (o6 : Nat) (v100 : Int32) : Option (Int32 × Sg × Sg × Nat) := f_L_isSame_440 k201 k336 σ τ v2 v3 o4 v5 o6 v100 (τ 43 o6 1)
noncomputable def f_L_isSame_336 (k201 : Sg → Sg → Int32 → Int32 → Option (Int32 × Sg × Sg × Nat)) : Nat → Sg → Sg → Int32 → Int32 → Nat → Int32 → Option (Int32 × Sg × Sg × Nat)
  | 0, _, _, _, _, _, _ => none
  | n + 1, σ, τ, v2, v3, o4, v5 => if (τ 50 0 2) ≤ v5 then (f_L_isSame_544 k201 σ τ v2 v3) else (if v5 < 0 ∨ 4 ≤ (v5).toNatClampNeg then none else (bi (f_X7_holds σ v5 v3) fun r1 σ2 => (if r1 = (τ 43 (4 * o4 + (v5).toNatClampNeg) 0) then (bi (f_X7_decides σ2 v5 v3) fun r3 σ4 => (if r3 = (τ 43 (4 * o4 + (v5).toNatClampNeg) 2) then (bi (f_X7_costNow σ4 v5 v3) fun r5 σ6 => (bqx (f_L_cost τ v5 o4) fun r7 τ8 => (if r5 = r7 then (bi (f_X7_ownCost σ6 v5 v3) fun r9 σ10 => (if (τ8 43 (4 * o4 + (v5).toNatClampNeg) 0) = 0 then (if (τ8 43 (4 * o4 + (v5).toNatClampNeg) 2) < 0 then (f_L_isSame_440 k201 (f_L_isSame_336 k201 n) σ10 τ8 v2 v3 o4 v5 (4 * o4 + (v5).toNatClampNeg) r9 (-1)) else (f_L_isSame_431 k201 (f_L_isSame_336 k201 n) σ10 τ8 v2 v3 o4 v5 (4 * o4 + (v5).toNatClampNeg) r9)) else (f_L_isSame_431 k201 (f_L_isSame_336 k201 n) σ10 τ8 v2 v3 o4 v5 (4 * o4 + (v5).toNatClampNeg) r9))) else (f_L_isSame_443 σ6 τ8)))) else (f_L_isSame_443 σ4 τ))) else (f_L_isSame_443 σ2 τ))))
theorem f_L_isSame_336_s (k201 : Sg → Sg → Int32 → Int32 → Option (Int32 × Sg × Sg × Nat)) (n : Nat) (σ τ : Sg) (v2 : Int32) (v3 : Int32) (o4 : Nat) (v5 : Int32) : f_L_isSame_336 k201 (n + 1) σ τ v2 v3 o4 v5 = (if (τ 50 0 2) ≤ v5 then (f_L_isSame_544 k201 σ τ v2 v3) else (if v5 < 0 ∨ 4 ≤ (v5).toNatClampNeg then none else (bi (f_X7_holds σ v5 v3) fun r1 σ2 => (if r1 = (τ 43 (4 * o4 + (v5).toNatClampNeg) 0) then (bi (f_X7_decides σ2 v5 v3) fun r3 σ4 => (if r3 = (τ 43 (4 * o4 + (v5).toNatClampNeg) 2) then (bi (f_X7_costNow σ4 v5 v3) fun r5 σ6 => (bqx (f_L_cost τ v5 o4) fun r7 τ8 => (if r5 = r7 then (bi (f_X7_ownCost σ6 v5 v3) fun r9 σ10 => (if (τ8 43 (4 * o4 + (v5).toNatClampNeg) 0) = 0 then (if (τ8 43 (4 * o4 + (v5).toNatClampNeg) 2) < 0 then (f_L_isSame_440 k201 (f_L_isSame_336 k201 n) σ10 τ8 v2 v3 o4 v5 (4 * o4 + (v5).toNatClampNeg) r9 (-1)) else (f_L_isSame_431 k201 (f_L_isSame_336 k201 n) σ10 τ8 v2 v3 o4 v5 (4 * o4 + (v5).toNatClampNeg) r9)) else (f_L_isSame_431 k201 (f_L_isSame_336 k201 n) σ10 τ8 v2 v3 o4 v5 (4 * o4 + (v5).toNatClampNeg) r9))) else (f_L_isSame_443 σ6 τ8)))) else (f_L_isSame_443 σ4 τ))) else (f_L_isSame_443 σ2 τ))))) := rfl
noncomputable def f_L_isSame_201 : Nat → Sg → Sg → Int32 → Int32 → Option (Int32 × Sg × Sg × Nat)
  | 0, _, _, _, _ => none
  | n + 1, σ, τ, v2, v3 => if (τ 50 1 2) ≤ v3 then (f_L_isSame_550 σ τ v2) else (if v3 < 0 ∨ q_nn τ 1 ≤ (v3).toNatClampNeg then none else (bi (f_X7_call σ v3 3) fun r1 σ2 => (if r1 = (τ 42 ((v3).toNatClampNeg) 3) then (bi (f_X7_call σ2 v3 4) fun r3 σ4 => (if r3 = (τ 42 ((v3).toNatClampNeg) 4) then (bi (f_X7_call σ4 v3 5) fun r5 σ6 => (if r5 = (τ 42 ((v3).toNatClampNeg) 5) then (bi (f_X7_call σ6 v3 6) fun r7 σ8 => (if r7 = (τ 42 ((v3).toNatClampNeg) 6) then (bi (f_X7_call σ8 v3 7) fun r9 σ10 => (if r9 = (τ 42 ((v3).toNatClampNeg) 7) then (bi (f_X7_call σ10 v3 8) fun r11 σ12 => (if r11 = (τ 42 ((v3).toNatClampNeg) 8) then (bi (f_X7_call σ12 v3 10) fun r13 σ14 => (if r13 = (τ 42 ((v3).toNatClampNeg) 10) then (f_L_isSame_336 (f_L_isSame_201 n) FU σ14 τ v2 v3 ((v3).toNatClampNeg) 0) else (f_L_isSame_331 σ14 τ))) else (f_L_isSame_331 σ12 τ))) else (f_L_isSame_331 σ10 τ))) else (f_L_isSame_331 σ8 τ))) else (f_L_isSame_331 σ6 τ))) else (f_L_isSame_331 σ4 τ))) else (f_L_isSame_331 σ2 τ))))
theorem f_L_isSame_201_s (n : Nat) (σ τ : Sg) (v2 : Int32) (v3 : Int32) : f_L_isSame_201 (n + 1) σ τ v2 v3 = (if (τ 50 1 2) ≤ v3 then (f_L_isSame_550 σ τ v2) else (if v3 < 0 ∨ q_nn τ 1 ≤ (v3).toNatClampNeg then none else (bi (f_X7_call σ v3 3) fun r1 σ2 => (if r1 = (τ 42 ((v3).toNatClampNeg) 3) then (bi (f_X7_call σ2 v3 4) fun r3 σ4 => (if r3 = (τ 42 ((v3).toNatClampNeg) 4) then (bi (f_X7_call σ4 v3 5) fun r5 σ6 => (if r5 = (τ 42 ((v3).toNatClampNeg) 5) then (bi (f_X7_call σ6 v3 6) fun r7 σ8 => (if r7 = (τ 42 ((v3).toNatClampNeg) 6) then (bi (f_X7_call σ8 v3 7) fun r9 σ10 => (if r9 = (τ 42 ((v3).toNatClampNeg) 7) then (bi (f_X7_call σ10 v3 8) fun r11 σ12 => (if r11 = (τ 42 ((v3).toNatClampNeg) 8) then (bi (f_X7_call σ12 v3 10) fun r13 σ14 => (if r13 = (τ 42 ((v3).toNatClampNeg) 10) then (f_L_isSame_336 (f_L_isSame_201 n) FU σ14 τ v2 v3 ((v3).toNatClampNeg) 0) else (f_L_isSame_331 σ14 τ))) else (f_L_isSame_331 σ12 τ))) else (f_L_isSame_331 σ10 τ))) else (f_L_isSame_331 σ8 τ))) else (f_L_isSame_331 σ6 τ))) else (f_L_isSame_331 σ4 τ))) else (f_L_isSame_331 σ2 τ))))) := rfl
noncomputable def f_L_isSame_199 (σ τ : Sg) (v2 : Int32) : Option (Int32 × Sg × Sg × Nat) := f_L_isSame_201 FU σ τ v2 0
noncomputable def f_L_isSame_191 (σ τ : Sg) : Option (Int32 × Sg × Sg × Nat) := some (0, σ, τ, 0)
noncomputable def f_L_isSame_130 (k4 : Sg → Sg → Int32 → Int32 → Option (Int32 × Sg × Sg × Nat)) (σ τ : Sg) (v2 : Int32) (v3 : Int32) (o4 : Nat) (v100 : Int32) (v101 : Int32) : Option (Int32 × Sg × Sg × Nat) := if v100 = v101 then (bi (f_X7_car σ v3 7) fun r1 σ2 => (if r1 = (τ 41 o4 5) then (bi (f_X7_car σ2 v3 8) fun r3 σ4 => (if r3 = (τ 41 o4 6) then (bi (f_X7_car σ4 v3 9) fun r5 σ6 => (if r5 = (τ 41 o4 7) then (bi (f_X7_goal σ6 v3) fun r7 σ8 => (bqx (f_L_goal τ v3) fun r9 τ10 => (if r7 = r9 then (k4 σ8 τ10 v2 (v3 + 1)) else (f_L_isSame_191 σ8 τ10)))) else (f_L_isSame_191 σ6 τ))) else (f_L_isSame_191 σ4 τ))) else (f_L_isSame_191 σ2 τ))) else (f_L_isSame_191 σ τ)
noncomputable def f_L_isSame_107 (k4 : Sg → Sg → Int32 → Int32 → Option (Int32 × Sg × Sg × Nat)) (σ τ : Sg) (v2 : Int32) (v3 : Int32) (o4 : Nat) (v100 : Int32) (v101 : Int32) : Option (Int32 × Sg × Sg × Nat) := if v100 = v101 then (bi (f_X7_car σ v3 6) fun r1 σ2 => (if (τ 41 o4 4) = 0 then (f_L_isSame_130 k4 σ2 τ v2 v3 o4 r1 0) else (f_L_isSame_130 k4 σ2 τ v2 v3 o4 r1 1))) else (f_L_isSame_191 σ τ)
noncomputable def f_L_isSame_4 : Nat → Sg → Sg → Int32 → Int32 → Option (Int32 × Sg × Sg × Nat)
  | 0, _, _, _, _ => none
  | n + 1, σ, τ, v2, v3 => if (τ 50 0 2) ≤ v3 then (f_L_isSame_199 σ τ v2) else (if v3 < 0 ∨ q_nn τ 0 ≤ (v3).toNatClampNeg then none else (bi (f_X7_car σ v3 0) fun r1 σ2 => (if r1 = (τ 41 ((v3).toNatClampNeg) 0) then (bi (f_X7_car σ2 v3 2) fun r3 σ4 => (if r3 = (τ 41 ((v3).toNatClampNeg) 2) then (bi (f_X7_car σ4 v3 3) fun r5 σ6 => (bqx (f_L_held τ v3) fun r7 τ8 => (if r5 = r7 then (bi (f_X7_car σ6 v3 4) fun r9 σ10 => (bqx (f_L_aboard τ8 v3) fun r11 τ12 => (if r9 = r11 then (bi (f_X7_car σ10 v3 5) fun r13 σ14 => (if (τ12 41 ((v3).toNatClampNeg) 3) = 0 then (f_L_isSame_107 (f_L_isSame_4 n) σ14 τ12 v2 v3 ((v3).toNatClampNeg) r13 0) else (f_L_isSame_107 (f_L_isSame_4 n) σ14 τ12 v2 v3 ((v3).toNatClampNeg) r13 1))) else (f_L_isSame_191 σ10 τ12)))) else (f_L_isSame_191 σ6 τ8)))) else (f_L_isSame_191 σ4 τ))) else (f_L_isSame_191 σ2 τ))))
theorem f_L_isSame_4_s (n : Nat) (σ τ : Sg) (v2 : Int32) (v3 : Int32) : f_L_isSame_4 (n + 1) σ τ v2 v3 = (if (τ 50 0 2) ≤ v3 then (f_L_isSame_199 σ τ v2) else (if v3 < 0 ∨ q_nn τ 0 ≤ (v3).toNatClampNeg then none else (bi (f_X7_car σ v3 0) fun r1 σ2 => (if r1 = (τ 41 ((v3).toNatClampNeg) 0) then (bi (f_X7_car σ2 v3 2) fun r3 σ4 => (if r3 = (τ 41 ((v3).toNatClampNeg) 2) then (bi (f_X7_car σ4 v3 3) fun r5 σ6 => (bqx (f_L_held τ v3) fun r7 τ8 => (if r5 = r7 then (bi (f_X7_car σ6 v3 4) fun r9 σ10 => (bqx (f_L_aboard τ8 v3) fun r11 τ12 => (if r9 = r11 then (bi (f_X7_car σ10 v3 5) fun r13 σ14 => (if (τ12 41 ((v3).toNatClampNeg) 3) = 0 then (f_L_isSame_107 (f_L_isSame_4 n) σ14 τ12 v2 v3 ((v3).toNatClampNeg) r13 0) else (f_L_isSame_107 (f_L_isSame_4 n) σ14 τ12 v2 v3 ((v3).toNatClampNeg) r13 1))) else (f_L_isSame_191 σ10 τ12)))) else (f_L_isSame_191 σ6 τ8)))) else (f_L_isSame_191 σ4 τ))) else (f_L_isSame_191 σ2 τ))))) := rfl
noncomputable def f_L_isSame (σ τ : Sg) : Option (Int32 × Sg × Sg × Nat) := f_L_isSame_4 FU σ τ 0 0
set_option maxHeartbeats 4000000 in
set_option maxRecDepth 100000 in
theorem w_L_isSame_693 {p : Program} {l : Launch} {e : Env} {s : State} {m : MethodId} {args : Array Value} {below : List Frame} {meth : Method} {c : Code} {G : Gx} {ad : Ad} {N : Nn} {adX : Ad} {a0 : Nat} {A : Nat → Prop} {res : Int32 × Sg × Sg} {n : Nat} (C : Cx p s m args meth c yL_isSame.cls cL_isSame 8 (Option.some FieldType.boolean) G) (FX : F_X G adX) (hXA : ∀ q, z_X adX q → A q) (hN : N.2.2 = (0, 0)) (ha0 : ad 40 0 = a0) : ∀ (σ τ : Sg) (v100 : Int32) (H : Heap) (locs : List Loc) (ls : Array Slot) (cells d : Nat), q_S G ad N (x_c G adX σ) τ [] A s.heap H locs → lv_has ls 8 [] → f_L_isSame_693 σ τ v100 = some (res.1, res.2.1, res.2.2, d) → cells + d = n → W p l e { frames := 5, cells := n, slots := 6 * n, locals := 104 } s m args below meth c H locs cells (6 * cells) (MQ below (k_Q (some (.int res.1)) (r_V G a0 adX res.2.1 res.2.2 A) A) args s n (6 * n) A) (F0 m 693 ls [.int v100]) := by
  intro σ τ v100 H locs ls cells d S hl hf hd
  unfold f_L_isSame_693 at hf
  obtain ⟨g_693, hf⟩ := gd hf
  exact b_zret C S hN ha0 (nbz g_693).1 hf hd dL_isSame_693
set_option maxHeartbeats 4000000 in
set_option maxRecDepth 100000 in
theorem w_L_isSame_692 {p : Program} {l : Launch} {e : Env} {s : State} {m : MethodId} {args : Array Value} {below : List Frame} {meth : Method} {c : Code} {G : Gx} {ad : Ad} {N : Nn} {adX : Ad} {a0 : Nat} {A : Nat → Prop} {res : Int32 × Sg × Sg} {n : Nat} (C : Cx p s m args meth c yL_isSame.cls cL_isSame 8 (Option.some FieldType.boolean) G) (FX : F_X G adX) (hXA : ∀ q, z_X adX q → A q) (hN : N.2.2 = (0, 0)) (ha0 : ad 40 0 = a0) : ∀ (σ τ : Sg) (H : Heap) (locs : List Loc) (ls : Array Slot) (cells d : Nat), q_S G ad N (x_c G adX σ) τ [] A s.heap H locs → lv_has ls 8 [] → f_L_isSame_692 σ τ = some (res.1, res.2.1, res.2.2, d) → cells + d = n → W p l e { frames := 5, cells := n, slots := 6 * n, locals := 104 } s m args below meth c H locs cells (6 * cells) (MQ below (k_Q (some (.int res.1)) (r_V G a0 adX res.2.1 res.2.2 A) A) args s n (6 * n) A) (F0 m 692 ls []) := by
  intro σ τ H locs ls cells d S hl hf hd
  unfold f_L_isSame_692 at hf
  refine lv_iconst (v := 0) C.1 C.2.1 dL_isSame_692 (by decide) ?_
  exact w_L_isSame_693 C FX hXA hN ha0 _ _ 0 _ _ _ _ _ S (lv_sub hl [] rfl) hf hd
set_option maxHeartbeats 4000000 in
set_option maxRecDepth 100000 in
theorem w_L_isSame_622 {p : Program} {l : Launch} {e : Env} {s : State} {m : MethodId} {args : Array Value} {below : List Frame} {meth : Method} {c : Code} {G : Gx} {ad : Ad} {N : Nn} {adX : Ad} {a0 : Nat} {A : Nat → Prop} {res : Int32 × Sg × Sg} {n : Nat} (C : Cx p s m args meth c yL_isSame.cls cL_isSame 8 (Option.some FieldType.boolean) G) (FX : F_X G adX) (hXA : ∀ q, z_X adX q → A q) (hN : N.2.2 = (0, 0)) (ha0 : ad 40 0 = a0) : ∀ (σ τ : Sg) (v2 : Int32) (H : Heap) (locs : List Loc) (ls : Array Slot) (cells d : Nat), q_S G ad N (x_c G adX σ) τ [] A s.heap H locs → lv_has ls 8 [(0, .ref (ad 40 0)), (1, .ref (adX 7 0)), (2, .int v2)] → f_L_isSame_622 σ τ v2 = some (res.1, res.2.1, res.2.2, d) → cells + d = n → W p l e { frames := 5, cells := n, slots := 6 * n, locals := 104 } s m args below meth c H locs cells (6 * cells) (MQ below (k_Q (some (.int res.1)) (r_V G a0 adX res.2.1 res.2.2 A) A) args s n (6 * n) A) (F0 m 622 ls []) := by
  intro σ τ v2 H locs ls cells d S hl hf hd
  unfold f_L_isSame_622 at hf
  refine lv_aload_n C.1 C.2.1 dL_isSame_622 rfl (lv_at hl 1 rfl) ?_
  refine lv_iconst (v := 3) C.1 C.2.1 dL_isSame_623 (by decide) ?_
  obtain ⟨r1, σ2, q_624, hf⟩ := bib hf
  refine q_callXI C FX hXA S rfl [.int 3] (m_X7_count l G adX σ 3 r1 σ2 q_624 _) kv_X7_count tw_6_186 ⟨(Nat.le_of_ble_eq_true rfl), (Nat.le_of_ble_eq_true rfl)⟩ rfl rfl (Nat.le_of_ble_eq_true rfl) hl.1 ⟨(show _ ≤ n from by omega), (show _ ≤ 6 * n from by omega)⟩ dL_isSame_624 (fun H locs S => ?_)
  refine lv_aload_n C.1 C.2.1 dL_isSame_627 rfl (lv_at hl 0 rfl) ?_
  refine q_getI C S 40 0 rfl rfl cf_11 7 (by decide) (qi_40_7 G τ 0) tw_4_103 dL_isSame_628 ?_
  refine lv_icmp_ne (tgt := 692) C.1 C.2.1 dL_isSame_631 (by decide) (fun c_631 => ?_) (fun c_631 => ?_)
  · rw [if_neg c_631] at hf
    exact w_L_isSame_692 C FX hXA hN ha0 _ _ _ _ _ _ _ S (lv_sub hl [] rfl) hf hd
  · rw [if_pos c_631] at hf
    refine lv_aload_n C.1 C.2.1 dL_isSame_634 rfl (lv_at hl 1 rfl) ?_
    refine lv_bipush (v := 9) C.1 C.2.1 dL_isSame_635 (by decide) ?_
    obtain ⟨r3, σ4, q_637, hf⟩ := bib hf
    refine q_callXI C FX hXA S rfl [.int 9] (m_X7_count l G adX σ2 9 r3 σ4 q_637 _) kv_X7_count tw_6_186 ⟨(Nat.le_of_ble_eq_true rfl), (Nat.le_of_ble_eq_true rfl)⟩ rfl rfl (Nat.le_of_ble_eq_true rfl) hl.1 ⟨(show _ ≤ n from by omega), (show _ ≤ 6 * n from by omega)⟩ dL_isSame_637 (fun H locs S => ?_)
    refine lv_aload_n C.1 C.2.1 dL_isSame_640 rfl (lv_at hl 0 rfl) ?_
    refine q_getI C S 40 0 rfl rfl cf_11 13 (by decide) (qi_40_13 G τ 0) tw_4_109 dL_isSame_641 ?_
    refine lv_icmp_ne (tgt := 692) C.1 C.2.1 dL_isSame_644 (by decide) (fun c_644 => ?_) (fun c_644 => ?_)
    · rw [if_neg c_644] at hf
      exact w_L_isSame_692 C FX hXA hN ha0 _ _ _ _ _ _ _ S (lv_sub hl [] rfl) hf hd
    · rw [if_pos c_644] at hf
      refine lv_aload_n C.1 C.2.1 dL_isSame_647 rfl (lv_at hl 1 rfl) ?_
      refine lv_bipush (v := 11) C.1 C.2.1 dL_isSame_648 (by decide) ?_
      obtain ⟨r5, σ6, q_650, hf⟩ := bib hf
      refine q_callXI C FX hXA S rfl [.int 11] (m_X7_count l G adX σ4 11 r5 σ6 q_650 _) kv_X7_count tw_6_186 ⟨(Nat.le_of_ble_eq_true rfl), (Nat.le_of_ble_eq_true rfl)⟩ rfl rfl (Nat.le_of_ble_eq_true rfl) hl.1 ⟨(show _ ≤ n from by omega), (show _ ≤ 6 * n from by omega)⟩ dL_isSame_650 (fun H locs S => ?_)
      refine lv_aload_n C.1 C.2.1 dL_isSame_653 rfl (lv_at hl 0 rfl) ?_
      obtain ⟨r7, τ8, c_654, d_654, q_654, hf, e_654⟩ := bqxb hf
      refine q_callV (τ' := τ8) (v := (some (.int r7))) C S [] rfl (fun ad' he => by have h := m_L_done l G ad' N τ (r7, τ8) c_654 q_654 H.size; rw [he 40 0 rfl] at h; exact h) kv_L_done tw_6_194 ⟨(Nat.le_of_ble_eq_true rfl), (Nat.le_of_ble_eq_true rfl)⟩ rfl rfl (Nat.le_of_ble_eq_true rfl) hl.1 ⟨(show _ ≤ n from by omega), (show _ ≤ 6 * n from by omega)⟩ dL_isSame_654 (fun H locs S => ?_)
      replace hd := q_hd2 hd e_654
      refine lv_icmp_ne (tgt := 692) C.1 C.2.1 dL_isSame_657 (by decide) (fun c_657 => ?_) (fun c_657 => ?_)
      · rw [if_neg c_657] at hf
        exact w_L_isSame_692 C FX hXA hN ha0 _ _ _ _ _ _ _ S (lv_sub hl [] rfl) hf hd
      · rw [if_pos c_657] at hf
        refine lv_aload_n C.1 C.2.1 dL_isSame_660 rfl (lv_at hl 1 rfl) ?_
        refine lv_bipush (v := 12) C.1 C.2.1 dL_isSame_661 (by decide) ?_
        obtain ⟨r9, σ10, q_663, hf⟩ := bib hf
        refine q_callXI C FX hXA S rfl [.int 12] (m_X7_count l G adX σ6 12 r9 σ10 q_663 _) kv_X7_count tw_6_186 ⟨(Nat.le_of_ble_eq_true rfl), (Nat.le_of_ble_eq_true rfl)⟩ rfl rfl (Nat.le_of_ble_eq_true rfl) hl.1 ⟨(show _ ≤ n from by omega), (show _ ≤ 6 * n from by omega)⟩ dL_isSame_663 (fun H locs S => ?_)
        refine lv_aload_n C.1 C.2.1 dL_isSame_666 rfl (lv_at hl 0 rfl) ?_
        refine q_busSize C S tw_4_98 tw_5_190 ⟨(Nat.le_of_ble_eq_true rfl), (Nat.le_of_ble_eq_true rfl)⟩ (Nat.le_of_ble_eq_true rfl) hl.1 ⟨(show _ ≤ n from by omega), (show _ ≤ 6 * n from by omega)⟩ dL_isSame_667 dL_isSame_670 (fun H locs S => ?_)
        refine lv_icmp_ne (tgt := 692) C.1 C.2.1 dL_isSame_675 (by decide) (fun c_675 => ?_) (fun c_675 => ?_)
        · rw [if_neg c_675] at hf
          exact w_L_isSame_692 C FX hXA hN ha0 _ _ _ _ _ _ _ S (lv_sub hl [] rfl) hf hd
        · rw [if_pos c_675] at hf
          refine lv_aload_n C.1 C.2.1 dL_isSame_678 rfl (lv_at hl 1 rfl) ?_
          refine lv_iconst (v := (-1)) C.1 C.2.1 dL_isSame_679 (by decide) ?_
          refine lv_iconst (v := 0) C.1 C.2.1 dL_isSame_680 (by decide) ?_
          obtain ⟨r11, σ12, q_681, hf⟩ := bib hf
          refine q_callXI C FX hXA S rfl [.int (-1), .int 0] (m_X7_messages l G adX σ10 (-1) 0 r11 σ12 q_681 _) kv_X7_messages tw_6_175 ⟨(Nat.le_of_ble_eq_true rfl), (Nat.le_of_ble_eq_true rfl)⟩ rfl rfl (Nat.le_of_ble_eq_true rfl) hl.1 ⟨(show _ ≤ n from by omega), (show _ ≤ 6 * n from by omega)⟩ dL_isSame_681 (fun H locs S => ?_)
          refine lv_iload_n C.1 C.2.1 dL_isSame_684 rfl (lv_at hl 2 rfl) ?_
          refine lv_icmp_ne (tgt := 692) C.1 C.2.1 dL_isSame_685 (by decide) (fun c_685 => ?_) (fun c_685 => ?_)
          · rw [if_neg c_685] at hf
            exact w_L_isSame_692 C FX hXA hN ha0 _ _ _ _ _ _ _ S (lv_sub hl [] rfl) hf hd
          · rw [if_pos c_685] at hf
            refine lv_iconst (v := 1) C.1 C.2.1 dL_isSame_688 (by decide) ?_
            refine lv_goto (tgt := 693) C.1 C.2.1 dL_isSame_689 (by decide) ?_
            exact w_L_isSame_693 C FX hXA hN ha0 _ _ 1 _ _ _ _ _ S (lv_sub hl [] rfl) hf hd
set_option maxHeartbeats 4000000 in
set_option maxRecDepth 100000 in
theorem w_L_isSame_614 {p : Program} {l : Launch} {e : Env} {s : State} {m : MethodId} {args : Array Value} {below : List Frame} {meth : Method} {c : Code} {G : Gx} {ad : Ad} {N : Nn} {adX : Ad} {a0 : Nat} {A : Nat → Prop} {res : Int32 × Sg × Sg} {n : Nat} (C : Cx p s m args meth c yL_isSame.cls cL_isSame 8 (Option.some FieldType.boolean) G) (FX : F_X G adX) (hXA : ∀ q, z_X adX q → A q) (hN : N.2.2 = (0, 0)) (ha0 : ad 40 0 = a0) : ∀ (σ τ : Sg) (H : Heap) (locs : List Loc) (ls : Array Slot) (cells d : Nat), q_S G ad N (x_c G adX σ) τ [] A s.heap H locs → lv_has ls 8 [] → f_L_isSame_614 σ τ = some (res.1, res.2.1, res.2.2, d) → cells + d = n → W p l e { frames := 5, cells := n, slots := 6 * n, locals := 104 } s m args below meth c H locs cells (6 * cells) (MQ below (k_Q (some (.int res.1)) (r_V G a0 adX res.2.1 res.2.2 A) A) args s n (6 * n) A) (F0 m 614 ls []) := by
  intro σ τ H locs ls cells d S hl hf hd
  unfold f_L_isSame_614 at hf
  refine lv_iconst (v := 0) C.1 C.2.1 dL_isSame_614 (by decide) ?_
  exact b_zret C S hN ha0 rfl hf hd dL_isSame_615
set_option maxHeartbeats 4000000 in
set_option maxRecDepth 100000 in
theorem w_L_isSame_552 {p : Program} {l : Launch} {e : Env} {s : State} {m : MethodId} {args : Array Value} {below : List Frame} {meth : Method} {c : Code} {G : Gx} {ad : Ad} {N : Nn} {adX : Ad} {a0 : Nat} {A : Nat → Prop} {res : Int32 × Sg × Sg} {n : Nat} (C : Cx p s m args meth c yL_isSame.cls cL_isSame 8 (Option.some FieldType.boolean) G) (FX : F_X G adX) (hXA : ∀ q, z_X adX q → A q) (hN : N.2.2 = (0, 0)) (ha0 : ad 40 0 = a0) : ∀ n9 : Nat, ∀ (σ τ : Sg) (v2 : Int32) (v3 : Int32) (H : Heap) (locs : List Loc) (ls : Array Slot) (cells d : Nat), q_S G ad N (x_c G adX σ) τ [] A s.heap H locs → lv_has ls 8 [(0, .ref (ad 40 0)), (1, .ref (adX 7 0)), (2, .int v2), (3, .int v3)] → f_L_isSame_552 n9 σ τ v2 v3 = some (res.1, res.2.1, res.2.2, d) → cells + d = n → W p l e { frames := 5, cells := n, slots := 6 * n, locals := 104 } s m args below meth c H locs cells (6 * cells) (MQ below (k_Q (some (.int res.1)) (r_V G a0 adX res.2.1 res.2.2 A) A) args s n (6 * n) A) (F0 m 552 ls []) := by
  intro n9
  induction n9 with
  | zero => intro σ τ v2 v3 H locs ls cells d S hl hf hd; cases hf
  | succ n9 ih =>
    intro σ τ v2 v3 H locs ls cells d S hl hf hd
    rw [f_L_isSame_552_s] at hf
    refine lv_iload_n C.1 C.2.1 dL_isSame_552 rfl (lv_at hl 3 rfl) ?_
    refine lv_iconst (v := 4) C.1 C.2.1 dL_isSame_553 (by decide) ?_
    refine lv_icmp_ge (tgt := 622) C.1 C.2.1 dL_isSame_554 (by decide) (fun c_554 => ?_) (fun c_554 => ?_)
    · rw [if_pos c_554] at hf
      exact w_L_isSame_622 C FX hXA hN ha0 _ _ v2 _ _ _ _ _ S (lv_sub hl [0, 1, 2] rfl) hf hd
    · rw [if_neg c_554] at hf
      refine lv_iload_n C.1 C.2.1 dL_isSame_557 rfl (lv_at hl 2 rfl) ?_
      refine lv_aload_n C.1 C.2.1 dL_isSame_558 rfl (lv_at hl 0 rfl) ?_
      refine q_getR C S 40 0 46 0 rfl rfl rfl cf_11 4 (by decide) (qr_40_4 G τ 0) tw_4_100 dL_isSame_559 ?_
      refine lv_iload_n C.1 C.2.1 dL_isSame_562 rfl (lv_at hl 3 rfl) ?_
      obtain ⟨g_563, hf⟩ := gd hf
      refine q_iald C S 46 0 4 rfl rfl (fun _ => rfl) g_563 dL_isSame_563 ?_
      refine lv_iadd C.1 C.2.1 dL_isSame_564 ?_
      refine lv_istore_n (lv' := [(2, .int (v2 + (τ 46 0 (v3).toNatClampNeg))), (0, .ref (ad 40 0)), (1, .ref (adX 7 0)), (3, .int v3)]) C.1 C.2.1 dL_isSame_565 rfl hl (by decide) rfl (fun ls hl => ?_)
      refine lv_aload_n C.1 C.2.1 dL_isSame_566 rfl (lv_at hl 2 rfl) ?_
      refine lv_iload_n C.1 C.2.1 dL_isSame_567 rfl (lv_at hl 3 rfl) ?_
      refine lv_iconst (v := 0) C.1 C.2.1 dL_isSame_568 (by decide) ?_
      obtain ⟨r1, σ2, q_569, hf⟩ := bib hf
      refine q_callXI C FX hXA S rfl [.int v3, .int 0] (m_X7_messages l G adX σ v3 0 r1 σ2 q_569 _) kv_X7_messages tw_6_175 ⟨(Nat.le_of_ble_eq_true rfl), (Nat.le_of_ble_eq_true rfl)⟩ rfl rfl (Nat.le_of_ble_eq_true rfl) hl.1 ⟨(show _ ≤ n from by omega), (show _ ≤ 6 * n from by omega)⟩ dL_isSame_569 (fun H locs S => ?_)
      refine lv_aload_n C.1 C.2.1 dL_isSame_572 rfl (lv_at hl 1 rfl) ?_
      refine q_getR C S 40 0 46 0 rfl rfl rfl cf_11 4 (by decide) (qr_40_4 G τ 0) tw_4_100 dL_isSame_573 ?_
      refine lv_iload_n C.1 C.2.1 dL_isSame_576 rfl (lv_at hl 3 rfl) ?_
      obtain ⟨g_577, hf⟩ := gd hf
      refine q_iald C S 46 0 4 rfl rfl (fun _ => rfl) g_577 dL_isSame_577 ?_
      refine lv_icmp_ne (tgt := 614) C.1 C.2.1 dL_isSame_578 (by decide) (fun c_578 => ?_) (fun c_578 => ?_)
      · rw [if_neg c_578] at hf
        exact w_L_isSame_614 C FX hXA hN ha0 _ _ _ _ _ _ _ S (lv_sub hl [] rfl) hf hd
      · rw [if_pos c_578] at hf
        refine lv_aload_n C.1 C.2.1 dL_isSame_581 rfl (lv_at hl 2 rfl) ?_
        refine lv_iload_n C.1 C.2.1 dL_isSame_582 rfl (lv_at hl 3 rfl) ?_
        refine lv_iconst (v := 1) C.1 C.2.1 dL_isSame_583 (by decide) ?_
        obtain ⟨r3, σ4, q_584, hf⟩ := bib hf
        refine q_callXI C FX hXA S rfl [.int v3, .int 1] (m_X7_messages l G adX σ2 v3 1 r3 σ4 q_584 _) kv_X7_messages tw_6_175 ⟨(Nat.le_of_ble_eq_true rfl), (Nat.le_of_ble_eq_true rfl)⟩ rfl rfl (Nat.le_of_ble_eq_true rfl) hl.1 ⟨(show _ ≤ n from by omega), (show _ ≤ 6 * n from by omega)⟩ dL_isSame_584 (fun H locs S => ?_)
        refine lv_aload_n C.1 C.2.1 dL_isSame_587 rfl (lv_at hl 1 rfl) ?_
        refine q_getR C S 40 0 47 0 rfl rfl rfl cf_11 5 (by decide) (qr_40_5 G τ 0) tw_4_101 dL_isSame_588 ?_
        refine lv_iload_n C.1 C.2.1 dL_isSame_591 rfl (lv_at hl 3 rfl) ?_
        obtain ⟨g_592, hf⟩ := gd hf
        refine q_iald C S 47 0 4 rfl rfl (fun _ => rfl) g_592 dL_isSame_592 ?_
        refine lv_icmp_ne (tgt := 614) C.1 C.2.1 dL_isSame_593 (by decide) (fun c_593 => ?_) (fun c_593 => ?_)
        · rw [if_neg c_593] at hf
          exact w_L_isSame_614 C FX hXA hN ha0 _ _ _ _ _ _ _ S (lv_sub hl [] rfl) hf hd
        · rw [if_pos c_593] at hf
          refine lv_aload_n C.1 C.2.1 dL_isSame_596 rfl (lv_at hl 2 rfl) ?_
          refine lv_iload_n C.1 C.2.1 dL_isSame_597 rfl (lv_at hl 3 rfl) ?_
          refine lv_iconst (v := 1) C.1 C.2.1 dL_isSame_598 (by decide) ?_
          refine lv_iadd C.1 C.2.1 dL_isSame_599 ?_
          obtain ⟨r5, σ6, q_600, hf⟩ := bib hf
          refine q_callXI C FX hXA S rfl [.int (v3 + 1)] (m_X7_nobody l G adX σ4 (v3 + 1) r5 σ6 q_600 _) kv_X7_nobody tw_6_182 ⟨(Nat.le_of_ble_eq_true rfl), (Nat.le_of_ble_eq_true rfl)⟩ rfl rfl (Nat.le_of_ble_eq_true rfl) hl.1 ⟨(show _ ≤ n from by omega), (show _ ≤ 6 * n from by omega)⟩ dL_isSame_600 (fun H locs S => ?_)
          refine lv_aload_n C.1 C.2.1 dL_isSame_603 rfl (lv_at hl 1 rfl) ?_
          refine q_getR C S 40 0 48 0 rfl rfl rfl cf_11 6 (by decide) (qr_40_6 G τ 0) tw_4_102 dL_isSame_604 ?_
          refine lv_iload_n C.1 C.2.1 dL_isSame_607 rfl (lv_at hl 3 rfl) ?_
          refine lv_iconst (v := 1) C.1 C.2.1 dL_isSame_608 (by decide) ?_
          refine lv_iadd C.1 C.2.1 dL_isSame_609 ?_
          obtain ⟨g_610, hf⟩ := gd hf
          refine q_iald C S 48 0 5 rfl rfl (fun _ => rfl) g_610 dL_isSame_610 ?_
          refine lv_icmp_eq (tgt := 616) C.1 C.2.1 dL_isSame_611 (by decide) (fun c_611 => ?_) (fun c_611 => ?_)
          · rw [if_pos c_611] at hf
            refine lv_iinc (v := (v3 + 1)) (lv' := [(3, .int (v3 + 1)), (2, .int (v2 + (τ 46 0 (v3).toNatClampNeg))), (0, .ref (ad 40 0)), (1, .ref (adX 7 0))]) C.1 C.2.1 dL_isSame_616 hl (k := 3) rfl rfl (by decide) rfl (fun ls hl => ?_)
            refine lv_goto (tgt := 552) C.1 C.2.1 dL_isSame_619 (by decide) ?_
            exact ih _ _ (v2 + (τ 46 0 (v3).toNatClampNeg)) (v3 + 1) _ _ _ _ _ S (lv_sub hl [2, 3, 1, 0] rfl) hf hd
          · rw [if_neg c_611] at hf
            exact w_L_isSame_614 C FX hXA hN ha0 _ _ _ _ _ _ _ S (lv_sub hl [] rfl) hf hd
set_option maxHeartbeats 4000000 in
set_option maxRecDepth 100000 in
theorem w_L_isSame_550 {p : Program} {l : Launch} {e : Env} {s : State} {m : MethodId} {args : Array Value} {below : List Frame} {meth : Method} {c : Code} {G : Gx} {ad : Ad} {N : Nn} {adX : Ad} {a0 : Nat} {A : Nat → Prop} {res : Int32 × Sg × Sg} {n : Nat} (C : Cx p s m args meth c yL_isSame.cls cL_isSame 8 (Option.some FieldType.boolean) G) (FX : F_X G adX) (hXA : ∀ q, z_X adX q → A q) (hN : N.2.2 = (0, 0)) (ha0 : ad 40 0 = a0) : ∀ (σ τ : Sg) (v2 : Int32) (H : Heap) (locs : List Loc) (ls : Array Slot) (cells d : Nat), q_S G ad N (x_c G adX σ) τ [] A s.heap H locs → lv_has ls 8 [(0, .ref (ad 40 0)), (1, .ref (adX 7 0)), (2, .int v2)] → f_L_isSame_550 σ τ v2 = some (res.1, res.2.1, res.2.2, d) → cells + d = n → W p l e { frames := 5, cells := n, slots := 6 * n, locals := 104 } s m args below meth c H locs cells (6 * cells) (MQ below (k_Q (some (.int res.1)) (r_V G a0 adX res.2.1 res.2.2 A) A) args s n (6 * n) A) (F0 m 550 ls []) := by
  intro σ τ v2 H locs ls cells d S hl hf hd
  unfold f_L_isSame_550 at hf
  refine lv_iconst (v := 0) C.1 C.2.1 dL_isSame_550 (by decide) ?_
  refine lv_istore_n (lv' := [(3, .int 0), (0, .ref (ad 40 0)), (1, .ref (adX 7 0)), (2, .int v2)]) C.1 C.2.1 dL_isSame_551 rfl hl (by decide) rfl (fun ls hl => ?_)
  exact w_L_isSame_552 C FX hXA hN ha0 FU _ _ v2 0 _ _ _ _ _ S (lv_sub hl [1, 2, 3, 0] rfl) hf hd
set_option maxHeartbeats 4000000 in
set_option maxRecDepth 100000 in
theorem w_L_isSame_331 {p : Program} {l : Launch} {e : Env} {s : State} {m : MethodId} {args : Array Value} {below : List Frame} {meth : Method} {c : Code} {G : Gx} {ad : Ad} {N : Nn} {adX : Ad} {a0 : Nat} {A : Nat → Prop} {res : Int32 × Sg × Sg} {n : Nat} (C : Cx p s m args meth c yL_isSame.cls cL_isSame 8 (Option.some FieldType.boolean) G) (FX : F_X G adX) (hXA : ∀ q, z_X adX q → A q) (hN : N.2.2 = (0, 0)) (ha0 : ad 40 0 = a0) : ∀ (σ τ : Sg) (H : Heap) (locs : List Loc) (ls : Array Slot) (cells d : Nat), q_S G ad N (x_c G adX σ) τ [] A s.heap H locs → lv_has ls 8 [] → f_L_isSame_331 σ τ = some (res.1, res.2.1, res.2.2, d) → cells + d = n → W p l e { frames := 5, cells := n, slots := 6 * n, locals := 104 } s m args below meth c H locs cells (6 * cells) (MQ below (k_Q (some (.int res.1)) (r_V G a0 adX res.2.1 res.2.2 A) A) args s n (6 * n) A) (F0 m 331 ls []) := by
  intro σ τ H locs ls cells d S hl hf hd
  unfold f_L_isSame_331 at hf
  refine lv_iconst (v := 0) C.1 C.2.1 dL_isSame_331 (by decide) ?_
  exact b_zret C S hN ha0 rfl hf hd dL_isSame_332
set_option maxHeartbeats 4000000 in
set_option maxRecDepth 100000 in
theorem w_L_isSame_544 {p : Program} {l : Launch} {e : Env} {s : State} {m : MethodId} {args : Array Value} {below : List Frame} {meth : Method} {c : Code} {G : Gx} {ad : Ad} {N : Nn} {adX : Ad} {a0 : Nat} {A : Nat → Prop} {res : Int32 × Sg × Sg} {n : Nat} (C : Cx p s m args meth c yL_isSame.cls cL_isSame 8 (Option.some FieldType.boolean) G) (FX : F_X G adX) (hXA : ∀ q, z_X adX q → A q) (hN : N.2.2 = (0, 0)) (ha0 : ad 40 0 = a0) (k201 : Sg → Sg → Int32 → Int32 → Option (Int32 × Sg × Sg × Nat)) (hk201 : ∀ (σ τ : Sg) (v2 : Int32) (v3 : Int32) (H : Heap) (locs : List Loc) (ls : Array Slot) (cells d : Nat), q_S G ad N (x_c G adX σ) τ [] A s.heap H locs → lv_has ls 8 [(0, .ref (ad 40 0)), (1, .ref (adX 7 0)), (2, .int v2), (3, .int v3)] → k201 σ τ v2 v3 = some (res.1, res.2.1, res.2.2, d) → cells + d = n → W p l e { frames := 5, cells := n, slots := 6 * n, locals := 104 } s m args below meth c H locs cells (6 * cells) (MQ below (k_Q (some (.int res.1)) (r_V G a0 adX res.2.1 res.2.2 A) A) args s n (6 * n) A) (F0 m 201 ls [])) : ∀ (σ τ : Sg) (v2 : Int32) (v3 : Int32) (H : Heap) (locs : List Loc) (ls : Array Slot) (cells d : Nat), q_S G ad N (x_c G adX σ) τ [] A s.heap H locs → lv_has ls 8 [(0, .ref (ad 40 0)), (1, .ref (adX 7 0)), (2, .int v2), (3, .int v3)] → f_L_isSame_544 k201 σ τ v2 v3 = some (res.1, res.2.1, res.2.2, d) → cells + d = n → W p l e { frames := 5, cells := n, slots := 6 * n, locals := 104 } s m args below meth c H locs cells (6 * cells) (MQ below (k_Q (some (.int res.1)) (r_V G a0 adX res.2.1 res.2.2 A) A) args s n (6 * n) A) (F0 m 544 ls []) := by
  intro σ τ v2 v3 H locs ls cells d S hl hf hd
  unfold f_L_isSame_544 at hf
  refine lv_iinc (v := (v3 + 1)) (lv' := [(3, .int (v3 + 1)), (0, .ref (ad 40 0)), (1, .ref (adX 7 0)), (2, .int v2)]) C.1 C.2.1 dL_isSame_544 hl (k := 3) rfl rfl (by decide) rfl (fun ls hl => ?_)
  refine lv_goto (tgt := 201) C.1 C.2.1 dL_isSame_547 (by decide) ?_
  exact hk201 _ _ v2 (v3 + 1) _ _ _ _ _ S (lv_sub hl [1, 2, 3, 0] rfl) hf hd
set_option maxHeartbeats 4000000 in
set_option maxRecDepth 100000 in
theorem w_L_isSame_443 {p : Program} {l : Launch} {e : Env} {s : State} {m : MethodId} {args : Array Value} {below : List Frame} {meth : Method} {c : Code} {G : Gx} {ad : Ad} {N : Nn} {adX : Ad} {a0 : Nat} {A : Nat → Prop} {res : Int32 × Sg × Sg} {n : Nat} (C : Cx p s m args meth c yL_isSame.cls cL_isSame 8 (Option.some FieldType.boolean) G) (FX : F_X G adX) (hXA : ∀ q, z_X adX q → A q) (hN : N.2.2 = (0, 0)) (ha0 : ad 40 0 = a0) : ∀ (σ τ : Sg) (H : Heap) (locs : List Loc) (ls : Array Slot) (cells d : Nat), q_S G ad N (x_c G adX σ) τ [] A s.heap H locs → lv_has ls 8 [] → f_L_isSame_443 σ τ = some (res.1, res.2.1, res.2.2, d) → cells + d = n → W p l e { frames := 5, cells := n, slots := 6 * n, locals := 104 } s m args below meth c H locs cells (6 * cells) (MQ below (k_Q (some (.int res.1)) (r_V G a0 adX res.2.1 res.2.2 A) A) args s n (6 * n) A) (F0 m 443 ls []) := by
  intro σ τ H locs ls cells d S hl hf hd
  unfold f_L_isSame_443 at hf
  refine lv_iconst (v := 0) C.1 C.2.1 dL_isSame_443 (by decide) ?_
  exact b_zret C S hN ha0 rfl hf hd dL_isSame_444
set_option maxHeartbeats 4000000 in
set_option maxRecDepth 100000 in
theorem w_L_isSame_538 {p : Program} {l : Launch} {e : Env} {s : State} {m : MethodId} {args : Array Value} {below : List Frame} {meth : Method} {c : Code} {G : Gx} {ad : Ad} {N : Nn} {adX : Ad} {a0 : Nat} {A : Nat → Prop} {res : Int32 × Sg × Sg} {n : Nat} (C : Cx p s m args meth c yL_isSame.cls cL_isSame 8 (Option.some FieldType.boolean) G) (FX : F_X G adX) (hXA : ∀ q, z_X adX q → A q) (hN : N.2.2 = (0, 0)) (ha0 : ad 40 0 = a0) (k201 : Sg → Sg → Int32 → Int32 → Option (Int32 × Sg × Sg × Nat)) (hk201 : ∀ (σ τ : Sg) (v2 : Int32) (v3 : Int32) (H : Heap) (locs : List Loc) (ls : Array Slot) (cells d : Nat), q_S G ad N (x_c G adX σ) τ [] A s.heap H locs → lv_has ls 8 [(0, .ref (ad 40 0)), (1, .ref (adX 7 0)), (2, .int v2), (3, .int v3)] → k201 σ τ v2 v3 = some (res.1, res.2.1, res.2.2, d) → cells + d = n → W p l e { frames := 5, cells := n, slots := 6 * n, locals := 104 } s m args below meth c H locs cells (6 * cells) (MQ below (k_Q (some (.int res.1)) (r_V G a0 adX res.2.1 res.2.2 A) A) args s n (6 * n) A) (F0 m 201 ls [])) (k336 : Sg → Sg → Int32 → Int32 → Nat → Int32 → Option (Int32 × Sg × Sg × Nat)) (hk336 : ∀ (σ τ : Sg) (v2 : Int32) (v3 : Int32) (o4 : Nat) (v5 : Int32) (H : Heap) (locs : List Loc) (ls : Array Slot) (cells d : Nat), q_S G ad N (x_c G adX σ) τ [] A s.heap H locs → lv_has ls 8 [(0, .ref (ad 40 0)), (1, .ref (adX 7 0)), (2, .int v2), (3, .int v3), (4, .ref (ad 42 o4)), (5, .int v5)] → (o4 < N.2.1) → k336 σ τ v2 v3 o4 v5 = some (res.1, res.2.1, res.2.2, d) → cells + d = n → W p l e { frames := 5, cells := n, slots := 6 * n, locals := 104 } s m args below meth c H locs cells (6 * cells) (MQ below (k_Q (some (.int res.1)) (r_V G a0 adX res.2.1 res.2.2 A) A) args s n (6 * n) A) (F0 m 336 ls [])) : ∀ (σ τ : Sg) (v2 : Int32) (v3 : Int32) (o4 : Nat) (v5 : Int32) (H : Heap) (locs : List Loc) (ls : Array Slot) (cells d : Nat), q_S G ad N (x_c G adX σ) τ [] A s.heap H locs → lv_has ls 8 [(0, .ref (ad 40 0)), (1, .ref (adX 7 0)), (2, .int v2), (3, .int v3), (4, .ref (ad 42 o4)), (5, .int v5)] → (o4 < N.2.1) → f_L_isSame_538 k201 k336 σ τ v2 v3 o4 v5 = some (res.1, res.2.1, res.2.2, d) → cells + d = n → W p l e { frames := 5, cells := n, slots := 6 * n, locals := 104 } s m args below meth c H locs cells (6 * cells) (MQ below (k_Q (some (.int res.1)) (r_V G a0 adX res.2.1 res.2.2 A) A) args s n (6 * n) A) (F0 m 538 ls []) := by
  intro σ τ v2 v3 o4 v5 H locs ls cells d S hl ho4 hf hd
  unfold f_L_isSame_538 at hf
  refine lv_iinc (v := (v5 + 1)) (lv' := [(5, .int (v5 + 1)), (0, .ref (ad 40 0)), (1, .ref (adX 7 0)), (2, .int v2), (3, .int v3), (4, .ref (ad 42 o4))]) C.1 C.2.1 dL_isSame_538 hl (k := 5) rfl rfl (by decide) rfl (fun ls hl => ?_)
  refine lv_goto (tgt := 336) C.1 C.2.1 dL_isSame_541 (by decide) ?_
  exact hk336 _ _ v2 v3 o4 (v5 + 1) _ _ _ _ _ S (lv_sub hl [1, 2, 3, 4, 5, 0] rfl) ho4 hf hd
set_option maxHeartbeats 4000000 in
set_option maxRecDepth 100000 in
theorem w_L_isSame_530 {p : Program} {l : Launch} {e : Env} {s : State} {m : MethodId} {args : Array Value} {below : List Frame} {meth : Method} {c : Code} {G : Gx} {ad : Ad} {N : Nn} {adX : Ad} {a0 : Nat} {A : Nat → Prop} {res : Int32 × Sg × Sg} {n : Nat} (C : Cx p s m args meth c yL_isSame.cls cL_isSame 8 (Option.some FieldType.boolean) G) (FX : F_X G adX) (hXA : ∀ q, z_X adX q → A q) (hN : N.2.2 = (0, 0)) (ha0 : ad 40 0 = a0) : ∀ (σ τ : Sg) (H : Heap) (locs : List Loc) (ls : Array Slot) (cells d : Nat), q_S G ad N (x_c G adX σ) τ [] A s.heap H locs → lv_has ls 8 [] → f_L_isSame_530 σ τ = some (res.1, res.2.1, res.2.2, d) → cells + d = n → W p l e { frames := 5, cells := n, slots := 6 * n, locals := 104 } s m args below meth c H locs cells (6 * cells) (MQ below (k_Q (some (.int res.1)) (r_V G a0 adX res.2.1 res.2.2 A) A) args s n (6 * n) A) (F0 m 530 ls []) := by
  intro σ τ H locs ls cells d S hl hf hd
  unfold f_L_isSame_530 at hf
  refine lv_iconst (v := 0) C.1 C.2.1 dL_isSame_530 (by decide) ?_
  exact b_zret C S hN ha0 rfl hf hd dL_isSame_531
set_option maxHeartbeats 4000000 in
set_option maxRecDepth 100000 in
theorem w_L_isSame_527 {p : Program} {l : Launch} {e : Env} {s : State} {m : MethodId} {args : Array Value} {below : List Frame} {meth : Method} {c : Code} {G : Gx} {ad : Ad} {N : Nn} {adX : Ad} {a0 : Nat} {A : Nat → Prop} {res : Int32 × Sg × Sg} {n : Nat} (C : Cx p s m args meth c yL_isSame.cls cL_isSame 8 (Option.some FieldType.boolean) G) (FX : F_X G adX) (hXA : ∀ q, z_X adX q → A q) (hN : N.2.2 = (0, 0)) (ha0 : ad 40 0 = a0) (k201 : Sg → Sg → Int32 → Int32 → Option (Int32 × Sg × Sg × Nat)) (hk201 : ∀ (σ τ : Sg) (v2 : Int32) (v3 : Int32) (H : Heap) (locs : List Loc) (ls : Array Slot) (cells d : Nat), q_S G ad N (x_c G adX σ) τ [] A s.heap H locs → lv_has ls 8 [(0, .ref (ad 40 0)), (1, .ref (adX 7 0)), (2, .int v2), (3, .int v3)] → k201 σ τ v2 v3 = some (res.1, res.2.1, res.2.2, d) → cells + d = n → W p l e { frames := 5, cells := n, slots := 6 * n, locals := 104 } s m args below meth c H locs cells (6 * cells) (MQ below (k_Q (some (.int res.1)) (r_V G a0 adX res.2.1 res.2.2 A) A) args s n (6 * n) A) (F0 m 201 ls [])) (k336 : Sg → Sg → Int32 → Int32 → Nat → Int32 → Option (Int32 × Sg × Sg × Nat)) (hk336 : ∀ (σ τ : Sg) (v2 : Int32) (v3 : Int32) (o4 : Nat) (v5 : Int32) (H : Heap) (locs : List Loc) (ls : Array Slot) (cells d : Nat), q_S G ad N (x_c G adX σ) τ [] A s.heap H locs → lv_has ls 8 [(0, .ref (ad 40 0)), (1, .ref (adX 7 0)), (2, .int v2), (3, .int v3), (4, .ref (ad 42 o4)), (5, .int v5)] → (o4 < N.2.1) → k336 σ τ v2 v3 o4 v5 = some (res.1, res.2.1, res.2.2, d) → cells + d = n → W p l e { frames := 5, cells := n, slots := 6 * n, locals := 104 } s m args below meth c H locs cells (6 * cells) (MQ below (k_Q (some (.int res.1)) (r_V G a0 adX res.2.1 res.2.2 A) A) args s n (6 * n) A) (F0 m 336 ls [])) (k493 : Sg → Sg → Int32 → Int32 → Nat → Int32 → Nat → Int32 → Option (Int32 × Sg × Sg × Nat)) (hk493 : ∀ (σ τ : Sg) (v2 : Int32) (v3 : Int32) (o4 : Nat) (v5 : Int32) (o6 : Nat) (v7 : Int32) (H : Heap) (locs : List Loc) (ls : Array Slot) (cells d : Nat), q_S G ad N (x_c G adX σ) τ [] A s.heap H locs → lv_has ls 8 [(0, .ref (ad 40 0)), (1, .ref (adX 7 0)), (2, .int v2), (3, .int v3), (4, .ref (ad 42 o4)), (5, .int v5), (6, .ref (ad 43 o6)), (7, .int v7)] → (o4 < N.2.1) → (o6 < 4 * N.2.1) → k493 σ τ v2 v3 o4 v5 o6 v7 = some (res.1, res.2.1, res.2.2, d) → cells + d = n → W p l e { frames := 5, cells := n, slots := 6 * n, locals := 104 } s m args below meth c H locs cells (6 * cells) (MQ below (k_Q (some (.int res.1)) (r_V G a0 adX res.2.1 res.2.2 A) A) args s n (6 * n) A) (F0 m 493 ls [])) : ∀ (σ τ : Sg) (v2 : Int32) (v3 : Int32) (o4 : Nat) (v5 : Int32) (o6 : Nat) (v7 : Int32) (v100 : Int32) (v101 : Int32) (H : Heap) (locs : List Loc) (ls : Array Slot) (cells d : Nat), q_S G ad N (x_c G adX σ) τ [] A s.heap H locs → lv_has ls 8 [(0, .ref (ad 40 0)), (1, .ref (adX 7 0)), (2, .int v2), (3, .int v3), (4, .ref (ad 42 o4)), (5, .int v5), (6, .ref (ad 43 o6)), (7, .int v7)] → (o4 < N.2.1) → (o6 < 4 * N.2.1) → f_L_isSame_527 k201 k336 k493 σ τ v2 v3 o4 v5 o6 v7 v100 v101 = some (res.1, res.2.1, res.2.2, d) → cells + d = n → W p l e { frames := 5, cells := n, slots := 6 * n, locals := 104 } s m args below meth c H locs cells (6 * cells) (MQ below (k_Q (some (.int res.1)) (r_V G a0 adX res.2.1 res.2.2 A) A) args s n (6 * n) A) (F0 m 527 ls [.int v101, .int v100]) := by
  intro σ τ v2 v3 o4 v5 o6 v7 v100 v101 H locs ls cells d S hl ho4 ho6 hf hd
  unfold f_L_isSame_527 at hf
  refine lv_icmp_eq (tgt := 532) C.1 C.2.1 dL_isSame_527 (by decide) (fun c_527 => ?_) (fun c_527 => ?_)
  · rw [if_pos c_527] at hf
    refine lv_iinc (v := (v7 + 1)) (lv' := [(7, .int (v7 + 1)), (0, .ref (ad 40 0)), (1, .ref (adX 7 0)), (2, .int v2), (3, .int v3), (4, .ref (ad 42 o4)), (5, .int v5), (6, .ref (ad 43 o6))]) C.1 C.2.1 dL_isSame_532 hl (k := 7) rfl rfl (by decide) rfl (fun ls hl => ?_)
    refine lv_goto (tgt := 493) C.1 C.2.1 dL_isSame_535 (by decide) ?_
    exact hk493 _ _ v2 v3 o4 v5 o6 (v7 + 1) _ _ _ _ _ S (lv_sub hl [1, 2, 3, 4, 5, 6, 7, 0] rfl) ho4 ho6 hf hd
  · rw [if_neg c_527] at hf
    exact w_L_isSame_530 C FX hXA hN ha0 _ _ _ _ _ _ _ S (lv_sub hl [] rfl) hf hd
set_option maxHeartbeats 4000000 in
set_option maxRecDepth 100000 in
theorem w_L_isSame_493 {p : Program} {l : Launch} {e : Env} {s : State} {m : MethodId} {args : Array Value} {below : List Frame} {meth : Method} {c : Code} {G : Gx} {ad : Ad} {N : Nn} {adX : Ad} {a0 : Nat} {A : Nat → Prop} {res : Int32 × Sg × Sg} {n : Nat} (C : Cx p s m args meth c yL_isSame.cls cL_isSame 8 (Option.some FieldType.boolean) G) (FX : F_X G adX) (hXA : ∀ q, z_X adX q → A q) (hN : N.2.2 = (0, 0)) (ha0 : ad 40 0 = a0) (k201 : Sg → Sg → Int32 → Int32 → Option (Int32 × Sg × Sg × Nat)) (hk201 : ∀ (σ τ : Sg) (v2 : Int32) (v3 : Int32) (H : Heap) (locs : List Loc) (ls : Array Slot) (cells d : Nat), q_S G ad N (x_c G adX σ) τ [] A s.heap H locs → lv_has ls 8 [(0, .ref (ad 40 0)), (1, .ref (adX 7 0)), (2, .int v2), (3, .int v3)] → k201 σ τ v2 v3 = some (res.1, res.2.1, res.2.2, d) → cells + d = n → W p l e { frames := 5, cells := n, slots := 6 * n, locals := 104 } s m args below meth c H locs cells (6 * cells) (MQ below (k_Q (some (.int res.1)) (r_V G a0 adX res.2.1 res.2.2 A) A) args s n (6 * n) A) (F0 m 201 ls [])) (k336 : Sg → Sg → Int32 → Int32 → Nat → Int32 → Option (Int32 × Sg × Sg × Nat)) (hk336 : ∀ (σ τ : Sg) (v2 : Int32) (v3 : Int32) (o4 : Nat) (v5 : Int32) (H : Heap) (locs : List Loc) (ls : Array Slot) (cells d : Nat), q_S G ad N (x_c G adX σ) τ [] A s.heap H locs → lv_has ls 8 [(0, .ref (ad 40 0)), (1, .ref (adX 7 0)), (2, .int v2), (3, .int v3), (4, .ref (ad 42 o4)), (5, .int v5)] → (o4 < N.2.1) → k336 σ τ v2 v3 o4 v5 = some (res.1, res.2.1, res.2.2, d) → cells + d = n → W p l e { frames := 5, cells := n, slots := 6 * n, locals := 104 } s m args below meth c H locs cells (6 * cells) (MQ below (k_Q (some (.int res.1)) (r_V G a0 adX res.2.1 res.2.2 A) A) args s n (6 * n) A) (F0 m 336 ls [])) : ∀ n9 : Nat, ∀ (σ τ : Sg) (v2 : Int32) (v3 : Int32) (o4 : Nat) (v5 : Int32) (o6 : Nat) (v7 : Int32) (H : Heap) (locs : List Loc) (ls : Array Slot) (cells d : Nat), q_S G ad N (x_c G adX σ) τ [] A s.heap H locs → lv_has ls 8 [(0, .ref (ad 40 0)), (1, .ref (adX 7 0)), (2, .int v2), (3, .int v3), (4, .ref (ad 42 o4)), (5, .int v5), (6, .ref (ad 43 o6)), (7, .int v7)] → (o4 < N.2.1) → (o6 < 4 * N.2.1) → f_L_isSame_493 k201 k336 n9 σ τ v2 v3 o4 v5 o6 v7 = some (res.1, res.2.1, res.2.2, d) → cells + d = n → W p l e { frames := 5, cells := n, slots := 6 * n, locals := 104 } s m args below meth c H locs cells (6 * cells) (MQ below (k_Q (some (.int res.1)) (r_V G a0 adX res.2.1 res.2.2 A) A) args s n (6 * n) A) (F0 m 493 ls []) := by
  intro n9
  induction n9 with
  | zero => intro σ τ v2 v3 o4 v5 o6 v7 H locs ls cells d S hl ho4 ho6 hf hd; cases hf
  | succ n9 ih =>
    intro σ τ v2 v3 o4 v5 o6 v7 H locs ls cells d S hl ho4 ho6 hf hd
    rw [f_L_isSame_493_s] at hf
    refine lv_iload C.1 C.2.1 dL_isSame_493 (lv_at hl 7 rfl) ?_
    refine lv_iconst (v := 4) C.1 C.2.1 dL_isSame_495 (by decide) ?_
    refine lv_icmp_ge (tgt := 538) C.1 C.2.1 dL_isSame_496 (by decide) (fun c_496 => ?_) (fun c_496 => ?_)
    · rw [if_pos c_496] at hf
      exact w_L_isSame_538 C FX hXA hN ha0 k201 hk201 k336 hk336 _ _ v2 v3 o4 v5 _ _ _ _ _ S (lv_sub hl [0, 1, 2, 3, 4, 5] rfl) ho4 hf hd
    · rw [if_neg c_496] at hf
      refine lv_aload_n C.1 C.2.1 dL_isSame_499 rfl (lv_at hl 1 rfl) ?_
      refine lv_iload C.1 C.2.1 dL_isSame_500 (lv_at hl 5 rfl) ?_
      refine lv_iload_n C.1 C.2.1 dL_isSame_502 rfl (lv_at hl 3 rfl) ?_
      refine lv_iload C.1 C.2.1 dL_isSame_503 (lv_at hl 7 rfl) ?_
      obtain ⟨r1, σ2, q_505, hf⟩ := bib hf
      refine q_callXI C FX hXA S rfl [.int v5, .int v3, .int v7] (m_X7_hasLost l G adX σ v5 v3 v7 r1 σ2 q_505 _) kv_X7_hasLost tw_6_167 ⟨(Nat.le_of_ble_eq_true rfl), (Nat.le_of_ble_eq_true rfl)⟩ rfl rfl (Nat.le_of_ble_eq_true rfl) hl.1 ⟨(show _ ≤ n from by omega), (show _ ≤ 6 * n from by omega)⟩ dL_isSame_505 (fun H locs S => ?_)
      refine lv_aload C.1 C.2.1 dL_isSame_508 (lv_at hl 6 rfl) ?_
      refine q_getIN C S 43 o6 rfl ho6 cf_10 3 (by decide) (qi_43_3 G τ o6) (List.mem_of_getElem? (i := 25) rfl) dL_isSame_510 ?_
      refine lv_iload C.1 C.2.1 dL_isSame_513 (lv_at hl 7 rfl) ?_
      refine lv_ishr C.1 C.2.1 dL_isSame_515 ?_
      refine lv_iconst (v := 1) C.1 C.2.1 dL_isSame_516 (by decide) ?_
      refine lv_iand C.1 C.2.1 dL_isSame_517 ?_
      refine lv_iconst (v := 1) C.1 C.2.1 dL_isSame_518 (by decide) ?_
      refine lv_icmp_ne (tgt := 526) C.1 C.2.1 dL_isSame_519 (by decide) (fun c_519 => ?_) (fun c_519 => ?_)
      · rw [if_neg c_519] at hf
        refine lv_iconst (v := 0) C.1 C.2.1 dL_isSame_526 (by decide) ?_
        exact w_L_isSame_527 C FX hXA hN ha0 k201 hk201 k336 hk336 (f_L_isSame_493 k201 k336 n9) ih _ _ v2 v3 o4 v5 o6 v7 r1 0 _ _ _ _ _ S (lv_sub hl [0, 1, 2, 3, 4, 5, 6, 7] rfl) ho4 ho6 hf hd
      · rw [if_pos c_519] at hf
        refine lv_iconst (v := 1) C.1 C.2.1 dL_isSame_522 (by decide) ?_
        refine lv_goto (tgt := 527) C.1 C.2.1 dL_isSame_523 (by decide) ?_
        exact w_L_isSame_527 C FX hXA hN ha0 k201 hk201 k336 hk336 (f_L_isSame_493 k201 k336 n9) ih _ _ v2 v3 o4 v5 o6 v7 r1 1 _ _ _ _ _ S (lv_sub hl [0, 1, 2, 3, 4, 5, 6, 7] rfl) ho4 ho6 hf hd
set_option maxHeartbeats 4000000 in
set_option maxRecDepth 100000 in
theorem w_L_isSame_490 {p : Program} {l : Launch} {e : Env} {s : State} {m : MethodId} {args : Array Value} {below : List Frame} {meth : Method} {c : Code} {G : Gx} {ad : Ad} {N : Nn} {adX : Ad} {a0 : Nat} {A : Nat → Prop} {res : Int32 × Sg × Sg} {n : Nat} (C : Cx p s m args meth c yL_isSame.cls cL_isSame 8 (Option.some FieldType.boolean) G) (FX : F_X G adX) (hXA : ∀ q, z_X adX q → A q) (hN : N.2.2 = (0, 0)) (ha0 : ad 40 0 = a0) (k201 : Sg → Sg → Int32 → Int32 → Option (Int32 × Sg × Sg × Nat)) (hk201 : ∀ (σ τ : Sg) (v2 : Int32) (v3 : Int32) (H : Heap) (locs : List Loc) (ls : Array Slot) (cells d : Nat), q_S G ad N (x_c G adX σ) τ [] A s.heap H locs → lv_has ls 8 [(0, .ref (ad 40 0)), (1, .ref (adX 7 0)), (2, .int v2), (3, .int v3)] → k201 σ τ v2 v3 = some (res.1, res.2.1, res.2.2, d) → cells + d = n → W p l e { frames := 5, cells := n, slots := 6 * n, locals := 104 } s m args below meth c H locs cells (6 * cells) (MQ below (k_Q (some (.int res.1)) (r_V G a0 adX res.2.1 res.2.2 A) A) args s n (6 * n) A) (F0 m 201 ls [])) (k336 : Sg → Sg → Int32 → Int32 → Nat → Int32 → Option (Int32 × Sg × Sg × Nat)) (hk336 : ∀ (σ τ : Sg) (v2 : Int32) (v3 : Int32) (o4 : Nat) (v5 : Int32) (H : Heap) (locs : List Loc) (ls : Array Slot) (cells d : Nat), q_S G ad N (x_c G adX σ) τ [] A s.heap H locs → lv_has ls 8 [(0, .ref (ad 40 0)), (1, .ref (adX 7 0)), (2, .int v2), (3, .int v3), (4, .ref (ad 42 o4)), (5, .int v5)] → (o4 < N.2.1) → k336 σ τ v2 v3 o4 v5 = some (res.1, res.2.1, res.2.2, d) → cells + d = n → W p l e { frames := 5, cells := n, slots := 6 * n, locals := 104 } s m args below meth c H locs cells (6 * cells) (MQ below (k_Q (some (.int res.1)) (r_V G a0 adX res.2.1 res.2.2 A) A) args s n (6 * n) A) (F0 m 336 ls [])) : ∀ (σ τ : Sg) (v2 : Int32) (v3 : Int32) (o4 : Nat) (v5 : Int32) (o6 : Nat) (H : Heap) (locs : List Loc) (ls : Array Slot) (cells d : Nat), q_S G ad N (x_c G adX σ) τ [] A s.heap H locs → lv_has ls 8 [(0, .ref (ad 40 0)), (1, .ref (adX 7 0)), (2, .int v2), (3, .int v3), (4, .ref (ad 42 o4)), (5, .int v5), (6, .ref (ad 43 o6))] → (o4 < N.2.1) → (o6 < 4 * N.2.1) → f_L_isSame_490 k201 k336 σ τ v2 v3 o4 v5 o6 = some (res.1, res.2.1, res.2.2, d) → cells + d = n → W p l e { frames := 5, cells := n, slots := 6 * n, locals := 104 } s m args below meth c H locs cells (6 * cells) (MQ below (k_Q (some (.int res.1)) (r_V G a0 adX res.2.1 res.2.2 A) A) args s n (6 * n) A) (F0 m 490 ls []) := by
  intro σ τ v2 v3 o4 v5 o6 H locs ls cells d S hl ho4 ho6 hf hd
  unfold f_L_isSame_490 at hf
  refine lv_iconst (v := 0) C.1 C.2.1 dL_isSame_490 (by decide) ?_
  refine lv_istore (lv' := [(7, .int 0), (0, .ref (ad 40 0)), (1, .ref (adX 7 0)), (2, .int v2), (3, .int v3), (4, .ref (ad 42 o4)), (5, .int v5), (6, .ref (ad 43 o6))]) C.1 C.2.1 dL_isSame_491 hl (by decide) rfl (fun ls hl => ?_)
  exact w_L_isSame_493 C FX hXA hN ha0 k201 hk201 k336 hk336 FU _ _ v2 v3 o4 v5 o6 0 _ _ _ _ _ S (lv_sub hl [1, 2, 3, 4, 5, 6, 7, 0] rfl) ho4 ho6 hf hd
set_option maxHeartbeats 4000000 in
set_option maxRecDepth 100000 in
theorem w_L_isSame_482 {p : Program} {l : Launch} {e : Env} {s : State} {m : MethodId} {args : Array Value} {below : List Frame} {meth : Method} {c : Code} {G : Gx} {ad : Ad} {N : Nn} {adX : Ad} {a0 : Nat} {A : Nat → Prop} {res : Int32 × Sg × Sg} {n : Nat} (C : Cx p s m args meth c yL_isSame.cls cL_isSame 8 (Option.some FieldType.boolean) G) (FX : F_X G adX) (hXA : ∀ q, z_X adX q → A q) (hN : N.2.2 = (0, 0)) (ha0 : ad 40 0 = a0) : ∀ (σ τ : Sg) (H : Heap) (locs : List Loc) (ls : Array Slot) (cells d : Nat), q_S G ad N (x_c G adX σ) τ [] A s.heap H locs → lv_has ls 8 [] → f_L_isSame_482 σ τ = some (res.1, res.2.1, res.2.2, d) → cells + d = n → W p l e { frames := 5, cells := n, slots := 6 * n, locals := 104 } s m args below meth c H locs cells (6 * cells) (MQ below (k_Q (some (.int res.1)) (r_V G a0 adX res.2.1 res.2.2 A) A) args s n (6 * n) A) (F0 m 482 ls []) := by
  intro σ τ H locs ls cells d S hl hf hd
  unfold f_L_isSame_482 at hf
  refine lv_iconst (v := 0) C.1 C.2.1 dL_isSame_482 (by decide) ?_
  exact b_zret C S hN ha0 rfl hf hd dL_isSame_483
set_option maxHeartbeats 4000000 in
set_option maxRecDepth 100000 in
theorem w_L_isSame_448 {p : Program} {l : Launch} {e : Env} {s : State} {m : MethodId} {args : Array Value} {below : List Frame} {meth : Method} {c : Code} {G : Gx} {ad : Ad} {N : Nn} {adX : Ad} {a0 : Nat} {A : Nat → Prop} {res : Int32 × Sg × Sg} {n : Nat} (C : Cx p s m args meth c yL_isSame.cls cL_isSame 8 (Option.some FieldType.boolean) G) (FX : F_X G adX) (hXA : ∀ q, z_X adX q → A q) (hN : N.2.2 = (0, 0)) (ha0 : ad 40 0 = a0) (k201 : Sg → Sg → Int32 → Int32 → Option (Int32 × Sg × Sg × Nat)) (hk201 : ∀ (σ τ : Sg) (v2 : Int32) (v3 : Int32) (H : Heap) (locs : List Loc) (ls : Array Slot) (cells d : Nat), q_S G ad N (x_c G adX σ) τ [] A s.heap H locs → lv_has ls 8 [(0, .ref (ad 40 0)), (1, .ref (adX 7 0)), (2, .int v2), (3, .int v3)] → k201 σ τ v2 v3 = some (res.1, res.2.1, res.2.2, d) → cells + d = n → W p l e { frames := 5, cells := n, slots := 6 * n, locals := 104 } s m args below meth c H locs cells (6 * cells) (MQ below (k_Q (some (.int res.1)) (r_V G a0 adX res.2.1 res.2.2 A) A) args s n (6 * n) A) (F0 m 201 ls [])) (k336 : Sg → Sg → Int32 → Int32 → Nat → Int32 → Option (Int32 × Sg × Sg × Nat)) (hk336 : ∀ (σ τ : Sg) (v2 : Int32) (v3 : Int32) (o4 : Nat) (v5 : Int32) (H : Heap) (locs : List Loc) (ls : Array Slot) (cells d : Nat), q_S G ad N (x_c G adX σ) τ [] A s.heap H locs → lv_has ls 8 [(0, .ref (ad 40 0)), (1, .ref (adX 7 0)), (2, .int v2), (3, .int v3), (4, .ref (ad 42 o4)), (5, .int v5)] → (o4 < N.2.1) → k336 σ τ v2 v3 o4 v5 = some (res.1, res.2.1, res.2.2, d) → cells + d = n → W p l e { frames := 5, cells := n, slots := 6 * n, locals := 104 } s m args below meth c H locs cells (6 * cells) (MQ below (k_Q (some (.int res.1)) (r_V G a0 adX res.2.1 res.2.2 A) A) args s n (6 * n) A) (F0 m 336 ls [])) : ∀ n9 : Nat, ∀ (σ τ : Sg) (v2 : Int32) (v3 : Int32) (o4 : Nat) (v5 : Int32) (o6 : Nat) (v7 : Int32) (H : Heap) (locs : List Loc) (ls : Array Slot) (cells d : Nat), q_S G ad N (x_c G adX σ) τ [] A s.heap H locs → lv_has ls 8 [(0, .ref (ad 40 0)), (1, .ref (adX 7 0)), (2, .int v2), (3, .int v3), (4, .ref (ad 42 o4)), (5, .int v5), (6, .ref (ad 43 o6)), (7, .int v7)] → (o4 < N.2.1) → (o6 < 4 * N.2.1) → f_L_isSame_448 k201 k336 n9 σ τ v2 v3 o4 v5 o6 v7 = some (res.1, res.2.1, res.2.2, d) → cells + d = n → W p l e { frames := 5, cells := n, slots := 6 * n, locals := 104 } s m args below meth c H locs cells (6 * cells) (MQ below (k_Q (some (.int res.1)) (r_V G a0 adX res.2.1 res.2.2 A) A) args s n (6 * n) A) (F0 m 448 ls []) := by
  intro n9
  induction n9 with
  | zero => intro σ τ v2 v3 o4 v5 o6 v7 H locs ls cells d S hl ho4 ho6 hf hd; cases hf
  | succ n9 ih =>
    intro σ τ v2 v3 o4 v5 o6 v7 H locs ls cells d S hl ho4 ho6 hf hd
    rw [f_L_isSame_448_s] at hf
    refine lv_iload C.1 C.2.1 dL_isSame_448 (lv_at hl 7 rfl) ?_
    refine lv_aload_n C.1 C.2.1 dL_isSame_450 rfl (lv_at hl 0 rfl) ?_
    refine q_getR C S 40 0 50 0 rfl rfl rfl cf_11 0 (by decide) (qr_40_0 G τ 0) tw_4_96 dL_isSame_451 ?_
    refine q_size C S 0 (Or.inl (by decide)) (by decide) tw_5_190 ⟨(Nat.le_of_ble_eq_true rfl), (Nat.le_of_ble_eq_true rfl)⟩ (Nat.le_of_ble_eq_true rfl) hl.1 ⟨(show _ ≤ n from by omega), (show _ ≤ 6 * n from by omega)⟩ dL_isSame_454 (fun H locs S => ?_)
    refine lv_icmp_ge (tgt := 490) C.1 C.2.1 dL_isSame_459 (by decide) (fun c_459 => ?_) (fun c_459 => ?_)
    · rw [if_pos c_459] at hf
      exact w_L_isSame_490 C FX hXA hN ha0 k201 hk201 k336 hk336 _ _ v2 v3 o4 v5 o6 _ _ _ _ _ S (lv_sub hl [0, 1, 2, 3, 4, 5, 6] rfl) ho4 ho6 hf hd
    · rw [if_neg c_459] at hf
      refine lv_aload_n C.1 C.2.1 dL_isSame_462 rfl (lv_at hl 1 rfl) ?_
      refine lv_iload C.1 C.2.1 dL_isSame_463 (lv_at hl 5 rfl) ?_
      refine lv_iload_n C.1 C.2.1 dL_isSame_465 rfl (lv_at hl 3 rfl) ?_
      refine lv_iload C.1 C.2.1 dL_isSame_466 (lv_at hl 7 rfl) ?_
      obtain ⟨r1, σ2, q_468, hf⟩ := bib hf
      refine q_callXI C FX hXA S rfl [.int v5, .int v3, .int v7] (m_X7_noted l G adX σ v5 v3 v7 r1 σ2 q_468 _) kv_X7_noted tw_6_159 ⟨(Nat.le_of_ble_eq_true rfl), (Nat.le_of_ble_eq_true rfl)⟩ rfl rfl (Nat.le_of_ble_eq_true rfl) hl.1 ⟨(show _ ≤ n from by omega), (show _ ≤ 6 * n from by omega)⟩ dL_isSame_468 (fun H locs S => ?_)
      refine lv_aload C.1 C.2.1 dL_isSame_471 (lv_at hl 6 rfl) ?_
      refine q_getRN C S 43 o6 44 o6 rfl rfl ho6 cf_10 4 (by decide) (qr_43_4 G τ o6) (List.mem_of_getElem? (i := 26) rfl) dL_isSame_473 ?_
      refine lv_iload C.1 C.2.1 dL_isSame_476 (lv_at hl 7 rfl) ?_
      obtain ⟨g_478, hf⟩ := gd hf
      refine q_iald C S 44 o6 4 rfl ho6 (fun _ => rfl) g_478 dL_isSame_478 ?_
      refine lv_icmp_eq (tgt := 484) C.1 C.2.1 dL_isSame_479 (by decide) (fun c_479 => ?_) (fun c_479 => ?_)
      · rw [if_pos c_479] at hf
        refine lv_iinc (v := (v7 + 1)) (lv' := [(7, .int (v7 + 1)), (0, .ref (ad 40 0)), (1, .ref (adX 7 0)), (2, .int v2), (3, .int v3), (4, .ref (ad 42 o4)), (5, .int v5), (6, .ref (ad 43 o6))]) C.1 C.2.1 dL_isSame_484 hl (k := 7) rfl rfl (by decide) rfl (fun ls hl => ?_)
        refine lv_goto (tgt := 448) C.1 C.2.1 dL_isSame_487 (by decide) ?_
        exact ih _ _ v2 v3 o4 v5 o6 (v7 + 1) _ _ _ _ _ S (lv_sub hl [1, 2, 3, 4, 5, 6, 7, 0] rfl) ho4 ho6 hf hd
      · rw [if_neg c_479] at hf
        exact w_L_isSame_482 C FX hXA hN ha0 _ _ _ _ _ _ _ S (lv_sub hl [] rfl) hf hd
set_option maxHeartbeats 4000000 in
set_option maxRecDepth 100000 in
theorem w_L_isSame_440 {p : Program} {l : Launch} {e : Env} {s : State} {m : MethodId} {args : Array Value} {below : List Frame} {meth : Method} {c : Code} {G : Gx} {ad : Ad} {N : Nn} {adX : Ad} {a0 : Nat} {A : Nat → Prop} {res : Int32 × Sg × Sg} {n : Nat} (C : Cx p s m args meth c yL_isSame.cls cL_isSame 8 (Option.some FieldType.boolean) G) (FX : F_X G adX) (hXA : ∀ q, z_X adX q → A q) (hN : N.2.2 = (0, 0)) (ha0 : ad 40 0 = a0) (k201 : Sg → Sg → Int32 → Int32 → Option (Int32 × Sg × Sg × Nat)) (hk201 : ∀ (σ τ : Sg) (v2 : Int32) (v3 : Int32) (H : Heap) (locs : List Loc) (ls : Array Slot) (cells d : Nat), q_S G ad N (x_c G adX σ) τ [] A s.heap H locs → lv_has ls 8 [(0, .ref (ad 40 0)), (1, .ref (adX 7 0)), (2, .int v2), (3, .int v3)] → k201 σ τ v2 v3 = some (res.1, res.2.1, res.2.2, d) → cells + d = n → W p l e { frames := 5, cells := n, slots := 6 * n, locals := 104 } s m args below meth c H locs cells (6 * cells) (MQ below (k_Q (some (.int res.1)) (r_V G a0 adX res.2.1 res.2.2 A) A) args s n (6 * n) A) (F0 m 201 ls [])) (k336 : Sg → Sg → Int32 → Int32 → Nat → Int32 → Option (Int32 × Sg × Sg × Nat)) (hk336 : ∀ (σ τ : Sg) (v2 : Int32) (v3 : Int32) (o4 : Nat) (v5 : Int32) (H : Heap) (locs : List Loc) (ls : Array Slot) (cells d : Nat), q_S G ad N (x_c G adX σ) τ [] A s.heap H locs → lv_has ls 8 [(0, .ref (ad 40 0)), (1, .ref (adX 7 0)), (2, .int v2), (3, .int v3), (4, .ref (ad 42 o4)), (5, .int v5)] → (o4 < N.2.1) → k336 σ τ v2 v3 o4 v5 = some (res.1, res.2.1, res.2.2, d) → cells + d = n → W p l e { frames := 5, cells := n, slots := 6 * n, locals := 104 } s m args below meth c H locs cells (6 * cells) (MQ below (k_Q (some (.int res.1)) (r_V G a0 adX res.2.1 res.2.2 A) A) args s n (6 * n) A) (F0 m 336 ls [])) : ∀ (σ τ : Sg) (v2 : Int32) (v3 : Int32) (o4 : Nat) (v5 : Int32) (o6 : Nat) (v100 : Int32) (v101 : Int32) (H : Heap) (locs : List Loc) (ls : Array Slot) (cells d : Nat), q_S G ad N (x_c G adX σ) τ [] A s.heap H locs → lv_has ls 8 [(0, .ref (ad 40 0)), (1, .ref (adX 7 0)), (2, .int v2), (3, .int v3), (4, .ref (ad 42 o4)), (5, .int v5), (6, .ref (ad 43 o6))] → (o4 < N.2.1) → (o6 < 4 * N.2.1) → f_L_isSame_440 k201 k336 σ τ v2 v3 o4 v5 o6 v100 v101 = some (res.1, res.2.1, res.2.2, d) → cells + d = n → W p l e { frames := 5, cells := n, slots := 6 * n, locals := 104 } s m args below meth c H locs cells (6 * cells) (MQ below (k_Q (some (.int res.1)) (r_V G a0 adX res.2.1 res.2.2 A) A) args s n (6 * n) A) (F0 m 440 ls [.int v101, .int v100]) := by
  intro σ τ v2 v3 o4 v5 o6 v100 v101 H locs ls cells d S hl ho4 ho6 hf hd
  unfold f_L_isSame_440 at hf
  refine lv_icmp_eq (tgt := 445) C.1 C.2.1 dL_isSame_440 (by decide) (fun c_440 => ?_) (fun c_440 => ?_)
  · rw [if_pos c_440] at hf
    refine lv_iconst (v := 0) C.1 C.2.1 dL_isSame_445 (by decide) ?_
    refine lv_istore (lv' := [(7, .int 0), (0, .ref (ad 40 0)), (1, .ref (adX 7 0)), (2, .int v2), (3, .int v3), (4, .ref (ad 42 o4)), (5, .int v5), (6, .ref (ad 43 o6))]) C.1 C.2.1 dL_isSame_446 hl (by decide) rfl (fun ls hl => ?_)
    exact w_L_isSame_448 C FX hXA hN ha0 k201 hk201 k336 hk336 FU _ _ v2 v3 o4 v5 o6 0 _ _ _ _ _ S (lv_sub hl [1, 2, 3, 4, 5, 6, 7, 0] rfl) ho4 ho6 hf hd
  · rw [if_neg c_440] at hf
    exact w_L_isSame_443 C FX hXA hN ha0 _ _ _ _ _ _ _ S (lv_sub hl [] rfl) hf hd
set_option maxHeartbeats 4000000 in
set_option maxRecDepth 100000 in
theorem w_L_isSame_431 {p : Program} {l : Launch} {e : Env} {s : State} {m : MethodId} {args : Array Value} {below : List Frame} {meth : Method} {c : Code} {G : Gx} {ad : Ad} {N : Nn} {adX : Ad} {a0 : Nat} {A : Nat → Prop} {res : Int32 × Sg × Sg} {n : Nat} (C : Cx p s m args meth c yL_isSame.cls cL_isSame 8 (Option.some FieldType.boolean) G) (FX : F_X G adX) (hXA : ∀ q, z_X adX q → A q) (hN : N.2.2 = (0, 0)) (ha0 : ad 40 0 = a0) (k201 : Sg → Sg → Int32 → Int32 → Option (Int32 × Sg × Sg × Nat)) (hk201 : ∀ (σ τ : Sg) (v2 : Int32) (v3 : Int32) (H : Heap) (locs : List Loc) (ls : Array Slot) (cells d : Nat), q_S G ad N (x_c G adX σ) τ [] A s.heap H locs → lv_has ls 8 [(0, .ref (ad 40 0)), (1, .ref (adX 7 0)), (2, .int v2), (3, .int v3)] → k201 σ τ v2 v3 = some (res.1, res.2.1, res.2.2, d) → cells + d = n → W p l e { frames := 5, cells := n, slots := 6 * n, locals := 104 } s m args below meth c H locs cells (6 * cells) (MQ below (k_Q (some (.int res.1)) (r_V G a0 adX res.2.1 res.2.2 A) A) args s n (6 * n) A) (F0 m 201 ls [])) (k336 : Sg → Sg → Int32 → Int32 → Nat → Int32 → Option (Int32 × Sg × Sg × Nat)) (hk336 : ∀ (σ τ : Sg) (v2 : Int32) (v3 : Int32) (o4 : Nat) (v5 : Int32) (H : Heap) (locs : List Loc) (ls : Array Slot) (cells d : Nat), q_S G ad N (x_c G adX σ) τ [] A s.heap H locs → lv_has ls 8 [(0, .ref (ad 40 0)), (1, .ref (adX 7 0)), (2, .int v2), (3, .int v3), (4, .ref (ad 42 o4)), (5, .int v5)] → (o4 < N.2.1) → k336 σ τ v2 v3 o4 v5 = some (res.1, res.2.1, res.2.2, d) → cells + d = n → W p l e { frames := 5, cells := n, slots := 6 * n, locals := 104 } s m args below meth c H locs cells (6 * cells) (MQ below (k_Q (some (.int res.1)) (r_V G a0 adX res.2.1 res.2.2 A) A) args s n (6 * n) A) (F0 m 336 ls [])) : ∀ (σ τ : Sg) (v2 : Int32) (v3 : Int32) (o4 : Nat) (v5 : Int32) (o6 : Nat) (v100 : Int32) (H : Heap) (locs : List Loc) (ls : Array Slot) (cells d : Nat), q_S G ad N (x_c G adX σ) τ [] A s.heap H locs → lv_has ls 8 [(0, .ref (ad 40 0)), (1, .ref (adX 7 0)), (2, .int v2), (3, .int v3), (4, .ref (ad 42 o4)), (5, .int v5), (6, .ref (ad 43 o6))] → (o4 < N.2.1) → (o6 < 4 * N.2.1) → f_L_isSame_431 k201 k336 σ τ v2 v3 o4 v5 o6 v100 = some (res.1, res.2.1, res.2.2, d) → cells + d = n → W p l e { frames := 5, cells := n, slots := 6 * n, locals := 104 } s m args below meth c H locs cells (6 * cells) (MQ below (k_Q (some (.int res.1)) (r_V G a0 adX res.2.1 res.2.2 A) A) args s n (6 * n) A) (F0 m 431 ls [.int v100]) := by
  intro σ τ v2 v3 o4 v5 o6 v100 H locs ls cells d S hl ho4 ho6 hf hd
  unfold f_L_isSame_431 at hf
  refine lv_aload C.1 C.2.1 dL_isSame_431 (lv_at hl 6 rfl) ?_
  refine q_getIN C S 43 o6 rfl ho6 cf_10 1 (by decide) (qi_43_1 G τ o6) (List.mem_of_getElem? (i := 23) rfl) dL_isSame_433 ?_
  refine lv_goto (tgt := 440) C.1 C.2.1 dL_isSame_436 (by decide) ?_
  exact w_L_isSame_440 C FX hXA hN ha0 k201 hk201 k336 hk336 _ _ v2 v3 o4 v5 o6 v100 (τ 43 o6 1) _ _ _ _ _ S (lv_sub hl [0, 1, 2, 3, 4, 5, 6] rfl) ho4 ho6 hf hd
set_option maxHeartbeats 4000000 in
set_option maxRecDepth 100000 in
theorem w_L_isSame_336 {p : Program} {l : Launch} {e : Env} {s : State} {m : MethodId} {args : Array Value} {below : List Frame} {meth : Method} {c : Code} {G : Gx} {ad : Ad} {N : Nn} {adX : Ad} {a0 : Nat} {A : Nat → Prop} {res : Int32 × Sg × Sg} {n : Nat} (C : Cx p s m args meth c yL_isSame.cls cL_isSame 8 (Option.some FieldType.boolean) G) (FX : F_X G adX) (hXA : ∀ q, z_X adX q → A q) (hN : N.2.2 = (0, 0)) (ha0 : ad 40 0 = a0) (k201 : Sg → Sg → Int32 → Int32 → Option (Int32 × Sg × Sg × Nat)) (hk201 : ∀ (σ τ : Sg) (v2 : Int32) (v3 : Int32) (H : Heap) (locs : List Loc) (ls : Array Slot) (cells d : Nat), q_S G ad N (x_c G adX σ) τ [] A s.heap H locs → lv_has ls 8 [(0, .ref (ad 40 0)), (1, .ref (adX 7 0)), (2, .int v2), (3, .int v3)] → k201 σ τ v2 v3 = some (res.1, res.2.1, res.2.2, d) → cells + d = n → W p l e { frames := 5, cells := n, slots := 6 * n, locals := 104 } s m args below meth c H locs cells (6 * cells) (MQ below (k_Q (some (.int res.1)) (r_V G a0 adX res.2.1 res.2.2 A) A) args s n (6 * n) A) (F0 m 201 ls [])) : ∀ n9 : Nat, ∀ (σ τ : Sg) (v2 : Int32) (v3 : Int32) (o4 : Nat) (v5 : Int32) (H : Heap) (locs : List Loc) (ls : Array Slot) (cells d : Nat), q_S G ad N (x_c G adX σ) τ [] A s.heap H locs → lv_has ls 8 [(0, .ref (ad 40 0)), (1, .ref (adX 7 0)), (2, .int v2), (3, .int v3), (4, .ref (ad 42 o4)), (5, .int v5)] → (o4 < N.2.1) → f_L_isSame_336 k201 n9 σ τ v2 v3 o4 v5 = some (res.1, res.2.1, res.2.2, d) → cells + d = n → W p l e { frames := 5, cells := n, slots := 6 * n, locals := 104 } s m args below meth c H locs cells (6 * cells) (MQ below (k_Q (some (.int res.1)) (r_V G a0 adX res.2.1 res.2.2 A) A) args s n (6 * n) A) (F0 m 336 ls []) := by
  intro n9
  induction n9 with
  | zero => intro σ τ v2 v3 o4 v5 H locs ls cells d S hl ho4 hf hd; cases hf
  | succ n9 ih =>
    intro σ τ v2 v3 o4 v5 H locs ls cells d S hl ho4 hf hd
    rw [f_L_isSame_336_s] at hf
    refine lv_iload C.1 C.2.1 dL_isSame_336 (lv_at hl 5 rfl) ?_
    refine lv_aload_n C.1 C.2.1 dL_isSame_338 rfl (lv_at hl 0 rfl) ?_
    refine q_getR C S 40 0 50 0 rfl rfl rfl cf_11 0 (by decide) (qr_40_0 G τ 0) tw_4_96 dL_isSame_339 ?_
    refine q_size C S 0 (Or.inl (by decide)) (by decide) tw_5_190 ⟨(Nat.le_of_ble_eq_true rfl), (Nat.le_of_ble_eq_true rfl)⟩ (Nat.le_of_ble_eq_true rfl) hl.1 ⟨(show _ ≤ n from by omega), (show _ ≤ 6 * n from by omega)⟩ dL_isSame_342 (fun H locs S => ?_)
    refine lv_icmp_ge (tgt := 544) C.1 C.2.1 dL_isSame_347 (by decide) (fun c_347 => ?_) (fun c_347 => ?_)
    · rw [if_pos c_347] at hf
      exact w_L_isSame_544 C FX hXA hN ha0 k201 hk201 _ _ v2 v3 _ _ _ _ _ S (lv_sub hl [0, 1, 2, 3] rfl) hf hd
    · rw [if_neg c_347] at hf
      refine lv_aload C.1 C.2.1 dL_isSame_350 (lv_at hl 4 rfl) ?_
      refine q_getRN C S 42 o4 45 o4 rfl rfl ho4 cf_8 11 (by decide) (qr_42_11 G τ o4) (List.mem_of_getElem? (i := 38) rfl) dL_isSame_352 ?_
      refine lv_iload C.1 C.2.1 dL_isSame_355 (lv_at hl 5 rfl) ?_
      obtain ⟨g_357, hf⟩ := gd hf
      refine q_by C S o4 ho4 g_357 dL_isSame_357 ?_
      refine lv_astore (lv' := [(6, .ref (ad 43 (4 * o4 + (v5).toNatClampNeg))), (0, .ref (ad 40 0)), (1, .ref (adX 7 0)), (2, .int v2), (3, .int v3), (4, .ref (ad 42 o4)), (5, .int v5)]) C.1 C.2.1 dL_isSame_358 hl (by decide) rfl (fun ls hl => ?_)
      refine lv_aload_n C.1 C.2.1 dL_isSame_360 rfl (lv_at hl 2 rfl) ?_
      refine lv_iload C.1 C.2.1 dL_isSame_361 (lv_at hl 6 rfl) ?_
      refine lv_iload_n C.1 C.2.1 dL_isSame_363 rfl (lv_at hl 4 rfl) ?_
      obtain ⟨r1, σ2, q_364, hf⟩ := bib hf
      refine q_callXI C FX hXA S rfl [.int v5, .int v3] (m_X7_holds l G adX σ v5 v3 r1 σ2 q_364 _) kv_X7_holds tw_6_128 ⟨(Nat.le_of_ble_eq_true rfl), (Nat.le_of_ble_eq_true rfl)⟩ rfl rfl (Nat.le_of_ble_eq_true rfl) hl.1 ⟨(show _ ≤ n from by omega), (show _ ≤ 6 * n from by omega)⟩ dL_isSame_364 (fun H locs S => ?_)
      refine lv_aload C.1 C.2.1 dL_isSame_367 (lv_at hl 0 rfl) ?_
      refine q_getIN C S 43 (4 * o4 + (v5).toNatClampNeg) rfl (q_lt4 ho4 g_357) cf_10 0 (by decide) (qi_43_0 G τ (4 * o4 + (v5).toNatClampNeg)) (List.mem_of_getElem? (i := 22) rfl) dL_isSame_369 ?_
      refine lv_icmp_ne (tgt := 443) C.1 C.2.1 dL_isSame_372 (by decide) (fun c_372 => ?_) (fun c_372 => ?_)
      · rw [if_neg c_372] at hf
        exact w_L_isSame_443 C FX hXA hN ha0 _ _ _ _ _ _ _ S (lv_sub hl [] rfl) hf hd
      · rw [if_pos c_372] at hf
        refine lv_aload_n C.1 C.2.1 dL_isSame_375 rfl (lv_at hl 2 rfl) ?_
        refine lv_iload C.1 C.2.1 dL_isSame_376 (lv_at hl 6 rfl) ?_
        refine lv_iload_n C.1 C.2.1 dL_isSame_378 rfl (lv_at hl 4 rfl) ?_
        obtain ⟨r3, σ4, q_379, hf⟩ := bib hf
        refine q_callXI C FX hXA S rfl [.int v5, .int v3] (m_X7_decides l G adX σ2 v5 v3 r3 σ4 q_379 _) kv_X7_decides tw_6_133 ⟨(Nat.le_of_ble_eq_true rfl), (Nat.le_of_ble_eq_true rfl)⟩ rfl rfl (Nat.le_of_ble_eq_true rfl) hl.1 ⟨(show _ ≤ n from by omega), (show _ ≤ 6 * n from by omega)⟩ dL_isSame_379 (fun H locs S => ?_)
        refine lv_aload C.1 C.2.1 dL_isSame_382 (lv_at hl 0 rfl) ?_
        refine q_getIN C S 43 (4 * o4 + (v5).toNatClampNeg) rfl (q_lt4 ho4 g_357) cf_10 2 (by decide) (qi_43_2 G τ (4 * o4 + (v5).toNatClampNeg)) (List.mem_of_getElem? (i := 24) rfl) dL_isSame_384 ?_
        refine lv_icmp_ne (tgt := 443) C.1 C.2.1 dL_isSame_387 (by decide) (fun c_387 => ?_) (fun c_387 => ?_)
        · rw [if_neg c_387] at hf
          exact w_L_isSame_443 C FX hXA hN ha0 _ _ _ _ _ _ _ S (lv_sub hl [] rfl) hf hd
        · rw [if_pos c_387] at hf
          refine lv_aload_n C.1 C.2.1 dL_isSame_390 rfl (lv_at hl 2 rfl) ?_
          refine lv_iload C.1 C.2.1 dL_isSame_391 (lv_at hl 6 rfl) ?_
          refine lv_iload_n C.1 C.2.1 dL_isSame_393 rfl (lv_at hl 4 rfl) ?_
          obtain ⟨r5, σ6, q_394, hf⟩ := bib hf
          refine q_callXI C FX hXA S rfl [.int v5, .int v3] (m_X7_costNow l G adX σ4 v5 v3 r5 σ6 q_394 _) kv_X7_costNow tw_6_137 ⟨(Nat.le_of_ble_eq_true rfl), (Nat.le_of_ble_eq_true rfl)⟩ rfl rfl (Nat.le_of_ble_eq_true rfl) hl.1 ⟨(show _ ≤ n from by omega), (show _ ≤ 6 * n from by omega)⟩ dL_isSame_394 (fun H locs S => ?_)
          refine lv_aload_n C.1 C.2.1 dL_isSame_397 rfl (lv_at hl 1 rfl) ?_
          refine lv_iload C.1 C.2.1 dL_isSame_398 (lv_at hl 6 rfl) ?_
          refine lv_aload C.1 C.2.1 dL_isSame_400 (lv_at hl 5 rfl) ?_
          obtain ⟨r7, τ8, c_402, d_402, q_402, hf, e_402⟩ := bqxb hf
          refine q_callV (τ' := τ8) (v := (some (.int r7))) C S [.int v5, .ref (ad 42 o4)] rfl (fun ad' he => by have h := m_L_cost l G ad' N τ v5 o4 (r7, τ8) c_402 ho4 q_402 H.size; rw [he 40 0 rfl, he 42 o4 rfl] at h; exact h) kv_L_cost tw_6_146 ⟨(Nat.le_of_ble_eq_true rfl), (Nat.le_of_ble_eq_true rfl)⟩ rfl rfl (Nat.le_of_ble_eq_true rfl) hl.1 ⟨(show _ ≤ n from by omega), (show _ ≤ 6 * n from by omega)⟩ dL_isSame_402 (fun H locs S => ?_)
          replace hd := q_hd2 hd e_402
          refine lv_icmp_ne (tgt := 443) C.1 C.2.1 dL_isSame_405 (by decide) (fun c_405 => ?_) (fun c_405 => ?_)
          · rw [if_neg c_405] at hf
            exact w_L_isSame_443 C FX hXA hN ha0 _ _ _ _ _ _ _ S (lv_sub hl [] rfl) hf hd
          · rw [if_pos c_405] at hf
            refine lv_aload_n C.1 C.2.1 dL_isSame_408 rfl (lv_at hl 2 rfl) ?_
            refine lv_iload C.1 C.2.1 dL_isSame_409 (lv_at hl 6 rfl) ?_
            refine lv_iload_n C.1 C.2.1 dL_isSame_411 rfl (lv_at hl 4 rfl) ?_
            obtain ⟨r9, σ10, q_412, hf⟩ := bib hf
            refine q_callXI C FX hXA S rfl [.int v5, .int v3] (m_X7_ownCost l G adX σ6 v5 v3 r9 σ10 q_412 _) kv_X7_ownCost tw_6_150 ⟨(Nat.le_of_ble_eq_true rfl), (Nat.le_of_ble_eq_true rfl)⟩ rfl rfl (Nat.le_of_ble_eq_true rfl) hl.1 ⟨(show _ ≤ n from by omega), (show _ ≤ 6 * n from by omega)⟩ dL_isSame_412 (fun H locs S => ?_)
            refine lv_aload C.1 C.2.1 dL_isSame_415 (lv_at hl 0 rfl) ?_
            refine q_getIN C S 43 (4 * o4 + (v5).toNatClampNeg) rfl (q_lt4 ho4 g_357) cf_10 0 (by decide) (qi_43_0 G τ8 (4 * o4 + (v5).toNatClampNeg)) (List.mem_of_getElem? (i := 22) rfl) dL_isSame_417 ?_
            refine lv_if_ne (tgt := 431) C.1 C.2.1 dL_isSame_420 (by decide) (fun c_420 => ?_) (fun c_420 => ?_)
            · rw [if_neg c_420] at hf
              exact w_L_isSame_431 C FX hXA hN ha0 k201 hk201 (f_L_isSame_336 k201 n9) ih _ _ v2 v3 o4 v5 (4 * o4 + (v5).toNatClampNeg) r9 _ _ _ _ _ S (lv_sub hl [1, 2, 3, 4, 5, 6, 0] rfl) ho4 (q_lt4 ho4 g_357) hf hd
            · rw [if_pos c_420] at hf
              refine lv_aload C.1 C.2.1 dL_isSame_423 (lv_at hl 0 rfl) ?_
              refine q_getIN C S 43 (4 * o4 + (v5).toNatClampNeg) rfl (q_lt4 ho4 g_357) cf_10 2 (by decide) (qi_43_2 G τ8 (4 * o4 + (v5).toNatClampNeg)) (List.mem_of_getElem? (i := 24) rfl) dL_isSame_425 ?_
              refine lv_if_lt (tgt := 439) C.1 C.2.1 dL_isSame_428 (by decide) (fun c_428 => ?_) (fun c_428 => ?_)
              · rw [if_pos c_428] at hf
                refine lv_iconst (v := (-1)) C.1 C.2.1 dL_isSame_439 (by decide) ?_
                exact w_L_isSame_440 C FX hXA hN ha0 k201 hk201 (f_L_isSame_336 k201 n9) ih _ _ v2 v3 o4 v5 (4 * o4 + (v5).toNatClampNeg) r9 (-1) _ _ _ _ _ S (lv_sub hl [1, 2, 3, 4, 5, 6, 0] rfl) ho4 (q_lt4 ho4 g_357) hf hd
              · rw [if_neg c_428] at hf
                exact w_L_isSame_431 C FX hXA hN ha0 k201 hk201 (f_L_isSame_336 k201 n9) ih _ _ v2 v3 o4 v5 (4 * o4 + (v5).toNatClampNeg) r9 _ _ _ _ _ S (lv_sub hl [1, 2, 3, 4, 5, 6, 0] rfl) ho4 (q_lt4 ho4 g_357) hf hd
set_option maxHeartbeats 4000000 in
set_option maxRecDepth 100000 in
theorem w_L_isSame_201 {p : Program} {l : Launch} {e : Env} {s : State} {m : MethodId} {args : Array Value} {below : List Frame} {meth : Method} {c : Code} {G : Gx} {ad : Ad} {N : Nn} {adX : Ad} {a0 : Nat} {A : Nat → Prop} {res : Int32 × Sg × Sg} {n : Nat} (C : Cx p s m args meth c yL_isSame.cls cL_isSame 8 (Option.some FieldType.boolean) G) (FX : F_X G adX) (hXA : ∀ q, z_X adX q → A q) (hN : N.2.2 = (0, 0)) (ha0 : ad 40 0 = a0) : ∀ n9 : Nat, ∀ (σ τ : Sg) (v2 : Int32) (v3 : Int32) (H : Heap) (locs : List Loc) (ls : Array Slot) (cells d : Nat), q_S G ad N (x_c G adX σ) τ [] A s.heap H locs → lv_has ls 8 [(0, .ref (ad 40 0)), (1, .ref (adX 7 0)), (2, .int v2), (3, .int v3)] → f_L_isSame_201 n9 σ τ v2 v3 = some (res.1, res.2.1, res.2.2, d) → cells + d = n → W p l e { frames := 5, cells := n, slots := 6 * n, locals := 104 } s m args below meth c H locs cells (6 * cells) (MQ below (k_Q (some (.int res.1)) (r_V G a0 adX res.2.1 res.2.2 A) A) args s n (6 * n) A) (F0 m 201 ls []) := by
  intro n9
  induction n9 with
  | zero => intro σ τ v2 v3 H locs ls cells d S hl hf hd; cases hf
  | succ n9 ih =>
    intro σ τ v2 v3 H locs ls cells d S hl hf hd
    rw [f_L_isSame_201_s] at hf
    refine lv_iload_n C.1 C.2.1 dL_isSame_201 rfl (lv_at hl 3 rfl) ?_
    refine lv_aload_n C.1 C.2.1 dL_isSame_202 rfl (lv_at hl 0 rfl) ?_
    refine q_getR C S 40 0 50 1 rfl rfl rfl cf_11 1 (by decide) (qr_40_1 G τ 0) tw_4_97 dL_isSame_203 ?_
    refine q_size C S 1 (Or.inl (by decide)) (by decide) tw_5_190 ⟨(Nat.le_of_ble_eq_true rfl), (Nat.le_of_ble_eq_true rfl)⟩ (Nat.le_of_ble_eq_true rfl) hl.1 ⟨(show _ ≤ n from by omega), (show _ ≤ 6 * n from by omega)⟩ dL_isSame_206 (fun H locs S => ?_)
    refine lv_icmp_ge (tgt := 550) C.1 C.2.1 dL_isSame_211 (by decide) (fun c_211 => ?_) (fun c_211 => ?_)
    · rw [if_pos c_211] at hf
      exact w_L_isSame_550 C FX hXA hN ha0 _ _ v2 _ _ _ _ _ S (lv_sub hl [0, 1, 2] rfl) hf hd
    · rw [if_neg c_211] at hf
      refine lv_aload_n C.1 C.2.1 dL_isSame_214 rfl (lv_at hl 0 rfl) ?_
      refine q_getR C S 40 0 50 1 rfl rfl rfl cf_11 1 (by decide) (qr_40_1 G τ 0) tw_4_97 dL_isSame_215 ?_
      refine lv_iload_n C.1 C.2.1 dL_isSame_218 rfl (lv_at hl 3 rfl) ?_
      obtain ⟨g_219, hf⟩ := gd hf
      have ob_219 := q_ltN S (Or.inl (by decide)) (q_glt g_219)
      refine q_get C S 1 (Or.inl (by decide)) (by decide) g_219 tw_5_199 ⟨(Nat.le_of_ble_eq_true rfl), (Nat.le_of_ble_eq_true rfl)⟩ (Nat.le_of_ble_eq_true rfl) hl.1 ⟨(show _ ≤ n from by omega), (show _ ≤ 6 * n from by omega)⟩ dL_isSame_219 (fun H locs S => ?_)
      refine q_cast C S 42 ((v3).toNatClampNeg) rfl ob_219 "BusLiftsLaw$Call" (fun _ => Or.inl ⟨_, _, _, _, rfl, rfl⟩) tw_4_19 dL_isSame_224 ?_
      refine lv_astore (lv' := [(4, .ref (ad 42 ((v3).toNatClampNeg))), (0, .ref (ad 40 0)), (1, .ref (adX 7 0)), (2, .int v2), (3, .int v3)]) C.1 C.2.1 dL_isSame_227 hl (by decide) rfl (fun ls hl => ?_)
      refine lv_aload_n C.1 C.2.1 dL_isSame_229 rfl (lv_at hl 2 rfl) ?_
      refine lv_iload_n C.1 C.2.1 dL_isSame_230 rfl (lv_at hl 4 rfl) ?_
      refine lv_iconst (v := 3) C.1 C.2.1 dL_isSame_231 (by decide) ?_
      obtain ⟨r1, σ2, q_232, hf⟩ := bib hf
      refine q_callXI C FX hXA S rfl [.int v3, .int 3] (m_X7_call l G adX σ v3 3 r1 σ2 q_232 _) kv_X7_call tw_6_115 ⟨(Nat.le_of_ble_eq_true rfl), (Nat.le_of_ble_eq_true rfl)⟩ rfl rfl (Nat.le_of_ble_eq_true rfl) hl.1 ⟨(show _ ≤ n from by omega), (show _ ≤ 6 * n from by omega)⟩ dL_isSame_232 (fun H locs S => ?_)
      refine lv_aload C.1 C.2.1 dL_isSame_235 (lv_at hl 0 rfl) ?_
      refine q_getIN C S 42 ((v3).toNatClampNeg) rfl ob_219 cf_8 3 (by decide) (qi_42_3 G τ ((v3).toNatClampNeg)) (List.mem_of_getElem? (i := 30) rfl) dL_isSame_237 ?_
      refine lv_icmp_ne (tgt := 331) C.1 C.2.1 dL_isSame_240 (by decide) (fun c_240 => ?_) (fun c_240 => ?_)
      · rw [if_neg c_240] at hf
        exact w_L_isSame_331 C FX hXA hN ha0 _ _ _ _ _ _ _ S (lv_sub hl [] rfl) hf hd
      · rw [if_pos c_240] at hf
        refine lv_aload_n C.1 C.2.1 dL_isSame_243 rfl (lv_at hl 2 rfl) ?_
        refine lv_iload_n C.1 C.2.1 dL_isSame_244 rfl (lv_at hl 4 rfl) ?_
        refine lv_iconst (v := 4) C.1 C.2.1 dL_isSame_245 (by decide) ?_
        obtain ⟨r3, σ4, q_246, hf⟩ := bib hf
        refine q_callXI C FX hXA S rfl [.int v3, .int 4] (m_X7_call l G adX σ2 v3 4 r3 σ4 q_246 _) kv_X7_call tw_6_115 ⟨(Nat.le_of_ble_eq_true rfl), (Nat.le_of_ble_eq_true rfl)⟩ rfl rfl (Nat.le_of_ble_eq_true rfl) hl.1 ⟨(show _ ≤ n from by omega), (show _ ≤ 6 * n from by omega)⟩ dL_isSame_246 (fun H locs S => ?_)
        refine lv_aload C.1 C.2.1 dL_isSame_249 (lv_at hl 0 rfl) ?_
        refine q_getIN C S 42 ((v3).toNatClampNeg) rfl ob_219 cf_8 4 (by decide) (qi_42_4 G τ ((v3).toNatClampNeg)) (List.mem_of_getElem? (i := 31) rfl) dL_isSame_251 ?_
        refine lv_icmp_ne (tgt := 331) C.1 C.2.1 dL_isSame_254 (by decide) (fun c_254 => ?_) (fun c_254 => ?_)
        · rw [if_neg c_254] at hf
          exact w_L_isSame_331 C FX hXA hN ha0 _ _ _ _ _ _ _ S (lv_sub hl [] rfl) hf hd
        · rw [if_pos c_254] at hf
          refine lv_aload_n C.1 C.2.1 dL_isSame_257 rfl (lv_at hl 2 rfl) ?_
          refine lv_iload_n C.1 C.2.1 dL_isSame_258 rfl (lv_at hl 4 rfl) ?_
          refine lv_iconst (v := 5) C.1 C.2.1 dL_isSame_259 (by decide) ?_
          obtain ⟨r5, σ6, q_260, hf⟩ := bib hf
          refine q_callXI C FX hXA S rfl [.int v3, .int 5] (m_X7_call l G adX σ4 v3 5 r5 σ6 q_260 _) kv_X7_call tw_6_115 ⟨(Nat.le_of_ble_eq_true rfl), (Nat.le_of_ble_eq_true rfl)⟩ rfl rfl (Nat.le_of_ble_eq_true rfl) hl.1 ⟨(show _ ≤ n from by omega), (show _ ≤ 6 * n from by omega)⟩ dL_isSame_260 (fun H locs S => ?_)
          refine lv_aload C.1 C.2.1 dL_isSame_263 (lv_at hl 0 rfl) ?_
          refine q_getIN C S 42 ((v3).toNatClampNeg) rfl ob_219 cf_8 5 (by decide) (qi_42_5 G τ ((v3).toNatClampNeg)) (List.mem_of_getElem? (i := 32) rfl) dL_isSame_265 ?_
          refine lv_icmp_ne (tgt := 331) C.1 C.2.1 dL_isSame_268 (by decide) (fun c_268 => ?_) (fun c_268 => ?_)
          · rw [if_neg c_268] at hf
            exact w_L_isSame_331 C FX hXA hN ha0 _ _ _ _ _ _ _ S (lv_sub hl [] rfl) hf hd
          · rw [if_pos c_268] at hf
            refine lv_aload_n C.1 C.2.1 dL_isSame_271 rfl (lv_at hl 2 rfl) ?_
            refine lv_iload_n C.1 C.2.1 dL_isSame_272 rfl (lv_at hl 4 rfl) ?_
            refine lv_bipush (v := 6) C.1 C.2.1 dL_isSame_273 (by decide) ?_
            obtain ⟨r7, σ8, q_275, hf⟩ := bib hf
            refine q_callXI C FX hXA S rfl [.int v3, .int 6] (m_X7_call l G adX σ6 v3 6 r7 σ8 q_275 _) kv_X7_call tw_6_115 ⟨(Nat.le_of_ble_eq_true rfl), (Nat.le_of_ble_eq_true rfl)⟩ rfl rfl (Nat.le_of_ble_eq_true rfl) hl.1 ⟨(show _ ≤ n from by omega), (show _ ≤ 6 * n from by omega)⟩ dL_isSame_275 (fun H locs S => ?_)
            refine lv_aload C.1 C.2.1 dL_isSame_278 (lv_at hl 0 rfl) ?_
            refine q_getIN C S 42 ((v3).toNatClampNeg) rfl ob_219 cf_8 6 (by decide) (qi_42_6 G τ ((v3).toNatClampNeg)) (List.mem_of_getElem? (i := 33) rfl) dL_isSame_280 ?_
            refine lv_icmp_ne (tgt := 331) C.1 C.2.1 dL_isSame_283 (by decide) (fun c_283 => ?_) (fun c_283 => ?_)
            · rw [if_neg c_283] at hf
              exact w_L_isSame_331 C FX hXA hN ha0 _ _ _ _ _ _ _ S (lv_sub hl [] rfl) hf hd
            · rw [if_pos c_283] at hf
              refine lv_aload_n C.1 C.2.1 dL_isSame_286 rfl (lv_at hl 2 rfl) ?_
              refine lv_iload_n C.1 C.2.1 dL_isSame_287 rfl (lv_at hl 4 rfl) ?_
              refine lv_bipush (v := 7) C.1 C.2.1 dL_isSame_288 (by decide) ?_
              obtain ⟨r9, σ10, q_290, hf⟩ := bib hf
              refine q_callXI C FX hXA S rfl [.int v3, .int 7] (m_X7_call l G adX σ8 v3 7 r9 σ10 q_290 _) kv_X7_call tw_6_115 ⟨(Nat.le_of_ble_eq_true rfl), (Nat.le_of_ble_eq_true rfl)⟩ rfl rfl (Nat.le_of_ble_eq_true rfl) hl.1 ⟨(show _ ≤ n from by omega), (show _ ≤ 6 * n from by omega)⟩ dL_isSame_290 (fun H locs S => ?_)
              refine lv_aload C.1 C.2.1 dL_isSame_293 (lv_at hl 0 rfl) ?_
              refine q_getIN C S 42 ((v3).toNatClampNeg) rfl ob_219 cf_8 7 (by decide) (qi_42_7 G τ ((v3).toNatClampNeg)) (List.mem_of_getElem? (i := 34) rfl) dL_isSame_295 ?_
              refine lv_icmp_ne (tgt := 331) C.1 C.2.1 dL_isSame_298 (by decide) (fun c_298 => ?_) (fun c_298 => ?_)
              · rw [if_neg c_298] at hf
                exact w_L_isSame_331 C FX hXA hN ha0 _ _ _ _ _ _ _ S (lv_sub hl [] rfl) hf hd
              · rw [if_pos c_298] at hf
                refine lv_aload_n C.1 C.2.1 dL_isSame_301 rfl (lv_at hl 2 rfl) ?_
                refine lv_iload_n C.1 C.2.1 dL_isSame_302 rfl (lv_at hl 4 rfl) ?_
                refine lv_bipush (v := 8) C.1 C.2.1 dL_isSame_303 (by decide) ?_
                obtain ⟨r11, σ12, q_305, hf⟩ := bib hf
                refine q_callXI C FX hXA S rfl [.int v3, .int 8] (m_X7_call l G adX σ10 v3 8 r11 σ12 q_305 _) kv_X7_call tw_6_115 ⟨(Nat.le_of_ble_eq_true rfl), (Nat.le_of_ble_eq_true rfl)⟩ rfl rfl (Nat.le_of_ble_eq_true rfl) hl.1 ⟨(show _ ≤ n from by omega), (show _ ≤ 6 * n from by omega)⟩ dL_isSame_305 (fun H locs S => ?_)
                refine lv_aload C.1 C.2.1 dL_isSame_308 (lv_at hl 0 rfl) ?_
                refine q_getIN C S 42 ((v3).toNatClampNeg) rfl ob_219 cf_8 8 (by decide) (qi_42_8 G τ ((v3).toNatClampNeg)) (List.mem_of_getElem? (i := 35) rfl) dL_isSame_310 ?_
                refine lv_icmp_ne (tgt := 331) C.1 C.2.1 dL_isSame_313 (by decide) (fun c_313 => ?_) (fun c_313 => ?_)
                · rw [if_neg c_313] at hf
                  exact w_L_isSame_331 C FX hXA hN ha0 _ _ _ _ _ _ _ S (lv_sub hl [] rfl) hf hd
                · rw [if_pos c_313] at hf
                  refine lv_aload_n C.1 C.2.1 dL_isSame_316 rfl (lv_at hl 2 rfl) ?_
                  refine lv_iload_n C.1 C.2.1 dL_isSame_317 rfl (lv_at hl 4 rfl) ?_
                  refine lv_bipush (v := 10) C.1 C.2.1 dL_isSame_318 (by decide) ?_
                  obtain ⟨r13, σ14, q_320, hf⟩ := bib hf
                  refine q_callXI C FX hXA S rfl [.int v3, .int 10] (m_X7_call l G adX σ12 v3 10 r13 σ14 q_320 _) kv_X7_call tw_6_115 ⟨(Nat.le_of_ble_eq_true rfl), (Nat.le_of_ble_eq_true rfl)⟩ rfl rfl (Nat.le_of_ble_eq_true rfl) hl.1 ⟨(show _ ≤ n from by omega), (show _ ≤ 6 * n from by omega)⟩ dL_isSame_320 (fun H locs S => ?_)
                  refine lv_aload C.1 C.2.1 dL_isSame_323 (lv_at hl 0 rfl) ?_
                  refine q_getIN C S 42 ((v3).toNatClampNeg) rfl ob_219 cf_8 10 (by decide) (qi_42_10 G τ ((v3).toNatClampNeg)) (List.mem_of_getElem? (i := 37) rfl) dL_isSame_325 ?_
                  refine lv_icmp_eq (tgt := 333) C.1 C.2.1 dL_isSame_328 (by decide) (fun c_328 => ?_) (fun c_328 => ?_)
                  · rw [if_pos c_328] at hf
                    refine lv_iconst (v := 0) C.1 C.2.1 dL_isSame_333 (by decide) ?_
                    refine lv_istore (lv' := [(5, .int 0), (4, .ref (ad 42 ((v3).toNatClampNeg))), (0, .ref (ad 40 0)), (1, .ref (adX 7 0)), (2, .int v2), (3, .int v3)]) C.1 C.2.1 dL_isSame_334 hl (by decide) rfl (fun ls hl => ?_)
                    exact w_L_isSame_336 C FX hXA hN ha0 (f_L_isSame_201 n9) ih FU _ _ v2 v3 ((v3).toNatClampNeg) 0 _ _ _ _ _ S (lv_sub hl [2, 3, 4, 5, 1, 0] rfl) ob_219 hf hd
                  · rw [if_neg c_328] at hf
                    exact w_L_isSame_331 C FX hXA hN ha0 _ _ _ _ _ _ _ S (lv_sub hl [] rfl) hf hd
set_option maxHeartbeats 4000000 in
set_option maxRecDepth 100000 in
theorem w_L_isSame_199 {p : Program} {l : Launch} {e : Env} {s : State} {m : MethodId} {args : Array Value} {below : List Frame} {meth : Method} {c : Code} {G : Gx} {ad : Ad} {N : Nn} {adX : Ad} {a0 : Nat} {A : Nat → Prop} {res : Int32 × Sg × Sg} {n : Nat} (C : Cx p s m args meth c yL_isSame.cls cL_isSame 8 (Option.some FieldType.boolean) G) (FX : F_X G adX) (hXA : ∀ q, z_X adX q → A q) (hN : N.2.2 = (0, 0)) (ha0 : ad 40 0 = a0) : ∀ (σ τ : Sg) (v2 : Int32) (H : Heap) (locs : List Loc) (ls : Array Slot) (cells d : Nat), q_S G ad N (x_c G adX σ) τ [] A s.heap H locs → lv_has ls 8 [(0, .ref (ad 40 0)), (1, .ref (adX 7 0)), (2, .int v2)] → f_L_isSame_199 σ τ v2 = some (res.1, res.2.1, res.2.2, d) → cells + d = n → W p l e { frames := 5, cells := n, slots := 6 * n, locals := 104 } s m args below meth c H locs cells (6 * cells) (MQ below (k_Q (some (.int res.1)) (r_V G a0 adX res.2.1 res.2.2 A) A) args s n (6 * n) A) (F0 m 199 ls []) := by
  intro σ τ v2 H locs ls cells d S hl hf hd
  unfold f_L_isSame_199 at hf
  refine lv_iconst (v := 0) C.1 C.2.1 dL_isSame_199 (by decide) ?_
  refine lv_istore_n (lv' := [(3, .int 0), (0, .ref (ad 40 0)), (1, .ref (adX 7 0)), (2, .int v2)]) C.1 C.2.1 dL_isSame_200 rfl hl (by decide) rfl (fun ls hl => ?_)
  exact w_L_isSame_201 C FX hXA hN ha0 FU _ _ v2 0 _ _ _ _ _ S (lv_sub hl [1, 2, 3, 0] rfl) hf hd
set_option maxHeartbeats 4000000 in
set_option maxRecDepth 100000 in
theorem w_L_isSame_191 {p : Program} {l : Launch} {e : Env} {s : State} {m : MethodId} {args : Array Value} {below : List Frame} {meth : Method} {c : Code} {G : Gx} {ad : Ad} {N : Nn} {adX : Ad} {a0 : Nat} {A : Nat → Prop} {res : Int32 × Sg × Sg} {n : Nat} (C : Cx p s m args meth c yL_isSame.cls cL_isSame 8 (Option.some FieldType.boolean) G) (FX : F_X G adX) (hXA : ∀ q, z_X adX q → A q) (hN : N.2.2 = (0, 0)) (ha0 : ad 40 0 = a0) : ∀ (σ τ : Sg) (H : Heap) (locs : List Loc) (ls : Array Slot) (cells d : Nat), q_S G ad N (x_c G adX σ) τ [] A s.heap H locs → lv_has ls 8 [] → f_L_isSame_191 σ τ = some (res.1, res.2.1, res.2.2, d) → cells + d = n → W p l e { frames := 5, cells := n, slots := 6 * n, locals := 104 } s m args below meth c H locs cells (6 * cells) (MQ below (k_Q (some (.int res.1)) (r_V G a0 adX res.2.1 res.2.2 A) A) args s n (6 * n) A) (F0 m 191 ls []) := by
  intro σ τ H locs ls cells d S hl hf hd
  unfold f_L_isSame_191 at hf
  refine lv_iconst (v := 0) C.1 C.2.1 dL_isSame_191 (by decide) ?_
  exact b_zret C S hN ha0 rfl hf hd dL_isSame_192
set_option maxHeartbeats 4000000 in
set_option maxRecDepth 100000 in
theorem w_L_isSame_130 {p : Program} {l : Launch} {e : Env} {s : State} {m : MethodId} {args : Array Value} {below : List Frame} {meth : Method} {c : Code} {G : Gx} {ad : Ad} {N : Nn} {adX : Ad} {a0 : Nat} {A : Nat → Prop} {res : Int32 × Sg × Sg} {n : Nat} (C : Cx p s m args meth c yL_isSame.cls cL_isSame 8 (Option.some FieldType.boolean) G) (FX : F_X G adX) (hXA : ∀ q, z_X adX q → A q) (hN : N.2.2 = (0, 0)) (ha0 : ad 40 0 = a0) (k4 : Sg → Sg → Int32 → Int32 → Option (Int32 × Sg × Sg × Nat)) (hk4 : ∀ (σ τ : Sg) (v2 : Int32) (v3 : Int32) (H : Heap) (locs : List Loc) (ls : Array Slot) (cells d : Nat), q_S G ad N (x_c G adX σ) τ [] A s.heap H locs → lv_has ls 8 [(0, .ref (ad 40 0)), (1, .ref (adX 7 0)), (2, .int v2), (3, .int v3)] → k4 σ τ v2 v3 = some (res.1, res.2.1, res.2.2, d) → cells + d = n → W p l e { frames := 5, cells := n, slots := 6 * n, locals := 104 } s m args below meth c H locs cells (6 * cells) (MQ below (k_Q (some (.int res.1)) (r_V G a0 adX res.2.1 res.2.2 A) A) args s n (6 * n) A) (F0 m 4 ls [])) : ∀ (σ τ : Sg) (v2 : Int32) (v3 : Int32) (o4 : Nat) (v100 : Int32) (v101 : Int32) (H : Heap) (locs : List Loc) (ls : Array Slot) (cells d : Nat), q_S G ad N (x_c G adX σ) τ [] A s.heap H locs → lv_has ls 8 [(0, .ref (ad 40 0)), (1, .ref (adX 7 0)), (2, .int v2), (3, .int v3), (4, .ref (ad 41 o4))] → (o4 < N.1) → f_L_isSame_130 k4 σ τ v2 v3 o4 v100 v101 = some (res.1, res.2.1, res.2.2, d) → cells + d = n → W p l e { frames := 5, cells := n, slots := 6 * n, locals := 104 } s m args below meth c H locs cells (6 * cells) (MQ below (k_Q (some (.int res.1)) (r_V G a0 adX res.2.1 res.2.2 A) A) args s n (6 * n) A) (F0 m 130 ls [.int v101, .int v100]) := by
  intro σ τ v2 v3 o4 v100 v101 H locs ls cells d S hl ho4 hf hd
  unfold f_L_isSame_130 at hf
  refine lv_icmp_ne (tgt := 191) C.1 C.2.1 dL_isSame_130 (by decide) (fun c_130 => ?_) (fun c_130 => ?_)
  · rw [if_neg c_130] at hf
    exact w_L_isSame_191 C FX hXA hN ha0 _ _ _ _ _ _ _ S (lv_sub hl [] rfl) hf hd
  · rw [if_pos c_130] at hf
    refine lv_aload_n C.1 C.2.1 dL_isSame_133 rfl (lv_at hl 1 rfl) ?_
    refine lv_iload_n C.1 C.2.1 dL_isSame_134 rfl (lv_at hl 3 rfl) ?_
    refine lv_bipush (v := 7) C.1 C.2.1 dL_isSame_135 (by decide) ?_
    obtain ⟨r1, σ2, q_137, hf⟩ := bib hf
    refine q_callXI C FX hXA S rfl [.int v3, .int 7] (m_X7_car l G adX σ v3 7 r1 σ2 q_137 _) kv_X7_car tw_5_215 ⟨(Nat.le_of_ble_eq_true rfl), (Nat.le_of_ble_eq_true rfl)⟩ rfl rfl (Nat.le_of_ble_eq_true rfl) hl.1 ⟨(show _ ≤ n from by omega), (show _ ≤ 6 * n from by omega)⟩ dL_isSame_137 (fun H locs S => ?_)
    refine lv_aload C.1 C.2.1 dL_isSame_140 (lv_at hl 4 rfl) ?_
    refine q_getIN C S 41 o4 rfl ho4 cf_9 3 (by decide) (qi_41_3 G τ o4) (List.mem_of_getElem? (i := 14) rfl) dL_isSame_142 ?_
    refine lv_icmp_ne (tgt := 191) C.1 C.2.1 dL_isSame_145 (by decide) (fun c_145 => ?_) (fun c_145 => ?_)
    · rw [if_neg c_145] at hf
      exact w_L_isSame_191 C FX hXA hN ha0 _ _ _ _ _ _ _ S (lv_sub hl [] rfl) hf hd
    · rw [if_pos c_145] at hf
      refine lv_aload_n C.1 C.2.1 dL_isSame_148 rfl (lv_at hl 1 rfl) ?_
      refine lv_iload_n C.1 C.2.1 dL_isSame_149 rfl (lv_at hl 3 rfl) ?_
      refine lv_bipush (v := 8) C.1 C.2.1 dL_isSame_150 (by decide) ?_
      obtain ⟨r3, σ4, q_152, hf⟩ := bib hf
      refine q_callXI C FX hXA S rfl [.int v3, .int 8] (m_X7_car l G adX σ2 v3 8 r3 σ4 q_152 _) kv_X7_car tw_5_215 ⟨(Nat.le_of_ble_eq_true rfl), (Nat.le_of_ble_eq_true rfl)⟩ rfl rfl (Nat.le_of_ble_eq_true rfl) hl.1 ⟨(show _ ≤ n from by omega), (show _ ≤ 6 * n from by omega)⟩ dL_isSame_152 (fun H locs S => ?_)
      refine lv_aload C.1 C.2.1 dL_isSame_155 (lv_at hl 4 rfl) ?_
      refine q_getIN C S 41 o4 rfl ho4 cf_9 4 (by decide) (qi_41_4 G τ o4) (List.mem_of_getElem? (i := 15) rfl) dL_isSame_157 ?_
      refine lv_icmp_ne (tgt := 191) C.1 C.2.1 dL_isSame_160 (by decide) (fun c_160 => ?_) (fun c_160 => ?_)
      · rw [if_neg c_160] at hf
        exact w_L_isSame_191 C FX hXA hN ha0 _ _ _ _ _ _ _ S (lv_sub hl [] rfl) hf hd
      · rw [if_pos c_160] at hf
        refine lv_aload_n C.1 C.2.1 dL_isSame_163 rfl (lv_at hl 1 rfl) ?_
        refine lv_iload_n C.1 C.2.1 dL_isSame_164 rfl (lv_at hl 3 rfl) ?_
        refine lv_bipush (v := 9) C.1 C.2.1 dL_isSame_165 (by decide) ?_
        obtain ⟨r5, σ6, q_167, hf⟩ := bib hf
        refine q_callXI C FX hXA S rfl [.int v3, .int 9] (m_X7_car l G adX σ4 v3 9 r5 σ6 q_167 _) kv_X7_car tw_5_215 ⟨(Nat.le_of_ble_eq_true rfl), (Nat.le_of_ble_eq_true rfl)⟩ rfl rfl (Nat.le_of_ble_eq_true rfl) hl.1 ⟨(show _ ≤ n from by omega), (show _ ≤ 6 * n from by omega)⟩ dL_isSame_167 (fun H locs S => ?_)
        refine lv_aload C.1 C.2.1 dL_isSame_170 (lv_at hl 4 rfl) ?_
        refine q_getIN C S 41 o4 rfl ho4 cf_9 5 (by decide) (qi_41_5 G τ o4) (List.mem_of_getElem? (i := 16) rfl) dL_isSame_172 ?_
        refine lv_icmp_ne (tgt := 191) C.1 C.2.1 dL_isSame_175 (by decide) (fun c_175 => ?_) (fun c_175 => ?_)
        · rw [if_neg c_175] at hf
          exact w_L_isSame_191 C FX hXA hN ha0 _ _ _ _ _ _ _ S (lv_sub hl [] rfl) hf hd
        · rw [if_pos c_175] at hf
          refine lv_aload_n C.1 C.2.1 dL_isSame_178 rfl (lv_at hl 1 rfl) ?_
          refine lv_iload_n C.1 C.2.1 dL_isSame_179 rfl (lv_at hl 3 rfl) ?_
          obtain ⟨r7, σ8, q_180, hf⟩ := bib hf
          refine q_callXI C FX hXA S rfl [.int v3] (m_X7_goal l G adX σ6 v3 r7 σ8 q_180 _) kv_X7_goal tw_6_83 ⟨(Nat.le_of_ble_eq_true rfl), (Nat.le_of_ble_eq_true rfl)⟩ rfl rfl (Nat.le_of_ble_eq_true rfl) hl.1 ⟨(show _ ≤ n from by omega), (show _ ≤ 6 * n from by omega)⟩ dL_isSame_180 (fun H locs S => ?_)
          refine lv_aload_n C.1 C.2.1 dL_isSame_183 rfl (lv_at hl 0 rfl) ?_
          refine lv_iload_n C.1 C.2.1 dL_isSame_184 rfl (lv_at hl 3 rfl) ?_
          obtain ⟨r9, τ10, c_185, d_185, q_185, hf, e_185⟩ := bqxb hf
          refine q_callV (τ' := τ10) (v := (some (.int r9))) C S [.int v3] rfl (fun ad' he => by have h := m_L_goal l G ad' N τ v3 (r9, τ10) c_185 q_185 H.size; rw [he 40 0 rfl] at h; exact h) kv_L_goal tw_6_110 ⟨(Nat.le_of_ble_eq_true rfl), (Nat.le_of_ble_eq_true rfl)⟩ rfl rfl (Nat.le_of_ble_eq_true rfl) hl.1 ⟨(show _ ≤ n from by omega), (show _ ≤ 6 * n from by omega)⟩ dL_isSame_185 (fun H locs S => ?_)
          replace hd := q_hd2 hd e_185
          refine lv_icmp_eq (tgt := 193) C.1 C.2.1 dL_isSame_188 (by decide) (fun c_188 => ?_) (fun c_188 => ?_)
          · rw [if_pos c_188] at hf
            refine lv_iinc (v := (v3 + 1)) (lv' := [(3, .int (v3 + 1)), (0, .ref (ad 40 0)), (1, .ref (adX 7 0)), (2, .int v2), (4, .ref (ad 41 o4))]) C.1 C.2.1 dL_isSame_193 hl (k := 3) rfl rfl (by decide) rfl (fun ls hl => ?_)
            refine lv_goto (tgt := 4) C.1 C.2.1 dL_isSame_196 (by decide) ?_
            exact hk4 _ _ v2 (v3 + 1) _ _ _ _ _ S (lv_sub hl [1, 2, 3, 0] rfl) hf hd
          · rw [if_neg c_188] at hf
            exact w_L_isSame_191 C FX hXA hN ha0 _ _ _ _ _ _ _ S (lv_sub hl [] rfl) hf hd
set_option maxHeartbeats 4000000 in
set_option maxRecDepth 100000 in
theorem w_L_isSame_107 {p : Program} {l : Launch} {e : Env} {s : State} {m : MethodId} {args : Array Value} {below : List Frame} {meth : Method} {c : Code} {G : Gx} {ad : Ad} {N : Nn} {adX : Ad} {a0 : Nat} {A : Nat → Prop} {res : Int32 × Sg × Sg} {n : Nat} (C : Cx p s m args meth c yL_isSame.cls cL_isSame 8 (Option.some FieldType.boolean) G) (FX : F_X G adX) (hXA : ∀ q, z_X adX q → A q) (hN : N.2.2 = (0, 0)) (ha0 : ad 40 0 = a0) (k4 : Sg → Sg → Int32 → Int32 → Option (Int32 × Sg × Sg × Nat)) (hk4 : ∀ (σ τ : Sg) (v2 : Int32) (v3 : Int32) (H : Heap) (locs : List Loc) (ls : Array Slot) (cells d : Nat), q_S G ad N (x_c G adX σ) τ [] A s.heap H locs → lv_has ls 8 [(0, .ref (ad 40 0)), (1, .ref (adX 7 0)), (2, .int v2), (3, .int v3)] → k4 σ τ v2 v3 = some (res.1, res.2.1, res.2.2, d) → cells + d = n → W p l e { frames := 5, cells := n, slots := 6 * n, locals := 104 } s m args below meth c H locs cells (6 * cells) (MQ below (k_Q (some (.int res.1)) (r_V G a0 adX res.2.1 res.2.2 A) A) args s n (6 * n) A) (F0 m 4 ls [])) : ∀ (σ τ : Sg) (v2 : Int32) (v3 : Int32) (o4 : Nat) (v100 : Int32) (v101 : Int32) (H : Heap) (locs : List Loc) (ls : Array Slot) (cells d : Nat), q_S G ad N (x_c G adX σ) τ [] A s.heap H locs → lv_has ls 8 [(0, .ref (ad 40 0)), (1, .ref (adX 7 0)), (2, .int v2), (3, .int v3), (4, .ref (ad 41 o4))] → (o4 < N.1) → f_L_isSame_107 k4 σ τ v2 v3 o4 v100 v101 = some (res.1, res.2.1, res.2.2, d) → cells + d = n → W p l e { frames := 5, cells := n, slots := 6 * n, locals := 104 } s m args below meth c H locs cells (6 * cells) (MQ below (k_Q (some (.int res.1)) (r_V G a0 adX res.2.1 res.2.2 A) A) args s n (6 * n) A) (F0 m 107 ls [.int v101, .int v100]) := by
  intro σ τ v2 v3 o4 v100 v101 H locs ls cells d S hl ho4 hf hd
  unfold f_L_isSame_107 at hf
  refine lv_icmp_ne (tgt := 191) C.1 C.2.1 dL_isSame_107 (by decide) (fun c_107 => ?_) (fun c_107 => ?_)
  · rw [if_neg c_107] at hf
    exact w_L_isSame_191 C FX hXA hN ha0 _ _ _ _ _ _ _ S (lv_sub hl [] rfl) hf hd
  · rw [if_pos c_107] at hf
    refine lv_aload_n C.1 C.2.1 dL_isSame_110 rfl (lv_at hl 1 rfl) ?_
    refine lv_iload_n C.1 C.2.1 dL_isSame_111 rfl (lv_at hl 3 rfl) ?_
    refine lv_bipush (v := 6) C.1 C.2.1 dL_isSame_112 (by decide) ?_
    obtain ⟨r1, σ2, q_114, hf⟩ := bib hf
    refine q_callXI C FX hXA S rfl [.int v3, .int 6] (m_X7_car l G adX σ v3 6 r1 σ2 q_114 _) kv_X7_car tw_5_215 ⟨(Nat.le_of_ble_eq_true rfl), (Nat.le_of_ble_eq_true rfl)⟩ rfl rfl (Nat.le_of_ble_eq_true rfl) hl.1 ⟨(show _ ≤ n from by omega), (show _ ≤ 6 * n from by omega)⟩ dL_isSame_114 (fun H locs S => ?_)
    refine lv_aload C.1 C.2.1 dL_isSame_117 (lv_at hl 4 rfl) ?_
    refine q_getIN C S 41 o4 rfl ho4 cf_9 7 (by decide) (qi_41_7 G τ o4) (List.mem_of_getElem? (i := 18) rfl) dL_isSame_119 ?_
    refine lv_if_eq (tgt := 129) C.1 C.2.1 dL_isSame_122 (by decide) (fun c_122 => ?_) (fun c_122 => ?_)
    · rw [if_pos c_122] at hf
      refine lv_iconst (v := 0) C.1 C.2.1 dL_isSame_129 (by decide) ?_
      exact w_L_isSame_130 C FX hXA hN ha0 k4 hk4 _ _ v2 v3 o4 r1 0 _ _ _ _ _ S (lv_sub hl [0, 1, 2, 3, 4] rfl) ho4 hf hd
    · rw [if_neg c_122] at hf
      refine lv_iconst (v := 1) C.1 C.2.1 dL_isSame_125 (by decide) ?_
      refine lv_goto (tgt := 130) C.1 C.2.1 dL_isSame_126 (by decide) ?_
      exact w_L_isSame_130 C FX hXA hN ha0 k4 hk4 _ _ v2 v3 o4 r1 1 _ _ _ _ _ S (lv_sub hl [0, 1, 2, 3, 4] rfl) ho4 hf hd
set_option maxHeartbeats 4000000 in
set_option maxRecDepth 100000 in
theorem w_L_isSame_4 {p : Program} {l : Launch} {e : Env} {s : State} {m : MethodId} {args : Array Value} {below : List Frame} {meth : Method} {c : Code} {G : Gx} {ad : Ad} {N : Nn} {adX : Ad} {a0 : Nat} {A : Nat → Prop} {res : Int32 × Sg × Sg} {n : Nat} (C : Cx p s m args meth c yL_isSame.cls cL_isSame 8 (Option.some FieldType.boolean) G) (FX : F_X G adX) (hXA : ∀ q, z_X adX q → A q) (hN : N.2.2 = (0, 0)) (ha0 : ad 40 0 = a0) : ∀ n9 : Nat, ∀ (σ τ : Sg) (v2 : Int32) (v3 : Int32) (H : Heap) (locs : List Loc) (ls : Array Slot) (cells d : Nat), q_S G ad N (x_c G adX σ) τ [] A s.heap H locs → lv_has ls 8 [(0, .ref (ad 40 0)), (1, .ref (adX 7 0)), (2, .int v2), (3, .int v3)] → f_L_isSame_4 n9 σ τ v2 v3 = some (res.1, res.2.1, res.2.2, d) → cells + d = n → W p l e { frames := 5, cells := n, slots := 6 * n, locals := 104 } s m args below meth c H locs cells (6 * cells) (MQ below (k_Q (some (.int res.1)) (r_V G a0 adX res.2.1 res.2.2 A) A) args s n (6 * n) A) (F0 m 4 ls []) := by
  intro n9
  induction n9 with
  | zero => intro σ τ v2 v3 H locs ls cells d S hl hf hd; cases hf
  | succ n9 ih =>
    intro σ τ v2 v3 H locs ls cells d S hl hf hd
    rw [f_L_isSame_4_s] at hf
    refine lv_iload_n C.1 C.2.1 dL_isSame_4 rfl (lv_at hl 3 rfl) ?_
    refine lv_aload_n C.1 C.2.1 dL_isSame_5 rfl (lv_at hl 0 rfl) ?_
    refine q_getR C S 40 0 50 0 rfl rfl rfl cf_11 0 (by decide) (qr_40_0 G τ 0) tw_4_96 dL_isSame_6 ?_
    refine q_size C S 0 (Or.inl (by decide)) (by decide) tw_5_190 ⟨(Nat.le_of_ble_eq_true rfl), (Nat.le_of_ble_eq_true rfl)⟩ (Nat.le_of_ble_eq_true rfl) hl.1 ⟨(show _ ≤ n from by omega), (show _ ≤ 6 * n from by omega)⟩ dL_isSame_9 (fun H locs S => ?_)
    refine lv_icmp_ge (tgt := 199) C.1 C.2.1 dL_isSame_14 (by decide) (fun c_14 => ?_) (fun c_14 => ?_)
    · rw [if_pos c_14] at hf
      exact w_L_isSame_199 C FX hXA hN ha0 _ _ v2 _ _ _ _ _ S (lv_sub hl [0, 1, 2] rfl) hf hd
    · rw [if_neg c_14] at hf
      refine lv_aload_n C.1 C.2.1 dL_isSame_17 rfl (lv_at hl 0 rfl) ?_
      refine q_getR C S 40 0 50 0 rfl rfl rfl cf_11 0 (by decide) (qr_40_0 G τ 0) tw_4_96 dL_isSame_18 ?_
      refine lv_iload_n C.1 C.2.1 dL_isSame_21 rfl (lv_at hl 3 rfl) ?_
      obtain ⟨g_22, hf⟩ := gd hf
      have ob_22 := q_ltN S (Or.inl (by decide)) (q_glt g_22)
      refine q_get C S 0 (Or.inl (by decide)) (by decide) g_22 tw_5_199 ⟨(Nat.le_of_ble_eq_true rfl), (Nat.le_of_ble_eq_true rfl)⟩ (Nat.le_of_ble_eq_true rfl) hl.1 ⟨(show _ ≤ n from by omega), (show _ ≤ 6 * n from by omega)⟩ dL_isSame_22 (fun H locs S => ?_)
      refine q_cast C S 41 ((v3).toNatClampNeg) rfl ob_22 "BusLiftsLaw$Car" (fun _ => Or.inl ⟨_, _, _, _, rfl, rfl⟩) tw_3_162 dL_isSame_27 ?_
      refine lv_astore (lv' := [(4, .ref (ad 41 ((v3).toNatClampNeg))), (0, .ref (ad 40 0)), (1, .ref (adX 7 0)), (2, .int v2), (3, .int v3)]) C.1 C.2.1 dL_isSame_30 hl (by decide) rfl (fun ls hl => ?_)
      refine lv_aload_n C.1 C.2.1 dL_isSame_32 rfl (lv_at hl 2 rfl) ?_
      refine lv_iload_n C.1 C.2.1 dL_isSame_33 rfl (lv_at hl 4 rfl) ?_
      refine lv_iconst (v := 0) C.1 C.2.1 dL_isSame_34 (by decide) ?_
      obtain ⟨r1, σ2, q_35, hf⟩ := bib hf
      refine q_callXI C FX hXA S rfl [.int v3, .int 0] (m_X7_car l G adX σ v3 0 r1 σ2 q_35 _) kv_X7_car tw_5_215 ⟨(Nat.le_of_ble_eq_true rfl), (Nat.le_of_ble_eq_true rfl)⟩ rfl rfl (Nat.le_of_ble_eq_true rfl) hl.1 ⟨(show _ ≤ n from by omega), (show _ ≤ 6 * n from by omega)⟩ dL_isSame_35 (fun H locs S => ?_)
      refine lv_aload C.1 C.2.1 dL_isSame_38 (lv_at hl 0 rfl) ?_
      refine q_getIN C S 41 ((v3).toNatClampNeg) rfl ob_22 cf_9 0 (by decide) (qi_41_0 G τ ((v3).toNatClampNeg)) (List.mem_of_getElem? (i := 11) rfl) dL_isSame_40 ?_
      refine lv_icmp_ne (tgt := 191) C.1 C.2.1 dL_isSame_43 (by decide) (fun c_43 => ?_) (fun c_43 => ?_)
      · rw [if_neg c_43] at hf
        exact w_L_isSame_191 C FX hXA hN ha0 _ _ _ _ _ _ _ S (lv_sub hl [] rfl) hf hd
      · rw [if_pos c_43] at hf
        refine lv_aload_n C.1 C.2.1 dL_isSame_46 rfl (lv_at hl 2 rfl) ?_
        refine lv_iload_n C.1 C.2.1 dL_isSame_47 rfl (lv_at hl 4 rfl) ?_
        refine lv_iconst (v := 2) C.1 C.2.1 dL_isSame_48 (by decide) ?_
        obtain ⟨r3, σ4, q_49, hf⟩ := bib hf
        refine q_callXI C FX hXA S rfl [.int v3, .int 2] (m_X7_car l G adX σ2 v3 2 r3 σ4 q_49 _) kv_X7_car tw_5_215 ⟨(Nat.le_of_ble_eq_true rfl), (Nat.le_of_ble_eq_true rfl)⟩ rfl rfl (Nat.le_of_ble_eq_true rfl) hl.1 ⟨(show _ ≤ n from by omega), (show _ ≤ 6 * n from by omega)⟩ dL_isSame_49 (fun H locs S => ?_)
        refine lv_aload C.1 C.2.1 dL_isSame_52 (lv_at hl 0 rfl) ?_
        refine q_getIN C S 41 ((v3).toNatClampNeg) rfl ob_22 cf_9 2 (by decide) (qi_41_2 G τ ((v3).toNatClampNeg)) (List.mem_of_getElem? (i := 13) rfl) dL_isSame_54 ?_
        refine lv_icmp_ne (tgt := 191) C.1 C.2.1 dL_isSame_57 (by decide) (fun c_57 => ?_) (fun c_57 => ?_)
        · rw [if_neg c_57] at hf
          exact w_L_isSame_191 C FX hXA hN ha0 _ _ _ _ _ _ _ S (lv_sub hl [] rfl) hf hd
        · rw [if_pos c_57] at hf
          refine lv_aload_n C.1 C.2.1 dL_isSame_60 rfl (lv_at hl 2 rfl) ?_
          refine lv_iload_n C.1 C.2.1 dL_isSame_61 rfl (lv_at hl 4 rfl) ?_
          refine lv_iconst (v := 3) C.1 C.2.1 dL_isSame_62 (by decide) ?_
          obtain ⟨r5, σ6, q_63, hf⟩ := bib hf
          refine q_callXI C FX hXA S rfl [.int v3, .int 3] (m_X7_car l G adX σ4 v3 3 r5 σ6 q_63 _) kv_X7_car tw_5_215 ⟨(Nat.le_of_ble_eq_true rfl), (Nat.le_of_ble_eq_true rfl)⟩ rfl rfl (Nat.le_of_ble_eq_true rfl) hl.1 ⟨(show _ ≤ n from by omega), (show _ ≤ 6 * n from by omega)⟩ dL_isSame_63 (fun H locs S => ?_)
          refine lv_aload_n C.1 C.2.1 dL_isSame_66 rfl (lv_at hl 1 rfl) ?_
          refine lv_iload_n C.1 C.2.1 dL_isSame_67 rfl (lv_at hl 4 rfl) ?_
          obtain ⟨r7, τ8, c_68, d_68, q_68, hf, e_68⟩ := bqxb hf
          refine q_callV (τ' := τ8) (v := (some (.int r7))) C S [.int v3] rfl (fun ad' he => by have h := m_L_held l G ad' N τ v3 (r7, τ8) c_68 q_68 H.size; rw [he 40 0 rfl] at h; exact h) kv_L_held tw_6_75 ⟨(Nat.le_of_ble_eq_true rfl), (Nat.le_of_ble_eq_true rfl)⟩ rfl rfl (Nat.le_of_ble_eq_true rfl) hl.1 ⟨(show _ ≤ n from by omega), (show _ ≤ 6 * n from by omega)⟩ dL_isSame_68 (fun H locs S => ?_)
          replace hd := q_hd2 hd e_68
          refine lv_icmp_ne (tgt := 191) C.1 C.2.1 dL_isSame_71 (by decide) (fun c_71 => ?_) (fun c_71 => ?_)
          · rw [if_neg c_71] at hf
            exact w_L_isSame_191 C FX hXA hN ha0 _ _ _ _ _ _ _ S (lv_sub hl [] rfl) hf hd
          · rw [if_pos c_71] at hf
            refine lv_aload_n C.1 C.2.1 dL_isSame_74 rfl (lv_at hl 2 rfl) ?_
            refine lv_iload_n C.1 C.2.1 dL_isSame_75 rfl (lv_at hl 4 rfl) ?_
            refine lv_iconst (v := 4) C.1 C.2.1 dL_isSame_76 (by decide) ?_
            obtain ⟨r9, σ10, q_77, hf⟩ := bib hf
            refine q_callXI C FX hXA S rfl [.int v3, .int 4] (m_X7_car l G adX σ6 v3 4 r9 σ10 q_77 _) kv_X7_car tw_5_215 ⟨(Nat.le_of_ble_eq_true rfl), (Nat.le_of_ble_eq_true rfl)⟩ rfl rfl (Nat.le_of_ble_eq_true rfl) hl.1 ⟨(show _ ≤ n from by omega), (show _ ≤ 6 * n from by omega)⟩ dL_isSame_77 (fun H locs S => ?_)
            refine lv_aload_n C.1 C.2.1 dL_isSame_80 rfl (lv_at hl 1 rfl) ?_
            refine lv_iload_n C.1 C.2.1 dL_isSame_81 rfl (lv_at hl 4 rfl) ?_
            obtain ⟨r11, τ12, c_82, d_82, q_82, hf, e_82⟩ := bqxb hf
            refine q_callV (τ' := τ12) (v := (some (.int r11))) C S [.int v3] rfl (fun ad' he => by have h := m_L_aboard l G ad' N τ8 v3 (r11, τ12) c_82 q_82 H.size; rw [he 40 0 rfl] at h; exact h) kv_L_aboard tw_6_79 ⟨(Nat.le_of_ble_eq_true rfl), (Nat.le_of_ble_eq_true rfl)⟩ rfl rfl (Nat.le_of_ble_eq_true rfl) hl.1 ⟨(show _ ≤ n from by omega), (show _ ≤ 6 * n from by omega)⟩ dL_isSame_82 (fun H locs S => ?_)
            replace hd := q_hd2 hd e_82
            refine lv_icmp_ne (tgt := 191) C.1 C.2.1 dL_isSame_85 (by decide) (fun c_85 => ?_) (fun c_85 => ?_)
            · rw [if_neg c_85] at hf
              exact w_L_isSame_191 C FX hXA hN ha0 _ _ _ _ _ _ _ S (lv_sub hl [] rfl) hf hd
            · rw [if_pos c_85] at hf
              refine lv_aload_n C.1 C.2.1 dL_isSame_88 rfl (lv_at hl 2 rfl) ?_
              refine lv_iload_n C.1 C.2.1 dL_isSame_89 rfl (lv_at hl 4 rfl) ?_
              refine lv_iconst (v := 5) C.1 C.2.1 dL_isSame_90 (by decide) ?_
              obtain ⟨r13, σ14, q_91, hf⟩ := bib hf
              refine q_callXI C FX hXA S rfl [.int v3, .int 5] (m_X7_car l G adX σ10 v3 5 r13 σ14 q_91 _) kv_X7_car tw_5_215 ⟨(Nat.le_of_ble_eq_true rfl), (Nat.le_of_ble_eq_true rfl)⟩ rfl rfl (Nat.le_of_ble_eq_true rfl) hl.1 ⟨(show _ ≤ n from by omega), (show _ ≤ 6 * n from by omega)⟩ dL_isSame_91 (fun H locs S => ?_)
              refine lv_aload C.1 C.2.1 dL_isSame_94 (lv_at hl 0 rfl) ?_
              refine q_getIN C S 41 ((v3).toNatClampNeg) rfl ob_22 cf_9 6 (by decide) (qi_41_6 G τ12 ((v3).toNatClampNeg)) (List.mem_of_getElem? (i := 17) rfl) dL_isSame_96 ?_
              refine lv_if_eq (tgt := 106) C.1 C.2.1 dL_isSame_99 (by decide) (fun c_99 => ?_) (fun c_99 => ?_)
              · rw [if_pos c_99] at hf
                refine lv_iconst (v := 0) C.1 C.2.1 dL_isSame_106 (by decide) ?_
                exact w_L_isSame_107 C FX hXA hN ha0 (f_L_isSame_4 n9) ih _ _ v2 v3 ((v3).toNatClampNeg) r13 0 _ _ _ _ _ S (lv_sub hl [1, 2, 3, 4, 0] rfl) ob_22 hf hd
              · rw [if_neg c_99] at hf
                refine lv_iconst (v := 1) C.1 C.2.1 dL_isSame_102 (by decide) ?_
                refine lv_goto (tgt := 107) C.1 C.2.1 dL_isSame_103 (by decide) ?_
                exact w_L_isSame_107 C FX hXA hN ha0 (f_L_isSame_4 n9) ih _ _ v2 v3 ((v3).toNatClampNeg) r13 1 _ _ _ _ _ S (lv_sub hl [1, 2, 3, 4, 0] rfl) ob_22 hf hd
set_option maxHeartbeats 4000000 in
set_option maxRecDepth 100000 in
theorem w_L_isSame_0 {p : Program} {l : Launch} {e : Env} {s : State} {m : MethodId} {args : Array Value} {below : List Frame} {meth : Method} {c : Code} {G : Gx} {ad : Ad} {N : Nn} {adX : Ad} {a0 : Nat} {A : Nat → Prop} {res : Int32 × Sg × Sg} {n : Nat} (C : Cx p s m args meth c yL_isSame.cls cL_isSame 8 (Option.some FieldType.boolean) G) (FX : F_X G adX) (hXA : ∀ q, z_X adX q → A q) (hN : N.2.2 = (0, 0)) (ha0 : ad 40 0 = a0) : ∀ (σ τ : Sg) (H : Heap) (locs : List Loc) (ls : Array Slot) (cells d : Nat), q_S G ad N (x_c G adX σ) τ [] A s.heap H locs → lv_has ls 8 [(0, .ref (ad 40 0)), (1, .ref (adX 7 0))] → f_L_isSame σ τ = some (res.1, res.2.1, res.2.2, d) → cells + d = n → W p l e { frames := 5, cells := n, slots := 6 * n, locals := 104 } s m args below meth c H locs cells (6 * cells) (MQ below (k_Q (some (.int res.1)) (r_V G a0 adX res.2.1 res.2.2 A) A) args s n (6 * n) A) (F0 m 0 ls []) := by
  intro σ τ H locs ls cells d S hl hf hd
  unfold f_L_isSame at hf
  refine lv_iconst (v := 0) C.1 C.2.1 dL_isSame_0 (by decide) ?_
  refine lv_istore_n (lv' := [(2, .int 0), (0, .ref (ad 40 0)), (1, .ref (adX 7 0))]) C.1 C.2.1 dL_isSame_1 rfl hl (by decide) rfl (fun ls hl => ?_)
  refine lv_iconst (v := 0) C.1 C.2.1 dL_isSame_2 (by decide) ?_
  refine lv_istore_n (lv' := [(3, .int 0), (2, .int 0), (0, .ref (ad 40 0)), (1, .ref (adX 7 0))]) C.1 C.2.1 dL_isSame_3 rfl hl (by decide) rfl (fun ls hl => ?_)
  exact w_L_isSame_4 C FX hXA hN ha0 FU _ _ 0 0 _ _ _ _ _ S (lv_sub hl [2, 3, 1, 0] rfl) hf hd
theorem kv_L_isSame : KV yL_isSame cL_isSame 8 (Option.some FieldType.boolean) 1 := ⟨tw_5_188, tw_5_187, tw_p_18, tw_1_0, by decide, by decide, by decide +kernel⟩
theorem m_L_isSame (l : Launch) (G : Gx) (ad : Ad) (N : Nn) (adX : Ad) (FX : F_X G adX) (hN : N.2.2 = (0, 0)) (σ τ : Sg) (res : Int32 × Sg × Sg) (n : Nat) (hf : f_L_isSame σ τ = some (res.1, res.2.1, res.2.2, n)) (sz : Nat) : b_M l yL_isSame cL_isSame 8 (Option.some FieldType.boolean) 5 104 n G ad N adX σ τ sz [.ref (ad 40 0), .ref (adX 7 0)] (some (.int res.1)) res.2.1 res.2.2 := by
  refine b_begin (by decide +kernel) (Nat.le_of_ble_eq_true rfl) [(0, .ref (ad 40 0)), (1, .ref (adX 7 0))] rfl (fun p e s m args below meth c ls A hXA C hz S hl => ?_)
  subst hz
  exact w_L_isSame_0 C FX hXA hN rfl _ _ _ _ _ _ _ S hl hf (Nat.zero_add _)

theorem dL_act__0 : decode cL_act_ 0 = .ok (.iload_n 2, 1) := by decide +kernel
theorem dL_act__1 : decode cL_act_ 1 = .ok (.iconst 4, 1) := by decide +kernel
theorem dL_act__2 : decode cL_act_ 2 = .ok (.iconst 2, 1) := by decide +kernel
theorem dL_act__3 : decode cL_act_ 3 = .ok (.invokestatic 60, 3) := by decide +kernel
theorem dL_act__6 : decode cL_act_ 6 = .ok (.aload_n 0, 1) := by decide +kernel
theorem dL_act__7 : decode cL_act_ 7 = .ok (.getfield 30, 3) := by decide +kernel
theorem dL_act__10 : decode cL_act_ 10 = .ok (.invokeinterface 227 1, 5) := by decide +kernel
theorem dL_act__15 : decode cL_act_ 15 = .ok (.irem, 1) := by decide +kernel
theorem dL_act__16 : decode cL_act_ 16 = .ok (.istore_n 3, 1) := by decide +kernel
theorem dL_act__17 : decode cL_act_ 17 = .ok (.iload_n 2, 1) := by decide +kernel
theorem dL_act__18 : decode cL_act_ 18 = .ok (.iconst 0, 1) := by decide +kernel
theorem dL_act__19 : decode cL_act_ 19 = .ok (.iconst 4, 1) := by decide +kernel
theorem dL_act__20 : decode cL_act_ 20 = .ok (.invokestatic 60, 3) := by decide +kernel
theorem dL_act__23 : decode cL_act_ 23 = .ok (.tableswitch 507 0 5 #[37, 190, 277, 315, 398, 398], 37) := by decide +kernel
theorem dL_act__60 : decode cL_act_ 60 = .ok (.aload_n 0, 1) := by decide +kernel
theorem dL_act__61 : decode cL_act_ 61 = .ok (.getfield 30, 3) := by decide +kernel
theorem dL_act__64 : decode cL_act_ 64 = .ok (.iload_n 3, 1) := by decide +kernel
theorem dL_act__65 : decode cL_act_ 65 = .ok (.invokeinterface 179 2, 5) := by decide +kernel
theorem dL_act__70 : decode cL_act_ 70 = .ok (.checkcast 82, 3) := by decide +kernel
theorem dL_act__73 : decode cL_act_ 73 = .ok (.getfield 199, 3) := by decide +kernel
theorem dL_act__76 : decode cL_act_ 76 = .ok (.istore 4, 2) := by decide +kernel
theorem dL_act__78 : decode cL_act_ 78 = .ok (.aload_n 0, 1) := by decide +kernel
theorem dL_act__79 : decode cL_act_ 79 = .ok (.getfield 30, 3) := by decide +kernel
theorem dL_act__82 : decode cL_act_ 82 = .ok (.iload_n 3, 1) := by decide +kernel
theorem dL_act__83 : decode cL_act_ 83 = .ok (.invokeinterface 179 2, 5) := by decide +kernel
theorem dL_act__88 : decode cL_act_ 88 = .ok (.checkcast 82, 3) := by decide +kernel
theorem dL_act__91 : decode cL_act_ 91 = .ok (.iload 4, 2) := by decide +kernel
theorem dL_act__93 : decode cL_act_ 93 = .ok (.ifCond .ne 18, 3) := by decide +kernel
theorem dL_act__96 : decode cL_act_ 96 = .ok (.iload_n 2, 1) := by decide +kernel
theorem dL_act__97 : decode cL_act_ 97 = .ok (.bipush 6, 2) := by decide +kernel
theorem dL_act__99 : decode cL_act_ 99 = .ok (.iconst 1, 1) := by decide +kernel
theorem dL_act__100 : decode cL_act_ 100 = .ok (.invokestatic 60, 3) := by decide +kernel
theorem dL_act__103 : decode cL_act_ 103 = .ok (.iconst 1, 1) := by decide +kernel
theorem dL_act__104 : decode cL_act_ 104 = .ok (.if_icmp .ne 7, 3) := by decide +kernel
theorem dL_act__107 : decode cL_act_ 107 = .ok (.iconst 1, 1) := by decide +kernel
theorem dL_act__108 : decode cL_act_ 108 = .ok (.goto 4, 3) := by decide +kernel
theorem dL_act__111 : decode cL_act_ 111 = .ok (.iconst 0, 1) := by decide +kernel
theorem dL_act__112 : decode cL_act_ 112 = .ok (.putfield 199, 3) := by decide +kernel
theorem dL_act__115 : decode cL_act_ 115 = .ok (.aload_n 0, 1) := by decide +kernel
theorem dL_act__116 : decode cL_act_ 116 = .ok (.getfield 30, 3) := by decide +kernel
theorem dL_act__119 : decode cL_act_ 119 = .ok (.iload_n 3, 1) := by decide +kernel
theorem dL_act__120 : decode cL_act_ 120 = .ok (.invokeinterface 179 2, 5) := by decide +kernel
theorem dL_act__125 : decode cL_act_ 125 = .ok (.checkcast 82, 3) := by decide +kernel
theorem dL_act__128 : decode cL_act_ 128 = .ok (.getfield 199, 3) := by decide +kernel
theorem dL_act__131 : decode cL_act_ 131 = .ok (.ifCond .eq 50, 3) := by decide +kernel
theorem dL_act__134 : decode cL_act_ 134 = .ok (.aload_n 0, 1) := by decide +kernel
theorem dL_act__135 : decode cL_act_ 135 = .ok (.getfield 36, 3) := by decide +kernel
theorem dL_act__138 : decode cL_act_ 138 = .ok (.invokeinterface 133 1, 5) := by decide +kernel
theorem dL_act__143 : decode cL_act_ 143 = .ok (.astore 5, 2) := by decide +kernel
theorem dL_act__145 : decode cL_act_ 145 = .ok (.aload 5, 2) := by decide +kernel
theorem dL_act__147 : decode cL_act_ 147 = .ok (.invokeinterface 137 1, 5) := by decide +kernel
theorem dL_act__152 : decode cL_act_ 152 = .ok (.ifCond .eq 29, 3) := by decide +kernel
theorem dL_act__155 : decode cL_act_ 155 = .ok (.aload 5, 2) := by decide +kernel
theorem dL_act__157 : decode cL_act_ 157 = .ok (.invokeinterface 143 1, 5) := by decide +kernel
theorem dL_act__162 : decode cL_act_ 162 = .ok (.checkcast 97, 3) := by decide +kernel
theorem dL_act__165 : decode cL_act_ 165 = .ok (.astore 6, 2) := by decide +kernel
theorem dL_act__167 : decode cL_act_ 167 = .ok (.aload 6, 2) := by decide +kernel
theorem dL_act__169 : decode cL_act_ 169 = .ok (.getfield 163, 3) := by decide +kernel
theorem dL_act__172 : decode cL_act_ 172 = .ok (.iload_n 3, 1) := by decide +kernel
theorem dL_act__173 : decode cL_act_ 173 = .ok (.aaload, 1) := by decide +kernel
theorem dL_act__174 : decode cL_act_ 174 = .ok (.iconst (-1), 1) := by decide +kernel
theorem dL_act__175 : decode cL_act_ 175 = .ok (.putfield 218, 3) := by decide +kernel
theorem dL_act__178 : decode cL_act_ 178 = .ok (.goto (-33), 3) := by decide +kernel
theorem dL_act__181 : decode cL_act_ 181 = .ok (.aload_n 1, 1) := by decide +kernel
theorem dL_act__182 : decode cL_act_ 182 = .ok (.iload_n 3, 1) := by decide +kernel
theorem dL_act__183 : decode cL_act_ 183 = .ok (.aload_n 0, 1) := by decide +kernel
theorem dL_act__184 : decode cL_act_ 184 = .ok (.getfield 30, 3) := by decide +kernel
theorem dL_act__187 : decode cL_act_ 187 = .ok (.iload_n 3, 1) := by decide +kernel
theorem dL_act__188 : decode cL_act_ 188 = .ok (.invokeinterface 179 2, 5) := by decide +kernel
theorem dL_act__193 : decode cL_act_ 193 = .ok (.checkcast 82, 3) := by decide +kernel
theorem dL_act__196 : decode cL_act_ 196 = .ok (.getfield 199, 3) := by decide +kernel
theorem dL_act__199 : decode cL_act_ 199 = .ok (.invokevirtual 319, 3) := by decide +kernel
theorem dL_act__202 : decode cL_act_ 202 = .ok (.iload 4, 2) := by decide +kernel
theorem dL_act__204 : decode cL_act_ 204 = .ok (.if_icmp .ne 7, 3) := by decide +kernel
theorem dL_act__207 : decode cL_act_ 207 = .ok (.iconst 1, 1) := by decide +kernel
theorem dL_act__208 : decode cL_act_ 208 = .ok (.goto 4, 3) := by decide +kernel
theorem dL_act__211 : decode cL_act_ 211 = .ok (.iconst 0, 1) := by decide +kernel
theorem dL_act__212 : decode cL_act_ 212 = .ok (.ireturn, 1) := by decide +kernel
theorem dL_act__213 : decode cL_act_ 213 = .ok (.aload_n 0, 1) := by decide +kernel
theorem dL_act__214 : decode cL_act_ 214 = .ok (.getfield 30, 3) := by decide +kernel
theorem dL_act__217 : decode cL_act_ 217 = .ok (.iload_n 3, 1) := by decide +kernel
theorem dL_act__218 : decode cL_act_ 218 = .ok (.invokeinterface 179 2, 5) := by decide +kernel
theorem dL_act__223 : decode cL_act_ 223 = .ok (.checkcast 82, 3) := by decide +kernel
theorem dL_act__226 : decode cL_act_ 226 = .ok (.getfield 196, 3) := by decide +kernel
theorem dL_act__229 : decode cL_act_ 229 = .ok (.istore 4, 2) := by decide +kernel
theorem dL_act__231 : decode cL_act_ 231 = .ok (.aload_n 0, 1) := by decide +kernel
theorem dL_act__232 : decode cL_act_ 232 = .ok (.getfield 30, 3) := by decide +kernel
theorem dL_act__235 : decode cL_act_ 235 = .ok (.iload_n 3, 1) := by decide +kernel
theorem dL_act__236 : decode cL_act_ 236 = .ok (.invokeinterface 179 2, 5) := by decide +kernel
theorem dL_act__241 : decode cL_act_ 241 = .ok (.checkcast 82, 3) := by decide +kernel
theorem dL_act__244 : decode cL_act_ 244 = .ok (.iload 4, 2) := by decide +kernel
theorem dL_act__246 : decode cL_act_ 246 = .ok (.ifCond .ne 18, 3) := by decide +kernel
theorem dL_act__249 : decode cL_act_ 249 = .ok (.iload_n 2, 1) := by decide +kernel
theorem dL_act__250 : decode cL_act_ 250 = .ok (.bipush 6, 2) := by decide +kernel
theorem dL_act__252 : decode cL_act_ 252 = .ok (.iconst 1, 1) := by decide +kernel
theorem dL_act__253 : decode cL_act_ 253 = .ok (.invokestatic 60, 3) := by decide +kernel
theorem dL_act__256 : decode cL_act_ 256 = .ok (.iconst 1, 1) := by decide +kernel
theorem dL_act__257 : decode cL_act_ 257 = .ok (.if_icmp .ne 7, 3) := by decide +kernel
theorem dL_act__260 : decode cL_act_ 260 = .ok (.iconst 1, 1) := by decide +kernel
theorem dL_act__261 : decode cL_act_ 261 = .ok (.goto 4, 3) := by decide +kernel
theorem dL_act__264 : decode cL_act_ 264 = .ok (.iconst 0, 1) := by decide +kernel
theorem dL_act__265 : decode cL_act_ 265 = .ok (.putfield 196, 3) := by decide +kernel
theorem dL_act__268 : decode cL_act_ 268 = .ok (.aload_n 1, 1) := by decide +kernel
theorem dL_act__269 : decode cL_act_ 269 = .ok (.iload_n 3, 1) := by decide +kernel
theorem dL_act__270 : decode cL_act_ 270 = .ok (.aload_n 0, 1) := by decide +kernel
theorem dL_act__271 : decode cL_act_ 271 = .ok (.getfield 30, 3) := by decide +kernel
theorem dL_act__274 : decode cL_act_ 274 = .ok (.iload_n 3, 1) := by decide +kernel
theorem dL_act__275 : decode cL_act_ 275 = .ok (.invokeinterface 179 2, 5) := by decide +kernel
theorem dL_act__280 : decode cL_act_ 280 = .ok (.checkcast 82, 3) := by decide +kernel
theorem dL_act__283 : decode cL_act_ 283 = .ok (.getfield 196, 3) := by decide +kernel
theorem dL_act__286 : decode cL_act_ 286 = .ok (.invokevirtual 323, 3) := by decide +kernel
theorem dL_act__289 : decode cL_act_ 289 = .ok (.iload 4, 2) := by decide +kernel
theorem dL_act__291 : decode cL_act_ 291 = .ok (.if_icmp .ne 7, 3) := by decide +kernel
theorem dL_act__294 : decode cL_act_ 294 = .ok (.iconst 1, 1) := by decide +kernel
theorem dL_act__295 : decode cL_act_ 295 = .ok (.goto 4, 3) := by decide +kernel
theorem dL_act__298 : decode cL_act_ 298 = .ok (.iconst 0, 1) := by decide +kernel
theorem dL_act__299 : decode cL_act_ 299 = .ok (.ireturn, 1) := by decide +kernel
theorem dL_act__300 : decode cL_act_ 300 = .ok (.aload_n 0, 1) := by decide +kernel
theorem dL_act__301 : decode cL_act_ 301 = .ok (.getfield 67, 3) := by decide +kernel
theorem dL_act__304 : decode cL_act_ 304 = .ok (.istore 4, 2) := by decide +kernel
theorem dL_act__306 : decode cL_act_ 306 = .ok (.aload_n 0, 1) := by decide +kernel
theorem dL_act__307 : decode cL_act_ 307 = .ok (.iload_n 2, 1) := by decide +kernel
theorem dL_act__308 : decode cL_act_ 308 = .ok (.bipush 6, 2) := by decide +kernel
theorem dL_act__310 : decode cL_act_ 310 = .ok (.bipush 6, 2) := by decide +kernel
theorem dL_act__312 : decode cL_act_ 312 = .ok (.invokestatic 60, 3) := by decide +kernel
theorem dL_act__315 : decode cL_act_ 315 = .ok (.putfield 67, 3) := by decide +kernel
theorem dL_act__318 : decode cL_act_ 318 = .ok (.aload_n 1, 1) := by decide +kernel
theorem dL_act__319 : decode cL_act_ 319 = .ok (.iconst 0, 1) := by decide +kernel
theorem dL_act__320 : decode cL_act_ 320 = .ok (.aload_n 0, 1) := by decide +kernel
theorem dL_act__321 : decode cL_act_ 321 = .ok (.getfield 67, 3) := by decide +kernel
theorem dL_act__324 : decode cL_act_ 324 = .ok (.invokevirtual 326, 3) := by decide +kernel
theorem dL_act__327 : decode cL_act_ 327 = .ok (.iload 4, 2) := by decide +kernel
theorem dL_act__329 : decode cL_act_ 329 = .ok (.if_icmp .ne 7, 3) := by decide +kernel
theorem dL_act__332 : decode cL_act_ 332 = .ok (.iconst 1, 1) := by decide +kernel
theorem dL_act__333 : decode cL_act_ 333 = .ok (.goto 4, 3) := by decide +kernel
theorem dL_act__336 : decode cL_act_ 336 = .ok (.iconst 0, 1) := by decide +kernel
theorem dL_act__337 : decode cL_act_ 337 = .ok (.ireturn, 1) := by decide +kernel
theorem dL_act__338 : decode cL_act_ 338 = .ok (.iload_n 2, 1) := by decide +kernel
theorem dL_act__339 : decode cL_act_ 339 = .ok (.bipush 6, 2) := by decide +kernel
theorem dL_act__341 : decode cL_act_ 341 = .ok (.iconst 5, 1) := by decide +kernel
theorem dL_act__342 : decode cL_act_ 342 = .ok (.invokestatic 60, 3) := by decide +kernel
theorem dL_act__345 : decode cL_act_ 345 = .ok (.aload_n 0, 1) := by decide +kernel
theorem dL_act__346 : decode cL_act_ 346 = .ok (.getfield 36, 3) := by decide +kernel
theorem dL_act__349 : decode cL_act_ 349 = .ok (.invokeinterface 227 1, 5) := by decide +kernel
theorem dL_act__354 : decode cL_act_ 354 = .ok (.irem, 1) := by decide +kernel
theorem dL_act__355 : decode cL_act_ 355 = .ok (.istore 4, 2) := by decide +kernel
theorem dL_act__357 : decode cL_act_ 357 = .ok (.aload_n 0, 1) := by decide +kernel
theorem dL_act__358 : decode cL_act_ 358 = .ok (.getfield 36, 3) := by decide +kernel
theorem dL_act__361 : decode cL_act_ 361 = .ok (.iload 4, 2) := by decide +kernel
theorem dL_act__363 : decode cL_act_ 363 = .ok (.invokeinterface 179 2, 5) := by decide +kernel
theorem dL_act__368 : decode cL_act_ 368 = .ok (.checkcast 97, 3) := by decide +kernel
theorem dL_act__371 : decode cL_act_ 371 = .ok (.getfield 163, 3) := by decide +kernel
theorem dL_act__374 : decode cL_act_ 374 = .ok (.iload_n 3, 1) := by decide +kernel
theorem dL_act__375 : decode cL_act_ 375 = .ok (.aaload, 1) := by decide +kernel
theorem dL_act__376 : decode cL_act_ 376 = .ok (.astore 5, 2) := by decide +kernel
theorem dL_act__378 : decode cL_act_ 378 = .ok (.aload 5, 2) := by decide +kernel
theorem dL_act__380 : decode cL_act_ 380 = .ok (.getfield 167, 3) := by decide +kernel
theorem dL_act__383 : decode cL_act_ 383 = .ok (.ifCond .ne 5, 3) := by decide +kernel
theorem dL_act__386 : decode cL_act_ 386 = .ok (.iconst 1, 1) := by decide +kernel
theorem dL_act__387 : decode cL_act_ 387 = .ok (.ireturn, 1) := by decide +kernel
theorem dL_act__388 : decode cL_act_ 388 = .ok (.aload 5, 2) := by decide +kernel
theorem dL_act__390 : decode cL_act_ 390 = .ok (.iconst 0, 1) := by decide +kernel
theorem dL_act__391 : decode cL_act_ 391 = .ok (.putfield 167, 3) := by decide +kernel
theorem dL_act__394 : decode cL_act_ 394 = .ok (.aload 5, 2) := by decide +kernel
theorem dL_act__396 : decode cL_act_ 396 = .ok (.iconst (-1), 1) := by decide +kernel
theorem dL_act__397 : decode cL_act_ 397 = .ok (.putfield 218, 3) := by decide +kernel
theorem dL_act__400 : decode cL_act_ 400 = .ok (.aload_n 1, 1) := by decide +kernel
theorem dL_act__401 : decode cL_act_ 401 = .ok (.iload_n 3, 1) := by decide +kernel
theorem dL_act__402 : decode cL_act_ 402 = .ok (.iload 4, 2) := by decide +kernel
theorem dL_act__404 : decode cL_act_ 404 = .ok (.invokevirtual 329, 3) := by decide +kernel
theorem dL_act__407 : decode cL_act_ 407 = .ok (.aload_n 0, 1) := by decide +kernel
theorem dL_act__408 : decode cL_act_ 408 = .ok (.iload_n 3, 1) := by decide +kernel
theorem dL_act__409 : decode cL_act_ 409 = .ok (.invokevirtual 189, 3) := by decide +kernel
theorem dL_act__412 : decode cL_act_ 412 = .ok (.if_icmp .ne 7, 3) := by decide +kernel
theorem dL_act__415 : decode cL_act_ 415 = .ok (.iconst 1, 1) := by decide +kernel
theorem dL_act__416 : decode cL_act_ 416 = .ok (.goto 4, 3) := by decide +kernel
theorem dL_act__419 : decode cL_act_ 419 = .ok (.iconst 0, 1) := by decide +kernel
theorem dL_act__420 : decode cL_act_ 420 = .ok (.ireturn, 1) := by decide +kernel
theorem dL_act__421 : decode cL_act_ 421 = .ok (.aload_n 0, 1) := by decide +kernel
theorem dL_act__422 : decode cL_act_ 422 = .ok (.getfield 36, 3) := by decide +kernel
theorem dL_act__425 : decode cL_act_ 425 = .ok (.invokeinterface 227 1, 5) := by decide +kernel
theorem dL_act__430 : decode cL_act_ 430 = .ok (.bipush 24, 2) := by decide +kernel
theorem dL_act__432 : decode cL_act_ 432 = .ok (.if_icmp .ne 5, 3) := by decide +kernel
theorem dL_act__435 : decode cL_act_ 435 = .ok (.iconst 1, 1) := by decide +kernel
theorem dL_act__436 : decode cL_act_ 436 = .ok (.ireturn, 1) := by decide +kernel
theorem dL_act__437 : decode cL_act_ 437 = .ok (.iload_n 2, 1) := by decide +kernel
theorem dL_act__438 : decode cL_act_ 438 = .ok (.bipush 6, 2) := by decide +kernel
theorem dL_act__440 : decode cL_act_ 440 = .ok (.iconst 4, 1) := by decide +kernel
theorem dL_act__441 : decode cL_act_ 441 = .ok (.invokestatic 60, 3) := by decide +kernel
theorem dL_act__444 : decode cL_act_ 444 = .ok (.aload_n 0, 1) := by decide +kernel
theorem dL_act__445 : decode cL_act_ 445 = .ok (.getfield 64, 3) := by decide +kernel
theorem dL_act__448 : decode cL_act_ 448 = .ok (.irem, 1) := by decide +kernel
theorem dL_act__449 : decode cL_act_ 449 = .ok (.istore 4, 2) := by decide +kernel
theorem dL_act__451 : decode cL_act_ 451 = .ok (.iload 4, 2) := by decide +kernel
theorem dL_act__453 : decode cL_act_ 453 = .ok (.iconst 1, 1) := by decide +kernel
theorem dL_act__454 : decode cL_act_ 454 = .ok (.iadd, 1) := by decide +kernel
theorem dL_act__455 : decode cL_act_ 455 = .ok (.iload_n 2, 1) := by decide +kernel
theorem dL_act__456 : decode cL_act_ 456 = .ok (.bipush 10, 2) := by decide +kernel
theorem dL_act__458 : decode cL_act_ 458 = .ok (.iconst 4, 1) := by decide +kernel
theorem dL_act__459 : decode cL_act_ 459 = .ok (.invokestatic 60, 3) := by decide +kernel
theorem dL_act__462 : decode cL_act_ 462 = .ok (.aload_n 0, 1) := by decide +kernel
theorem dL_act__463 : decode cL_act_ 463 = .ok (.getfield 64, 3) := by decide +kernel
theorem dL_act__466 : decode cL_act_ 466 = .ok (.iconst 1, 1) := by decide +kernel
theorem dL_act__467 : decode cL_act_ 467 = .ok (.isub, 1) := by decide +kernel
theorem dL_act__468 : decode cL_act_ 468 = .ok (.irem, 1) := by decide +kernel
theorem dL_act__469 : decode cL_act_ 469 = .ok (.iadd, 1) := by decide +kernel
theorem dL_act__470 : decode cL_act_ 470 = .ok (.aload_n 0, 1) := by decide +kernel
theorem dL_act__471 : decode cL_act_ 471 = .ok (.getfield 64, 3) := by decide +kernel
theorem dL_act__474 : decode cL_act_ 474 = .ok (.irem, 1) := by decide +kernel
theorem dL_act__475 : decode cL_act_ 475 = .ok (.istore 5, 2) := by decide +kernel
theorem dL_act__477 : decode cL_act_ 477 = .ok (.aload_n 0, 1) := by decide +kernel
theorem dL_act__478 : decode cL_act_ 478 = .ok (.getfield 36, 3) := by decide +kernel
theorem dL_act__481 : decode cL_act_ 481 = .ok (.new 97, 3) := by decide +kernel
theorem dL_act__484 : decode cL_act_ 484 = .ok (.dup, 1) := by decide +kernel
theorem dL_act__485 : decode cL_act_ 485 = .ok (.iload 4, 2) := by decide +kernel
theorem dL_act__487 : decode cL_act_ 487 = .ok (.iload 5, 2) := by decide +kernel
theorem dL_act__489 : decode cL_act_ 489 = .ok (.aload_n 0, 1) := by decide +kernel
theorem dL_act__490 : decode cL_act_ 490 = .ok (.getfield 215, 3) := by decide +kernel
theorem dL_act__493 : decode cL_act_ 493 = .ok (.invokespecial 99, 3) := by decide +kernel
theorem dL_act__496 : decode cL_act_ 496 = .ok (.invokeinterface 91 2, 5) := by decide +kernel
theorem dL_act__501 : decode cL_act_ 501 = .ok (.pop, 1) := by decide +kernel
theorem dL_act__502 : decode cL_act_ 502 = .ok (.aload_n 1, 1) := by decide +kernel
theorem dL_act__503 : decode cL_act_ 503 = .ok (.iload 4, 2) := by decide +kernel
theorem dL_act__505 : decode cL_act_ 505 = .ok (.iload 5, 2) := by decide +kernel
theorem dL_act__507 : decode cL_act_ 507 = .ok (.invokevirtual 332, 3) := by decide +kernel
theorem dL_act__510 : decode cL_act_ 510 = .ok (.aload_n 0, 1) := by decide +kernel
theorem dL_act__511 : decode cL_act_ 511 = .ok (.getfield 36, 3) := by decide +kernel
theorem dL_act__514 : decode cL_act_ 514 = .ok (.invokeinterface 227 1, 5) := by decide +kernel
theorem dL_act__519 : decode cL_act_ 519 = .ok (.iconst 1, 1) := by decide +kernel
theorem dL_act__520 : decode cL_act_ 520 = .ok (.isub, 1) := by decide +kernel
theorem dL_act__521 : decode cL_act_ 521 = .ok (.if_icmp .ne 7, 3) := by decide +kernel
theorem dL_act__524 : decode cL_act_ 524 = .ok (.iconst 1, 1) := by decide +kernel
theorem dL_act__525 : decode cL_act_ 525 = .ok (.goto 4, 3) := by decide +kernel
theorem dL_act__528 : decode cL_act_ 528 = .ok (.iconst 0, 1) := by decide +kernel
theorem dL_act__529 : decode cL_act_ 529 = .ok (.ireturn, 1) := by decide +kernel
theorem dL_act__530 : decode cL_act_ 530 = .ok (.iconst 1, 1) := by decide +kernel
theorem dL_act__531 : decode cL_act_ 531 = .ok (.iload_n 2, 1) := by decide +kernel
theorem dL_act__532 : decode cL_act_ 532 = .ok (.bipush 6, 2) := by decide +kernel
theorem dL_act__534 : decode cL_act_ 534 = .ok (.iconst 2, 1) := by decide +kernel
theorem dL_act__535 : decode cL_act_ 535 = .ok (.invokestatic 60, 3) := by decide +kernel
theorem dL_act__538 : decode cL_act_ 538 = .ok (.iadd, 1) := by decide +kernel
theorem dL_act__539 : decode cL_act_ 539 = .ok (.istore 4, 2) := by decide +kernel
theorem dL_act__541 : decode cL_act_ 541 = .ok (.aload_n 0, 1) := by decide +kernel
theorem dL_act__542 : decode cL_act_ 542 = .ok (.invokevirtual 316, 3) := by decide +kernel
theorem dL_act__545 : decode cL_act_ 545 = .ok (.istore 5, 2) := by decide +kernel
theorem dL_act__547 : decode cL_act_ 547 = .ok (.iconst 0, 1) := by decide +kernel
theorem dL_act__548 : decode cL_act_ 548 = .ok (.istore 6, 2) := by decide +kernel
theorem dL_act__550 : decode cL_act_ 550 = .ok (.iload 6, 2) := by decide +kernel
theorem dL_act__552 : decode cL_act_ 552 = .ok (.iload 4, 2) := by decide +kernel
theorem dL_act__554 : decode cL_act_ 554 = .ok (.if_icmp .ge 13, 3) := by decide +kernel
theorem dL_act__557 : decode cL_act_ 557 = .ok (.aload_n 0, 1) := by decide +kernel
theorem dL_act__558 : decode cL_act_ 558 = .ok (.invokevirtual 335, 3) := by decide +kernel
theorem dL_act__561 : decode cL_act_ 561 = .ok (.iinc 6 1, 3) := by decide +kernel
theorem dL_act__564 : decode cL_act_ 564 = .ok (.goto (-14), 3) := by decide +kernel
theorem dL_act__567 : decode cL_act_ 567 = .ok (.aload_n 1, 1) := by decide +kernel
theorem dL_act__568 : decode cL_act_ 568 = .ok (.iload 4, 2) := by decide +kernel
theorem dL_act__570 : decode cL_act_ 570 = .ok (.invokevirtual 338, 3) := by decide +kernel
theorem dL_act__573 : decode cL_act_ 573 = .ok (.aload_n 0, 1) := by decide +kernel
theorem dL_act__574 : decode cL_act_ 574 = .ok (.invokevirtual 316, 3) := by decide +kernel
theorem dL_act__577 : decode cL_act_ 577 = .ok (.iload 5, 2) := by decide +kernel
theorem dL_act__579 : decode cL_act_ 579 = .ok (.isub, 1) := by decide +kernel
theorem dL_act__580 : decode cL_act_ 580 = .ok (.if_icmp .ne 7, 3) := by decide +kernel
theorem dL_act__583 : decode cL_act_ 583 = .ok (.iconst 1, 1) := by decide +kernel
theorem dL_act__584 : decode cL_act_ 584 = .ok (.goto 4, 3) := by decide +kernel
theorem dL_act__587 : decode cL_act_ 587 = .ok (.iconst 0, 1) := by decide +kernel
theorem dL_act__588 : decode cL_act_ 588 = .ok (.ireturn, 1) := by decide +kernel
/-! BusLiftsLaw.act(LBusLifts;I)Z -/
noncomputable def f_L_act__212 (σ τ : Sg) (v100 : Int32) : Option (Int32 × Sg × Sg × Nat) := if ¬ (v100 = 0 ∨ v100 = 1) then none else (some (v100, σ, τ, 0))
noncomputable def f_L_act__181 (σ τ : Sg) (v3 : Int32) (v4 : Int32) : Option (Int32 × Sg × Sg × Nat) := if v3 < 0 ∨ q_nn τ 0 ≤ (v3).toNatClampNeg then none else (bi (f_X7_setStopped σ v3 (τ 41 ((v3).toNatClampNeg) 3)) fun r1 σ2 => (if r1 = v4 then (f_L_act__212 σ2 τ 1) else (f_L_act__212 σ2 τ 0)))
noncomputable def f_L_act__145 : Nat → Sg → Sg → Int32 → Int32 → Nat → Int32 → Option (Int32 × Sg × Sg × Nat)
  | 0, _, _, _, _, _, _ => none
  | n + 1, σ, τ, v3, v4, k5, m5 => if (it_z (nI k5) (τ 50 1 2)) = 0 then (f_L_act__181 σ τ v3 v4) else (if ¬ (k5 < q_nn τ 1 ∧ m5 = τ 50 1 0) then none else (if v3 < 0 ∨ 4 ≤ (v3).toNatClampNeg then none else (st (sup τ 43 (4 * k5 + (v3).toNatClampNeg) 2 (-1)) fun τ1 => (f_L_act__145 n σ τ1 v3 v4 (k5 + 1) m5))))
theorem f_L_act__145_s (n : Nat) (σ τ : Sg) (v3 : Int32) (v4 : Int32) (k5 : Nat) (m5 : Int32) : f_L_act__145 (n + 1) σ τ v3 v4 k5 m5 = (if (it_z (nI k5) (τ 50 1 2)) = 0 then (f_L_act__181 σ τ v3 v4) else (if ¬ (k5 < q_nn τ 1 ∧ m5 = τ 50 1 0) then none else (if v3 < 0 ∨ 4 ≤ (v3).toNatClampNeg then none else (st (sup τ 43 (4 * k5 + (v3).toNatClampNeg) 2 (-1)) fun τ1 => (f_L_act__145 n σ τ1 v3 v4 (k5 + 1) m5))))) := rfl
noncomputable def f_L_act__112 (σ τ : Sg) (v3 : Int32) (v4 : Int32) (o100 : Nat) (v101 : Int32) : Option (Int32 × Sg × Sg × Nat) := if ¬ (v101 = 0 ∨ v101 = 1) then none else (st (sup τ 41 o100 3 v101) fun τ1 => (if v3 < 0 ∨ q_nn τ1 0 ≤ (v3).toNatClampNeg then none else (if (τ1 41 ((v3).toNatClampNeg) 3) = 0 then (f_L_act__181 σ τ1 v3 v4) else (acx 1 (f_L_act__145 FU σ τ1 v3 v4 0 (τ1 50 1 0))))))
noncomputable def f_L_act__111 (σ τ : Sg) (v3 : Int32) (v4 : Int32) (o100 : Nat) : Option (Int32 × Sg × Sg × Nat) := f_L_act__112 σ τ v3 v4 o100 0
noncomputable def f_L_act__299 (σ τ : Sg) (v100 : Int32) : Option (Int32 × Sg × Sg × Nat) := if ¬ (v100 = 0 ∨ v100 = 1) then none else (some (v100, σ, τ, 0))
noncomputable def f_L_act__265 (σ τ : Sg) (v3 : Int32) (v4 : Int32) (o100 : Nat) (v101 : Int32) : Option (Int32 × Sg × Sg × Nat) := if ¬ (v101 = 0 ∨ v101 = 1) then none else (st (sup τ 41 o100 4 v101) fun τ1 => (if v3 < 0 ∨ q_nn τ1 0 ≤ (v3).toNatClampNeg then none else (bi (f_X7_setJammed σ v3 (τ1 41 ((v3).toNatClampNeg) 4)) fun r2 σ3 => (if r2 = v4 then (f_L_act__299 σ3 τ1 1) else (f_L_act__299 σ3 τ1 0)))))
noncomputable def f_L_act__264 (σ τ : Sg) (v3 : Int32) (v4 : Int32) (o100 : Nat) : Option (Int32 × Sg × Sg × Nat) := f_L_act__265 σ τ v3 v4 o100 0
noncomputable def f_L_act__337 (σ τ : Sg) (v100 : Int32) : Option (Int32 × Sg × Sg × Nat) := if ¬ (v100 = 0 ∨ v100 = 1) then none else (some (v100, σ, τ, 0))
noncomputable def f_L_act__420 (σ τ : Sg) (v100 : Int32) : Option (Int32 × Sg × Sg × Nat) := if ¬ (v100 = 0 ∨ v100 = 1) then none else (some (v100, σ, τ, 0))
noncomputable def f_L_act__529 (σ τ : Sg) (v100 : Int32) : Option (Int32 × Sg × Sg × Nat) := if ¬ (v100 = 0 ∨ v100 = 1) then none else (some (v100, σ, τ, 0))
noncomputable def f_L_act__421 (σ τ : Sg) (v2 : Int32) : Option (Int32 × Sg × Sg × Nat) := if (τ 50 1 2) = 24 then (some (1, σ, τ, 0)) else (if (τ 40 0 3) = 0 then none else (if ((τ 40 0 3) - 1) = 0 then none else (if (τ 40 0 3) = 0 then none else (if 60000 < q_cc τ 1 then none else (acx (10 + t_cst τ 1) (st (t_add (t_new τ (jrem (jbits v2 6 4) (τ 40 0 3)) (jrem (((jrem (jbits v2 6 4) (τ 40 0 3)) + 1) + (jrem (jbits v2 10 4) ((τ 40 0 3) - 1))) (τ 40 0 3)) (τ 40 0 7)) 1) fun τ1 => (bi (f_X7_makeCall σ (jrem (jbits v2 6 4) (τ 40 0 3)) (jrem (((jrem (jbits v2 6 4) (τ 40 0 3)) + 1) + (jrem (jbits v2 10 4) ((τ 40 0 3) - 1))) (τ 40 0 3))) fun r2 σ3 => (if r2 = ((τ1 50 1 2) - 1) then (f_L_act__529 σ3 τ1 1) else (f_L_act__529 σ3 τ1 0)))))))))
noncomputable def f_L_act__588 (σ τ : Sg) (v100 : Int32) : Option (Int32 × Sg × Sg × Nat) := if ¬ (v100 = 0 ∨ v100 = 1) then none else (some (v100, σ, τ, 0))
noncomputable def f_L_act__567 (σ τ : Sg) (v4 : Int32) (v5 : Int32) : Option (Int32 × Sg × Sg × Nat) := bi (f_X7_run σ v4) fun r1 σ2 => (bqx (f_L_done τ) fun r3 τ4 => (if r1 = (r3 - v5) then (f_L_act__588 σ2 τ4 1) else (f_L_act__588 σ2 τ4 0)))
noncomputable def f_L_act__550 : Nat → Sg → Sg → Int32 → Int32 → Int32 → Option (Int32 × Sg × Sg × Nat)
  | 0, _, _, _, _, _ => none
  | n + 1, σ, τ, v4, v5, v6 => if v4 ≤ v6 then (f_L_act__567 σ τ v4 v5) else (bqx (f_L_tick τ) fun r1 τ2 => (f_L_act__550 n σ τ2 v4 v5 (v6 + 1)))
theorem f_L_act__550_s (n : Nat) (σ τ : Sg) (v4 : Int32) (v5 : Int32) (v6 : Int32) : f_L_act__550 (n + 1) σ τ v4 v5 v6 = (if v4 ≤ v6 then (f_L_act__567 σ τ v4 v5) else (bqx (f_L_tick τ) fun r1 τ2 => (f_L_act__550 n σ τ2 v4 v5 (v6 + 1)))) := rfl
noncomputable def f_L_act_ (σ τ : Sg) (v2 : Int32) : Option (Int32 × Sg × Sg × Nat) := if (τ 50 0 2) = 0 then none else (if (jbits v2 0 4) = 0 then (if (jrem (jbits v2 4 2) (τ 50 0 2)) < 0 ∨ q_nn τ 0 ≤ ((jrem (jbits v2 4 2) (τ 50 0 2))).toNatClampNeg then none else (if (jrem (jbits v2 4 2) (τ 50 0 2)) < 0 ∨ q_nn τ 0 ≤ ((jrem (jbits v2 4 2) (τ 50 0 2))).toNatClampNeg then none else (if (τ 41 (((jrem (jbits v2 4 2) (τ 50 0 2))).toNatClampNeg) 3) = 0 then (if (jbits v2 6 1) = 1 then (f_L_act__112 σ τ (jrem (jbits v2 4 2) (τ 50 0 2)) (τ 41 (((jrem (jbits v2 4 2) (τ 50 0 2))).toNatClampNeg) 3) (((jrem (jbits v2 4 2) (τ 50 0 2))).toNatClampNeg) 1) else (f_L_act__111 σ τ (jrem (jbits v2 4 2) (τ 50 0 2)) (τ 41 (((jrem (jbits v2 4 2) (τ 50 0 2))).toNatClampNeg) 3) (((jrem (jbits v2 4 2) (τ 50 0 2))).toNatClampNeg))) else (f_L_act__111 σ τ (jrem (jbits v2 4 2) (τ 50 0 2)) (τ 41 (((jrem (jbits v2 4 2) (τ 50 0 2))).toNatClampNeg) 3) (((jrem (jbits v2 4 2) (τ 50 0 2))).toNatClampNeg))))) else (if (jbits v2 0 4) = 1 then (if (jrem (jbits v2 4 2) (τ 50 0 2)) < 0 ∨ q_nn τ 0 ≤ ((jrem (jbits v2 4 2) (τ 50 0 2))).toNatClampNeg then none else (if (jrem (jbits v2 4 2) (τ 50 0 2)) < 0 ∨ q_nn τ 0 ≤ ((jrem (jbits v2 4 2) (τ 50 0 2))).toNatClampNeg then none else (if (τ 41 (((jrem (jbits v2 4 2) (τ 50 0 2))).toNatClampNeg) 4) = 0 then (if (jbits v2 6 1) = 1 then (f_L_act__265 σ τ (jrem (jbits v2 4 2) (τ 50 0 2)) (τ 41 (((jrem (jbits v2 4 2) (τ 50 0 2))).toNatClampNeg) 4) (((jrem (jbits v2 4 2) (τ 50 0 2))).toNatClampNeg) 1) else (f_L_act__264 σ τ (jrem (jbits v2 4 2) (τ 50 0 2)) (τ 41 (((jrem (jbits v2 4 2) (τ 50 0 2))).toNatClampNeg) 4) (((jrem (jbits v2 4 2) (τ 50 0 2))).toNatClampNeg))) else (f_L_act__264 σ τ (jrem (jbits v2 4 2) (τ 50 0 2)) (τ 41 (((jrem (jbits v2 4 2) (τ 50 0 2))).toNatClampNeg) 4) (((jrem (jbits v2 4 2) (τ 50 0 2))).toNatClampNeg))))) else (if (jbits v2 0 4) = 2 then (st (sup τ 40 0 8 (jbits v2 6 6)) fun τ1 => (bi (f_X7_set σ 0 (τ1 40 0 8)) fun r2 σ3 => (if r2 = (τ 40 0 8) then (f_L_act__337 σ3 τ1 1) else (f_L_act__337 σ3 τ1 0)))) else (if (jbits v2 0 4) = 3 then (if (τ 50 1 2) = 0 then none else (if (jrem (jbits v2 6 5) (τ 50 1 2)) < 0 ∨ q_nn τ 1 ≤ ((jrem (jbits v2 6 5) (τ 50 1 2))).toNatClampNeg then none else (if (jrem (jbits v2 4 2) (τ 50 0 2)) < 0 ∨ 4 ≤ ((jrem (jbits v2 4 2) (τ 50 0 2))).toNatClampNeg then none else (if (τ 43 (4 * (((jrem (jbits v2 6 5) (τ 50 1 2))).toNatClampNeg) + ((jrem (jbits v2 4 2) (τ 50 0 2))).toNatClampNeg) 0) = 0 then (some (1, σ, τ, 0)) else (st (sup τ 43 (4 * (((jrem (jbits v2 6 5) (τ 50 1 2))).toNatClampNeg) + ((jrem (jbits v2 4 2) (τ 50 0 2))).toNatClampNeg) 0 0) fun τ4 => (st (sup τ4 43 (4 * (((jrem (jbits v2 6 5) (τ 50 1 2))).toNatClampNeg) + ((jrem (jbits v2 4 2) (τ 50 0 2))).toNatClampNeg) 2 (-1)) fun τ5 => (bi (f_X7_forget σ (jrem (jbits v2 4 2) (τ 50 0 2)) (jrem (jbits v2 6 5) (τ 50 1 2))) fun r6 σ7 => (bqx (f_L_held τ5 (jrem (jbits v2 4 2) (τ 50 0 2))) fun r8 τ9 => (if r6 = r8 then (f_L_act__420 σ7 τ9 1) else (f_L_act__420 σ7 τ9 0)))))))))) else (if (jbits v2 0 4) = 4 then (f_L_act__421 σ τ v2) else (if (jbits v2 0 4) = 5 then (f_L_act__421 σ τ v2) else (bqx (f_L_done τ) fun r10 τ11 => (f_L_act__550 FU σ τ11 (1 + (jbits v2 6 2)) r10 0))))))))
set_option maxHeartbeats 4000000 in
set_option maxRecDepth 100000 in
theorem w_L_act__212 {p : Program} {l : Launch} {e : Env} {s : State} {m : MethodId} {args : Array Value} {below : List Frame} {meth : Method} {c : Code} {G : Gx} {ad : Ad} {N : Nn} {adX : Ad} {a0 : Nat} {A : Nat → Prop} {res : Int32 × Sg × Sg} {n : Nat} (C : Cx p s m args meth c yL_act_.cls cL_act_ 7 (Option.some FieldType.boolean) G) (FX : F_X G adX) (hXA : ∀ q, z_X adX q → A q) (hN : N.2.2 = (0, 0)) (ha0 : ad 40 0 = a0) : ∀ (σ τ : Sg) (v100 : Int32) (H : Heap) (locs : List Loc) (ls : Array Slot) (cells d : Nat), q_S G ad N (x_c G adX σ) τ [] A s.heap H locs → lv_has ls 7 [] → f_L_act__212 σ τ v100 = some (res.1, res.2.1, res.2.2, d) → cells + d = n → W p l e { frames := 10, cells := n, slots := 6 * n, locals := 232 } s m args below meth c H locs cells (6 * cells) (MQ below (k_Q (some (.int res.1)) (r_V G a0 adX res.2.1 res.2.2 A) A) args s n (6 * n) A) (F0 m 212 ls [.int v100]) := by
  intro σ τ v100 H locs ls cells d S hl hf hd
  unfold f_L_act__212 at hf
  obtain ⟨g_212, hf⟩ := gd hf
  exact b_zret C S hN ha0 (nbz g_212).1 hf hd dL_act__212
set_option maxHeartbeats 4000000 in
set_option maxRecDepth 100000 in
theorem w_L_act__181 {p : Program} {l : Launch} {e : Env} {s : State} {m : MethodId} {args : Array Value} {below : List Frame} {meth : Method} {c : Code} {G : Gx} {ad : Ad} {N : Nn} {adX : Ad} {a0 : Nat} {A : Nat → Prop} {res : Int32 × Sg × Sg} {n : Nat} (C : Cx p s m args meth c yL_act_.cls cL_act_ 7 (Option.some FieldType.boolean) G) (FX : F_X G adX) (hXA : ∀ q, z_X adX q → A q) (hN : N.2.2 = (0, 0)) (ha0 : ad 40 0 = a0) : ∀ (σ τ : Sg) (v3 : Int32) (v4 : Int32) (H : Heap) (locs : List Loc) (ls : Array Slot) (cells d : Nat), q_S G ad N (x_c G adX σ) τ [] A s.heap H locs → lv_has ls 7 [(0, .ref (ad 40 0)), (1, .ref (adX 7 0)), (3, .int v3), (4, .int v4)] → f_L_act__181 σ τ v3 v4 = some (res.1, res.2.1, res.2.2, d) → cells + d = n → W p l e { frames := 10, cells := n, slots := 6 * n, locals := 232 } s m args below meth c H locs cells (6 * cells) (MQ below (k_Q (some (.int res.1)) (r_V G a0 adX res.2.1 res.2.2 A) A) args s n (6 * n) A) (F0 m 181 ls []) := by
  intro σ τ v3 v4 H locs ls cells d S hl hf hd
  unfold f_L_act__181 at hf
  refine lv_aload_n C.1 C.2.1 dL_act__181 rfl (lv_at hl 1 rfl) ?_
  refine lv_iload_n C.1 C.2.1 dL_act__182 rfl (lv_at hl 2 rfl) ?_
  refine lv_aload_n C.1 C.2.1 dL_act__183 rfl (lv_at hl 0 rfl) ?_
  refine q_getR C S 40 0 50 0 rfl rfl rfl cf_11 0 (by decide) (qr_40_0 G τ 0) tw_4_96 dL_act__184 ?_
  refine lv_iload_n C.1 C.2.1 dL_act__187 rfl (lv_at hl 2 rfl) ?_
  obtain ⟨g_188, hf⟩ := gd hf
  have ob_188 := q_ltN S (Or.inl (by decide)) (q_glt g_188)
  refine q_get C S 0 (Or.inl (by decide)) (by decide) g_188 tw_5_199 ⟨(Nat.le_of_ble_eq_true rfl), (Nat.le_of_ble_eq_true rfl)⟩ (Nat.le_of_ble_eq_true rfl) hl.1 ⟨(show _ ≤ n from by omega), (show _ ≤ 6 * n from by omega)⟩ dL_act__188 (fun H locs S => ?_)
  refine q_cast C S 41 ((v3).toNatClampNeg) rfl ob_188 "BusLiftsLaw$Car" (fun _ => Or.inl ⟨_, _, _, _, rfl, rfl⟩) tw_3_162 dL_act__193 ?_
  refine q_getIN C S 41 ((v3).toNatClampNeg) rfl ob_188 cf_9 6 (by decide) (qi_41_6 G τ ((v3).toNatClampNeg)) (List.mem_of_getElem? (i := 17) rfl) dL_act__196 ?_
  obtain ⟨r1, σ2, q_199, hf⟩ := bib hf
  refine q_callXI C FX hXA S rfl [.int v3, .int (τ 41 ((v3).toNatClampNeg) 3)] (m_X7_setStopped l G adX σ v3 (τ 41 ((v3).toNatClampNeg) 3) r1 σ2 q_199 _) kv_X7_setStopped tw_6_202 ⟨(Nat.le_of_ble_eq_true rfl), (Nat.le_of_ble_eq_true rfl)⟩ rfl rfl (Nat.le_of_ble_eq_true rfl) hl.1 ⟨(show _ ≤ n from by omega), (show _ ≤ 6 * n from by omega)⟩ dL_act__199 (fun H locs S => ?_)
  refine lv_iload C.1 C.2.1 dL_act__202 (lv_at hl 3 rfl) ?_
  refine lv_icmp_ne (tgt := 211) C.1 C.2.1 dL_act__204 (by decide) (fun c_204 => ?_) (fun c_204 => ?_)
  · rw [if_neg c_204] at hf
    refine lv_iconst (v := 0) C.1 C.2.1 dL_act__211 (by decide) ?_
    exact w_L_act__212 C FX hXA hN ha0 _ _ 0 _ _ _ _ _ S (lv_sub hl [] rfl) hf hd
  · rw [if_pos c_204] at hf
    refine lv_iconst (v := 1) C.1 C.2.1 dL_act__207 (by decide) ?_
    refine lv_goto (tgt := 212) C.1 C.2.1 dL_act__208 (by decide) ?_
    exact w_L_act__212 C FX hXA hN ha0 _ _ 1 _ _ _ _ _ S (lv_sub hl [] rfl) hf hd
set_option maxHeartbeats 4000000 in
set_option maxRecDepth 100000 in
theorem w_L_act__145 {p : Program} {l : Launch} {e : Env} {s : State} {m : MethodId} {args : Array Value} {below : List Frame} {meth : Method} {c : Code} {G : Gx} {ad : Ad} {N : Nn} {adX : Ad} {a0 : Nat} {A : Nat → Prop} {res : Int32 × Sg × Sg} {n : Nat} (C : Cx p s m args meth c yL_act_.cls cL_act_ 7 (Option.some FieldType.boolean) G) (FX : F_X G adX) (hXA : ∀ q, z_X adX q → A q) (hN : N.2.2 = (0, 0)) (ha0 : ad 40 0 = a0) : ∀ n9 : Nat, ∀ (σ τ : Sg) (v3 : Int32) (v4 : Int32) (k5 : Nat) (m5 : Int32) (a5 : Nat) (H : Heap) (locs : List Loc) (ls : Array Slot) (cells d : Nat), q_S G ad N (x_c G adX σ) τ [(a5, 1, k5, m5)] A s.heap H locs → lv_has ls 7 [(0, .ref (ad 40 0)), (1, .ref (adX 7 0)), (3, .int v3), (4, .int v4), (5, .ref a5)] → f_L_act__145 n9 σ τ v3 v4 k5 m5 = some (res.1, res.2.1, res.2.2, d) → cells + d = n → W p l e { frames := 10, cells := n, slots := 6 * n, locals := 232 } s m args below meth c H locs cells (6 * cells) (MQ below (k_Q (some (.int res.1)) (r_V G a0 adX res.2.1 res.2.2 A) A) args s n (6 * n) A) (F0 m 145 ls []) := by
  intro n9
  induction n9 with
  | zero => intro σ τ v3 v4 k5 m5 a5 H locs ls cells d S hl hf hd; cases hf
  | succ n9 ih =>
    intro σ τ v3 v4 k5 m5 a5 H locs ls cells d S hl hf hd
    rw [f_L_act__145_s] at hf
    refine lv_aload C.1 C.2.1 dL_act__145 (lv_at hl 4 rfl) ?_
    refine q_hasN C S (List.mem_singleton.mpr rfl) (Or.inl (by decide)) (by decide) tw_5_148 ⟨(Nat.le_of_ble_eq_true rfl), (Nat.le_of_ble_eq_true rfl)⟩ (Nat.le_of_ble_eq_true rfl) hl.1 ⟨(show _ ≤ n from by omega), (show _ ≤ 6 * n from by omega)⟩ dL_act__147 (fun H locs S => ?_)
    refine lv_if_eq (tgt := 181) C.1 C.2.1 dL_act__152 (by decide) (fun c_152 => ?_) (fun c_152 => ?_)
    · rw [if_pos c_152] at hf
      exact w_L_act__181 C FX hXA hN ha0 _ _ v3 v4 _ _ _ _ _ (S.drop (fun x hx => absurd hx List.not_mem_nil)) (lv_sub hl [0, 1, 2, 3] rfl) hf hd
    · rw [if_neg c_152] at hf
      refine lv_aload C.1 C.2.1 dL_act__155 (lv_at hl 4 rfl) ?_
      obtain ⟨g_157, hf⟩ := gd hf
      replace g_157 := Decidable.not_not.mp g_157
      have ob_157 := q_ltN S (Or.inl (by decide)) g_157.1
      refine q_next C S (Or.inl (by decide)) (by decide) g_157.1 g_157.2 tw_5_158 ⟨(Nat.le_of_ble_eq_true rfl), (Nat.le_of_ble_eq_true rfl)⟩ (Nat.le_of_ble_eq_true rfl) hl.1 ⟨(show _ ≤ n from by omega), (show _ ≤ 6 * n from by omega)⟩ dL_act__157 (fun H locs S => ?_)
      refine q_cast C S 42 k5 rfl ob_157 "BusLiftsLaw$Call" (fun _ => Or.inl ⟨_, _, _, _, rfl, rfl⟩) tw_4_19 dL_act__162 ?_
      refine lv_astore (lv' := [(6, .ref (ad 42 k5)), (0, .ref (ad 40 0)), (1, .ref (adX 7 0)), (3, .int v3), (4, .int v4), (5, .ref a5)]) C.1 C.2.1 dL_act__165 hl (by decide) rfl (fun ls hl => ?_)
      refine lv_aload C.1 C.2.1 dL_act__167 (lv_at hl 0 rfl) ?_
      refine q_getRN C S 42 k5 45 k5 rfl rfl ob_157 cf_8 11 (by decide) (qr_42_11 G τ k5) (List.mem_of_getElem? (i := 38) rfl) dL_act__169 ?_
      refine lv_iload_n C.1 C.2.1 dL_act__172 rfl (lv_at hl 3 rfl) ?_
      obtain ⟨g_173, hf⟩ := gd hf
      refine q_by C S k5 ob_157 g_173 dL_act__173 ?_
      refine lv_iconst (v := (-1)) C.1 C.2.1 dL_act__174 (by decide) ?_
      obtain ⟨τ1, e_175, hf⟩ := stb hf
      refine q_putIN C S 43 (4 * k5 + (v3).toNatClampNeg) 2 rfl rfl (q_lt4 ob_157 g_173) cf_10 2 (by decide) (qp_43_2 G τ (4 * k5 + (v3).toNatClampNeg) _) rfl rfl rfl (List.mem_of_getElem? (i := 24) rfl) dL_act__175 (fun H locs S => ?_)
      rw [← e_175] at S
      refine lv_goto (tgt := 145) C.1 C.2.1 dL_act__178 (by decide) ?_
      exact ih _ _ v3 v4 (k5 + 1) m5 a5 _ _ _ _ _ S (lv_sub hl [1, 2, 3, 4, 5] rfl) hf hd
set_option maxHeartbeats 4000000 in
set_option maxRecDepth 100000 in
theorem w_L_act__112 {p : Program} {l : Launch} {e : Env} {s : State} {m : MethodId} {args : Array Value} {below : List Frame} {meth : Method} {c : Code} {G : Gx} {ad : Ad} {N : Nn} {adX : Ad} {a0 : Nat} {A : Nat → Prop} {res : Int32 × Sg × Sg} {n : Nat} (C : Cx p s m args meth c yL_act_.cls cL_act_ 7 (Option.some FieldType.boolean) G) (FX : F_X G adX) (hXA : ∀ q, z_X adX q → A q) (hN : N.2.2 = (0, 0)) (ha0 : ad 40 0 = a0) : ∀ (σ τ : Sg) (v3 : Int32) (v4 : Int32) (o100 : Nat) (v101 : Int32) (H : Heap) (locs : List Loc) (ls : Array Slot) (cells d : Nat), q_S G ad N (x_c G adX σ) τ [] A s.heap H locs → lv_has ls 7 [(0, .ref (ad 40 0)), (1, .ref (adX 7 0)), (3, .int v3), (4, .int v4)] → (o100 < N.1) → f_L_act__112 σ τ v3 v4 o100 v101 = some (res.1, res.2.1, res.2.2, d) → cells + d = n → W p l e { frames := 10, cells := n, slots := 6 * n, locals := 232 } s m args below meth c H locs cells (6 * cells) (MQ below (k_Q (some (.int res.1)) (r_V G a0 adX res.2.1 res.2.2 A) A) args s n (6 * n) A) (F0 m 112 ls [.int v101, .ref (ad 41 o100)]) := by
  intro σ τ v3 v4 o100 v101 H locs ls cells d S hl ho100 hf hd
  unfold f_L_act__112 at hf
  obtain ⟨g_112, hf⟩ := gd hf
  obtain ⟨τ1, e_112, hf⟩ := stb hf
  refine q_putIN C S 41 o100 3 rfl rfl ho100 cf_9 6 (by decide) (qp_41_6 G τ o100 _) rfl (nbz g_112).1 (nbz g_112).2 (List.mem_of_getElem? (i := 17) rfl) dL_act__112 (fun H locs S => ?_)
  rw [← e_112] at S
  refine lv_aload_n C.1 C.2.1 dL_act__115 rfl (lv_at hl 0 rfl) ?_
  refine q_getR C S 40 0 50 0 rfl rfl rfl cf_11 0 (by decide) (qr_40_0 G τ1 0) tw_4_96 dL_act__116 ?_
  refine lv_iload_n C.1 C.2.1 dL_act__119 rfl (lv_at hl 2 rfl) ?_
  obtain ⟨g_120, hf⟩ := gd hf
  have ob_120 := q_ltN S (Or.inl (by decide)) (q_glt g_120)
  refine q_get C S 0 (Or.inl (by decide)) (by decide) g_120 tw_5_199 ⟨(Nat.le_of_ble_eq_true rfl), (Nat.le_of_ble_eq_true rfl)⟩ (Nat.le_of_ble_eq_true rfl) hl.1 ⟨(show _ ≤ n from by omega), (show _ ≤ 6 * n from by omega)⟩ dL_act__120 (fun H locs S => ?_)
  refine q_cast C S 41 ((v3).toNatClampNeg) rfl ob_120 "BusLiftsLaw$Car" (fun _ => Or.inl ⟨_, _, _, _, rfl, rfl⟩) tw_3_162 dL_act__125 ?_
  refine q_getIN C S 41 ((v3).toNatClampNeg) rfl ob_120 cf_9 6 (by decide) (qi_41_6 G τ1 ((v3).toNatClampNeg)) (List.mem_of_getElem? (i := 17) rfl) dL_act__128 ?_
  refine lv_if_eq (tgt := 181) C.1 C.2.1 dL_act__131 (by decide) (fun c_131 => ?_) (fun c_131 => ?_)
  · rw [if_pos c_131] at hf
    exact w_L_act__181 C FX hXA hN ha0 _ _ v3 v4 _ _ _ _ _ S (lv_sub hl [0, 1, 2, 3] rfl) hf hd
  · rw [if_neg c_131] at hf
    refine lv_aload_n C.1 C.2.1 dL_act__134 rfl (lv_at hl 0 rfl) ?_
    refine q_getR C S 40 0 50 1 rfl rfl rfl cf_11 1 (by decide) (qr_40_1 G τ1 0) tw_4_97 dL_act__135 ?_
    obtain ⟨d_138, hf, e_138⟩ := acxb hf
    refine q_iter C S 1 (Or.inl (by decide)) (by decide) tw_5_120 ⟨(Nat.le_of_ble_eq_true rfl), (Nat.le_of_ble_eq_true rfl)⟩ (Nat.le_of_ble_eq_true rfl) hl.1 ⟨(show _ ≤ n from by omega), (show _ ≤ 6 * n from by omega)⟩ dL_act__138 (fun it2 H locs S => ?_)
    refine q_wid ?_
    replace hd := q_hd1 hd e_138
    refine lv_astore (lv' := [(5, .ref it2), (0, .ref (ad 40 0)), (1, .ref (adX 7 0)), (3, .int v3), (4, .int v4)]) C.1 C.2.1 dL_act__143 hl (by decide) rfl (fun ls hl => ?_)
    exact w_L_act__145 C FX hXA hN ha0 FU _ _ v3 v4 0 (τ1 50 1 0) it2 _ _ _ _ _ S (lv_sub hl [1, 2, 3, 4, 0] rfl) hf hd
set_option maxHeartbeats 4000000 in
set_option maxRecDepth 100000 in
theorem w_L_act__111 {p : Program} {l : Launch} {e : Env} {s : State} {m : MethodId} {args : Array Value} {below : List Frame} {meth : Method} {c : Code} {G : Gx} {ad : Ad} {N : Nn} {adX : Ad} {a0 : Nat} {A : Nat → Prop} {res : Int32 × Sg × Sg} {n : Nat} (C : Cx p s m args meth c yL_act_.cls cL_act_ 7 (Option.some FieldType.boolean) G) (FX : F_X G adX) (hXA : ∀ q, z_X adX q → A q) (hN : N.2.2 = (0, 0)) (ha0 : ad 40 0 = a0) : ∀ (σ τ : Sg) (v3 : Int32) (v4 : Int32) (o100 : Nat) (H : Heap) (locs : List Loc) (ls : Array Slot) (cells d : Nat), q_S G ad N (x_c G adX σ) τ [] A s.heap H locs → lv_has ls 7 [(0, .ref (ad 40 0)), (1, .ref (adX 7 0)), (3, .int v3), (4, .int v4)] → (o100 < N.1) → f_L_act__111 σ τ v3 v4 o100 = some (res.1, res.2.1, res.2.2, d) → cells + d = n → W p l e { frames := 10, cells := n, slots := 6 * n, locals := 232 } s m args below meth c H locs cells (6 * cells) (MQ below (k_Q (some (.int res.1)) (r_V G a0 adX res.2.1 res.2.2 A) A) args s n (6 * n) A) (F0 m 111 ls [.ref (ad 41 o100)]) := by
  intro σ τ v3 v4 o100 H locs ls cells d S hl ho100 hf hd
  unfold f_L_act__111 at hf
  refine lv_iconst (v := 0) C.1 C.2.1 dL_act__111 (by decide) ?_
  exact w_L_act__112 C FX hXA hN ha0 _ _ v3 v4 o100 0 _ _ _ _ _ S (lv_sub hl [0, 1, 2, 3] rfl) ho100 hf hd
set_option maxHeartbeats 4000000 in
set_option maxRecDepth 100000 in
theorem w_L_act__299 {p : Program} {l : Launch} {e : Env} {s : State} {m : MethodId} {args : Array Value} {below : List Frame} {meth : Method} {c : Code} {G : Gx} {ad : Ad} {N : Nn} {adX : Ad} {a0 : Nat} {A : Nat → Prop} {res : Int32 × Sg × Sg} {n : Nat} (C : Cx p s m args meth c yL_act_.cls cL_act_ 7 (Option.some FieldType.boolean) G) (FX : F_X G adX) (hXA : ∀ q, z_X adX q → A q) (hN : N.2.2 = (0, 0)) (ha0 : ad 40 0 = a0) : ∀ (σ τ : Sg) (v100 : Int32) (H : Heap) (locs : List Loc) (ls : Array Slot) (cells d : Nat), q_S G ad N (x_c G adX σ) τ [] A s.heap H locs → lv_has ls 7 [] → f_L_act__299 σ τ v100 = some (res.1, res.2.1, res.2.2, d) → cells + d = n → W p l e { frames := 10, cells := n, slots := 6 * n, locals := 232 } s m args below meth c H locs cells (6 * cells) (MQ below (k_Q (some (.int res.1)) (r_V G a0 adX res.2.1 res.2.2 A) A) args s n (6 * n) A) (F0 m 299 ls [.int v100]) := by
  intro σ τ v100 H locs ls cells d S hl hf hd
  unfold f_L_act__299 at hf
  obtain ⟨g_299, hf⟩ := gd hf
  exact b_zret C S hN ha0 (nbz g_299).1 hf hd dL_act__299
set_option maxHeartbeats 4000000 in
set_option maxRecDepth 100000 in
theorem w_L_act__265 {p : Program} {l : Launch} {e : Env} {s : State} {m : MethodId} {args : Array Value} {below : List Frame} {meth : Method} {c : Code} {G : Gx} {ad : Ad} {N : Nn} {adX : Ad} {a0 : Nat} {A : Nat → Prop} {res : Int32 × Sg × Sg} {n : Nat} (C : Cx p s m args meth c yL_act_.cls cL_act_ 7 (Option.some FieldType.boolean) G) (FX : F_X G adX) (hXA : ∀ q, z_X adX q → A q) (hN : N.2.2 = (0, 0)) (ha0 : ad 40 0 = a0) : ∀ (σ τ : Sg) (v3 : Int32) (v4 : Int32) (o100 : Nat) (v101 : Int32) (H : Heap) (locs : List Loc) (ls : Array Slot) (cells d : Nat), q_S G ad N (x_c G adX σ) τ [] A s.heap H locs → lv_has ls 7 [(0, .ref (ad 40 0)), (1, .ref (adX 7 0)), (3, .int v3), (4, .int v4)] → (o100 < N.1) → f_L_act__265 σ τ v3 v4 o100 v101 = some (res.1, res.2.1, res.2.2, d) → cells + d = n → W p l e { frames := 10, cells := n, slots := 6 * n, locals := 232 } s m args below meth c H locs cells (6 * cells) (MQ below (k_Q (some (.int res.1)) (r_V G a0 adX res.2.1 res.2.2 A) A) args s n (6 * n) A) (F0 m 265 ls [.int v101, .ref (ad 41 o100)]) := by
  intro σ τ v3 v4 o100 v101 H locs ls cells d S hl ho100 hf hd
  unfold f_L_act__265 at hf
  obtain ⟨g_265, hf⟩ := gd hf
  obtain ⟨τ1, e_265, hf⟩ := stb hf
  refine q_putIN C S 41 o100 4 rfl rfl ho100 cf_9 7 (by decide) (qp_41_7 G τ o100 _) rfl (nbz g_265).1 (nbz g_265).2 (List.mem_of_getElem? (i := 18) rfl) dL_act__265 (fun H locs S => ?_)
  rw [← e_265] at S
  refine lv_aload_n C.1 C.2.1 dL_act__268 rfl (lv_at hl 1 rfl) ?_
  refine lv_iload_n C.1 C.2.1 dL_act__269 rfl (lv_at hl 2 rfl) ?_
  refine lv_aload_n C.1 C.2.1 dL_act__270 rfl (lv_at hl 0 rfl) ?_
  refine q_getR C S 40 0 50 0 rfl rfl rfl cf_11 0 (by decide) (qr_40_0 G τ1 0) tw_4_96 dL_act__271 ?_
  refine lv_iload_n C.1 C.2.1 dL_act__274 rfl (lv_at hl 2 rfl) ?_
  obtain ⟨g_275, hf⟩ := gd hf
  have ob_275 := q_ltN S (Or.inl (by decide)) (q_glt g_275)
  refine q_get C S 0 (Or.inl (by decide)) (by decide) g_275 tw_5_199 ⟨(Nat.le_of_ble_eq_true rfl), (Nat.le_of_ble_eq_true rfl)⟩ (Nat.le_of_ble_eq_true rfl) hl.1 ⟨(show _ ≤ n from by omega), (show _ ≤ 6 * n from by omega)⟩ dL_act__275 (fun H locs S => ?_)
  refine q_cast C S 41 ((v3).toNatClampNeg) rfl ob_275 "BusLiftsLaw$Car" (fun _ => Or.inl ⟨_, _, _, _, rfl, rfl⟩) tw_3_162 dL_act__280 ?_
  refine q_getIN C S 41 ((v3).toNatClampNeg) rfl ob_275 cf_9 7 (by decide) (qi_41_7 G τ1 ((v3).toNatClampNeg)) (List.mem_of_getElem? (i := 18) rfl) dL_act__283 ?_
  obtain ⟨r2, σ3, q_286, hf⟩ := bib hf
  refine q_callXI C FX hXA S rfl [.int v3, .int (τ1 41 ((v3).toNatClampNeg) 4)] (m_X7_setJammed l G adX σ v3 (τ1 41 ((v3).toNatClampNeg) 4) r2 σ3 q_286 _) kv_X7_setJammed tw_6_216 ⟨(Nat.le_of_ble_eq_true rfl), (Nat.le_of_ble_eq_true rfl)⟩ rfl rfl (Nat.le_of_ble_eq_true rfl) hl.1 ⟨(show _ ≤ n from by omega), (show _ ≤ 6 * n from by omega)⟩ dL_act__286 (fun H locs S => ?_)
  refine lv_iload C.1 C.2.1 dL_act__289 (lv_at hl 3 rfl) ?_
  refine lv_icmp_ne (tgt := 298) C.1 C.2.1 dL_act__291 (by decide) (fun c_291 => ?_) (fun c_291 => ?_)
  · rw [if_neg c_291] at hf
    refine lv_iconst (v := 0) C.1 C.2.1 dL_act__298 (by decide) ?_
    exact w_L_act__299 C FX hXA hN ha0 _ _ 0 _ _ _ _ _ S (lv_sub hl [] rfl) hf hd
  · rw [if_pos c_291] at hf
    refine lv_iconst (v := 1) C.1 C.2.1 dL_act__294 (by decide) ?_
    refine lv_goto (tgt := 299) C.1 C.2.1 dL_act__295 (by decide) ?_
    exact w_L_act__299 C FX hXA hN ha0 _ _ 1 _ _ _ _ _ S (lv_sub hl [] rfl) hf hd
set_option maxHeartbeats 4000000 in
set_option maxRecDepth 100000 in
theorem w_L_act__264 {p : Program} {l : Launch} {e : Env} {s : State} {m : MethodId} {args : Array Value} {below : List Frame} {meth : Method} {c : Code} {G : Gx} {ad : Ad} {N : Nn} {adX : Ad} {a0 : Nat} {A : Nat → Prop} {res : Int32 × Sg × Sg} {n : Nat} (C : Cx p s m args meth c yL_act_.cls cL_act_ 7 (Option.some FieldType.boolean) G) (FX : F_X G adX) (hXA : ∀ q, z_X adX q → A q) (hN : N.2.2 = (0, 0)) (ha0 : ad 40 0 = a0) : ∀ (σ τ : Sg) (v3 : Int32) (v4 : Int32) (o100 : Nat) (H : Heap) (locs : List Loc) (ls : Array Slot) (cells d : Nat), q_S G ad N (x_c G adX σ) τ [] A s.heap H locs → lv_has ls 7 [(0, .ref (ad 40 0)), (1, .ref (adX 7 0)), (3, .int v3), (4, .int v4)] → (o100 < N.1) → f_L_act__264 σ τ v3 v4 o100 = some (res.1, res.2.1, res.2.2, d) → cells + d = n → W p l e { frames := 10, cells := n, slots := 6 * n, locals := 232 } s m args below meth c H locs cells (6 * cells) (MQ below (k_Q (some (.int res.1)) (r_V G a0 adX res.2.1 res.2.2 A) A) args s n (6 * n) A) (F0 m 264 ls [.ref (ad 41 o100)]) := by
  intro σ τ v3 v4 o100 H locs ls cells d S hl ho100 hf hd
  unfold f_L_act__264 at hf
  refine lv_iconst (v := 0) C.1 C.2.1 dL_act__264 (by decide) ?_
  exact w_L_act__265 C FX hXA hN ha0 _ _ v3 v4 o100 0 _ _ _ _ _ S (lv_sub hl [0, 1, 2, 3] rfl) ho100 hf hd
set_option maxHeartbeats 4000000 in
set_option maxRecDepth 100000 in
theorem w_L_act__337 {p : Program} {l : Launch} {e : Env} {s : State} {m : MethodId} {args : Array Value} {below : List Frame} {meth : Method} {c : Code} {G : Gx} {ad : Ad} {N : Nn} {adX : Ad} {a0 : Nat} {A : Nat → Prop} {res : Int32 × Sg × Sg} {n : Nat} (C : Cx p s m args meth c yL_act_.cls cL_act_ 7 (Option.some FieldType.boolean) G) (FX : F_X G adX) (hXA : ∀ q, z_X adX q → A q) (hN : N.2.2 = (0, 0)) (ha0 : ad 40 0 = a0) : ∀ (σ τ : Sg) (v100 : Int32) (H : Heap) (locs : List Loc) (ls : Array Slot) (cells d : Nat), q_S G ad N (x_c G adX σ) τ [] A s.heap H locs → lv_has ls 7 [] → f_L_act__337 σ τ v100 = some (res.1, res.2.1, res.2.2, d) → cells + d = n → W p l e { frames := 10, cells := n, slots := 6 * n, locals := 232 } s m args below meth c H locs cells (6 * cells) (MQ below (k_Q (some (.int res.1)) (r_V G a0 adX res.2.1 res.2.2 A) A) args s n (6 * n) A) (F0 m 337 ls [.int v100]) := by
  intro σ τ v100 H locs ls cells d S hl hf hd
  unfold f_L_act__337 at hf
  obtain ⟨g_337, hf⟩ := gd hf
  exact b_zret C S hN ha0 (nbz g_337).1 hf hd dL_act__337
set_option maxHeartbeats 4000000 in
set_option maxRecDepth 100000 in
theorem w_L_act__420 {p : Program} {l : Launch} {e : Env} {s : State} {m : MethodId} {args : Array Value} {below : List Frame} {meth : Method} {c : Code} {G : Gx} {ad : Ad} {N : Nn} {adX : Ad} {a0 : Nat} {A : Nat → Prop} {res : Int32 × Sg × Sg} {n : Nat} (C : Cx p s m args meth c yL_act_.cls cL_act_ 7 (Option.some FieldType.boolean) G) (FX : F_X G adX) (hXA : ∀ q, z_X adX q → A q) (hN : N.2.2 = (0, 0)) (ha0 : ad 40 0 = a0) : ∀ (σ τ : Sg) (v100 : Int32) (H : Heap) (locs : List Loc) (ls : Array Slot) (cells d : Nat), q_S G ad N (x_c G adX σ) τ [] A s.heap H locs → lv_has ls 7 [] → f_L_act__420 σ τ v100 = some (res.1, res.2.1, res.2.2, d) → cells + d = n → W p l e { frames := 10, cells := n, slots := 6 * n, locals := 232 } s m args below meth c H locs cells (6 * cells) (MQ below (k_Q (some (.int res.1)) (r_V G a0 adX res.2.1 res.2.2 A) A) args s n (6 * n) A) (F0 m 420 ls [.int v100]) := by
  intro σ τ v100 H locs ls cells d S hl hf hd
  unfold f_L_act__420 at hf
  obtain ⟨g_420, hf⟩ := gd hf
  exact b_zret C S hN ha0 (nbz g_420).1 hf hd dL_act__420
set_option maxHeartbeats 4000000 in
set_option maxRecDepth 100000 in
theorem w_L_act__529 {p : Program} {l : Launch} {e : Env} {s : State} {m : MethodId} {args : Array Value} {below : List Frame} {meth : Method} {c : Code} {G : Gx} {ad : Ad} {N : Nn} {adX : Ad} {a0 : Nat} {A : Nat → Prop} {res : Int32 × Sg × Sg} {n : Nat} (C : Cx p s m args meth c yL_act_.cls cL_act_ 7 (Option.some FieldType.boolean) G) (FX : F_X G adX) (hXA : ∀ q, z_X adX q → A q) (hN : N.2.2 = (0, 0)) (ha0 : ad 40 0 = a0) : ∀ (σ τ : Sg) (v100 : Int32) (H : Heap) (locs : List Loc) (ls : Array Slot) (cells d : Nat), q_S G ad N (x_c G adX σ) τ [] A s.heap H locs → lv_has ls 7 [] → f_L_act__529 σ τ v100 = some (res.1, res.2.1, res.2.2, d) → cells + d = n → W p l e { frames := 10, cells := n, slots := 6 * n, locals := 232 } s m args below meth c H locs cells (6 * cells) (MQ below (k_Q (some (.int res.1)) (r_V G a0 adX res.2.1 res.2.2 A) A) args s n (6 * n) A) (F0 m 529 ls [.int v100]) := by
  intro σ τ v100 H locs ls cells d S hl hf hd
  unfold f_L_act__529 at hf
  obtain ⟨g_529, hf⟩ := gd hf
  exact b_zret C S hN ha0 (nbz g_529).1 hf hd dL_act__529
set_option maxHeartbeats 4000000 in
set_option maxRecDepth 100000 in
theorem w_L_act__421 {p : Program} {l : Launch} {e : Env} {s : State} {m : MethodId} {args : Array Value} {below : List Frame} {meth : Method} {c : Code} {G : Gx} {ad : Ad} {N : Nn} {adX : Ad} {a0 : Nat} {A : Nat → Prop} {res : Int32 × Sg × Sg} {n : Nat} (C : Cx p s m args meth c yL_act_.cls cL_act_ 7 (Option.some FieldType.boolean) G) (FX : F_X G adX) (hXA : ∀ q, z_X adX q → A q) (hN : N.2.2 = (0, 0)) (ha0 : ad 40 0 = a0) : ∀ (σ τ : Sg) (v2 : Int32) (H : Heap) (locs : List Loc) (ls : Array Slot) (cells d : Nat), q_S G ad N (x_c G adX σ) τ [] A s.heap H locs → lv_has ls 7 [(0, .ref (ad 40 0)), (1, .ref (adX 7 0)), (2, .int v2)] → f_L_act__421 σ τ v2 = some (res.1, res.2.1, res.2.2, d) → cells + d = n → W p l e { frames := 10, cells := n, slots := 6 * n, locals := 232 } s m args below meth c H locs cells (6 * cells) (MQ below (k_Q (some (.int res.1)) (r_V G a0 adX res.2.1 res.2.2 A) A) args s n (6 * n) A) (F0 m 421 ls []) := by
  intro σ τ v2 H locs ls cells d S hl hf hd
  unfold f_L_act__421 at hf
  refine lv_aload_n C.1 C.2.1 dL_act__421 rfl (lv_at hl 0 rfl) ?_
  refine q_getR C S 40 0 50 1 rfl rfl rfl cf_11 1 (by decide) (qr_40_1 G τ 0) tw_4_97 dL_act__422 ?_
  refine q_size C S 1 (Or.inl (by decide)) (by decide) tw_5_190 ⟨(Nat.le_of_ble_eq_true rfl), (Nat.le_of_ble_eq_true rfl)⟩ (Nat.le_of_ble_eq_true rfl) hl.1 ⟨(show _ ≤ n from by omega), (show _ ≤ 6 * n from by omega)⟩ dL_act__425 (fun H locs S => ?_)
  refine lv_bipush (v := 24) C.1 C.2.1 dL_act__430 (by decide) ?_
  refine lv_icmp_ne (tgt := 437) C.1 C.2.1 dL_act__432 (by decide) (fun c_432 => ?_) (fun c_432 => ?_)
  · rw [if_neg c_432] at hf
    refine lv_iload_n C.1 C.2.1 dL_act__437 rfl (lv_at hl 2 rfl) ?_
    refine lv_bipush (v := 6) C.1 C.2.1 dL_act__438 (by decide) ?_
    refine lv_iconst (v := 4) C.1 C.2.1 dL_act__440 (by decide) ?_
    refine q_callK C S [.int v2, .int 6, .int 4] (k_bits l G v2 6 4 _) kv_L_bits tw_3_159 ⟨(Nat.le_of_ble_eq_true rfl), (Nat.le_of_ble_eq_true rfl)⟩ rfl rfl (Nat.le_of_ble_eq_true rfl) hl.1 ⟨(show _ ≤ n from by omega), (show _ ≤ 6 * n from by omega)⟩ dL_act__441 (fun H locs S => ?_)
    refine lv_aload_n C.1 C.2.1 dL_act__444 rfl (lv_at hl 0 rfl) ?_
    refine q_getI C S 40 0 rfl rfl cf_11 3 (by decide) (qi_40_3 G τ 0) tw_4_99 dL_act__445 ?_
    obtain ⟨g_448, hf⟩ := gd hf
    refine lv_irem C.1 C.2.1 dL_act__448 g_448 ?_
    show W _ _ _ _ _ _ _ _ _ _ _ _ _ _ _ (F0 m _ ls (.int (jrem (jbits v2 6 4) (τ 40 0 3)) :: _))
    refine lv_istore (lv' := [(4, .int (jrem (jbits v2 6 4) (τ 40 0 3))), (0, .ref (ad 40 0)), (1, .ref (adX 7 0)), (2, .int v2)]) C.1 C.2.1 dL_act__449 hl (by decide) rfl (fun ls hl => ?_)
    refine lv_iload C.1 C.2.1 dL_act__451 (lv_at hl 0 rfl) ?_
    refine lv_iconst (v := 1) C.1 C.2.1 dL_act__453 (by decide) ?_
    refine lv_iadd C.1 C.2.1 dL_act__454 ?_
    refine lv_iload_n C.1 C.2.1 dL_act__455 rfl (lv_at hl 3 rfl) ?_
    refine lv_bipush (v := 10) C.1 C.2.1 dL_act__456 (by decide) ?_
    refine lv_iconst (v := 4) C.1 C.2.1 dL_act__458 (by decide) ?_
    refine q_callK C S [.int v2, .int 10, .int 4] (k_bits l G v2 10 4 _) kv_L_bits tw_3_159 ⟨(Nat.le_of_ble_eq_true rfl), (Nat.le_of_ble_eq_true rfl)⟩ rfl rfl (Nat.le_of_ble_eq_true rfl) hl.1 ⟨(show _ ≤ n from by omega), (show _ ≤ 6 * n from by omega)⟩ dL_act__459 (fun H locs S => ?_)
    refine lv_aload_n C.1 C.2.1 dL_act__462 rfl (lv_at hl 1 rfl) ?_
    refine q_getI C S 40 0 rfl rfl cf_11 3 (by decide) (qi_40_3 G τ 0) tw_4_99 dL_act__463 ?_
    refine lv_iconst (v := 1) C.1 C.2.1 dL_act__466 (by decide) ?_
    refine lv_isub C.1 C.2.1 dL_act__467 ?_
    obtain ⟨g_468, hf⟩ := gd hf
    refine lv_irem C.1 C.2.1 dL_act__468 g_468 ?_
    show W _ _ _ _ _ _ _ _ _ _ _ _ _ _ _ (F0 m _ ls (.int (jrem (jbits v2 10 4) ((τ 40 0 3) - 1)) :: _))
    refine lv_iadd C.1 C.2.1 dL_act__469 ?_
    refine lv_aload_n C.1 C.2.1 dL_act__470 rfl (lv_at hl 1 rfl) ?_
    refine q_getI C S 40 0 rfl rfl cf_11 3 (by decide) (qi_40_3 G τ 0) tw_4_99 dL_act__471 ?_
    obtain ⟨g_474, hf⟩ := gd hf
    refine lv_irem C.1 C.2.1 dL_act__474 g_474 ?_
    show W _ _ _ _ _ _ _ _ _ _ _ _ _ _ _ (F0 m _ ls (.int (jrem (((jrem (jbits v2 6 4) (τ 40 0 3)) + 1) + (jrem (jbits v2 10 4) ((τ 40 0 3) - 1))) (τ 40 0 3)) :: _))
    refine lv_istore (lv' := [(5, .int (jrem (((jrem (jbits v2 6 4) (τ 40 0 3)) + 1) + (jrem (jbits v2 10 4) ((τ 40 0 3) - 1))) (τ 40 0 3))), (4, .int (jrem (jbits v2 6 4) (τ 40 0 3))), (0, .ref (ad 40 0)), (1, .ref (adX 7 0)), (2, .int v2)]) C.1 C.2.1 dL_act__475 hl (by decide) rfl (fun ls hl => ?_)
    obtain ⟨g_477, hf⟩ := gd hf
    obtain ⟨d_477, hf, e_477⟩ := acxb hf
    obtain ⟨τ1, k_477, hf⟩ := stb hf
    refine q_mkCall (v4 := (jrem (jbits v2 6 4) (τ 40 0 3))) (v5 := (jrem (((jrem (jbits v2 6 4) (τ 40 0 3)) + 1) + (jrem (jbits v2 10 4) ((τ 40 0 3) - 1))) (τ 40 0 3))) C S hN (Nat.not_lt.mp g_477) hl.1 hl ⟨(Nat.le_of_ble_eq_true rfl), (Nat.le_of_ble_eq_true rfl), (Nat.le_of_ble_eq_true rfl)⟩ ⟨(show _ ≤ n from by omega), (show _ ≤ 6 * n from by omega)⟩ (lv_at hl 2 rfl) (lv_at hl 1 rfl) (lv_at hl 0 rfl) dL_act__477 dL_act__478 dL_act__481 dL_act__484 dL_act__485 dL_act__487 dL_act__489 dL_act__490 dL_act__493 dL_act__496 dL_act__501 tw_4_97 tw_4_103 tw_4_19 (Or.inr tw_4_21) tw_3_194 (fun ad2 N2 H locs kad hN S => ?_) rfl
    replace hd := q_hd2 hd e_477
    rw [← k_477] at S
    have e40 := kad 40 0 (by decide) (by decide) (by decide) (by decide)
    have ha0 := e40.trans ha0
    rw [← e40] at hl
    refine lv_aload_n C.1 C.2.1 dL_act__502 rfl (lv_at hl 3 rfl) ?_
    refine lv_iload C.1 C.2.1 dL_act__503 (lv_at hl 1 rfl) ?_
    refine lv_iload C.1 C.2.1 dL_act__505 (lv_at hl 0 rfl) ?_
    obtain ⟨r2, σ3, q_507, hf⟩ := bib hf
    refine q_callXI C FX hXA S rfl [.int (jrem (jbits v2 6 4) (τ 40 0 3)), .int (jrem (((jrem (jbits v2 6 4) (τ 40 0 3)) + 1) + (jrem (jbits v2 10 4) ((τ 40 0 3) - 1))) (τ 40 0 3))] (m_X7_makeCall l G adX σ (jrem (jbits v2 6 4) (τ 40 0 3)) (jrem (((jrem (jbits v2 6 4) (τ 40 0 3)) + 1) + (jrem (jbits v2 10 4) ((τ 40 0 3) - 1))) (τ 40 0 3)) r2 σ3 q_507 _) kv_X7_makeCall tw_7_14 ⟨(Nat.le_of_ble_eq_true rfl), (Nat.le_of_ble_eq_true rfl)⟩ rfl rfl (Nat.le_of_ble_eq_true rfl) hl.1 ⟨(show _ ≤ n from by omega), (show _ ≤ 6 * n from by omega)⟩ dL_act__507 (fun H locs S => ?_)
    refine lv_aload_n C.1 C.2.1 dL_act__510 rfl (lv_at hl 2 rfl) ?_
    refine q_getR C S 40 0 50 1 rfl rfl rfl cf_11 1 (by decide) (qr_40_1 G τ1 0) tw_4_97 dL_act__511 ?_
    refine q_size C S 1 (Or.inl (by decide)) (by decide) tw_5_190 ⟨(Nat.le_of_ble_eq_true rfl), (Nat.le_of_ble_eq_true rfl)⟩ (Nat.le_of_ble_eq_true rfl) hl.1 ⟨(show _ ≤ n from by omega), (show _ ≤ 6 * n from by omega)⟩ dL_act__514 (fun H locs S => ?_)
    refine lv_iconst (v := 1) C.1 C.2.1 dL_act__519 (by decide) ?_
    refine lv_isub C.1 C.2.1 dL_act__520 ?_
    refine lv_icmp_ne (tgt := 528) C.1 C.2.1 dL_act__521 (by decide) (fun c_521 => ?_) (fun c_521 => ?_)
    · rw [if_neg c_521] at hf
      refine lv_iconst (v := 0) C.1 C.2.1 dL_act__528 (by decide) ?_
      exact w_L_act__529 C FX hXA hN ha0 _ _ 0 _ _ _ _ _ S (lv_sub hl [] rfl) hf hd
    · rw [if_pos c_521] at hf
      refine lv_iconst (v := 1) C.1 C.2.1 dL_act__524 (by decide) ?_
      refine lv_goto (tgt := 529) C.1 C.2.1 dL_act__525 (by decide) ?_
      exact w_L_act__529 C FX hXA hN ha0 _ _ 1 _ _ _ _ _ S (lv_sub hl [] rfl) hf hd
  · rw [if_pos c_432] at hf
    refine lv_iconst (v := 1) C.1 C.2.1 dL_act__435 (by decide) ?_
    exact b_zret C S hN ha0 rfl hf hd dL_act__436
set_option maxHeartbeats 4000000 in
set_option maxRecDepth 100000 in
theorem w_L_act__588 {p : Program} {l : Launch} {e : Env} {s : State} {m : MethodId} {args : Array Value} {below : List Frame} {meth : Method} {c : Code} {G : Gx} {ad : Ad} {N : Nn} {adX : Ad} {a0 : Nat} {A : Nat → Prop} {res : Int32 × Sg × Sg} {n : Nat} (C : Cx p s m args meth c yL_act_.cls cL_act_ 7 (Option.some FieldType.boolean) G) (FX : F_X G adX) (hXA : ∀ q, z_X adX q → A q) (hN : N.2.2 = (0, 0)) (ha0 : ad 40 0 = a0) : ∀ (σ τ : Sg) (v100 : Int32) (H : Heap) (locs : List Loc) (ls : Array Slot) (cells d : Nat), q_S G ad N (x_c G adX σ) τ [] A s.heap H locs → lv_has ls 7 [] → f_L_act__588 σ τ v100 = some (res.1, res.2.1, res.2.2, d) → cells + d = n → W p l e { frames := 10, cells := n, slots := 6 * n, locals := 232 } s m args below meth c H locs cells (6 * cells) (MQ below (k_Q (some (.int res.1)) (r_V G a0 adX res.2.1 res.2.2 A) A) args s n (6 * n) A) (F0 m 588 ls [.int v100]) := by
  intro σ τ v100 H locs ls cells d S hl hf hd
  unfold f_L_act__588 at hf
  obtain ⟨g_588, hf⟩ := gd hf
  exact b_zret C S hN ha0 (nbz g_588).1 hf hd dL_act__588
set_option maxHeartbeats 4000000 in
set_option maxRecDepth 100000 in
theorem w_L_act__567 {p : Program} {l : Launch} {e : Env} {s : State} {m : MethodId} {args : Array Value} {below : List Frame} {meth : Method} {c : Code} {G : Gx} {ad : Ad} {N : Nn} {adX : Ad} {a0 : Nat} {A : Nat → Prop} {res : Int32 × Sg × Sg} {n : Nat} (C : Cx p s m args meth c yL_act_.cls cL_act_ 7 (Option.some FieldType.boolean) G) (FX : F_X G adX) (hXA : ∀ q, z_X adX q → A q) (hN : N.2.2 = (0, 0)) (ha0 : ad 40 0 = a0) : ∀ (σ τ : Sg) (v4 : Int32) (v5 : Int32) (H : Heap) (locs : List Loc) (ls : Array Slot) (cells d : Nat), q_S G ad N (x_c G adX σ) τ [] A s.heap H locs → lv_has ls 7 [(0, .ref (ad 40 0)), (1, .ref (adX 7 0)), (4, .int v4), (5, .int v5)] → f_L_act__567 σ τ v4 v5 = some (res.1, res.2.1, res.2.2, d) → cells + d = n → W p l e { frames := 10, cells := n, slots := 6 * n, locals := 232 } s m args below meth c H locs cells (6 * cells) (MQ below (k_Q (some (.int res.1)) (r_V G a0 adX res.2.1 res.2.2 A) A) args s n (6 * n) A) (F0 m 567 ls []) := by
  intro σ τ v4 v5 H locs ls cells d S hl hf hd
  unfold f_L_act__567 at hf
  refine lv_aload_n C.1 C.2.1 dL_act__567 rfl (lv_at hl 1 rfl) ?_
  refine lv_iload C.1 C.2.1 dL_act__568 (lv_at hl 2 rfl) ?_
  obtain ⟨r1, σ2, q_570, hf⟩ := bib hf
  refine q_callXI C FX hXA S rfl [.int v4] (m_X7_run l G adX σ v4 r1 σ2 q_570 _) kv_X7_run tw_7_63 ⟨(Nat.le_of_ble_eq_true rfl), (Nat.le_of_ble_eq_true rfl)⟩ rfl rfl (Nat.le_of_ble_eq_true rfl) hl.1 ⟨(show _ ≤ n from by omega), (show _ ≤ 6 * n from by omega)⟩ dL_act__570 (fun H locs S => ?_)
  refine lv_aload_n C.1 C.2.1 dL_act__573 rfl (lv_at hl 0 rfl) ?_
  obtain ⟨r3, τ4, c_574, d_574, q_574, hf, e_574⟩ := bqxb hf
  refine q_callV (τ' := τ4) (v := (some (.int r3))) C S [] rfl (fun ad' he => by have h := m_L_done l G ad' N τ (r3, τ4) c_574 q_574 H.size; rw [he 40 0 rfl] at h; exact h) kv_L_done tw_6_194 ⟨(Nat.le_of_ble_eq_true rfl), (Nat.le_of_ble_eq_true rfl)⟩ rfl rfl (Nat.le_of_ble_eq_true rfl) hl.1 ⟨(show _ ≤ n from by omega), (show _ ≤ 6 * n from by omega)⟩ dL_act__574 (fun H locs S => ?_)
  replace hd := q_hd2 hd e_574
  refine lv_iload C.1 C.2.1 dL_act__577 (lv_at hl 3 rfl) ?_
  refine lv_isub C.1 C.2.1 dL_act__579 ?_
  refine lv_icmp_ne (tgt := 587) C.1 C.2.1 dL_act__580 (by decide) (fun c_580 => ?_) (fun c_580 => ?_)
  · rw [if_neg c_580] at hf
    refine lv_iconst (v := 0) C.1 C.2.1 dL_act__587 (by decide) ?_
    exact w_L_act__588 C FX hXA hN ha0 _ _ 0 _ _ _ _ _ S (lv_sub hl [] rfl) hf hd
  · rw [if_pos c_580] at hf
    refine lv_iconst (v := 1) C.1 C.2.1 dL_act__583 (by decide) ?_
    refine lv_goto (tgt := 588) C.1 C.2.1 dL_act__584 (by decide) ?_
    exact w_L_act__588 C FX hXA hN ha0 _ _ 1 _ _ _ _ _ S (lv_sub hl [] rfl) hf hd
set_option maxHeartbeats 4000000 in
set_option maxRecDepth 100000 in
theorem w_L_act__550 {p : Program} {l : Launch} {e : Env} {s : State} {m : MethodId} {args : Array Value} {below : List Frame} {meth : Method} {c : Code} {G : Gx} {ad : Ad} {N : Nn} {adX : Ad} {a0 : Nat} {A : Nat → Prop} {res : Int32 × Sg × Sg} {n : Nat} (C : Cx p s m args meth c yL_act_.cls cL_act_ 7 (Option.some FieldType.boolean) G) (FX : F_X G adX) (hXA : ∀ q, z_X adX q → A q) (hN : N.2.2 = (0, 0)) (ha0 : ad 40 0 = a0) : ∀ n9 : Nat, ∀ (σ τ : Sg) (v4 : Int32) (v5 : Int32) (v6 : Int32) (H : Heap) (locs : List Loc) (ls : Array Slot) (cells d : Nat), q_S G ad N (x_c G adX σ) τ [] A s.heap H locs → lv_has ls 7 [(0, .ref (ad 40 0)), (1, .ref (adX 7 0)), (4, .int v4), (5, .int v5), (6, .int v6)] → f_L_act__550 n9 σ τ v4 v5 v6 = some (res.1, res.2.1, res.2.2, d) → cells + d = n → W p l e { frames := 10, cells := n, slots := 6 * n, locals := 232 } s m args below meth c H locs cells (6 * cells) (MQ below (k_Q (some (.int res.1)) (r_V G a0 adX res.2.1 res.2.2 A) A) args s n (6 * n) A) (F0 m 550 ls []) := by
  intro n9
  induction n9 with
  | zero => intro σ τ v4 v5 v6 H locs ls cells d S hl hf hd; cases hf
  | succ n9 ih =>
    intro σ τ v4 v5 v6 H locs ls cells d S hl hf hd
    rw [f_L_act__550_s] at hf
    refine lv_iload C.1 C.2.1 dL_act__550 (lv_at hl 4 rfl) ?_
    refine lv_iload C.1 C.2.1 dL_act__552 (lv_at hl 2 rfl) ?_
    refine lv_icmp_ge (tgt := 567) C.1 C.2.1 dL_act__554 (by decide) (fun c_554 => ?_) (fun c_554 => ?_)
    · rw [if_pos c_554] at hf
      exact w_L_act__567 C FX hXA hN ha0 _ _ v4 v5 _ _ _ _ _ S (lv_sub hl [0, 1, 2, 3] rfl) hf hd
    · rw [if_neg c_554] at hf
      refine lv_aload_n C.1 C.2.1 dL_act__557 rfl (lv_at hl 0 rfl) ?_
      obtain ⟨r1, τ2, c_558, d_558, q_558, hf, e_558⟩ := bqxb hf
      refine q_callV (τ' := τ2) (v := none) C S [] rfl (fun ad' he => by have h := m_L_tick l G ad' N hN τ (r1, τ2) c_558 q_558 H.size; rw [he 40 0 rfl] at h; exact h) kv_L_tick tw_7_30 ⟨(Nat.le_of_ble_eq_true rfl), (Nat.le_of_ble_eq_true rfl)⟩ rfl rfl (Nat.le_of_ble_eq_true rfl) hl.1 ⟨(show _ ≤ n from by omega), (show _ ≤ 6 * n from by omega)⟩ dL_act__558 (fun H locs S => ?_)
      replace hd := q_hd2 hd e_558
      refine lv_iinc (v := (v6 + 1)) (lv' := [(6, .int (v6 + 1)), (0, .ref (ad 40 0)), (1, .ref (adX 7 0)), (4, .int v4), (5, .int v5)]) C.1 C.2.1 dL_act__561 hl (k := 4) rfl rfl (by decide) rfl (fun ls hl => ?_)
      refine lv_goto (tgt := 550) C.1 C.2.1 dL_act__564 (by decide) ?_
      exact ih _ _ v4 v5 (v6 + 1) _ _ _ _ _ S (lv_sub hl [1, 2, 3, 4, 0] rfl) hf hd
set_option maxHeartbeats 4000000 in
set_option maxRecDepth 100000 in
theorem w_L_act__0 {p : Program} {l : Launch} {e : Env} {s : State} {m : MethodId} {args : Array Value} {below : List Frame} {meth : Method} {c : Code} {G : Gx} {ad : Ad} {N : Nn} {adX : Ad} {a0 : Nat} {A : Nat → Prop} {res : Int32 × Sg × Sg} {n : Nat} (C : Cx p s m args meth c yL_act_.cls cL_act_ 7 (Option.some FieldType.boolean) G) (FX : F_X G adX) (hXA : ∀ q, z_X adX q → A q) (hN : N.2.2 = (0, 0)) (ha0 : ad 40 0 = a0) : ∀ (σ τ : Sg) (v2 : Int32) (H : Heap) (locs : List Loc) (ls : Array Slot) (cells d : Nat), q_S G ad N (x_c G adX σ) τ [] A s.heap H locs → lv_has ls 7 [(0, .ref (ad 40 0)), (1, .ref (adX 7 0)), (2, .int v2)] → f_L_act_ σ τ v2 = some (res.1, res.2.1, res.2.2, d) → cells + d = n → W p l e { frames := 10, cells := n, slots := 6 * n, locals := 232 } s m args below meth c H locs cells (6 * cells) (MQ below (k_Q (some (.int res.1)) (r_V G a0 adX res.2.1 res.2.2 A) A) args s n (6 * n) A) (F0 m 0 ls []) := by
  intro σ τ v2 H locs ls cells d S hl hf hd
  unfold f_L_act_ at hf
  refine lv_iload_n C.1 C.2.1 dL_act__0 rfl (lv_at hl 2 rfl) ?_
  refine lv_iconst (v := 4) C.1 C.2.1 dL_act__1 (by decide) ?_
  refine lv_iconst (v := 2) C.1 C.2.1 dL_act__2 (by decide) ?_
  refine q_callK C S [.int v2, .int 4, .int 2] (k_bits l G v2 4 2 _) kv_L_bits tw_3_159 ⟨(Nat.le_of_ble_eq_true rfl), (Nat.le_of_ble_eq_true rfl)⟩ rfl rfl (Nat.le_of_ble_eq_true rfl) hl.1 ⟨(show _ ≤ n from by omega), (show _ ≤ 6 * n from by omega)⟩ dL_act__3 (fun H locs S => ?_)
  refine lv_aload_n C.1 C.2.1 dL_act__6 rfl (lv_at hl 0 rfl) ?_
  refine q_getR C S 40 0 50 0 rfl rfl rfl cf_11 0 (by decide) (qr_40_0 G τ 0) tw_4_96 dL_act__7 ?_
  refine q_size C S 0 (Or.inl (by decide)) (by decide) tw_5_190 ⟨(Nat.le_of_ble_eq_true rfl), (Nat.le_of_ble_eq_true rfl)⟩ (Nat.le_of_ble_eq_true rfl) hl.1 ⟨(show _ ≤ n from by omega), (show _ ≤ 6 * n from by omega)⟩ dL_act__10 (fun H locs S => ?_)
  obtain ⟨g_15, hf⟩ := gd hf
  refine lv_irem C.1 C.2.1 dL_act__15 g_15 ?_
  show W _ _ _ _ _ _ _ _ _ _ _ _ _ _ _ (F0 m _ ls (.int (jrem (jbits v2 4 2) (τ 50 0 2)) :: _))
  refine lv_istore_n (lv' := [(3, .int (jrem (jbits v2 4 2) (τ 50 0 2))), (0, .ref (ad 40 0)), (1, .ref (adX 7 0)), (2, .int v2)]) C.1 C.2.1 dL_act__16 rfl hl (by decide) rfl (fun ls hl => ?_)
  refine lv_iload_n C.1 C.2.1 dL_act__17 rfl (lv_at hl 3 rfl) ?_
  refine lv_iconst (v := 0) C.1 C.2.1 dL_act__18 (by decide) ?_
  refine lv_iconst (v := 4) C.1 C.2.1 dL_act__19 (by decide) ?_
  refine q_callK C S [.int v2, .int 0, .int 4] (k_bits l G v2 0 4 _) kv_L_bits tw_3_159 ⟨(Nat.le_of_ble_eq_true rfl), (Nat.le_of_ble_eq_true rfl)⟩ rfl rfl (Nat.le_of_ble_eq_true rfl) hl.1 ⟨(show _ ≤ n from by omega), (show _ ≤ 6 * n from by omega)⟩ dL_act__20 (fun H locs S => ?_)
  by_cases q_23_0 : (jbits v2 0 4) = 0
  · rw [if_pos q_23_0] at hf
    refine lv_tableIn (off := 37) (tgt := 60) C.1 C.2.1 dL_act__23 (by rw [q_23_0]; decide) (by rw [q_23_0]; decide) (by rw [q_23_0]; decide) (by decide) ?_
    refine lv_aload_n C.1 C.2.1 dL_act__60 rfl (lv_at hl 1 rfl) ?_
    refine q_getR C S 40 0 50 0 rfl rfl rfl cf_11 0 (by decide) (qr_40_0 G τ 0) tw_4_96 dL_act__61 ?_
    refine lv_iload_n C.1 C.2.1 dL_act__64 rfl (lv_at hl 0 rfl) ?_
    obtain ⟨g_65, hf⟩ := gd hf
    have ob_65 := q_ltN S (Or.inl (by decide)) (q_glt g_65)
    refine q_get C S 0 (Or.inl (by decide)) (by decide) g_65 tw_5_199 ⟨(Nat.le_of_ble_eq_true rfl), (Nat.le_of_ble_eq_true rfl)⟩ (Nat.le_of_ble_eq_true rfl) hl.1 ⟨(show _ ≤ n from by omega), (show _ ≤ 6 * n from by omega)⟩ dL_act__65 (fun H locs S => ?_)
    refine q_cast C S 41 (((jrem (jbits v2 4 2) (τ 50 0 2))).toNatClampNeg) rfl ob_65 "BusLiftsLaw$Car" (fun _ => Or.inl ⟨_, _, _, _, rfl, rfl⟩) tw_3_162 dL_act__70 ?_
    refine q_getIN C S 41 (((jrem (jbits v2 4 2) (τ 50 0 2))).toNatClampNeg) rfl ob_65 cf_9 6 (by decide) (qi_41_6 G τ (((jrem (jbits v2 4 2) (τ 50 0 2))).toNatClampNeg)) (List.mem_of_getElem? (i := 17) rfl) dL_act__73 ?_
    refine lv_istore (lv' := [(4, .int (τ 41 (((jrem (jbits v2 4 2) (τ 50 0 2))).toNatClampNeg) 3)), (3, .int (jrem (jbits v2 4 2) (τ 50 0 2))), (0, .ref (ad 40 0)), (1, .ref (adX 7 0)), (2, .int v2)]) C.1 C.2.1 dL_act__76 hl (by decide) rfl (fun ls hl => ?_)
    refine lv_aload_n C.1 C.2.1 dL_act__78 rfl (lv_at hl 2 rfl) ?_
    refine q_getR C S 40 0 50 0 rfl rfl rfl cf_11 0 (by decide) (qr_40_0 G τ 0) tw_4_96 dL_act__79 ?_
    refine lv_iload_n C.1 C.2.1 dL_act__82 rfl (lv_at hl 1 rfl) ?_
    obtain ⟨g_83, hf⟩ := gd hf
    have ob_83 := q_ltN S (Or.inl (by decide)) (q_glt g_83)
    refine q_get C S 0 (Or.inl (by decide)) (by decide) g_83 tw_5_199 ⟨(Nat.le_of_ble_eq_true rfl), (Nat.le_of_ble_eq_true rfl)⟩ (Nat.le_of_ble_eq_true rfl) hl.1 ⟨(show _ ≤ n from by omega), (show _ ≤ 6 * n from by omega)⟩ dL_act__83 (fun H locs S => ?_)
    refine q_cast C S 41 (((jrem (jbits v2 4 2) (τ 50 0 2))).toNatClampNeg) rfl ob_83 "BusLiftsLaw$Car" (fun _ => Or.inl ⟨_, _, _, _, rfl, rfl⟩) tw_3_162 dL_act__88 ?_
    refine lv_iload C.1 C.2.1 dL_act__91 (lv_at hl 0 rfl) ?_
    refine lv_if_ne (tgt := 111) C.1 C.2.1 dL_act__93 (by decide) (fun c_93 => ?_) (fun c_93 => ?_)
    · rw [if_neg c_93] at hf
      exact w_L_act__111 C FX hXA hN ha0 _ _ (jrem (jbits v2 4 2) (τ 50 0 2)) (τ 41 (((jrem (jbits v2 4 2) (τ 50 0 2))).toNatClampNeg) 3) (((jrem (jbits v2 4 2) (τ 50 0 2))).toNatClampNeg) _ _ _ _ _ S (lv_sub hl [2, 3, 1, 0] rfl) ob_83 hf hd
    · rw [if_pos c_93] at hf
      refine lv_iload_n C.1 C.2.1 dL_act__96 rfl (lv_at hl 4 rfl) ?_
      refine lv_bipush (v := 6) C.1 C.2.1 dL_act__97 (by decide) ?_
      refine lv_iconst (v := 1) C.1 C.2.1 dL_act__99 (by decide) ?_
      refine q_callK C S [.int v2, .int 6, .int 1] (k_bits l G v2 6 1 _) kv_L_bits tw_3_159 ⟨(Nat.le_of_ble_eq_true rfl), (Nat.le_of_ble_eq_true rfl)⟩ rfl rfl (Nat.le_of_ble_eq_true rfl) hl.1 ⟨(show _ ≤ n from by omega), (show _ ≤ 6 * n from by omega)⟩ dL_act__100 (fun H locs S => ?_)
      refine lv_iconst (v := 1) C.1 C.2.1 dL_act__103 (by decide) ?_
      refine lv_icmp_ne (tgt := 111) C.1 C.2.1 dL_act__104 (by decide) (fun c_104 => ?_) (fun c_104 => ?_)
      · rw [if_neg c_104] at hf
        exact w_L_act__111 C FX hXA hN ha0 _ _ (jrem (jbits v2 4 2) (τ 50 0 2)) (τ 41 (((jrem (jbits v2 4 2) (τ 50 0 2))).toNatClampNeg) 3) (((jrem (jbits v2 4 2) (τ 50 0 2))).toNatClampNeg) _ _ _ _ _ S (lv_sub hl [2, 3, 1, 0] rfl) ob_83 hf hd
      · rw [if_pos c_104] at hf
        refine lv_iconst (v := 1) C.1 C.2.1 dL_act__107 (by decide) ?_
        refine lv_goto (tgt := 112) C.1 C.2.1 dL_act__108 (by decide) ?_
        exact w_L_act__112 C FX hXA hN ha0 _ _ (jrem (jbits v2 4 2) (τ 50 0 2)) (τ 41 (((jrem (jbits v2 4 2) (τ 50 0 2))).toNatClampNeg) 3) (((jrem (jbits v2 4 2) (τ 50 0 2))).toNatClampNeg) 1 _ _ _ _ _ S (lv_sub hl [2, 3, 1, 0] rfl) ob_83 hf hd
  · rw [if_neg q_23_0] at hf
    by_cases q_23_1 : (jbits v2 0 4) = 1
    · rw [if_pos q_23_1] at hf
      refine lv_tableIn (off := 190) (tgt := 213) C.1 C.2.1 dL_act__23 (by rw [q_23_1]; decide) (by rw [q_23_1]; decide) (by rw [q_23_1]; decide) (by decide) ?_
      refine lv_aload_n C.1 C.2.1 dL_act__213 rfl (lv_at hl 1 rfl) ?_
      refine q_getR C S 40 0 50 0 rfl rfl rfl cf_11 0 (by decide) (qr_40_0 G τ 0) tw_4_96 dL_act__214 ?_
      refine lv_iload_n C.1 C.2.1 dL_act__217 rfl (lv_at hl 0 rfl) ?_
      obtain ⟨g_218, hf⟩ := gd hf
      have ob_218 := q_ltN S (Or.inl (by decide)) (q_glt g_218)
      refine q_get C S 0 (Or.inl (by decide)) (by decide) g_218 tw_5_199 ⟨(Nat.le_of_ble_eq_true rfl), (Nat.le_of_ble_eq_true rfl)⟩ (Nat.le_of_ble_eq_true rfl) hl.1 ⟨(show _ ≤ n from by omega), (show _ ≤ 6 * n from by omega)⟩ dL_act__218 (fun H locs S => ?_)
      refine q_cast C S 41 (((jrem (jbits v2 4 2) (τ 50 0 2))).toNatClampNeg) rfl ob_218 "BusLiftsLaw$Car" (fun _ => Or.inl ⟨_, _, _, _, rfl, rfl⟩) tw_3_162 dL_act__223 ?_
      refine q_getIN C S 41 (((jrem (jbits v2 4 2) (τ 50 0 2))).toNatClampNeg) rfl ob_218 cf_9 7 (by decide) (qi_41_7 G τ (((jrem (jbits v2 4 2) (τ 50 0 2))).toNatClampNeg)) (List.mem_of_getElem? (i := 18) rfl) dL_act__226 ?_
      refine lv_istore (lv' := [(4, .int (τ 41 (((jrem (jbits v2 4 2) (τ 50 0 2))).toNatClampNeg) 4)), (3, .int (jrem (jbits v2 4 2) (τ 50 0 2))), (0, .ref (ad 40 0)), (1, .ref (adX 7 0)), (2, .int v2)]) C.1 C.2.1 dL_act__229 hl (by decide) rfl (fun ls hl => ?_)
      refine lv_aload_n C.1 C.2.1 dL_act__231 rfl (lv_at hl 2 rfl) ?_
      refine q_getR C S 40 0 50 0 rfl rfl rfl cf_11 0 (by decide) (qr_40_0 G τ 0) tw_4_96 dL_act__232 ?_
      refine lv_iload_n C.1 C.2.1 dL_act__235 rfl (lv_at hl 1 rfl) ?_
      obtain ⟨g_236, hf⟩ := gd hf
      have ob_236 := q_ltN S (Or.inl (by decide)) (q_glt g_236)
      refine q_get C S 0 (Or.inl (by decide)) (by decide) g_236 tw_5_199 ⟨(Nat.le_of_ble_eq_true rfl), (Nat.le_of_ble_eq_true rfl)⟩ (Nat.le_of_ble_eq_true rfl) hl.1 ⟨(show _ ≤ n from by omega), (show _ ≤ 6 * n from by omega)⟩ dL_act__236 (fun H locs S => ?_)
      refine q_cast C S 41 (((jrem (jbits v2 4 2) (τ 50 0 2))).toNatClampNeg) rfl ob_236 "BusLiftsLaw$Car" (fun _ => Or.inl ⟨_, _, _, _, rfl, rfl⟩) tw_3_162 dL_act__241 ?_
      refine lv_iload C.1 C.2.1 dL_act__244 (lv_at hl 0 rfl) ?_
      refine lv_if_ne (tgt := 264) C.1 C.2.1 dL_act__246 (by decide) (fun c_246 => ?_) (fun c_246 => ?_)
      · rw [if_neg c_246] at hf
        exact w_L_act__264 C FX hXA hN ha0 _ _ (jrem (jbits v2 4 2) (τ 50 0 2)) (τ 41 (((jrem (jbits v2 4 2) (τ 50 0 2))).toNatClampNeg) 4) (((jrem (jbits v2 4 2) (τ 50 0 2))).toNatClampNeg) _ _ _ _ _ S (lv_sub hl [2, 3, 1, 0] rfl) ob_236 hf hd
      · rw [if_pos c_246] at hf
        refine lv_iload_n C.1 C.2.1 dL_act__249 rfl (lv_at hl 4 rfl) ?_
        refine lv_bipush (v := 6) C.1 C.2.1 dL_act__250 (by decide) ?_
        refine lv_iconst (v := 1) C.1 C.2.1 dL_act__252 (by decide) ?_
        refine q_callK C S [.int v2, .int 6, .int 1] (k_bits l G v2 6 1 _) kv_L_bits tw_3_159 ⟨(Nat.le_of_ble_eq_true rfl), (Nat.le_of_ble_eq_true rfl)⟩ rfl rfl (Nat.le_of_ble_eq_true rfl) hl.1 ⟨(show _ ≤ n from by omega), (show _ ≤ 6 * n from by omega)⟩ dL_act__253 (fun H locs S => ?_)
        refine lv_iconst (v := 1) C.1 C.2.1 dL_act__256 (by decide) ?_
        refine lv_icmp_ne (tgt := 264) C.1 C.2.1 dL_act__257 (by decide) (fun c_257 => ?_) (fun c_257 => ?_)
        · rw [if_neg c_257] at hf
          exact w_L_act__264 C FX hXA hN ha0 _ _ (jrem (jbits v2 4 2) (τ 50 0 2)) (τ 41 (((jrem (jbits v2 4 2) (τ 50 0 2))).toNatClampNeg) 4) (((jrem (jbits v2 4 2) (τ 50 0 2))).toNatClampNeg) _ _ _ _ _ S (lv_sub hl [2, 3, 1, 0] rfl) ob_236 hf hd
        · rw [if_pos c_257] at hf
          refine lv_iconst (v := 1) C.1 C.2.1 dL_act__260 (by decide) ?_
          refine lv_goto (tgt := 265) C.1 C.2.1 dL_act__261 (by decide) ?_
          exact w_L_act__265 C FX hXA hN ha0 _ _ (jrem (jbits v2 4 2) (τ 50 0 2)) (τ 41 (((jrem (jbits v2 4 2) (τ 50 0 2))).toNatClampNeg) 4) (((jrem (jbits v2 4 2) (τ 50 0 2))).toNatClampNeg) 1 _ _ _ _ _ S (lv_sub hl [2, 3, 1, 0] rfl) ob_236 hf hd
    · rw [if_neg q_23_1] at hf
      by_cases q_23_2 : (jbits v2 0 4) = 2
      · rw [if_pos q_23_2] at hf
        refine lv_tableIn (off := 277) (tgt := 300) C.1 C.2.1 dL_act__23 (by rw [q_23_2]; decide) (by rw [q_23_2]; decide) (by rw [q_23_2]; decide) (by decide) ?_
        refine lv_aload_n C.1 C.2.1 dL_act__300 rfl (lv_at hl 1 rfl) ?_
        refine q_getI C S 40 0 rfl rfl cf_11 8 (by decide) (qi_40_8 G τ 0) tw_4_104 dL_act__301 ?_
        refine lv_istore (lv' := [(4, .int (τ 40 0 8)), (3, .int (jrem (jbits v2 4 2) (τ 50 0 2))), (0, .ref (ad 40 0)), (1, .ref (adX 7 0)), (2, .int v2)]) C.1 C.2.1 dL_act__304 hl (by decide) rfl (fun ls hl => ?_)
        refine lv_aload_n C.1 C.2.1 dL_act__306 rfl (lv_at hl 2 rfl) ?_
        refine lv_iload_n C.1 C.2.1 dL_act__307 rfl (lv_at hl 4 rfl) ?_
        refine lv_bipush (v := 6) C.1 C.2.1 dL_act__308 (by decide) ?_
        refine lv_bipush (v := 6) C.1 C.2.1 dL_act__310 (by decide) ?_
        refine q_callK C S [.int v2, .int 6, .int 6] (k_bits l G v2 6 6 _) kv_L_bits tw_3_159 ⟨(Nat.le_of_ble_eq_true rfl), (Nat.le_of_ble_eq_true rfl)⟩ rfl rfl (Nat.le_of_ble_eq_true rfl) hl.1 ⟨(show _ ≤ n from by omega), (show _ ≤ 6 * n from by omega)⟩ dL_act__312 (fun H locs S => ?_)
        obtain ⟨τ1, e_315, hf⟩ := stb hf
        refine q_putI C S 40 0 8 rfl rfl rfl cf_11 8 (by decide) (qp_40_8 G τ 0 _) rfl rfl rfl tw_4_104 dL_act__315 (fun H locs S => ?_)
        rw [← e_315] at S
        refine lv_aload_n C.1 C.2.1 dL_act__318 rfl (lv_at hl 3 rfl) ?_
        refine lv_iconst (v := 0) C.1 C.2.1 dL_act__319 (by decide) ?_
        refine lv_aload_n C.1 C.2.1 dL_act__320 rfl (lv_at hl 2 rfl) ?_
        refine q_getI C S 40 0 rfl rfl cf_11 8 (by decide) (qi_40_8 G τ1 0) tw_4_104 dL_act__321 ?_
        obtain ⟨r2, σ3, q_324, hf⟩ := bib hf
        refine q_callXI C FX hXA S rfl [.int 0, .int (τ1 40 0 8)] (m_X7_set l G adX σ 0 (τ1 40 0 8) r2 σ3 q_324 _) kv_X7_set tw_6_220 ⟨(Nat.le_of_ble_eq_true rfl), (Nat.le_of_ble_eq_true rfl)⟩ rfl rfl (Nat.le_of_ble_eq_true rfl) hl.1 ⟨(show _ ≤ n from by omega), (show _ ≤ 6 * n from by omega)⟩ dL_act__324 (fun H locs S => ?_)
        refine lv_iload C.1 C.2.1 dL_act__327 (lv_at hl 0 rfl) ?_
        refine lv_icmp_ne (tgt := 336) C.1 C.2.1 dL_act__329 (by decide) (fun c_329 => ?_) (fun c_329 => ?_)
        · rw [if_neg c_329] at hf
          refine lv_iconst (v := 0) C.1 C.2.1 dL_act__336 (by decide) ?_
          exact w_L_act__337 C FX hXA hN ha0 _ _ 0 _ _ _ _ _ S (lv_sub hl [] rfl) hf hd
        · rw [if_pos c_329] at hf
          refine lv_iconst (v := 1) C.1 C.2.1 dL_act__332 (by decide) ?_
          refine lv_goto (tgt := 337) C.1 C.2.1 dL_act__333 (by decide) ?_
          exact w_L_act__337 C FX hXA hN ha0 _ _ 1 _ _ _ _ _ S (lv_sub hl [] rfl) hf hd
      · rw [if_neg q_23_2] at hf
        by_cases q_23_3 : (jbits v2 0 4) = 3
        · rw [if_pos q_23_3] at hf
          refine lv_tableIn (off := 315) (tgt := 338) C.1 C.2.1 dL_act__23 (by rw [q_23_3]; decide) (by rw [q_23_3]; decide) (by rw [q_23_3]; decide) (by decide) ?_
          refine lv_iload_n C.1 C.2.1 dL_act__338 rfl (lv_at hl 3 rfl) ?_
          refine lv_bipush (v := 6) C.1 C.2.1 dL_act__339 (by decide) ?_
          refine lv_iconst (v := 5) C.1 C.2.1 dL_act__341 (by decide) ?_
          refine q_callK C S [.int v2, .int 6, .int 5] (k_bits l G v2 6 5 _) kv_L_bits tw_3_159 ⟨(Nat.le_of_ble_eq_true rfl), (Nat.le_of_ble_eq_true rfl)⟩ rfl rfl (Nat.le_of_ble_eq_true rfl) hl.1 ⟨(show _ ≤ n from by omega), (show _ ≤ 6 * n from by omega)⟩ dL_act__342 (fun H locs S => ?_)
          refine lv_aload_n C.1 C.2.1 dL_act__345 rfl (lv_at hl 1 rfl) ?_
          refine q_getR C S 40 0 50 1 rfl rfl rfl cf_11 1 (by decide) (qr_40_1 G τ 0) tw_4_97 dL_act__346 ?_
          refine q_size C S 1 (Or.inl (by decide)) (by decide) tw_5_190 ⟨(Nat.le_of_ble_eq_true rfl), (Nat.le_of_ble_eq_true rfl)⟩ (Nat.le_of_ble_eq_true rfl) hl.1 ⟨(show _ ≤ n from by omega), (show _ ≤ 6 * n from by omega)⟩ dL_act__349 (fun H locs S => ?_)
          obtain ⟨g_354, hf⟩ := gd hf
          refine lv_irem C.1 C.2.1 dL_act__354 g_354 ?_
          show W _ _ _ _ _ _ _ _ _ _ _ _ _ _ _ (F0 m _ ls (.int (jrem (jbits v2 6 5) (τ 50 1 2)) :: _))
          refine lv_istore (lv' := [(4, .int (jrem (jbits v2 6 5) (τ 50 1 2))), (3, .int (jrem (jbits v2 4 2) (τ 50 0 2))), (0, .ref (ad 40 0)), (1, .ref (adX 7 0)), (2, .int v2)]) C.1 C.2.1 dL_act__355 hl (by decide) rfl (fun ls hl => ?_)
          refine lv_aload_n C.1 C.2.1 dL_act__357 rfl (lv_at hl 2 rfl) ?_
          refine q_getR C S 40 0 50 1 rfl rfl rfl cf_11 1 (by decide) (qr_40_1 G τ 0) tw_4_97 dL_act__358 ?_
          refine lv_iload C.1 C.2.1 dL_act__361 (lv_at hl 0 rfl) ?_
          obtain ⟨g_363, hf⟩ := gd hf
          have ob_363 := q_ltN S (Or.inl (by decide)) (q_glt g_363)
          refine q_get C S 1 (Or.inl (by decide)) (by decide) g_363 tw_5_199 ⟨(Nat.le_of_ble_eq_true rfl), (Nat.le_of_ble_eq_true rfl)⟩ (Nat.le_of_ble_eq_true rfl) hl.1 ⟨(show _ ≤ n from by omega), (show _ ≤ 6 * n from by omega)⟩ dL_act__363 (fun H locs S => ?_)
          refine q_cast C S 42 (((jrem (jbits v2 6 5) (τ 50 1 2))).toNatClampNeg) rfl ob_363 "BusLiftsLaw$Call" (fun _ => Or.inl ⟨_, _, _, _, rfl, rfl⟩) tw_4_19 dL_act__368 ?_
          refine q_getRN C S 42 (((jrem (jbits v2 6 5) (τ 50 1 2))).toNatClampNeg) 45 (((jrem (jbits v2 6 5) (τ 50 1 2))).toNatClampNeg) rfl rfl ob_363 cf_8 11 (by decide) (qr_42_11 G τ (((jrem (jbits v2 6 5) (τ 50 1 2))).toNatClampNeg)) (List.mem_of_getElem? (i := 38) rfl) dL_act__371 ?_
          refine lv_iload_n C.1 C.2.1 dL_act__374 rfl (lv_at hl 1 rfl) ?_
          obtain ⟨g_375, hf⟩ := gd hf
          refine q_by C S (((jrem (jbits v2 6 5) (τ 50 1 2))).toNatClampNeg) ob_363 g_375 dL_act__375 ?_
          refine lv_astore (lv' := [(5, .ref (ad 43 (4 * (((jrem (jbits v2 6 5) (τ 50 1 2))).toNatClampNeg) + ((jrem (jbits v2 4 2) (τ 50 0 2))).toNatClampNeg))), (4, .int (jrem (jbits v2 6 5) (τ 50 1 2))), (3, .int (jrem (jbits v2 4 2) (τ 50 0 2))), (0, .ref (ad 40 0)), (1, .ref (adX 7 0)), (2, .int v2)]) C.1 C.2.1 dL_act__376 hl (by decide) rfl (fun ls hl => ?_)
          refine lv_aload C.1 C.2.1 dL_act__378 (lv_at hl 0 rfl) ?_
          refine q_getIN C S 43 (4 * (((jrem (jbits v2 6 5) (τ 50 1 2))).toNatClampNeg) + ((jrem (jbits v2 4 2) (τ 50 0 2))).toNatClampNeg) rfl (q_lt4 ob_363 g_375) cf_10 0 (by decide) (qi_43_0 G τ (4 * (((jrem (jbits v2 6 5) (τ 50 1 2))).toNatClampNeg) + ((jrem (jbits v2 4 2) (τ 50 0 2))).toNatClampNeg)) (List.mem_of_getElem? (i := 22) rfl) dL_act__380 ?_
          refine lv_if_ne (tgt := 388) C.1 C.2.1 dL_act__383 (by decide) (fun c_383 => ?_) (fun c_383 => ?_)
          · rw [if_neg c_383] at hf
            refine lv_aload C.1 C.2.1 dL_act__388 (lv_at hl 0 rfl) ?_
            refine lv_iconst (v := 0) C.1 C.2.1 dL_act__390 (by decide) ?_
            obtain ⟨τ4, e_391, hf⟩ := stb hf
            refine q_putIN C S 43 (4 * (((jrem (jbits v2 6 5) (τ 50 1 2))).toNatClampNeg) + ((jrem (jbits v2 4 2) (τ 50 0 2))).toNatClampNeg) 0 rfl rfl (q_lt4 ob_363 g_375) cf_10 0 (by decide) (qp_43_0 G τ (4 * (((jrem (jbits v2 6 5) (τ 50 1 2))).toNatClampNeg) + ((jrem (jbits v2 4 2) (τ 50 0 2))).toNatClampNeg) _) rfl rfl rfl (List.mem_of_getElem? (i := 22) rfl) dL_act__391 (fun H locs S => ?_)
            rw [← e_391] at S
            refine lv_aload C.1 C.2.1 dL_act__394 (lv_at hl 0 rfl) ?_
            refine lv_iconst (v := (-1)) C.1 C.2.1 dL_act__396 (by decide) ?_
            obtain ⟨τ5, e_397, hf⟩ := stb hf
            refine q_putIN C S 43 (4 * (((jrem (jbits v2 6 5) (τ 50 1 2))).toNatClampNeg) + ((jrem (jbits v2 4 2) (τ 50 0 2))).toNatClampNeg) 2 rfl rfl (q_lt4 ob_363 g_375) cf_10 2 (by decide) (qp_43_2 G τ4 (4 * (((jrem (jbits v2 6 5) (τ 50 1 2))).toNatClampNeg) + ((jrem (jbits v2 4 2) (τ 50 0 2))).toNatClampNeg) _) rfl rfl rfl (List.mem_of_getElem? (i := 24) rfl) dL_act__397 (fun H locs S => ?_)
            rw [← e_397] at S
            refine lv_aload_n C.1 C.2.1 dL_act__400 rfl (lv_at hl 4 rfl) ?_
            refine lv_iload_n C.1 C.2.1 dL_act__401 rfl (lv_at hl 2 rfl) ?_
            refine lv_iload C.1 C.2.1 dL_act__402 (lv_at hl 1 rfl) ?_
            obtain ⟨r6, σ7, q_404, hf⟩ := bib hf
            refine q_callXI C FX hXA S rfl [.int (jrem (jbits v2 4 2) (τ 50 0 2)), .int (jrem (jbits v2 6 5) (τ 50 1 2))] (m_X7_forget l G adX σ (jrem (jbits v2 4 2) (τ 50 0 2)) (jrem (jbits v2 6 5) (τ 50 1 2)) r6 σ7 q_404 _) kv_X7_forget tw_6_226 ⟨(Nat.le_of_ble_eq_true rfl), (Nat.le_of_ble_eq_true rfl)⟩ rfl rfl (Nat.le_of_ble_eq_true rfl) hl.1 ⟨(show _ ≤ n from by omega), (show _ ≤ 6 * n from by omega)⟩ dL_act__404 (fun H locs S => ?_)
            refine lv_aload_n C.1 C.2.1 dL_act__407 rfl (lv_at hl 3 rfl) ?_
            refine lv_iload_n C.1 C.2.1 dL_act__408 rfl (lv_at hl 2 rfl) ?_
            obtain ⟨r8, τ9, c_409, d_409, q_409, hf, e_409⟩ := bqxb hf
            refine q_callV (τ' := τ9) (v := (some (.int r8))) C S [.int (jrem (jbits v2 4 2) (τ 50 0 2))] rfl (fun ad' he => by have h := m_L_held l G ad' N τ5 (jrem (jbits v2 4 2) (τ 50 0 2)) (r8, τ9) c_409 q_409 H.size; rw [he 40 0 rfl] at h; exact h) kv_L_held tw_6_75 ⟨(Nat.le_of_ble_eq_true rfl), (Nat.le_of_ble_eq_true rfl)⟩ rfl rfl (Nat.le_of_ble_eq_true rfl) hl.1 ⟨(show _ ≤ n from by omega), (show _ ≤ 6 * n from by omega)⟩ dL_act__409 (fun H locs S => ?_)
            replace hd := q_hd2 hd e_409
            refine lv_icmp_ne (tgt := 419) C.1 C.2.1 dL_act__412 (by decide) (fun c_412 => ?_) (fun c_412 => ?_)
            · rw [if_neg c_412] at hf
              refine lv_iconst (v := 0) C.1 C.2.1 dL_act__419 (by decide) ?_
              exact w_L_act__420 C FX hXA hN ha0 _ _ 0 _ _ _ _ _ S (lv_sub hl [] rfl) hf hd
            · rw [if_pos c_412] at hf
              refine lv_iconst (v := 1) C.1 C.2.1 dL_act__415 (by decide) ?_
              refine lv_goto (tgt := 420) C.1 C.2.1 dL_act__416 (by decide) ?_
              exact w_L_act__420 C FX hXA hN ha0 _ _ 1 _ _ _ _ _ S (lv_sub hl [] rfl) hf hd
          · rw [if_pos c_383] at hf
            refine lv_iconst (v := 1) C.1 C.2.1 dL_act__386 (by decide) ?_
            exact b_zret C S hN ha0 rfl hf hd dL_act__387
        · rw [if_neg q_23_3] at hf
          by_cases q_23_4 : (jbits v2 0 4) = 4
          · rw [if_pos q_23_4] at hf
            refine lv_tableIn (off := 398) (tgt := 421) C.1 C.2.1 dL_act__23 (by rw [q_23_4]; decide) (by rw [q_23_4]; decide) (by rw [q_23_4]; decide) (by decide) ?_
            exact w_L_act__421 C FX hXA hN ha0 _ _ v2 _ _ _ _ _ S (lv_sub hl [1, 2, 3] rfl) hf hd
          · rw [if_neg q_23_4] at hf
            by_cases q_23_5 : (jbits v2 0 4) = 5
            · rw [if_pos q_23_5] at hf
              refine lv_tableIn (off := 398) (tgt := 421) C.1 C.2.1 dL_act__23 (by rw [q_23_5]; decide) (by rw [q_23_5]; decide) (by rw [q_23_5]; decide) (by decide) ?_
              exact w_L_act__421 C FX hXA hN ha0 _ _ v2 _ _ _ _ _ S (lv_sub hl [1, 2, 3] rfl) hf hd
            · rw [if_neg q_23_5] at hf
              refine lv_tableOut (tgt := 530) C.1 C.2.1 dL_act__23 (tsw0_5 q_23_0 q_23_1 q_23_2 q_23_3 q_23_4 q_23_5) (by decide) ?_
              refine lv_iconst (v := 1) C.1 C.2.1 dL_act__530 (by decide) ?_
              refine lv_iload_n C.1 C.2.1 dL_act__531 rfl (lv_at hl 3 rfl) ?_
              refine lv_bipush (v := 6) C.1 C.2.1 dL_act__532 (by decide) ?_
              refine lv_iconst (v := 2) C.1 C.2.1 dL_act__534 (by decide) ?_
              refine q_callK C S [.int v2, .int 6, .int 2] (k_bits l G v2 6 2 _) kv_L_bits tw_3_159 ⟨(Nat.le_of_ble_eq_true rfl), (Nat.le_of_ble_eq_true rfl)⟩ rfl rfl (Nat.le_of_ble_eq_true rfl) hl.1 ⟨(show _ ≤ n from by omega), (show _ ≤ 6 * n from by omega)⟩ dL_act__535 (fun H locs S => ?_)
              refine lv_iadd C.1 C.2.1 dL_act__538 ?_
              refine lv_istore (lv' := [(4, .int (1 + (jbits v2 6 2))), (3, .int (jrem (jbits v2 4 2) (τ 50 0 2))), (0, .ref (ad 40 0)), (1, .ref (adX 7 0)), (2, .int v2)]) C.1 C.2.1 dL_act__539 hl (by decide) rfl (fun ls hl => ?_)
              refine lv_aload_n C.1 C.2.1 dL_act__541 rfl (lv_at hl 2 rfl) ?_
              obtain ⟨r10, τ11, c_542, d_542, q_542, hf, e_542⟩ := bqxb hf
              refine q_callV (τ' := τ11) (v := (some (.int r10))) C S [] rfl (fun ad' he => by have h := m_L_done l G ad' N τ (r10, τ11) c_542 q_542 H.size; rw [he 40 0 rfl] at h; exact h) kv_L_done tw_6_194 ⟨(Nat.le_of_ble_eq_true rfl), (Nat.le_of_ble_eq_true rfl)⟩ rfl rfl (Nat.le_of_ble_eq_true rfl) hl.1 ⟨(show _ ≤ n from by omega), (show _ ≤ 6 * n from by omega)⟩ dL_act__542 (fun H locs S => ?_)
              replace hd := q_hd2 hd e_542
              refine lv_istore (lv' := [(5, .int r10), (4, .int (1 + (jbits v2 6 2))), (3, .int (jrem (jbits v2 4 2) (τ 50 0 2))), (0, .ref (ad 40 0)), (1, .ref (adX 7 0)), (2, .int v2)]) C.1 C.2.1 dL_act__545 hl (by decide) rfl (fun ls hl => ?_)
              refine lv_iconst (v := 0) C.1 C.2.1 dL_act__547 (by decide) ?_
              refine lv_istore (lv' := [(6, .int 0), (5, .int r10), (4, .int (1 + (jbits v2 6 2))), (3, .int (jrem (jbits v2 4 2) (τ 50 0 2))), (0, .ref (ad 40 0)), (1, .ref (adX 7 0)), (2, .int v2)]) C.1 C.2.1 dL_act__548 hl (by decide) rfl (fun ls hl => ?_)
              exact w_L_act__550 C FX hXA hN ha0 FU _ _ (1 + (jbits v2 6 2)) r10 0 _ _ _ _ _ S (lv_sub hl [4, 5, 2, 1, 0] rfl) hf hd
theorem kv_L_act_ : KV yL_act_ cL_act_ 7 (Option.some FieldType.boolean) 2 := ⟨tw_6_201, tw_6_200, tw_p_27, tw_1_0, by decide, by decide, by decide +kernel⟩
theorem m_L_act_ (l : Launch) (G : Gx) (ad : Ad) (N : Nn) (adX : Ad) (FX : F_X G adX) (hN : N.2.2 = (0, 0)) (σ τ : Sg) (v2 : Int32) (res : Int32 × Sg × Sg) (n : Nat) (hf : f_L_act_ σ τ v2 = some (res.1, res.2.1, res.2.2, n)) (sz : Nat) : b_M l yL_act_ cL_act_ 7 (Option.some FieldType.boolean) 10 232 n G ad N adX σ τ sz [.ref (ad 40 0), .ref (adX 7 0), .int v2] (some (.int res.1)) res.2.1 res.2.2 := by
  refine b_begin (by decide +kernel) (Nat.le_of_ble_eq_true rfl) [(0, .ref (ad 40 0)), (1, .ref (adX 7 0)), (2, .int v2)] rfl (fun p e s m args below meth c ls A hXA C hz S hl => ?_)
  subst hz
  exact w_L_act__0 C FX hXA hN rfl _ _ v2 _ _ _ _ _ S hl hf (Nat.zero_add _)

