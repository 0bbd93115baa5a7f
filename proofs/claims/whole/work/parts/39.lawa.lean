theorem dL_law_284 : decode cL_law 284 = .ok (.aload_n 1, 1) := by decide +kernel
theorem dL_law_285 : decode cL_law 285 = .ok (.aload_n 0, 1) := by decide +kernel
theorem dL_law_286 : decode cL_law 286 = .ok (.iload 5, 2) := by decide +kernel
theorem dL_law_288 : decode cL_law 288 = .ok (.iconst 1, 1) := by decide +kernel
theorem dL_law_289 : decode cL_law 289 = .ok (.iadd, 1) := by decide +kernel
theorem dL_law_290 : decode cL_law 290 = .ok (.iaload, 1) := by decide +kernel
theorem dL_law_291 : decode cL_law 291 = .ok (.aload_n 0, 1) := by decide +kernel
theorem dL_law_292 : decode cL_law 292 = .ok (.iload 5, 2) := by decide +kernel
theorem dL_law_294 : decode cL_law 294 = .ok (.iconst 2, 1) := by decide +kernel
theorem dL_law_295 : decode cL_law 295 = .ok (.iadd, 1) := by decide +kernel
theorem dL_law_296 : decode cL_law 296 = .ok (.iaload, 1) := by decide +kernel
theorem dL_law_297 : decode cL_law 297 = .ok (.aload_n 0, 1) := by decide +kernel
theorem dL_law_298 : decode cL_law 298 = .ok (.iload 5, 2) := by decide +kernel
theorem dL_law_300 : decode cL_law 300 = .ok (.iconst 3, 1) := by decide +kernel
theorem dL_law_301 : decode cL_law 301 = .ok (.iadd, 1) := by decide +kernel
theorem dL_law_302 : decode cL_law 302 = .ok (.iaload, 1) := by decide +kernel
theorem dL_law_303 : decode cL_law 303 = .ok (.aload_n 0, 1) := by decide +kernel
theorem dL_law_304 : decode cL_law 304 = .ok (.iload 5, 2) := by decide +kernel
theorem dL_law_306 : decode cL_law 306 = .ok (.iconst 4, 1) := by decide +kernel
theorem dL_law_307 : decode cL_law 307 = .ok (.iadd, 1) := by decide +kernel
theorem dL_law_308 : decode cL_law 308 = .ok (.iaload, 1) := by decide +kernel
theorem dL_law_309 : decode cL_law 309 = .ok (.aload_n 0, 1) := by decide +kernel
theorem dL_law_310 : decode cL_law 310 = .ok (.iload 5, 2) := by decide +kernel
theorem dL_law_312 : decode cL_law 312 = .ok (.iconst 5, 1) := by decide +kernel
theorem dL_law_313 : decode cL_law 313 = .ok (.iadd, 1) := by decide +kernel
theorem dL_law_314 : decode cL_law 314 = .ok (.iaload, 1) := by decide +kernel
theorem dL_law_315 : decode cL_law 315 = .ok (.invokevirtual 141, 3) := by decide +kernel
theorem dL_law_318 : decode cL_law 318 = .ok (.aload_n 2, 1) := by decide +kernel
theorem dL_law_319 : decode cL_law 319 = .ok (.aload_n 0, 1) := by decide +kernel
theorem dL_law_320 : decode cL_law 320 = .ok (.iload 5, 2) := by decide +kernel
theorem dL_law_322 : decode cL_law 322 = .ok (.iconst 1, 1) := by decide +kernel
theorem dL_law_323 : decode cL_law 323 = .ok (.iadd, 1) := by decide +kernel
theorem dL_law_324 : decode cL_law 324 = .ok (.iaload, 1) := by decide +kernel
theorem dL_law_325 : decode cL_law 325 = .ok (.aload_n 0, 1) := by decide +kernel
theorem dL_law_326 : decode cL_law 326 = .ok (.iload 5, 2) := by decide +kernel
theorem dL_law_328 : decode cL_law 328 = .ok (.iconst 2, 1) := by decide +kernel
theorem dL_law_329 : decode cL_law 329 = .ok (.iadd, 1) := by decide +kernel
theorem dL_law_330 : decode cL_law 330 = .ok (.iaload, 1) := by decide +kernel
theorem dL_law_331 : decode cL_law 331 = .ok (.aload_n 0, 1) := by decide +kernel
theorem dL_law_332 : decode cL_law 332 = .ok (.iload 5, 2) := by decide +kernel
theorem dL_law_334 : decode cL_law 334 = .ok (.iconst 3, 1) := by decide +kernel
theorem dL_law_335 : decode cL_law 335 = .ok (.iadd, 1) := by decide +kernel
theorem dL_law_336 : decode cL_law 336 = .ok (.iaload, 1) := by decide +kernel
theorem dL_law_337 : decode cL_law 337 = .ok (.aload_n 0, 1) := by decide +kernel
theorem dL_law_338 : decode cL_law 338 = .ok (.iload 5, 2) := by decide +kernel
theorem dL_law_340 : decode cL_law 340 = .ok (.iconst 4, 1) := by decide +kernel
theorem dL_law_341 : decode cL_law 341 = .ok (.iadd, 1) := by decide +kernel
theorem dL_law_342 : decode cL_law 342 = .ok (.iaload, 1) := by decide +kernel
theorem dL_law_343 : decode cL_law 343 = .ok (.aload_n 0, 1) := by decide +kernel
theorem dL_law_344 : decode cL_law 344 = .ok (.iload 5, 2) := by decide +kernel
theorem dL_law_346 : decode cL_law 346 = .ok (.iconst 5, 1) := by decide +kernel
theorem dL_law_347 : decode cL_law 347 = .ok (.iadd, 1) := by decide +kernel
theorem dL_law_348 : decode cL_law 348 = .ok (.iaload, 1) := by decide +kernel
theorem dL_law_349 : decode cL_law 349 = .ok (.invokevirtual 145, 3) := by decide +kernel
theorem dL_law_352 : decode cL_law 352 = .ok (.if_icmp .eq 2798, 3) := by decide +kernel
theorem dL_law_355 : decode cL_law 355 = .ok (.iconst 0, 1) := by decide +kernel
theorem dL_law_356 : decode cL_law 356 = .ok (.ireturn, 1) := by decide +kernel
set_option maxHeartbeats 4000000 in
set_option maxRecDepth 100000 in
theorem w_law_appendInput {p : Program} {l : Launch} {e : Env} {s : State} {m : MethodId} {below : List Frame} {meth : Method} {c : Code} {G : Gx} {b L i n0 m0 aL aD : Nat} {xs : Nat → Int32} {iv : Int32} {cL cD : ClassId} {cells slots : Nat} {Rel : Nat → Sg → Sg → Prop} {nn : Nat} {Q : State → Prop} (hnn9 : nn < 600) (hst : l.stackTraces = false) (C : Cx p s m #[.ref b] meth c RL code 10 ret G) (F : Y_F G s n0 m0 aL aD cL cD) (hX : va_X b L xs s s.heap) (hbl : b < s.heap.size) (hi : Y_I iv i L) (hc : cells + 4 ≤ 601024) (hs : slots + 24 ≤ 7293034) (hE : E_appendInput Rel)
    (hk : ∀ (σ ρ : Sg) (v : Int64) (w : UInt64) (H : Heap) (locs : List Loc) (ls : Array Slot), Rel (nn + 1) σ ρ → Y_S G s n0 m0 aL aD cL cD σ ρ v w H locs → lv_has ls 10 [(0, .ref b), (1, .ref n0), (2, .ref m0), (3, .ref aL), (4, .ref aD), (5, .int iv)] → W p l e room_1 s m #[.ref b] below meth c H locs (cells + 4) (slots + 24) Q (F0 m 3150 ls [])) :
    ∀ (σ ρ : Sg) (v : Int64) (w : UInt64) (H : Heap) (locs : List Loc) (ls : Array Slot), Rel nn σ ρ → Y_S G s n0 m0 aL aD cL cD σ ρ v w H locs → lv_has ls 10 [(0, .ref b), (1, .ref n0), (2, .ref m0), (3, .ref aL), (4, .ref aD), (5, .int iv)] → W p l e room_1 s m #[.ref b] below meth c H locs cells slots Q (F0 m 284 ls []) := by
  intro σ ρ v w H locs ls hR S hl
  obtain ⟨r, σ', ρ', e7, e8, hR'⟩ := hE nn σ ρ (xs (i + 1)) (xs (i + 2)) (xs (i + 3)) (xs (i + 4)) (xs (i + 5)) hnn9 hR 
  refine lv_aload_n C.1 C.2.1 dL_law_284 rfl (lv_at hl 1 rfl) ?_
  refine lv_aload_n C.1 C.2.1 dL_law_285 rfl (lv_at hl 0 rfl) ?_
  refine lv_iload C.1 C.2.1 dL_law_286 (lv_at hl 5 rfl) ?_
  refine lv_iconst (v := 1) C.1 C.2.1 dL_law_288 (by decide) ?_
  refine lv_iadd C.1 C.2.1 dL_law_289 ?_
  refine Y_sld C S hX hbl hi.2.1.2.1 hi.2.1.1 hi.2.1.2.2 dL_law_290 ?_
  refine lv_aload_n C.1 C.2.1 dL_law_291 rfl (lv_at hl 0 rfl) ?_
  refine lv_iload C.1 C.2.1 dL_law_292 (lv_at hl 5 rfl) ?_
  refine lv_iconst (v := 2) C.1 C.2.1 dL_law_294 (by decide) ?_
  refine lv_iadd C.1 C.2.1 dL_law_295 ?_
  refine Y_sld C S hX hbl hi.2.2.1.2.1 hi.2.2.1.1 hi.2.2.1.2.2 dL_law_296 ?_
  refine lv_aload_n C.1 C.2.1 dL_law_297 rfl (lv_at hl 0 rfl) ?_
  refine lv_iload C.1 C.2.1 dL_law_298 (lv_at hl 5 rfl) ?_
  refine lv_iconst (v := 3) C.1 C.2.1 dL_law_300 (by decide) ?_
  refine lv_iadd C.1 C.2.1 dL_law_301 ?_
  refine Y_sld C S hX hbl hi.2.2.2.1.2.1 hi.2.2.2.1.1 hi.2.2.2.1.2.2 dL_law_302 ?_
  refine lv_aload_n C.1 C.2.1 dL_law_303 rfl (lv_at hl 0 rfl) ?_
  refine lv_iload C.1 C.2.1 dL_law_304 (lv_at hl 5 rfl) ?_
  refine lv_iconst (v := 4) C.1 C.2.1 dL_law_306 (by decide) ?_
  refine lv_iadd C.1 C.2.1 dL_law_307 ?_
  refine Y_sld C S hX hbl hi.2.2.2.2.1.2.1 hi.2.2.2.2.1.1 hi.2.2.2.2.1.2.2 dL_law_308 ?_
  refine lv_aload_n C.1 C.2.1 dL_law_309 rfl (lv_at hl 0 rfl) ?_
  refine lv_iload C.1 C.2.1 dL_law_310 (lv_at hl 5 rfl) ?_
  refine lv_iconst (v := 5) C.1 C.2.1 dL_law_312 (by decide) ?_
  refine lv_iadd C.1 C.2.1 dL_law_313 ?_
  refine Y_sld C S hX hbl hi.2.2.2.2.2.2.1 hi.2.2.2.2.2.1 hi.2.2.2.2.2.2.2 dL_law_314 ?_
  refine Y_c0I (r := r) (σ' := σ') (As := [.int (xs (i + 1)), .int (xs (i + 2)), .int (xs (i + 3)), .int (xs (i + 4)), .int (xs (i + 5))]) C F S rfl (m_X7_appendInput l G (Y_X n0) σ (xs (i + 1)) (xs (i + 2)) (xs (i + 3)) (xs (i + 4)) (xs (i + 5)) r σ' e7 _) kv_X7_appendInput tw_2_168 ⟨(Nat.le_of_ble_eq_true rfl), (Nat.le_of_ble_eq_true rfl)⟩ rfl rfl (Nat.le_of_ble_eq_true rfl) hl.1 ⟨by show cells + 0 ≤ 601024; omega, by show slots + 0 ≤ 7293034; omega⟩ dL_law_315 (fun H locs S => ?_)
  refine lv_aload_n C.1 C.2.1 dL_law_318 rfl (lv_at hl 2 rfl) ?_
  refine lv_aload_n C.1 C.2.1 dL_law_319 rfl (lv_at hl 0 rfl) ?_
  refine lv_iload C.1 C.2.1 dL_law_320 (lv_at hl 5 rfl) ?_
  refine lv_iconst (v := 1) C.1 C.2.1 dL_law_322 (by decide) ?_
  refine lv_iadd C.1 C.2.1 dL_law_323 ?_
  refine Y_sld C S hX hbl hi.2.1.2.1 hi.2.1.1 hi.2.1.2.2 dL_law_324 ?_
  refine lv_aload_n C.1 C.2.1 dL_law_325 rfl (lv_at hl 0 rfl) ?_
  refine lv_iload C.1 C.2.1 dL_law_326 (lv_at hl 5 rfl) ?_
  refine lv_iconst (v := 2) C.1 C.2.1 dL_law_328 (by decide) ?_
  refine lv_iadd C.1 C.2.1 dL_law_329 ?_
  refine Y_sld C S hX hbl hi.2.2.1.2.1 hi.2.2.1.1 hi.2.2.1.2.2 dL_law_330 ?_
  refine lv_aload_n C.1 C.2.1 dL_law_331 rfl (lv_at hl 0 rfl) ?_
  refine lv_iload C.1 C.2.1 dL_law_332 (lv_at hl 5 rfl) ?_
  refine lv_iconst (v := 3) C.1 C.2.1 dL_law_334 (by decide) ?_
  refine lv_iadd C.1 C.2.1 dL_law_335 ?_
  refine Y_sld C S hX hbl hi.2.2.2.1.2.1 hi.2.2.2.1.1 hi.2.2.2.1.2.2 dL_law_336 ?_
  refine lv_aload_n C.1 C.2.1 dL_law_337 rfl (lv_at hl 0 rfl) ?_
  refine lv_iload C.1 C.2.1 dL_law_338 (lv_at hl 5 rfl) ?_
  refine lv_iconst (v := 4) C.1 C.2.1 dL_law_340 (by decide) ?_
  refine lv_iadd C.1 C.2.1 dL_law_341 ?_
  refine Y_sld C S hX hbl hi.2.2.2.2.1.2.1 hi.2.2.2.2.1.1 hi.2.2.2.2.1.2.2 dL_law_342 ?_
  refine lv_aload_n C.1 C.2.1 dL_law_343 rfl (lv_at hl 0 rfl) ?_
  refine lv_iload C.1 C.2.1 dL_law_344 (lv_at hl 5 rfl) ?_
  refine lv_iconst (v := 5) C.1 C.2.1 dL_law_346 (by decide) ?_
  refine lv_iadd C.1 C.2.1 dL_law_347 ?_
  refine Y_sld C S hX hbl hi.2.2.2.2.2.2.1 hi.2.2.2.2.2.1 hi.2.2.2.2.2.2.2 dL_law_348 ?_
  refine Y_c1I (r := r) (ρ' := ρ') (As := [.int (xs (i + 1)), .int (xs (i + 2)), .int (xs (i + 3)), .int (xs (i + 4)), .int (xs (i + 5))]) C F S rfl (m_X8_appendInput l G (Y_Mo m0) ρ (xs (i + 1)) (xs (i + 2)) (xs (i + 3)) (xs (i + 4)) (xs (i + 5)) r ρ' e8 _) kv_X8_appendInput tw_6_192 ⟨(Nat.le_of_ble_eq_true rfl), (Nat.le_of_ble_eq_true rfl)⟩ rfl rfl (Nat.le_of_ble_eq_true rfl) hl.1 ⟨by show cells + 0 ≤ 601024; omega, by show slots + 0 ≤ 7293034; omega⟩ dL_law_349 (fun H locs S => ?_)
  refine lv_icmp_eq (tgt := 3150) C.1 C.2.1 dL_law_352 (by decide) (fun _ => ?_) (fun c9 => absurd rfl c9)
  exact W.widen (k := cells + 4) (n := slots + 24) (by omega) (by omega) (hk _ _ _ _ _ _ _ hR' S (lv_sub hl [0, 1, 2, 3, 4, 5] rfl))
theorem dL_law_357 : decode cL_law 357 = .ok (.aload_n 1, 1) := by decide +kernel
theorem dL_law_358 : decode cL_law 358 = .ok (.aload_n 0, 1) := by decide +kernel
theorem dL_law_359 : decode cL_law 359 = .ok (.iload 5, 2) := by decide +kernel
theorem dL_law_361 : decode cL_law 361 = .ok (.iconst 1, 1) := by decide +kernel
theorem dL_law_362 : decode cL_law 362 = .ok (.iadd, 1) := by decide +kernel
theorem dL_law_363 : decode cL_law 363 = .ok (.iaload, 1) := by decide +kernel
theorem dL_law_364 : decode cL_law 364 = .ok (.invokevirtual 146, 3) := by decide +kernel
theorem dL_law_367 : decode cL_law 367 = .ok (.aload_n 2, 1) := by decide +kernel
theorem dL_law_368 : decode cL_law 368 = .ok (.aload_n 0, 1) := by decide +kernel
theorem dL_law_369 : decode cL_law 369 = .ok (.iload 5, 2) := by decide +kernel
theorem dL_law_371 : decode cL_law 371 = .ok (.iconst 1, 1) := by decide +kernel
theorem dL_law_372 : decode cL_law 372 = .ok (.iadd, 1) := by decide +kernel
theorem dL_law_373 : decode cL_law 373 = .ok (.iaload, 1) := by decide +kernel
theorem dL_law_374 : decode cL_law 374 = .ok (.invokevirtual 150, 3) := by decide +kernel
theorem dL_law_377 : decode cL_law 377 = .ok (.if_icmp .eq 2773, 3) := by decide +kernel
theorem dL_law_380 : decode cL_law 380 = .ok (.iconst 0, 1) := by decide +kernel
theorem dL_law_381 : decode cL_law 381 = .ok (.ireturn, 1) := by decide +kernel
set_option maxHeartbeats 4000000 in
set_option maxRecDepth 100000 in
theorem w_law_truncateInput {p : Program} {l : Launch} {e : Env} {s : State} {m : MethodId} {below : List Frame} {meth : Method} {c : Code} {G : Gx} {b L i n0 m0 aL aD : Nat} {xs : Nat → Int32} {iv : Int32} {cL cD : ClassId} {cells slots : Nat} {Rel : Nat → Sg → Sg → Prop} {nn : Nat} {Q : State → Prop} (hnn9 : nn < 600) (hst : l.stackTraces = false) (C : Cx p s m #[.ref b] meth c RL code 10 ret G) (F : Y_F G s n0 m0 aL aD cL cD) (hX : va_X b L xs s s.heap) (hbl : b < s.heap.size) (hi : Y_I iv i L) (hc : cells + 4 ≤ 601024) (hs : slots + 24 ≤ 7293034) (hE : E_truncateInput Rel)
    (hk : ∀ (σ ρ : Sg) (v : Int64) (w : UInt64) (H : Heap) (locs : List Loc) (ls : Array Slot), Rel (nn + 1) σ ρ → Y_S G s n0 m0 aL aD cL cD σ ρ v w H locs → lv_has ls 10 [(0, .ref b), (1, .ref n0), (2, .ref m0), (3, .ref aL), (4, .ref aD), (5, .int iv)] → W p l e room_1 s m #[.ref b] below meth c H locs (cells + 4) (slots + 24) Q (F0 m 3150 ls [])) :
    ∀ (σ ρ : Sg) (v : Int64) (w : UInt64) (H : Heap) (locs : List Loc) (ls : Array Slot), Rel nn σ ρ → Y_S G s n0 m0 aL aD cL cD σ ρ v w H locs → lv_has ls 10 [(0, .ref b), (1, .ref n0), (2, .ref m0), (3, .ref aL), (4, .ref aD), (5, .int iv)] → W p l e room_1 s m #[.ref b] below meth c H locs cells slots Q (F0 m 357 ls []) := by
  intro σ ρ v w H locs ls hR S hl
  obtain ⟨r, σ', ρ', e7, e8, hR'⟩ := hE nn σ ρ (xs (i + 1)) hnn9 hR 
  refine lv_aload_n C.1 C.2.1 dL_law_357 rfl (lv_at hl 1 rfl) ?_
  refine lv_aload_n C.1 C.2.1 dL_law_358 rfl (lv_at hl 0 rfl) ?_
  refine lv_iload C.1 C.2.1 dL_law_359 (lv_at hl 5 rfl) ?_
  refine lv_iconst (v := 1) C.1 C.2.1 dL_law_361 (by decide) ?_
  refine lv_iadd C.1 C.2.1 dL_law_362 ?_
  refine Y_sld C S hX hbl hi.2.1.2.1 hi.2.1.1 hi.2.1.2.2 dL_law_363 ?_
  refine Y_c0I (r := r) (σ' := σ') (As := [.int (xs (i + 1))]) C F S rfl (m_X7_truncateInput l G (Y_X n0) σ (xs (i + 1)) r σ' e7 _) kv_X7_truncateInput tw_2_176 ⟨(Nat.le_of_ble_eq_true rfl), (Nat.le_of_ble_eq_true rfl)⟩ rfl rfl (Nat.le_of_ble_eq_true rfl) hl.1 ⟨by show cells + 0 ≤ 601024; omega, by show slots + 0 ≤ 7293034; omega⟩ dL_law_364 (fun H locs S => ?_)
  refine lv_aload_n C.1 C.2.1 dL_law_367 rfl (lv_at hl 2 rfl) ?_
  refine lv_aload_n C.1 C.2.1 dL_law_368 rfl (lv_at hl 0 rfl) ?_
  refine lv_iload C.1 C.2.1 dL_law_369 (lv_at hl 5 rfl) ?_
  refine lv_iconst (v := 1) C.1 C.2.1 dL_law_371 (by decide) ?_
  refine lv_iadd C.1 C.2.1 dL_law_372 ?_
  refine Y_sld C S hX hbl hi.2.1.2.1 hi.2.1.1 hi.2.1.2.2 dL_law_373 ?_
  refine Y_c1I (r := r) (ρ' := ρ') (As := [.int (xs (i + 1))]) C F S rfl (m_X8_truncateInput l G (Y_Mo m0) ρ (xs (i + 1)) r ρ' e8 _) kv_X8_truncateInput tw_6_200 ⟨(Nat.le_of_ble_eq_true rfl), (Nat.le_of_ble_eq_true rfl)⟩ rfl rfl (Nat.le_of_ble_eq_true rfl) hl.1 ⟨by show cells + 0 ≤ 601024; omega, by show slots + 0 ≤ 7293034; omega⟩ dL_law_374 (fun H locs S => ?_)
  refine lv_icmp_eq (tgt := 3150) C.1 C.2.1 dL_law_377 (by decide) (fun _ => ?_) (fun c9 => absurd rfl c9)
  exact W.widen (k := cells + 4) (n := slots + 24) (by omega) (by omega) (hk _ _ _ _ _ _ _ hR' S (lv_sub hl [0, 1, 2, 3, 4, 5] rfl))
theorem dL_law_382 : decode cL_law 382 = .ok (.aload_n 1, 1) := by decide +kernel
theorem dL_law_383 : decode cL_law 383 = .ok (.invokevirtual 151, 3) := by decide +kernel
theorem dL_law_386 : decode cL_law 386 = .ok (.aload_n 2, 1) := by decide +kernel
theorem dL_law_387 : decode cL_law 387 = .ok (.invokevirtual 154, 3) := by decide +kernel
theorem dL_law_390 : decode cL_law 390 = .ok (.if_icmp .eq 2760, 3) := by decide +kernel
theorem dL_law_393 : decode cL_law 393 = .ok (.iconst 0, 1) := by decide +kernel
theorem dL_law_394 : decode cL_law 394 = .ok (.ireturn, 1) := by decide +kernel
set_option maxHeartbeats 4000000 in
set_option maxRecDepth 100000 in
theorem w_law_loadLifts {p : Program} {l : Launch} {e : Env} {s : State} {m : MethodId} {below : List Frame} {meth : Method} {c : Code} {G : Gx} {b L i n0 m0 aL aD : Nat} {xs : Nat → Int32} {iv : Int32} {cL cD : ClassId} {cells slots : Nat} {Rel : Nat → Sg → Sg → Prop} {nn : Nat} {Q : State → Prop} (hnn9 : nn < 600) (hst : l.stackTraces = false) (C : Cx p s m #[.ref b] meth c RL code 10 ret G) (F : Y_F G s n0 m0 aL aD cL cD) (hX : va_X b L xs s s.heap) (hbl : b < s.heap.size) (hi : Y_I iv i L) (hc : cells + 4 ≤ 601024) (hs : slots + 24 ≤ 7293034) (hE : E_loadLifts Rel)
    (hk : ∀ (σ ρ : Sg) (v : Int64) (w : UInt64) (H : Heap) (locs : List Loc) (ls : Array Slot), Rel (nn + 1) σ ρ → Y_S G s n0 m0 aL aD cL cD σ ρ v w H locs → lv_has ls 10 [(0, .ref b), (1, .ref n0), (2, .ref m0), (3, .ref aL), (4, .ref aD), (5, .int iv)] → W p l e room_1 s m #[.ref b] below meth c H locs (cells + 4) (slots + 24) Q (F0 m 3150 ls [])) :
    ∀ (σ ρ : Sg) (v : Int64) (w : UInt64) (H : Heap) (locs : List Loc) (ls : Array Slot), Rel nn σ ρ → Y_S G s n0 m0 aL aD cL cD σ ρ v w H locs → lv_has ls 10 [(0, .ref b), (1, .ref n0), (2, .ref m0), (3, .ref aL), (4, .ref aD), (5, .int iv)] → W p l e room_1 s m #[.ref b] below meth c H locs cells slots Q (F0 m 382 ls []) := by
  intro σ ρ v w H locs ls hR S hl
  obtain ⟨r, σ', ρ', e7, e8, hR'⟩ := hE nn σ ρ  hnn9 hR 
  refine lv_aload_n C.1 C.2.1 dL_law_382 rfl (lv_at hl 1 rfl) ?_
  refine Y_c0I (r := r) (σ' := σ') (As := []) C F S rfl (m_X7_loadLifts l G (Y_X n0) σ  r σ' e7 _) kv_X7_loadLifts tw_2_180 ⟨(Nat.le_of_ble_eq_true rfl), (Nat.le_of_ble_eq_true rfl)⟩ rfl rfl (Nat.le_of_ble_eq_true rfl) hl.1 ⟨by show cells + 0 ≤ 601024; omega, by show slots + 0 ≤ 7293034; omega⟩ dL_law_383 (fun H locs S => ?_)
  refine lv_aload_n C.1 C.2.1 dL_law_386 rfl (lv_at hl 2 rfl) ?_
  refine Y_c1I (r := r) (ρ' := ρ') (As := []) C F S rfl (m_X8_loadLifts l G (Y_Mo m0) ρ  r ρ' e8 _) kv_X8_loadLifts tw_6_207 ⟨(Nat.le_of_ble_eq_true rfl), (Nat.le_of_ble_eq_true rfl)⟩ rfl rfl (Nat.le_of_ble_eq_true rfl) hl.1 ⟨by show cells + 0 ≤ 601024; omega, by show slots + 0 ≤ 7293034; omega⟩ dL_law_387 (fun H locs S => ?_)
  refine lv_icmp_eq (tgt := 3150) C.1 C.2.1 dL_law_390 (by decide) (fun _ => ?_) (fun c9 => absurd rfl c9)
  exact W.widen (k := cells + 4) (n := slots + 24) (by omega) (by omega) (hk _ _ _ _ _ _ _ hR' S (lv_sub hl [0, 1, 2, 3, 4, 5] rfl))
theorem dL_law_395 : decode cL_law 395 = .ok (.aload_n 1, 1) := by decide +kernel
theorem dL_law_396 : decode cL_law 396 = .ok (.invokevirtual 155, 3) := by decide +kernel
theorem dL_law_399 : decode cL_law 399 = .ok (.aload_n 2, 1) := by decide +kernel
theorem dL_law_400 : decode cL_law 400 = .ok (.invokevirtual 158, 3) := by decide +kernel
theorem dL_law_403 : decode cL_law 403 = .ok (.if_icmp .eq 2747, 3) := by decide +kernel
theorem dL_law_406 : decode cL_law 406 = .ok (.iconst 0, 1) := by decide +kernel
theorem dL_law_407 : decode cL_law 407 = .ok (.ireturn, 1) := by decide +kernel
set_option maxHeartbeats 4000000 in
set_option maxRecDepth 100000 in
theorem w_law_errorCode {p : Program} {l : Launch} {e : Env} {s : State} {m : MethodId} {below : List Frame} {meth : Method} {c : Code} {G : Gx} {b L i n0 m0 aL aD : Nat} {xs : Nat → Int32} {iv : Int32} {cL cD : ClassId} {cells slots : Nat} {Rel : Nat → Sg → Sg → Prop} {nn : Nat} {Q : State → Prop} (hnn9 : nn < 600) (hst : l.stackTraces = false) (C : Cx p s m #[.ref b] meth c RL code 10 ret G) (F : Y_F G s n0 m0 aL aD cL cD) (hX : va_X b L xs s s.heap) (hbl : b < s.heap.size) (hi : Y_I iv i L) (hc : cells + 4 ≤ 601024) (hs : slots + 24 ≤ 7293034) (hE : E_errorCode Rel)
    (hk : ∀ (σ ρ : Sg) (v : Int64) (w : UInt64) (H : Heap) (locs : List Loc) (ls : Array Slot), Rel (nn + 1) σ ρ → Y_S G s n0 m0 aL aD cL cD σ ρ v w H locs → lv_has ls 10 [(0, .ref b), (1, .ref n0), (2, .ref m0), (3, .ref aL), (4, .ref aD), (5, .int iv)] → W p l e room_1 s m #[.ref b] below meth c H locs (cells + 4) (slots + 24) Q (F0 m 3150 ls [])) :
    ∀ (σ ρ : Sg) (v : Int64) (w : UInt64) (H : Heap) (locs : List Loc) (ls : Array Slot), Rel nn σ ρ → Y_S G s n0 m0 aL aD cL cD σ ρ v w H locs → lv_has ls 10 [(0, .ref b), (1, .ref n0), (2, .ref m0), (3, .ref aL), (4, .ref aD), (5, .int iv)] → W p l e room_1 s m #[.ref b] below meth c H locs cells slots Q (F0 m 395 ls []) := by
  intro σ ρ v w H locs ls hR S hl
  obtain ⟨r, σ', ρ', e7, e8, hR'⟩ := hE nn σ ρ  hnn9 hR 
  refine lv_aload_n C.1 C.2.1 dL_law_395 rfl (lv_at hl 1 rfl) ?_
  refine Y_c0I (r := r) (σ' := σ') (As := []) C F S rfl (m_X7_errorCode l G (Y_X n0) σ  r σ' e7 _) kv_X7_errorCode tw_3_109 ⟨(Nat.le_of_ble_eq_true rfl), (Nat.le_of_ble_eq_true rfl)⟩ rfl rfl (Nat.le_of_ble_eq_true rfl) hl.1 ⟨by show cells + 0 ≤ 601024; omega, by show slots + 0 ≤ 7293034; omega⟩ dL_law_396 (fun H locs S => ?_)
  refine lv_aload_n C.1 C.2.1 dL_law_399 rfl (lv_at hl 2 rfl) ?_
  refine Y_c1I (r := r) (ρ' := ρ') (As := []) C F S rfl (m_X8_errorCode l G (Y_Mo m0) ρ  r ρ' e8 _) kv_X8_errorCode tw_7_44 ⟨(Nat.le_of_ble_eq_true rfl), (Nat.le_of_ble_eq_true rfl)⟩ rfl rfl (Nat.le_of_ble_eq_true rfl) hl.1 ⟨by show cells + 0 ≤ 601024; omega, by show slots + 0 ≤ 7293034; omega⟩ dL_law_400 (fun H locs S => ?_)
  refine lv_icmp_eq (tgt := 3150) C.1 C.2.1 dL_law_403 (by decide) (fun _ => ?_) (fun c9 => absurd rfl c9)
  exact W.widen (k := cells + 4) (n := slots + 24) (by omega) (by omega) (hk _ _ _ _ _ _ _ hR' S (lv_sub hl [0, 1, 2, 3, 4, 5] rfl))
theorem dL_law_408 : decode cL_law 408 = .ok (.aload_n 1, 1) := by decide +kernel
theorem dL_law_409 : decode cL_law 409 = .ok (.invokevirtual 159, 3) := by decide +kernel
theorem dL_law_412 : decode cL_law 412 = .ok (.aload_n 2, 1) := by decide +kernel
theorem dL_law_413 : decode cL_law 413 = .ok (.invokevirtual 162, 3) := by decide +kernel
theorem dL_law_416 : decode cL_law 416 = .ok (.if_icmp .eq 2734, 3) := by decide +kernel
theorem dL_law_419 : decode cL_law 419 = .ok (.iconst 0, 1) := by decide +kernel
theorem dL_law_420 : decode cL_law 420 = .ok (.ireturn, 1) := by decide +kernel
set_option maxHeartbeats 4000000 in
set_option maxRecDepth 100000 in
theorem w_law_errorOffset {p : Program} {l : Launch} {e : Env} {s : State} {m : MethodId} {below : List Frame} {meth : Method} {c : Code} {G : Gx} {b L i n0 m0 aL aD : Nat} {xs : Nat → Int32} {iv : Int32} {cL cD : ClassId} {cells slots : Nat} {Rel : Nat → Sg → Sg → Prop} {nn : Nat} {Q : State → Prop} (hnn9 : nn < 600) (hst : l.stackTraces = false) (C : Cx p s m #[.ref b] meth c RL code 10 ret G) (F : Y_F G s n0 m0 aL aD cL cD) (hX : va_X b L xs s s.heap) (hbl : b < s.heap.size) (hi : Y_I iv i L) (hc : cells + 4 ≤ 601024) (hs : slots + 24 ≤ 7293034) (hE : E_errorOffset Rel)
    (hk : ∀ (σ ρ : Sg) (v : Int64) (w : UInt64) (H : Heap) (locs : List Loc) (ls : Array Slot), Rel (nn + 1) σ ρ → Y_S G s n0 m0 aL aD cL cD σ ρ v w H locs → lv_has ls 10 [(0, .ref b), (1, .ref n0), (2, .ref m0), (3, .ref aL), (4, .ref aD), (5, .int iv)] → W p l e room_1 s m #[.ref b] below meth c H locs (cells + 4) (slots + 24) Q (F0 m 3150 ls [])) :
    ∀ (σ ρ : Sg) (v : Int64) (w : UInt64) (H : Heap) (locs : List Loc) (ls : Array Slot), Rel nn σ ρ → Y_S G s n0 m0 aL aD cL cD σ ρ v w H locs → lv_has ls 10 [(0, .ref b), (1, .ref n0), (2, .ref m0), (3, .ref aL), (4, .ref aD), (5, .int iv)] → W p l e room_1 s m #[.ref b] below meth c H locs cells slots Q (F0 m 408 ls []) := by
  intro σ ρ v w H locs ls hR S hl
  obtain ⟨r, σ', ρ', e7, e8, hR'⟩ := hE nn σ ρ  hnn9 hR 
  refine lv_aload_n C.1 C.2.1 dL_law_408 rfl (lv_at hl 1 rfl) ?_
  refine Y_c0I (r := r) (σ' := σ') (As := []) C F S rfl (m_X7_errorOffset l G (Y_X n0) σ  r σ' e7 _) kv_X7_errorOffset tw_3_113 ⟨(Nat.le_of_ble_eq_true rfl), (Nat.le_of_ble_eq_true rfl)⟩ rfl rfl (Nat.le_of_ble_eq_true rfl) hl.1 ⟨by show cells + 0 ≤ 601024; omega, by show slots + 0 ≤ 7293034; omega⟩ dL_law_409 (fun H locs S => ?_)
  refine lv_aload_n C.1 C.2.1 dL_law_412 rfl (lv_at hl 2 rfl) ?_
  refine Y_c1I (r := r) (ρ' := ρ') (As := []) C F S rfl (m_X8_errorOffset l G (Y_Mo m0) ρ  r ρ' e8 _) kv_X8_errorOffset tw_7_48 ⟨(Nat.le_of_ble_eq_true rfl), (Nat.le_of_ble_eq_true rfl)⟩ rfl rfl (Nat.le_of_ble_eq_true rfl) hl.1 ⟨by show cells + 0 ≤ 601024; omega, by show slots + 0 ≤ 7293034; omega⟩ dL_law_413 (fun H locs S => ?_)
  refine lv_icmp_eq (tgt := 3150) C.1 C.2.1 dL_law_416 (by decide) (fun _ => ?_) (fun c9 => absurd rfl c9)
  exact W.widen (k := cells + 4) (n := slots + 24) (by omega) (by omega) (hk _ _ _ _ _ _ _ hR' S (lv_sub hl [0, 1, 2, 3, 4, 5] rfl))
theorem dL_law_421 : decode cL_law 421 = .ok (.aload_n 1, 1) := by decide +kernel
theorem dL_law_422 : decode cL_law 422 = .ok (.aload_n 0, 1) := by decide +kernel
theorem dL_law_423 : decode cL_law 423 = .ok (.iload 5, 2) := by decide +kernel
theorem dL_law_425 : decode cL_law 425 = .ok (.iconst 1, 1) := by decide +kernel
theorem dL_law_426 : decode cL_law 426 = .ok (.iadd, 1) := by decide +kernel
theorem dL_law_427 : decode cL_law 427 = .ok (.iaload, 1) := by decide +kernel
theorem dL_law_428 : decode cL_law 428 = .ok (.aload_n 3, 1) := by decide +kernel
theorem dL_law_429 : decode cL_law 429 = .ok (.invokestatic 163, 3) := by decide +kernel
theorem dL_law_432 : decode cL_law 432 = .ok (.istore 6, 2) := by decide +kernel
theorem dL_law_434 : decode cL_law 434 = .ok (.aload_n 2, 1) := by decide +kernel
theorem dL_law_435 : decode cL_law 435 = .ok (.aload_n 0, 1) := by decide +kernel
theorem dL_law_436 : decode cL_law 436 = .ok (.iload 5, 2) := by decide +kernel
theorem dL_law_438 : decode cL_law 438 = .ok (.iconst 1, 1) := by decide +kernel
theorem dL_law_439 : decode cL_law 439 = .ok (.iadd, 1) := by decide +kernel
theorem dL_law_440 : decode cL_law 440 = .ok (.iaload, 1) := by decide +kernel
theorem dL_law_441 : decode cL_law 441 = .ok (.invokevirtual 168, 3) := by decide +kernel
theorem dL_law_444 : decode cL_law 444 = .ok (.istore 7, 2) := by decide +kernel
theorem dL_law_446 : decode cL_law 446 = .ok (.aload_n 2, 1) := by decide +kernel
theorem dL_law_447 : decode cL_law 447 = .ok (.invokevirtual 169, 3) := by decide +kernel
theorem dL_law_450 : decode cL_law 450 = .ok (.iload 6, 2) := by decide +kernel
theorem dL_law_452 : decode cL_law 452 = .ok (.if_icmp .eq 5, 3) := by decide +kernel
theorem dL_law_455 : decode cL_law 455 = .ok (.iconst 0, 1) := by decide +kernel
theorem dL_law_456 : decode cL_law 456 = .ok (.ireturn, 1) := by decide +kernel
theorem dL_law_457 : decode cL_law 457 = .ok (.iload 6, 2) := by decide +kernel
theorem dL_law_459 : decode cL_law 459 = .ok (.ifCond .ne 15, 3) := by decide +kernel
theorem dL_law_462 : decode cL_law 462 = .ok (.aload_n 3, 1) := by decide +kernel
theorem dL_law_463 : decode cL_law 463 = .ok (.iconst 0, 1) := by decide +kernel
theorem dL_law_464 : decode cL_law 464 = .ok (.laload, 1) := by decide +kernel
theorem dL_law_465 : decode cL_law 465 = .ok (.iload 7, 2) := by decide +kernel
theorem dL_law_467 : decode cL_law 467 = .ok (.i2l, 1) := by decide +kernel
theorem dL_law_468 : decode cL_law 468 = .ok (.lcmp, 1) := by decide +kernel
theorem dL_law_469 : decode cL_law 469 = .ok (.ifCond .eq 5, 3) := by decide +kernel
theorem dL_law_472 : decode cL_law 472 = .ok (.iconst 0, 1) := by decide +kernel
theorem dL_law_473 : decode cL_law 473 = .ok (.ireturn, 1) := by decide +kernel
theorem dL_law_474 : decode cL_law 474 = .ok (.goto 2676, 3) := by decide +kernel
set_option maxHeartbeats 4000000 in
set_option maxRecDepth 100000 in
theorem w_law_count {p : Program} {l : Launch} {e : Env} {s : State} {m : MethodId} {below : List Frame} {meth : Method} {c : Code} {G : Gx} {b L i n0 m0 aL aD : Nat} {xs : Nat → Int32} {iv : Int32} {cL cD : ClassId} {cells slots : Nat} {Rel : Nat → Sg → Sg → Prop} {nn : Nat} {Q : State → Prop} (hnn9 : nn < 600) (hst : l.stackTraces = false) (C : Cx p s m #[.ref b] meth c RL code 10 ret G) (F : Y_F G s n0 m0 aL aD cL cD) (hX : va_X b L xs s s.heap) (hbl : b < s.heap.size) (hi : Y_I iv i L) (hc : cells + 4 ≤ 601024) (hs : slots + 24 ≤ 7293034) (hE : E_count Rel)
    (hk : ∀ (σ ρ : Sg) (v : Int64) (w : UInt64) (H : Heap) (locs : List Loc) (ls : Array Slot), Rel (nn + 1) σ ρ → Y_S G s n0 m0 aL aD cL cD σ ρ v w H locs → lv_has ls 10 [(0, .ref b), (1, .ref n0), (2, .ref m0), (3, .ref aL), (4, .ref aD), (5, .int iv)] → W p l e room_1 s m #[.ref b] below meth c H locs (cells + 4) (slots + 24) Q (F0 m 3150 ls [])) :
    ∀ (σ ρ : Sg) (v : Int64) (w : UInt64) (H : Heap) (locs : List Loc) (ls : Array Slot), Rel nn σ ρ → Y_S G s n0 m0 aL aD cL cD σ ρ v w H locs → lv_has ls 10 [(0, .ref b), (1, .ref n0), (2, .ref m0), (3, .ref aL), (4, .ref aD), (5, .int iv)] → W p l e room_1 s m #[.ref b] below meth c H locs cells slots Q (F0 m 421 ls []) := by
  intro σ ρ v w H locs ls hR S hl
  obtain ⟨q, wq, ρ', e7, hq, e8, hR', hth, hval⟩ := hE nn σ ρ (xs (i + 1)) hnn9 hR 
  refine lv_aload_n C.1 C.2.1 dL_law_421 rfl (lv_at hl 1 rfl) ?_
  refine lv_aload_n C.1 C.2.1 dL_law_422 rfl (lv_at hl 0 rfl) ?_
  refine lv_iload C.1 C.2.1 dL_law_423 (lv_at hl 5 rfl) ?_
  refine lv_iconst (v := 1) C.1 C.2.1 dL_law_425 (by decide) ?_
  refine lv_iadd C.1 C.2.1 dL_law_426 ?_
  refine Y_sld C S hX hbl hi.2.1.2.1 hi.2.1.1 hi.2.1.2.2 dL_law_427 ?_
  refine lv_aload_n C.1 C.2.1 dL_law_428 rfl (lv_at hl 3 rfl) ?_
  have hM := m_L_count l hst G (Y_X n0) σ (xs (i + 1)) q e7 hq cL aL v H.size
  rw [show (if q.1 = 0 then (Sum.inl q.2.1.toInt64 : Int64 ⊕ UInt64) else Sum.inl v) = Sum.inl (if q.1 = 0 then q.2.1.toInt64 else v) by split <;> rfl] at hM
  refine Y_wL (n := 3) (As := [.ref n0, .int (xs (i + 1)), .ref aL]) C F S hM (tt_3 (List.mem_of_getElem? (i := 210) (by decide +kernel)) (by decide +kernel)) tw_3_209 tw_1_0 ⟨by decide, by decide, by decide +kernel⟩ tw_3_208 ⟨(Nat.le_of_ble_eq_true rfl), (Nat.le_of_ble_eq_true rfl)⟩ rfl rfl (Nat.le_of_ble_eq_true rfl) hl.1 ⟨by show cells + 1 ≤ 601024; omega, by show slots + 6 ≤ 7293034; omega⟩ dL_law_429 (fun H locs S => ?_)
  refine lv_istore (lv' := [(6, .int (L_k [(2, 1)] q.1)), (0, .ref b), (1, .ref n0), (2, .ref m0), (3, .ref aL), (4, .ref aD), (5, .int iv)]) C.1 C.2.1 dL_law_432 hl (by decide) rfl (fun ls hl => ?_)
  refine lv_aload_n C.1 C.2.1 dL_law_434 rfl (lv_at hl 3 rfl) ?_
  refine lv_aload_n C.1 C.2.1 dL_law_435 rfl (lv_at hl 1 rfl) ?_
  refine lv_iload C.1 C.2.1 dL_law_436 (lv_at hl 6 rfl) ?_
  refine lv_iconst (v := 1) C.1 C.2.1 dL_law_438 (by decide) ?_
  refine lv_iadd C.1 C.2.1 dL_law_439 ?_
  refine Y_sld C S hX hbl hi.2.1.2.1 hi.2.1.1 hi.2.1.2.2 dL_law_440 ?_
  refine Y_c1I (r := wq) (ρ' := ρ') (As := [.int (xs (i + 1))]) C F S rfl (m_X8_count l G (Y_Mo m0) ρ (xs (i + 1)) wq ρ' e8 _) kv_X8_count tw_7_52 ⟨(Nat.le_of_ble_eq_true rfl), (Nat.le_of_ble_eq_true rfl)⟩ rfl rfl (Nat.le_of_ble_eq_true rfl) hl.1 ⟨by show cells + 1 ≤ 601024; omega, by show slots + 6 ≤ 7293034; omega⟩ dL_law_441 (fun H locs S => ?_)
  refine lv_istore (lv' := [(7, .int wq), (6, .int (L_k [(2, 1)] q.1)), (0, .ref b), (1, .ref n0), (2, .ref m0), (3, .ref aL), (4, .ref aD), (5, .int iv)]) C.1 C.2.1 dL_law_444 hl (by decide) rfl (fun ls hl => ?_)
  refine lv_aload_n C.1 C.2.1 dL_law_446 rfl (lv_at hl 4 rfl) ?_
  refine Y_c1I (r := ρ' 8 0 8) (ρ' := ρ') C F S rfl (As := []) (m_X8_thrown l G _ ρ' _ _ rfl _) kv_X8_thrown tw_6_188 ⟨(Nat.le_of_ble_eq_true rfl), (Nat.le_of_ble_eq_true rfl)⟩ rfl rfl (Nat.le_of_ble_eq_true rfl) hl.1 ⟨by show cells + 1 ≤ 601024; omega, by show slots + 6 ≤ 7293034; omega⟩ dL_law_447 (fun H locs S => ?_)
  refine lv_iload C.1 C.2.1 dL_law_450 (lv_at hl 1 rfl) ?_
  refine lv_icmp_eq (tgt := 457) C.1 C.2.1 dL_law_452 (by decide) (fun _ => ?_) (fun c9 => absurd hth c9)
  refine lv_iload C.1 C.2.1 dL_law_457 (lv_at hl 1 rfl) ?_
  refine lv_if_ne (tgt := 474) C.1 C.2.1 dL_law_459 (by decide) (fun c9 => ?_) (fun c9 => ?_)
  · refine lv_goto (tgt := 3150) C.1 C.2.1 dL_law_474 (by decide) ?_
    exact W.widen (k := cells + 4) (n := slots + 24) (by omega) (by omega) (hk _ _ _ _ _ _ _ hR' S (lv_sub hl [2, 3, 4, 5, 6, 7] rfl))
  have h0 : q.1 = 0 := by
    rcases hq with h | h
    · exact h
    · rw [h] at c9; exact absurd c9 (by decide)
  rw [if_pos h0, hval h0] at S
  refine lv_aload_n C.1 C.2.1 dL_law_462 rfl (lv_at hl 5 rfl) ?_
  refine lv_iconst (v := 0) C.1 C.2.1 dL_law_463 (by decide) ?_
  refine Y_lald C F S dL_law_464 ?_
  refine lv_iload C.1 C.2.1 dL_law_465 (lv_at hl 0 rfl) ?_
  refine lv_i2l C.1 C.2.1 dL_law_467 rfl ?_
  refine W.lcmp C.1 C.2.1 dL_law_468 ?_
  refine lv_if_eq (tgt := 474) C.1 C.2.1 dL_law_469 (by decide) (fun _ => ?_) (fun c9 => absurd (Y_cmp _) c9)
  refine lv_goto (tgt := 3150) C.1 C.2.1 dL_law_474 (by decide) ?_
  exact W.widen (k := cells + 4) (n := slots + 24) (by omega) (by omega) (hk _ _ _ _ _ _ _ hR' S (lv_sub hl [2, 3, 4, 5, 6, 7] rfl))
theorem dL_law_477 : decode cL_law 477 = .ok (.aload_n 1, 1) := by decide +kernel
theorem dL_law_478 : decode cL_law 478 = .ok (.aload_n 0, 1) := by decide +kernel
theorem dL_law_479 : decode cL_law 479 = .ok (.iload 5, 2) := by decide +kernel
theorem dL_law_481 : decode cL_law 481 = .ok (.iconst 1, 1) := by decide +kernel
theorem dL_law_482 : decode cL_law 482 = .ok (.iadd, 1) := by decide +kernel
theorem dL_law_483 : decode cL_law 483 = .ok (.iaload, 1) := by decide +kernel
theorem dL_law_484 : decode cL_law 484 = .ok (.aload_n 0, 1) := by decide +kernel
theorem dL_law_485 : decode cL_law 485 = .ok (.iload 5, 2) := by decide +kernel
theorem dL_law_487 : decode cL_law 487 = .ok (.iconst 2, 1) := by decide +kernel
theorem dL_law_488 : decode cL_law 488 = .ok (.iadd, 1) := by decide +kernel
theorem dL_law_489 : decode cL_law 489 = .ok (.iaload, 1) := by decide +kernel
theorem dL_law_490 : decode cL_law 490 = .ok (.aload_n 3, 1) := by decide +kernel
theorem dL_law_491 : decode cL_law 491 = .ok (.invokestatic 172, 3) := by decide +kernel
theorem dL_law_494 : decode cL_law 494 = .ok (.istore 6, 2) := by decide +kernel
theorem dL_law_496 : decode cL_law 496 = .ok (.aload_n 2, 1) := by decide +kernel
theorem dL_law_497 : decode cL_law 497 = .ok (.aload_n 0, 1) := by decide +kernel
theorem dL_law_498 : decode cL_law 498 = .ok (.iload 5, 2) := by decide +kernel
theorem dL_law_500 : decode cL_law 500 = .ok (.iconst 1, 1) := by decide +kernel
theorem dL_law_501 : decode cL_law 501 = .ok (.iadd, 1) := by decide +kernel
theorem dL_law_502 : decode cL_law 502 = .ok (.iaload, 1) := by decide +kernel
theorem dL_law_503 : decode cL_law 503 = .ok (.aload_n 0, 1) := by decide +kernel
theorem dL_law_504 : decode cL_law 504 = .ok (.iload 5, 2) := by decide +kernel
theorem dL_law_506 : decode cL_law 506 = .ok (.iconst 2, 1) := by decide +kernel
theorem dL_law_507 : decode cL_law 507 = .ok (.iadd, 1) := by decide +kernel
theorem dL_law_508 : decode cL_law 508 = .ok (.iaload, 1) := by decide +kernel
theorem dL_law_509 : decode cL_law 509 = .ok (.invokevirtual 175, 3) := by decide +kernel
theorem dL_law_512 : decode cL_law 512 = .ok (.istore 7, 2) := by decide +kernel
theorem dL_law_514 : decode cL_law 514 = .ok (.aload_n 2, 1) := by decide +kernel
theorem dL_law_515 : decode cL_law 515 = .ok (.invokevirtual 169, 3) := by decide +kernel
theorem dL_law_518 : decode cL_law 518 = .ok (.iload 6, 2) := by decide +kernel
theorem dL_law_520 : decode cL_law 520 = .ok (.if_icmp .eq 5, 3) := by decide +kernel
theorem dL_law_523 : decode cL_law 523 = .ok (.iconst 0, 1) := by decide +kernel
theorem dL_law_524 : decode cL_law 524 = .ok (.ireturn, 1) := by decide +kernel
theorem dL_law_525 : decode cL_law 525 = .ok (.iload 6, 2) := by decide +kernel
theorem dL_law_527 : decode cL_law 527 = .ok (.ifCond .ne 15, 3) := by decide +kernel
theorem dL_law_530 : decode cL_law 530 = .ok (.aload_n 3, 1) := by decide +kernel
theorem dL_law_531 : decode cL_law 531 = .ok (.iconst 0, 1) := by decide +kernel
theorem dL_law_532 : decode cL_law 532 = .ok (.laload, 1) := by decide +kernel
theorem dL_law_533 : decode cL_law 533 = .ok (.iload 7, 2) := by decide +kernel
theorem dL_law_535 : decode cL_law 535 = .ok (.i2l, 1) := by decide +kernel
theorem dL_law_536 : decode cL_law 536 = .ok (.lcmp, 1) := by decide +kernel
theorem dL_law_537 : decode cL_law 537 = .ok (.ifCond .eq 5, 3) := by decide +kernel
theorem dL_law_540 : decode cL_law 540 = .ok (.iconst 0, 1) := by decide +kernel
theorem dL_law_541 : decode cL_law 541 = .ok (.ireturn, 1) := by decide +kernel
theorem dL_law_542 : decode cL_law 542 = .ok (.goto 2608, 3) := by decide +kernel
set_option maxHeartbeats 4000000 in
set_option maxRecDepth 100000 in
theorem w_law_car {p : Program} {l : Launch} {e : Env} {s : State} {m : MethodId} {below : List Frame} {meth : Method} {c : Code} {G : Gx} {b L i n0 m0 aL aD : Nat} {xs : Nat → Int32} {iv : Int32} {cL cD : ClassId} {cells slots : Nat} {Rel : Nat → Sg → Sg → Prop} {nn : Nat} {Q : State → Prop} (hnn9 : nn < 600) (hst : l.stackTraces = false) (C : Cx p s m #[.ref b] meth c RL code 10 ret G) (F : Y_F G s n0 m0 aL aD cL cD) (hX : va_X b L xs s s.heap) (hbl : b < s.heap.size) (hi : Y_I iv i L) (hc : cells + 4 ≤ 601024) (hs : slots + 24 ≤ 7293034) (hE : E_car Rel)
    (hk : ∀ (σ ρ : Sg) (v : Int64) (w : UInt64) (H : Heap) (locs : List Loc) (ls : Array Slot), Rel (nn + 1) σ ρ → Y_S G s n0 m0 aL aD cL cD σ ρ v w H locs → lv_has ls 10 [(0, .ref b), (1, .ref n0), (2, .ref m0), (3, .ref aL), (4, .ref aD), (5, .int iv)] → W p l e room_1 s m #[.ref b] below meth c H locs (cells + 4) (slots + 24) Q (F0 m 3150 ls [])) :
    ∀ (σ ρ : Sg) (v : Int64) (w : UInt64) (H : Heap) (locs : List Loc) (ls : Array Slot), Rel nn σ ρ → Y_S G s n0 m0 aL aD cL cD σ ρ v w H locs → lv_has ls 10 [(0, .ref b), (1, .ref n0), (2, .ref m0), (3, .ref aL), (4, .ref aD), (5, .int iv)] → W p l e room_1 s m #[.ref b] below meth c H locs cells slots Q (F0 m 477 ls []) := by
  intro σ ρ v w H locs ls hR S hl
  obtain ⟨q, wq, ρ', e7, hq, e8, hR', hth, hval⟩ := hE nn σ ρ (xs (i + 1)) (xs (i + 2)) hnn9 hR 
  refine lv_aload_n C.1 C.2.1 dL_law_477 rfl (lv_at hl 1 rfl) ?_
  refine lv_aload_n C.1 C.2.1 dL_law_478 rfl (lv_at hl 0 rfl) ?_
  refine lv_iload C.1 C.2.1 dL_law_479 (lv_at hl 5 rfl) ?_
  refine lv_iconst (v := 1) C.1 C.2.1 dL_law_481 (by decide) ?_
  refine lv_iadd C.1 C.2.1 dL_law_482 ?_
  refine Y_sld C S hX hbl hi.2.1.2.1 hi.2.1.1 hi.2.1.2.2 dL_law_483 ?_
  refine lv_aload_n C.1 C.2.1 dL_law_484 rfl (lv_at hl 0 rfl) ?_
  refine lv_iload C.1 C.2.1 dL_law_485 (lv_at hl 5 rfl) ?_
  refine lv_iconst (v := 2) C.1 C.2.1 dL_law_487 (by decide) ?_
  refine lv_iadd C.1 C.2.1 dL_law_488 ?_
  refine Y_sld C S hX hbl hi.2.2.1.2.1 hi.2.2.1.1 hi.2.2.1.2.2 dL_law_489 ?_
  refine lv_aload_n C.1 C.2.1 dL_law_490 rfl (lv_at hl 3 rfl) ?_
  have hM := m_L_car l hst G (Y_X n0) σ (xs (i + 1)) (xs (i + 2)) q e7 hq cL aL v H.size
  rw [show (if q.1 = 0 then (Sum.inl q.2.1.toInt64 : Int64 ⊕ UInt64) else Sum.inl v) = Sum.inl (if q.1 = 0 then q.2.1.toInt64 else v) by split <;> rfl] at hM
  refine Y_wL (n := 4) (As := [.ref n0, .int (xs (i + 1)), .int (xs (i + 2)), .ref aL]) C F S hM (tt_4 (List.mem_of_getElem? (i := 49) (by decide +kernel)) (by decide +kernel)) tw_4_48 tw_1_0 ⟨by decide, by decide, by decide +kernel⟩ tw_4_47 ⟨(Nat.le_of_ble_eq_true rfl), (Nat.le_of_ble_eq_true rfl)⟩ rfl rfl (Nat.le_of_ble_eq_true rfl) hl.1 ⟨by show cells + 2 ≤ 601024; omega, by show slots + 12 ≤ 7293034; omega⟩ dL_law_491 (fun H locs S => ?_)
  refine lv_istore (lv' := [(6, .int (L_k [(1, 1), (2, 2)] q.1)), (0, .ref b), (1, .ref n0), (2, .ref m0), (3, .ref aL), (4, .ref aD), (5, .int iv)]) C.1 C.2.1 dL_law_494 hl (by decide) rfl (fun ls hl => ?_)
  refine lv_aload_n C.1 C.2.1 dL_law_496 rfl (lv_at hl 3 rfl) ?_
  refine lv_aload_n C.1 C.2.1 dL_law_497 rfl (lv_at hl 1 rfl) ?_
  refine lv_iload C.1 C.2.1 dL_law_498 (lv_at hl 6 rfl) ?_
  refine lv_iconst (v := 1) C.1 C.2.1 dL_law_500 (by decide) ?_
  refine lv_iadd C.1 C.2.1 dL_law_501 ?_
  refine Y_sld C S hX hbl hi.2.1.2.1 hi.2.1.1 hi.2.1.2.2 dL_law_502 ?_
  refine lv_aload_n C.1 C.2.1 dL_law_503 rfl (lv_at hl 1 rfl) ?_
  refine lv_iload C.1 C.2.1 dL_law_504 (lv_at hl 6 rfl) ?_
  refine lv_iconst (v := 2) C.1 C.2.1 dL_law_506 (by decide) ?_
  refine lv_iadd C.1 C.2.1 dL_law_507 ?_
  refine Y_sld C S hX hbl hi.2.2.1.2.1 hi.2.2.1.1 hi.2.2.1.2.2 dL_law_508 ?_
  refine Y_c1I (r := wq) (ρ' := ρ') (As := [.int (xs (i + 1)), .int (xs (i + 2))]) C F S rfl (m_X8_car l G (Y_Mo m0) ρ (xs (i + 1)) (xs (i + 2)) wq ρ' e8 _) kv_X8_car tw_7_64 ⟨(Nat.le_of_ble_eq_true rfl), (Nat.le_of_ble_eq_true rfl)⟩ rfl rfl (Nat.le_of_ble_eq_true rfl) hl.1 ⟨by show cells + 2 ≤ 601024; omega, by show slots + 12 ≤ 7293034; omega⟩ dL_law_509 (fun H locs S => ?_)
  refine lv_istore (lv' := [(7, .int wq), (6, .int (L_k [(1, 1), (2, 2)] q.1)), (0, .ref b), (1, .ref n0), (2, .ref m0), (3, .ref aL), (4, .ref aD), (5, .int iv)]) C.1 C.2.1 dL_law_512 hl (by decide) rfl (fun ls hl => ?_)
  refine lv_aload_n C.1 C.2.1 dL_law_514 rfl (lv_at hl 4 rfl) ?_
  refine Y_c1I (r := ρ' 8 0 8) (ρ' := ρ') C F S rfl (As := []) (m_X8_thrown l G _ ρ' _ _ rfl _) kv_X8_thrown tw_6_188 ⟨(Nat.le_of_ble_eq_true rfl), (Nat.le_of_ble_eq_true rfl)⟩ rfl rfl (Nat.le_of_ble_eq_true rfl) hl.1 ⟨by show cells + 2 ≤ 601024; omega, by show slots + 12 ≤ 7293034; omega⟩ dL_law_515 (fun H locs S => ?_)
  refine lv_iload C.1 C.2.1 dL_law_518 (lv_at hl 1 rfl) ?_
  refine lv_icmp_eq (tgt := 525) C.1 C.2.1 dL_law_520 (by decide) (fun _ => ?_) (fun c9 => absurd hth c9)
  refine lv_iload C.1 C.2.1 dL_law_525 (lv_at hl 1 rfl) ?_
  refine lv_if_ne (tgt := 542) C.1 C.2.1 dL_law_527 (by decide) (fun c9 => ?_) (fun c9 => ?_)
  · refine lv_goto (tgt := 3150) C.1 C.2.1 dL_law_542 (by decide) ?_
    exact W.widen (k := cells + 4) (n := slots + 24) (by omega) (by omega) (hk _ _ _ _ _ _ _ hR' S (lv_sub hl [2, 3, 4, 5, 6, 7] rfl))
  have h0 : q.1 = 0 := by
    rcases hq with h | h | h
    · exact h
    · rw [h] at c9; exact absurd c9 (by decide)
    · rw [h] at c9; exact absurd c9 (by decide)
  rw [if_pos h0, hval h0] at S
  refine lv_aload_n C.1 C.2.1 dL_law_530 rfl (lv_at hl 5 rfl) ?_
  refine lv_iconst (v := 0) C.1 C.2.1 dL_law_531 (by decide) ?_
  refine Y_lald C F S dL_law_532 ?_
  refine lv_iload C.1 C.2.1 dL_law_533 (lv_at hl 0 rfl) ?_
  refine lv_i2l C.1 C.2.1 dL_law_535 rfl ?_
  refine W.lcmp C.1 C.2.1 dL_law_536 ?_
  refine lv_if_eq (tgt := 542) C.1 C.2.1 dL_law_537 (by decide) (fun _ => ?_) (fun c9 => absurd (Y_cmp _) c9)
  refine lv_goto (tgt := 3150) C.1 C.2.1 dL_law_542 (by decide) ?_
  exact W.widen (k := cells + 4) (n := slots + 24) (by omega) (by omega) (hk _ _ _ _ _ _ _ hR' S (lv_sub hl [2, 3, 4, 5, 6, 7] rfl))
theorem dL_law_545 : decode cL_law 545 = .ok (.aload_n 1, 1) := by decide +kernel
theorem dL_law_546 : decode cL_law 546 = .ok (.aload_n 0, 1) := by decide +kernel
theorem dL_law_547 : decode cL_law 547 = .ok (.iload 5, 2) := by decide +kernel
theorem dL_law_549 : decode cL_law 549 = .ok (.iconst 1, 1) := by decide +kernel
theorem dL_law_550 : decode cL_law 550 = .ok (.iadd, 1) := by decide +kernel
theorem dL_law_551 : decode cL_law 551 = .ok (.iaload, 1) := by decide +kernel
theorem dL_law_552 : decode cL_law 552 = .ok (.aload_n 0, 1) := by decide +kernel
theorem dL_law_553 : decode cL_law 553 = .ok (.iload 5, 2) := by decide +kernel
theorem dL_law_555 : decode cL_law 555 = .ok (.iconst 2, 1) := by decide +kernel
theorem dL_law_556 : decode cL_law 556 = .ok (.iadd, 1) := by decide +kernel
theorem dL_law_557 : decode cL_law 557 = .ok (.iaload, 1) := by decide +kernel
theorem dL_law_558 : decode cL_law 558 = .ok (.aload_n 3, 1) := by decide +kernel
theorem dL_law_559 : decode cL_law 559 = .ok (.invokestatic 176, 3) := by decide +kernel
theorem dL_law_562 : decode cL_law 562 = .ok (.istore 6, 2) := by decide +kernel
theorem dL_law_564 : decode cL_law 564 = .ok (.aload_n 2, 1) := by decide +kernel
theorem dL_law_565 : decode cL_law 565 = .ok (.aload_n 0, 1) := by decide +kernel
theorem dL_law_566 : decode cL_law 566 = .ok (.iload 5, 2) := by decide +kernel
theorem dL_law_568 : decode cL_law 568 = .ok (.iconst 1, 1) := by decide +kernel
theorem dL_law_569 : decode cL_law 569 = .ok (.iadd, 1) := by decide +kernel
theorem dL_law_570 : decode cL_law 570 = .ok (.iaload, 1) := by decide +kernel
theorem dL_law_571 : decode cL_law 571 = .ok (.aload_n 0, 1) := by decide +kernel
theorem dL_law_572 : decode cL_law 572 = .ok (.iload 5, 2) := by decide +kernel
theorem dL_law_574 : decode cL_law 574 = .ok (.iconst 2, 1) := by decide +kernel
theorem dL_law_575 : decode cL_law 575 = .ok (.iadd, 1) := by decide +kernel
theorem dL_law_576 : decode cL_law 576 = .ok (.iaload, 1) := by decide +kernel
theorem dL_law_577 : decode cL_law 577 = .ok (.invokevirtual 178, 3) := by decide +kernel
theorem dL_law_580 : decode cL_law 580 = .ok (.istore 7, 2) := by decide +kernel
theorem dL_law_582 : decode cL_law 582 = .ok (.aload_n 2, 1) := by decide +kernel
theorem dL_law_583 : decode cL_law 583 = .ok (.invokevirtual 169, 3) := by decide +kernel
theorem dL_law_586 : decode cL_law 586 = .ok (.iload 6, 2) := by decide +kernel
theorem dL_law_588 : decode cL_law 588 = .ok (.if_icmp .eq 5, 3) := by decide +kernel
theorem dL_law_591 : decode cL_law 591 = .ok (.iconst 0, 1) := by decide +kernel
theorem dL_law_592 : decode cL_law 592 = .ok (.ireturn, 1) := by decide +kernel
theorem dL_law_593 : decode cL_law 593 = .ok (.iload 6, 2) := by decide +kernel
theorem dL_law_595 : decode cL_law 595 = .ok (.ifCond .ne 15, 3) := by decide +kernel
theorem dL_law_598 : decode cL_law 598 = .ok (.aload_n 3, 1) := by decide +kernel
theorem dL_law_599 : decode cL_law 599 = .ok (.iconst 0, 1) := by decide +kernel
theorem dL_law_600 : decode cL_law 600 = .ok (.laload, 1) := by decide +kernel
theorem dL_law_601 : decode cL_law 601 = .ok (.iload 7, 2) := by decide +kernel
theorem dL_law_603 : decode cL_law 603 = .ok (.i2l, 1) := by decide +kernel
theorem dL_law_604 : decode cL_law 604 = .ok (.lcmp, 1) := by decide +kernel
theorem dL_law_605 : decode cL_law 605 = .ok (.ifCond .eq 5, 3) := by decide +kernel
theorem dL_law_608 : decode cL_law 608 = .ok (.iconst 0, 1) := by decide +kernel
theorem dL_law_609 : decode cL_law 609 = .ok (.ireturn, 1) := by decide +kernel
theorem dL_law_610 : decode cL_law 610 = .ok (.goto 2540, 3) := by decide +kernel
set_option maxHeartbeats 4000000 in
set_option maxRecDepth 100000 in
theorem w_law_call {p : Program} {l : Launch} {e : Env} {s : State} {m : MethodId} {below : List Frame} {meth : Method} {c : Code} {G : Gx} {b L i n0 m0 aL aD : Nat} {xs : Nat → Int32} {iv : Int32} {cL cD : ClassId} {cells slots : Nat} {Rel : Nat → Sg → Sg → Prop} {nn : Nat} {Q : State → Prop} (hnn9 : nn < 600) (hst : l.stackTraces = false) (C : Cx p s m #[.ref b] meth c RL code 10 ret G) (F : Y_F G s n0 m0 aL aD cL cD) (hX : va_X b L xs s s.heap) (hbl : b < s.heap.size) (hi : Y_I iv i L) (hc : cells + 4 ≤ 601024) (hs : slots + 24 ≤ 7293034) (hE : E_call Rel)
    (hk : ∀ (σ ρ : Sg) (v : Int64) (w : UInt64) (H : Heap) (locs : List Loc) (ls : Array Slot), Rel (nn + 1) σ ρ → Y_S G s n0 m0 aL aD cL cD σ ρ v w H locs → lv_has ls 10 [(0, .ref b), (1, .ref n0), (2, .ref m0), (3, .ref aL), (4, .ref aD), (5, .int iv)] → W p l e room_1 s m #[.ref b] below meth c H locs (cells + 4) (slots + 24) Q (F0 m 3150 ls [])) :
    ∀ (σ ρ : Sg) (v : Int64) (w : UInt64) (H : Heap) (locs : List Loc) (ls : Array Slot), Rel nn σ ρ → Y_S G s n0 m0 aL aD cL cD σ ρ v w H locs → lv_has ls 10 [(0, .ref b), (1, .ref n0), (2, .ref m0), (3, .ref aL), (4, .ref aD), (5, .int iv)] → W p l e room_1 s m #[.ref b] below meth c H locs cells slots Q (F0 m 545 ls []) := by
  intro σ ρ v w H locs ls hR S hl
  obtain ⟨q, wq, ρ', e7, hq, e8, hR', hth, hval⟩ := hE nn σ ρ (xs (i + 1)) (xs (i + 2)) hnn9 hR 
  refine lv_aload_n C.1 C.2.1 dL_law_545 rfl (lv_at hl 1 rfl) ?_
  refine lv_aload_n C.1 C.2.1 dL_law_546 rfl (lv_at hl 0 rfl) ?_
  refine lv_iload C.1 C.2.1 dL_law_547 (lv_at hl 5 rfl) ?_
  refine lv_iconst (v := 1) C.1 C.2.1 dL_law_549 (by decide) ?_
  refine lv_iadd C.1 C.2.1 dL_law_550 ?_
  refine Y_sld C S hX hbl hi.2.1.2.1 hi.2.1.1 hi.2.1.2.2 dL_law_551 ?_
  refine lv_aload_n C.1 C.2.1 dL_law_552 rfl (lv_at hl 0 rfl) ?_
  refine lv_iload C.1 C.2.1 dL_law_553 (lv_at hl 5 rfl) ?_
  refine lv_iconst (v := 2) C.1 C.2.1 dL_law_555 (by decide) ?_
  refine lv_iadd C.1 C.2.1 dL_law_556 ?_
  refine Y_sld C S hX hbl hi.2.2.1.2.1 hi.2.2.1.1 hi.2.2.1.2.2 dL_law_557 ?_
  refine lv_aload_n C.1 C.2.1 dL_law_558 rfl (lv_at hl 3 rfl) ?_
  have hM := m_L_call l hst G (Y_X n0) σ (xs (i + 1)) (xs (i + 2)) q e7 hq cL aL v H.size
  rw [show (if q.1 = 0 then (Sum.inl q.2.1.toInt64 : Int64 ⊕ UInt64) else Sum.inl v) = Sum.inl (if q.1 = 0 then q.2.1.toInt64 else v) by split <;> rfl] at hM
  refine Y_wL (n := 4) (As := [.ref n0, .int (xs (i + 1)), .int (xs (i + 2)), .ref aL]) C F S hM (tt_4 (List.mem_of_getElem? (i := 83) (by decide +kernel)) (by decide +kernel)) tw_4_82 tw_1_0 ⟨by decide, by decide, by decide +kernel⟩ tw_4_81 ⟨(Nat.le_of_ble_eq_true rfl), (Nat.le_of_ble_eq_true rfl)⟩ rfl rfl (Nat.le_of_ble_eq_true rfl) hl.1 ⟨by show cells + 2 ≤ 601024; omega, by show slots + 12 ≤ 7293034; omega⟩ dL_law_559 (fun H locs S => ?_)
  refine lv_istore (lv' := [(6, .int (L_k [(1, 1), (2, 2)] q.1)), (0, .ref b), (1, .ref n0), (2, .ref m0), (3, .ref aL), (4, .ref aD), (5, .int iv)]) C.1 C.2.1 dL_law_562 hl (by decide) rfl (fun ls hl => ?_)
  refine lv_aload_n C.1 C.2.1 dL_law_564 rfl (lv_at hl 3 rfl) ?_
  refine lv_aload_n C.1 C.2.1 dL_law_565 rfl (lv_at hl 1 rfl) ?_
  refine lv_iload C.1 C.2.1 dL_law_566 (lv_at hl 6 rfl) ?_
  refine lv_iconst (v := 1) C.1 C.2.1 dL_law_568 (by decide) ?_
  refine lv_iadd C.1 C.2.1 dL_law_569 ?_
  refine Y_sld C S hX hbl hi.2.1.2.1 hi.2.1.1 hi.2.1.2.2 dL_law_570 ?_
  refine lv_aload_n C.1 C.2.1 dL_law_571 rfl (lv_at hl 1 rfl) ?_
  refine lv_iload C.1 C.2.1 dL_law_572 (lv_at hl 6 rfl) ?_
  refine lv_iconst (v := 2) C.1 C.2.1 dL_law_574 (by decide) ?_
  refine lv_iadd C.1 C.2.1 dL_law_575 ?_
  refine Y_sld C S hX hbl hi.2.2.1.2.1 hi.2.2.1.1 hi.2.2.1.2.2 dL_law_576 ?_
  refine Y_c1I (r := wq) (ρ' := ρ') (As := [.int (xs (i + 1)), .int (xs (i + 2))]) C F S rfl (m_X8_call l G (Y_Mo m0) ρ (xs (i + 1)) (xs (i + 2)) wq ρ' e8 _) kv_X8_call tw_7_87 ⟨(Nat.le_of_ble_eq_true rfl), (Nat.le_of_ble_eq_true rfl)⟩ rfl rfl (Nat.le_of_ble_eq_true rfl) hl.1 ⟨by show cells + 2 ≤ 601024; omega, by show slots + 12 ≤ 7293034; omega⟩ dL_law_577 (fun H locs S => ?_)
  refine lv_istore (lv' := [(7, .int wq), (6, .int (L_k [(1, 1), (2, 2)] q.1)), (0, .ref b), (1, .ref n0), (2, .ref m0), (3, .ref aL), (4, .ref aD), (5, .int iv)]) C.1 C.2.1 dL_law_580 hl (by decide) rfl (fun ls hl => ?_)
  refine lv_aload_n C.1 C.2.1 dL_law_582 rfl (lv_at hl 4 rfl) ?_
  refine Y_c1I (r := ρ' 8 0 8) (ρ' := ρ') C F S rfl (As := []) (m_X8_thrown l G _ ρ' _ _ rfl _) kv_X8_thrown tw_6_188 ⟨(Nat.le_of_ble_eq_true rfl), (Nat.le_of_ble_eq_true rfl)⟩ rfl rfl (Nat.le_of_ble_eq_true rfl) hl.1 ⟨by show cells + 2 ≤ 601024; omega, by show slots + 12 ≤ 7293034; omega⟩ dL_law_583 (fun H locs S => ?_)
  refine lv_iload C.1 C.2.1 dL_law_586 (lv_at hl 1 rfl) ?_
  refine lv_icmp_eq (tgt := 593) C.1 C.2.1 dL_law_588 (by decide) (fun _ => ?_) (fun c9 => absurd hth c9)
  refine lv_iload C.1 C.2.1 dL_law_593 (lv_at hl 1 rfl) ?_
  refine lv_if_ne (tgt := 610) C.1 C.2.1 dL_law_595 (by decide) (fun c9 => ?_) (fun c9 => ?_)
  · refine lv_goto (tgt := 3150) C.1 C.2.1 dL_law_610 (by decide) ?_
    exact W.widen (k := cells + 4) (n := slots + 24) (by omega) (by omega) (hk _ _ _ _ _ _ _ hR' S (lv_sub hl [2, 3, 4, 5, 6, 7] rfl))
  have h0 : q.1 = 0 := by
    rcases hq with h | h | h
    · exact h
    · rw [h] at c9; exact absurd c9 (by decide)
    · rw [h] at c9; exact absurd c9 (by decide)
  rw [if_pos h0, hval h0] at S
  refine lv_aload_n C.1 C.2.1 dL_law_598 rfl (lv_at hl 5 rfl) ?_
  refine lv_iconst (v := 0) C.1 C.2.1 dL_law_599 (by decide) ?_
  refine Y_lald C F S dL_law_600 ?_
  refine lv_iload C.1 C.2.1 dL_law_601 (lv_at hl 0 rfl) ?_
  refine lv_i2l C.1 C.2.1 dL_law_603 rfl ?_
  refine W.lcmp C.1 C.2.1 dL_law_604 ?_
  refine lv_if_eq (tgt := 610) C.1 C.2.1 dL_law_605 (by decide) (fun _ => ?_) (fun c9 => absurd (Y_cmp _) c9)
  refine lv_goto (tgt := 3150) C.1 C.2.1 dL_law_610 (by decide) ?_
  exact W.widen (k := cells + 4) (n := slots + 24) (by omega) (by omega) (hk _ _ _ _ _ _ _ hR' S (lv_sub hl [2, 3, 4, 5, 6, 7] rfl))
theorem dL_law_613 : decode cL_law 613 = .ok (.aload_n 1, 1) := by decide +kernel
theorem dL_law_614 : decode cL_law 614 = .ok (.aload_n 0, 1) := by decide +kernel
theorem dL_law_615 : decode cL_law 615 = .ok (.iload 5, 2) := by decide +kernel
theorem dL_law_617 : decode cL_law 617 = .ok (.iconst 1, 1) := by decide +kernel
theorem dL_law_618 : decode cL_law 618 = .ok (.iadd, 1) := by decide +kernel
theorem dL_law_619 : decode cL_law 619 = .ok (.iaload, 1) := by decide +kernel
theorem dL_law_620 : decode cL_law 620 = .ok (.aload_n 3, 1) := by decide +kernel
theorem dL_law_621 : decode cL_law 621 = .ok (.invokestatic 179, 3) := by decide +kernel
theorem dL_law_624 : decode cL_law 624 = .ok (.istore 6, 2) := by decide +kernel
theorem dL_law_626 : decode cL_law 626 = .ok (.aload_n 2, 1) := by decide +kernel
theorem dL_law_627 : decode cL_law 627 = .ok (.aload_n 0, 1) := by decide +kernel
theorem dL_law_628 : decode cL_law 628 = .ok (.iload 5, 2) := by decide +kernel
theorem dL_law_630 : decode cL_law 630 = .ok (.iconst 1, 1) := by decide +kernel
theorem dL_law_631 : decode cL_law 631 = .ok (.iadd, 1) := by decide +kernel
theorem dL_law_632 : decode cL_law 632 = .ok (.iaload, 1) := by decide +kernel
theorem dL_law_633 : decode cL_law 633 = .ok (.invokevirtual 181, 3) := by decide +kernel
theorem dL_law_636 : decode cL_law 636 = .ok (.istore 7, 2) := by decide +kernel
theorem dL_law_638 : decode cL_law 638 = .ok (.aload_n 2, 1) := by decide +kernel
theorem dL_law_639 : decode cL_law 639 = .ok (.invokevirtual 169, 3) := by decide +kernel
theorem dL_law_642 : decode cL_law 642 = .ok (.iload 6, 2) := by decide +kernel
theorem dL_law_644 : decode cL_law 644 = .ok (.if_icmp .eq 5, 3) := by decide +kernel
theorem dL_law_647 : decode cL_law 647 = .ok (.iconst 0, 1) := by decide +kernel
theorem dL_law_648 : decode cL_law 648 = .ok (.ireturn, 1) := by decide +kernel
theorem dL_law_649 : decode cL_law 649 = .ok (.iload 6, 2) := by decide +kernel
theorem dL_law_651 : decode cL_law 651 = .ok (.ifCond .ne 15, 3) := by decide +kernel
theorem dL_law_654 : decode cL_law 654 = .ok (.aload_n 3, 1) := by decide +kernel
theorem dL_law_655 : decode cL_law 655 = .ok (.iconst 0, 1) := by decide +kernel
theorem dL_law_656 : decode cL_law 656 = .ok (.laload, 1) := by decide +kernel
theorem dL_law_657 : decode cL_law 657 = .ok (.iload 7, 2) := by decide +kernel
theorem dL_law_659 : decode cL_law 659 = .ok (.i2l, 1) := by decide +kernel
theorem dL_law_660 : decode cL_law 660 = .ok (.lcmp, 1) := by decide +kernel
theorem dL_law_661 : decode cL_law 661 = .ok (.ifCond .eq 5, 3) := by decide +kernel
theorem dL_law_664 : decode cL_law 664 = .ok (.iconst 0, 1) := by decide +kernel
theorem dL_law_665 : decode cL_law 665 = .ok (.ireturn, 1) := by decide +kernel
theorem dL_law_666 : decode cL_law 666 = .ok (.goto 2484, 3) := by decide +kernel
set_option maxHeartbeats 4000000 in
set_option maxRecDepth 100000 in
theorem w_law_waitOf {p : Program} {l : Launch} {e : Env} {s : State} {m : MethodId} {below : List Frame} {meth : Method} {c : Code} {G : Gx} {b L i n0 m0 aL aD : Nat} {xs : Nat → Int32} {iv : Int32} {cL cD : ClassId} {cells slots : Nat} {Rel : Nat → Sg → Sg → Prop} {nn : Nat} {Q : State → Prop} (hnn9 : nn < 600) (hst : l.stackTraces = false) (C : Cx p s m #[.ref b] meth c RL code 10 ret G) (F : Y_F G s n0 m0 aL aD cL cD) (hX : va_X b L xs s s.heap) (hbl : b < s.heap.size) (hi : Y_I iv i L) (hc : cells + 4 ≤ 601024) (hs : slots + 24 ≤ 7293034) (hE : E_waitOf Rel)
    (hk : ∀ (σ ρ : Sg) (v : Int64) (w : UInt64) (H : Heap) (locs : List Loc) (ls : Array Slot), Rel (nn + 1) σ ρ → Y_S G s n0 m0 aL aD cL cD σ ρ v w H locs → lv_has ls 10 [(0, .ref b), (1, .ref n0), (2, .ref m0), (3, .ref aL), (4, .ref aD), (5, .int iv)] → W p l e room_1 s m #[.ref b] below meth c H locs (cells + 4) (slots + 24) Q (F0 m 3150 ls [])) :
    ∀ (σ ρ : Sg) (v : Int64) (w : UInt64) (H : Heap) (locs : List Loc) (ls : Array Slot), Rel nn σ ρ → Y_S G s n0 m0 aL aD cL cD σ ρ v w H locs → lv_has ls 10 [(0, .ref b), (1, .ref n0), (2, .ref m0), (3, .ref aL), (4, .ref aD), (5, .int iv)] → W p l e room_1 s m #[.ref b] below meth c H locs cells slots Q (F0 m 613 ls []) := by
  intro σ ρ v w H locs ls hR S hl
  obtain ⟨q, wq, ρ', e7, hq, e8, hR', hth, hval⟩ := hE nn σ ρ (xs (i + 1)) hnn9 hR 
  refine lv_aload_n C.1 C.2.1 dL_law_613 rfl (lv_at hl 1 rfl) ?_
  refine lv_aload_n C.1 C.2.1 dL_law_614 rfl (lv_at hl 0 rfl) ?_
  refine lv_iload C.1 C.2.1 dL_law_615 (lv_at hl 5 rfl) ?_
  refine lv_iconst (v := 1) C.1 C.2.1 dL_law_617 (by decide) ?_
  refine lv_iadd C.1 C.2.1 dL_law_618 ?_
  refine Y_sld C S hX hbl hi.2.1.2.1 hi.2.1.1 hi.2.1.2.2 dL_law_619 ?_
  refine lv_aload_n C.1 C.2.1 dL_law_620 rfl (lv_at hl 3 rfl) ?_
  have hM := m_L_waitOf l hst G (Y_X n0) σ (xs (i + 1)) q e7 hq cL aL v H.size
  rw [show (if q.1 = 0 then (Sum.inl q.2.1.toInt64 : Int64 ⊕ UInt64) else Sum.inl v) = Sum.inl (if q.1 = 0 then q.2.1.toInt64 else v) by split <;> rfl] at hM
  refine Y_wL (n := 3) (As := [.ref n0, .int (xs (i + 1)), .ref aL]) C F S hM (tt_4 (List.mem_of_getElem? (i := 95) (by decide +kernel)) (by decide +kernel)) tw_4_94 tw_1_0 ⟨by decide, by decide, by decide +kernel⟩ tw_4_93 ⟨(Nat.le_of_ble_eq_true rfl), (Nat.le_of_ble_eq_true rfl)⟩ rfl rfl (Nat.le_of_ble_eq_true rfl) hl.1 ⟨by show cells + 1 ≤ 601024; omega, by show slots + 6 ≤ 7293034; omega⟩ dL_law_621 (fun H locs S => ?_)
  refine lv_istore (lv' := [(6, .int (L_k [(1, 1)] q.1)), (0, .ref b), (1, .ref n0), (2, .ref m0), (3, .ref aL), (4, .ref aD), (5, .int iv)]) C.1 C.2.1 dL_law_624 hl (by decide) rfl (fun ls hl => ?_)
  refine lv_aload_n C.1 C.2.1 dL_law_626 rfl (lv_at hl 3 rfl) ?_
  refine lv_aload_n C.1 C.2.1 dL_law_627 rfl (lv_at hl 1 rfl) ?_
  refine lv_iload C.1 C.2.1 dL_law_628 (lv_at hl 6 rfl) ?_
  refine lv_iconst (v := 1) C.1 C.2.1 dL_law_630 (by decide) ?_
  refine lv_iadd C.1 C.2.1 dL_law_631 ?_
  refine Y_sld C S hX hbl hi.2.1.2.1 hi.2.1.1 hi.2.1.2.2 dL_law_632 ?_
  refine Y_c1I (r := wq) (ρ' := ρ') (As := [.int (xs (i + 1))]) C F S rfl (m_X8_waitOf l G (Y_Mo m0) ρ (xs (i + 1)) wq ρ' e8 _) kv_X8_waitOf tw_7_99 ⟨(Nat.le_of_ble_eq_true rfl), (Nat.le_of_ble_eq_true rfl)⟩ rfl rfl (Nat.le_of_ble_eq_true rfl) hl.1 ⟨by show cells + 1 ≤ 601024; omega, by show slots + 6 ≤ 7293034; omega⟩ dL_law_633 (fun H locs S => ?_)
  refine lv_istore (lv' := [(7, .int wq), (6, .int (L_k [(1, 1)] q.1)), (0, .ref b), (1, .ref n0), (2, .ref m0), (3, .ref aL), (4, .ref aD), (5, .int iv)]) C.1 C.2.1 dL_law_636 hl (by decide) rfl (fun ls hl => ?_)
  refine lv_aload_n C.1 C.2.1 dL_law_638 rfl (lv_at hl 4 rfl) ?_
  refine Y_c1I (r := ρ' 8 0 8) (ρ' := ρ') C F S rfl (As := []) (m_X8_thrown l G _ ρ' _ _ rfl _) kv_X8_thrown tw_6_188 ⟨(Nat.le_of_ble_eq_true rfl), (Nat.le_of_ble_eq_true rfl)⟩ rfl rfl (Nat.le_of_ble_eq_true rfl) hl.1 ⟨by show cells + 1 ≤ 601024; omega, by show slots + 6 ≤ 7293034; omega⟩ dL_law_639 (fun H locs S => ?_)
  refine lv_iload C.1 C.2.1 dL_law_642 (lv_at hl 1 rfl) ?_
  refine lv_icmp_eq (tgt := 649) C.1 C.2.1 dL_law_644 (by decide) (fun _ => ?_) (fun c9 => absurd hth c9)
  refine lv_iload C.1 C.2.1 dL_law_649 (lv_at hl 1 rfl) ?_
  refine lv_if_ne (tgt := 666) C.1 C.2.1 dL_law_651 (by decide) (fun c9 => ?_) (fun c9 => ?_)
  · refine lv_goto (tgt := 3150) C.1 C.2.1 dL_law_666 (by decide) ?_
    exact W.widen (k := cells + 4) (n := slots + 24) (by omega) (by omega) (hk _ _ _ _ _ _ _ hR' S (lv_sub hl [2, 3, 4, 5, 6, 7] rfl))
  have h0 : q.1 = 0 := by
    rcases hq with h | h
    · exact h
    · rw [h] at c9; exact absurd c9 (by decide)
  rw [if_pos h0, hval h0] at S
  refine lv_aload_n C.1 C.2.1 dL_law_654 rfl (lv_at hl 5 rfl) ?_
  refine lv_iconst (v := 0) C.1 C.2.1 dL_law_655 (by decide) ?_
  refine Y_lald C F S dL_law_656 ?_
  refine lv_iload C.1 C.2.1 dL_law_657 (lv_at hl 0 rfl) ?_
  refine lv_i2l C.1 C.2.1 dL_law_659 rfl ?_
  refine W.lcmp C.1 C.2.1 dL_law_660 ?_
  refine lv_if_eq (tgt := 666) C.1 C.2.1 dL_law_661 (by decide) (fun _ => ?_) (fun c9 => absurd (Y_cmp _) c9)
  refine lv_goto (tgt := 3150) C.1 C.2.1 dL_law_666 (by decide) ?_
  exact W.widen (k := cells + 4) (n := slots + 24) (by omega) (by omega) (hk _ _ _ _ _ _ _ hR' S (lv_sub hl [2, 3, 4, 5, 6, 7] rfl))
theorem dL_law_669 : decode cL_law 669 = .ok (.aload_n 1, 1) := by decide +kernel
theorem dL_law_670 : decode cL_law 670 = .ok (.aload_n 0, 1) := by decide +kernel
theorem dL_law_671 : decode cL_law 671 = .ok (.iload 5, 2) := by decide +kernel
theorem dL_law_673 : decode cL_law 673 = .ok (.iconst 1, 1) := by decide +kernel
theorem dL_law_674 : decode cL_law 674 = .ok (.iadd, 1) := by decide +kernel
theorem dL_law_675 : decode cL_law 675 = .ok (.iaload, 1) := by decide +kernel
theorem dL_law_676 : decode cL_law 676 = .ok (.aload_n 0, 1) := by decide +kernel
theorem dL_law_677 : decode cL_law 677 = .ok (.iload 5, 2) := by decide +kernel
theorem dL_law_679 : decode cL_law 679 = .ok (.iconst 2, 1) := by decide +kernel
theorem dL_law_680 : decode cL_law 680 = .ok (.iadd, 1) := by decide +kernel
theorem dL_law_681 : decode cL_law 681 = .ok (.iaload, 1) := by decide +kernel
theorem dL_law_682 : decode cL_law 682 = .ok (.aload_n 3, 1) := by decide +kernel
theorem dL_law_683 : decode cL_law 683 = .ok (.invokestatic 182, 3) := by decide +kernel
theorem dL_law_686 : decode cL_law 686 = .ok (.istore 6, 2) := by decide +kernel
theorem dL_law_688 : decode cL_law 688 = .ok (.aload_n 2, 1) := by decide +kernel
theorem dL_law_689 : decode cL_law 689 = .ok (.aload_n 0, 1) := by decide +kernel
theorem dL_law_690 : decode cL_law 690 = .ok (.iload 5, 2) := by decide +kernel
theorem dL_law_692 : decode cL_law 692 = .ok (.iconst 1, 1) := by decide +kernel
theorem dL_law_693 : decode cL_law 693 = .ok (.iadd, 1) := by decide +kernel
theorem dL_law_694 : decode cL_law 694 = .ok (.iaload, 1) := by decide +kernel
theorem dL_law_695 : decode cL_law 695 = .ok (.aload_n 0, 1) := by decide +kernel
theorem dL_law_696 : decode cL_law 696 = .ok (.iload 5, 2) := by decide +kernel
theorem dL_law_698 : decode cL_law 698 = .ok (.iconst 2, 1) := by decide +kernel
theorem dL_law_699 : decode cL_law 699 = .ok (.iadd, 1) := by decide +kernel
theorem dL_law_700 : decode cL_law 700 = .ok (.iaload, 1) := by decide +kernel
theorem dL_law_701 : decode cL_law 701 = .ok (.invokevirtual 184, 3) := by decide +kernel
theorem dL_law_704 : decode cL_law 704 = .ok (.istore 7, 2) := by decide +kernel
theorem dL_law_706 : decode cL_law 706 = .ok (.aload_n 2, 1) := by decide +kernel
theorem dL_law_707 : decode cL_law 707 = .ok (.invokevirtual 169, 3) := by decide +kernel
theorem dL_law_710 : decode cL_law 710 = .ok (.iload 6, 2) := by decide +kernel
theorem dL_law_712 : decode cL_law 712 = .ok (.if_icmp .eq 5, 3) := by decide +kernel
theorem dL_law_715 : decode cL_law 715 = .ok (.iconst 0, 1) := by decide +kernel
theorem dL_law_716 : decode cL_law 716 = .ok (.ireturn, 1) := by decide +kernel
theorem dL_law_717 : decode cL_law 717 = .ok (.iload 6, 2) := by decide +kernel
theorem dL_law_719 : decode cL_law 719 = .ok (.ifCond .ne 22, 3) := by decide +kernel
theorem dL_law_722 : decode cL_law 722 = .ok (.aload_n 3, 1) := by decide +kernel
theorem dL_law_723 : decode cL_law 723 = .ok (.iconst 0, 1) := by decide +kernel
theorem dL_law_724 : decode cL_law 724 = .ok (.laload, 1) := by decide +kernel
theorem dL_law_725 : decode cL_law 725 = .ok (.iload 7, 2) := by decide +kernel
theorem dL_law_727 : decode cL_law 727 = .ok (.ifCond .eq 7, 3) := by decide +kernel
theorem dL_law_730 : decode cL_law 730 = .ok (.lconst 1, 1) := by decide +kernel
theorem dL_law_731 : decode cL_law 731 = .ok (.goto 4, 3) := by decide +kernel
theorem dL_law_734 : decode cL_law 734 = .ok (.lconst 0, 1) := by decide +kernel
theorem dL_law_735 : decode cL_law 735 = .ok (.lcmp, 1) := by decide +kernel
theorem dL_law_736 : decode cL_law 736 = .ok (.ifCond .eq 5, 3) := by decide +kernel
theorem dL_law_739 : decode cL_law 739 = .ok (.iconst 0, 1) := by decide +kernel
theorem dL_law_740 : decode cL_law 740 = .ok (.ireturn, 1) := by decide +kernel
theorem dL_law_741 : decode cL_law 741 = .ok (.goto 2409, 3) := by decide +kernel
set_option maxHeartbeats 4000000 in
set_option maxRecDepth 100000 in
theorem w_law_holds {p : Program} {l : Launch} {e : Env} {s : State} {m : MethodId} {below : List Frame} {meth : Method} {c : Code} {G : Gx} {b L i n0 m0 aL aD : Nat} {xs : Nat → Int32} {iv : Int32} {cL cD : ClassId} {cells slots : Nat} {Rel : Nat → Sg → Sg → Prop} {nn : Nat} {Q : State → Prop} (hnn9 : nn < 600) (hst : l.stackTraces = false) (C : Cx p s m #[.ref b] meth c RL code 10 ret G) (F : Y_F G s n0 m0 aL aD cL cD) (hX : va_X b L xs s s.heap) (hbl : b < s.heap.size) (hi : Y_I iv i L) (hc : cells + 4 ≤ 601024) (hs : slots + 24 ≤ 7293034) (hE : E_holds Rel)
    (hk : ∀ (σ ρ : Sg) (v : Int64) (w : UInt64) (H : Heap) (locs : List Loc) (ls : Array Slot), Rel (nn + 1) σ ρ → Y_S G s n0 m0 aL aD cL cD σ ρ v w H locs → lv_has ls 10 [(0, .ref b), (1, .ref n0), (2, .ref m0), (3, .ref aL), (4, .ref aD), (5, .int iv)] → W p l e room_1 s m #[.ref b] below meth c H locs (cells + 4) (slots + 24) Q (F0 m 3150 ls [])) :
    ∀ (σ ρ : Sg) (v : Int64) (w : UInt64) (H : Heap) (locs : List Loc) (ls : Array Slot), Rel nn σ ρ → Y_S G s n0 m0 aL aD cL cD σ ρ v w H locs → lv_has ls 10 [(0, .ref b), (1, .ref n0), (2, .ref m0), (3, .ref aL), (4, .ref aD), (5, .int iv)] → W p l e room_1 s m #[.ref b] below meth c H locs cells slots Q (F0 m 669 ls []) := by
  intro σ ρ v w H locs ls hR S hl
  obtain ⟨q, wq, ρ', e7, hq, e8, hR', hth, hval⟩ := hE nn σ ρ (xs (i + 1)) (xs (i + 2)) hnn9 hR 
  refine lv_aload_n C.1 C.2.1 dL_law_669 rfl (lv_at hl 1 rfl) ?_
  refine lv_aload_n C.1 C.2.1 dL_law_670 rfl (lv_at hl 0 rfl) ?_
  refine lv_iload C.1 C.2.1 dL_law_671 (lv_at hl 5 rfl) ?_
  refine lv_iconst (v := 1) C.1 C.2.1 dL_law_673 (by decide) ?_
  refine lv_iadd C.1 C.2.1 dL_law_674 ?_
  refine Y_sld C S hX hbl hi.2.1.2.1 hi.2.1.1 hi.2.1.2.2 dL_law_675 ?_
  refine lv_aload_n C.1 C.2.1 dL_law_676 rfl (lv_at hl 0 rfl) ?_
  refine lv_iload C.1 C.2.1 dL_law_677 (lv_at hl 5 rfl) ?_
  refine lv_iconst (v := 2) C.1 C.2.1 dL_law_679 (by decide) ?_
  refine lv_iadd C.1 C.2.1 dL_law_680 ?_
  refine Y_sld C S hX hbl hi.2.2.1.2.1 hi.2.2.1.1 hi.2.2.1.2.2 dL_law_681 ?_
  refine lv_aload_n C.1 C.2.1 dL_law_682 rfl (lv_at hl 3 rfl) ?_
  have hM := m_L_holds l hst G (Y_X n0) σ (xs (i + 1)) (xs (i + 2)) q e7 hq cL aL v H.size
  rw [show (if q.1 = 0 then (Sum.inl (if q.2.1 = 0 then 0 else 1) : Int64 ⊕ UInt64) else Sum.inl v) = Sum.inl (if q.1 = 0 then (if q.2.1 = 0 then 0 else 1) else v) by split <;> rfl] at hM
  refine Y_wL (n := 4) (As := [.ref n0, .int (xs (i + 1)), .int (xs (i + 2)), .ref aL]) C F S hM (tt_4 (List.mem_of_getElem? (i := 102) (by decide +kernel)) (by decide +kernel)) tw_4_101 tw_1_0 ⟨by decide, by decide, by decide +kernel⟩ tw_4_100 ⟨(Nat.le_of_ble_eq_true rfl), (Nat.le_of_ble_eq_true rfl)⟩ rfl rfl (Nat.le_of_ble_eq_true rfl) hl.1 ⟨by show cells + 2 ≤ 601024; omega, by show slots + 12 ≤ 7293034; omega⟩ dL_law_683 (fun H locs S => ?_)
  refine lv_istore (lv' := [(6, .int (L_k [(1, 1)] q.1)), (0, .ref b), (1, .ref n0), (2, .ref m0), (3, .ref aL), (4, .ref aD), (5, .int iv)]) C.1 C.2.1 dL_law_686 hl (by decide) rfl (fun ls hl => ?_)
  refine lv_aload_n C.1 C.2.1 dL_law_688 rfl (lv_at hl 3 rfl) ?_
  refine lv_aload_n C.1 C.2.1 dL_law_689 rfl (lv_at hl 1 rfl) ?_
  refine lv_iload C.1 C.2.1 dL_law_690 (lv_at hl 6 rfl) ?_
  refine lv_iconst (v := 1) C.1 C.2.1 dL_law_692 (by decide) ?_
  refine lv_iadd C.1 C.2.1 dL_law_693 ?_
  refine Y_sld C S hX hbl hi.2.1.2.1 hi.2.1.1 hi.2.1.2.2 dL_law_694 ?_
  refine lv_aload_n C.1 C.2.1 dL_law_695 rfl (lv_at hl 1 rfl) ?_
  refine lv_iload C.1 C.2.1 dL_law_696 (lv_at hl 6 rfl) ?_
  refine lv_iconst (v := 2) C.1 C.2.1 dL_law_698 (by decide) ?_
  refine lv_iadd C.1 C.2.1 dL_law_699 ?_
  refine Y_sld C S hX hbl hi.2.2.1.2.1 hi.2.2.1.1 hi.2.2.1.2.2 dL_law_700 ?_
  refine Y_c1I (r := wq) (ρ' := ρ') (As := [.int (xs (i + 1)), .int (xs (i + 2))]) C F S rfl (m_X8_holds l G (Y_Mo m0) ρ (xs (i + 1)) (xs (i + 2)) wq ρ' e8 _) kv_X8_holds tw_7_107 ⟨(Nat.le_of_ble_eq_true rfl), (Nat.le_of_ble_eq_true rfl)⟩ rfl rfl (Nat.le_of_ble_eq_true rfl) hl.1 ⟨by show cells + 2 ≤ 601024; omega, by show slots + 12 ≤ 7293034; omega⟩ dL_law_701 (fun H locs S => ?_)
  refine lv_istore (lv' := [(7, .int wq), (6, .int (L_k [(1, 1)] q.1)), (0, .ref b), (1, .ref n0), (2, .ref m0), (3, .ref aL), (4, .ref aD), (5, .int iv)]) C.1 C.2.1 dL_law_704 hl (by decide) rfl (fun ls hl => ?_)
  refine lv_aload_n C.1 C.2.1 dL_law_706 rfl (lv_at hl 4 rfl) ?_
  refine Y_c1I (r := ρ' 8 0 8) (ρ' := ρ') C F S rfl (As := []) (m_X8_thrown l G _ ρ' _ _ rfl _) kv_X8_thrown tw_6_188 ⟨(Nat.le_of_ble_eq_true rfl), (Nat.le_of_ble_eq_true rfl)⟩ rfl rfl (Nat.le_of_ble_eq_true rfl) hl.1 ⟨by show cells + 2 ≤ 601024; omega, by show slots + 12 ≤ 7293034; omega⟩ dL_law_707 (fun H locs S => ?_)
  refine lv_iload C.1 C.2.1 dL_law_710 (lv_at hl 1 rfl) ?_
  refine lv_icmp_eq (tgt := 717) C.1 C.2.1 dL_law_712 (by decide) (fun _ => ?_) (fun c9 => absurd hth c9)
  refine lv_iload C.1 C.2.1 dL_law_717 (lv_at hl 1 rfl) ?_
  refine lv_if_ne (tgt := 741) C.1 C.2.1 dL_law_719 (by decide) (fun c9 => ?_) (fun c9 => ?_)
  · refine lv_goto (tgt := 3150) C.1 C.2.1 dL_law_741 (by decide) ?_
    exact W.widen (k := cells + 4) (n := slots + 24) (by omega) (by omega) (hk _ _ _ _ _ _ _ hR' S (lv_sub hl [2, 3, 4, 5, 6, 7] rfl))
  have h0 : q.1 = 0 := by
    rcases hq with h | h
    · exact h
    · rw [h] at c9; exact absurd c9 (by decide)
  rw [if_pos h0, hval h0] at S
  refine lv_aload_n C.1 C.2.1 dL_law_722 rfl (lv_at hl 5 rfl) ?_
  refine lv_iconst (v := 0) C.1 C.2.1 dL_law_723 (by decide) ?_
  refine Y_lald C F S dL_law_724 ?_
  refine lv_iload C.1 C.2.1 dL_law_725 (lv_at hl 0 rfl) ?_
  refine lv_if_eq (tgt := 734) C.1 C.2.1 dL_law_727 (by decide) (fun c9 => ?_) (fun c9 => ?_)
  · rw [if_pos c9] at S ⊢
    refine lv_lconst (v := 0) C.1 C.2.1 dL_law_734 rfl ?_
    refine W.lcmp C.1 C.2.1 dL_law_735 ?_
    refine lv_if_eq (tgt := 741) C.1 C.2.1 dL_law_736 (by decide) (fun _ => ?_) (fun c9 => absurd (Y_cmp _) c9)
    refine lv_goto (tgt := 3150) C.1 C.2.1 dL_law_741 (by decide) ?_
    exact W.widen (k := cells + 4) (n := slots + 24) (by omega) (by omega) (hk _ _ _ _ _ _ _ hR' S (lv_sub hl [2, 3, 4, 5, 6, 7] rfl))
  · rw [if_neg c9] at S ⊢
    refine lv_lconst (v := 1) C.1 C.2.1 dL_law_730 rfl ?_
    refine lv_goto (tgt := 735) C.1 C.2.1 dL_law_731 (by decide) ?_
    refine W.lcmp C.1 C.2.1 dL_law_735 ?_
    refine lv_if_eq (tgt := 741) C.1 C.2.1 dL_law_736 (by decide) (fun _ => ?_) (fun c9 => absurd (Y_cmp _) c9)
    refine lv_goto (tgt := 3150) C.1 C.2.1 dL_law_741 (by decide) ?_
    exact W.widen (k := cells + 4) (n := slots + 24) (by omega) (by omega) (hk _ _ _ _ _ _ _ hR' S (lv_sub hl [2, 3, 4, 5, 6, 7] rfl))
theorem dL_law_744 : decode cL_law 744 = .ok (.aload_n 1, 1) := by decide +kernel
theorem dL_law_745 : decode cL_law 745 = .ok (.aload_n 0, 1) := by decide +kernel
theorem dL_law_746 : decode cL_law 746 = .ok (.iload 5, 2) := by decide +kernel
theorem dL_law_748 : decode cL_law 748 = .ok (.iconst 1, 1) := by decide +kernel
theorem dL_law_749 : decode cL_law 749 = .ok (.iadd, 1) := by decide +kernel
theorem dL_law_750 : decode cL_law 750 = .ok (.iaload, 1) := by decide +kernel
theorem dL_law_751 : decode cL_law 751 = .ok (.aload_n 0, 1) := by decide +kernel
theorem dL_law_752 : decode cL_law 752 = .ok (.iload 5, 2) := by decide +kernel
theorem dL_law_754 : decode cL_law 754 = .ok (.iconst 2, 1) := by decide +kernel
theorem dL_law_755 : decode cL_law 755 = .ok (.iadd, 1) := by decide +kernel
theorem dL_law_756 : decode cL_law 756 = .ok (.iaload, 1) := by decide +kernel
theorem dL_law_757 : decode cL_law 757 = .ok (.aload_n 3, 1) := by decide +kernel
theorem dL_law_758 : decode cL_law 758 = .ok (.invokestatic 185, 3) := by decide +kernel
theorem dL_law_761 : decode cL_law 761 = .ok (.istore 6, 2) := by decide +kernel
theorem dL_law_763 : decode cL_law 763 = .ok (.aload_n 2, 1) := by decide +kernel
theorem dL_law_764 : decode cL_law 764 = .ok (.aload_n 0, 1) := by decide +kernel
theorem dL_law_765 : decode cL_law 765 = .ok (.iload 5, 2) := by decide +kernel
theorem dL_law_767 : decode cL_law 767 = .ok (.iconst 1, 1) := by decide +kernel
theorem dL_law_768 : decode cL_law 768 = .ok (.iadd, 1) := by decide +kernel
theorem dL_law_769 : decode cL_law 769 = .ok (.iaload, 1) := by decide +kernel
theorem dL_law_770 : decode cL_law 770 = .ok (.aload_n 0, 1) := by decide +kernel
theorem dL_law_771 : decode cL_law 771 = .ok (.iload 5, 2) := by decide +kernel
theorem dL_law_773 : decode cL_law 773 = .ok (.iconst 2, 1) := by decide +kernel
theorem dL_law_774 : decode cL_law 774 = .ok (.iadd, 1) := by decide +kernel
theorem dL_law_775 : decode cL_law 775 = .ok (.iaload, 1) := by decide +kernel
theorem dL_law_776 : decode cL_law 776 = .ok (.invokevirtual 187, 3) := by decide +kernel
theorem dL_law_779 : decode cL_law 779 = .ok (.istore 7, 2) := by decide +kernel
theorem dL_law_781 : decode cL_law 781 = .ok (.aload_n 2, 1) := by decide +kernel
theorem dL_law_782 : decode cL_law 782 = .ok (.invokevirtual 169, 3) := by decide +kernel
theorem dL_law_785 : decode cL_law 785 = .ok (.iload 6, 2) := by decide +kernel
theorem dL_law_787 : decode cL_law 787 = .ok (.if_icmp .eq 5, 3) := by decide +kernel
theorem dL_law_790 : decode cL_law 790 = .ok (.iconst 0, 1) := by decide +kernel
theorem dL_law_791 : decode cL_law 791 = .ok (.ireturn, 1) := by decide +kernel
theorem dL_law_792 : decode cL_law 792 = .ok (.iload 6, 2) := by decide +kernel
theorem dL_law_794 : decode cL_law 794 = .ok (.ifCond .ne 15, 3) := by decide +kernel
theorem dL_law_797 : decode cL_law 797 = .ok (.aload_n 3, 1) := by decide +kernel
theorem dL_law_798 : decode cL_law 798 = .ok (.iconst 0, 1) := by decide +kernel
theorem dL_law_799 : decode cL_law 799 = .ok (.laload, 1) := by decide +kernel
theorem dL_law_800 : decode cL_law 800 = .ok (.iload 7, 2) := by decide +kernel
theorem dL_law_802 : decode cL_law 802 = .ok (.i2l, 1) := by decide +kernel
theorem dL_law_803 : decode cL_law 803 = .ok (.lcmp, 1) := by decide +kernel
theorem dL_law_804 : decode cL_law 804 = .ok (.ifCond .eq 5, 3) := by decide +kernel
theorem dL_law_807 : decode cL_law 807 = .ok (.iconst 0, 1) := by decide +kernel
theorem dL_law_808 : decode cL_law 808 = .ok (.ireturn, 1) := by decide +kernel
theorem dL_law_809 : decode cL_law 809 = .ok (.goto 2341, 3) := by decide +kernel
set_option maxHeartbeats 4000000 in
set_option maxRecDepth 100000 in
theorem w_law_ownCost {p : Program} {l : Launch} {e : Env} {s : State} {m : MethodId} {below : List Frame} {meth : Method} {c : Code} {G : Gx} {b L i n0 m0 aL aD : Nat} {xs : Nat → Int32} {iv : Int32} {cL cD : ClassId} {cells slots : Nat} {Rel : Nat → Sg → Sg → Prop} {nn : Nat} {Q : State → Prop} (hnn9 : nn < 600) (hst : l.stackTraces = false) (C : Cx p s m #[.ref b] meth c RL code 10 ret G) (F : Y_F G s n0 m0 aL aD cL cD) (hX : va_X b L xs s s.heap) (hbl : b < s.heap.size) (hi : Y_I iv i L) (hc : cells + 4 ≤ 601024) (hs : slots + 24 ≤ 7293034) (hE : E_ownCost Rel)
    (hk : ∀ (σ ρ : Sg) (v : Int64) (w : UInt64) (H : Heap) (locs : List Loc) (ls : Array Slot), Rel (nn + 1) σ ρ → Y_S G s n0 m0 aL aD cL cD σ ρ v w H locs → lv_has ls 10 [(0, .ref b), (1, .ref n0), (2, .ref m0), (3, .ref aL), (4, .ref aD), (5, .int iv)] → W p l e room_1 s m #[.ref b] below meth c H locs (cells + 4) (slots + 24) Q (F0 m 3150 ls [])) :
    ∀ (σ ρ : Sg) (v : Int64) (w : UInt64) (H : Heap) (locs : List Loc) (ls : Array Slot), Rel nn σ ρ → Y_S G s n0 m0 aL aD cL cD σ ρ v w H locs → lv_has ls 10 [(0, .ref b), (1, .ref n0), (2, .ref m0), (3, .ref aL), (4, .ref aD), (5, .int iv)] → W p l e room_1 s m #[.ref b] below meth c H locs cells slots Q (F0 m 744 ls []) := by
  intro σ ρ v w H locs ls hR S hl
  obtain ⟨q, wq, ρ', e7, hq, e8, hR', hth, hval⟩ := hE nn σ ρ (xs (i + 1)) (xs (i + 2)) hnn9 hR 
  refine lv_aload_n C.1 C.2.1 dL_law_744 rfl (lv_at hl 1 rfl) ?_
  refine lv_aload_n C.1 C.2.1 dL_law_745 rfl (lv_at hl 0 rfl) ?_
  refine lv_iload C.1 C.2.1 dL_law_746 (lv_at hl 5 rfl) ?_
  refine lv_iconst (v := 1) C.1 C.2.1 dL_law_748 (by decide) ?_
  refine lv_iadd C.1 C.2.1 dL_law_749 ?_
  refine Y_sld C S hX hbl hi.2.1.2.1 hi.2.1.1 hi.2.1.2.2 dL_law_750 ?_
  refine lv_aload_n C.1 C.2.1 dL_law_751 rfl (lv_at hl 0 rfl) ?_
  refine lv_iload C.1 C.2.1 dL_law_752 (lv_at hl 5 rfl) ?_
  refine lv_iconst (v := 2) C.1 C.2.1 dL_law_754 (by decide) ?_
  refine lv_iadd C.1 C.2.1 dL_law_755 ?_
  refine Y_sld C S hX hbl hi.2.2.1.2.1 hi.2.2.1.1 hi.2.2.1.2.2 dL_law_756 ?_
  refine lv_aload_n C.1 C.2.1 dL_law_757 rfl (lv_at hl 3 rfl) ?_
  have hM := m_L_ownCost l hst G (Y_X n0) σ (xs (i + 1)) (xs (i + 2)) q e7 hq cL aL v H.size
  rw [show (if q.1 = 0 then (Sum.inl q.2.1.toInt64 : Int64 ⊕ UInt64) else Sum.inl v) = Sum.inl (if q.1 = 0 then q.2.1.toInt64 else v) by split <;> rfl] at hM
  refine Y_wL (n := 4) (As := [.ref n0, .int (xs (i + 1)), .int (xs (i + 2)), .ref aL]) C F S hM (tt_4 (List.mem_of_getElem? (i := 110) (by decide +kernel)) (by decide +kernel)) tw_4_109 tw_1_0 ⟨by decide, by decide, by decide +kernel⟩ tw_4_108 ⟨(Nat.le_of_ble_eq_true rfl), (Nat.le_of_ble_eq_true rfl)⟩ rfl rfl (Nat.le_of_ble_eq_true rfl) hl.1 ⟨by show cells + 2 ≤ 601024; omega, by show slots + 12 ≤ 7293034; omega⟩ dL_law_758 (fun H locs S => ?_)
  refine lv_istore (lv' := [(6, .int (L_k [(1, 1)] q.1)), (0, .ref b), (1, .ref n0), (2, .ref m0), (3, .ref aL), (4, .ref aD), (5, .int iv)]) C.1 C.2.1 dL_law_761 hl (by decide) rfl (fun ls hl => ?_)
  refine lv_aload_n C.1 C.2.1 dL_law_763 rfl (lv_at hl 3 rfl) ?_
  refine lv_aload_n C.1 C.2.1 dL_law_764 rfl (lv_at hl 1 rfl) ?_
  refine lv_iload C.1 C.2.1 dL_law_765 (lv_at hl 6 rfl) ?_
  refine lv_iconst (v := 1) C.1 C.2.1 dL_law_767 (by decide) ?_
  refine lv_iadd C.1 C.2.1 dL_law_768 ?_
  refine Y_sld C S hX hbl hi.2.1.2.1 hi.2.1.1 hi.2.1.2.2 dL_law_769 ?_
  refine lv_aload_n C.1 C.2.1 dL_law_770 rfl (lv_at hl 1 rfl) ?_
  refine lv_iload C.1 C.2.1 dL_law_771 (lv_at hl 6 rfl) ?_
  refine lv_iconst (v := 2) C.1 C.2.1 dL_law_773 (by decide) ?_
  refine lv_iadd C.1 C.2.1 dL_law_774 ?_
  refine Y_sld C S hX hbl hi.2.2.1.2.1 hi.2.2.1.1 hi.2.2.1.2.2 dL_law_775 ?_
  refine Y_c1I (r := wq) (ρ' := ρ') (As := [.int (xs (i + 1)), .int (xs (i + 2))]) C F S rfl (m_X8_ownCost l G (Y_Mo m0) ρ (xs (i + 1)) (xs (i + 2)) wq ρ' e8 _) kv_X8_ownCost tw_7_119 ⟨(Nat.le_of_ble_eq_true rfl), (Nat.le_of_ble_eq_true rfl)⟩ rfl rfl (Nat.le_of_ble_eq_true rfl) hl.1 ⟨by show cells + 2 ≤ 601024; omega, by show slots + 12 ≤ 7293034; omega⟩ dL_law_776 (fun H locs S => ?_)
  refine lv_istore (lv' := [(7, .int wq), (6, .int (L_k [(1, 1)] q.1)), (0, .ref b), (1, .ref n0), (2, .ref m0), (3, .ref aL), (4, .ref aD), (5, .int iv)]) C.1 C.2.1 dL_law_779 hl (by decide) rfl (fun ls hl => ?_)
  refine lv_aload_n C.1 C.2.1 dL_law_781 rfl (lv_at hl 4 rfl) ?_
  refine Y_c1I (r := ρ' 8 0 8) (ρ' := ρ') C F S rfl (As := []) (m_X8_thrown l G _ ρ' _ _ rfl _) kv_X8_thrown tw_6_188 ⟨(Nat.le_of_ble_eq_true rfl), (Nat.le_of_ble_eq_true rfl)⟩ rfl rfl (Nat.le_of_ble_eq_true rfl) hl.1 ⟨by show cells + 2 ≤ 601024; omega, by show slots + 12 ≤ 7293034; omega⟩ dL_law_782 (fun H locs S => ?_)
  refine lv_iload C.1 C.2.1 dL_law_785 (lv_at hl 1 rfl) ?_
  refine lv_icmp_eq (tgt := 792) C.1 C.2.1 dL_law_787 (by decide) (fun _ => ?_) (fun c9 => absurd hth c9)
  refine lv_iload C.1 C.2.1 dL_law_792 (lv_at hl 1 rfl) ?_
  refine lv_if_ne (tgt := 809) C.1 C.2.1 dL_law_794 (by decide) (fun c9 => ?_) (fun c9 => ?_)
  · refine lv_goto (tgt := 3150) C.1 C.2.1 dL_law_809 (by decide) ?_
    exact W.widen (k := cells + 4) (n := slots + 24) (by omega) (by omega) (hk _ _ _ _ _ _ _ hR' S (lv_sub hl [2, 3, 4, 5, 6, 7] rfl))
  have h0 : q.1 = 0 := by
    rcases hq with h | h
    · exact h
    · rw [h] at c9; exact absurd c9 (by decide)
  rw [if_pos h0, hval h0] at S
  refine lv_aload_n C.1 C.2.1 dL_law_797 rfl (lv_at hl 5 rfl) ?_
  refine lv_iconst (v := 0) C.1 C.2.1 dL_law_798 (by decide) ?_
  refine Y_lald C F S dL_law_799 ?_
  refine lv_iload C.1 C.2.1 dL_law_800 (lv_at hl 0 rfl) ?_
  refine lv_i2l C.1 C.2.1 dL_law_802 rfl ?_
  refine W.lcmp C.1 C.2.1 dL_law_803 ?_
  refine lv_if_eq (tgt := 809) C.1 C.2.1 dL_law_804 (by decide) (fun _ => ?_) (fun c9 => absurd (Y_cmp _) c9)
  refine lv_goto (tgt := 3150) C.1 C.2.1 dL_law_809 (by decide) ?_
  exact W.widen (k := cells + 4) (n := slots + 24) (by omega) (by omega) (hk _ _ _ _ _ _ _ hR' S (lv_sub hl [2, 3, 4, 5, 6, 7] rfl))
theorem dL_law_812 : decode cL_law 812 = .ok (.aload_n 1, 1) := by decide +kernel
theorem dL_law_813 : decode cL_law 813 = .ok (.aload_n 0, 1) := by decide +kernel
theorem dL_law_814 : decode cL_law 814 = .ok (.iload 5, 2) := by decide +kernel
theorem dL_law_816 : decode cL_law 816 = .ok (.iconst 1, 1) := by decide +kernel
theorem dL_law_817 : decode cL_law 817 = .ok (.iadd, 1) := by decide +kernel
theorem dL_law_818 : decode cL_law 818 = .ok (.iaload, 1) := by decide +kernel
theorem dL_law_819 : decode cL_law 819 = .ok (.aload_n 0, 1) := by decide +kernel
theorem dL_law_820 : decode cL_law 820 = .ok (.iload 5, 2) := by decide +kernel
theorem dL_law_822 : decode cL_law 822 = .ok (.iconst 2, 1) := by decide +kernel
theorem dL_law_823 : decode cL_law 823 = .ok (.iadd, 1) := by decide +kernel
theorem dL_law_824 : decode cL_law 824 = .ok (.iaload, 1) := by decide +kernel
theorem dL_law_825 : decode cL_law 825 = .ok (.aload_n 3, 1) := by decide +kernel
theorem dL_law_826 : decode cL_law 826 = .ok (.invokestatic 188, 3) := by decide +kernel
theorem dL_law_829 : decode cL_law 829 = .ok (.istore 6, 2) := by decide +kernel
theorem dL_law_831 : decode cL_law 831 = .ok (.aload_n 2, 1) := by decide +kernel
theorem dL_law_832 : decode cL_law 832 = .ok (.aload_n 0, 1) := by decide +kernel
theorem dL_law_833 : decode cL_law 833 = .ok (.iload 5, 2) := by decide +kernel
theorem dL_law_835 : decode cL_law 835 = .ok (.iconst 1, 1) := by decide +kernel
theorem dL_law_836 : decode cL_law 836 = .ok (.iadd, 1) := by decide +kernel
theorem dL_law_837 : decode cL_law 837 = .ok (.iaload, 1) := by decide +kernel
theorem dL_law_838 : decode cL_law 838 = .ok (.aload_n 0, 1) := by decide +kernel
theorem dL_law_839 : decode cL_law 839 = .ok (.iload 5, 2) := by decide +kernel
theorem dL_law_841 : decode cL_law 841 = .ok (.iconst 2, 1) := by decide +kernel
theorem dL_law_842 : decode cL_law 842 = .ok (.iadd, 1) := by decide +kernel
theorem dL_law_843 : decode cL_law 843 = .ok (.iaload, 1) := by decide +kernel
theorem dL_law_844 : decode cL_law 844 = .ok (.invokevirtual 190, 3) := by decide +kernel
theorem dL_law_847 : decode cL_law 847 = .ok (.istore 7, 2) := by decide +kernel
theorem dL_law_849 : decode cL_law 849 = .ok (.aload_n 2, 1) := by decide +kernel
theorem dL_law_850 : decode cL_law 850 = .ok (.invokevirtual 169, 3) := by decide +kernel
theorem dL_law_853 : decode cL_law 853 = .ok (.iload 6, 2) := by decide +kernel
theorem dL_law_855 : decode cL_law 855 = .ok (.if_icmp .eq 5, 3) := by decide +kernel
theorem dL_law_858 : decode cL_law 858 = .ok (.iconst 0, 1) := by decide +kernel
theorem dL_law_859 : decode cL_law 859 = .ok (.ireturn, 1) := by decide +kernel
theorem dL_law_860 : decode cL_law 860 = .ok (.iload 6, 2) := by decide +kernel
theorem dL_law_862 : decode cL_law 862 = .ok (.ifCond .ne 15, 3) := by decide +kernel
theorem dL_law_865 : decode cL_law 865 = .ok (.aload_n 3, 1) := by decide +kernel
theorem dL_law_866 : decode cL_law 866 = .ok (.iconst 0, 1) := by decide +kernel
theorem dL_law_867 : decode cL_law 867 = .ok (.laload, 1) := by decide +kernel
theorem dL_law_868 : decode cL_law 868 = .ok (.iload 7, 2) := by decide +kernel
theorem dL_law_870 : decode cL_law 870 = .ok (.i2l, 1) := by decide +kernel
theorem dL_law_871 : decode cL_law 871 = .ok (.lcmp, 1) := by decide +kernel
theorem dL_law_872 : decode cL_law 872 = .ok (.ifCond .eq 5, 3) := by decide +kernel
theorem dL_law_875 : decode cL_law 875 = .ok (.iconst 0, 1) := by decide +kernel
theorem dL_law_876 : decode cL_law 876 = .ok (.ireturn, 1) := by decide +kernel
theorem dL_law_877 : decode cL_law 877 = .ok (.goto 2273, 3) := by decide +kernel
set_option maxHeartbeats 4000000 in
set_option maxRecDepth 100000 in
theorem w_law_decides {p : Program} {l : Launch} {e : Env} {s : State} {m : MethodId} {below : List Frame} {meth : Method} {c : Code} {G : Gx} {b L i n0 m0 aL aD : Nat} {xs : Nat → Int32} {iv : Int32} {cL cD : ClassId} {cells slots : Nat} {Rel : Nat → Sg → Sg → Prop} {nn : Nat} {Q : State → Prop} (hnn9 : nn < 600) (hst : l.stackTraces = false) (C : Cx p s m #[.ref b] meth c RL code 10 ret G) (F : Y_F G s n0 m0 aL aD cL cD) (hX : va_X b L xs s s.heap) (hbl : b < s.heap.size) (hi : Y_I iv i L) (hc : cells + 4 ≤ 601024) (hs : slots + 24 ≤ 7293034) (hE : E_decides Rel)
    (hk : ∀ (σ ρ : Sg) (v : Int64) (w : UInt64) (H : Heap) (locs : List Loc) (ls : Array Slot), Rel (nn + 1) σ ρ → Y_S G s n0 m0 aL aD cL cD σ ρ v w H locs → lv_has ls 10 [(0, .ref b), (1, .ref n0), (2, .ref m0), (3, .ref aL), (4, .ref aD), (5, .int iv)] → W p l e room_1 s m #[.ref b] below meth c H locs (cells + 4) (slots + 24) Q (F0 m 3150 ls [])) :
    ∀ (σ ρ : Sg) (v : Int64) (w : UInt64) (H : Heap) (locs : List Loc) (ls : Array Slot), Rel nn σ ρ → Y_S G s n0 m0 aL aD cL cD σ ρ v w H locs → lv_has ls 10 [(0, .ref b), (1, .ref n0), (2, .ref m0), (3, .ref aL), (4, .ref aD), (5, .int iv)] → W p l e room_1 s m #[.ref b] below meth c H locs cells slots Q (F0 m 812 ls []) := by
  intro σ ρ v w H locs ls hR S hl
  obtain ⟨q, wq, ρ', e7, hq, e8, hR', hth, hval⟩ := hE nn σ ρ (xs (i + 1)) (xs (i + 2)) hnn9 hR 
  refine lv_aload_n C.1 C.2.1 dL_law_812 rfl (lv_at hl 1 rfl) ?_
  refine lv_aload_n C.1 C.2.1 dL_law_813 rfl (lv_at hl 0 rfl) ?_
  refine lv_iload C.1 C.2.1 dL_law_814 (lv_at hl 5 rfl) ?_
  refine lv_iconst (v := 1) C.1 C.2.1 dL_law_816 (by decide) ?_
  refine lv_iadd C.1 C.2.1 dL_law_817 ?_
  refine Y_sld C S hX hbl hi.2.1.2.1 hi.2.1.1 hi.2.1.2.2 dL_law_818 ?_
  refine lv_aload_n C.1 C.2.1 dL_law_819 rfl (lv_at hl 0 rfl) ?_
  refine lv_iload C.1 C.2.1 dL_law_820 (lv_at hl 5 rfl) ?_
  refine lv_iconst (v := 2) C.1 C.2.1 dL_law_822 (by decide) ?_
  refine lv_iadd C.1 C.2.1 dL_law_823 ?_
  refine Y_sld C S hX hbl hi.2.2.1.2.1 hi.2.2.1.1 hi.2.2.1.2.2 dL_law_824 ?_
  refine lv_aload_n C.1 C.2.1 dL_law_825 rfl (lv_at hl 3 rfl) ?_
  have hM := m_L_decides l hst G (Y_X n0) σ (xs (i + 1)) (xs (i + 2)) q e7 hq cL aL v H.size
  rw [show (if q.1 = 0 then (Sum.inl q.2.1.toInt64 : Int64 ⊕ UInt64) else Sum.inl v) = Sum.inl (if q.1 = 0 then q.2.1.toInt64 else v) by split <;> rfl] at hM
  refine Y_wL (n := 4) (As := [.ref n0, .int (xs (i + 1)), .int (xs (i + 2)), .ref aL]) C F S hM (tt_4 (List.mem_of_getElem? (i := 122) (by decide +kernel)) (by decide +kernel)) tw_4_121 tw_1_0 ⟨by decide, by decide, by decide +kernel⟩ tw_4_120 ⟨(Nat.le_of_ble_eq_true rfl), (Nat.le_of_ble_eq_true rfl)⟩ rfl rfl (Nat.le_of_ble_eq_true rfl) hl.1 ⟨by show cells + 2 ≤ 601024; omega, by show slots + 12 ≤ 7293034; omega⟩ dL_law_826 (fun H locs S => ?_)
  refine lv_istore (lv' := [(6, .int (L_k [(1, 1)] q.1)), (0, .ref b), (1, .ref n0), (2, .ref m0), (3, .ref aL), (4, .ref aD), (5, .int iv)]) C.1 C.2.1 dL_law_829 hl (by decide) rfl (fun ls hl => ?_)
  refine lv_aload_n C.1 C.2.1 dL_law_831 rfl (lv_at hl 3 rfl) ?_
  refine lv_aload_n C.1 C.2.1 dL_law_832 rfl (lv_at hl 1 rfl) ?_
  refine lv_iload C.1 C.2.1 dL_law_833 (lv_at hl 6 rfl) ?_
  refine lv_iconst (v := 1) C.1 C.2.1 dL_law_835 (by decide) ?_
  refine lv_iadd C.1 C.2.1 dL_law_836 ?_
  refine Y_sld C S hX hbl hi.2.1.2.1 hi.2.1.1 hi.2.1.2.2 dL_law_837 ?_
  refine lv_aload_n C.1 C.2.1 dL_law_838 rfl (lv_at hl 1 rfl) ?_
  refine lv_iload C.1 C.2.1 dL_law_839 (lv_at hl 6 rfl) ?_
  refine lv_iconst (v := 2) C.1 C.2.1 dL_law_841 (by decide) ?_
  refine lv_iadd C.1 C.2.1 dL_law_842 ?_
  refine Y_sld C S hX hbl hi.2.2.1.2.1 hi.2.2.1.1 hi.2.2.1.2.2 dL_law_843 ?_
  refine Y_c1I (r := wq) (ρ' := ρ') (As := [.int (xs (i + 1)), .int (xs (i + 2))]) C F S rfl (m_X8_decides_ l G (Y_Mo m0) ρ (xs (i + 1)) (xs (i + 2)) wq ρ' e8 _) kv_X8_decides_ tw_7_127 ⟨(Nat.le_of_ble_eq_true rfl), (Nat.le_of_ble_eq_true rfl)⟩ rfl rfl (Nat.le_of_ble_eq_true rfl) hl.1 ⟨by show cells + 2 ≤ 601024; omega, by show slots + 12 ≤ 7293034; omega⟩ dL_law_844 (fun H locs S => ?_)
  refine lv_istore (lv' := [(7, .int wq), (6, .int (L_k [(1, 1)] q.1)), (0, .ref b), (1, .ref n0), (2, .ref m0), (3, .ref aL), (4, .ref aD), (5, .int iv)]) C.1 C.2.1 dL_law_847 hl (by decide) rfl (fun ls hl => ?_)
  refine lv_aload_n C.1 C.2.1 dL_law_849 rfl (lv_at hl 4 rfl) ?_
  refine Y_c1I (r := ρ' 8 0 8) (ρ' := ρ') C F S rfl (As := []) (m_X8_thrown l G _ ρ' _ _ rfl _) kv_X8_thrown tw_6_188 ⟨(Nat.le_of_ble_eq_true rfl), (Nat.le_of_ble_eq_true rfl)⟩ rfl rfl (Nat.le_of_ble_eq_true rfl) hl.1 ⟨by show cells + 2 ≤ 601024; omega, by show slots + 12 ≤ 7293034; omega⟩ dL_law_850 (fun H locs S => ?_)
  refine lv_iload C.1 C.2.1 dL_law_853 (lv_at hl 1 rfl) ?_
  refine lv_icmp_eq (tgt := 860) C.1 C.2.1 dL_law_855 (by decide) (fun _ => ?_) (fun c9 => absurd hth c9)
  refine lv_iload C.1 C.2.1 dL_law_860 (lv_at hl 1 rfl) ?_
  refine lv_if_ne (tgt := 877) C.1 C.2.1 dL_law_862 (by decide) (fun c9 => ?_) (fun c9 => ?_)
  · refine lv_goto (tgt := 3150) C.1 C.2.1 dL_law_877 (by decide) ?_
    exact W.widen (k := cells + 4) (n := slots + 24) (by omega) (by omega) (hk _ _ _ _ _ _ _ hR' S (lv_sub hl [2, 3, 4, 5, 6, 7] rfl))
  have h0 : q.1 = 0 := by
    rcases hq with h | h
    · exact h
    · rw [h] at c9; exact absurd c9 (by decide)
  rw [if_pos h0, hval h0] at S
  refine lv_aload_n C.1 C.2.1 dL_law_865 rfl (lv_at hl 5 rfl) ?_
  refine lv_iconst (v := 0) C.1 C.2.1 dL_law_866 (by decide) ?_
  refine Y_lald C F S dL_law_867 ?_
  refine lv_iload C.1 C.2.1 dL_law_868 (lv_at hl 0 rfl) ?_
  refine lv_i2l C.1 C.2.1 dL_law_870 rfl ?_
  refine W.lcmp C.1 C.2.1 dL_law_871 ?_
  refine lv_if_eq (tgt := 877) C.1 C.2.1 dL_law_872 (by decide) (fun _ => ?_) (fun c9 => absurd (Y_cmp _) c9)
  refine lv_goto (tgt := 3150) C.1 C.2.1 dL_law_877 (by decide) ?_
  exact W.widen (k := cells + 4) (n := slots + 24) (by omega) (by omega) (hk _ _ _ _ _ _ _ hR' S (lv_sub hl [2, 3, 4, 5, 6, 7] rfl))
theorem dL_law_880 : decode cL_law 880 = .ok (.aload_n 1, 1) := by decide +kernel
theorem dL_law_881 : decode cL_law 881 = .ok (.aload_n 0, 1) := by decide +kernel
theorem dL_law_882 : decode cL_law 882 = .ok (.iload 5, 2) := by decide +kernel
theorem dL_law_884 : decode cL_law 884 = .ok (.iconst 1, 1) := by decide +kernel
theorem dL_law_885 : decode cL_law 885 = .ok (.iadd, 1) := by decide +kernel
theorem dL_law_886 : decode cL_law 886 = .ok (.iaload, 1) := by decide +kernel
theorem dL_law_887 : decode cL_law 887 = .ok (.aload_n 0, 1) := by decide +kernel
theorem dL_law_888 : decode cL_law 888 = .ok (.iload 5, 2) := by decide +kernel
theorem dL_law_890 : decode cL_law 890 = .ok (.iconst 2, 1) := by decide +kernel
theorem dL_law_891 : decode cL_law 891 = .ok (.iadd, 1) := by decide +kernel
theorem dL_law_892 : decode cL_law 892 = .ok (.iaload, 1) := by decide +kernel
theorem dL_law_893 : decode cL_law 893 = .ok (.aload_n 0, 1) := by decide +kernel
theorem dL_law_894 : decode cL_law 894 = .ok (.iload 5, 2) := by decide +kernel
theorem dL_law_896 : decode cL_law 896 = .ok (.iconst 3, 1) := by decide +kernel
theorem dL_law_897 : decode cL_law 897 = .ok (.iadd, 1) := by decide +kernel
theorem dL_law_898 : decode cL_law 898 = .ok (.iaload, 1) := by decide +kernel
theorem dL_law_899 : decode cL_law 899 = .ok (.aload_n 3, 1) := by decide +kernel
theorem dL_law_900 : decode cL_law 900 = .ok (.invokestatic 191, 3) := by decide +kernel
theorem dL_law_903 : decode cL_law 903 = .ok (.istore 6, 2) := by decide +kernel
theorem dL_law_905 : decode cL_law 905 = .ok (.aload_n 2, 1) := by decide +kernel
theorem dL_law_906 : decode cL_law 906 = .ok (.aload_n 0, 1) := by decide +kernel
theorem dL_law_907 : decode cL_law 907 = .ok (.iload 5, 2) := by decide +kernel
theorem dL_law_909 : decode cL_law 909 = .ok (.iconst 1, 1) := by decide +kernel
theorem dL_law_910 : decode cL_law 910 = .ok (.iadd, 1) := by decide +kernel
theorem dL_law_911 : decode cL_law 911 = .ok (.iaload, 1) := by decide +kernel
theorem dL_law_912 : decode cL_law 912 = .ok (.aload_n 0, 1) := by decide +kernel
theorem dL_law_913 : decode cL_law 913 = .ok (.iload 5, 2) := by decide +kernel
theorem dL_law_915 : decode cL_law 915 = .ok (.iconst 2, 1) := by decide +kernel
theorem dL_law_916 : decode cL_law 916 = .ok (.iadd, 1) := by decide +kernel
theorem dL_law_917 : decode cL_law 917 = .ok (.iaload, 1) := by decide +kernel
theorem dL_law_918 : decode cL_law 918 = .ok (.aload_n 0, 1) := by decide +kernel
theorem dL_law_919 : decode cL_law 919 = .ok (.iload 5, 2) := by decide +kernel
theorem dL_law_921 : decode cL_law 921 = .ok (.iconst 3, 1) := by decide +kernel
theorem dL_law_922 : decode cL_law 922 = .ok (.iadd, 1) := by decide +kernel
theorem dL_law_923 : decode cL_law 923 = .ok (.iaload, 1) := by decide +kernel
theorem dL_law_924 : decode cL_law 924 = .ok (.invokevirtual 194, 3) := by decide +kernel
theorem dL_law_927 : decode cL_law 927 = .ok (.istore 7, 2) := by decide +kernel
theorem dL_law_929 : decode cL_law 929 = .ok (.aload_n 2, 1) := by decide +kernel
theorem dL_law_930 : decode cL_law 930 = .ok (.invokevirtual 169, 3) := by decide +kernel
theorem dL_law_933 : decode cL_law 933 = .ok (.iload 6, 2) := by decide +kernel
theorem dL_law_935 : decode cL_law 935 = .ok (.if_icmp .eq 5, 3) := by decide +kernel
theorem dL_law_938 : decode cL_law 938 = .ok (.iconst 0, 1) := by decide +kernel
theorem dL_law_939 : decode cL_law 939 = .ok (.ireturn, 1) := by decide +kernel
theorem dL_law_940 : decode cL_law 940 = .ok (.iload 6, 2) := by decide +kernel
theorem dL_law_942 : decode cL_law 942 = .ok (.ifCond .ne 15, 3) := by decide +kernel
theorem dL_law_945 : decode cL_law 945 = .ok (.aload_n 3, 1) := by decide +kernel
theorem dL_law_946 : decode cL_law 946 = .ok (.iconst 0, 1) := by decide +kernel
theorem dL_law_947 : decode cL_law 947 = .ok (.laload, 1) := by decide +kernel
theorem dL_law_948 : decode cL_law 948 = .ok (.iload 7, 2) := by decide +kernel
theorem dL_law_950 : decode cL_law 950 = .ok (.i2l, 1) := by decide +kernel
theorem dL_law_951 : decode cL_law 951 = .ok (.lcmp, 1) := by decide +kernel
theorem dL_law_952 : decode cL_law 952 = .ok (.ifCond .eq 5, 3) := by decide +kernel
theorem dL_law_955 : decode cL_law 955 = .ok (.iconst 0, 1) := by decide +kernel
theorem dL_law_956 : decode cL_law 956 = .ok (.ireturn, 1) := by decide +kernel
theorem dL_law_957 : decode cL_law 957 = .ok (.goto 2193, 3) := by decide +kernel
set_option maxHeartbeats 4000000 in
set_option maxRecDepth 100000 in
theorem w_law_noted {p : Program} {l : Launch} {e : Env} {s : State} {m : MethodId} {below : List Frame} {meth : Method} {c : Code} {G : Gx} {b L i n0 m0 aL aD : Nat} {xs : Nat → Int32} {iv : Int32} {cL cD : ClassId} {cells slots : Nat} {Rel : Nat → Sg → Sg → Prop} {nn : Nat} {Q : State → Prop} (hnn9 : nn < 600) (hst : l.stackTraces = false) (C : Cx p s m #[.ref b] meth c RL code 10 ret G) (F : Y_F G s n0 m0 aL aD cL cD) (hX : va_X b L xs s s.heap) (hbl : b < s.heap.size) (hi : Y_I iv i L) (hc : cells + 4 ≤ 601024) (hs : slots + 24 ≤ 7293034) (hE : E_noted Rel)
    (hk : ∀ (σ ρ : Sg) (v : Int64) (w : UInt64) (H : Heap) (locs : List Loc) (ls : Array Slot), Rel (nn + 1) σ ρ → Y_S G s n0 m0 aL aD cL cD σ ρ v w H locs → lv_has ls 10 [(0, .ref b), (1, .ref n0), (2, .ref m0), (3, .ref aL), (4, .ref aD), (5, .int iv)] → W p l e room_1 s m #[.ref b] below meth c H locs (cells + 4) (slots + 24) Q (F0 m 3150 ls [])) :
    ∀ (σ ρ : Sg) (v : Int64) (w : UInt64) (H : Heap) (locs : List Loc) (ls : Array Slot), Rel nn σ ρ → Y_S G s n0 m0 aL aD cL cD σ ρ v w H locs → lv_has ls 10 [(0, .ref b), (1, .ref n0), (2, .ref m0), (3, .ref aL), (4, .ref aD), (5, .int iv)] → W p l e room_1 s m #[.ref b] below meth c H locs cells slots Q (F0 m 880 ls []) := by
  intro σ ρ v w H locs ls hR S hl
  obtain ⟨q, wq, ρ', e7, hq, e8, hR', hth, hval⟩ := hE nn σ ρ (xs (i + 1)) (xs (i + 2)) (xs (i + 3)) hnn9 hR 
  refine lv_aload_n C.1 C.2.1 dL_law_880 rfl (lv_at hl 1 rfl) ?_
  refine lv_aload_n C.1 C.2.1 dL_law_881 rfl (lv_at hl 0 rfl) ?_
  refine lv_iload C.1 C.2.1 dL_law_882 (lv_at hl 5 rfl) ?_
  refine lv_iconst (v := 1) C.1 C.2.1 dL_law_884 (by decide) ?_
  refine lv_iadd C.1 C.2.1 dL_law_885 ?_
  refine Y_sld C S hX hbl hi.2.1.2.1 hi.2.1.1 hi.2.1.2.2 dL_law_886 ?_
  refine lv_aload_n C.1 C.2.1 dL_law_887 rfl (lv_at hl 0 rfl) ?_
  refine lv_iload C.1 C.2.1 dL_law_888 (lv_at hl 5 rfl) ?_
  refine lv_iconst (v := 2) C.1 C.2.1 dL_law_890 (by decide) ?_
  refine lv_iadd C.1 C.2.1 dL_law_891 ?_
  refine Y_sld C S hX hbl hi.2.2.1.2.1 hi.2.2.1.1 hi.2.2.1.2.2 dL_law_892 ?_
  refine lv_aload_n C.1 C.2.1 dL_law_893 rfl (lv_at hl 0 rfl) ?_
  refine lv_iload C.1 C.2.1 dL_law_894 (lv_at hl 5 rfl) ?_
  refine lv_iconst (v := 3) C.1 C.2.1 dL_law_896 (by decide) ?_
  refine lv_iadd C.1 C.2.1 dL_law_897 ?_
  refine Y_sld C S hX hbl hi.2.2.2.1.2.1 hi.2.2.2.1.1 hi.2.2.2.1.2.2 dL_law_898 ?_
  refine lv_aload_n C.1 C.2.1 dL_law_899 rfl (lv_at hl 3 rfl) ?_
  have hM := m_L_noted l hst G (Y_X n0) σ (xs (i + 1)) (xs (i + 2)) (xs (i + 3)) q e7 hq cL aL v H.size
  rw [show (if q.1 = 0 then (Sum.inl q.2.1.toInt64 : Int64 ⊕ UInt64) else Sum.inl v) = Sum.inl (if q.1 = 0 then q.2.1.toInt64 else v) by split <;> rfl] at hM
  refine Y_wL (n := 5) (As := [.ref n0, .int (xs (i + 1)), .int (xs (i + 2)), .int (xs (i + 3)), .ref aL]) C F S hM (tt_4 (List.mem_of_getElem? (i := 129) (by decide +kernel)) (by decide +kernel)) tw_4_128 tw_1_0 ⟨by decide, by decide, by decide +kernel⟩ tw_4_127 ⟨(Nat.le_of_ble_eq_true rfl), (Nat.le_of_ble_eq_true rfl)⟩ rfl rfl (Nat.le_of_ble_eq_true rfl) hl.1 ⟨by show cells + 3 ≤ 601024; omega, by show slots + 18 ≤ 7293034; omega⟩ dL_law_900 (fun H locs S => ?_)
  refine lv_istore (lv' := [(6, .int (L_k [(1, 1)] q.1)), (0, .ref b), (1, .ref n0), (2, .ref m0), (3, .ref aL), (4, .ref aD), (5, .int iv)]) C.1 C.2.1 dL_law_903 hl (by decide) rfl (fun ls hl => ?_)
  refine lv_aload_n C.1 C.2.1 dL_law_905 rfl (lv_at hl 3 rfl) ?_
  refine lv_aload_n C.1 C.2.1 dL_law_906 rfl (lv_at hl 1 rfl) ?_
  refine lv_iload C.1 C.2.1 dL_law_907 (lv_at hl 6 rfl) ?_
  refine lv_iconst (v := 1) C.1 C.2.1 dL_law_909 (by decide) ?_
  refine lv_iadd C.1 C.2.1 dL_law_910 ?_
  refine Y_sld C S hX hbl hi.2.1.2.1 hi.2.1.1 hi.2.1.2.2 dL_law_911 ?_
  refine lv_aload_n C.1 C.2.1 dL_law_912 rfl (lv_at hl 1 rfl) ?_
  refine lv_iload C.1 C.2.1 dL_law_913 (lv_at hl 6 rfl) ?_
  refine lv_iconst (v := 2) C.1 C.2.1 dL_law_915 (by decide) ?_
  refine lv_iadd C.1 C.2.1 dL_law_916 ?_
  refine Y_sld C S hX hbl hi.2.2.1.2.1 hi.2.2.1.1 hi.2.2.1.2.2 dL_law_917 ?_
  refine lv_aload_n C.1 C.2.1 dL_law_918 rfl (lv_at hl 1 rfl) ?_
  refine lv_iload C.1 C.2.1 dL_law_919 (lv_at hl 6 rfl) ?_
  refine lv_iconst (v := 3) C.1 C.2.1 dL_law_921 (by decide) ?_
  refine lv_iadd C.1 C.2.1 dL_law_922 ?_
  refine Y_sld C S hX hbl hi.2.2.2.1.2.1 hi.2.2.2.1.1 hi.2.2.2.1.2.2 dL_law_923 ?_
  refine Y_c1I (r := wq) (ρ' := ρ') (As := [.int (xs (i + 1)), .int (xs (i + 2)), .int (xs (i + 3))]) C F S rfl (m_X8_noted l G (Y_Mo m0) ρ (xs (i + 1)) (xs (i + 2)) (xs (i + 3)) wq ρ' e8 _) kv_X8_noted tw_7_131 ⟨(Nat.le_of_ble_eq_true rfl), (Nat.le_of_ble_eq_true rfl)⟩ rfl rfl (Nat.le_of_ble_eq_true rfl) hl.1 ⟨by show cells + 3 ≤ 601024; omega, by show slots + 18 ≤ 7293034; omega⟩ dL_law_924 (fun H locs S => ?_)
  refine lv_istore (lv' := [(7, .int wq), (6, .int (L_k [(1, 1)] q.1)), (0, .ref b), (1, .ref n0), (2, .ref m0), (3, .ref aL), (4, .ref aD), (5, .int iv)]) C.1 C.2.1 dL_law_927 hl (by decide) rfl (fun ls hl => ?_)
  refine lv_aload_n C.1 C.2.1 dL_law_929 rfl (lv_at hl 4 rfl) ?_
  refine Y_c1I (r := ρ' 8 0 8) (ρ' := ρ') C F S rfl (As := []) (m_X8_thrown l G _ ρ' _ _ rfl _) kv_X8_thrown tw_6_188 ⟨(Nat.le_of_ble_eq_true rfl), (Nat.le_of_ble_eq_true rfl)⟩ rfl rfl (Nat.le_of_ble_eq_true rfl) hl.1 ⟨by show cells + 3 ≤ 601024; omega, by show slots + 18 ≤ 7293034; omega⟩ dL_law_930 (fun H locs S => ?_)
  refine lv_iload C.1 C.2.1 dL_law_933 (lv_at hl 1 rfl) ?_
  refine lv_icmp_eq (tgt := 940) C.1 C.2.1 dL_law_935 (by decide) (fun _ => ?_) (fun c9 => absurd hth c9)
  refine lv_iload C.1 C.2.1 dL_law_940 (lv_at hl 1 rfl) ?_
  refine lv_if_ne (tgt := 957) C.1 C.2.1 dL_law_942 (by decide) (fun c9 => ?_) (fun c9 => ?_)
  · refine lv_goto (tgt := 3150) C.1 C.2.1 dL_law_957 (by decide) ?_
    exact W.widen (k := cells + 4) (n := slots + 24) (by omega) (by omega) (hk _ _ _ _ _ _ _ hR' S (lv_sub hl [2, 3, 4, 5, 6, 7] rfl))
  have h0 : q.1 = 0 := by
    rcases hq with h | h
    · exact h
    · rw [h] at c9; exact absurd c9 (by decide)
  rw [if_pos h0, hval h0] at S
  refine lv_aload_n C.1 C.2.1 dL_law_945 rfl (lv_at hl 5 rfl) ?_
  refine lv_iconst (v := 0) C.1 C.2.1 dL_law_946 (by decide) ?_
  refine Y_lald C F S dL_law_947 ?_
  refine lv_iload C.1 C.2.1 dL_law_948 (lv_at hl 0 rfl) ?_
  refine lv_i2l C.1 C.2.1 dL_law_950 rfl ?_
  refine W.lcmp C.1 C.2.1 dL_law_951 ?_
  refine lv_if_eq (tgt := 957) C.1 C.2.1 dL_law_952 (by decide) (fun _ => ?_) (fun c9 => absurd (Y_cmp _) c9)
  refine lv_goto (tgt := 3150) C.1 C.2.1 dL_law_957 (by decide) ?_
  exact W.widen (k := cells + 4) (n := slots + 24) (by omega) (by omega) (hk _ _ _ _ _ _ _ hR' S (lv_sub hl [2, 3, 4, 5, 6, 7] rfl))
theorem dL_law_960 : decode cL_law 960 = .ok (.aload_n 1, 1) := by decide +kernel
theorem dL_law_961 : decode cL_law 961 = .ok (.aload_n 0, 1) := by decide +kernel
theorem dL_law_962 : decode cL_law 962 = .ok (.iload 5, 2) := by decide +kernel
theorem dL_law_964 : decode cL_law 964 = .ok (.iconst 1, 1) := by decide +kernel
theorem dL_law_965 : decode cL_law 965 = .ok (.iadd, 1) := by decide +kernel
theorem dL_law_966 : decode cL_law 966 = .ok (.iaload, 1) := by decide +kernel
theorem dL_law_967 : decode cL_law 967 = .ok (.aload_n 0, 1) := by decide +kernel
theorem dL_law_968 : decode cL_law 968 = .ok (.iload 5, 2) := by decide +kernel
theorem dL_law_970 : decode cL_law 970 = .ok (.iconst 2, 1) := by decide +kernel
theorem dL_law_971 : decode cL_law 971 = .ok (.iadd, 1) := by decide +kernel
theorem dL_law_972 : decode cL_law 972 = .ok (.iaload, 1) := by decide +kernel
theorem dL_law_973 : decode cL_law 973 = .ok (.aload_n 3, 1) := by decide +kernel
theorem dL_law_974 : decode cL_law 974 = .ok (.invokestatic 195, 3) := by decide +kernel
theorem dL_law_977 : decode cL_law 977 = .ok (.istore 6, 2) := by decide +kernel
theorem dL_law_979 : decode cL_law 979 = .ok (.aload_n 2, 1) := by decide +kernel
theorem dL_law_980 : decode cL_law 980 = .ok (.aload_n 0, 1) := by decide +kernel
theorem dL_law_981 : decode cL_law 981 = .ok (.iload 5, 2) := by decide +kernel
theorem dL_law_983 : decode cL_law 983 = .ok (.iconst 1, 1) := by decide +kernel
theorem dL_law_984 : decode cL_law 984 = .ok (.iadd, 1) := by decide +kernel
theorem dL_law_985 : decode cL_law 985 = .ok (.iaload, 1) := by decide +kernel
theorem dL_law_986 : decode cL_law 986 = .ok (.aload_n 0, 1) := by decide +kernel
theorem dL_law_987 : decode cL_law 987 = .ok (.iload 5, 2) := by decide +kernel
theorem dL_law_989 : decode cL_law 989 = .ok (.iconst 2, 1) := by decide +kernel
theorem dL_law_990 : decode cL_law 990 = .ok (.iadd, 1) := by decide +kernel
theorem dL_law_991 : decode cL_law 991 = .ok (.iaload, 1) := by decide +kernel
theorem dL_law_992 : decode cL_law 992 = .ok (.invokevirtual 197, 3) := by decide +kernel
theorem dL_law_995 : decode cL_law 995 = .ok (.istore 7, 2) := by decide +kernel
theorem dL_law_997 : decode cL_law 997 = .ok (.aload_n 2, 1) := by decide +kernel
theorem dL_law_998 : decode cL_law 998 = .ok (.invokevirtual 169, 3) := by decide +kernel
theorem dL_law_1001 : decode cL_law 1001 = .ok (.iload 6, 2) := by decide +kernel
theorem dL_law_1003 : decode cL_law 1003 = .ok (.if_icmp .eq 5, 3) := by decide +kernel
theorem dL_law_1006 : decode cL_law 1006 = .ok (.iconst 0, 1) := by decide +kernel
theorem dL_law_1007 : decode cL_law 1007 = .ok (.ireturn, 1) := by decide +kernel
theorem dL_law_1008 : decode cL_law 1008 = .ok (.iload 6, 2) := by decide +kernel
theorem dL_law_1010 : decode cL_law 1010 = .ok (.ifCond .ne 15, 3) := by decide +kernel
theorem dL_law_1013 : decode cL_law 1013 = .ok (.aload_n 3, 1) := by decide +kernel
theorem dL_law_1014 : decode cL_law 1014 = .ok (.iconst 0, 1) := by decide +kernel
theorem dL_law_1015 : decode cL_law 1015 = .ok (.laload, 1) := by decide +kernel
theorem dL_law_1016 : decode cL_law 1016 = .ok (.iload 7, 2) := by decide +kernel
theorem dL_law_1018 : decode cL_law 1018 = .ok (.i2l, 1) := by decide +kernel
theorem dL_law_1019 : decode cL_law 1019 = .ok (.lcmp, 1) := by decide +kernel
theorem dL_law_1020 : decode cL_law 1020 = .ok (.ifCond .eq 5, 3) := by decide +kernel
theorem dL_law_1023 : decode cL_law 1023 = .ok (.iconst 0, 1) := by decide +kernel
theorem dL_law_1024 : decode cL_law 1024 = .ok (.ireturn, 1) := by decide +kernel
theorem dL_law_1025 : decode cL_law 1025 = .ok (.goto 2125, 3) := by decide +kernel
set_option maxHeartbeats 4000000 in
set_option maxRecDepth 100000 in
theorem w_law_costNow {p : Program} {l : Launch} {e : Env} {s : State} {m : MethodId} {below : List Frame} {meth : Method} {c : Code} {G : Gx} {b L i n0 m0 aL aD : Nat} {xs : Nat → Int32} {iv : Int32} {cL cD : ClassId} {cells slots : Nat} {Rel : Nat → Sg → Sg → Prop} {nn : Nat} {Q : State → Prop} (hnn9 : nn < 600) (hst : l.stackTraces = false) (C : Cx p s m #[.ref b] meth c RL code 10 ret G) (F : Y_F G s n0 m0 aL aD cL cD) (hX : va_X b L xs s s.heap) (hbl : b < s.heap.size) (hi : Y_I iv i L) (hc : cells + 4 ≤ 601024) (hs : slots + 24 ≤ 7293034) (hE : E_costNow Rel)
    (hk : ∀ (σ ρ : Sg) (v : Int64) (w : UInt64) (H : Heap) (locs : List Loc) (ls : Array Slot), Rel (nn + 1) σ ρ → Y_S G s n0 m0 aL aD cL cD σ ρ v w H locs → lv_has ls 10 [(0, .ref b), (1, .ref n0), (2, .ref m0), (3, .ref aL), (4, .ref aD), (5, .int iv)] → W p l e room_1 s m #[.ref b] below meth c H locs (cells + 4) (slots + 24) Q (F0 m 3150 ls [])) :
    ∀ (σ ρ : Sg) (v : Int64) (w : UInt64) (H : Heap) (locs : List Loc) (ls : Array Slot), Rel nn σ ρ → Y_S G s n0 m0 aL aD cL cD σ ρ v w H locs → lv_has ls 10 [(0, .ref b), (1, .ref n0), (2, .ref m0), (3, .ref aL), (4, .ref aD), (5, .int iv)] → W p l e room_1 s m #[.ref b] below meth c H locs cells slots Q (F0 m 960 ls []) := by
  intro σ ρ v w H locs ls hR S hl
  obtain ⟨q, wq, ρ', e7, hq, e8, hR', hth, hval⟩ := hE nn σ ρ (xs (i + 1)) (xs (i + 2)) hnn9 hR 
  refine lv_aload_n C.1 C.2.1 dL_law_960 rfl (lv_at hl 1 rfl) ?_
  refine lv_aload_n C.1 C.2.1 dL_law_961 rfl (lv_at hl 0 rfl) ?_
  refine lv_iload C.1 C.2.1 dL_law_962 (lv_at hl 5 rfl) ?_
  refine lv_iconst (v := 1) C.1 C.2.1 dL_law_964 (by decide) ?_
  refine lv_iadd C.1 C.2.1 dL_law_965 ?_
  refine Y_sld C S hX hbl hi.2.1.2.1 hi.2.1.1 hi.2.1.2.2 dL_law_966 ?_
  refine lv_aload_n C.1 C.2.1 dL_law_967 rfl (lv_at hl 0 rfl) ?_
  refine lv_iload C.1 C.2.1 dL_law_968 (lv_at hl 5 rfl) ?_
  refine lv_iconst (v := 2) C.1 C.2.1 dL_law_970 (by decide) ?_
  refine lv_iadd C.1 C.2.1 dL_law_971 ?_
  refine Y_sld C S hX hbl hi.2.2.1.2.1 hi.2.2.1.1 hi.2.2.1.2.2 dL_law_972 ?_
  refine lv_aload_n C.1 C.2.1 dL_law_973 rfl (lv_at hl 3 rfl) ?_
  have hM := m_L_costNow l hst G (Y_X n0) σ (xs (i + 1)) (xs (i + 2)) q e7 hq cL aL v H.size
  rw [show (if q.1 = 0 then (Sum.inl q.2.1.toInt64 : Int64 ⊕ UInt64) else Sum.inl v) = Sum.inl (if q.1 = 0 then q.2.1.toInt64 else v) by split <;> rfl] at hM
  refine Y_wL (n := 4) (As := [.ref n0, .int (xs (i + 1)), .int (xs (i + 2)), .ref aL]) C F S hM (tt_4 (List.mem_of_getElem? (i := 140) (by decide +kernel)) (by decide +kernel)) tw_4_139 tw_1_0 ⟨by decide, by decide, by decide +kernel⟩ tw_4_138 ⟨(Nat.le_of_ble_eq_true rfl), (Nat.le_of_ble_eq_true rfl)⟩ rfl rfl (Nat.le_of_ble_eq_true rfl) hl.1 ⟨by show cells + 2 ≤ 601024; omega, by show slots + 12 ≤ 7293034; omega⟩ dL_law_974 (fun H locs S => ?_)
  refine lv_istore (lv' := [(6, .int (L_k [(1, 1)] q.1)), (0, .ref b), (1, .ref n0), (2, .ref m0), (3, .ref aL), (4, .ref aD), (5, .int iv)]) C.1 C.2.1 dL_law_977 hl (by decide) rfl (fun ls hl => ?_)
  refine lv_aload_n C.1 C.2.1 dL_law_979 rfl (lv_at hl 3 rfl) ?_
  refine lv_aload_n C.1 C.2.1 dL_law_980 rfl (lv_at hl 1 rfl) ?_
  refine lv_iload C.1 C.2.1 dL_law_981 (lv_at hl 6 rfl) ?_
  refine lv_iconst (v := 1) C.1 C.2.1 dL_law_983 (by decide) ?_
  refine lv_iadd C.1 C.2.1 dL_law_984 ?_
  refine Y_sld C S hX hbl hi.2.1.2.1 hi.2.1.1 hi.2.1.2.2 dL_law_985 ?_
  refine lv_aload_n C.1 C.2.1 dL_law_986 rfl (lv_at hl 1 rfl) ?_
  refine lv_iload C.1 C.2.1 dL_law_987 (lv_at hl 6 rfl) ?_
  refine lv_iconst (v := 2) C.1 C.2.1 dL_law_989 (by decide) ?_
  refine lv_iadd C.1 C.2.1 dL_law_990 ?_
  refine Y_sld C S hX hbl hi.2.2.1.2.1 hi.2.2.1.1 hi.2.2.1.2.2 dL_law_991 ?_
  refine Y_c1I (r := wq) (ρ' := ρ') (As := [.int (xs (i + 1)), .int (xs (i + 2))]) C F S rfl (m_X8_costNow l G (Y_Mo m0) ρ (xs (i + 1)) (xs (i + 2)) wq ρ' e8 _) kv_X8_costNow tw_7_135 ⟨(Nat.le_of_ble_eq_true rfl), (Nat.le_of_ble_eq_true rfl)⟩ rfl rfl (Nat.le_of_ble_eq_true rfl) hl.1 ⟨by show cells + 2 ≤ 601024; omega, by show slots + 12 ≤ 7293034; omega⟩ dL_law_992 (fun H locs S => ?_)
  refine lv_istore (lv' := [(7, .int wq), (6, .int (L_k [(1, 1)] q.1)), (0, .ref b), (1, .ref n0), (2, .ref m0), (3, .ref aL), (4, .ref aD), (5, .int iv)]) C.1 C.2.1 dL_law_995 hl (by decide) rfl (fun ls hl => ?_)
  refine lv_aload_n C.1 C.2.1 dL_law_997 rfl (lv_at hl 4 rfl) ?_
  refine Y_c1I (r := ρ' 8 0 8) (ρ' := ρ') C F S rfl (As := []) (m_X8_thrown l G _ ρ' _ _ rfl _) kv_X8_thrown tw_6_188 ⟨(Nat.le_of_ble_eq_true rfl), (Nat.le_of_ble_eq_true rfl)⟩ rfl rfl (Nat.le_of_ble_eq_true rfl) hl.1 ⟨by show cells + 2 ≤ 601024; omega, by show slots + 12 ≤ 7293034; omega⟩ dL_law_998 (fun H locs S => ?_)
  refine lv_iload C.1 C.2.1 dL_law_1001 (lv_at hl 1 rfl) ?_
  refine lv_icmp_eq (tgt := 1008) C.1 C.2.1 dL_law_1003 (by decide) (fun _ => ?_) (fun c9 => absurd hth c9)
  refine lv_iload C.1 C.2.1 dL_law_1008 (lv_at hl 1 rfl) ?_
  refine lv_if_ne (tgt := 1025) C.1 C.2.1 dL_law_1010 (by decide) (fun c9 => ?_) (fun c9 => ?_)
  · refine lv_goto (tgt := 3150) C.1 C.2.1 dL_law_1025 (by decide) ?_
    exact W.widen (k := cells + 4) (n := slots + 24) (by omega) (by omega) (hk _ _ _ _ _ _ _ hR' S (lv_sub hl [2, 3, 4, 5, 6, 7] rfl))
  have h0 : q.1 = 0 := by
    rcases hq with h | h
    · exact h
    · rw [h] at c9; exact absurd c9 (by decide)
  rw [if_pos h0, hval h0] at S
  refine lv_aload_n C.1 C.2.1 dL_law_1013 rfl (lv_at hl 5 rfl) ?_
  refine lv_iconst (v := 0) C.1 C.2.1 dL_law_1014 (by decide) ?_
  refine Y_lald C F S dL_law_1015 ?_
  refine lv_iload C.1 C.2.1 dL_law_1016 (lv_at hl 0 rfl) ?_
  refine lv_i2l C.1 C.2.1 dL_law_1018 rfl ?_
  refine W.lcmp C.1 C.2.1 dL_law_1019 ?_
  refine lv_if_eq (tgt := 1025) C.1 C.2.1 dL_law_1020 (by decide) (fun _ => ?_) (fun c9 => absurd (Y_cmp _) c9)
  refine lv_goto (tgt := 3150) C.1 C.2.1 dL_law_1025 (by decide) ?_
  exact W.widen (k := cells + 4) (n := slots + 24) (by omega) (by omega) (hk _ _ _ _ _ _ _ hR' S (lv_sub hl [2, 3, 4, 5, 6, 7] rfl))
theorem dL_law_1028 : decode cL_law 1028 = .ok (.aload_n 1, 1) := by decide +kernel
theorem dL_law_1029 : decode cL_law 1029 = .ok (.aload_n 0, 1) := by decide +kernel
theorem dL_law_1030 : decode cL_law 1030 = .ok (.iload 5, 2) := by decide +kernel
theorem dL_law_1032 : decode cL_law 1032 = .ok (.iconst 1, 1) := by decide +kernel
theorem dL_law_1033 : decode cL_law 1033 = .ok (.iadd, 1) := by decide +kernel
theorem dL_law_1034 : decode cL_law 1034 = .ok (.iaload, 1) := by decide +kernel
theorem dL_law_1035 : decode cL_law 1035 = .ok (.aload_n 0, 1) := by decide +kernel
theorem dL_law_1036 : decode cL_law 1036 = .ok (.iload 5, 2) := by decide +kernel
theorem dL_law_1038 : decode cL_law 1038 = .ok (.iconst 2, 1) := by decide +kernel
theorem dL_law_1039 : decode cL_law 1039 = .ok (.iadd, 1) := by decide +kernel
theorem dL_law_1040 : decode cL_law 1040 = .ok (.iaload, 1) := by decide +kernel
theorem dL_law_1041 : decode cL_law 1041 = .ok (.aload_n 3, 1) := by decide +kernel
theorem dL_law_1042 : decode cL_law 1042 = .ok (.invokestatic 198, 3) := by decide +kernel
theorem dL_law_1045 : decode cL_law 1045 = .ok (.istore 6, 2) := by decide +kernel
theorem dL_law_1047 : decode cL_law 1047 = .ok (.aload_n 2, 1) := by decide +kernel
theorem dL_law_1048 : decode cL_law 1048 = .ok (.aload_n 0, 1) := by decide +kernel
theorem dL_law_1049 : decode cL_law 1049 = .ok (.iload 5, 2) := by decide +kernel
theorem dL_law_1051 : decode cL_law 1051 = .ok (.iconst 1, 1) := by decide +kernel
theorem dL_law_1052 : decode cL_law 1052 = .ok (.iadd, 1) := by decide +kernel
theorem dL_law_1053 : decode cL_law 1053 = .ok (.iaload, 1) := by decide +kernel
theorem dL_law_1054 : decode cL_law 1054 = .ok (.aload_n 0, 1) := by decide +kernel
theorem dL_law_1055 : decode cL_law 1055 = .ok (.iload 5, 2) := by decide +kernel
theorem dL_law_1057 : decode cL_law 1057 = .ok (.iconst 2, 1) := by decide +kernel
theorem dL_law_1058 : decode cL_law 1058 = .ok (.iadd, 1) := by decide +kernel
theorem dL_law_1059 : decode cL_law 1059 = .ok (.iaload, 1) := by decide +kernel
theorem dL_law_1060 : decode cL_law 1060 = .ok (.invokevirtual 200, 3) := by decide +kernel
theorem dL_law_1063 : decode cL_law 1063 = .ok (.istore 7, 2) := by decide +kernel
theorem dL_law_1065 : decode cL_law 1065 = .ok (.aload_n 2, 1) := by decide +kernel
theorem dL_law_1066 : decode cL_law 1066 = .ok (.invokevirtual 169, 3) := by decide +kernel
theorem dL_law_1069 : decode cL_law 1069 = .ok (.iload 6, 2) := by decide +kernel
theorem dL_law_1071 : decode cL_law 1071 = .ok (.if_icmp .eq 5, 3) := by decide +kernel
theorem dL_law_1074 : decode cL_law 1074 = .ok (.iconst 0, 1) := by decide +kernel
theorem dL_law_1075 : decode cL_law 1075 = .ok (.ireturn, 1) := by decide +kernel
theorem dL_law_1076 : decode cL_law 1076 = .ok (.iload 6, 2) := by decide +kernel
theorem dL_law_1078 : decode cL_law 1078 = .ok (.ifCond .ne 15, 3) := by decide +kernel
theorem dL_law_1081 : decode cL_law 1081 = .ok (.aload_n 3, 1) := by decide +kernel
theorem dL_law_1082 : decode cL_law 1082 = .ok (.iconst 0, 1) := by decide +kernel
theorem dL_law_1083 : decode cL_law 1083 = .ok (.laload, 1) := by decide +kernel
theorem dL_law_1084 : decode cL_law 1084 = .ok (.iload 7, 2) := by decide +kernel
theorem dL_law_1086 : decode cL_law 1086 = .ok (.i2l, 1) := by decide +kernel
theorem dL_law_1087 : decode cL_law 1087 = .ok (.lcmp, 1) := by decide +kernel
theorem dL_law_1088 : decode cL_law 1088 = .ok (.ifCond .eq 5, 3) := by decide +kernel
theorem dL_law_1091 : decode cL_law 1091 = .ok (.iconst 0, 1) := by decide +kernel
theorem dL_law_1092 : decode cL_law 1092 = .ok (.ireturn, 1) := by decide +kernel
theorem dL_law_1093 : decode cL_law 1093 = .ok (.goto 2057, 3) := by decide +kernel
set_option maxHeartbeats 4000000 in
set_option maxRecDepth 100000 in
theorem w_law_held {p : Program} {l : Launch} {e : Env} {s : State} {m : MethodId} {below : List Frame} {meth : Method} {c : Code} {G : Gx} {b L i n0 m0 aL aD : Nat} {xs : Nat → Int32} {iv : Int32} {cL cD : ClassId} {cells slots : Nat} {Rel : Nat → Sg → Sg → Prop} {nn : Nat} {Q : State → Prop} (hnn9 : nn < 600) (hst : l.stackTraces = false) (C : Cx p s m #[.ref b] meth c RL code 10 ret G) (F : Y_F G s n0 m0 aL aD cL cD) (hX : va_X b L xs s s.heap) (hbl : b < s.heap.size) (hi : Y_I iv i L) (hc : cells + 4 ≤ 601024) (hs : slots + 24 ≤ 7293034) (hE : E_held Rel)
    (hk : ∀ (σ ρ : Sg) (v : Int64) (w : UInt64) (H : Heap) (locs : List Loc) (ls : Array Slot), Rel (nn + 1) σ ρ → Y_S G s n0 m0 aL aD cL cD σ ρ v w H locs → lv_has ls 10 [(0, .ref b), (1, .ref n0), (2, .ref m0), (3, .ref aL), (4, .ref aD), (5, .int iv)] → W p l e room_1 s m #[.ref b] below meth c H locs (cells + 4) (slots + 24) Q (F0 m 3150 ls [])) :
    ∀ (σ ρ : Sg) (v : Int64) (w : UInt64) (H : Heap) (locs : List Loc) (ls : Array Slot), Rel nn σ ρ → Y_S G s n0 m0 aL aD cL cD σ ρ v w H locs → lv_has ls 10 [(0, .ref b), (1, .ref n0), (2, .ref m0), (3, .ref aL), (4, .ref aD), (5, .int iv)] → W p l e room_1 s m #[.ref b] below meth c H locs cells slots Q (F0 m 1028 ls []) := by
  intro σ ρ v w H locs ls hR S hl
  obtain ⟨q, wq, ρ', e7, hq, e8, hR', hth, hval⟩ := hE nn σ ρ (xs (i + 1)) (xs (i + 2)) hnn9 hR 
  refine lv_aload_n C.1 C.2.1 dL_law_1028 rfl (lv_at hl 1 rfl) ?_
  refine lv_aload_n C.1 C.2.1 dL_law_1029 rfl (lv_at hl 0 rfl) ?_
  refine lv_iload C.1 C.2.1 dL_law_1030 (lv_at hl 5 rfl) ?_
  refine lv_iconst (v := 1) C.1 C.2.1 dL_law_1032 (by decide) ?_
  refine lv_iadd C.1 C.2.1 dL_law_1033 ?_
  refine Y_sld C S hX hbl hi.2.1.2.1 hi.2.1.1 hi.2.1.2.2 dL_law_1034 ?_
  refine lv_aload_n C.1 C.2.1 dL_law_1035 rfl (lv_at hl 0 rfl) ?_
  refine lv_iload C.1 C.2.1 dL_law_1036 (lv_at hl 5 rfl) ?_
  refine lv_iconst (v := 2) C.1 C.2.1 dL_law_1038 (by decide) ?_
  refine lv_iadd C.1 C.2.1 dL_law_1039 ?_
  refine Y_sld C S hX hbl hi.2.2.1.2.1 hi.2.2.1.1 hi.2.2.1.2.2 dL_law_1040 ?_
  refine lv_aload_n C.1 C.2.1 dL_law_1041 rfl (lv_at hl 3 rfl) ?_
  have hM := m_L_held l hst G (Y_X n0) σ (xs (i + 1)) (xs (i + 2)) q e7 hq cL aL v H.size
  rw [show (if q.1 = 0 then (Sum.inl q.2.1.toInt64 : Int64 ⊕ UInt64) else Sum.inl v) = Sum.inl (if q.1 = 0 then q.2.1.toInt64 else v) by split <;> rfl] at hM
  refine Y_wL (n := 4) (As := [.ref n0, .int (xs (i + 1)), .int (xs (i + 2)), .ref aL]) C F S hM (tt_4 (List.mem_of_getElem? (i := 155) (by decide +kernel)) (by decide +kernel)) tw_4_154 tw_1_0 ⟨by decide, by decide, by decide +kernel⟩ tw_4_153 ⟨(Nat.le_of_ble_eq_true rfl), (Nat.le_of_ble_eq_true rfl)⟩ rfl rfl (Nat.le_of_ble_eq_true rfl) hl.1 ⟨by show cells + 2 ≤ 601024; omega, by show slots + 12 ≤ 7293034; omega⟩ dL_law_1042 (fun H locs S => ?_)
  refine lv_istore (lv' := [(6, .int (L_k [(1, 1), (4, 2)] q.1)), (0, .ref b), (1, .ref n0), (2, .ref m0), (3, .ref aL), (4, .ref aD), (5, .int iv)]) C.1 C.2.1 dL_law_1045 hl (by decide) rfl (fun ls hl => ?_)
  refine lv_aload_n C.1 C.2.1 dL_law_1047 rfl (lv_at hl 3 rfl) ?_
  refine lv_aload_n C.1 C.2.1 dL_law_1048 rfl (lv_at hl 1 rfl) ?_
  refine lv_iload C.1 C.2.1 dL_law_1049 (lv_at hl 6 rfl) ?_
  refine lv_iconst (v := 1) C.1 C.2.1 dL_law_1051 (by decide) ?_
  refine lv_iadd C.1 C.2.1 dL_law_1052 ?_
  refine Y_sld C S hX hbl hi.2.1.2.1 hi.2.1.1 hi.2.1.2.2 dL_law_1053 ?_
  refine lv_aload_n C.1 C.2.1 dL_law_1054 rfl (lv_at hl 1 rfl) ?_
  refine lv_iload C.1 C.2.1 dL_law_1055 (lv_at hl 6 rfl) ?_
  refine lv_iconst (v := 2) C.1 C.2.1 dL_law_1057 (by decide) ?_
  refine lv_iadd C.1 C.2.1 dL_law_1058 ?_
  refine Y_sld C S hX hbl hi.2.2.1.2.1 hi.2.2.1.1 hi.2.2.1.2.2 dL_law_1059 ?_
  refine Y_c1I (r := wq) (ρ' := ρ') (As := [.int (xs (i + 1)), .int (xs (i + 2))]) C F S rfl (m_X8_held l G (Y_Mo m0) ρ (xs (i + 1)) (xs (i + 2)) wq ρ' e8 _) kv_X8_held tw_7_146 ⟨(Nat.le_of_ble_eq_true rfl), (Nat.le_of_ble_eq_true rfl)⟩ rfl rfl (Nat.le_of_ble_eq_true rfl) hl.1 ⟨by show cells + 2 ≤ 601024; omega, by show slots + 12 ≤ 7293034; omega⟩ dL_law_1060 (fun H locs S => ?_)
  refine lv_istore (lv' := [(7, .int wq), (6, .int (L_k [(1, 1), (4, 2)] q.1)), (0, .ref b), (1, .ref n0), (2, .ref m0), (3, .ref aL), (4, .ref aD), (5, .int iv)]) C.1 C.2.1 dL_law_1063 hl (by decide) rfl (fun ls hl => ?_)
  refine lv_aload_n C.1 C.2.1 dL_law_1065 rfl (lv_at hl 4 rfl) ?_
  refine Y_c1I (r := ρ' 8 0 8) (ρ' := ρ') C F S rfl (As := []) (m_X8_thrown l G _ ρ' _ _ rfl _) kv_X8_thrown tw_6_188 ⟨(Nat.le_of_ble_eq_true rfl), (Nat.le_of_ble_eq_true rfl)⟩ rfl rfl (Nat.le_of_ble_eq_true rfl) hl.1 ⟨by show cells + 2 ≤ 601024; omega, by show slots + 12 ≤ 7293034; omega⟩ dL_law_1066 (fun H locs S => ?_)
  refine lv_iload C.1 C.2.1 dL_law_1069 (lv_at hl 1 rfl) ?_
  refine lv_icmp_eq (tgt := 1076) C.1 C.2.1 dL_law_1071 (by decide) (fun _ => ?_) (fun c9 => absurd hth c9)
  refine lv_iload C.1 C.2.1 dL_law_1076 (lv_at hl 1 rfl) ?_
  refine lv_if_ne (tgt := 1093) C.1 C.2.1 dL_law_1078 (by decide) (fun c9 => ?_) (fun c9 => ?_)
  · refine lv_goto (tgt := 3150) C.1 C.2.1 dL_law_1093 (by decide) ?_
    exact W.widen (k := cells + 4) (n := slots + 24) (by omega) (by omega) (hk _ _ _ _ _ _ _ hR' S (lv_sub hl [2, 3, 4, 5, 6, 7] rfl))
  have h0 : q.1 = 0 := by
    rcases hq with h | h | h
    · exact h
    · rw [h] at c9; exact absurd c9 (by decide)
    · rw [h] at c9; exact absurd c9 (by decide)
  rw [if_pos h0, hval h0] at S
  refine lv_aload_n C.1 C.2.1 dL_law_1081 rfl (lv_at hl 5 rfl) ?_
  refine lv_iconst (v := 0) C.1 C.2.1 dL_law_1082 (by decide) ?_
  refine Y_lald C F S dL_law_1083 ?_
  refine lv_iload C.1 C.2.1 dL_law_1084 (lv_at hl 0 rfl) ?_
  refine lv_i2l C.1 C.2.1 dL_law_1086 rfl ?_
  refine W.lcmp C.1 C.2.1 dL_law_1087 ?_
  refine lv_if_eq (tgt := 1093) C.1 C.2.1 dL_law_1088 (by decide) (fun _ => ?_) (fun c9 => absurd (Y_cmp _) c9)
  refine lv_goto (tgt := 3150) C.1 C.2.1 dL_law_1093 (by decide) ?_
  exact W.widen (k := cells + 4) (n := slots + 24) (by omega) (by omega) (hk _ _ _ _ _ _ _ hR' S (lv_sub hl [2, 3, 4, 5, 6, 7] rfl))
theorem dL_law_1096 : decode cL_law 1096 = .ok (.aload_n 1, 1) := by decide +kernel
theorem dL_law_1097 : decode cL_law 1097 = .ok (.aload_n 0, 1) := by decide +kernel
theorem dL_law_1098 : decode cL_law 1098 = .ok (.iload 5, 2) := by decide +kernel
theorem dL_law_1100 : decode cL_law 1100 = .ok (.iconst 1, 1) := by decide +kernel
theorem dL_law_1101 : decode cL_law 1101 = .ok (.iadd, 1) := by decide +kernel
theorem dL_law_1102 : decode cL_law 1102 = .ok (.iaload, 1) := by decide +kernel
theorem dL_law_1103 : decode cL_law 1103 = .ok (.aload_n 3, 1) := by decide +kernel
theorem dL_law_1104 : decode cL_law 1104 = .ok (.invokestatic 201, 3) := by decide +kernel
theorem dL_law_1107 : decode cL_law 1107 = .ok (.istore 6, 2) := by decide +kernel
theorem dL_law_1109 : decode cL_law 1109 = .ok (.aload_n 2, 1) := by decide +kernel
theorem dL_law_1110 : decode cL_law 1110 = .ok (.aload_n 0, 1) := by decide +kernel
theorem dL_law_1111 : decode cL_law 1111 = .ok (.iload 5, 2) := by decide +kernel
theorem dL_law_1113 : decode cL_law 1113 = .ok (.iconst 1, 1) := by decide +kernel
theorem dL_law_1114 : decode cL_law 1114 = .ok (.iadd, 1) := by decide +kernel
theorem dL_law_1115 : decode cL_law 1115 = .ok (.iaload, 1) := by decide +kernel
theorem dL_law_1116 : decode cL_law 1116 = .ok (.invokevirtual 203, 3) := by decide +kernel
theorem dL_law_1119 : decode cL_law 1119 = .ok (.istore 7, 2) := by decide +kernel
theorem dL_law_1121 : decode cL_law 1121 = .ok (.aload_n 2, 1) := by decide +kernel
theorem dL_law_1122 : decode cL_law 1122 = .ok (.invokevirtual 169, 3) := by decide +kernel
theorem dL_law_1125 : decode cL_law 1125 = .ok (.iload 6, 2) := by decide +kernel
theorem dL_law_1127 : decode cL_law 1127 = .ok (.if_icmp .eq 5, 3) := by decide +kernel
theorem dL_law_1130 : decode cL_law 1130 = .ok (.iconst 0, 1) := by decide +kernel
theorem dL_law_1131 : decode cL_law 1131 = .ok (.ireturn, 1) := by decide +kernel
theorem dL_law_1132 : decode cL_law 1132 = .ok (.iload 6, 2) := by decide +kernel
theorem dL_law_1134 : decode cL_law 1134 = .ok (.ifCond .ne 15, 3) := by decide +kernel
theorem dL_law_1137 : decode cL_law 1137 = .ok (.aload_n 3, 1) := by decide +kernel
theorem dL_law_1138 : decode cL_law 1138 = .ok (.iconst 0, 1) := by decide +kernel
theorem dL_law_1139 : decode cL_law 1139 = .ok (.laload, 1) := by decide +kernel
theorem dL_law_1140 : decode cL_law 1140 = .ok (.iload 7, 2) := by decide +kernel
theorem dL_law_1142 : decode cL_law 1142 = .ok (.i2l, 1) := by decide +kernel
theorem dL_law_1143 : decode cL_law 1143 = .ok (.lcmp, 1) := by decide +kernel
theorem dL_law_1144 : decode cL_law 1144 = .ok (.ifCond .eq 5, 3) := by decide +kernel
theorem dL_law_1147 : decode cL_law 1147 = .ok (.iconst 0, 1) := by decide +kernel
theorem dL_law_1148 : decode cL_law 1148 = .ok (.ireturn, 1) := by decide +kernel
theorem dL_law_1149 : decode cL_law 1149 = .ok (.goto 2001, 3) := by decide +kernel
set_option maxHeartbeats 4000000 in
set_option maxRecDepth 100000 in
theorem w_law_goal {p : Program} {l : Launch} {e : Env} {s : State} {m : MethodId} {below : List Frame} {meth : Method} {c : Code} {G : Gx} {b L i n0 m0 aL aD : Nat} {xs : Nat → Int32} {iv : Int32} {cL cD : ClassId} {cells slots : Nat} {Rel : Nat → Sg → Sg → Prop} {nn : Nat} {Q : State → Prop} (hnn9 : nn < 600) (hst : l.stackTraces = false) (C : Cx p s m #[.ref b] meth c RL code 10 ret G) (F : Y_F G s n0 m0 aL aD cL cD) (hX : va_X b L xs s s.heap) (hbl : b < s.heap.size) (hi : Y_I iv i L) (hc : cells + 4 ≤ 601024) (hs : slots + 24 ≤ 7293034) (hE : E_goal Rel)
    (hk : ∀ (σ ρ : Sg) (v : Int64) (w : UInt64) (H : Heap) (locs : List Loc) (ls : Array Slot), Rel (nn + 1) σ ρ → Y_S G s n0 m0 aL aD cL cD σ ρ v w H locs → lv_has ls 10 [(0, .ref b), (1, .ref n0), (2, .ref m0), (3, .ref aL), (4, .ref aD), (5, .int iv)] → W p l e room_1 s m #[.ref b] below meth c H locs (cells + 4) (slots + 24) Q (F0 m 3150 ls [])) :
    ∀ (σ ρ : Sg) (v : Int64) (w : UInt64) (H : Heap) (locs : List Loc) (ls : Array Slot), Rel nn σ ρ → Y_S G s n0 m0 aL aD cL cD σ ρ v w H locs → lv_has ls 10 [(0, .ref b), (1, .ref n0), (2, .ref m0), (3, .ref aL), (4, .ref aD), (5, .int iv)] → W p l e room_1 s m #[.ref b] below meth c H locs cells slots Q (F0 m 1096 ls []) := by
  intro σ ρ v w H locs ls hR S hl
  obtain ⟨q, wq, ρ', e7, hq, e8, hR', hth, hval⟩ := hE nn σ ρ (xs (i + 1)) hnn9 hR 
  refine lv_aload_n C.1 C.2.1 dL_law_1096 rfl (lv_at hl 1 rfl) ?_
  refine lv_aload_n C.1 C.2.1 dL_law_1097 rfl (lv_at hl 0 rfl) ?_
  refine lv_iload C.1 C.2.1 dL_law_1098 (lv_at hl 5 rfl) ?_
  refine lv_iconst (v := 1) C.1 C.2.1 dL_law_1100 (by decide) ?_
  refine lv_iadd C.1 C.2.1 dL_law_1101 ?_
  refine Y_sld C S hX hbl hi.2.1.2.1 hi.2.1.1 hi.2.1.2.2 dL_law_1102 ?_
  refine lv_aload_n C.1 C.2.1 dL_law_1103 rfl (lv_at hl 3 rfl) ?_
  have hM := m_L_goal l hst G (Y_X n0) σ (xs (i + 1)) q e7 hq cL aL v H.size
  rw [show (if q.1 = 0 then (Sum.inl q.2.1.toInt64 : Int64 ⊕ UInt64) else Sum.inl v) = Sum.inl (if q.1 = 0 then q.2.1.toInt64 else v) by split <;> rfl] at hM
  refine Y_wL (n := 3) (As := [.ref n0, .int (xs (i + 1)), .ref aL]) C F S hM (tt_4 (List.mem_of_getElem? (i := 179) (by decide +kernel)) (by decide +kernel)) tw_4_178 tw_1_0 ⟨by decide, by decide, by decide +kernel⟩ tw_4_177 ⟨(Nat.le_of_ble_eq_true rfl), (Nat.le_of_ble_eq_true rfl)⟩ rfl rfl (Nat.le_of_ble_eq_true rfl) hl.1 ⟨by show cells + 1 ≤ 601024; omega, by show slots + 6 ≤ 7293034; omega⟩ dL_law_1104 (fun H locs S => ?_)
  refine lv_istore (lv' := [(6, .int (L_k [(1, 1)] q.1)), (0, .ref b), (1, .ref n0), (2, .ref m0), (3, .ref aL), (4, .ref aD), (5, .int iv)]) C.1 C.2.1 dL_law_1107 hl (by decide) rfl (fun ls hl => ?_)
  refine lv_aload_n C.1 C.2.1 dL_law_1109 rfl (lv_at hl 3 rfl) ?_
  refine lv_aload_n C.1 C.2.1 dL_law_1110 rfl (lv_at hl 1 rfl) ?_
  refine lv_iload C.1 C.2.1 dL_law_1111 (lv_at hl 6 rfl) ?_
  refine lv_iconst (v := 1) C.1 C.2.1 dL_law_1113 (by decide) ?_
  refine lv_iadd C.1 C.2.1 dL_law_1114 ?_
  refine Y_sld C S hX hbl hi.2.1.2.1 hi.2.1.1 hi.2.1.2.2 dL_law_1115 ?_
  refine Y_c1I (r := wq) (ρ' := ρ') (As := [.int (xs (i + 1))]) C F S rfl (m_X8_goal l G (Y_Mo m0) ρ (xs (i + 1)) wq ρ' e8 _) kv_X8_goal tw_7_150 ⟨(Nat.le_of_ble_eq_true rfl), (Nat.le_of_ble_eq_true rfl)⟩ rfl rfl (Nat.le_of_ble_eq_true rfl) hl.1 ⟨by show cells + 1 ≤ 601024; omega, by show slots + 6 ≤ 7293034; omega⟩ dL_law_1116 (fun H locs S => ?_)
  refine lv_istore (lv' := [(7, .int wq), (6, .int (L_k [(1, 1)] q.1)), (0, .ref b), (1, .ref n0), (2, .ref m0), (3, .ref aL), (4, .ref aD), (5, .int iv)]) C.1 C.2.1 dL_law_1119 hl (by decide) rfl (fun ls hl => ?_)
  refine lv_aload_n C.1 C.2.1 dL_law_1121 rfl (lv_at hl 4 rfl) ?_
  refine Y_c1I (r := ρ' 8 0 8) (ρ' := ρ') C F S rfl (As := []) (m_X8_thrown l G _ ρ' _ _ rfl _) kv_X8_thrown tw_6_188 ⟨(Nat.le_of_ble_eq_true rfl), (Nat.le_of_ble_eq_true rfl)⟩ rfl rfl (Nat.le_of_ble_eq_true rfl) hl.1 ⟨by show cells + 1 ≤ 601024; omega, by show slots + 6 ≤ 7293034; omega⟩ dL_law_1122 (fun H locs S => ?_)
  refine lv_iload C.1 C.2.1 dL_law_1125 (lv_at hl 1 rfl) ?_
  refine lv_icmp_eq (tgt := 1132) C.1 C.2.1 dL_law_1127 (by decide) (fun _ => ?_) (fun c9 => absurd hth c9)
  refine lv_iload C.1 C.2.1 dL_law_1132 (lv_at hl 1 rfl) ?_
  refine lv_if_ne (tgt := 1149) C.1 C.2.1 dL_law_1134 (by decide) (fun c9 => ?_) (fun c9 => ?_)
  · refine lv_goto (tgt := 3150) C.1 C.2.1 dL_law_1149 (by decide) ?_
    exact W.widen (k := cells + 4) (n := slots + 24) (by omega) (by omega) (hk _ _ _ _ _ _ _ hR' S (lv_sub hl [2, 3, 4, 5, 6, 7] rfl))
  have h0 : q.1 = 0 := by
    rcases hq with h | h
    · exact h
    · rw [h] at c9; exact absurd c9 (by decide)
  rw [if_pos h0, hval h0] at S
  refine lv_aload_n C.1 C.2.1 dL_law_1137 rfl (lv_at hl 5 rfl) ?_
  refine lv_iconst (v := 0) C.1 C.2.1 dL_law_1138 (by decide) ?_
  refine Y_lald C F S dL_law_1139 ?_
  refine lv_iload C.1 C.2.1 dL_law_1140 (lv_at hl 0 rfl) ?_
  refine lv_i2l C.1 C.2.1 dL_law_1142 rfl ?_
  refine W.lcmp C.1 C.2.1 dL_law_1143 ?_
  refine lv_if_eq (tgt := 1149) C.1 C.2.1 dL_law_1144 (by decide) (fun _ => ?_) (fun c9 => absurd (Y_cmp _) c9)
  refine lv_goto (tgt := 3150) C.1 C.2.1 dL_law_1149 (by decide) ?_
  exact W.widen (k := cells + 4) (n := slots + 24) (by omega) (by omega) (hk _ _ _ _ _ _ _ hR' S (lv_sub hl [2, 3, 4, 5, 6, 7] rfl))
theorem dL_law_1152 : decode cL_law 1152 = .ok (.aload_n 1, 1) := by decide +kernel
theorem dL_law_1153 : decode cL_law 1153 = .ok (.aload_n 0, 1) := by decide +kernel
theorem dL_law_1154 : decode cL_law 1154 = .ok (.iload 5, 2) := by decide +kernel
theorem dL_law_1156 : decode cL_law 1156 = .ok (.iconst 1, 1) := by decide +kernel
theorem dL_law_1157 : decode cL_law 1157 = .ok (.iadd, 1) := by decide +kernel
theorem dL_law_1158 : decode cL_law 1158 = .ok (.iaload, 1) := by decide +kernel
theorem dL_law_1159 : decode cL_law 1159 = .ok (.aload_n 0, 1) := by decide +kernel
theorem dL_law_1160 : decode cL_law 1160 = .ok (.iload 5, 2) := by decide +kernel
theorem dL_law_1162 : decode cL_law 1162 = .ok (.iconst 2, 1) := by decide +kernel
theorem dL_law_1163 : decode cL_law 1163 = .ok (.iadd, 1) := by decide +kernel
theorem dL_law_1164 : decode cL_law 1164 = .ok (.iaload, 1) := by decide +kernel
theorem dL_law_1165 : decode cL_law 1165 = .ok (.ifCond .eq 7, 3) := by decide +kernel
theorem dL_law_1168 : decode cL_law 1168 = .ok (.iconst 1, 1) := by decide +kernel
theorem dL_law_1169 : decode cL_law 1169 = .ok (.goto 4, 3) := by decide +kernel
theorem dL_law_1172 : decode cL_law 1172 = .ok (.iconst 0, 1) := by decide +kernel
theorem dL_law_1173 : decode cL_law 1173 = .ok (.aload_n 3, 1) := by decide +kernel
theorem dL_law_1174 : decode cL_law 1174 = .ok (.invokestatic 204, 3) := by decide +kernel
theorem dL_law_1177 : decode cL_law 1177 = .ok (.istore 6, 2) := by decide +kernel
theorem dL_law_1179 : decode cL_law 1179 = .ok (.aload_n 2, 1) := by decide +kernel
theorem dL_law_1180 : decode cL_law 1180 = .ok (.aload_n 0, 1) := by decide +kernel
theorem dL_law_1181 : decode cL_law 1181 = .ok (.iload 5, 2) := by decide +kernel
theorem dL_law_1183 : decode cL_law 1183 = .ok (.iconst 1, 1) := by decide +kernel
theorem dL_law_1184 : decode cL_law 1184 = .ok (.iadd, 1) := by decide +kernel
theorem dL_law_1185 : decode cL_law 1185 = .ok (.iaload, 1) := by decide +kernel
theorem dL_law_1186 : decode cL_law 1186 = .ok (.aload_n 0, 1) := by decide +kernel
theorem dL_law_1187 : decode cL_law 1187 = .ok (.iload 5, 2) := by decide +kernel
theorem dL_law_1189 : decode cL_law 1189 = .ok (.iconst 2, 1) := by decide +kernel
theorem dL_law_1190 : decode cL_law 1190 = .ok (.iadd, 1) := by decide +kernel
theorem dL_law_1191 : decode cL_law 1191 = .ok (.iaload, 1) := by decide +kernel
theorem dL_law_1192 : decode cL_law 1192 = .ok (.ifCond .eq 7, 3) := by decide +kernel
theorem dL_law_1195 : decode cL_law 1195 = .ok (.iconst 1, 1) := by decide +kernel
theorem dL_law_1196 : decode cL_law 1196 = .ok (.goto 4, 3) := by decide +kernel
theorem dL_law_1199 : decode cL_law 1199 = .ok (.iconst 0, 1) := by decide +kernel
theorem dL_law_1200 : decode cL_law 1200 = .ok (.invokevirtual 207, 3) := by decide +kernel
theorem dL_law_1203 : decode cL_law 1203 = .ok (.istore 7, 2) := by decide +kernel
theorem dL_law_1205 : decode cL_law 1205 = .ok (.aload_n 2, 1) := by decide +kernel
theorem dL_law_1206 : decode cL_law 1206 = .ok (.invokevirtual 169, 3) := by decide +kernel
theorem dL_law_1209 : decode cL_law 1209 = .ok (.iload 6, 2) := by decide +kernel
theorem dL_law_1211 : decode cL_law 1211 = .ok (.if_icmp .eq 5, 3) := by decide +kernel
theorem dL_law_1214 : decode cL_law 1214 = .ok (.iconst 0, 1) := by decide +kernel
theorem dL_law_1215 : decode cL_law 1215 = .ok (.ireturn, 1) := by decide +kernel
theorem dL_law_1216 : decode cL_law 1216 = .ok (.iload 6, 2) := by decide +kernel
theorem dL_law_1218 : decode cL_law 1218 = .ok (.ifCond .ne 15, 3) := by decide +kernel
theorem dL_law_1221 : decode cL_law 1221 = .ok (.aload_n 3, 1) := by decide +kernel
theorem dL_law_1222 : decode cL_law 1222 = .ok (.iconst 0, 1) := by decide +kernel
theorem dL_law_1223 : decode cL_law 1223 = .ok (.laload, 1) := by decide +kernel
theorem dL_law_1224 : decode cL_law 1224 = .ok (.iload 7, 2) := by decide +kernel
theorem dL_law_1226 : decode cL_law 1226 = .ok (.i2l, 1) := by decide +kernel
theorem dL_law_1227 : decode cL_law 1227 = .ok (.lcmp, 1) := by decide +kernel
theorem dL_law_1228 : decode cL_law 1228 = .ok (.ifCond .eq 5, 3) := by decide +kernel
theorem dL_law_1231 : decode cL_law 1231 = .ok (.iconst 0, 1) := by decide +kernel
theorem dL_law_1232 : decode cL_law 1232 = .ok (.ireturn, 1) := by decide +kernel
theorem dL_law_1233 : decode cL_law 1233 = .ok (.goto 1917, 3) := by decide +kernel
set_option maxHeartbeats 4000000 in
set_option maxRecDepth 100000 in
theorem w_law_messages {p : Program} {l : Launch} {e : Env} {s : State} {m : MethodId} {below : List Frame} {meth : Method} {c : Code} {G : Gx} {b L i n0 m0 aL aD : Nat} {xs : Nat → Int32} {iv : Int32} {cL cD : ClassId} {cells slots : Nat} {Rel : Nat → Sg → Sg → Prop} {nn : Nat} {Q : State → Prop} (hnn9 : nn < 600) (hst : l.stackTraces = false) (C : Cx p s m #[.ref b] meth c RL code 10 ret G) (F : Y_F G s n0 m0 aL aD cL cD) (hX : va_X b L xs s s.heap) (hbl : b < s.heap.size) (hi : Y_I iv i L) (hc : cells + 4 ≤ 601024) (hs : slots + 24 ≤ 7293034) (hE : E_messages Rel)
    (hk : ∀ (σ ρ : Sg) (v : Int64) (w : UInt64) (H : Heap) (locs : List Loc) (ls : Array Slot), Rel (nn + 1) σ ρ → Y_S G s n0 m0 aL aD cL cD σ ρ v w H locs → lv_has ls 10 [(0, .ref b), (1, .ref n0), (2, .ref m0), (3, .ref aL), (4, .ref aD), (5, .int iv)] → W p l e room_1 s m #[.ref b] below meth c H locs (cells + 4) (slots + 24) Q (F0 m 3150 ls [])) :
    ∀ (σ ρ : Sg) (v : Int64) (w : UInt64) (H : Heap) (locs : List Loc) (ls : Array Slot), Rel nn σ ρ → Y_S G s n0 m0 aL aD cL cD σ ρ v w H locs → lv_has ls 10 [(0, .ref b), (1, .ref n0), (2, .ref m0), (3, .ref aL), (4, .ref aD), (5, .int iv)] → W p l e room_1 s m #[.ref b] below meth c H locs cells slots Q (F0 m 1152 ls []) := by
  intro σ ρ v w H locs ls hR S hl
  by_cases hb0 : xs (i + 2) = 0
  · obtain ⟨q, wq, ρ', e7, hq, e8, hR', hth, hval⟩ := hE nn σ ρ (xs (i + 1)) 0 hnn9 hR (Or.inl rfl)
    refine lv_aload_n C.1 C.2.1 dL_law_1152 rfl (lv_at hl 1 rfl) ?_
    refine lv_aload_n C.1 C.2.1 dL_law_1153 rfl (lv_at hl 0 rfl) ?_
    refine lv_iload C.1 C.2.1 dL_law_1154 (lv_at hl 5 rfl) ?_
    refine lv_iconst (v := 1) C.1 C.2.1 dL_law_1156 (by decide) ?_
    refine lv_iadd C.1 C.2.1 dL_law_1157 ?_
    refine Y_sld C S hX hbl hi.2.1.2.1 hi.2.1.1 hi.2.1.2.2 dL_law_1158 ?_
    refine lv_aload_n C.1 C.2.1 dL_law_1159 rfl (lv_at hl 0 rfl) ?_
    refine lv_iload C.1 C.2.1 dL_law_1160 (lv_at hl 5 rfl) ?_
    refine lv_iconst (v := 2) C.1 C.2.1 dL_law_1162 (by decide) ?_
    refine lv_iadd C.1 C.2.1 dL_law_1163 ?_
    refine Y_sld C S hX hbl hi.2.2.1.2.1 hi.2.2.1.1 hi.2.2.1.2.2 dL_law_1164 ?_
    refine lv_if_eq (tgt := 1172) C.1 C.2.1 dL_law_1165 (by decide) (fun _ => ?_) (fun c9 => absurd hb0 c9)
    refine lv_iconst (v := 0) C.1 C.2.1 dL_law_1172 (by decide) ?_
    refine lv_aload_n C.1 C.2.1 dL_law_1173 rfl (lv_at hl 3 rfl) ?_
    have hM := m_L_messages l hst G (Y_X n0) σ (xs (i + 1)) 0 q e7 hq cL aL v H.size
    rw [show (if q.1 = 0 then (Sum.inl q.2.1.toInt64 : Int64 ⊕ UInt64) else Sum.inl v) = Sum.inl (if q.1 = 0 then q.2.1.toInt64 else v) by split <;> rfl] at hM
    refine Y_wL (n := 4) (As := [.ref n0, .int (xs (i + 1)), .int 0, .ref aL]) C F S hM (tt_4 (List.mem_of_getElem? (i := 202) (by decide +kernel)) (by decide +kernel)) tw_4_201 tw_1_0 ⟨by decide, by decide, by decide +kernel⟩ tw_4_200 ⟨(Nat.le_of_ble_eq_true rfl), (Nat.le_of_ble_eq_true rfl)⟩ rfl rfl (Nat.le_of_ble_eq_true rfl) hl.1 ⟨by show cells + 1 ≤ 601024; omega, by show slots + 6 ≤ 7293034; omega⟩ dL_law_1174 (fun H locs S => ?_)
    refine lv_istore (lv' := [(6, .int (L_k [(2, 1)] q.1)), (0, .ref b), (1, .ref n0), (2, .ref m0), (3, .ref aL), (4, .ref aD), (5, .int iv)]) C.1 C.2.1 dL_law_1177 hl (by decide) rfl (fun ls hl => ?_)
    refine lv_aload_n C.1 C.2.1 dL_law_1179 rfl (lv_at hl 3 rfl) ?_
    refine lv_aload_n C.1 C.2.1 dL_law_1180 rfl (lv_at hl 1 rfl) ?_
    refine lv_iload C.1 C.2.1 dL_law_1181 (lv_at hl 6 rfl) ?_
    refine lv_iconst (v := 1) C.1 C.2.1 dL_law_1183 (by decide) ?_
    refine lv_iadd C.1 C.2.1 dL_law_1184 ?_
    refine Y_sld C S hX hbl hi.2.1.2.1 hi.2.1.1 hi.2.1.2.2 dL_law_1185 ?_
    refine lv_aload_n C.1 C.2.1 dL_law_1186 rfl (lv_at hl 1 rfl) ?_
    refine lv_iload C.1 C.2.1 dL_law_1187 (lv_at hl 6 rfl) ?_
    refine lv_iconst (v := 2) C.1 C.2.1 dL_law_1189 (by decide) ?_
    refine lv_iadd C.1 C.2.1 dL_law_1190 ?_
    refine Y_sld C S hX hbl hi.2.2.1.2.1 hi.2.2.1.1 hi.2.2.1.2.2 dL_law_1191 ?_
    refine lv_if_eq (tgt := 1199) C.1 C.2.1 dL_law_1192 (by decide) (fun _ => ?_) (fun c9 => absurd hb0 c9)
    refine lv_iconst (v := 0) C.1 C.2.1 dL_law_1199 (by decide) ?_
    refine Y_c1I (r := wq) (ρ' := ρ') (As := [.int (xs (i + 1)), .int 0]) C F S rfl (m_X8_messages l G (Y_Mo m0) ρ (xs (i + 1)) 0 wq ρ' e8 _) kv_X8_messages tw_7_158 ⟨(Nat.le_of_ble_eq_true rfl), (Nat.le_of_ble_eq_true rfl)⟩ rfl rfl (Nat.le_of_ble_eq_true rfl) hl.1 ⟨by show cells + 1 ≤ 601024; omega, by show slots + 6 ≤ 7293034; omega⟩ dL_law_1200 (fun H locs S => ?_)
    refine lv_istore (lv' := [(7, .int wq), (6, .int (L_k [(2, 1)] q.1)), (0, .ref b), (1, .ref n0), (2, .ref m0), (3, .ref aL), (4, .ref aD), (5, .int iv)]) C.1 C.2.1 dL_law_1203 hl (by decide) rfl (fun ls hl => ?_)
    refine lv_aload_n C.1 C.2.1 dL_law_1205 rfl (lv_at hl 4 rfl) ?_
    refine Y_c1I (r := ρ' 8 0 8) (ρ' := ρ') C F S rfl (As := []) (m_X8_thrown l G _ ρ' _ _ rfl _) kv_X8_thrown tw_6_188 ⟨(Nat.le_of_ble_eq_true rfl), (Nat.le_of_ble_eq_true rfl)⟩ rfl rfl (Nat.le_of_ble_eq_true rfl) hl.1 ⟨by show cells + 1 ≤ 601024; omega, by show slots + 6 ≤ 7293034; omega⟩ dL_law_1206 (fun H locs S => ?_)
    refine lv_iload C.1 C.2.1 dL_law_1209 (lv_at hl 1 rfl) ?_
    refine lv_icmp_eq (tgt := 1216) C.1 C.2.1 dL_law_1211 (by decide) (fun _ => ?_) (fun c9 => absurd hth c9)
    refine lv_iload C.1 C.2.1 dL_law_1216 (lv_at hl 1 rfl) ?_
    refine lv_if_ne (tgt := 1233) C.1 C.2.1 dL_law_1218 (by decide) (fun c9 => ?_) (fun c9 => ?_)
    · refine lv_goto (tgt := 3150) C.1 C.2.1 dL_law_1233 (by decide) ?_
      exact W.widen (k := cells + 4) (n := slots + 24) (by omega) (by omega) (hk _ _ _ _ _ _ _ hR' S (lv_sub hl [2, 3, 4, 5, 6, 7] rfl))
    have h0 : q.1 = 0 := by
      rcases hq with h | h
      · exact h
      · rw [h] at c9; exact absurd c9 (by decide)
    rw [if_pos h0, hval h0] at S
    refine lv_aload_n C.1 C.2.1 dL_law_1221 rfl (lv_at hl 5 rfl) ?_
    refine lv_iconst (v := 0) C.1 C.2.1 dL_law_1222 (by decide) ?_
    refine Y_lald C F S dL_law_1223 ?_
    refine lv_iload C.1 C.2.1 dL_law_1224 (lv_at hl 0 rfl) ?_
    refine lv_i2l C.1 C.2.1 dL_law_1226 rfl ?_
    refine W.lcmp C.1 C.2.1 dL_law_1227 ?_
    refine lv_if_eq (tgt := 1233) C.1 C.2.1 dL_law_1228 (by decide) (fun _ => ?_) (fun c9 => absurd (Y_cmp _) c9)
    refine lv_goto (tgt := 3150) C.1 C.2.1 dL_law_1233 (by decide) ?_
    exact W.widen (k := cells + 4) (n := slots + 24) (by omega) (by omega) (hk _ _ _ _ _ _ _ hR' S (lv_sub hl [2, 3, 4, 5, 6, 7] rfl))
  · obtain ⟨q, wq, ρ', e7, hq, e8, hR', hth, hval⟩ := hE nn σ ρ (xs (i + 1)) 1 hnn9 hR (Or.inr rfl)
    refine lv_aload_n C.1 C.2.1 dL_law_1152 rfl (lv_at hl 1 rfl) ?_
    refine lv_aload_n C.1 C.2.1 dL_law_1153 rfl (lv_at hl 0 rfl) ?_
    refine lv_iload C.1 C.2.1 dL_law_1154 (lv_at hl 5 rfl) ?_
    refine lv_iconst (v := 1) C.1 C.2.1 dL_law_1156 (by decide) ?_
    refine lv_iadd C.1 C.2.1 dL_law_1157 ?_
    refine Y_sld C S hX hbl hi.2.1.2.1 hi.2.1.1 hi.2.1.2.2 dL_law_1158 ?_
    refine lv_aload_n C.1 C.2.1 dL_law_1159 rfl (lv_at hl 0 rfl) ?_
    refine lv_iload C.1 C.2.1 dL_law_1160 (lv_at hl 5 rfl) ?_
    refine lv_iconst (v := 2) C.1 C.2.1 dL_law_1162 (by decide) ?_
    refine lv_iadd C.1 C.2.1 dL_law_1163 ?_
    refine Y_sld C S hX hbl hi.2.2.1.2.1 hi.2.2.1.1 hi.2.2.1.2.2 dL_law_1164 ?_
    refine lv_if_eq (tgt := 1172) C.1 C.2.1 dL_law_1165 (by decide) (fun c9 => absurd c9 hb0) (fun _ => ?_)
    refine lv_iconst (v := 1) C.1 C.2.1 dL_law_1168 (by decide) ?_
    refine lv_goto (tgt := 1173) C.1 C.2.1 dL_law_1169 (by decide) ?_
    refine lv_aload_n C.1 C.2.1 dL_law_1173 rfl (lv_at hl 3 rfl) ?_
    have hM := m_L_messages l hst G (Y_X n0) σ (xs (i + 1)) 1 q e7 hq cL aL v H.size
    rw [show (if q.1 = 0 then (Sum.inl q.2.1.toInt64 : Int64 ⊕ UInt64) else Sum.inl v) = Sum.inl (if q.1 = 0 then q.2.1.toInt64 else v) by split <;> rfl] at hM
    refine Y_wL (n := 4) (As := [.ref n0, .int (xs (i + 1)), .int 1, .ref aL]) C F S hM (tt_4 (List.mem_of_getElem? (i := 202) (by decide +kernel)) (by decide +kernel)) tw_4_201 tw_1_0 ⟨by decide, by decide, by decide +kernel⟩ tw_4_200 ⟨(Nat.le_of_ble_eq_true rfl), (Nat.le_of_ble_eq_true rfl)⟩ rfl rfl (Nat.le_of_ble_eq_true rfl) hl.1 ⟨by show cells + 1 ≤ 601024; omega, by show slots + 6 ≤ 7293034; omega⟩ dL_law_1174 (fun H locs S => ?_)
    refine lv_istore (lv' := [(6, .int (L_k [(2, 1)] q.1)), (0, .ref b), (1, .ref n0), (2, .ref m0), (3, .ref aL), (4, .ref aD), (5, .int iv)]) C.1 C.2.1 dL_law_1177 hl (by decide) rfl (fun ls hl => ?_)
    refine lv_aload_n C.1 C.2.1 dL_law_1179 rfl (lv_at hl 3 rfl) ?_
    refine lv_aload_n C.1 C.2.1 dL_law_1180 rfl (lv_at hl 1 rfl) ?_
    refine lv_iload C.1 C.2.1 dL_law_1181 (lv_at hl 6 rfl) ?_
    refine lv_iconst (v := 1) C.1 C.2.1 dL_law_1183 (by decide) ?_
    refine lv_iadd C.1 C.2.1 dL_law_1184 ?_
    refine Y_sld C S hX hbl hi.2.1.2.1 hi.2.1.1 hi.2.1.2.2 dL_law_1185 ?_
    refine lv_aload_n C.1 C.2.1 dL_law_1186 rfl (lv_at hl 1 rfl) ?_
    refine lv_iload C.1 C.2.1 dL_law_1187 (lv_at hl 6 rfl) ?_
    refine lv_iconst (v := 2) C.1 C.2.1 dL_law_1189 (by decide) ?_
    refine lv_iadd C.1 C.2.1 dL_law_1190 ?_
    refine Y_sld C S hX hbl hi.2.2.1.2.1 hi.2.2.1.1 hi.2.2.1.2.2 dL_law_1191 ?_
    refine lv_if_eq (tgt := 1199) C.1 C.2.1 dL_law_1192 (by decide) (fun c9 => absurd c9 hb0) (fun _ => ?_)
    refine lv_iconst (v := 1) C.1 C.2.1 dL_law_1195 (by decide) ?_
    refine lv_goto (tgt := 1200) C.1 C.2.1 dL_law_1196 (by decide) ?_
    refine Y_c1I (r := wq) (ρ' := ρ') (As := [.int (xs (i + 1)), .int 1]) C F S rfl (m_X8_messages l G (Y_Mo m0) ρ (xs (i + 1)) 1 wq ρ' e8 _) kv_X8_messages tw_7_158 ⟨(Nat.le_of_ble_eq_true rfl), (Nat.le_of_ble_eq_true rfl)⟩ rfl rfl (Nat.le_of_ble_eq_true rfl) hl.1 ⟨by show cells + 1 ≤ 601024; omega, by show slots + 6 ≤ 7293034; omega⟩ dL_law_1200 (fun H locs S => ?_)
    refine lv_istore (lv' := [(7, .int wq), (6, .int (L_k [(2, 1)] q.1)), (0, .ref b), (1, .ref n0), (2, .ref m0), (3, .ref aL), (4, .ref aD), (5, .int iv)]) C.1 C.2.1 dL_law_1203 hl (by decide) rfl (fun ls hl => ?_)
    refine lv_aload_n C.1 C.2.1 dL_law_1205 rfl (lv_at hl 4 rfl) ?_
    refine Y_c1I (r := ρ' 8 0 8) (ρ' := ρ') C F S rfl (As := []) (m_X8_thrown l G _ ρ' _ _ rfl _) kv_X8_thrown tw_6_188 ⟨(Nat.le_of_ble_eq_true rfl), (Nat.le_of_ble_eq_true rfl)⟩ rfl rfl (Nat.le_of_ble_eq_true rfl) hl.1 ⟨by show cells + 1 ≤ 601024; omega, by show slots + 6 ≤ 7293034; omega⟩ dL_law_1206 (fun H locs S => ?_)
    refine lv_iload C.1 C.2.1 dL_law_1209 (lv_at hl 1 rfl) ?_
    refine lv_icmp_eq (tgt := 1216) C.1 C.2.1 dL_law_1211 (by decide) (fun _ => ?_) (fun c9 => absurd hth c9)
    refine lv_iload C.1 C.2.1 dL_law_1216 (lv_at hl 1 rfl) ?_
    refine lv_if_ne (tgt := 1233) C.1 C.2.1 dL_law_1218 (by decide) (fun c9 => ?_) (fun c9 => ?_)
    · refine lv_goto (tgt := 3150) C.1 C.2.1 dL_law_1233 (by decide) ?_
      exact W.widen (k := cells + 4) (n := slots + 24) (by omega) (by omega) (hk _ _ _ _ _ _ _ hR' S (lv_sub hl [2, 3, 4, 5, 6, 7] rfl))
    have h0 : q.1 = 0 := by
      rcases hq with h | h
      · exact h
      · rw [h] at c9; exact absurd c9 (by decide)
    rw [if_pos h0, hval h0] at S
    refine lv_aload_n C.1 C.2.1 dL_law_1221 rfl (lv_at hl 5 rfl) ?_
    refine lv_iconst (v := 0) C.1 C.2.1 dL_law_1222 (by decide) ?_
    refine Y_lald C F S dL_law_1223 ?_
    refine lv_iload C.1 C.2.1 dL_law_1224 (lv_at hl 0 rfl) ?_
    refine lv_i2l C.1 C.2.1 dL_law_1226 rfl ?_
    refine W.lcmp C.1 C.2.1 dL_law_1227 ?_
    refine lv_if_eq (tgt := 1233) C.1 C.2.1 dL_law_1228 (by decide) (fun _ => ?_) (fun c9 => absurd (Y_cmp _) c9)
    refine lv_goto (tgt := 3150) C.1 C.2.1 dL_law_1233 (by decide) ?_
    exact W.widen (k := cells + 4) (n := slots + 24) (by omega) (by omega) (hk _ _ _ _ _ _ _ hR' S (lv_sub hl [2, 3, 4, 5, 6, 7] rfl))
theorem dL_law_1236 : decode cL_law 1236 = .ok (.aload_n 1, 1) := by decide +kernel
theorem dL_law_1237 : decode cL_law 1237 = .ok (.aload_n 0, 1) := by decide +kernel
theorem dL_law_1238 : decode cL_law 1238 = .ok (.iload 5, 2) := by decide +kernel
theorem dL_law_1240 : decode cL_law 1240 = .ok (.iconst 1, 1) := by decide +kernel
theorem dL_law_1241 : decode cL_law 1241 = .ok (.iadd, 1) := by decide +kernel
theorem dL_law_1242 : decode cL_law 1242 = .ok (.iaload, 1) := by decide +kernel
theorem dL_law_1243 : decode cL_law 1243 = .ok (.aload_n 0, 1) := by decide +kernel
theorem dL_law_1244 : decode cL_law 1244 = .ok (.iload 5, 2) := by decide +kernel
theorem dL_law_1246 : decode cL_law 1246 = .ok (.iconst 2, 1) := by decide +kernel
theorem dL_law_1247 : decode cL_law 1247 = .ok (.iadd, 1) := by decide +kernel
theorem dL_law_1248 : decode cL_law 1248 = .ok (.iaload, 1) := by decide +kernel
theorem dL_law_1249 : decode cL_law 1249 = .ok (.aload_n 0, 1) := by decide +kernel
theorem dL_law_1250 : decode cL_law 1250 = .ok (.iload 5, 2) := by decide +kernel
theorem dL_law_1252 : decode cL_law 1252 = .ok (.iconst 3, 1) := by decide +kernel
theorem dL_law_1253 : decode cL_law 1253 = .ok (.iadd, 1) := by decide +kernel
theorem dL_law_1254 : decode cL_law 1254 = .ok (.iaload, 1) := by decide +kernel
theorem dL_law_1255 : decode cL_law 1255 = .ok (.aload_n 3, 1) := by decide +kernel
theorem dL_law_1256 : decode cL_law 1256 = .ok (.invokestatic 208, 3) := by decide +kernel
theorem dL_law_1259 : decode cL_law 1259 = .ok (.istore 6, 2) := by decide +kernel
theorem dL_law_1261 : decode cL_law 1261 = .ok (.aload_n 2, 1) := by decide +kernel
theorem dL_law_1262 : decode cL_law 1262 = .ok (.aload_n 0, 1) := by decide +kernel
theorem dL_law_1263 : decode cL_law 1263 = .ok (.iload 5, 2) := by decide +kernel
theorem dL_law_1265 : decode cL_law 1265 = .ok (.iconst 1, 1) := by decide +kernel
theorem dL_law_1266 : decode cL_law 1266 = .ok (.iadd, 1) := by decide +kernel
theorem dL_law_1267 : decode cL_law 1267 = .ok (.iaload, 1) := by decide +kernel
theorem dL_law_1268 : decode cL_law 1268 = .ok (.aload_n 0, 1) := by decide +kernel
theorem dL_law_1269 : decode cL_law 1269 = .ok (.iload 5, 2) := by decide +kernel
theorem dL_law_1271 : decode cL_law 1271 = .ok (.iconst 2, 1) := by decide +kernel
theorem dL_law_1272 : decode cL_law 1272 = .ok (.iadd, 1) := by decide +kernel
theorem dL_law_1273 : decode cL_law 1273 = .ok (.iaload, 1) := by decide +kernel
theorem dL_law_1274 : decode cL_law 1274 = .ok (.aload_n 0, 1) := by decide +kernel
theorem dL_law_1275 : decode cL_law 1275 = .ok (.iload 5, 2) := by decide +kernel
theorem dL_law_1277 : decode cL_law 1277 = .ok (.iconst 3, 1) := by decide +kernel
theorem dL_law_1278 : decode cL_law 1278 = .ok (.iadd, 1) := by decide +kernel
theorem dL_law_1279 : decode cL_law 1279 = .ok (.iaload, 1) := by decide +kernel
theorem dL_law_1280 : decode cL_law 1280 = .ok (.invokevirtual 210, 3) := by decide +kernel
theorem dL_law_1283 : decode cL_law 1283 = .ok (.istore 7, 2) := by decide +kernel
theorem dL_law_1285 : decode cL_law 1285 = .ok (.aload_n 2, 1) := by decide +kernel
theorem dL_law_1286 : decode cL_law 1286 = .ok (.invokevirtual 169, 3) := by decide +kernel
theorem dL_law_1289 : decode cL_law 1289 = .ok (.iload 6, 2) := by decide +kernel
theorem dL_law_1291 : decode cL_law 1291 = .ok (.if_icmp .eq 5, 3) := by decide +kernel
theorem dL_law_1294 : decode cL_law 1294 = .ok (.iconst 0, 1) := by decide +kernel
theorem dL_law_1295 : decode cL_law 1295 = .ok (.ireturn, 1) := by decide +kernel
theorem dL_law_1296 : decode cL_law 1296 = .ok (.iload 6, 2) := by decide +kernel
theorem dL_law_1298 : decode cL_law 1298 = .ok (.ifCond .ne 22, 3) := by decide +kernel
theorem dL_law_1301 : decode cL_law 1301 = .ok (.aload_n 3, 1) := by decide +kernel
theorem dL_law_1302 : decode cL_law 1302 = .ok (.iconst 0, 1) := by decide +kernel
theorem dL_law_1303 : decode cL_law 1303 = .ok (.laload, 1) := by decide +kernel
theorem dL_law_1304 : decode cL_law 1304 = .ok (.iload 7, 2) := by decide +kernel
theorem dL_law_1306 : decode cL_law 1306 = .ok (.ifCond .eq 7, 3) := by decide +kernel
theorem dL_law_1309 : decode cL_law 1309 = .ok (.lconst 1, 1) := by decide +kernel
theorem dL_law_1310 : decode cL_law 1310 = .ok (.goto 4, 3) := by decide +kernel
theorem dL_law_1313 : decode cL_law 1313 = .ok (.lconst 0, 1) := by decide +kernel
theorem dL_law_1314 : decode cL_law 1314 = .ok (.lcmp, 1) := by decide +kernel
theorem dL_law_1315 : decode cL_law 1315 = .ok (.ifCond .eq 5, 3) := by decide +kernel
theorem dL_law_1318 : decode cL_law 1318 = .ok (.iconst 0, 1) := by decide +kernel
theorem dL_law_1319 : decode cL_law 1319 = .ok (.ireturn, 1) := by decide +kernel
theorem dL_law_1320 : decode cL_law 1320 = .ok (.goto 1830, 3) := by decide +kernel
set_option maxHeartbeats 4000000 in
set_option maxRecDepth 100000 in
theorem w_law_hasLost {p : Program} {l : Launch} {e : Env} {s : State} {m : MethodId} {below : List Frame} {meth : Method} {c : Code} {G : Gx} {b L i n0 m0 aL aD : Nat} {xs : Nat → Int32} {iv : Int32} {cL cD : ClassId} {cells slots : Nat} {Rel : Nat → Sg → Sg → Prop} {nn : Nat} {Q : State → Prop} (hnn9 : nn < 600) (hst : l.stackTraces = false) (C : Cx p s m #[.ref b] meth c RL code 10 ret G) (F : Y_F G s n0 m0 aL aD cL cD) (hX : va_X b L xs s s.heap) (hbl : b < s.heap.size) (hi : Y_I iv i L) (hc : cells + 4 ≤ 601024) (hs : slots + 24 ≤ 7293034) (hE : E_hasLost Rel)
    (hk : ∀ (σ ρ : Sg) (v : Int64) (w : UInt64) (H : Heap) (locs : List Loc) (ls : Array Slot), Rel (nn + 1) σ ρ → Y_S G s n0 m0 aL aD cL cD σ ρ v w H locs → lv_has ls 10 [(0, .ref b), (1, .ref n0), (2, .ref m0), (3, .ref aL), (4, .ref aD), (5, .int iv)] → W p l e room_1 s m #[.ref b] below meth c H locs (cells + 4) (slots + 24) Q (F0 m 3150 ls [])) :
    ∀ (σ ρ : Sg) (v : Int64) (w : UInt64) (H : Heap) (locs : List Loc) (ls : Array Slot), Rel nn σ ρ → Y_S G s n0 m0 aL aD cL cD σ ρ v w H locs → lv_has ls 10 [(0, .ref b), (1, .ref n0), (2, .ref m0), (3, .ref aL), (4, .ref aD), (5, .int iv)] → W p l e room_1 s m #[.ref b] below meth c H locs cells slots Q (F0 m 1236 ls []) := by
  intro σ ρ v w H locs ls hR S hl
  obtain ⟨q, wq, ρ', e7, hq, e8, hR', hth, hval⟩ := hE nn σ ρ (xs (i + 1)) (xs (i + 2)) (xs (i + 3)) hnn9 hR 
  refine lv_aload_n C.1 C.2.1 dL_law_1236 rfl (lv_at hl 1 rfl) ?_
  refine lv_aload_n C.1 C.2.1 dL_law_1237 rfl (lv_at hl 0 rfl) ?_
  refine lv_iload C.1 C.2.1 dL_law_1238 (lv_at hl 5 rfl) ?_
  refine lv_iconst (v := 1) C.1 C.2.1 dL_law_1240 (by decide) ?_
  refine lv_iadd C.1 C.2.1 dL_law_1241 ?_
  refine Y_sld C S hX hbl hi.2.1.2.1 hi.2.1.1 hi.2.1.2.2 dL_law_1242 ?_
  refine lv_aload_n C.1 C.2.1 dL_law_1243 rfl (lv_at hl 0 rfl) ?_
  refine lv_iload C.1 C.2.1 dL_law_1244 (lv_at hl 5 rfl) ?_
  refine lv_iconst (v := 2) C.1 C.2.1 dL_law_1246 (by decide) ?_
  refine lv_iadd C.1 C.2.1 dL_law_1247 ?_
  refine Y_sld C S hX hbl hi.2.2.1.2.1 hi.2.2.1.1 hi.2.2.1.2.2 dL_law_1248 ?_
  refine lv_aload_n C.1 C.2.1 dL_law_1249 rfl (lv_at hl 0 rfl) ?_
  refine lv_iload C.1 C.2.1 dL_law_1250 (lv_at hl 5 rfl) ?_
  refine lv_iconst (v := 3) C.1 C.2.1 dL_law_1252 (by decide) ?_
  refine lv_iadd C.1 C.2.1 dL_law_1253 ?_
  refine Y_sld C S hX hbl hi.2.2.2.1.2.1 hi.2.2.2.1.1 hi.2.2.2.1.2.2 dL_law_1254 ?_
  refine lv_aload_n C.1 C.2.1 dL_law_1255 rfl (lv_at hl 3 rfl) ?_
  have hM := m_L_hasLost l hst G (Y_X n0) σ (xs (i + 1)) (xs (i + 2)) (xs (i + 3)) q e7 hq cL aL v H.size
  rw [show (if q.1 = 0 then (Sum.inl (if q.2.1 = 0 then 0 else 1) : Int64 ⊕ UInt64) else Sum.inl v) = Sum.inl (if q.1 = 0 then (if q.2.1 = 0 then 0 else 1) else v) by split <;> rfl] at hM
  refine Y_wL (n := 5) (As := [.ref n0, .int (xs (i + 1)), .int (xs (i + 2)), .int (xs (i + 3)), .ref aL]) C F S hM (tt_4 (List.mem_of_getElem? (i := 212) (by decide +kernel)) (by decide +kernel)) tw_4_211 tw_1_0 ⟨by decide, by decide, by decide +kernel⟩ tw_4_210 ⟨(Nat.le_of_ble_eq_true rfl), (Nat.le_of_ble_eq_true rfl)⟩ rfl rfl (Nat.le_of_ble_eq_true rfl) hl.1 ⟨by show cells + 3 ≤ 601024; omega, by show slots + 18 ≤ 7293034; omega⟩ dL_law_1256 (fun H locs S => ?_)
  refine lv_istore (lv' := [(6, .int (L_k [(1, 1), (2, 2)] q.1)), (0, .ref b), (1, .ref n0), (2, .ref m0), (3, .ref aL), (4, .ref aD), (5, .int iv)]) C.1 C.2.1 dL_law_1259 hl (by decide) rfl (fun ls hl => ?_)
  refine lv_aload_n C.1 C.2.1 dL_law_1261 rfl (lv_at hl 3 rfl) ?_
  refine lv_aload_n C.1 C.2.1 dL_law_1262 rfl (lv_at hl 1 rfl) ?_
  refine lv_iload C.1 C.2.1 dL_law_1263 (lv_at hl 6 rfl) ?_
  refine lv_iconst (v := 1) C.1 C.2.1 dL_law_1265 (by decide) ?_
  refine lv_iadd C.1 C.2.1 dL_law_1266 ?_
  refine Y_sld C S hX hbl hi.2.1.2.1 hi.2.1.1 hi.2.1.2.2 dL_law_1267 ?_
  refine lv_aload_n C.1 C.2.1 dL_law_1268 rfl (lv_at hl 1 rfl) ?_
  refine lv_iload C.1 C.2.1 dL_law_1269 (lv_at hl 6 rfl) ?_
  refine lv_iconst (v := 2) C.1 C.2.1 dL_law_1271 (by decide) ?_
  refine lv_iadd C.1 C.2.1 dL_law_1272 ?_
  refine Y_sld C S hX hbl hi.2.2.1.2.1 hi.2.2.1.1 hi.2.2.1.2.2 dL_law_1273 ?_
  refine lv_aload_n C.1 C.2.1 dL_law_1274 rfl (lv_at hl 1 rfl) ?_
  refine lv_iload C.1 C.2.1 dL_law_1275 (lv_at hl 6 rfl) ?_
  refine lv_iconst (v := 3) C.1 C.2.1 dL_law_1277 (by decide) ?_
  refine lv_iadd C.1 C.2.1 dL_law_1278 ?_
  refine Y_sld C S hX hbl hi.2.2.2.1.2.1 hi.2.2.2.1.1 hi.2.2.2.1.2.2 dL_law_1279 ?_
  refine Y_c1I (r := wq) (ρ' := ρ') (As := [.int (xs (i + 1)), .int (xs (i + 2)), .int (xs (i + 3))]) C F S rfl (m_X8_hasLost l G (Y_Mo m0) ρ (xs (i + 1)) (xs (i + 2)) (xs (i + 3)) wq ρ' e8 _) kv_X8_hasLost tw_7_162 ⟨(Nat.le_of_ble_eq_true rfl), (Nat.le_of_ble_eq_true rfl)⟩ rfl rfl (Nat.le_of_ble_eq_true rfl) hl.1 ⟨by show cells + 3 ≤ 601024; omega, by show slots + 18 ≤ 7293034; omega⟩ dL_law_1280 (fun H locs S => ?_)
  refine lv_istore (lv' := [(7, .int wq), (6, .int (L_k [(1, 1), (2, 2)] q.1)), (0, .ref b), (1, .ref n0), (2, .ref m0), (3, .ref aL), (4, .ref aD), (5, .int iv)]) C.1 C.2.1 dL_law_1283 hl (by decide) rfl (fun ls hl => ?_)
  refine lv_aload_n C.1 C.2.1 dL_law_1285 rfl (lv_at hl 4 rfl) ?_
  refine Y_c1I (r := ρ' 8 0 8) (ρ' := ρ') C F S rfl (As := []) (m_X8_thrown l G _ ρ' _ _ rfl _) kv_X8_thrown tw_6_188 ⟨(Nat.le_of_ble_eq_true rfl), (Nat.le_of_ble_eq_true rfl)⟩ rfl rfl (Nat.le_of_ble_eq_true rfl) hl.1 ⟨by show cells + 3 ≤ 601024; omega, by show slots + 18 ≤ 7293034; omega⟩ dL_law_1286 (fun H locs S => ?_)
  refine lv_iload C.1 C.2.1 dL_law_1289 (lv_at hl 1 rfl) ?_
  refine lv_icmp_eq (tgt := 1296) C.1 C.2.1 dL_law_1291 (by decide) (fun _ => ?_) (fun c9 => absurd hth c9)
  refine lv_iload C.1 C.2.1 dL_law_1296 (lv_at hl 1 rfl) ?_
  refine lv_if_ne (tgt := 1320) C.1 C.2.1 dL_law_1298 (by decide) (fun c9 => ?_) (fun c9 => ?_)
  · refine lv_goto (tgt := 3150) C.1 C.2.1 dL_law_1320 (by decide) ?_
    exact W.widen (k := cells + 4) (n := slots + 24) (by omega) (by omega) (hk _ _ _ _ _ _ _ hR' S (lv_sub hl [2, 3, 4, 5, 6, 7] rfl))
  have h0 : q.1 = 0 := by
    rcases hq with h | h | h
    · exact h
    · rw [h] at c9; exact absurd c9 (by decide)
    · rw [h] at c9; exact absurd c9 (by decide)
  rw [if_pos h0, hval h0] at S
  refine lv_aload_n C.1 C.2.1 dL_law_1301 rfl (lv_at hl 5 rfl) ?_
  refine lv_iconst (v := 0) C.1 C.2.1 dL_law_1302 (by decide) ?_
  refine Y_lald C F S dL_law_1303 ?_
  refine lv_iload C.1 C.2.1 dL_law_1304 (lv_at hl 0 rfl) ?_
  refine lv_if_eq (tgt := 1313) C.1 C.2.1 dL_law_1306 (by decide) (fun c9 => ?_) (fun c9 => ?_)
  · rw [if_pos c9] at S ⊢
    refine lv_lconst (v := 0) C.1 C.2.1 dL_law_1313 rfl ?_
    refine W.lcmp C.1 C.2.1 dL_law_1314 ?_
    refine lv_if_eq (tgt := 1320) C.1 C.2.1 dL_law_1315 (by decide) (fun _ => ?_) (fun c9 => absurd (Y_cmp _) c9)
    refine lv_goto (tgt := 3150) C.1 C.2.1 dL_law_1320 (by decide) ?_
    exact W.widen (k := cells + 4) (n := slots + 24) (by omega) (by omega) (hk _ _ _ _ _ _ _ hR' S (lv_sub hl [2, 3, 4, 5, 6, 7] rfl))
  · rw [if_neg c9] at S ⊢
    refine lv_lconst (v := 1) C.1 C.2.1 dL_law_1309 rfl ?_
    refine lv_goto (tgt := 1314) C.1 C.2.1 dL_law_1310 (by decide) ?_
    refine W.lcmp C.1 C.2.1 dL_law_1314 ?_
    refine lv_if_eq (tgt := 1320) C.1 C.2.1 dL_law_1315 (by decide) (fun _ => ?_) (fun c9 => absurd (Y_cmp _) c9)
    refine lv_goto (tgt := 3150) C.1 C.2.1 dL_law_1320 (by decide) ?_
    exact W.widen (k := cells + 4) (n := slots + 24) (by omega) (by omega) (hk _ _ _ _ _ _ _ hR' S (lv_sub hl [2, 3, 4, 5, 6, 7] rfl))
theorem dL_law_1323 : decode cL_law 1323 = .ok (.aload_n 1, 1) := by decide +kernel
theorem dL_law_1324 : decode cL_law 1324 = .ok (.aload_n 0, 1) := by decide +kernel
theorem dL_law_1325 : decode cL_law 1325 = .ok (.iload 5, 2) := by decide +kernel
theorem dL_law_1327 : decode cL_law 1327 = .ok (.iconst 1, 1) := by decide +kernel
theorem dL_law_1328 : decode cL_law 1328 = .ok (.iadd, 1) := by decide +kernel
theorem dL_law_1329 : decode cL_law 1329 = .ok (.iaload, 1) := by decide +kernel
theorem dL_law_1330 : decode cL_law 1330 = .ok (.aload_n 3, 1) := by decide +kernel
theorem dL_law_1331 : decode cL_law 1331 = .ok (.invokestatic 211, 3) := by decide +kernel
theorem dL_law_1334 : decode cL_law 1334 = .ok (.istore 6, 2) := by decide +kernel
theorem dL_law_1336 : decode cL_law 1336 = .ok (.aload_n 2, 1) := by decide +kernel
theorem dL_law_1337 : decode cL_law 1337 = .ok (.aload_n 0, 1) := by decide +kernel
theorem dL_law_1338 : decode cL_law 1338 = .ok (.iload 5, 2) := by decide +kernel
theorem dL_law_1340 : decode cL_law 1340 = .ok (.iconst 1, 1) := by decide +kernel
theorem dL_law_1341 : decode cL_law 1341 = .ok (.iadd, 1) := by decide +kernel
theorem dL_law_1342 : decode cL_law 1342 = .ok (.iaload, 1) := by decide +kernel
theorem dL_law_1343 : decode cL_law 1343 = .ok (.invokevirtual 213, 3) := by decide +kernel
theorem dL_law_1346 : decode cL_law 1346 = .ok (.istore 7, 2) := by decide +kernel
theorem dL_law_1348 : decode cL_law 1348 = .ok (.aload_n 2, 1) := by decide +kernel
theorem dL_law_1349 : decode cL_law 1349 = .ok (.invokevirtual 169, 3) := by decide +kernel
theorem dL_law_1352 : decode cL_law 1352 = .ok (.iload 6, 2) := by decide +kernel
theorem dL_law_1354 : decode cL_law 1354 = .ok (.if_icmp .eq 5, 3) := by decide +kernel
theorem dL_law_1357 : decode cL_law 1357 = .ok (.iconst 0, 1) := by decide +kernel
theorem dL_law_1358 : decode cL_law 1358 = .ok (.ireturn, 1) := by decide +kernel
theorem dL_law_1359 : decode cL_law 1359 = .ok (.iload 6, 2) := by decide +kernel
theorem dL_law_1361 : decode cL_law 1361 = .ok (.ifCond .ne 15, 3) := by decide +kernel
theorem dL_law_1364 : decode cL_law 1364 = .ok (.aload_n 3, 1) := by decide +kernel
theorem dL_law_1365 : decode cL_law 1365 = .ok (.iconst 0, 1) := by decide +kernel
theorem dL_law_1366 : decode cL_law 1366 = .ok (.laload, 1) := by decide +kernel
theorem dL_law_1367 : decode cL_law 1367 = .ok (.iload 7, 2) := by decide +kernel
theorem dL_law_1369 : decode cL_law 1369 = .ok (.i2l, 1) := by decide +kernel
theorem dL_law_1370 : decode cL_law 1370 = .ok (.lcmp, 1) := by decide +kernel
theorem dL_law_1371 : decode cL_law 1371 = .ok (.ifCond .eq 5, 3) := by decide +kernel
theorem dL_law_1374 : decode cL_law 1374 = .ok (.iconst 0, 1) := by decide +kernel
theorem dL_law_1375 : decode cL_law 1375 = .ok (.ireturn, 1) := by decide +kernel
theorem dL_law_1376 : decode cL_law 1376 = .ok (.goto 1774, 3) := by decide +kernel
set_option maxHeartbeats 4000000 in
set_option maxRecDepth 100000 in
theorem w_law_nobody {p : Program} {l : Launch} {e : Env} {s : State} {m : MethodId} {below : List Frame} {meth : Method} {c : Code} {G : Gx} {b L i n0 m0 aL aD : Nat} {xs : Nat → Int32} {iv : Int32} {cL cD : ClassId} {cells slots : Nat} {Rel : Nat → Sg → Sg → Prop} {nn : Nat} {Q : State → Prop} (hnn9 : nn < 600) (hst : l.stackTraces = false) (C : Cx p s m #[.ref b] meth c RL code 10 ret G) (F : Y_F G s n0 m0 aL aD cL cD) (hX : va_X b L xs s s.heap) (hbl : b < s.heap.size) (hi : Y_I iv i L) (hc : cells + 4 ≤ 601024) (hs : slots + 24 ≤ 7293034) (hE : E_nobody Rel)
    (hk : ∀ (σ ρ : Sg) (v : Int64) (w : UInt64) (H : Heap) (locs : List Loc) (ls : Array Slot), Rel (nn + 1) σ ρ → Y_S G s n0 m0 aL aD cL cD σ ρ v w H locs → lv_has ls 10 [(0, .ref b), (1, .ref n0), (2, .ref m0), (3, .ref aL), (4, .ref aD), (5, .int iv)] → W p l e room_1 s m #[.ref b] below meth c H locs (cells + 4) (slots + 24) Q (F0 m 3150 ls [])) :
    ∀ (σ ρ : Sg) (v : Int64) (w : UInt64) (H : Heap) (locs : List Loc) (ls : Array Slot), Rel nn σ ρ → Y_S G s n0 m0 aL aD cL cD σ ρ v w H locs → lv_has ls 10 [(0, .ref b), (1, .ref n0), (2, .ref m0), (3, .ref aL), (4, .ref aD), (5, .int iv)] → W p l e room_1 s m #[.ref b] below meth c H locs cells slots Q (F0 m 1323 ls []) := by
  intro σ ρ v w H locs ls hR S hl
  obtain ⟨q, wq, ρ', e7, hq, e8, hR', hth, hval⟩ := hE nn σ ρ (xs (i + 1)) hnn9 hR 
  refine lv_aload_n C.1 C.2.1 dL_law_1323 rfl (lv_at hl 1 rfl) ?_
  refine lv_aload_n C.1 C.2.1 dL_law_1324 rfl (lv_at hl 0 rfl) ?_
  refine lv_iload C.1 C.2.1 dL_law_1325 (lv_at hl 5 rfl) ?_
  refine lv_iconst (v := 1) C.1 C.2.1 dL_law_1327 (by decide) ?_
  refine lv_iadd C.1 C.2.1 dL_law_1328 ?_
  refine Y_sld C S hX hbl hi.2.1.2.1 hi.2.1.1 hi.2.1.2.2 dL_law_1329 ?_
  refine lv_aload_n C.1 C.2.1 dL_law_1330 rfl (lv_at hl 3 rfl) ?_
  have hM := m_L_nobody l hst G (Y_X n0) σ (xs (i + 1)) q e7 hq cL aL v H.size
  rw [show (if q.1 = 0 then (Sum.inl q.2.1.toInt64 : Int64 ⊕ UInt64) else Sum.inl v) = Sum.inl (if q.1 = 0 then q.2.1.toInt64 else v) by split <;> rfl] at hM
  refine Y_wL (n := 3) (As := [.ref n0, .int (xs (i + 1)), .ref aL]) C F S hM (tt_4 (List.mem_of_getElem? (i := 223) (by decide +kernel)) (by decide +kernel)) tw_4_222 tw_1_0 ⟨by decide, by decide, by decide +kernel⟩ tw_4_221 ⟨(Nat.le_of_ble_eq_true rfl), (Nat.le_of_ble_eq_true rfl)⟩ rfl rfl (Nat.le_of_ble_eq_true rfl) hl.1 ⟨by show cells + 1 ≤ 601024; omega, by show slots + 6 ≤ 7293034; omega⟩ dL_law_1331 (fun H locs S => ?_)
  refine lv_istore (lv' := [(6, .int (L_k [(2, 1)] q.1)), (0, .ref b), (1, .ref n0), (2, .ref m0), (3, .ref aL), (4, .ref aD), (5, .int iv)]) C.1 C.2.1 dL_law_1334 hl (by decide) rfl (fun ls hl => ?_)
  refine lv_aload_n C.1 C.2.1 dL_law_1336 rfl (lv_at hl 3 rfl) ?_
  refine lv_aload_n C.1 C.2.1 dL_law_1337 rfl (lv_at hl 1 rfl) ?_
  refine lv_iload C.1 C.2.1 dL_law_1338 (lv_at hl 6 rfl) ?_
  refine lv_iconst (v := 1) C.1 C.2.1 dL_law_1340 (by decide) ?_
  refine lv_iadd C.1 C.2.1 dL_law_1341 ?_
  refine Y_sld C S hX hbl hi.2.1.2.1 hi.2.1.1 hi.2.1.2.2 dL_law_1342 ?_
  refine Y_c1I (r := wq) (ρ' := ρ') (As := [.int (xs (i + 1))]) C F S rfl (m_X8_nobody l G (Y_Mo m0) ρ (xs (i + 1)) wq ρ' e8 _) kv_X8_nobody tw_7_166 ⟨(Nat.le_of_ble_eq_true rfl), (Nat.le_of_ble_eq_true rfl)⟩ rfl rfl (Nat.le_of_ble_eq_true rfl) hl.1 ⟨by show cells + 1 ≤ 601024; omega, by show slots + 6 ≤ 7293034; omega⟩ dL_law_1343 (fun H locs S => ?_)
  refine lv_istore (lv' := [(7, .int wq), (6, .int (L_k [(2, 1)] q.1)), (0, .ref b), (1, .ref n0), (2, .ref m0), (3, .ref aL), (4, .ref aD), (5, .int iv)]) C.1 C.2.1 dL_law_1346 hl (by decide) rfl (fun ls hl => ?_)
  refine lv_aload_n C.1 C.2.1 dL_law_1348 rfl (lv_at hl 4 rfl) ?_
  refine Y_c1I (r := ρ' 8 0 8) (ρ' := ρ') C F S rfl (As := []) (m_X8_thrown l G _ ρ' _ _ rfl _) kv_X8_thrown tw_6_188 ⟨(Nat.le_of_ble_eq_true rfl), (Nat.le_of_ble_eq_true rfl)⟩ rfl rfl (Nat.le_of_ble_eq_true rfl) hl.1 ⟨by show cells + 1 ≤ 601024; omega, by show slots + 6 ≤ 7293034; omega⟩ dL_law_1349 (fun H locs S => ?_)
  refine lv_iload C.1 C.2.1 dL_law_1352 (lv_at hl 1 rfl) ?_
  refine lv_icmp_eq (tgt := 1359) C.1 C.2.1 dL_law_1354 (by decide) (fun _ => ?_) (fun c9 => absurd hth c9)
  refine lv_iload C.1 C.2.1 dL_law_1359 (lv_at hl 1 rfl) ?_
  refine lv_if_ne (tgt := 1376) C.1 C.2.1 dL_law_1361 (by decide) (fun c9 => ?_) (fun c9 => ?_)
  · refine lv_goto (tgt := 3150) C.1 C.2.1 dL_law_1376 (by decide) ?_
    exact W.widen (k := cells + 4) (n := slots + 24) (by omega) (by omega) (hk _ _ _ _ _ _ _ hR' S (lv_sub hl [2, 3, 4, 5, 6, 7] rfl))
  have h0 : q.1 = 0 := by
    rcases hq with h | h
    · exact h
    · rw [h] at c9; exact absurd c9 (by decide)
  rw [if_pos h0, hval h0] at S
  refine lv_aload_n C.1 C.2.1 dL_law_1364 rfl (lv_at hl 5 rfl) ?_
  refine lv_iconst (v := 0) C.1 C.2.1 dL_law_1365 (by decide) ?_
  refine Y_lald C F S dL_law_1366 ?_
  refine lv_iload C.1 C.2.1 dL_law_1367 (lv_at hl 0 rfl) ?_
  refine lv_i2l C.1 C.2.1 dL_law_1369 rfl ?_
  refine W.lcmp C.1 C.2.1 dL_law_1370 ?_
  refine lv_if_eq (tgt := 1376) C.1 C.2.1 dL_law_1371 (by decide) (fun _ => ?_) (fun c9 => absurd (Y_cmp _) c9)
  refine lv_goto (tgt := 3150) C.1 C.2.1 dL_law_1376 (by decide) ?_
  exact W.widen (k := cells + 4) (n := slots + 24) (by omega) (by omega) (hk _ _ _ _ _ _ _ hR' S (lv_sub hl [2, 3, 4, 5, 6, 7] rfl))
theorem dL_law_1379 : decode cL_law 1379 = .ok (.aload_n 1, 1) := by decide +kernel
theorem dL_law_1380 : decode cL_law 1380 = .ok (.aload_n 0, 1) := by decide +kernel
theorem dL_law_1381 : decode cL_law 1381 = .ok (.iload 5, 2) := by decide +kernel
theorem dL_law_1383 : decode cL_law 1383 = .ok (.iconst 1, 1) := by decide +kernel
theorem dL_law_1384 : decode cL_law 1384 = .ok (.iadd, 1) := by decide +kernel
theorem dL_law_1385 : decode cL_law 1385 = .ok (.iaload, 1) := by decide +kernel
theorem dL_law_1386 : decode cL_law 1386 = .ok (.aload_n 0, 1) := by decide +kernel
theorem dL_law_1387 : decode cL_law 1387 = .ok (.iload 5, 2) := by decide +kernel
theorem dL_law_1389 : decode cL_law 1389 = .ok (.iconst 2, 1) := by decide +kernel
theorem dL_law_1390 : decode cL_law 1390 = .ok (.iadd, 1) := by decide +kernel
theorem dL_law_1391 : decode cL_law 1391 = .ok (.iaload, 1) := by decide +kernel
theorem dL_law_1392 : decode cL_law 1392 = .ok (.aload_n 3, 1) := by decide +kernel
theorem dL_law_1393 : decode cL_law 1393 = .ok (.invokestatic 214, 3) := by decide +kernel
theorem dL_law_1396 : decode cL_law 1396 = .ok (.istore 6, 2) := by decide +kernel
theorem dL_law_1398 : decode cL_law 1398 = .ok (.aload_n 2, 1) := by decide +kernel
theorem dL_law_1399 : decode cL_law 1399 = .ok (.aload_n 0, 1) := by decide +kernel
theorem dL_law_1400 : decode cL_law 1400 = .ok (.iload 5, 2) := by decide +kernel
theorem dL_law_1402 : decode cL_law 1402 = .ok (.iconst 1, 1) := by decide +kernel
theorem dL_law_1403 : decode cL_law 1403 = .ok (.iadd, 1) := by decide +kernel
theorem dL_law_1404 : decode cL_law 1404 = .ok (.iaload, 1) := by decide +kernel
theorem dL_law_1405 : decode cL_law 1405 = .ok (.aload_n 0, 1) := by decide +kernel
theorem dL_law_1406 : decode cL_law 1406 = .ok (.iload 5, 2) := by decide +kernel
theorem dL_law_1408 : decode cL_law 1408 = .ok (.iconst 2, 1) := by decide +kernel
theorem dL_law_1409 : decode cL_law 1409 = .ok (.iadd, 1) := by decide +kernel
theorem dL_law_1410 : decode cL_law 1410 = .ok (.iaload, 1) := by decide +kernel
theorem dL_law_1411 : decode cL_law 1411 = .ok (.invokevirtual 216, 3) := by decide +kernel
theorem dL_law_1414 : decode cL_law 1414 = .ok (.istore 7, 2) := by decide +kernel
theorem dL_law_1416 : decode cL_law 1416 = .ok (.aload_n 2, 1) := by decide +kernel
theorem dL_law_1417 : decode cL_law 1417 = .ok (.invokevirtual 169, 3) := by decide +kernel
theorem dL_law_1420 : decode cL_law 1420 = .ok (.iload 6, 2) := by decide +kernel
theorem dL_law_1422 : decode cL_law 1422 = .ok (.if_icmp .eq 5, 3) := by decide +kernel
theorem dL_law_1425 : decode cL_law 1425 = .ok (.iconst 0, 1) := by decide +kernel
theorem dL_law_1426 : decode cL_law 1426 = .ok (.ireturn, 1) := by decide +kernel
theorem dL_law_1427 : decode cL_law 1427 = .ok (.iload 6, 2) := by decide +kernel
theorem dL_law_1429 : decode cL_law 1429 = .ok (.ifCond .ne 15, 3) := by decide +kernel
theorem dL_law_1432 : decode cL_law 1432 = .ok (.aload_n 3, 1) := by decide +kernel
theorem dL_law_1433 : decode cL_law 1433 = .ok (.iconst 0, 1) := by decide +kernel
theorem dL_law_1434 : decode cL_law 1434 = .ok (.laload, 1) := by decide +kernel
theorem dL_law_1435 : decode cL_law 1435 = .ok (.iload 7, 2) := by decide +kernel
theorem dL_law_1437 : decode cL_law 1437 = .ok (.i2l, 1) := by decide +kernel
theorem dL_law_1438 : decode cL_law 1438 = .ok (.lcmp, 1) := by decide +kernel
theorem dL_law_1439 : decode cL_law 1439 = .ok (.ifCond .eq 5, 3) := by decide +kernel
theorem dL_law_1442 : decode cL_law 1442 = .ok (.iconst 0, 1) := by decide +kernel
theorem dL_law_1443 : decode cL_law 1443 = .ok (.ireturn, 1) := by decide +kernel
theorem dL_law_1444 : decode cL_law 1444 = .ok (.goto 1706, 3) := by decide +kernel
set_option maxHeartbeats 4000000 in
set_option maxRecDepth 100000 in
theorem w_law_makeCall {p : Program} {l : Launch} {e : Env} {s : State} {m : MethodId} {below : List Frame} {meth : Method} {c : Code} {G : Gx} {b L i n0 m0 aL aD : Nat} {xs : Nat → Int32} {iv : Int32} {cL cD : ClassId} {cells slots : Nat} {Rel : Nat → Sg → Sg → Prop} {nn : Nat} {Q : State → Prop} (hnn9 : nn < 600) (hst : l.stackTraces = false) (C : Cx p s m #[.ref b] meth c RL code 10 ret G) (F : Y_F G s n0 m0 aL aD cL cD) (hX : va_X b L xs s s.heap) (hbl : b < s.heap.size) (hi : Y_I iv i L) (hc : cells + 4 ≤ 601024) (hs : slots + 24 ≤ 7293034) (hE : E_makeCall Rel)
    (hk : ∀ (σ ρ : Sg) (v : Int64) (w : UInt64) (H : Heap) (locs : List Loc) (ls : Array Slot), Rel (nn + 1) σ ρ → Y_S G s n0 m0 aL aD cL cD σ ρ v w H locs → lv_has ls 10 [(0, .ref b), (1, .ref n0), (2, .ref m0), (3, .ref aL), (4, .ref aD), (5, .int iv)] → W p l e room_1 s m #[.ref b] below meth c H locs (cells + 4) (slots + 24) Q (F0 m 3150 ls [])) :
    ∀ (σ ρ : Sg) (v : Int64) (w : UInt64) (H : Heap) (locs : List Loc) (ls : Array Slot), Rel nn σ ρ → Y_S G s n0 m0 aL aD cL cD σ ρ v w H locs → lv_has ls 10 [(0, .ref b), (1, .ref n0), (2, .ref m0), (3, .ref aL), (4, .ref aD), (5, .int iv)] → W p l e room_1 s m #[.ref b] below meth c H locs cells slots Q (F0 m 1379 ls []) := by
  intro σ ρ v w H locs ls hR S hl
  obtain ⟨q, wq, ρ', e7, hq, e8, hR', hth, hval⟩ := hE nn σ ρ (xs (i + 1)) (xs (i + 2)) hnn9 hR 
  refine lv_aload_n C.1 C.2.1 dL_law_1379 rfl (lv_at hl 1 rfl) ?_
  refine lv_aload_n C.1 C.2.1 dL_law_1380 rfl (lv_at hl 0 rfl) ?_
  refine lv_iload C.1 C.2.1 dL_law_1381 (lv_at hl 5 rfl) ?_
  refine lv_iconst (v := 1) C.1 C.2.1 dL_law_1383 (by decide) ?_
  refine lv_iadd C.1 C.2.1 dL_law_1384 ?_
  refine Y_sld C S hX hbl hi.2.1.2.1 hi.2.1.1 hi.2.1.2.2 dL_law_1385 ?_
  refine lv_aload_n C.1 C.2.1 dL_law_1386 rfl (lv_at hl 0 rfl) ?_
  refine lv_iload C.1 C.2.1 dL_law_1387 (lv_at hl 5 rfl) ?_
  refine lv_iconst (v := 2) C.1 C.2.1 dL_law_1389 (by decide) ?_
  refine lv_iadd C.1 C.2.1 dL_law_1390 ?_
  refine Y_sld C S hX hbl hi.2.2.1.2.1 hi.2.2.1.1 hi.2.2.1.2.2 dL_law_1391 ?_
  refine lv_aload_n C.1 C.2.1 dL_law_1392 rfl (lv_at hl 3 rfl) ?_
  have hM := m_L_makeCall l hst G (Y_X n0) σ (xs (i + 1)) (xs (i + 2)) q e7 hq cL aL v H.size
  rw [show (if q.1 = 0 then (Sum.inl q.2.1.toInt64 : Int64 ⊕ UInt64) else Sum.inl v) = Sum.inl (if q.1 = 0 then q.2.1.toInt64 else v) by split <;> rfl] at hM
  refine Y_wL (n := 4) (As := [.ref n0, .int (xs (i + 1)), .int (xs (i + 2)), .ref aL]) C F S hM (tt_4 (List.mem_of_getElem? (i := 230) (by decide +kernel)) (by decide +kernel)) tw_4_229 tw_1_0 ⟨by decide, by decide, by decide +kernel⟩ tw_4_228 ⟨(Nat.le_of_ble_eq_true rfl), (Nat.le_of_ble_eq_true rfl)⟩ rfl rfl (Nat.le_of_ble_eq_true rfl) hl.1 ⟨by show cells + 4 ≤ 601024; omega, by show slots + 24 ≤ 7293034; omega⟩ dL_law_1393 (fun H locs S => ?_)
  refine lv_istore (lv' := [(6, .int (L_k [(2, 1), (3, 2)] q.1)), (0, .ref b), (1, .ref n0), (2, .ref m0), (3, .ref aL), (4, .ref aD), (5, .int iv)]) C.1 C.2.1 dL_law_1396 hl (by decide) rfl (fun ls hl => ?_)
  refine lv_aload_n C.1 C.2.1 dL_law_1398 rfl (lv_at hl 3 rfl) ?_
  refine lv_aload_n C.1 C.2.1 dL_law_1399 rfl (lv_at hl 1 rfl) ?_
  refine lv_iload C.1 C.2.1 dL_law_1400 (lv_at hl 6 rfl) ?_
  refine lv_iconst (v := 1) C.1 C.2.1 dL_law_1402 (by decide) ?_
  refine lv_iadd C.1 C.2.1 dL_law_1403 ?_
  refine Y_sld C S hX hbl hi.2.1.2.1 hi.2.1.1 hi.2.1.2.2 dL_law_1404 ?_
  refine lv_aload_n C.1 C.2.1 dL_law_1405 rfl (lv_at hl 1 rfl) ?_
  refine lv_iload C.1 C.2.1 dL_law_1406 (lv_at hl 6 rfl) ?_
  refine lv_iconst (v := 2) C.1 C.2.1 dL_law_1408 (by decide) ?_
  refine lv_iadd C.1 C.2.1 dL_law_1409 ?_
  refine Y_sld C S hX hbl hi.2.2.1.2.1 hi.2.2.1.1 hi.2.2.1.2.2 dL_law_1410 ?_
  refine Y_c1I (r := wq) (ρ' := ρ') (As := [.int (xs (i + 1)), .int (xs (i + 2))]) C F S rfl (m_X8_makeCall l G (Y_Mo m0) ρ (xs (i + 1)) (xs (i + 2)) wq ρ' e8 _) kv_X8_makeCall tw_7_170 ⟨(Nat.le_of_ble_eq_true rfl), (Nat.le_of_ble_eq_true rfl)⟩ rfl rfl (Nat.le_of_ble_eq_true rfl) hl.1 ⟨by show cells + 4 ≤ 601024; omega, by show slots + 24 ≤ 7293034; omega⟩ dL_law_1411 (fun H locs S => ?_)
  refine lv_istore (lv' := [(7, .int wq), (6, .int (L_k [(2, 1), (3, 2)] q.1)), (0, .ref b), (1, .ref n0), (2, .ref m0), (3, .ref aL), (4, .ref aD), (5, .int iv)]) C.1 C.2.1 dL_law_1414 hl (by decide) rfl (fun ls hl => ?_)
  refine lv_aload_n C.1 C.2.1 dL_law_1416 rfl (lv_at hl 4 rfl) ?_
  refine Y_c1I (r := ρ' 8 0 8) (ρ' := ρ') C F S rfl (As := []) (m_X8_thrown l G _ ρ' _ _ rfl _) kv_X8_thrown tw_6_188 ⟨(Nat.le_of_ble_eq_true rfl), (Nat.le_of_ble_eq_true rfl)⟩ rfl rfl (Nat.le_of_ble_eq_true rfl) hl.1 ⟨by show cells + 4 ≤ 601024; omega, by show slots + 24 ≤ 7293034; omega⟩ dL_law_1417 (fun H locs S => ?_)
  refine lv_iload C.1 C.2.1 dL_law_1420 (lv_at hl 1 rfl) ?_
  refine lv_icmp_eq (tgt := 1427) C.1 C.2.1 dL_law_1422 (by decide) (fun _ => ?_) (fun c9 => absurd hth c9)
  refine lv_iload C.1 C.2.1 dL_law_1427 (lv_at hl 1 rfl) ?_
  refine lv_if_ne (tgt := 1444) C.1 C.2.1 dL_law_1429 (by decide) (fun c9 => ?_) (fun c9 => ?_)
  · refine lv_goto (tgt := 3150) C.1 C.2.1 dL_law_1444 (by decide) ?_
    exact W.widen (k := cells + 4) (n := slots + 24) (by omega) (by omega) (hk _ _ _ _ _ _ _ hR' S (lv_sub hl [2, 3, 4, 5, 6, 7] rfl))
  have h0 : q.1 = 0 := by
    rcases hq with h | h | h
    · exact h
    · rw [h] at c9; exact absurd c9 (by decide)
    · rw [h] at c9; exact absurd c9 (by decide)
  rw [if_pos h0, hval h0] at S
  refine lv_aload_n C.1 C.2.1 dL_law_1432 rfl (lv_at hl 5 rfl) ?_
  refine lv_iconst (v := 0) C.1 C.2.1 dL_law_1433 (by decide) ?_
  refine Y_lald C F S dL_law_1434 ?_
  refine lv_iload C.1 C.2.1 dL_law_1435 (lv_at hl 0 rfl) ?_
  refine lv_i2l C.1 C.2.1 dL_law_1437 rfl ?_
  refine W.lcmp C.1 C.2.1 dL_law_1438 ?_
  refine lv_if_eq (tgt := 1444) C.1 C.2.1 dL_law_1439 (by decide) (fun _ => ?_) (fun c9 => absurd (Y_cmp _) c9)
  refine lv_goto (tgt := 3150) C.1 C.2.1 dL_law_1444 (by decide) ?_
  exact W.widen (k := cells + 4) (n := slots + 24) (by omega) (by omega) (hk _ _ _ _ _ _ _ hR' S (lv_sub hl [2, 3, 4, 5, 6, 7] rfl))
