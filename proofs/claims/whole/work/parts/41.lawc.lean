theorem dL_law_2372 : decode cL_law 2372 = .ok (.aload_n 1, 1) := by decide +kernel
theorem dL_law_2373 : decode cL_law 2373 = .ok (.aload_n 0, 1) := by decide +kernel
theorem dL_law_2374 : decode cL_law 2374 = .ok (.iload 5, 2) := by decide +kernel
theorem dL_law_2376 : decode cL_law 2376 = .ok (.iconst 1, 1) := by decide +kernel
theorem dL_law_2377 : decode cL_law 2377 = .ok (.iadd, 1) := by decide +kernel
theorem dL_law_2378 : decode cL_law 2378 = .ok (.iaload, 1) := by decide +kernel
theorem dL_law_2379 : decode cL_law 2379 = .ok (.aload_n 3, 1) := by decide +kernel
theorem dL_law_2380 : decode cL_law 2380 = .ok (.invokestatic 288, 3) := by decide +kernel
theorem dL_law_2383 : decode cL_law 2383 = .ok (.istore 6, 2) := by decide +kernel
theorem dL_law_2385 : decode cL_law 2385 = .ok (.aload_n 2, 1) := by decide +kernel
theorem dL_law_2386 : decode cL_law 2386 = .ok (.aload_n 0, 1) := by decide +kernel
theorem dL_law_2387 : decode cL_law 2387 = .ok (.iload 5, 2) := by decide +kernel
theorem dL_law_2389 : decode cL_law 2389 = .ok (.iconst 1, 1) := by decide +kernel
theorem dL_law_2390 : decode cL_law 2390 = .ok (.iadd, 1) := by decide +kernel
theorem dL_law_2391 : decode cL_law 2391 = .ok (.iaload, 1) := by decide +kernel
theorem dL_law_2392 : decode cL_law 2392 = .ok (.invokevirtual 290, 3) := by decide +kernel
theorem dL_law_2395 : decode cL_law 2395 = .ok (.istore 7, 2) := by decide +kernel
theorem dL_law_2397 : decode cL_law 2397 = .ok (.aload_n 2, 1) := by decide +kernel
theorem dL_law_2398 : decode cL_law 2398 = .ok (.invokevirtual 169, 3) := by decide +kernel
theorem dL_law_2401 : decode cL_law 2401 = .ok (.iload 6, 2) := by decide +kernel
theorem dL_law_2403 : decode cL_law 2403 = .ok (.if_icmp .eq 5, 3) := by decide +kernel
theorem dL_law_2406 : decode cL_law 2406 = .ok (.iconst 0, 1) := by decide +kernel
theorem dL_law_2407 : decode cL_law 2407 = .ok (.ireturn, 1) := by decide +kernel
theorem dL_law_2408 : decode cL_law 2408 = .ok (.iload 6, 2) := by decide +kernel
theorem dL_law_2410 : decode cL_law 2410 = .ok (.ifCond .ne 15, 3) := by decide +kernel
theorem dL_law_2413 : decode cL_law 2413 = .ok (.aload_n 3, 1) := by decide +kernel
theorem dL_law_2414 : decode cL_law 2414 = .ok (.iconst 0, 1) := by decide +kernel
theorem dL_law_2415 : decode cL_law 2415 = .ok (.laload, 1) := by decide +kernel
theorem dL_law_2416 : decode cL_law 2416 = .ok (.iload 7, 2) := by decide +kernel
theorem dL_law_2418 : decode cL_law 2418 = .ok (.i2l, 1) := by decide +kernel
theorem dL_law_2419 : decode cL_law 2419 = .ok (.lcmp, 1) := by decide +kernel
theorem dL_law_2420 : decode cL_law 2420 = .ok (.ifCond .eq 5, 3) := by decide +kernel
theorem dL_law_2423 : decode cL_law 2423 = .ok (.iconst 0, 1) := by decide +kernel
theorem dL_law_2424 : decode cL_law 2424 = .ok (.ireturn, 1) := by decide +kernel
theorem dL_law_2425 : decode cL_law 2425 = .ok (.goto 725, 3) := by decide +kernel
set_option maxHeartbeats 4000000 in
set_option maxRecDepth 100000 in
theorem w_law_lateIn {p : Program} {l : Launch} {e : Env} {s : State} {m : MethodId} {below : List Frame} {meth : Method} {c : Code} {G : Gx} {b L i n0 m0 aL aD : Nat} {xs : Nat → Int32} {iv : Int32} {cL cD : ClassId} {cells slots : Nat} {Rel : Nat → Sg → Sg → Prop} {nn : Nat} {Q : State → Prop} (hnn9 : nn < 600) (hst : l.stackTraces = false) (C : Cx p s m #[.ref b] meth c RL code 10 ret G) (F : Y_F G s n0 m0 aL aD cL cD) (hX : va_X b L xs s s.heap) (hbl : b < s.heap.size) (hi : Y_I iv i L) (hc : cells + 4 ≤ 601024) (hs : slots + 24 ≤ 7293034) (hE : E_lateIn Rel)
    (hk : ∀ (σ ρ : Sg) (v : Int64) (w : UInt64) (H : Heap) (locs : List Loc) (ls : Array Slot), Rel (nn + 1) σ ρ → Y_S G s n0 m0 aL aD cL cD σ ρ v w H locs → lv_has ls 10 [(0, .ref b), (1, .ref n0), (2, .ref m0), (3, .ref aL), (4, .ref aD), (5, .int iv)] → W p l e room_1 s m #[.ref b] below meth c H locs (cells + 4) (slots + 24) Q (F0 m 3150 ls [])) :
    ∀ (σ ρ : Sg) (v : Int64) (w : UInt64) (H : Heap) (locs : List Loc) (ls : Array Slot), Rel nn σ ρ → Y_S G s n0 m0 aL aD cL cD σ ρ v w H locs → lv_has ls 10 [(0, .ref b), (1, .ref n0), (2, .ref m0), (3, .ref aL), (4, .ref aD), (5, .int iv)] → W p l e room_1 s m #[.ref b] below meth c H locs cells slots Q (F0 m 2372 ls []) := by
  intro σ ρ v w H locs ls hR S hl
  obtain ⟨q, wq, ρ', e7, hq, e8, hR', hth, hval⟩ := hE nn σ ρ (xs (i + 1)) hnn9 hR 
  refine lv_aload_n C.1 C.2.1 dL_law_2372 rfl (lv_at hl 1 rfl) ?_
  refine lv_aload_n C.1 C.2.1 dL_law_2373 rfl (lv_at hl 0 rfl) ?_
  refine lv_iload C.1 C.2.1 dL_law_2374 (lv_at hl 5 rfl) ?_
  refine lv_iconst (v := 1) C.1 C.2.1 dL_law_2376 (by decide) ?_
  refine lv_iadd C.1 C.2.1 dL_law_2377 ?_
  refine Y_sld C S hX hbl hi.2.1.2.1 hi.2.1.1 hi.2.1.2.2 dL_law_2378 ?_
  refine lv_aload_n C.1 C.2.1 dL_law_2379 rfl (lv_at hl 3 rfl) ?_
  have hM := m_L_lateIn l hst G (Y_X n0) σ (xs (i + 1)) q e7 hq cL aL v H.size
  rw [show (if q.1 = 0 then (Sum.inl q.2.1.toInt64 : Int64 ⊕ UInt64) else Sum.inl v) = Sum.inl (if q.1 = 0 then q.2.1.toInt64 else v) by split <;> rfl] at hM
  refine Y_wL (n := 3) (As := [.ref n0, .int (xs (i + 1)), .ref aL]) C F S hM (tt_6 (List.mem_of_getElem? (i := 4) (by decide +kernel)) (by decide +kernel)) tw_6_3 tw_1_0 ⟨by decide, by decide, by decide +kernel⟩ tw_6_2 ⟨(Nat.le_of_ble_eq_true rfl), (Nat.le_of_ble_eq_true rfl)⟩ rfl rfl (Nat.le_of_ble_eq_true rfl) hl.1 ⟨by show cells + 1 ≤ 601024; omega, by show slots + 6 ≤ 7293034; omega⟩ dL_law_2380 (fun H locs S => ?_)
  refine lv_istore (lv' := [(6, .int (L_k [(2, 1)] q.1)), (0, .ref b), (1, .ref n0), (2, .ref m0), (3, .ref aL), (4, .ref aD), (5, .int iv)]) C.1 C.2.1 dL_law_2383 hl (by decide) rfl (fun ls hl => ?_)
  refine lv_aload_n C.1 C.2.1 dL_law_2385 rfl (lv_at hl 3 rfl) ?_
  refine lv_aload_n C.1 C.2.1 dL_law_2386 rfl (lv_at hl 1 rfl) ?_
  refine lv_iload C.1 C.2.1 dL_law_2387 (lv_at hl 6 rfl) ?_
  refine lv_iconst (v := 1) C.1 C.2.1 dL_law_2389 (by decide) ?_
  refine lv_iadd C.1 C.2.1 dL_law_2390 ?_
  refine Y_sld C S hX hbl hi.2.1.2.1 hi.2.1.1 hi.2.1.2.2 dL_law_2391 ?_
  refine Y_c1I (r := wq) (ρ' := ρ') (As := [.int (xs (i + 1))]) C F S rfl (m_X8_lateIn l G (Y_Mo m0) ρ (xs (i + 1)) wq ρ' e8 _) kv_X8_lateIn tw_8_137 ⟨(Nat.le_of_ble_eq_true rfl), (Nat.le_of_ble_eq_true rfl)⟩ rfl rfl (Nat.le_of_ble_eq_true rfl) hl.1 ⟨by show cells + 1 ≤ 601024; omega, by show slots + 6 ≤ 7293034; omega⟩ dL_law_2392 (fun H locs S => ?_)
  refine lv_istore (lv' := [(7, .int wq), (6, .int (L_k [(2, 1)] q.1)), (0, .ref b), (1, .ref n0), (2, .ref m0), (3, .ref aL), (4, .ref aD), (5, .int iv)]) C.1 C.2.1 dL_law_2395 hl (by decide) rfl (fun ls hl => ?_)
  refine lv_aload_n C.1 C.2.1 dL_law_2397 rfl (lv_at hl 4 rfl) ?_
  refine Y_c1I (r := ρ' 8 0 8) (ρ' := ρ') C F S rfl (As := []) (m_X8_thrown l G _ ρ' _ _ rfl _) kv_X8_thrown tw_6_188 ⟨(Nat.le_of_ble_eq_true rfl), (Nat.le_of_ble_eq_true rfl)⟩ rfl rfl (Nat.le_of_ble_eq_true rfl) hl.1 ⟨by show cells + 1 ≤ 601024; omega, by show slots + 6 ≤ 7293034; omega⟩ dL_law_2398 (fun H locs S => ?_)
  refine lv_iload C.1 C.2.1 dL_law_2401 (lv_at hl 1 rfl) ?_
  refine lv_icmp_eq (tgt := 2408) C.1 C.2.1 dL_law_2403 (by decide) (fun _ => ?_) (fun c9 => absurd hth c9)
  refine lv_iload C.1 C.2.1 dL_law_2408 (lv_at hl 1 rfl) ?_
  refine lv_if_ne (tgt := 2425) C.1 C.2.1 dL_law_2410 (by decide) (fun c9 => ?_) (fun c9 => ?_)
  · refine lv_goto (tgt := 3150) C.1 C.2.1 dL_law_2425 (by decide) ?_
    exact W.widen (k := cells + 4) (n := slots + 24) (by omega) (by omega) (hk _ _ _ _ _ _ _ hR' S (lv_sub hl [2, 3, 4, 5, 6, 7] rfl))
  have h0 : q.1 = 0 := by
    rcases hq with h | h
    · exact h
    · rw [h] at c9; exact absurd c9 (by decide)
  rw [if_pos h0, hval h0] at S
  refine lv_aload_n C.1 C.2.1 dL_law_2413 rfl (lv_at hl 5 rfl) ?_
  refine lv_iconst (v := 0) C.1 C.2.1 dL_law_2414 (by decide) ?_
  refine Y_lald C F S dL_law_2415 ?_
  refine lv_iload C.1 C.2.1 dL_law_2416 (lv_at hl 0 rfl) ?_
  refine lv_i2l C.1 C.2.1 dL_law_2418 rfl ?_
  refine W.lcmp C.1 C.2.1 dL_law_2419 ?_
  refine lv_if_eq (tgt := 2425) C.1 C.2.1 dL_law_2420 (by decide) (fun _ => ?_) (fun c9 => absurd (Y_cmp _) c9)
  refine lv_goto (tgt := 3150) C.1 C.2.1 dL_law_2425 (by decide) ?_
  exact W.widen (k := cells + 4) (n := slots + 24) (by omega) (by omega) (hk _ _ _ _ _ _ _ hR' S (lv_sub hl [2, 3, 4, 5, 6, 7] rfl))
theorem dL_law_2428 : decode cL_law 2428 = .ok (.aload_n 1, 1) := by decide +kernel
theorem dL_law_2429 : decode cL_law 2429 = .ok (.aload_n 0, 1) := by decide +kernel
theorem dL_law_2430 : decode cL_law 2430 = .ok (.iload 5, 2) := by decide +kernel
theorem dL_law_2432 : decode cL_law 2432 = .ok (.iconst 1, 1) := by decide +kernel
theorem dL_law_2433 : decode cL_law 2433 = .ok (.iadd, 1) := by decide +kernel
theorem dL_law_2434 : decode cL_law 2434 = .ok (.iaload, 1) := by decide +kernel
theorem dL_law_2435 : decode cL_law 2435 = .ok (.aload_n 0, 1) := by decide +kernel
theorem dL_law_2436 : decode cL_law 2436 = .ok (.iload 5, 2) := by decide +kernel
theorem dL_law_2438 : decode cL_law 2438 = .ok (.iconst 2, 1) := by decide +kernel
theorem dL_law_2439 : decode cL_law 2439 = .ok (.iadd, 1) := by decide +kernel
theorem dL_law_2440 : decode cL_law 2440 = .ok (.iaload, 1) := by decide +kernel
theorem dL_law_2441 : decode cL_law 2441 = .ok (.ifCond .eq 7, 3) := by decide +kernel
theorem dL_law_2444 : decode cL_law 2444 = .ok (.iconst 1, 1) := by decide +kernel
theorem dL_law_2445 : decode cL_law 2445 = .ok (.goto 4, 3) := by decide +kernel
theorem dL_law_2448 : decode cL_law 2448 = .ok (.iconst 0, 1) := by decide +kernel
theorem dL_law_2449 : decode cL_law 2449 = .ok (.aload_n 3, 1) := by decide +kernel
theorem dL_law_2450 : decode cL_law 2450 = .ok (.invokestatic 291, 3) := by decide +kernel
theorem dL_law_2453 : decode cL_law 2453 = .ok (.istore 6, 2) := by decide +kernel
theorem dL_law_2455 : decode cL_law 2455 = .ok (.aload_n 2, 1) := by decide +kernel
theorem dL_law_2456 : decode cL_law 2456 = .ok (.aload_n 0, 1) := by decide +kernel
theorem dL_law_2457 : decode cL_law 2457 = .ok (.iload 5, 2) := by decide +kernel
theorem dL_law_2459 : decode cL_law 2459 = .ok (.iconst 1, 1) := by decide +kernel
theorem dL_law_2460 : decode cL_law 2460 = .ok (.iadd, 1) := by decide +kernel
theorem dL_law_2461 : decode cL_law 2461 = .ok (.iaload, 1) := by decide +kernel
theorem dL_law_2462 : decode cL_law 2462 = .ok (.aload_n 0, 1) := by decide +kernel
theorem dL_law_2463 : decode cL_law 2463 = .ok (.iload 5, 2) := by decide +kernel
theorem dL_law_2465 : decode cL_law 2465 = .ok (.iconst 2, 1) := by decide +kernel
theorem dL_law_2466 : decode cL_law 2466 = .ok (.iadd, 1) := by decide +kernel
theorem dL_law_2467 : decode cL_law 2467 = .ok (.iaload, 1) := by decide +kernel
theorem dL_law_2468 : decode cL_law 2468 = .ok (.ifCond .eq 7, 3) := by decide +kernel
theorem dL_law_2471 : decode cL_law 2471 = .ok (.iconst 1, 1) := by decide +kernel
theorem dL_law_2472 : decode cL_law 2472 = .ok (.goto 4, 3) := by decide +kernel
theorem dL_law_2475 : decode cL_law 2475 = .ok (.iconst 0, 1) := by decide +kernel
theorem dL_law_2476 : decode cL_law 2476 = .ok (.invokevirtual 293, 3) := by decide +kernel
theorem dL_law_2479 : decode cL_law 2479 = .ok (.istore 7, 2) := by decide +kernel
theorem dL_law_2481 : decode cL_law 2481 = .ok (.aload_n 2, 1) := by decide +kernel
theorem dL_law_2482 : decode cL_law 2482 = .ok (.invokevirtual 169, 3) := by decide +kernel
theorem dL_law_2485 : decode cL_law 2485 = .ok (.iload 6, 2) := by decide +kernel
theorem dL_law_2487 : decode cL_law 2487 = .ok (.if_icmp .eq 5, 3) := by decide +kernel
theorem dL_law_2490 : decode cL_law 2490 = .ok (.iconst 0, 1) := by decide +kernel
theorem dL_law_2491 : decode cL_law 2491 = .ok (.ireturn, 1) := by decide +kernel
theorem dL_law_2492 : decode cL_law 2492 = .ok (.iload 6, 2) := by decide +kernel
theorem dL_law_2494 : decode cL_law 2494 = .ok (.ifCond .ne 15, 3) := by decide +kernel
theorem dL_law_2497 : decode cL_law 2497 = .ok (.aload_n 3, 1) := by decide +kernel
theorem dL_law_2498 : decode cL_law 2498 = .ok (.iconst 0, 1) := by decide +kernel
theorem dL_law_2499 : decode cL_law 2499 = .ok (.laload, 1) := by decide +kernel
theorem dL_law_2500 : decode cL_law 2500 = .ok (.iload 7, 2) := by decide +kernel
theorem dL_law_2502 : decode cL_law 2502 = .ok (.i2l, 1) := by decide +kernel
theorem dL_law_2503 : decode cL_law 2503 = .ok (.lcmp, 1) := by decide +kernel
theorem dL_law_2504 : decode cL_law 2504 = .ok (.ifCond .eq 5, 3) := by decide +kernel
theorem dL_law_2507 : decode cL_law 2507 = .ok (.iconst 0, 1) := by decide +kernel
theorem dL_law_2508 : decode cL_law 2508 = .ok (.ireturn, 1) := by decide +kernel
theorem dL_law_2509 : decode cL_law 2509 = .ok (.goto 641, 3) := by decide +kernel
set_option maxHeartbeats 4000000 in
set_option maxRecDepth 100000 in
theorem w_law_crowd {p : Program} {l : Launch} {e : Env} {s : State} {m : MethodId} {below : List Frame} {meth : Method} {c : Code} {G : Gx} {b L i n0 m0 aL aD : Nat} {xs : Nat → Int32} {iv : Int32} {cL cD : ClassId} {cells slots : Nat} {Rel : Nat → Sg → Sg → Prop} {nn : Nat} {Q : State → Prop} (hnn9 : nn < 600) (hst : l.stackTraces = false) (C : Cx p s m #[.ref b] meth c RL code 10 ret G) (F : Y_F G s n0 m0 aL aD cL cD) (hX : va_X b L xs s s.heap) (hbl : b < s.heap.size) (hi : Y_I iv i L) (hc : cells + 4 ≤ 601024) (hs : slots + 24 ≤ 7293034) (hE : E_crowd Rel)
    (hk : ∀ (σ ρ : Sg) (v : Int64) (w : UInt64) (H : Heap) (locs : List Loc) (ls : Array Slot), Rel (nn + 1) σ ρ → Y_S G s n0 m0 aL aD cL cD σ ρ v w H locs → lv_has ls 10 [(0, .ref b), (1, .ref n0), (2, .ref m0), (3, .ref aL), (4, .ref aD), (5, .int iv)] → W p l e room_1 s m #[.ref b] below meth c H locs (cells + 4) (slots + 24) Q (F0 m 3150 ls [])) :
    ∀ (σ ρ : Sg) (v : Int64) (w : UInt64) (H : Heap) (locs : List Loc) (ls : Array Slot), Rel nn σ ρ → Y_S G s n0 m0 aL aD cL cD σ ρ v w H locs → lv_has ls 10 [(0, .ref b), (1, .ref n0), (2, .ref m0), (3, .ref aL), (4, .ref aD), (5, .int iv)] → W p l e room_1 s m #[.ref b] below meth c H locs cells slots Q (F0 m 2428 ls []) := by
  intro σ ρ v w H locs ls hR S hl
  by_cases hb0 : xs (i + 2) = 0
  · obtain ⟨q, wq, ρ', e7, hq, e8, hR', hth, hval⟩ := hE nn σ ρ (xs (i + 1)) 0 hnn9 hR (Or.inl rfl)
    refine lv_aload_n C.1 C.2.1 dL_law_2428 rfl (lv_at hl 1 rfl) ?_
    refine lv_aload_n C.1 C.2.1 dL_law_2429 rfl (lv_at hl 0 rfl) ?_
    refine lv_iload C.1 C.2.1 dL_law_2430 (lv_at hl 5 rfl) ?_
    refine lv_iconst (v := 1) C.1 C.2.1 dL_law_2432 (by decide) ?_
    refine lv_iadd C.1 C.2.1 dL_law_2433 ?_
    refine Y_sld C S hX hbl hi.2.1.2.1 hi.2.1.1 hi.2.1.2.2 dL_law_2434 ?_
    refine lv_aload_n C.1 C.2.1 dL_law_2435 rfl (lv_at hl 0 rfl) ?_
    refine lv_iload C.1 C.2.1 dL_law_2436 (lv_at hl 5 rfl) ?_
    refine lv_iconst (v := 2) C.1 C.2.1 dL_law_2438 (by decide) ?_
    refine lv_iadd C.1 C.2.1 dL_law_2439 ?_
    refine Y_sld C S hX hbl hi.2.2.1.2.1 hi.2.2.1.1 hi.2.2.1.2.2 dL_law_2440 ?_
    refine lv_if_eq (tgt := 2448) C.1 C.2.1 dL_law_2441 (by decide) (fun _ => ?_) (fun c9 => absurd hb0 c9)
    refine lv_iconst (v := 0) C.1 C.2.1 dL_law_2448 (by decide) ?_
    refine lv_aload_n C.1 C.2.1 dL_law_2449 rfl (lv_at hl 3 rfl) ?_
    have hM := m_L_crowd l hst G (Y_X n0) σ (xs (i + 1)) 0 q e7 hq cL aL v H.size
    rw [show (if q.1 = 0 then (Sum.inl q.2.1.toInt64 : Int64 ⊕ UInt64) else Sum.inl v) = Sum.inl (if q.1 = 0 then q.2.1.toInt64 else v) by split <;> rfl] at hM
    refine Y_wL (n := 4) (As := [.ref n0, .int (xs (i + 1)), .int 0, .ref aL]) C F S hM (tt_6 (List.mem_of_getElem? (i := 11) (by decide +kernel)) (by decide +kernel)) tw_6_10 tw_1_0 ⟨by decide, by decide, by decide +kernel⟩ tw_6_9 ⟨(Nat.le_of_ble_eq_true rfl), (Nat.le_of_ble_eq_true rfl)⟩ rfl rfl (Nat.le_of_ble_eq_true rfl) hl.1 ⟨by show cells + 1 ≤ 601024; omega, by show slots + 6 ≤ 7293034; omega⟩ dL_law_2450 (fun H locs S => ?_)
    refine lv_istore (lv' := [(6, .int (L_k [(2, 1)] q.1)), (0, .ref b), (1, .ref n0), (2, .ref m0), (3, .ref aL), (4, .ref aD), (5, .int iv)]) C.1 C.2.1 dL_law_2453 hl (by decide) rfl (fun ls hl => ?_)
    refine lv_aload_n C.1 C.2.1 dL_law_2455 rfl (lv_at hl 3 rfl) ?_
    refine lv_aload_n C.1 C.2.1 dL_law_2456 rfl (lv_at hl 1 rfl) ?_
    refine lv_iload C.1 C.2.1 dL_law_2457 (lv_at hl 6 rfl) ?_
    refine lv_iconst (v := 1) C.1 C.2.1 dL_law_2459 (by decide) ?_
    refine lv_iadd C.1 C.2.1 dL_law_2460 ?_
    refine Y_sld C S hX hbl hi.2.1.2.1 hi.2.1.1 hi.2.1.2.2 dL_law_2461 ?_
    refine lv_aload_n C.1 C.2.1 dL_law_2462 rfl (lv_at hl 1 rfl) ?_
    refine lv_iload C.1 C.2.1 dL_law_2463 (lv_at hl 6 rfl) ?_
    refine lv_iconst (v := 2) C.1 C.2.1 dL_law_2465 (by decide) ?_
    refine lv_iadd C.1 C.2.1 dL_law_2466 ?_
    refine Y_sld C S hX hbl hi.2.2.1.2.1 hi.2.2.1.1 hi.2.2.1.2.2 dL_law_2467 ?_
    refine lv_if_eq (tgt := 2475) C.1 C.2.1 dL_law_2468 (by decide) (fun _ => ?_) (fun c9 => absurd hb0 c9)
    refine lv_iconst (v := 0) C.1 C.2.1 dL_law_2475 (by decide) ?_
    refine Y_c1I (r := wq) (ρ' := ρ') (As := [.int (xs (i + 1)), .int 0]) C F S rfl (m_X8_crowd l G (Y_Mo m0) ρ (xs (i + 1)) 0 wq ρ' e8 _) kv_X8_crowd tw_8_93 ⟨(Nat.le_of_ble_eq_true rfl), (Nat.le_of_ble_eq_true rfl)⟩ rfl rfl (Nat.le_of_ble_eq_true rfl) hl.1 ⟨by show cells + 1 ≤ 601024; omega, by show slots + 6 ≤ 7293034; omega⟩ dL_law_2476 (fun H locs S => ?_)
    refine lv_istore (lv' := [(7, .int wq), (6, .int (L_k [(2, 1)] q.1)), (0, .ref b), (1, .ref n0), (2, .ref m0), (3, .ref aL), (4, .ref aD), (5, .int iv)]) C.1 C.2.1 dL_law_2479 hl (by decide) rfl (fun ls hl => ?_)
    refine lv_aload_n C.1 C.2.1 dL_law_2481 rfl (lv_at hl 4 rfl) ?_
    refine Y_c1I (r := ρ' 8 0 8) (ρ' := ρ') C F S rfl (As := []) (m_X8_thrown l G _ ρ' _ _ rfl _) kv_X8_thrown tw_6_188 ⟨(Nat.le_of_ble_eq_true rfl), (Nat.le_of_ble_eq_true rfl)⟩ rfl rfl (Nat.le_of_ble_eq_true rfl) hl.1 ⟨by show cells + 1 ≤ 601024; omega, by show slots + 6 ≤ 7293034; omega⟩ dL_law_2482 (fun H locs S => ?_)
    refine lv_iload C.1 C.2.1 dL_law_2485 (lv_at hl 1 rfl) ?_
    refine lv_icmp_eq (tgt := 2492) C.1 C.2.1 dL_law_2487 (by decide) (fun _ => ?_) (fun c9 => absurd hth c9)
    refine lv_iload C.1 C.2.1 dL_law_2492 (lv_at hl 1 rfl) ?_
    refine lv_if_ne (tgt := 2509) C.1 C.2.1 dL_law_2494 (by decide) (fun c9 => ?_) (fun c9 => ?_)
    · refine lv_goto (tgt := 3150) C.1 C.2.1 dL_law_2509 (by decide) ?_
      exact W.widen (k := cells + 4) (n := slots + 24) (by omega) (by omega) (hk _ _ _ _ _ _ _ hR' S (lv_sub hl [2, 3, 4, 5, 6, 7] rfl))
    have h0 : q.1 = 0 := by
      rcases hq with h | h
      · exact h
      · rw [h] at c9; exact absurd c9 (by decide)
    rw [if_pos h0, hval h0] at S
    refine lv_aload_n C.1 C.2.1 dL_law_2497 rfl (lv_at hl 5 rfl) ?_
    refine lv_iconst (v := 0) C.1 C.2.1 dL_law_2498 (by decide) ?_
    refine Y_lald C F S dL_law_2499 ?_
    refine lv_iload C.1 C.2.1 dL_law_2500 (lv_at hl 0 rfl) ?_
    refine lv_i2l C.1 C.2.1 dL_law_2502 rfl ?_
    refine W.lcmp C.1 C.2.1 dL_law_2503 ?_
    refine lv_if_eq (tgt := 2509) C.1 C.2.1 dL_law_2504 (by decide) (fun _ => ?_) (fun c9 => absurd (Y_cmp _) c9)
    refine lv_goto (tgt := 3150) C.1 C.2.1 dL_law_2509 (by decide) ?_
    exact W.widen (k := cells + 4) (n := slots + 24) (by omega) (by omega) (hk _ _ _ _ _ _ _ hR' S (lv_sub hl [2, 3, 4, 5, 6, 7] rfl))
  · obtain ⟨q, wq, ρ', e7, hq, e8, hR', hth, hval⟩ := hE nn σ ρ (xs (i + 1)) 1 hnn9 hR (Or.inr rfl)
    refine lv_aload_n C.1 C.2.1 dL_law_2428 rfl (lv_at hl 1 rfl) ?_
    refine lv_aload_n C.1 C.2.1 dL_law_2429 rfl (lv_at hl 0 rfl) ?_
    refine lv_iload C.1 C.2.1 dL_law_2430 (lv_at hl 5 rfl) ?_
    refine lv_iconst (v := 1) C.1 C.2.1 dL_law_2432 (by decide) ?_
    refine lv_iadd C.1 C.2.1 dL_law_2433 ?_
    refine Y_sld C S hX hbl hi.2.1.2.1 hi.2.1.1 hi.2.1.2.2 dL_law_2434 ?_
    refine lv_aload_n C.1 C.2.1 dL_law_2435 rfl (lv_at hl 0 rfl) ?_
    refine lv_iload C.1 C.2.1 dL_law_2436 (lv_at hl 5 rfl) ?_
    refine lv_iconst (v := 2) C.1 C.2.1 dL_law_2438 (by decide) ?_
    refine lv_iadd C.1 C.2.1 dL_law_2439 ?_
    refine Y_sld C S hX hbl hi.2.2.1.2.1 hi.2.2.1.1 hi.2.2.1.2.2 dL_law_2440 ?_
    refine lv_if_eq (tgt := 2448) C.1 C.2.1 dL_law_2441 (by decide) (fun c9 => absurd c9 hb0) (fun _ => ?_)
    refine lv_iconst (v := 1) C.1 C.2.1 dL_law_2444 (by decide) ?_
    refine lv_goto (tgt := 2449) C.1 C.2.1 dL_law_2445 (by decide) ?_
    refine lv_aload_n C.1 C.2.1 dL_law_2449 rfl (lv_at hl 3 rfl) ?_
    have hM := m_L_crowd l hst G (Y_X n0) σ (xs (i + 1)) 1 q e7 hq cL aL v H.size
    rw [show (if q.1 = 0 then (Sum.inl q.2.1.toInt64 : Int64 ⊕ UInt64) else Sum.inl v) = Sum.inl (if q.1 = 0 then q.2.1.toInt64 else v) by split <;> rfl] at hM
    refine Y_wL (n := 4) (As := [.ref n0, .int (xs (i + 1)), .int 1, .ref aL]) C F S hM (tt_6 (List.mem_of_getElem? (i := 11) (by decide +kernel)) (by decide +kernel)) tw_6_10 tw_1_0 ⟨by decide, by decide, by decide +kernel⟩ tw_6_9 ⟨(Nat.le_of_ble_eq_true rfl), (Nat.le_of_ble_eq_true rfl)⟩ rfl rfl (Nat.le_of_ble_eq_true rfl) hl.1 ⟨by show cells + 1 ≤ 601024; omega, by show slots + 6 ≤ 7293034; omega⟩ dL_law_2450 (fun H locs S => ?_)
    refine lv_istore (lv' := [(6, .int (L_k [(2, 1)] q.1)), (0, .ref b), (1, .ref n0), (2, .ref m0), (3, .ref aL), (4, .ref aD), (5, .int iv)]) C.1 C.2.1 dL_law_2453 hl (by decide) rfl (fun ls hl => ?_)
    refine lv_aload_n C.1 C.2.1 dL_law_2455 rfl (lv_at hl 3 rfl) ?_
    refine lv_aload_n C.1 C.2.1 dL_law_2456 rfl (lv_at hl 1 rfl) ?_
    refine lv_iload C.1 C.2.1 dL_law_2457 (lv_at hl 6 rfl) ?_
    refine lv_iconst (v := 1) C.1 C.2.1 dL_law_2459 (by decide) ?_
    refine lv_iadd C.1 C.2.1 dL_law_2460 ?_
    refine Y_sld C S hX hbl hi.2.1.2.1 hi.2.1.1 hi.2.1.2.2 dL_law_2461 ?_
    refine lv_aload_n C.1 C.2.1 dL_law_2462 rfl (lv_at hl 1 rfl) ?_
    refine lv_iload C.1 C.2.1 dL_law_2463 (lv_at hl 6 rfl) ?_
    refine lv_iconst (v := 2) C.1 C.2.1 dL_law_2465 (by decide) ?_
    refine lv_iadd C.1 C.2.1 dL_law_2466 ?_
    refine Y_sld C S hX hbl hi.2.2.1.2.1 hi.2.2.1.1 hi.2.2.1.2.2 dL_law_2467 ?_
    refine lv_if_eq (tgt := 2475) C.1 C.2.1 dL_law_2468 (by decide) (fun c9 => absurd c9 hb0) (fun _ => ?_)
    refine lv_iconst (v := 1) C.1 C.2.1 dL_law_2471 (by decide) ?_
    refine lv_goto (tgt := 2476) C.1 C.2.1 dL_law_2472 (by decide) ?_
    refine Y_c1I (r := wq) (ρ' := ρ') (As := [.int (xs (i + 1)), .int 1]) C F S rfl (m_X8_crowd l G (Y_Mo m0) ρ (xs (i + 1)) 1 wq ρ' e8 _) kv_X8_crowd tw_8_93 ⟨(Nat.le_of_ble_eq_true rfl), (Nat.le_of_ble_eq_true rfl)⟩ rfl rfl (Nat.le_of_ble_eq_true rfl) hl.1 ⟨by show cells + 1 ≤ 601024; omega, by show slots + 6 ≤ 7293034; omega⟩ dL_law_2476 (fun H locs S => ?_)
    refine lv_istore (lv' := [(7, .int wq), (6, .int (L_k [(2, 1)] q.1)), (0, .ref b), (1, .ref n0), (2, .ref m0), (3, .ref aL), (4, .ref aD), (5, .int iv)]) C.1 C.2.1 dL_law_2479 hl (by decide) rfl (fun ls hl => ?_)
    refine lv_aload_n C.1 C.2.1 dL_law_2481 rfl (lv_at hl 4 rfl) ?_
    refine Y_c1I (r := ρ' 8 0 8) (ρ' := ρ') C F S rfl (As := []) (m_X8_thrown l G _ ρ' _ _ rfl _) kv_X8_thrown tw_6_188 ⟨(Nat.le_of_ble_eq_true rfl), (Nat.le_of_ble_eq_true rfl)⟩ rfl rfl (Nat.le_of_ble_eq_true rfl) hl.1 ⟨by show cells + 1 ≤ 601024; omega, by show slots + 6 ≤ 7293034; omega⟩ dL_law_2482 (fun H locs S => ?_)
    refine lv_iload C.1 C.2.1 dL_law_2485 (lv_at hl 1 rfl) ?_
    refine lv_icmp_eq (tgt := 2492) C.1 C.2.1 dL_law_2487 (by decide) (fun _ => ?_) (fun c9 => absurd hth c9)
    refine lv_iload C.1 C.2.1 dL_law_2492 (lv_at hl 1 rfl) ?_
    refine lv_if_ne (tgt := 2509) C.1 C.2.1 dL_law_2494 (by decide) (fun c9 => ?_) (fun c9 => ?_)
    · refine lv_goto (tgt := 3150) C.1 C.2.1 dL_law_2509 (by decide) ?_
      exact W.widen (k := cells + 4) (n := slots + 24) (by omega) (by omega) (hk _ _ _ _ _ _ _ hR' S (lv_sub hl [2, 3, 4, 5, 6, 7] rfl))
    have h0 : q.1 = 0 := by
      rcases hq with h | h
      · exact h
      · rw [h] at c9; exact absurd c9 (by decide)
    rw [if_pos h0, hval h0] at S
    refine lv_aload_n C.1 C.2.1 dL_law_2497 rfl (lv_at hl 5 rfl) ?_
    refine lv_iconst (v := 0) C.1 C.2.1 dL_law_2498 (by decide) ?_
    refine Y_lald C F S dL_law_2499 ?_
    refine lv_iload C.1 C.2.1 dL_law_2500 (lv_at hl 0 rfl) ?_
    refine lv_i2l C.1 C.2.1 dL_law_2502 rfl ?_
    refine W.lcmp C.1 C.2.1 dL_law_2503 ?_
    refine lv_if_eq (tgt := 2509) C.1 C.2.1 dL_law_2504 (by decide) (fun _ => ?_) (fun c9 => absurd (Y_cmp _) c9)
    refine lv_goto (tgt := 3150) C.1 C.2.1 dL_law_2509 (by decide) ?_
    exact W.widen (k := cells + 4) (n := slots + 24) (by omega) (by omega) (hk _ _ _ _ _ _ _ hR' S (lv_sub hl [2, 3, 4, 5, 6, 7] rfl))
theorem dL_law_2512 : decode cL_law 2512 = .ok (.aload_n 1, 1) := by decide +kernel
theorem dL_law_2513 : decode cL_law 2513 = .ok (.aload_n 0, 1) := by decide +kernel
theorem dL_law_2514 : decode cL_law 2514 = .ok (.iload 5, 2) := by decide +kernel
theorem dL_law_2516 : decode cL_law 2516 = .ok (.iconst 1, 1) := by decide +kernel
theorem dL_law_2517 : decode cL_law 2517 = .ok (.iadd, 1) := by decide +kernel
theorem dL_law_2518 : decode cL_law 2518 = .ok (.iaload, 1) := by decide +kernel
theorem dL_law_2519 : decode cL_law 2519 = .ok (.aload 4, 2) := by decide +kernel
theorem dL_law_2521 : decode cL_law 2521 = .ok (.invokestatic 294, 3) := by decide +kernel
theorem dL_law_2524 : decode cL_law 2524 = .ok (.istore 6, 2) := by decide +kernel
theorem dL_law_2526 : decode cL_law 2526 = .ok (.aload_n 2, 1) := by decide +kernel
theorem dL_law_2527 : decode cL_law 2527 = .ok (.aload_n 0, 1) := by decide +kernel
theorem dL_law_2528 : decode cL_law 2528 = .ok (.iload 5, 2) := by decide +kernel
theorem dL_law_2530 : decode cL_law 2530 = .ok (.iconst 1, 1) := by decide +kernel
theorem dL_law_2531 : decode cL_law 2531 = .ok (.iadd, 1) := by decide +kernel
theorem dL_law_2532 : decode cL_law 2532 = .ok (.iaload, 1) := by decide +kernel
theorem dL_law_2533 : decode cL_law 2533 = .ok (.invokevirtual 297, 3) := by decide +kernel
theorem dL_law_2536 : decode cL_law 2536 = .ok (.dstore 7, 2) := by decide +kernel
theorem dL_law_2538 : decode cL_law 2538 = .ok (.aload_n 2, 1) := by decide +kernel
theorem dL_law_2539 : decode cL_law 2539 = .ok (.invokevirtual 169, 3) := by decide +kernel
theorem dL_law_2542 : decode cL_law 2542 = .ok (.iload 6, 2) := by decide +kernel
theorem dL_law_2544 : decode cL_law 2544 = .ok (.if_icmp .eq 5, 3) := by decide +kernel
theorem dL_law_2547 : decode cL_law 2547 = .ok (.iconst 0, 1) := by decide +kernel
theorem dL_law_2548 : decode cL_law 2548 = .ok (.ireturn, 1) := by decide +kernel
theorem dL_law_2549 : decode cL_law 2549 = .ok (.iload 6, 2) := by decide +kernel
theorem dL_law_2551 : decode cL_law 2551 = .ok (.ifCond .ne 35, 3) := by decide +kernel
theorem dL_law_2554 : decode cL_law 2554 = .ok (.aload 4, 2) := by decide +kernel
theorem dL_law_2556 : decode cL_law 2556 = .ok (.iconst 0, 1) := by decide +kernel
theorem dL_law_2557 : decode cL_law 2557 = .ok (.daload, 1) := by decide +kernel
theorem dL_law_2558 : decode cL_law 2558 = .ok (.dload 7, 2) := by decide +kernel
theorem dL_law_2560 : decode cL_law 2560 = .ok (.dcmp .l, 1) := by decide +kernel
theorem dL_law_2561 : decode cL_law 2561 = .ok (.ifCond .eq 25, 3) := by decide +kernel
theorem dL_law_2564 : decode cL_law 2564 = .ok (.aload 4, 2) := by decide +kernel
theorem dL_law_2566 : decode cL_law 2566 = .ok (.iconst 0, 1) := by decide +kernel
theorem dL_law_2567 : decode cL_law 2567 = .ok (.daload, 1) := by decide +kernel
theorem dL_law_2568 : decode cL_law 2568 = .ok (.aload 4, 2) := by decide +kernel
theorem dL_law_2570 : decode cL_law 2570 = .ok (.iconst 0, 1) := by decide +kernel
theorem dL_law_2571 : decode cL_law 2571 = .ok (.daload, 1) := by decide +kernel
theorem dL_law_2572 : decode cL_law 2572 = .ok (.dcmp .l, 1) := by decide +kernel
theorem dL_law_2573 : decode cL_law 2573 = .ok (.ifCond .eq 11, 3) := by decide +kernel
theorem dL_law_2576 : decode cL_law 2576 = .ok (.dload 7, 2) := by decide +kernel
theorem dL_law_2578 : decode cL_law 2578 = .ok (.dload 7, 2) := by decide +kernel
theorem dL_law_2580 : decode cL_law 2580 = .ok (.dcmp .l, 1) := by decide +kernel
theorem dL_law_2581 : decode cL_law 2581 = .ok (.ifCond .ne 5, 3) := by decide +kernel
theorem dL_law_2584 : decode cL_law 2584 = .ok (.iconst 0, 1) := by decide +kernel
theorem dL_law_2585 : decode cL_law 2585 = .ok (.ireturn, 1) := by decide +kernel
theorem dL_law_2586 : decode cL_law 2586 = .ok (.goto 564, 3) := by decide +kernel
set_option maxHeartbeats 4000000 in
set_option maxRecDepth 100000 in
theorem w_law_meanCost {p : Program} {l : Launch} {e : Env} {s : State} {m : MethodId} {below : List Frame} {meth : Method} {c : Code} {G : Gx} {b L i n0 m0 aL aD : Nat} {xs : Nat → Int32} {iv : Int32} {cL cD : ClassId} {cells slots : Nat} {Rel : Nat → Sg → Sg → Prop} {nn : Nat} {Q : State → Prop} (hnn9 : nn < 600) (hst : l.stackTraces = false) (C : Cx p s m #[.ref b] meth c RL code 10 ret G) (F : Y_F G s n0 m0 aL aD cL cD) (hX : va_X b L xs s s.heap) (hbl : b < s.heap.size) (hi : Y_I iv i L) (hc : cells + 4 ≤ 601024) (hs : slots + 24 ≤ 7293034) (hE : E_meanCost Rel)
    (hk : ∀ (σ ρ : Sg) (v : Int64) (w : UInt64) (H : Heap) (locs : List Loc) (ls : Array Slot), Rel (nn + 1) σ ρ → Y_S G s n0 m0 aL aD cL cD σ ρ v w H locs → lv_has ls 10 [(0, .ref b), (1, .ref n0), (2, .ref m0), (3, .ref aL), (4, .ref aD), (5, .int iv)] → W p l e room_1 s m #[.ref b] below meth c H locs (cells + 4) (slots + 24) Q (F0 m 3150 ls [])) :
    ∀ (σ ρ : Sg) (v : Int64) (w : UInt64) (H : Heap) (locs : List Loc) (ls : Array Slot), Rel nn σ ρ → Y_S G s n0 m0 aL aD cL cD σ ρ v w H locs → lv_has ls 10 [(0, .ref b), (1, .ref n0), (2, .ref m0), (3, .ref aL), (4, .ref aD), (5, .int iv)] → W p l e room_1 s m #[.ref b] below meth c H locs cells slots Q (F0 m 2512 ls []) := by
  intro σ ρ v w H locs ls hR S hl
  obtain ⟨q, wq, ρ', e7, hq, e8, hR', hth, hval⟩ := hE nn σ ρ (xs (i + 1)) hnn9 hR 
  refine lv_aload_n C.1 C.2.1 dL_law_2512 rfl (lv_at hl 1 rfl) ?_
  refine lv_aload_n C.1 C.2.1 dL_law_2513 rfl (lv_at hl 0 rfl) ?_
  refine lv_iload C.1 C.2.1 dL_law_2514 (lv_at hl 5 rfl) ?_
  refine lv_iconst (v := 1) C.1 C.2.1 dL_law_2516 (by decide) ?_
  refine lv_iadd C.1 C.2.1 dL_law_2517 ?_
  refine Y_sld C S hX hbl hi.2.1.2.1 hi.2.1.1 hi.2.1.2.2 dL_law_2518 ?_
  refine lv_aload C.1 C.2.1 dL_law_2519 (lv_at hl 4 rfl) ?_
  have hM := m_L_meanCost l hst G (Y_X n0) σ (xs (i + 1)) q e7 hq cD aD w H.size
  rw [show (if q.1 = 0 then (Sum.inr q.2.1 : Int64 ⊕ UInt64) else Sum.inr w) = Sum.inr (if q.1 = 0 then q.2.1 else w) by split <;> rfl] at hM
  refine Y_wD (n := 3) (As := [.ref n0, .int (xs (i + 1)), .ref aD]) C F S hM (tt_6 (List.mem_of_getElem? (i := 18) (by decide +kernel)) (by decide +kernel)) tw_6_17 tw_1_0 ⟨by decide, by decide, by decide +kernel⟩ tw_6_16 ⟨(Nat.le_of_ble_eq_true rfl), (Nat.le_of_ble_eq_true rfl)⟩ rfl rfl (Nat.le_of_ble_eq_true rfl) hl.1 ⟨by show cells + 1 ≤ 601024; omega, by show slots + 6 ≤ 7293034; omega⟩ dL_law_2521 (fun H locs S => ?_)
  refine lv_istore (lv' := [(6, .int (L_k [(1, 1)] q.1)), (0, .ref b), (1, .ref n0), (2, .ref m0), (3, .ref aL), (4, .ref aD), (5, .int iv)]) C.1 C.2.1 dL_law_2524 hl (by decide) rfl (fun ls hl => ?_)
  refine lv_aload_n C.1 C.2.1 dL_law_2526 rfl (lv_at hl 3 rfl) ?_
  refine lv_aload_n C.1 C.2.1 dL_law_2527 rfl (lv_at hl 1 rfl) ?_
  refine lv_iload C.1 C.2.1 dL_law_2528 (lv_at hl 6 rfl) ?_
  refine lv_iconst (v := 1) C.1 C.2.1 dL_law_2530 (by decide) ?_
  refine lv_iadd C.1 C.2.1 dL_law_2531 ?_
  refine Y_sld C S hX hbl hi.2.1.2.1 hi.2.1.1 hi.2.1.2.2 dL_law_2532 ?_
  refine Y_c1D (r := wq) (ρ' := ρ') (As := [.int (xs (i + 1))]) C F S rfl (m_X8_meanCost l G (Y_Mo m0) ρ (xs (i + 1)) wq ρ' e8 _) kv_X8_meanCost tw_8_97 ⟨(Nat.le_of_ble_eq_true rfl), (Nat.le_of_ble_eq_true rfl)⟩ rfl rfl (Nat.le_of_ble_eq_true rfl) hl.1 ⟨by show cells + 1 ≤ 601024; omega, by show slots + 6 ≤ 7293034; omega⟩ dL_law_2533 (fun H locs S => ?_)
  refine lv_dstore (lv' := [(7, .double wq), (6, .int (L_k [(1, 1)] q.1)), (0, .ref b), (1, .ref n0), (2, .ref m0), (3, .ref aL), (4, .ref aD), (5, .int iv)]) C.1 C.2.1 dL_law_2536 hl (by decide) rfl (fun ls hl => ?_)
  refine lv_aload_n C.1 C.2.1 dL_law_2538 rfl (lv_at hl 4 rfl) ?_
  refine Y_c1I (r := ρ' 8 0 8) (ρ' := ρ') C F S rfl (As := []) (m_X8_thrown l G _ ρ' _ _ rfl _) kv_X8_thrown tw_6_188 ⟨(Nat.le_of_ble_eq_true rfl), (Nat.le_of_ble_eq_true rfl)⟩ rfl rfl (Nat.le_of_ble_eq_true rfl) hl.1 ⟨by show cells + 1 ≤ 601024; omega, by show slots + 6 ≤ 7293034; omega⟩ dL_law_2539 (fun H locs S => ?_)
  refine lv_iload C.1 C.2.1 dL_law_2542 (lv_at hl 1 rfl) ?_
  refine lv_icmp_eq (tgt := 2549) C.1 C.2.1 dL_law_2544 (by decide) (fun _ => ?_) (fun c9 => absurd hth c9)
  refine lv_iload C.1 C.2.1 dL_law_2549 (lv_at hl 1 rfl) ?_
  refine lv_if_ne (tgt := 2586) C.1 C.2.1 dL_law_2551 (by decide) (fun c9 => ?_) (fun c9 => ?_)
  · refine lv_goto (tgt := 3150) C.1 C.2.1 dL_law_2586 (by decide) ?_
    exact W.widen (k := cells + 4) (n := slots + 24) (by omega) (by omega) (hk _ _ _ _ _ _ _ hR' S (lv_sub hl [2, 3, 4, 5, 6, 7] rfl))
  have h0 : q.1 = 0 := by
    rcases hq with h | h
    · exact h
    · rw [h] at c9; exact absurd c9 (by decide)
  rw [if_pos h0, hval h0] at S
  refine lv_aload C.1 C.2.1 dL_law_2554 (lv_at hl 6 rfl) ?_
  refine lv_iconst (v := 0) C.1 C.2.1 dL_law_2556 (by decide) ?_
  refine Y_dald C F S dL_law_2557 ?_
  refine lv_dload C.1 C.2.1 dL_law_2558 (lv_at hl 0 rfl) ?_
  refine lv_dcmp C.1 C.2.1 dL_law_2560 ?_
  refine lv_if_eq (tgt := 2586) C.1 C.2.1 dL_law_2561 (by decide) (fun c9 => ?_) (fun c9 => ?_)
  · refine lv_goto (tgt := 3150) C.1 C.2.1 dL_law_2586 (by decide) ?_
    exact W.widen (k := cells + 4) (n := slots + 24) (by omega) (by omega) (hk _ _ _ _ _ _ _ hR' S (lv_sub hl [2, 3, 4, 5, 6, 7] rfl))
  refine lv_aload C.1 C.2.1 dL_law_2564 (lv_at hl 6 rfl) ?_
  refine lv_iconst (v := 0) C.1 C.2.1 dL_law_2566 (by decide) ?_
  refine Y_dald C F S dL_law_2567 ?_
  refine lv_aload C.1 C.2.1 dL_law_2568 (lv_at hl 6 rfl) ?_
  refine lv_iconst (v := 0) C.1 C.2.1 dL_law_2570 (by decide) ?_
  refine Y_dald C F S dL_law_2571 ?_
  refine lv_dcmp C.1 C.2.1 dL_law_2572 ?_
  refine lv_if_eq (tgt := 2584) C.1 C.2.1 dL_law_2573 (by decide) (fun c8 => absurd c8 c9) (fun _ => ?_)
  refine lv_dload C.1 C.2.1 dL_law_2576 (lv_at hl 0 rfl) ?_
  refine lv_dload C.1 C.2.1 dL_law_2578 (lv_at hl 0 rfl) ?_
  refine lv_dcmp C.1 C.2.1 dL_law_2580 ?_
  refine lv_if_ne (tgt := 2586) C.1 C.2.1 dL_law_2581 (by decide) (fun _ => ?_) (fun c8 => absurd c8 c9)
  refine lv_goto (tgt := 3150) C.1 C.2.1 dL_law_2586 (by decide) ?_
  exact W.widen (k := cells + 4) (n := slots + 24) (by omega) (by omega) (hk _ _ _ _ _ _ _ hR' S (lv_sub hl [2, 3, 4, 5, 6, 7] rfl))
theorem dL_law_2589 : decode cL_law 2589 = .ok (.aload_n 1, 1) := by decide +kernel
theorem dL_law_2590 : decode cL_law 2590 = .ok (.aload_n 0, 1) := by decide +kernel
theorem dL_law_2591 : decode cL_law 2591 = .ok (.iload 5, 2) := by decide +kernel
theorem dL_law_2593 : decode cL_law 2593 = .ok (.iconst 1, 1) := by decide +kernel
theorem dL_law_2594 : decode cL_law 2594 = .ok (.iadd, 1) := by decide +kernel
theorem dL_law_2595 : decode cL_law 2595 = .ok (.iaload, 1) := by decide +kernel
theorem dL_law_2596 : decode cL_law 2596 = .ok (.aload_n 0, 1) := by decide +kernel
theorem dL_law_2597 : decode cL_law 2597 = .ok (.iload 5, 2) := by decide +kernel
theorem dL_law_2599 : decode cL_law 2599 = .ok (.iconst 2, 1) := by decide +kernel
theorem dL_law_2600 : decode cL_law 2600 = .ok (.iadd, 1) := by decide +kernel
theorem dL_law_2601 : decode cL_law 2601 = .ok (.iaload, 1) := by decide +kernel
theorem dL_law_2602 : decode cL_law 2602 = .ok (.invokevirtual 298, 3) := by decide +kernel
theorem dL_law_2605 : decode cL_law 2605 = .ok (.aload_n 2, 1) := by decide +kernel
theorem dL_law_2606 : decode cL_law 2606 = .ok (.aload_n 0, 1) := by decide +kernel
theorem dL_law_2607 : decode cL_law 2607 = .ok (.iload 5, 2) := by decide +kernel
theorem dL_law_2609 : decode cL_law 2609 = .ok (.iconst 1, 1) := by decide +kernel
theorem dL_law_2610 : decode cL_law 2610 = .ok (.iadd, 1) := by decide +kernel
theorem dL_law_2611 : decode cL_law 2611 = .ok (.iaload, 1) := by decide +kernel
theorem dL_law_2612 : decode cL_law 2612 = .ok (.aload_n 0, 1) := by decide +kernel
theorem dL_law_2613 : decode cL_law 2613 = .ok (.iload 5, 2) := by decide +kernel
theorem dL_law_2615 : decode cL_law 2615 = .ok (.iconst 2, 1) := by decide +kernel
theorem dL_law_2616 : decode cL_law 2616 = .ok (.iadd, 1) := by decide +kernel
theorem dL_law_2617 : decode cL_law 2617 = .ok (.iaload, 1) := by decide +kernel
theorem dL_law_2618 : decode cL_law 2618 = .ok (.invokevirtual 301, 3) := by decide +kernel
theorem dL_law_2621 : decode cL_law 2621 = .ok (.if_icmp .eq 529, 3) := by decide +kernel
theorem dL_law_2624 : decode cL_law 2624 = .ok (.iconst 0, 1) := by decide +kernel
theorem dL_law_2625 : decode cL_law 2625 = .ok (.ireturn, 1) := by decide +kernel
set_option maxHeartbeats 4000000 in
set_option maxRecDepth 100000 in
theorem w_law_waitsWithin {p : Program} {l : Launch} {e : Env} {s : State} {m : MethodId} {below : List Frame} {meth : Method} {c : Code} {G : Gx} {b L i n0 m0 aL aD : Nat} {xs : Nat → Int32} {iv : Int32} {cL cD : ClassId} {cells slots : Nat} {Rel : Nat → Sg → Sg → Prop} {nn : Nat} {Q : State → Prop} (hnn9 : nn < 600) (hst : l.stackTraces = false) (C : Cx p s m #[.ref b] meth c RL code 10 ret G) (F : Y_F G s n0 m0 aL aD cL cD) (hX : va_X b L xs s s.heap) (hbl : b < s.heap.size) (hi : Y_I iv i L) (hc : cells + 4 ≤ 601024) (hs : slots + 24 ≤ 7293034) (hE : E_waitsWithin Rel)
    (hk : ∀ (σ ρ : Sg) (v : Int64) (w : UInt64) (H : Heap) (locs : List Loc) (ls : Array Slot), Rel (nn + 1) σ ρ → Y_S G s n0 m0 aL aD cL cD σ ρ v w H locs → lv_has ls 10 [(0, .ref b), (1, .ref n0), (2, .ref m0), (3, .ref aL), (4, .ref aD), (5, .int iv)] → W p l e room_1 s m #[.ref b] below meth c H locs (cells + 4) (slots + 24) Q (F0 m 3150 ls [])) :
    ∀ (σ ρ : Sg) (v : Int64) (w : UInt64) (H : Heap) (locs : List Loc) (ls : Array Slot), Rel nn σ ρ → Y_S G s n0 m0 aL aD cL cD σ ρ v w H locs → lv_has ls 10 [(0, .ref b), (1, .ref n0), (2, .ref m0), (3, .ref aL), (4, .ref aD), (5, .int iv)] → W p l e room_1 s m #[.ref b] below meth c H locs cells slots Q (F0 m 2589 ls []) := by
  intro σ ρ v w H locs ls hR S hl
  obtain ⟨r, σ', ρ', e7, e8, hR'⟩ := hE nn σ ρ (xs (i + 1)) (xs (i + 2)) hnn9 hR 
  refine lv_aload_n C.1 C.2.1 dL_law_2589 rfl (lv_at hl 1 rfl) ?_
  refine lv_aload_n C.1 C.2.1 dL_law_2590 rfl (lv_at hl 0 rfl) ?_
  refine lv_iload C.1 C.2.1 dL_law_2591 (lv_at hl 5 rfl) ?_
  refine lv_iconst (v := 1) C.1 C.2.1 dL_law_2593 (by decide) ?_
  refine lv_iadd C.1 C.2.1 dL_law_2594 ?_
  refine Y_sld C S hX hbl hi.2.1.2.1 hi.2.1.1 hi.2.1.2.2 dL_law_2595 ?_
  refine lv_aload_n C.1 C.2.1 dL_law_2596 rfl (lv_at hl 0 rfl) ?_
  refine lv_iload C.1 C.2.1 dL_law_2597 (lv_at hl 5 rfl) ?_
  refine lv_iconst (v := 2) C.1 C.2.1 dL_law_2599 (by decide) ?_
  refine lv_iadd C.1 C.2.1 dL_law_2600 ?_
  refine Y_sld C S hX hbl hi.2.2.1.2.1 hi.2.2.1.1 hi.2.2.1.2.2 dL_law_2601 ?_
  refine Y_c0I (r := r) (σ' := σ') (As := [.int (xs (i + 1)), .int (xs (i + 2))]) C F S rfl (m_X7_waitsWithin l G (Y_X n0) σ (xs (i + 1)) (xs (i + 2)) r σ' e7 _) kv_X7_waitsWithin tw_3_183 ⟨(Nat.le_of_ble_eq_true rfl), (Nat.le_of_ble_eq_true rfl)⟩ rfl rfl (Nat.le_of_ble_eq_true rfl) hl.1 ⟨by show cells + 0 ≤ 601024; omega, by show slots + 0 ≤ 7293034; omega⟩ dL_law_2602 (fun H locs S => ?_)
  refine lv_aload_n C.1 C.2.1 dL_law_2605 rfl (lv_at hl 2 rfl) ?_
  refine lv_aload_n C.1 C.2.1 dL_law_2606 rfl (lv_at hl 0 rfl) ?_
  refine lv_iload C.1 C.2.1 dL_law_2607 (lv_at hl 5 rfl) ?_
  refine lv_iconst (v := 1) C.1 C.2.1 dL_law_2609 (by decide) ?_
  refine lv_iadd C.1 C.2.1 dL_law_2610 ?_
  refine Y_sld C S hX hbl hi.2.1.2.1 hi.2.1.1 hi.2.1.2.2 dL_law_2611 ?_
  refine lv_aload_n C.1 C.2.1 dL_law_2612 rfl (lv_at hl 0 rfl) ?_
  refine lv_iload C.1 C.2.1 dL_law_2613 (lv_at hl 5 rfl) ?_
  refine lv_iconst (v := 2) C.1 C.2.1 dL_law_2615 (by decide) ?_
  refine lv_iadd C.1 C.2.1 dL_law_2616 ?_
  refine Y_sld C S hX hbl hi.2.2.1.2.1 hi.2.2.1.1 hi.2.2.1.2.2 dL_law_2617 ?_
  refine Y_c1I (r := r) (ρ' := ρ') (As := [.int (xs (i + 1)), .int (xs (i + 2))]) C F S rfl (m_X8_waitsWithin l G (Y_Mo m0) ρ (xs (i + 1)) (xs (i + 2)) r ρ' e8 _) kv_X8_waitsWithin tw_8_101 ⟨(Nat.le_of_ble_eq_true rfl), (Nat.le_of_ble_eq_true rfl)⟩ rfl rfl (Nat.le_of_ble_eq_true rfl) hl.1 ⟨by show cells + 0 ≤ 601024; omega, by show slots + 0 ≤ 7293034; omega⟩ dL_law_2618 (fun H locs S => ?_)
  refine lv_icmp_eq (tgt := 3150) C.1 C.2.1 dL_law_2621 (by decide) (fun _ => ?_) (fun c9 => absurd rfl c9)
  exact W.widen (k := cells + 4) (n := slots + 24) (by omega) (by omega) (hk _ _ _ _ _ _ _ hR' S (lv_sub hl [0, 1, 2, 3, 4, 5] rfl))
theorem dL_law_2626 : decode cL_law 2626 = .ok (.aload_n 1, 1) := by decide +kernel
theorem dL_law_2627 : decode cL_law 2627 = .ok (.invokevirtual 302, 3) := by decide +kernel
theorem dL_law_2630 : decode cL_law 2630 = .ok (.aload_n 2, 1) := by decide +kernel
theorem dL_law_2631 : decode cL_law 2631 = .ok (.invokevirtual 305, 3) := by decide +kernel
theorem dL_law_2634 : decode cL_law 2634 = .ok (.if_icmp .eq 516, 3) := by decide +kernel
theorem dL_law_2637 : decode cL_law 2637 = .ok (.iconst 0, 1) := by decide +kernel
theorem dL_law_2638 : decode cL_law 2638 = .ok (.ireturn, 1) := by decide +kernel
set_option maxHeartbeats 4000000 in
set_option maxRecDepth 100000 in
theorem w_law_mostRounds {p : Program} {l : Launch} {e : Env} {s : State} {m : MethodId} {below : List Frame} {meth : Method} {c : Code} {G : Gx} {b L i n0 m0 aL aD : Nat} {xs : Nat → Int32} {iv : Int32} {cL cD : ClassId} {cells slots : Nat} {Rel : Nat → Sg → Sg → Prop} {nn : Nat} {Q : State → Prop} (hnn9 : nn < 600) (hst : l.stackTraces = false) (C : Cx p s m #[.ref b] meth c RL code 10 ret G) (F : Y_F G s n0 m0 aL aD cL cD) (hX : va_X b L xs s s.heap) (hbl : b < s.heap.size) (hi : Y_I iv i L) (hc : cells + 4 ≤ 601024) (hs : slots + 24 ≤ 7293034) (hE : E_mostRounds Rel)
    (hk : ∀ (σ ρ : Sg) (v : Int64) (w : UInt64) (H : Heap) (locs : List Loc) (ls : Array Slot), Rel (nn + 1) σ ρ → Y_S G s n0 m0 aL aD cL cD σ ρ v w H locs → lv_has ls 10 [(0, .ref b), (1, .ref n0), (2, .ref m0), (3, .ref aL), (4, .ref aD), (5, .int iv)] → W p l e room_1 s m #[.ref b] below meth c H locs (cells + 4) (slots + 24) Q (F0 m 3150 ls [])) :
    ∀ (σ ρ : Sg) (v : Int64) (w : UInt64) (H : Heap) (locs : List Loc) (ls : Array Slot), Rel nn σ ρ → Y_S G s n0 m0 aL aD cL cD σ ρ v w H locs → lv_has ls 10 [(0, .ref b), (1, .ref n0), (2, .ref m0), (3, .ref aL), (4, .ref aD), (5, .int iv)] → W p l e room_1 s m #[.ref b] below meth c H locs cells slots Q (F0 m 2626 ls []) := by
  intro σ ρ v w H locs ls hR S hl
  obtain ⟨r, σ', ρ', e7, e8, hR'⟩ := hE nn σ ρ  hnn9 hR 
  refine lv_aload_n C.1 C.2.1 dL_law_2626 rfl (lv_at hl 1 rfl) ?_
  refine Y_c0I (r := r) (σ' := σ') (As := []) C F S rfl (m_X7_mostRounds l G (Y_X n0) σ  r σ' e7 _) kv_X7_mostRounds tw_3_187 ⟨(Nat.le_of_ble_eq_true rfl), (Nat.le_of_ble_eq_true rfl)⟩ rfl rfl (Nat.le_of_ble_eq_true rfl) hl.1 ⟨by show cells + 0 ≤ 601024; omega, by show slots + 0 ≤ 7293034; omega⟩ dL_law_2627 (fun H locs S => ?_)
  refine lv_aload_n C.1 C.2.1 dL_law_2630 rfl (lv_at hl 2 rfl) ?_
  refine Y_c1I (r := r) (ρ' := ρ') (As := []) C F S rfl (m_X8_mostRounds l G (Y_Mo m0) ρ  r ρ' e8 _) kv_X8_mostRounds tw_8_105 ⟨(Nat.le_of_ble_eq_true rfl), (Nat.le_of_ble_eq_true rfl)⟩ rfl rfl (Nat.le_of_ble_eq_true rfl) hl.1 ⟨by show cells + 0 ≤ 601024; omega, by show slots + 0 ≤ 7293034; omega⟩ dL_law_2631 (fun H locs S => ?_)
  refine lv_icmp_eq (tgt := 3150) C.1 C.2.1 dL_law_2634 (by decide) (fun _ => ?_) (fun c9 => absurd rfl c9)
  exact W.widen (k := cells + 4) (n := slots + 24) (by omega) (by omega) (hk _ _ _ _ _ _ _ hR' S (lv_sub hl [0, 1, 2, 3, 4, 5] rfl))
theorem dL_law_2639 : decode cL_law 2639 = .ok (.aload_n 1, 1) := by decide +kernel
theorem dL_law_2640 : decode cL_law 2640 = .ok (.aload_n 0, 1) := by decide +kernel
theorem dL_law_2641 : decode cL_law 2641 = .ok (.iload 5, 2) := by decide +kernel
theorem dL_law_2643 : decode cL_law 2643 = .ok (.iconst 1, 1) := by decide +kernel
theorem dL_law_2644 : decode cL_law 2644 = .ok (.iadd, 1) := by decide +kernel
theorem dL_law_2645 : decode cL_law 2645 = .ok (.iaload, 1) := by decide +kernel
theorem dL_law_2646 : decode cL_law 2646 = .ok (.aload_n 0, 1) := by decide +kernel
theorem dL_law_2647 : decode cL_law 2647 = .ok (.iload 5, 2) := by decide +kernel
theorem dL_law_2649 : decode cL_law 2649 = .ok (.iconst 2, 1) := by decide +kernel
theorem dL_law_2650 : decode cL_law 2650 = .ok (.iadd, 1) := by decide +kernel
theorem dL_law_2651 : decode cL_law 2651 = .ok (.iaload, 1) := by decide +kernel
theorem dL_law_2652 : decode cL_law 2652 = .ok (.aload_n 3, 1) := by decide +kernel
theorem dL_law_2653 : decode cL_law 2653 = .ok (.invokestatic 306, 3) := by decide +kernel
theorem dL_law_2656 : decode cL_law 2656 = .ok (.istore 6, 2) := by decide +kernel
theorem dL_law_2658 : decode cL_law 2658 = .ok (.aload_n 2, 1) := by decide +kernel
theorem dL_law_2659 : decode cL_law 2659 = .ok (.aload_n 0, 1) := by decide +kernel
theorem dL_law_2660 : decode cL_law 2660 = .ok (.iload 5, 2) := by decide +kernel
theorem dL_law_2662 : decode cL_law 2662 = .ok (.iconst 1, 1) := by decide +kernel
theorem dL_law_2663 : decode cL_law 2663 = .ok (.iadd, 1) := by decide +kernel
theorem dL_law_2664 : decode cL_law 2664 = .ok (.iaload, 1) := by decide +kernel
theorem dL_law_2665 : decode cL_law 2665 = .ok (.aload_n 0, 1) := by decide +kernel
theorem dL_law_2666 : decode cL_law 2666 = .ok (.iload 5, 2) := by decide +kernel
theorem dL_law_2668 : decode cL_law 2668 = .ok (.iconst 2, 1) := by decide +kernel
theorem dL_law_2669 : decode cL_law 2669 = .ok (.iadd, 1) := by decide +kernel
theorem dL_law_2670 : decode cL_law 2670 = .ok (.iaload, 1) := by decide +kernel
theorem dL_law_2671 : decode cL_law 2671 = .ok (.invokevirtual 308, 3) := by decide +kernel
theorem dL_law_2674 : decode cL_law 2674 = .ok (.istore 7, 2) := by decide +kernel
theorem dL_law_2676 : decode cL_law 2676 = .ok (.aload_n 2, 1) := by decide +kernel
theorem dL_law_2677 : decode cL_law 2677 = .ok (.invokevirtual 169, 3) := by decide +kernel
theorem dL_law_2680 : decode cL_law 2680 = .ok (.iload 6, 2) := by decide +kernel
theorem dL_law_2682 : decode cL_law 2682 = .ok (.if_icmp .eq 5, 3) := by decide +kernel
theorem dL_law_2685 : decode cL_law 2685 = .ok (.iconst 0, 1) := by decide +kernel
theorem dL_law_2686 : decode cL_law 2686 = .ok (.ireturn, 1) := by decide +kernel
theorem dL_law_2687 : decode cL_law 2687 = .ok (.iload 6, 2) := by decide +kernel
theorem dL_law_2689 : decode cL_law 2689 = .ok (.ifCond .ne 15, 3) := by decide +kernel
theorem dL_law_2692 : decode cL_law 2692 = .ok (.aload_n 3, 1) := by decide +kernel
theorem dL_law_2693 : decode cL_law 2693 = .ok (.iconst 0, 1) := by decide +kernel
theorem dL_law_2694 : decode cL_law 2694 = .ok (.laload, 1) := by decide +kernel
theorem dL_law_2695 : decode cL_law 2695 = .ok (.iload 7, 2) := by decide +kernel
theorem dL_law_2697 : decode cL_law 2697 = .ok (.i2l, 1) := by decide +kernel
theorem dL_law_2698 : decode cL_law 2698 = .ok (.lcmp, 1) := by decide +kernel
theorem dL_law_2699 : decode cL_law 2699 = .ok (.ifCond .eq 5, 3) := by decide +kernel
theorem dL_law_2702 : decode cL_law 2702 = .ok (.iconst 0, 1) := by decide +kernel
theorem dL_law_2703 : decode cL_law 2703 = .ok (.ireturn, 1) := by decide +kernel
theorem dL_law_2704 : decode cL_law 2704 = .ok (.goto 446, 3) := by decide +kernel
set_option maxHeartbeats 4000000 in
set_option maxRecDepth 100000 in
theorem w_law_aboardIn {p : Program} {l : Launch} {e : Env} {s : State} {m : MethodId} {below : List Frame} {meth : Method} {c : Code} {G : Gx} {b L i n0 m0 aL aD : Nat} {xs : Nat → Int32} {iv : Int32} {cL cD : ClassId} {cells slots : Nat} {Rel : Nat → Sg → Sg → Prop} {nn : Nat} {Q : State → Prop} (hnn9 : nn < 600) (hst : l.stackTraces = false) (C : Cx p s m #[.ref b] meth c RL code 10 ret G) (F : Y_F G s n0 m0 aL aD cL cD) (hX : va_X b L xs s s.heap) (hbl : b < s.heap.size) (hi : Y_I iv i L) (hc : cells + 4 ≤ 601024) (hs : slots + 24 ≤ 7293034) (hE : E_aboardIn Rel)
    (hk : ∀ (σ ρ : Sg) (v : Int64) (w : UInt64) (H : Heap) (locs : List Loc) (ls : Array Slot), Rel (nn + 1) σ ρ → Y_S G s n0 m0 aL aD cL cD σ ρ v w H locs → lv_has ls 10 [(0, .ref b), (1, .ref n0), (2, .ref m0), (3, .ref aL), (4, .ref aD), (5, .int iv)] → W p l e room_1 s m #[.ref b] below meth c H locs (cells + 4) (slots + 24) Q (F0 m 3150 ls [])) :
    ∀ (σ ρ : Sg) (v : Int64) (w : UInt64) (H : Heap) (locs : List Loc) (ls : Array Slot), Rel nn σ ρ → Y_S G s n0 m0 aL aD cL cD σ ρ v w H locs → lv_has ls 10 [(0, .ref b), (1, .ref n0), (2, .ref m0), (3, .ref aL), (4, .ref aD), (5, .int iv)] → W p l e room_1 s m #[.ref b] below meth c H locs cells slots Q (F0 m 2639 ls []) := by
  intro σ ρ v w H locs ls hR S hl
  obtain ⟨q, wq, ρ', e7, hq, e8, hR', hth, hval⟩ := hE nn σ ρ (xs (i + 1)) (xs (i + 2)) hnn9 hR 
  refine lv_aload_n C.1 C.2.1 dL_law_2639 rfl (lv_at hl 1 rfl) ?_
  refine lv_aload_n C.1 C.2.1 dL_law_2640 rfl (lv_at hl 0 rfl) ?_
  refine lv_iload C.1 C.2.1 dL_law_2641 (lv_at hl 5 rfl) ?_
  refine lv_iconst (v := 1) C.1 C.2.1 dL_law_2643 (by decide) ?_
  refine lv_iadd C.1 C.2.1 dL_law_2644 ?_
  refine Y_sld C S hX hbl hi.2.1.2.1 hi.2.1.1 hi.2.1.2.2 dL_law_2645 ?_
  refine lv_aload_n C.1 C.2.1 dL_law_2646 rfl (lv_at hl 0 rfl) ?_
  refine lv_iload C.1 C.2.1 dL_law_2647 (lv_at hl 5 rfl) ?_
  refine lv_iconst (v := 2) C.1 C.2.1 dL_law_2649 (by decide) ?_
  refine lv_iadd C.1 C.2.1 dL_law_2650 ?_
  refine Y_sld C S hX hbl hi.2.2.1.2.1 hi.2.2.1.1 hi.2.2.1.2.2 dL_law_2651 ?_
  refine lv_aload_n C.1 C.2.1 dL_law_2652 rfl (lv_at hl 3 rfl) ?_
  have hM := m_L_aboardIn l hst G (Y_X n0) σ (xs (i + 1)) (xs (i + 2)) q e7 hq cL aL v H.size
  rw [show (if q.1 = 0 then (Sum.inl q.2.1.toInt64 : Int64 ⊕ UInt64) else Sum.inl v) = Sum.inl (if q.1 = 0 then q.2.1.toInt64 else v) by split <;> rfl] at hM
  refine Y_wL (n := 4) (As := [.ref n0, .int (xs (i + 1)), .int (xs (i + 2)), .ref aL]) C F S hM (tt_6 (List.mem_of_getElem? (i := 25) (by decide +kernel)) (by decide +kernel)) tw_6_24 tw_1_0 ⟨by decide, by decide, by decide +kernel⟩ tw_6_23 ⟨(Nat.le_of_ble_eq_true rfl), (Nat.le_of_ble_eq_true rfl)⟩ rfl rfl (Nat.le_of_ble_eq_true rfl) hl.1 ⟨by show cells + 2 ≤ 601024; omega, by show slots + 12 ≤ 7293034; omega⟩ dL_law_2653 (fun H locs S => ?_)
  refine lv_istore (lv' := [(6, .int (L_k [(1, 1), (2, 2)] q.1)), (0, .ref b), (1, .ref n0), (2, .ref m0), (3, .ref aL), (4, .ref aD), (5, .int iv)]) C.1 C.2.1 dL_law_2656 hl (by decide) rfl (fun ls hl => ?_)
  refine lv_aload_n C.1 C.2.1 dL_law_2658 rfl (lv_at hl 3 rfl) ?_
  refine lv_aload_n C.1 C.2.1 dL_law_2659 rfl (lv_at hl 1 rfl) ?_
  refine lv_iload C.1 C.2.1 dL_law_2660 (lv_at hl 6 rfl) ?_
  refine lv_iconst (v := 1) C.1 C.2.1 dL_law_2662 (by decide) ?_
  refine lv_iadd C.1 C.2.1 dL_law_2663 ?_
  refine Y_sld C S hX hbl hi.2.1.2.1 hi.2.1.1 hi.2.1.2.2 dL_law_2664 ?_
  refine lv_aload_n C.1 C.2.1 dL_law_2665 rfl (lv_at hl 1 rfl) ?_
  refine lv_iload C.1 C.2.1 dL_law_2666 (lv_at hl 6 rfl) ?_
  refine lv_iconst (v := 2) C.1 C.2.1 dL_law_2668 (by decide) ?_
  refine lv_iadd C.1 C.2.1 dL_law_2669 ?_
  refine Y_sld C S hX hbl hi.2.2.1.2.1 hi.2.2.1.1 hi.2.2.1.2.2 dL_law_2670 ?_
  refine Y_c1I (r := wq) (ρ' := ρ') (As := [.int (xs (i + 1)), .int (xs (i + 2))]) C F S rfl (m_X8_aboardIn l G (Y_Mo m0) ρ (xs (i + 1)) (xs (i + 2)) wq ρ' e8 _) kv_X8_aboardIn tw_8_149 ⟨(Nat.le_of_ble_eq_true rfl), (Nat.le_of_ble_eq_true rfl)⟩ rfl rfl (Nat.le_of_ble_eq_true rfl) hl.1 ⟨by show cells + 2 ≤ 601024; omega, by show slots + 12 ≤ 7293034; omega⟩ dL_law_2671 (fun H locs S => ?_)
  refine lv_istore (lv' := [(7, .int wq), (6, .int (L_k [(1, 1), (2, 2)] q.1)), (0, .ref b), (1, .ref n0), (2, .ref m0), (3, .ref aL), (4, .ref aD), (5, .int iv)]) C.1 C.2.1 dL_law_2674 hl (by decide) rfl (fun ls hl => ?_)
  refine lv_aload_n C.1 C.2.1 dL_law_2676 rfl (lv_at hl 4 rfl) ?_
  refine Y_c1I (r := ρ' 8 0 8) (ρ' := ρ') C F S rfl (As := []) (m_X8_thrown l G _ ρ' _ _ rfl _) kv_X8_thrown tw_6_188 ⟨(Nat.le_of_ble_eq_true rfl), (Nat.le_of_ble_eq_true rfl)⟩ rfl rfl (Nat.le_of_ble_eq_true rfl) hl.1 ⟨by show cells + 2 ≤ 601024; omega, by show slots + 12 ≤ 7293034; omega⟩ dL_law_2677 (fun H locs S => ?_)
  refine lv_iload C.1 C.2.1 dL_law_2680 (lv_at hl 1 rfl) ?_
  refine lv_icmp_eq (tgt := 2687) C.1 C.2.1 dL_law_2682 (by decide) (fun _ => ?_) (fun c9 => absurd hth c9)
  refine lv_iload C.1 C.2.1 dL_law_2687 (lv_at hl 1 rfl) ?_
  refine lv_if_ne (tgt := 2704) C.1 C.2.1 dL_law_2689 (by decide) (fun c9 => ?_) (fun c9 => ?_)
  · refine lv_goto (tgt := 3150) C.1 C.2.1 dL_law_2704 (by decide) ?_
    exact W.widen (k := cells + 4) (n := slots + 24) (by omega) (by omega) (hk _ _ _ _ _ _ _ hR' S (lv_sub hl [2, 3, 4, 5, 6, 7] rfl))
  have h0 : q.1 = 0 := by
    rcases hq with h | h | h
    · exact h
    · rw [h] at c9; exact absurd c9 (by decide)
    · rw [h] at c9; exact absurd c9 (by decide)
  rw [if_pos h0, hval h0] at S
  refine lv_aload_n C.1 C.2.1 dL_law_2692 rfl (lv_at hl 5 rfl) ?_
  refine lv_iconst (v := 0) C.1 C.2.1 dL_law_2693 (by decide) ?_
  refine Y_lald C F S dL_law_2694 ?_
  refine lv_iload C.1 C.2.1 dL_law_2695 (lv_at hl 0 rfl) ?_
  refine lv_i2l C.1 C.2.1 dL_law_2697 rfl ?_
  refine W.lcmp C.1 C.2.1 dL_law_2698 ?_
  refine lv_if_eq (tgt := 2704) C.1 C.2.1 dL_law_2699 (by decide) (fun _ => ?_) (fun c9 => absurd (Y_cmp _) c9)
  refine lv_goto (tgt := 3150) C.1 C.2.1 dL_law_2704 (by decide) ?_
  exact W.widen (k := cells + 4) (n := slots + 24) (by omega) (by omega) (hk _ _ _ _ _ _ _ hR' S (lv_sub hl [2, 3, 4, 5, 6, 7] rfl))
theorem dL_law_2707 : decode cL_law 2707 = .ok (.aload_n 1, 1) := by decide +kernel
theorem dL_law_2708 : decode cL_law 2708 = .ok (.aload_n 0, 1) := by decide +kernel
theorem dL_law_2709 : decode cL_law 2709 = .ok (.iload 5, 2) := by decide +kernel
theorem dL_law_2711 : decode cL_law 2711 = .ok (.iconst 1, 1) := by decide +kernel
theorem dL_law_2712 : decode cL_law 2712 = .ok (.iadd, 1) := by decide +kernel
theorem dL_law_2713 : decode cL_law 2713 = .ok (.iaload, 1) := by decide +kernel
theorem dL_law_2714 : decode cL_law 2714 = .ok (.aload_n 3, 1) := by decide +kernel
theorem dL_law_2715 : decode cL_law 2715 = .ok (.invokestatic 309, 3) := by decide +kernel
theorem dL_law_2718 : decode cL_law 2718 = .ok (.istore 6, 2) := by decide +kernel
theorem dL_law_2720 : decode cL_law 2720 = .ok (.aload_n 2, 1) := by decide +kernel
theorem dL_law_2721 : decode cL_law 2721 = .ok (.aload_n 0, 1) := by decide +kernel
theorem dL_law_2722 : decode cL_law 2722 = .ok (.iload 5, 2) := by decide +kernel
theorem dL_law_2724 : decode cL_law 2724 = .ok (.iconst 1, 1) := by decide +kernel
theorem dL_law_2725 : decode cL_law 2725 = .ok (.iadd, 1) := by decide +kernel
theorem dL_law_2726 : decode cL_law 2726 = .ok (.iaload, 1) := by decide +kernel
theorem dL_law_2727 : decode cL_law 2727 = .ok (.invokevirtual 311, 3) := by decide +kernel
theorem dL_law_2730 : decode cL_law 2730 = .ok (.istore 7, 2) := by decide +kernel
theorem dL_law_2732 : decode cL_law 2732 = .ok (.aload_n 2, 1) := by decide +kernel
theorem dL_law_2733 : decode cL_law 2733 = .ok (.invokevirtual 169, 3) := by decide +kernel
theorem dL_law_2736 : decode cL_law 2736 = .ok (.iload 6, 2) := by decide +kernel
theorem dL_law_2738 : decode cL_law 2738 = .ok (.if_icmp .eq 5, 3) := by decide +kernel
theorem dL_law_2741 : decode cL_law 2741 = .ok (.iconst 0, 1) := by decide +kernel
theorem dL_law_2742 : decode cL_law 2742 = .ok (.ireturn, 1) := by decide +kernel
theorem dL_law_2743 : decode cL_law 2743 = .ok (.iload 6, 2) := by decide +kernel
theorem dL_law_2745 : decode cL_law 2745 = .ok (.ifCond .ne 15, 3) := by decide +kernel
theorem dL_law_2748 : decode cL_law 2748 = .ok (.aload_n 3, 1) := by decide +kernel
theorem dL_law_2749 : decode cL_law 2749 = .ok (.iconst 0, 1) := by decide +kernel
theorem dL_law_2750 : decode cL_law 2750 = .ok (.laload, 1) := by decide +kernel
theorem dL_law_2751 : decode cL_law 2751 = .ok (.iload 7, 2) := by decide +kernel
theorem dL_law_2753 : decode cL_law 2753 = .ok (.i2l, 1) := by decide +kernel
theorem dL_law_2754 : decode cL_law 2754 = .ok (.lcmp, 1) := by decide +kernel
theorem dL_law_2755 : decode cL_law 2755 = .ok (.ifCond .eq 5, 3) := by decide +kernel
theorem dL_law_2758 : decode cL_law 2758 = .ok (.iconst 0, 1) := by decide +kernel
theorem dL_law_2759 : decode cL_law 2759 = .ok (.ireturn, 1) := by decide +kernel
theorem dL_law_2760 : decode cL_law 2760 = .ok (.goto 390, 3) := by decide +kernel
set_option maxHeartbeats 4000000 in
set_option maxRecDepth 100000 in
theorem w_law_doneIn {p : Program} {l : Launch} {e : Env} {s : State} {m : MethodId} {below : List Frame} {meth : Method} {c : Code} {G : Gx} {b L i n0 m0 aL aD : Nat} {xs : Nat → Int32} {iv : Int32} {cL cD : ClassId} {cells slots : Nat} {Rel : Nat → Sg → Sg → Prop} {nn : Nat} {Q : State → Prop} (hnn9 : nn < 600) (hst : l.stackTraces = false) (C : Cx p s m #[.ref b] meth c RL code 10 ret G) (F : Y_F G s n0 m0 aL aD cL cD) (hX : va_X b L xs s s.heap) (hbl : b < s.heap.size) (hi : Y_I iv i L) (hc : cells + 4 ≤ 601024) (hs : slots + 24 ≤ 7293034) (hE : E_doneIn Rel)
    (hk : ∀ (σ ρ : Sg) (v : Int64) (w : UInt64) (H : Heap) (locs : List Loc) (ls : Array Slot), Rel (nn + 1) σ ρ → Y_S G s n0 m0 aL aD cL cD σ ρ v w H locs → lv_has ls 10 [(0, .ref b), (1, .ref n0), (2, .ref m0), (3, .ref aL), (4, .ref aD), (5, .int iv)] → W p l e room_1 s m #[.ref b] below meth c H locs (cells + 4) (slots + 24) Q (F0 m 3150 ls [])) :
    ∀ (σ ρ : Sg) (v : Int64) (w : UInt64) (H : Heap) (locs : List Loc) (ls : Array Slot), Rel nn σ ρ → Y_S G s n0 m0 aL aD cL cD σ ρ v w H locs → lv_has ls 10 [(0, .ref b), (1, .ref n0), (2, .ref m0), (3, .ref aL), (4, .ref aD), (5, .int iv)] → W p l e room_1 s m #[.ref b] below meth c H locs cells slots Q (F0 m 2707 ls []) := by
  intro σ ρ v w H locs ls hR S hl
  obtain ⟨q, wq, ρ', e7, hq, e8, hR', hth, hval⟩ := hE nn σ ρ (xs (i + 1)) hnn9 hR 
  refine lv_aload_n C.1 C.2.1 dL_law_2707 rfl (lv_at hl 1 rfl) ?_
  refine lv_aload_n C.1 C.2.1 dL_law_2708 rfl (lv_at hl 0 rfl) ?_
  refine lv_iload C.1 C.2.1 dL_law_2709 (lv_at hl 5 rfl) ?_
  refine lv_iconst (v := 1) C.1 C.2.1 dL_law_2711 (by decide) ?_
  refine lv_iadd C.1 C.2.1 dL_law_2712 ?_
  refine Y_sld C S hX hbl hi.2.1.2.1 hi.2.1.1 hi.2.1.2.2 dL_law_2713 ?_
  refine lv_aload_n C.1 C.2.1 dL_law_2714 rfl (lv_at hl 3 rfl) ?_
  have hM := m_L_doneIn l hst G (Y_X n0) σ (xs (i + 1)) q e7 hq cL aL v H.size
  rw [show (if q.1 = 0 then (Sum.inl q.2.1.toInt64 : Int64 ⊕ UInt64) else Sum.inl v) = Sum.inl (if q.1 = 0 then q.2.1.toInt64 else v) by split <;> rfl] at hM
  refine Y_wL (n := 3) (As := [.ref n0, .int (xs (i + 1)), .ref aL]) C F S hM (tt_6 (List.mem_of_getElem? (i := 37) (by decide +kernel)) (by decide +kernel)) tw_6_36 tw_1_0 ⟨by decide, by decide, by decide +kernel⟩ tw_6_35 ⟨(Nat.le_of_ble_eq_true rfl), (Nat.le_of_ble_eq_true rfl)⟩ rfl rfl (Nat.le_of_ble_eq_true rfl) hl.1 ⟨by show cells + 1 ≤ 601024; omega, by show slots + 6 ≤ 7293034; omega⟩ dL_law_2715 (fun H locs S => ?_)
  refine lv_istore (lv' := [(6, .int (L_k [(2, 1)] q.1)), (0, .ref b), (1, .ref n0), (2, .ref m0), (3, .ref aL), (4, .ref aD), (5, .int iv)]) C.1 C.2.1 dL_law_2718 hl (by decide) rfl (fun ls hl => ?_)
  refine lv_aload_n C.1 C.2.1 dL_law_2720 rfl (lv_at hl 3 rfl) ?_
  refine lv_aload_n C.1 C.2.1 dL_law_2721 rfl (lv_at hl 1 rfl) ?_
  refine lv_iload C.1 C.2.1 dL_law_2722 (lv_at hl 6 rfl) ?_
  refine lv_iconst (v := 1) C.1 C.2.1 dL_law_2724 (by decide) ?_
  refine lv_iadd C.1 C.2.1 dL_law_2725 ?_
  refine Y_sld C S hX hbl hi.2.1.2.1 hi.2.1.1 hi.2.1.2.2 dL_law_2726 ?_
  refine Y_c1I (r := wq) (ρ' := ρ') (As := [.int (xs (i + 1))]) C F S rfl (m_X8_doneIn l G (Y_Mo m0) ρ (xs (i + 1)) wq ρ' e8 _) kv_X8_doneIn tw_8_161 ⟨(Nat.le_of_ble_eq_true rfl), (Nat.le_of_ble_eq_true rfl)⟩ rfl rfl (Nat.le_of_ble_eq_true rfl) hl.1 ⟨by show cells + 1 ≤ 601024; omega, by show slots + 6 ≤ 7293034; omega⟩ dL_law_2727 (fun H locs S => ?_)
  refine lv_istore (lv' := [(7, .int wq), (6, .int (L_k [(2, 1)] q.1)), (0, .ref b), (1, .ref n0), (2, .ref m0), (3, .ref aL), (4, .ref aD), (5, .int iv)]) C.1 C.2.1 dL_law_2730 hl (by decide) rfl (fun ls hl => ?_)
  refine lv_aload_n C.1 C.2.1 dL_law_2732 rfl (lv_at hl 4 rfl) ?_
  refine Y_c1I (r := ρ' 8 0 8) (ρ' := ρ') C F S rfl (As := []) (m_X8_thrown l G _ ρ' _ _ rfl _) kv_X8_thrown tw_6_188 ⟨(Nat.le_of_ble_eq_true rfl), (Nat.le_of_ble_eq_true rfl)⟩ rfl rfl (Nat.le_of_ble_eq_true rfl) hl.1 ⟨by show cells + 1 ≤ 601024; omega, by show slots + 6 ≤ 7293034; omega⟩ dL_law_2733 (fun H locs S => ?_)
  refine lv_iload C.1 C.2.1 dL_law_2736 (lv_at hl 1 rfl) ?_
  refine lv_icmp_eq (tgt := 2743) C.1 C.2.1 dL_law_2738 (by decide) (fun _ => ?_) (fun c9 => absurd hth c9)
  refine lv_iload C.1 C.2.1 dL_law_2743 (lv_at hl 1 rfl) ?_
  refine lv_if_ne (tgt := 2760) C.1 C.2.1 dL_law_2745 (by decide) (fun c9 => ?_) (fun c9 => ?_)
  · refine lv_goto (tgt := 3150) C.1 C.2.1 dL_law_2760 (by decide) ?_
    exact W.widen (k := cells + 4) (n := slots + 24) (by omega) (by omega) (hk _ _ _ _ _ _ _ hR' S (lv_sub hl [2, 3, 4, 5, 6, 7] rfl))
  have h0 : q.1 = 0 := by
    rcases hq with h | h
    · exact h
    · rw [h] at c9; exact absurd c9 (by decide)
  rw [if_pos h0, hval h0] at S
  refine lv_aload_n C.1 C.2.1 dL_law_2748 rfl (lv_at hl 5 rfl) ?_
  refine lv_iconst (v := 0) C.1 C.2.1 dL_law_2749 (by decide) ?_
  refine Y_lald C F S dL_law_2750 ?_
  refine lv_iload C.1 C.2.1 dL_law_2751 (lv_at hl 0 rfl) ?_
  refine lv_i2l C.1 C.2.1 dL_law_2753 rfl ?_
  refine W.lcmp C.1 C.2.1 dL_law_2754 ?_
  refine lv_if_eq (tgt := 2760) C.1 C.2.1 dL_law_2755 (by decide) (fun _ => ?_) (fun c9 => absurd (Y_cmp _) c9)
  refine lv_goto (tgt := 3150) C.1 C.2.1 dL_law_2760 (by decide) ?_
  exact W.widen (k := cells + 4) (n := slots + 24) (by omega) (by omega) (hk _ _ _ _ _ _ _ hR' S (lv_sub hl [2, 3, 4, 5, 6, 7] rfl))
theorem dL_law_2763 : decode cL_law 2763 = .ok (.aload_n 1, 1) := by decide +kernel
theorem dL_law_2764 : decode cL_law 2764 = .ok (.aload_n 0, 1) := by decide +kernel
theorem dL_law_2765 : decode cL_law 2765 = .ok (.iload 5, 2) := by decide +kernel
theorem dL_law_2767 : decode cL_law 2767 = .ok (.iconst 1, 1) := by decide +kernel
theorem dL_law_2768 : decode cL_law 2768 = .ok (.iadd, 1) := by decide +kernel
theorem dL_law_2769 : decode cL_law 2769 = .ok (.iaload, 1) := by decide +kernel
theorem dL_law_2770 : decode cL_law 2770 = .ok (.aload_n 3, 1) := by decide +kernel
theorem dL_law_2771 : decode cL_law 2771 = .ok (.invokestatic 312, 3) := by decide +kernel
theorem dL_law_2774 : decode cL_law 2774 = .ok (.istore 6, 2) := by decide +kernel
theorem dL_law_2776 : decode cL_law 2776 = .ok (.aload_n 2, 1) := by decide +kernel
theorem dL_law_2777 : decode cL_law 2777 = .ok (.aload_n 0, 1) := by decide +kernel
theorem dL_law_2778 : decode cL_law 2778 = .ok (.iload 5, 2) := by decide +kernel
theorem dL_law_2780 : decode cL_law 2780 = .ok (.iconst 1, 1) := by decide +kernel
theorem dL_law_2781 : decode cL_law 2781 = .ok (.iadd, 1) := by decide +kernel
theorem dL_law_2782 : decode cL_law 2782 = .ok (.iaload, 1) := by decide +kernel
theorem dL_law_2783 : decode cL_law 2783 = .ok (.invokevirtual 314, 3) := by decide +kernel
theorem dL_law_2786 : decode cL_law 2786 = .ok (.istore 7, 2) := by decide +kernel
theorem dL_law_2788 : decode cL_law 2788 = .ok (.aload_n 2, 1) := by decide +kernel
theorem dL_law_2789 : decode cL_law 2789 = .ok (.invokevirtual 169, 3) := by decide +kernel
theorem dL_law_2792 : decode cL_law 2792 = .ok (.iload 6, 2) := by decide +kernel
theorem dL_law_2794 : decode cL_law 2794 = .ok (.if_icmp .eq 5, 3) := by decide +kernel
theorem dL_law_2797 : decode cL_law 2797 = .ok (.iconst 0, 1) := by decide +kernel
theorem dL_law_2798 : decode cL_law 2798 = .ok (.ireturn, 1) := by decide +kernel
theorem dL_law_2799 : decode cL_law 2799 = .ok (.iload 6, 2) := by decide +kernel
theorem dL_law_2801 : decode cL_law 2801 = .ok (.ifCond .ne 15, 3) := by decide +kernel
theorem dL_law_2804 : decode cL_law 2804 = .ok (.aload_n 3, 1) := by decide +kernel
theorem dL_law_2805 : decode cL_law 2805 = .ok (.iconst 0, 1) := by decide +kernel
theorem dL_law_2806 : decode cL_law 2806 = .ok (.laload, 1) := by decide +kernel
theorem dL_law_2807 : decode cL_law 2807 = .ok (.iload 7, 2) := by decide +kernel
theorem dL_law_2809 : decode cL_law 2809 = .ok (.i2l, 1) := by decide +kernel
theorem dL_law_2810 : decode cL_law 2810 = .ok (.lcmp, 1) := by decide +kernel
theorem dL_law_2811 : decode cL_law 2811 = .ok (.ifCond .eq 5, 3) := by decide +kernel
theorem dL_law_2814 : decode cL_law 2814 = .ok (.iconst 0, 1) := by decide +kernel
theorem dL_law_2815 : decode cL_law 2815 = .ok (.ireturn, 1) := by decide +kernel
theorem dL_law_2816 : decode cL_law 2816 = .ok (.goto 334, 3) := by decide +kernel
set_option maxHeartbeats 4000000 in
set_option maxRecDepth 100000 in
theorem w_law_nobodyIn {p : Program} {l : Launch} {e : Env} {s : State} {m : MethodId} {below : List Frame} {meth : Method} {c : Code} {G : Gx} {b L i n0 m0 aL aD : Nat} {xs : Nat → Int32} {iv : Int32} {cL cD : ClassId} {cells slots : Nat} {Rel : Nat → Sg → Sg → Prop} {nn : Nat} {Q : State → Prop} (hnn9 : nn < 600) (hst : l.stackTraces = false) (C : Cx p s m #[.ref b] meth c RL code 10 ret G) (F : Y_F G s n0 m0 aL aD cL cD) (hX : va_X b L xs s s.heap) (hbl : b < s.heap.size) (hi : Y_I iv i L) (hc : cells + 4 ≤ 601024) (hs : slots + 24 ≤ 7293034) (hE : E_nobodyIn Rel)
    (hk : ∀ (σ ρ : Sg) (v : Int64) (w : UInt64) (H : Heap) (locs : List Loc) (ls : Array Slot), Rel (nn + 1) σ ρ → Y_S G s n0 m0 aL aD cL cD σ ρ v w H locs → lv_has ls 10 [(0, .ref b), (1, .ref n0), (2, .ref m0), (3, .ref aL), (4, .ref aD), (5, .int iv)] → W p l e room_1 s m #[.ref b] below meth c H locs (cells + 4) (slots + 24) Q (F0 m 3150 ls [])) :
    ∀ (σ ρ : Sg) (v : Int64) (w : UInt64) (H : Heap) (locs : List Loc) (ls : Array Slot), Rel nn σ ρ → Y_S G s n0 m0 aL aD cL cD σ ρ v w H locs → lv_has ls 10 [(0, .ref b), (1, .ref n0), (2, .ref m0), (3, .ref aL), (4, .ref aD), (5, .int iv)] → W p l e room_1 s m #[.ref b] below meth c H locs cells slots Q (F0 m 2763 ls []) := by
  intro σ ρ v w H locs ls hR S hl
  obtain ⟨q, wq, ρ', e7, hq, e8, hR', hth, hval⟩ := hE nn σ ρ (xs (i + 1)) hnn9 hR 
  refine lv_aload_n C.1 C.2.1 dL_law_2763 rfl (lv_at hl 1 rfl) ?_
  refine lv_aload_n C.1 C.2.1 dL_law_2764 rfl (lv_at hl 0 rfl) ?_
  refine lv_iload C.1 C.2.1 dL_law_2765 (lv_at hl 5 rfl) ?_
  refine lv_iconst (v := 1) C.1 C.2.1 dL_law_2767 (by decide) ?_
  refine lv_iadd C.1 C.2.1 dL_law_2768 ?_
  refine Y_sld C S hX hbl hi.2.1.2.1 hi.2.1.1 hi.2.1.2.2 dL_law_2769 ?_
  refine lv_aload_n C.1 C.2.1 dL_law_2770 rfl (lv_at hl 3 rfl) ?_
  have hM := m_L_nobodyIn l hst G (Y_X n0) σ (xs (i + 1)) q e7 hq cL aL v H.size
  rw [show (if q.1 = 0 then (Sum.inl q.2.1.toInt64 : Int64 ⊕ UInt64) else Sum.inl v) = Sum.inl (if q.1 = 0 then q.2.1.toInt64 else v) by split <;> rfl] at hM
  refine Y_wL (n := 3) (As := [.ref n0, .int (xs (i + 1)), .ref aL]) C F S hM (tt_6 (List.mem_of_getElem? (i := 53) (by decide +kernel)) (by decide +kernel)) tw_6_52 tw_1_0 ⟨by decide, by decide, by decide +kernel⟩ tw_6_51 ⟨(Nat.le_of_ble_eq_true rfl), (Nat.le_of_ble_eq_true rfl)⟩ rfl rfl (Nat.le_of_ble_eq_true rfl) hl.1 ⟨by show cells + 1 ≤ 601024; omega, by show slots + 6 ≤ 7293034; omega⟩ dL_law_2771 (fun H locs S => ?_)
  refine lv_istore (lv' := [(6, .int (L_k [(2, 1)] q.1)), (0, .ref b), (1, .ref n0), (2, .ref m0), (3, .ref aL), (4, .ref aD), (5, .int iv)]) C.1 C.2.1 dL_law_2774 hl (by decide) rfl (fun ls hl => ?_)
  refine lv_aload_n C.1 C.2.1 dL_law_2776 rfl (lv_at hl 3 rfl) ?_
  refine lv_aload_n C.1 C.2.1 dL_law_2777 rfl (lv_at hl 1 rfl) ?_
  refine lv_iload C.1 C.2.1 dL_law_2778 (lv_at hl 6 rfl) ?_
  refine lv_iconst (v := 1) C.1 C.2.1 dL_law_2780 (by decide) ?_
  refine lv_iadd C.1 C.2.1 dL_law_2781 ?_
  refine Y_sld C S hX hbl hi.2.1.2.1 hi.2.1.1 hi.2.1.2.2 dL_law_2782 ?_
  refine Y_c1I (r := wq) (ρ' := ρ') (As := [.int (xs (i + 1))]) C F S rfl (m_X8_nobodyIn l G (Y_Mo m0) ρ (xs (i + 1)) wq ρ' e8 _) kv_X8_nobodyIn tw_8_165 ⟨(Nat.le_of_ble_eq_true rfl), (Nat.le_of_ble_eq_true rfl)⟩ rfl rfl (Nat.le_of_ble_eq_true rfl) hl.1 ⟨by show cells + 1 ≤ 601024; omega, by show slots + 6 ≤ 7293034; omega⟩ dL_law_2783 (fun H locs S => ?_)
  refine lv_istore (lv' := [(7, .int wq), (6, .int (L_k [(2, 1)] q.1)), (0, .ref b), (1, .ref n0), (2, .ref m0), (3, .ref aL), (4, .ref aD), (5, .int iv)]) C.1 C.2.1 dL_law_2786 hl (by decide) rfl (fun ls hl => ?_)
  refine lv_aload_n C.1 C.2.1 dL_law_2788 rfl (lv_at hl 4 rfl) ?_
  refine Y_c1I (r := ρ' 8 0 8) (ρ' := ρ') C F S rfl (As := []) (m_X8_thrown l G _ ρ' _ _ rfl _) kv_X8_thrown tw_6_188 ⟨(Nat.le_of_ble_eq_true rfl), (Nat.le_of_ble_eq_true rfl)⟩ rfl rfl (Nat.le_of_ble_eq_true rfl) hl.1 ⟨by show cells + 1 ≤ 601024; omega, by show slots + 6 ≤ 7293034; omega⟩ dL_law_2789 (fun H locs S => ?_)
  refine lv_iload C.1 C.2.1 dL_law_2792 (lv_at hl 1 rfl) ?_
  refine lv_icmp_eq (tgt := 2799) C.1 C.2.1 dL_law_2794 (by decide) (fun _ => ?_) (fun c9 => absurd hth c9)
  refine lv_iload C.1 C.2.1 dL_law_2799 (lv_at hl 1 rfl) ?_
  refine lv_if_ne (tgt := 2816) C.1 C.2.1 dL_law_2801 (by decide) (fun c9 => ?_) (fun c9 => ?_)
  · refine lv_goto (tgt := 3150) C.1 C.2.1 dL_law_2816 (by decide) ?_
    exact W.widen (k := cells + 4) (n := slots + 24) (by omega) (by omega) (hk _ _ _ _ _ _ _ hR' S (lv_sub hl [2, 3, 4, 5, 6, 7] rfl))
  have h0 : q.1 = 0 := by
    rcases hq with h | h
    · exact h
    · rw [h] at c9; exact absurd c9 (by decide)
  rw [if_pos h0, hval h0] at S
  refine lv_aload_n C.1 C.2.1 dL_law_2804 rfl (lv_at hl 5 rfl) ?_
  refine lv_iconst (v := 0) C.1 C.2.1 dL_law_2805 (by decide) ?_
  refine Y_lald C F S dL_law_2806 ?_
  refine lv_iload C.1 C.2.1 dL_law_2807 (lv_at hl 0 rfl) ?_
  refine lv_i2l C.1 C.2.1 dL_law_2809 rfl ?_
  refine W.lcmp C.1 C.2.1 dL_law_2810 ?_
  refine lv_if_eq (tgt := 2816) C.1 C.2.1 dL_law_2811 (by decide) (fun _ => ?_) (fun c9 => absurd (Y_cmp _) c9)
  refine lv_goto (tgt := 3150) C.1 C.2.1 dL_law_2816 (by decide) ?_
  exact W.widen (k := cells + 4) (n := slots + 24) (by omega) (by omega) (hk _ _ _ _ _ _ _ hR' S (lv_sub hl [2, 3, 4, 5, 6, 7] rfl))
theorem dL_law_2819 : decode cL_law 2819 = .ok (.aload_n 1, 1) := by decide +kernel
theorem dL_law_2820 : decode cL_law 2820 = .ok (.aload_n 0, 1) := by decide +kernel
theorem dL_law_2821 : decode cL_law 2821 = .ok (.iload 5, 2) := by decide +kernel
theorem dL_law_2823 : decode cL_law 2823 = .ok (.iconst 1, 1) := by decide +kernel
theorem dL_law_2824 : decode cL_law 2824 = .ok (.iadd, 1) := by decide +kernel
theorem dL_law_2825 : decode cL_law 2825 = .ok (.iaload, 1) := by decide +kernel
theorem dL_law_2826 : decode cL_law 2826 = .ok (.aload_n 3, 1) := by decide +kernel
theorem dL_law_2827 : decode cL_law 2827 = .ok (.invokestatic 315, 3) := by decide +kernel
theorem dL_law_2830 : decode cL_law 2830 = .ok (.istore 6, 2) := by decide +kernel
theorem dL_law_2832 : decode cL_law 2832 = .ok (.aload_n 2, 1) := by decide +kernel
theorem dL_law_2833 : decode cL_law 2833 = .ok (.aload_n 0, 1) := by decide +kernel
theorem dL_law_2834 : decode cL_law 2834 = .ok (.iload 5, 2) := by decide +kernel
theorem dL_law_2836 : decode cL_law 2836 = .ok (.iconst 1, 1) := by decide +kernel
theorem dL_law_2837 : decode cL_law 2837 = .ok (.iadd, 1) := by decide +kernel
theorem dL_law_2838 : decode cL_law 2838 = .ok (.iaload, 1) := by decide +kernel
theorem dL_law_2839 : decode cL_law 2839 = .ok (.invokevirtual 317, 3) := by decide +kernel
theorem dL_law_2842 : decode cL_law 2842 = .ok (.istore 7, 2) := by decide +kernel
theorem dL_law_2844 : decode cL_law 2844 = .ok (.aload_n 2, 1) := by decide +kernel
theorem dL_law_2845 : decode cL_law 2845 = .ok (.invokevirtual 169, 3) := by decide +kernel
theorem dL_law_2848 : decode cL_law 2848 = .ok (.iload 6, 2) := by decide +kernel
theorem dL_law_2850 : decode cL_law 2850 = .ok (.if_icmp .eq 5, 3) := by decide +kernel
theorem dL_law_2853 : decode cL_law 2853 = .ok (.iconst 0, 1) := by decide +kernel
theorem dL_law_2854 : decode cL_law 2854 = .ok (.ireturn, 1) := by decide +kernel
theorem dL_law_2855 : decode cL_law 2855 = .ok (.iload 6, 2) := by decide +kernel
theorem dL_law_2857 : decode cL_law 2857 = .ok (.ifCond .ne 15, 3) := by decide +kernel
theorem dL_law_2860 : decode cL_law 2860 = .ok (.aload_n 3, 1) := by decide +kernel
theorem dL_law_2861 : decode cL_law 2861 = .ok (.iconst 0, 1) := by decide +kernel
theorem dL_law_2862 : decode cL_law 2862 = .ok (.laload, 1) := by decide +kernel
theorem dL_law_2863 : decode cL_law 2863 = .ok (.iload 7, 2) := by decide +kernel
theorem dL_law_2865 : decode cL_law 2865 = .ok (.i2l, 1) := by decide +kernel
theorem dL_law_2866 : decode cL_law 2866 = .ok (.lcmp, 1) := by decide +kernel
theorem dL_law_2867 : decode cL_law 2867 = .ok (.ifCond .eq 5, 3) := by decide +kernel
theorem dL_law_2870 : decode cL_law 2870 = .ok (.iconst 0, 1) := by decide +kernel
theorem dL_law_2871 : decode cL_law 2871 = .ok (.ireturn, 1) := by decide +kernel
theorem dL_law_2872 : decode cL_law 2872 = .ok (.goto 278, 3) := by decide +kernel
set_option maxHeartbeats 4000000 in
set_option maxRecDepth 100000 in
theorem w_law_bestNoise {p : Program} {l : Launch} {e : Env} {s : State} {m : MethodId} {below : List Frame} {meth : Method} {c : Code} {G : Gx} {b L i n0 m0 aL aD : Nat} {xs : Nat → Int32} {iv : Int32} {cL cD : ClassId} {cells slots : Nat} {Rel : Nat → Sg → Sg → Prop} {nn : Nat} {Q : State → Prop} (hnn9 : nn < 600) (hst : l.stackTraces = false) (C : Cx p s m #[.ref b] meth c RL code 10 ret G) (F : Y_F G s n0 m0 aL aD cL cD) (hX : va_X b L xs s s.heap) (hbl : b < s.heap.size) (hi : Y_I iv i L) (hc : cells + 4 ≤ 601024) (hs : slots + 24 ≤ 7293034) (hE : E_bestNoise Rel)
    (hk : ∀ (σ ρ : Sg) (v : Int64) (w : UInt64) (H : Heap) (locs : List Loc) (ls : Array Slot), Rel (nn + 1) σ ρ → Y_S G s n0 m0 aL aD cL cD σ ρ v w H locs → lv_has ls 10 [(0, .ref b), (1, .ref n0), (2, .ref m0), (3, .ref aL), (4, .ref aD), (5, .int iv)] → W p l e room_1 s m #[.ref b] below meth c H locs (cells + 4) (slots + 24) Q (F0 m 3150 ls [])) :
    ∀ (σ ρ : Sg) (v : Int64) (w : UInt64) (H : Heap) (locs : List Loc) (ls : Array Slot), Rel nn σ ρ → Y_S G s n0 m0 aL aD cL cD σ ρ v w H locs → lv_has ls 10 [(0, .ref b), (1, .ref n0), (2, .ref m0), (3, .ref aL), (4, .ref aD), (5, .int iv)] → W p l e room_1 s m #[.ref b] below meth c H locs cells slots Q (F0 m 2819 ls []) := by
  intro σ ρ v w H locs ls hR S hl
  obtain ⟨q, wq, ρ', e7, hq, e8, hR', hth, hval⟩ := hE nn σ ρ (xs (i + 1)) hnn9 hR 
  refine lv_aload_n C.1 C.2.1 dL_law_2819 rfl (lv_at hl 1 rfl) ?_
  refine lv_aload_n C.1 C.2.1 dL_law_2820 rfl (lv_at hl 0 rfl) ?_
  refine lv_iload C.1 C.2.1 dL_law_2821 (lv_at hl 5 rfl) ?_
  refine lv_iconst (v := 1) C.1 C.2.1 dL_law_2823 (by decide) ?_
  refine lv_iadd C.1 C.2.1 dL_law_2824 ?_
  refine Y_sld C S hX hbl hi.2.1.2.1 hi.2.1.1 hi.2.1.2.2 dL_law_2825 ?_
  refine lv_aload_n C.1 C.2.1 dL_law_2826 rfl (lv_at hl 3 rfl) ?_
  have hM := m_L_bestNoise l hst G (Y_X n0) σ (xs (i + 1)) q e7 hq cL aL v H.size
  rw [show (if q.1 = 0 then (Sum.inl q.2.1.toInt64 : Int64 ⊕ UInt64) else Sum.inl v) = Sum.inl (if q.1 = 0 then q.2.1.toInt64 else v) by split <;> rfl] at hM
  refine Y_wL (n := 3) (As := [.ref n0, .int (xs (i + 1)), .ref aL]) C F S hM (tt_6 (List.mem_of_getElem? (i := 60) (by decide +kernel)) (by decide +kernel)) tw_6_59 tw_1_0 ⟨by decide, by decide, by decide +kernel⟩ tw_6_58 ⟨(Nat.le_of_ble_eq_true rfl), (Nat.le_of_ble_eq_true rfl)⟩ rfl rfl (Nat.le_of_ble_eq_true rfl) hl.1 ⟨by show cells + 1 ≤ 601024; omega, by show slots + 6 ≤ 7293034; omega⟩ dL_law_2827 (fun H locs S => ?_)
  refine lv_istore (lv' := [(6, .int (L_k [(2, 1)] q.1)), (0, .ref b), (1, .ref n0), (2, .ref m0), (3, .ref aL), (4, .ref aD), (5, .int iv)]) C.1 C.2.1 dL_law_2830 hl (by decide) rfl (fun ls hl => ?_)
  refine lv_aload_n C.1 C.2.1 dL_law_2832 rfl (lv_at hl 3 rfl) ?_
  refine lv_aload_n C.1 C.2.1 dL_law_2833 rfl (lv_at hl 1 rfl) ?_
  refine lv_iload C.1 C.2.1 dL_law_2834 (lv_at hl 6 rfl) ?_
  refine lv_iconst (v := 1) C.1 C.2.1 dL_law_2836 (by decide) ?_
  refine lv_iadd C.1 C.2.1 dL_law_2837 ?_
  refine Y_sld C S hX hbl hi.2.1.2.1 hi.2.1.1 hi.2.1.2.2 dL_law_2838 ?_
  refine Y_c1I (r := wq) (ρ' := ρ') (As := [.int (xs (i + 1))]) C F S rfl (m_X8_bestNoise l G (Y_Mo m0) ρ (xs (i + 1)) wq ρ' e8 _) kv_X8_bestNoise tw_8_173 ⟨(Nat.le_of_ble_eq_true rfl), (Nat.le_of_ble_eq_true rfl)⟩ rfl rfl (Nat.le_of_ble_eq_true rfl) hl.1 ⟨by show cells + 1 ≤ 601024; omega, by show slots + 6 ≤ 7293034; omega⟩ dL_law_2839 (fun H locs S => ?_)
  refine lv_istore (lv' := [(7, .int wq), (6, .int (L_k [(2, 1)] q.1)), (0, .ref b), (1, .ref n0), (2, .ref m0), (3, .ref aL), (4, .ref aD), (5, .int iv)]) C.1 C.2.1 dL_law_2842 hl (by decide) rfl (fun ls hl => ?_)
  refine lv_aload_n C.1 C.2.1 dL_law_2844 rfl (lv_at hl 4 rfl) ?_
  refine Y_c1I (r := ρ' 8 0 8) (ρ' := ρ') C F S rfl (As := []) (m_X8_thrown l G _ ρ' _ _ rfl _) kv_X8_thrown tw_6_188 ⟨(Nat.le_of_ble_eq_true rfl), (Nat.le_of_ble_eq_true rfl)⟩ rfl rfl (Nat.le_of_ble_eq_true rfl) hl.1 ⟨by show cells + 1 ≤ 601024; omega, by show slots + 6 ≤ 7293034; omega⟩ dL_law_2845 (fun H locs S => ?_)
  refine lv_iload C.1 C.2.1 dL_law_2848 (lv_at hl 1 rfl) ?_
  refine lv_icmp_eq (tgt := 2855) C.1 C.2.1 dL_law_2850 (by decide) (fun _ => ?_) (fun c9 => absurd hth c9)
  refine lv_iload C.1 C.2.1 dL_law_2855 (lv_at hl 1 rfl) ?_
  refine lv_if_ne (tgt := 2872) C.1 C.2.1 dL_law_2857 (by decide) (fun c9 => ?_) (fun c9 => ?_)
  · refine lv_goto (tgt := 3150) C.1 C.2.1 dL_law_2872 (by decide) ?_
    exact W.widen (k := cells + 4) (n := slots + 24) (by omega) (by omega) (hk _ _ _ _ _ _ _ hR' S (lv_sub hl [2, 3, 4, 5, 6, 7] rfl))
  have h0 : q.1 = 0 := by
    rcases hq with h | h
    · exact h
    · rw [h] at c9; exact absurd c9 (by decide)
  rw [if_pos h0, hval h0] at S
  refine lv_aload_n C.1 C.2.1 dL_law_2860 rfl (lv_at hl 5 rfl) ?_
  refine lv_iconst (v := 0) C.1 C.2.1 dL_law_2861 (by decide) ?_
  refine Y_lald C F S dL_law_2862 ?_
  refine lv_iload C.1 C.2.1 dL_law_2863 (lv_at hl 0 rfl) ?_
  refine lv_i2l C.1 C.2.1 dL_law_2865 rfl ?_
  refine W.lcmp C.1 C.2.1 dL_law_2866 ?_
  refine lv_if_eq (tgt := 2872) C.1 C.2.1 dL_law_2867 (by decide) (fun _ => ?_) (fun c9 => absurd (Y_cmp _) c9)
  refine lv_goto (tgt := 3150) C.1 C.2.1 dL_law_2872 (by decide) ?_
  exact W.widen (k := cells + 4) (n := slots + 24) (by omega) (by omega) (hk _ _ _ _ _ _ _ hR' S (lv_sub hl [2, 3, 4, 5, 6, 7] rfl))
theorem dL_law_2875 : decode cL_law 2875 = .ok (.aload_n 1, 1) := by decide +kernel
theorem dL_law_2876 : decode cL_law 2876 = .ok (.aload_n 0, 1) := by decide +kernel
theorem dL_law_2877 : decode cL_law 2877 = .ok (.iload 5, 2) := by decide +kernel
theorem dL_law_2879 : decode cL_law 2879 = .ok (.iconst 1, 1) := by decide +kernel
theorem dL_law_2880 : decode cL_law 2880 = .ok (.iadd, 1) := by decide +kernel
theorem dL_law_2881 : decode cL_law 2881 = .ok (.iaload, 1) := by decide +kernel
theorem dL_law_2882 : decode cL_law 2882 = .ok (.aload_n 0, 1) := by decide +kernel
theorem dL_law_2883 : decode cL_law 2883 = .ok (.iload 5, 2) := by decide +kernel
theorem dL_law_2885 : decode cL_law 2885 = .ok (.iconst 2, 1) := by decide +kernel
theorem dL_law_2886 : decode cL_law 2886 = .ok (.iadd, 1) := by decide +kernel
theorem dL_law_2887 : decode cL_law 2887 = .ok (.iaload, 1) := by decide +kernel
theorem dL_law_2888 : decode cL_law 2888 = .ok (.aload_n 3, 1) := by decide +kernel
theorem dL_law_2889 : decode cL_law 2889 = .ok (.invokestatic 318, 3) := by decide +kernel
theorem dL_law_2892 : decode cL_law 2892 = .ok (.istore 6, 2) := by decide +kernel
theorem dL_law_2894 : decode cL_law 2894 = .ok (.aload_n 2, 1) := by decide +kernel
theorem dL_law_2895 : decode cL_law 2895 = .ok (.aload_n 0, 1) := by decide +kernel
theorem dL_law_2896 : decode cL_law 2896 = .ok (.iload 5, 2) := by decide +kernel
theorem dL_law_2898 : decode cL_law 2898 = .ok (.iconst 1, 1) := by decide +kernel
theorem dL_law_2899 : decode cL_law 2899 = .ok (.iadd, 1) := by decide +kernel
theorem dL_law_2900 : decode cL_law 2900 = .ok (.iaload, 1) := by decide +kernel
theorem dL_law_2901 : decode cL_law 2901 = .ok (.aload_n 0, 1) := by decide +kernel
theorem dL_law_2902 : decode cL_law 2902 = .ok (.iload 5, 2) := by decide +kernel
theorem dL_law_2904 : decode cL_law 2904 = .ok (.iconst 2, 1) := by decide +kernel
theorem dL_law_2905 : decode cL_law 2905 = .ok (.iadd, 1) := by decide +kernel
theorem dL_law_2906 : decode cL_law 2906 = .ok (.iaload, 1) := by decide +kernel
theorem dL_law_2907 : decode cL_law 2907 = .ok (.invokevirtual 320, 3) := by decide +kernel
theorem dL_law_2910 : decode cL_law 2910 = .ok (.istore 7, 2) := by decide +kernel
theorem dL_law_2912 : decode cL_law 2912 = .ok (.aload_n 2, 1) := by decide +kernel
theorem dL_law_2913 : decode cL_law 2913 = .ok (.invokevirtual 169, 3) := by decide +kernel
theorem dL_law_2916 : decode cL_law 2916 = .ok (.iload 6, 2) := by decide +kernel
theorem dL_law_2918 : decode cL_law 2918 = .ok (.if_icmp .eq 5, 3) := by decide +kernel
theorem dL_law_2921 : decode cL_law 2921 = .ok (.iconst 0, 1) := by decide +kernel
theorem dL_law_2922 : decode cL_law 2922 = .ok (.ireturn, 1) := by decide +kernel
theorem dL_law_2923 : decode cL_law 2923 = .ok (.iload 6, 2) := by decide +kernel
theorem dL_law_2925 : decode cL_law 2925 = .ok (.ifCond .ne 15, 3) := by decide +kernel
theorem dL_law_2928 : decode cL_law 2928 = .ok (.aload_n 3, 1) := by decide +kernel
theorem dL_law_2929 : decode cL_law 2929 = .ok (.iconst 0, 1) := by decide +kernel
theorem dL_law_2930 : decode cL_law 2930 = .ok (.laload, 1) := by decide +kernel
theorem dL_law_2931 : decode cL_law 2931 = .ok (.iload 7, 2) := by decide +kernel
theorem dL_law_2933 : decode cL_law 2933 = .ok (.i2l, 1) := by decide +kernel
theorem dL_law_2934 : decode cL_law 2934 = .ok (.lcmp, 1) := by decide +kernel
theorem dL_law_2935 : decode cL_law 2935 = .ok (.ifCond .eq 5, 3) := by decide +kernel
theorem dL_law_2938 : decode cL_law 2938 = .ok (.iconst 0, 1) := by decide +kernel
theorem dL_law_2939 : decode cL_law 2939 = .ok (.ireturn, 1) := by decide +kernel
theorem dL_law_2940 : decode cL_law 2940 = .ok (.goto 210, 3) := by decide +kernel
set_option maxHeartbeats 4000000 in
set_option maxRecDepth 100000 in
theorem w_law_wouldWait {p : Program} {l : Launch} {e : Env} {s : State} {m : MethodId} {below : List Frame} {meth : Method} {c : Code} {G : Gx} {b L i n0 m0 aL aD : Nat} {xs : Nat → Int32} {iv : Int32} {cL cD : ClassId} {cells slots : Nat} {Rel : Nat → Sg → Sg → Prop} {nn : Nat} {Q : State → Prop} (hnn9 : nn < 600) (hst : l.stackTraces = false) (C : Cx p s m #[.ref b] meth c RL code 10 ret G) (F : Y_F G s n0 m0 aL aD cL cD) (hX : va_X b L xs s s.heap) (hbl : b < s.heap.size) (hi : Y_I iv i L) (hc : cells + 4 ≤ 601024) (hs : slots + 24 ≤ 7293034) (hE : E_wouldWait Rel)
    (hk : ∀ (σ ρ : Sg) (v : Int64) (w : UInt64) (H : Heap) (locs : List Loc) (ls : Array Slot), Rel (nn + 1) σ ρ → Y_S G s n0 m0 aL aD cL cD σ ρ v w H locs → lv_has ls 10 [(0, .ref b), (1, .ref n0), (2, .ref m0), (3, .ref aL), (4, .ref aD), (5, .int iv)] → W p l e room_1 s m #[.ref b] below meth c H locs (cells + 4) (slots + 24) Q (F0 m 3150 ls [])) :
    ∀ (σ ρ : Sg) (v : Int64) (w : UInt64) (H : Heap) (locs : List Loc) (ls : Array Slot), Rel nn σ ρ → Y_S G s n0 m0 aL aD cL cD σ ρ v w H locs → lv_has ls 10 [(0, .ref b), (1, .ref n0), (2, .ref m0), (3, .ref aL), (4, .ref aD), (5, .int iv)] → W p l e room_1 s m #[.ref b] below meth c H locs cells slots Q (F0 m 2875 ls []) := by
  intro σ ρ v w H locs ls hR S hl
  obtain ⟨q, wq, ρ', e7, hq, e8, hR', hth, hval⟩ := hE nn σ ρ (xs (i + 1)) (xs (i + 2)) hnn9 hR 
  refine lv_aload_n C.1 C.2.1 dL_law_2875 rfl (lv_at hl 1 rfl) ?_
  refine lv_aload_n C.1 C.2.1 dL_law_2876 rfl (lv_at hl 0 rfl) ?_
  refine lv_iload C.1 C.2.1 dL_law_2877 (lv_at hl 5 rfl) ?_
  refine lv_iconst (v := 1) C.1 C.2.1 dL_law_2879 (by decide) ?_
  refine lv_iadd C.1 C.2.1 dL_law_2880 ?_
  refine Y_sld C S hX hbl hi.2.1.2.1 hi.2.1.1 hi.2.1.2.2 dL_law_2881 ?_
  refine lv_aload_n C.1 C.2.1 dL_law_2882 rfl (lv_at hl 0 rfl) ?_
  refine lv_iload C.1 C.2.1 dL_law_2883 (lv_at hl 5 rfl) ?_
  refine lv_iconst (v := 2) C.1 C.2.1 dL_law_2885 (by decide) ?_
  refine lv_iadd C.1 C.2.1 dL_law_2886 ?_
  refine Y_sld C S hX hbl hi.2.2.1.2.1 hi.2.2.1.1 hi.2.2.1.2.2 dL_law_2887 ?_
  refine lv_aload_n C.1 C.2.1 dL_law_2888 rfl (lv_at hl 3 rfl) ?_
  have hM := m_L_wouldWait l hst G (Y_X n0) σ (xs (i + 1)) (xs (i + 2)) q e7 hq cL aL v H.size
  rw [show (if q.1 = 0 then (Sum.inl q.2.1.toInt64 : Int64 ⊕ UInt64) else Sum.inl v) = Sum.inl (if q.1 = 0 then q.2.1.toInt64 else v) by split <;> rfl] at hM
  refine Y_wL (n := 4) (As := [.ref n0, .int (xs (i + 1)), .int (xs (i + 2)), .ref aL]) C F S hM (tt_6 (List.mem_of_getElem? (i := 67) (by decide +kernel)) (by decide +kernel)) tw_6_66 tw_1_0 ⟨by decide, by decide, by decide +kernel⟩ tw_6_65 ⟨(Nat.le_of_ble_eq_true rfl), (Nat.le_of_ble_eq_true rfl)⟩ rfl rfl (Nat.le_of_ble_eq_true rfl) hl.1 ⟨by show cells + 3 ≤ 601024; omega, by show slots + 18 ≤ 7293034; omega⟩ dL_law_2889 (fun H locs S => ?_)
  refine lv_istore (lv' := [(6, .int (L_k [(2, 1)] q.1)), (0, .ref b), (1, .ref n0), (2, .ref m0), (3, .ref aL), (4, .ref aD), (5, .int iv)]) C.1 C.2.1 dL_law_2892 hl (by decide) rfl (fun ls hl => ?_)
  refine lv_aload_n C.1 C.2.1 dL_law_2894 rfl (lv_at hl 3 rfl) ?_
  refine lv_aload_n C.1 C.2.1 dL_law_2895 rfl (lv_at hl 1 rfl) ?_
  refine lv_iload C.1 C.2.1 dL_law_2896 (lv_at hl 6 rfl) ?_
  refine lv_iconst (v := 1) C.1 C.2.1 dL_law_2898 (by decide) ?_
  refine lv_iadd C.1 C.2.1 dL_law_2899 ?_
  refine Y_sld C S hX hbl hi.2.1.2.1 hi.2.1.1 hi.2.1.2.2 dL_law_2900 ?_
  refine lv_aload_n C.1 C.2.1 dL_law_2901 rfl (lv_at hl 1 rfl) ?_
  refine lv_iload C.1 C.2.1 dL_law_2902 (lv_at hl 6 rfl) ?_
  refine lv_iconst (v := 2) C.1 C.2.1 dL_law_2904 (by decide) ?_
  refine lv_iadd C.1 C.2.1 dL_law_2905 ?_
  refine Y_sld C S hX hbl hi.2.2.1.2.1 hi.2.2.1.1 hi.2.2.1.2.2 dL_law_2906 ?_
  refine Y_c1I (r := wq) (ρ' := ρ') (As := [.int (xs (i + 1)), .int (xs (i + 2))]) C F S rfl (m_X8_wouldWait l G (Y_Mo m0) ρ (xs (i + 1)) (xs (i + 2)) wq ρ' e8 _) kv_X8_wouldWait tw_8_177 ⟨(Nat.le_of_ble_eq_true rfl), (Nat.le_of_ble_eq_true rfl)⟩ rfl rfl (Nat.le_of_ble_eq_true rfl) hl.1 ⟨by show cells + 3 ≤ 601024; omega, by show slots + 18 ≤ 7293034; omega⟩ dL_law_2907 (fun H locs S => ?_)
  refine lv_istore (lv' := [(7, .int wq), (6, .int (L_k [(2, 1)] q.1)), (0, .ref b), (1, .ref n0), (2, .ref m0), (3, .ref aL), (4, .ref aD), (5, .int iv)]) C.1 C.2.1 dL_law_2910 hl (by decide) rfl (fun ls hl => ?_)
  refine lv_aload_n C.1 C.2.1 dL_law_2912 rfl (lv_at hl 4 rfl) ?_
  refine Y_c1I (r := ρ' 8 0 8) (ρ' := ρ') C F S rfl (As := []) (m_X8_thrown l G _ ρ' _ _ rfl _) kv_X8_thrown tw_6_188 ⟨(Nat.le_of_ble_eq_true rfl), (Nat.le_of_ble_eq_true rfl)⟩ rfl rfl (Nat.le_of_ble_eq_true rfl) hl.1 ⟨by show cells + 3 ≤ 601024; omega, by show slots + 18 ≤ 7293034; omega⟩ dL_law_2913 (fun H locs S => ?_)
  refine lv_iload C.1 C.2.1 dL_law_2916 (lv_at hl 1 rfl) ?_
  refine lv_icmp_eq (tgt := 2923) C.1 C.2.1 dL_law_2918 (by decide) (fun _ => ?_) (fun c9 => absurd hth c9)
  refine lv_iload C.1 C.2.1 dL_law_2923 (lv_at hl 1 rfl) ?_
  refine lv_if_ne (tgt := 2940) C.1 C.2.1 dL_law_2925 (by decide) (fun c9 => ?_) (fun c9 => ?_)
  · refine lv_goto (tgt := 3150) C.1 C.2.1 dL_law_2940 (by decide) ?_
    exact W.widen (k := cells + 4) (n := slots + 24) (by omega) (by omega) (hk _ _ _ _ _ _ _ hR' S (lv_sub hl [2, 3, 4, 5, 6, 7] rfl))
  have h0 : q.1 = 0 := by
    rcases hq with h | h
    · exact h
    · rw [h] at c9; exact absurd c9 (by decide)
  rw [if_pos h0, hval h0] at S
  refine lv_aload_n C.1 C.2.1 dL_law_2928 rfl (lv_at hl 5 rfl) ?_
  refine lv_iconst (v := 0) C.1 C.2.1 dL_law_2929 (by decide) ?_
  refine Y_lald C F S dL_law_2930 ?_
  refine lv_iload C.1 C.2.1 dL_law_2931 (lv_at hl 0 rfl) ?_
  refine lv_i2l C.1 C.2.1 dL_law_2933 rfl ?_
  refine W.lcmp C.1 C.2.1 dL_law_2934 ?_
  refine lv_if_eq (tgt := 2940) C.1 C.2.1 dL_law_2935 (by decide) (fun _ => ?_) (fun c9 => absurd (Y_cmp _) c9)
  refine lv_goto (tgt := 3150) C.1 C.2.1 dL_law_2940 (by decide) ?_
  exact W.widen (k := cells + 4) (n := slots + 24) (by omega) (by omega) (hk _ _ _ _ _ _ _ hR' S (lv_sub hl [2, 3, 4, 5, 6, 7] rfl))
theorem dL_law_2943 : decode cL_law 2943 = .ok (.aload_n 1, 1) := by decide +kernel
theorem dL_law_2944 : decode cL_law 2944 = .ok (.aload_n 0, 1) := by decide +kernel
theorem dL_law_2945 : decode cL_law 2945 = .ok (.iload 5, 2) := by decide +kernel
theorem dL_law_2947 : decode cL_law 2947 = .ok (.iconst 1, 1) := by decide +kernel
theorem dL_law_2948 : decode cL_law 2948 = .ok (.iadd, 1) := by decide +kernel
theorem dL_law_2949 : decode cL_law 2949 = .ok (.iaload, 1) := by decide +kernel
theorem dL_law_2950 : decode cL_law 2950 = .ok (.aload_n 3, 1) := by decide +kernel
theorem dL_law_2951 : decode cL_law 2951 = .ok (.invokestatic 321, 3) := by decide +kernel
theorem dL_law_2954 : decode cL_law 2954 = .ok (.istore 6, 2) := by decide +kernel
theorem dL_law_2956 : decode cL_law 2956 = .ok (.aload_n 2, 1) := by decide +kernel
theorem dL_law_2957 : decode cL_law 2957 = .ok (.aload_n 0, 1) := by decide +kernel
theorem dL_law_2958 : decode cL_law 2958 = .ok (.iload 5, 2) := by decide +kernel
theorem dL_law_2960 : decode cL_law 2960 = .ok (.iconst 1, 1) := by decide +kernel
theorem dL_law_2961 : decode cL_law 2961 = .ok (.iadd, 1) := by decide +kernel
theorem dL_law_2962 : decode cL_law 2962 = .ok (.iaload, 1) := by decide +kernel
theorem dL_law_2963 : decode cL_law 2963 = .ok (.invokevirtual 323, 3) := by decide +kernel
theorem dL_law_2966 : decode cL_law 2966 = .ok (.istore 7, 2) := by decide +kernel
theorem dL_law_2968 : decode cL_law 2968 = .ok (.aload_n 2, 1) := by decide +kernel
theorem dL_law_2969 : decode cL_law 2969 = .ok (.invokevirtual 169, 3) := by decide +kernel
theorem dL_law_2972 : decode cL_law 2972 = .ok (.iload 6, 2) := by decide +kernel
theorem dL_law_2974 : decode cL_law 2974 = .ok (.if_icmp .eq 5, 3) := by decide +kernel
theorem dL_law_2977 : decode cL_law 2977 = .ok (.iconst 0, 1) := by decide +kernel
theorem dL_law_2978 : decode cL_law 2978 = .ok (.ireturn, 1) := by decide +kernel
theorem dL_law_2979 : decode cL_law 2979 = .ok (.iload 6, 2) := by decide +kernel
theorem dL_law_2981 : decode cL_law 2981 = .ok (.ifCond .ne 15, 3) := by decide +kernel
theorem dL_law_2984 : decode cL_law 2984 = .ok (.aload_n 3, 1) := by decide +kernel
theorem dL_law_2985 : decode cL_law 2985 = .ok (.iconst 0, 1) := by decide +kernel
theorem dL_law_2986 : decode cL_law 2986 = .ok (.laload, 1) := by decide +kernel
theorem dL_law_2987 : decode cL_law 2987 = .ok (.iload 7, 2) := by decide +kernel
theorem dL_law_2989 : decode cL_law 2989 = .ok (.i2l, 1) := by decide +kernel
theorem dL_law_2990 : decode cL_law 2990 = .ok (.lcmp, 1) := by decide +kernel
theorem dL_law_2991 : decode cL_law 2991 = .ok (.ifCond .eq 5, 3) := by decide +kernel
theorem dL_law_2994 : decode cL_law 2994 = .ok (.iconst 0, 1) := by decide +kernel
theorem dL_law_2995 : decode cL_law 2995 = .ok (.ireturn, 1) := by decide +kernel
theorem dL_law_2996 : decode cL_law 2996 = .ok (.goto 154, 3) := by decide +kernel
set_option maxHeartbeats 4000000 in
set_option maxRecDepth 100000 in
theorem w_law_bestPatience {p : Program} {l : Launch} {e : Env} {s : State} {m : MethodId} {below : List Frame} {meth : Method} {c : Code} {G : Gx} {b L i n0 m0 aL aD : Nat} {xs : Nat → Int32} {iv : Int32} {cL cD : ClassId} {cells slots : Nat} {Rel : Nat → Sg → Sg → Prop} {nn : Nat} {Q : State → Prop} (hnn9 : nn < 600) (hst : l.stackTraces = false) (C : Cx p s m #[.ref b] meth c RL code 10 ret G) (F : Y_F G s n0 m0 aL aD cL cD) (hX : va_X b L xs s s.heap) (hbl : b < s.heap.size) (hi : Y_I iv i L) (hc : cells + 4 ≤ 601024) (hs : slots + 24 ≤ 7293034) (hE : E_bestPatience Rel)
    (hk : ∀ (σ ρ : Sg) (v : Int64) (w : UInt64) (H : Heap) (locs : List Loc) (ls : Array Slot), Rel (nn + 1) σ ρ → Y_S G s n0 m0 aL aD cL cD σ ρ v w H locs → lv_has ls 10 [(0, .ref b), (1, .ref n0), (2, .ref m0), (3, .ref aL), (4, .ref aD), (5, .int iv)] → W p l e room_1 s m #[.ref b] below meth c H locs (cells + 4) (slots + 24) Q (F0 m 3150 ls [])) :
    ∀ (σ ρ : Sg) (v : Int64) (w : UInt64) (H : Heap) (locs : List Loc) (ls : Array Slot), Rel nn σ ρ → Y_S G s n0 m0 aL aD cL cD σ ρ v w H locs → lv_has ls 10 [(0, .ref b), (1, .ref n0), (2, .ref m0), (3, .ref aL), (4, .ref aD), (5, .int iv)] → W p l e room_1 s m #[.ref b] below meth c H locs cells slots Q (F0 m 2943 ls []) := by
  intro σ ρ v w H locs ls hR S hl
  obtain ⟨q, wq, ρ', e7, hq, e8, hR', hth, hval⟩ := hE nn σ ρ (xs (i + 1)) hnn9 hR 
  refine lv_aload_n C.1 C.2.1 dL_law_2943 rfl (lv_at hl 1 rfl) ?_
  refine lv_aload_n C.1 C.2.1 dL_law_2944 rfl (lv_at hl 0 rfl) ?_
  refine lv_iload C.1 C.2.1 dL_law_2945 (lv_at hl 5 rfl) ?_
  refine lv_iconst (v := 1) C.1 C.2.1 dL_law_2947 (by decide) ?_
  refine lv_iadd C.1 C.2.1 dL_law_2948 ?_
  refine Y_sld C S hX hbl hi.2.1.2.1 hi.2.1.1 hi.2.1.2.2 dL_law_2949 ?_
  refine lv_aload_n C.1 C.2.1 dL_law_2950 rfl (lv_at hl 3 rfl) ?_
  have hM := m_L_bestPatience l hst G (Y_X n0) σ (xs (i + 1)) q e7 hq cL aL v H.size
  rw [show (if q.1 = 0 then (Sum.inl q.2.1.toInt64 : Int64 ⊕ UInt64) else Sum.inl v) = Sum.inl (if q.1 = 0 then q.2.1.toInt64 else v) by split <;> rfl] at hM
  refine Y_wL (n := 3) (As := [.ref n0, .int (xs (i + 1)), .ref aL]) C F S hM (tt_6 (List.mem_of_getElem? (i := 74) (by decide +kernel)) (by decide +kernel)) tw_6_73 tw_1_0 ⟨by decide, by decide, by decide +kernel⟩ tw_6_72 ⟨(Nat.le_of_ble_eq_true rfl), (Nat.le_of_ble_eq_true rfl)⟩ rfl rfl (Nat.le_of_ble_eq_true rfl) hl.1 ⟨by show cells + 1 ≤ 601024; omega, by show slots + 6 ≤ 7293034; omega⟩ dL_law_2951 (fun H locs S => ?_)
  refine lv_istore (lv' := [(6, .int (L_k [(2, 1)] q.1)), (0, .ref b), (1, .ref n0), (2, .ref m0), (3, .ref aL), (4, .ref aD), (5, .int iv)]) C.1 C.2.1 dL_law_2954 hl (by decide) rfl (fun ls hl => ?_)
  refine lv_aload_n C.1 C.2.1 dL_law_2956 rfl (lv_at hl 3 rfl) ?_
  refine lv_aload_n C.1 C.2.1 dL_law_2957 rfl (lv_at hl 1 rfl) ?_
  refine lv_iload C.1 C.2.1 dL_law_2958 (lv_at hl 6 rfl) ?_
  refine lv_iconst (v := 1) C.1 C.2.1 dL_law_2960 (by decide) ?_
  refine lv_iadd C.1 C.2.1 dL_law_2961 ?_
  refine Y_sld C S hX hbl hi.2.1.2.1 hi.2.1.1 hi.2.1.2.2 dL_law_2962 ?_
  refine Y_c1I (r := wq) (ρ' := ρ') (As := [.int (xs (i + 1))]) C F S rfl (m_X8_bestPatience l G (Y_Mo m0) ρ (xs (i + 1)) wq ρ' e8 _) kv_X8_bestPatience tw_8_181 ⟨(Nat.le_of_ble_eq_true rfl), (Nat.le_of_ble_eq_true rfl)⟩ rfl rfl (Nat.le_of_ble_eq_true rfl) hl.1 ⟨by show cells + 1 ≤ 601024; omega, by show slots + 6 ≤ 7293034; omega⟩ dL_law_2963 (fun H locs S => ?_)
  refine lv_istore (lv' := [(7, .int wq), (6, .int (L_k [(2, 1)] q.1)), (0, .ref b), (1, .ref n0), (2, .ref m0), (3, .ref aL), (4, .ref aD), (5, .int iv)]) C.1 C.2.1 dL_law_2966 hl (by decide) rfl (fun ls hl => ?_)
  refine lv_aload_n C.1 C.2.1 dL_law_2968 rfl (lv_at hl 4 rfl) ?_
  refine Y_c1I (r := ρ' 8 0 8) (ρ' := ρ') C F S rfl (As := []) (m_X8_thrown l G _ ρ' _ _ rfl _) kv_X8_thrown tw_6_188 ⟨(Nat.le_of_ble_eq_true rfl), (Nat.le_of_ble_eq_true rfl)⟩ rfl rfl (Nat.le_of_ble_eq_true rfl) hl.1 ⟨by show cells + 1 ≤ 601024; omega, by show slots + 6 ≤ 7293034; omega⟩ dL_law_2969 (fun H locs S => ?_)
  refine lv_iload C.1 C.2.1 dL_law_2972 (lv_at hl 1 rfl) ?_
  refine lv_icmp_eq (tgt := 2979) C.1 C.2.1 dL_law_2974 (by decide) (fun _ => ?_) (fun c9 => absurd hth c9)
  refine lv_iload C.1 C.2.1 dL_law_2979 (lv_at hl 1 rfl) ?_
  refine lv_if_ne (tgt := 2996) C.1 C.2.1 dL_law_2981 (by decide) (fun c9 => ?_) (fun c9 => ?_)
  · refine lv_goto (tgt := 3150) C.1 C.2.1 dL_law_2996 (by decide) ?_
    exact W.widen (k := cells + 4) (n := slots + 24) (by omega) (by omega) (hk _ _ _ _ _ _ _ hR' S (lv_sub hl [2, 3, 4, 5, 6, 7] rfl))
  have h0 : q.1 = 0 := by
    rcases hq with h | h
    · exact h
    · rw [h] at c9; exact absurd c9 (by decide)
  rw [if_pos h0, hval h0] at S
  refine lv_aload_n C.1 C.2.1 dL_law_2984 rfl (lv_at hl 5 rfl) ?_
  refine lv_iconst (v := 0) C.1 C.2.1 dL_law_2985 (by decide) ?_
  refine Y_lald C F S dL_law_2986 ?_
  refine lv_iload C.1 C.2.1 dL_law_2987 (lv_at hl 0 rfl) ?_
  refine lv_i2l C.1 C.2.1 dL_law_2989 rfl ?_
  refine W.lcmp C.1 C.2.1 dL_law_2990 ?_
  refine lv_if_eq (tgt := 2996) C.1 C.2.1 dL_law_2991 (by decide) (fun _ => ?_) (fun c9 => absurd (Y_cmp _) c9)
  refine lv_goto (tgt := 3150) C.1 C.2.1 dL_law_2996 (by decide) ?_
  exact W.widen (k := cells + 4) (n := slots + 24) (by omega) (by omega) (hk _ _ _ _ _ _ _ hR' S (lv_sub hl [2, 3, 4, 5, 6, 7] rfl))
theorem dL_law_2999 : decode cL_law 2999 = .ok (.aload_n 1, 1) := by decide +kernel
theorem dL_law_3000 : decode cL_law 3000 = .ok (.aload_n 0, 1) := by decide +kernel
theorem dL_law_3001 : decode cL_law 3001 = .ok (.iload 5, 2) := by decide +kernel
theorem dL_law_3003 : decode cL_law 3003 = .ok (.iconst 1, 1) := by decide +kernel
theorem dL_law_3004 : decode cL_law 3004 = .ok (.iadd, 1) := by decide +kernel
theorem dL_law_3005 : decode cL_law 3005 = .ok (.iaload, 1) := by decide +kernel
theorem dL_law_3006 : decode cL_law 3006 = .ok (.aload_n 3, 1) := by decide +kernel
theorem dL_law_3007 : decode cL_law 3007 = .ok (.invokestatic 324, 3) := by decide +kernel
theorem dL_law_3010 : decode cL_law 3010 = .ok (.istore 6, 2) := by decide +kernel
theorem dL_law_3012 : decode cL_law 3012 = .ok (.aload_n 2, 1) := by decide +kernel
theorem dL_law_3013 : decode cL_law 3013 = .ok (.aload_n 0, 1) := by decide +kernel
theorem dL_law_3014 : decode cL_law 3014 = .ok (.iload 5, 2) := by decide +kernel
theorem dL_law_3016 : decode cL_law 3016 = .ok (.iconst 1, 1) := by decide +kernel
theorem dL_law_3017 : decode cL_law 3017 = .ok (.iadd, 1) := by decide +kernel
theorem dL_law_3018 : decode cL_law 3018 = .ok (.iaload, 1) := by decide +kernel
theorem dL_law_3019 : decode cL_law 3019 = .ok (.invokevirtual 326, 3) := by decide +kernel
theorem dL_law_3022 : decode cL_law 3022 = .ok (.istore 7, 2) := by decide +kernel
theorem dL_law_3024 : decode cL_law 3024 = .ok (.aload_n 2, 1) := by decide +kernel
theorem dL_law_3025 : decode cL_law 3025 = .ok (.invokevirtual 169, 3) := by decide +kernel
theorem dL_law_3028 : decode cL_law 3028 = .ok (.iload 6, 2) := by decide +kernel
theorem dL_law_3030 : decode cL_law 3030 = .ok (.if_icmp .eq 5, 3) := by decide +kernel
theorem dL_law_3033 : decode cL_law 3033 = .ok (.iconst 0, 1) := by decide +kernel
theorem dL_law_3034 : decode cL_law 3034 = .ok (.ireturn, 1) := by decide +kernel
theorem dL_law_3035 : decode cL_law 3035 = .ok (.iload 6, 2) := by decide +kernel
theorem dL_law_3037 : decode cL_law 3037 = .ok (.ifCond .ne 15, 3) := by decide +kernel
theorem dL_law_3040 : decode cL_law 3040 = .ok (.aload_n 3, 1) := by decide +kernel
theorem dL_law_3041 : decode cL_law 3041 = .ok (.iconst 0, 1) := by decide +kernel
theorem dL_law_3042 : decode cL_law 3042 = .ok (.laload, 1) := by decide +kernel
theorem dL_law_3043 : decode cL_law 3043 = .ok (.iload 7, 2) := by decide +kernel
theorem dL_law_3045 : decode cL_law 3045 = .ok (.i2l, 1) := by decide +kernel
theorem dL_law_3046 : decode cL_law 3046 = .ok (.lcmp, 1) := by decide +kernel
theorem dL_law_3047 : decode cL_law 3047 = .ok (.ifCond .eq 5, 3) := by decide +kernel
theorem dL_law_3050 : decode cL_law 3050 = .ok (.iconst 0, 1) := by decide +kernel
theorem dL_law_3051 : decode cL_law 3051 = .ok (.ireturn, 1) := by decide +kernel
theorem dL_law_3052 : decode cL_law 3052 = .ok (.goto 98, 3) := by decide +kernel
set_option maxHeartbeats 4000000 in
set_option maxRecDepth 100000 in
theorem w_law_printCar {p : Program} {l : Launch} {e : Env} {s : State} {m : MethodId} {below : List Frame} {meth : Method} {c : Code} {G : Gx} {b L i n0 m0 aL aD : Nat} {xs : Nat → Int32} {iv : Int32} {cL cD : ClassId} {cells slots : Nat} {Rel : Nat → Sg → Sg → Prop} {nn : Nat} {Q : State → Prop} (hnn9 : nn < 600) (hst : l.stackTraces = false) (C : Cx p s m #[.ref b] meth c RL code 10 ret G) (F : Y_F G s n0 m0 aL aD cL cD) (hX : va_X b L xs s s.heap) (hbl : b < s.heap.size) (hi : Y_I iv i L) (hc : cells + 4 ≤ 601024) (hs : slots + 24 ≤ 7293034) (hE : E_printCar Rel)
    (hk : ∀ (σ ρ : Sg) (v : Int64) (w : UInt64) (H : Heap) (locs : List Loc) (ls : Array Slot), Rel (nn + 1) σ ρ → Y_S G s n0 m0 aL aD cL cD σ ρ v w H locs → lv_has ls 10 [(0, .ref b), (1, .ref n0), (2, .ref m0), (3, .ref aL), (4, .ref aD), (5, .int iv)] → W p l e room_1 s m #[.ref b] below meth c H locs (cells + 4) (slots + 24) Q (F0 m 3150 ls [])) :
    ∀ (σ ρ : Sg) (v : Int64) (w : UInt64) (H : Heap) (locs : List Loc) (ls : Array Slot), Rel nn σ ρ → Y_S G s n0 m0 aL aD cL cD σ ρ v w H locs → lv_has ls 10 [(0, .ref b), (1, .ref n0), (2, .ref m0), (3, .ref aL), (4, .ref aD), (5, .int iv)] → W p l e room_1 s m #[.ref b] below meth c H locs cells slots Q (F0 m 2999 ls []) := by
  intro σ ρ v w H locs ls hR S hl
  obtain ⟨q, wq, ρ', e7, hq, e8, hR', hth, hval⟩ := hE nn σ ρ (xs (i + 1)) hnn9 hR 
  refine lv_aload_n C.1 C.2.1 dL_law_2999 rfl (lv_at hl 1 rfl) ?_
  refine lv_aload_n C.1 C.2.1 dL_law_3000 rfl (lv_at hl 0 rfl) ?_
  refine lv_iload C.1 C.2.1 dL_law_3001 (lv_at hl 5 rfl) ?_
  refine lv_iconst (v := 1) C.1 C.2.1 dL_law_3003 (by decide) ?_
  refine lv_iadd C.1 C.2.1 dL_law_3004 ?_
  refine Y_sld C S hX hbl hi.2.1.2.1 hi.2.1.1 hi.2.1.2.2 dL_law_3005 ?_
  refine lv_aload_n C.1 C.2.1 dL_law_3006 rfl (lv_at hl 3 rfl) ?_
  have hM := m_L_printCar l hst G (Y_X n0) σ (xs (i + 1)) q e7 hq cL aL v H.size
  rw [show (if q.1 = 0 then (Sum.inl q.2.1.toInt64 : Int64 ⊕ UInt64) else Sum.inl v) = Sum.inl (if q.1 = 0 then q.2.1.toInt64 else v) by split <;> rfl] at hM
  refine Y_wL (n := 3) (As := [.ref n0, .int (xs (i + 1)), .ref aL]) C F S hM (tt_6 (List.mem_of_getElem? (i := 86) (by decide +kernel)) (by decide +kernel)) tw_6_85 tw_1_0 ⟨by decide, by decide, by decide +kernel⟩ tw_6_84 ⟨(Nat.le_of_ble_eq_true rfl), (Nat.le_of_ble_eq_true rfl)⟩ rfl rfl (Nat.le_of_ble_eq_true rfl) hl.1 ⟨by show cells + 1 ≤ 601024; omega, by show slots + 6 ≤ 7293034; omega⟩ dL_law_3007 (fun H locs S => ?_)
  refine lv_istore (lv' := [(6, .int (L_k [(1, 1)] q.1)), (0, .ref b), (1, .ref n0), (2, .ref m0), (3, .ref aL), (4, .ref aD), (5, .int iv)]) C.1 C.2.1 dL_law_3010 hl (by decide) rfl (fun ls hl => ?_)
  refine lv_aload_n C.1 C.2.1 dL_law_3012 rfl (lv_at hl 3 rfl) ?_
  refine lv_aload_n C.1 C.2.1 dL_law_3013 rfl (lv_at hl 1 rfl) ?_
  refine lv_iload C.1 C.2.1 dL_law_3014 (lv_at hl 6 rfl) ?_
  refine lv_iconst (v := 1) C.1 C.2.1 dL_law_3016 (by decide) ?_
  refine lv_iadd C.1 C.2.1 dL_law_3017 ?_
  refine Y_sld C S hX hbl hi.2.1.2.1 hi.2.1.1 hi.2.1.2.2 dL_law_3018 ?_
  refine Y_c1I (r := wq) (ρ' := ρ') (As := [.int (xs (i + 1))]) C F S rfl (m_X8_printCar l G (Y_Mo m0) ρ (xs (i + 1)) wq ρ' e8 _) kv_X8_printCar tw_8_185 ⟨(Nat.le_of_ble_eq_true rfl), (Nat.le_of_ble_eq_true rfl)⟩ rfl rfl (Nat.le_of_ble_eq_true rfl) hl.1 ⟨by show cells + 1 ≤ 601024; omega, by show slots + 6 ≤ 7293034; omega⟩ dL_law_3019 (fun H locs S => ?_)
  refine lv_istore (lv' := [(7, .int wq), (6, .int (L_k [(1, 1)] q.1)), (0, .ref b), (1, .ref n0), (2, .ref m0), (3, .ref aL), (4, .ref aD), (5, .int iv)]) C.1 C.2.1 dL_law_3022 hl (by decide) rfl (fun ls hl => ?_)
  refine lv_aload_n C.1 C.2.1 dL_law_3024 rfl (lv_at hl 4 rfl) ?_
  refine Y_c1I (r := ρ' 8 0 8) (ρ' := ρ') C F S rfl (As := []) (m_X8_thrown l G _ ρ' _ _ rfl _) kv_X8_thrown tw_6_188 ⟨(Nat.le_of_ble_eq_true rfl), (Nat.le_of_ble_eq_true rfl)⟩ rfl rfl (Nat.le_of_ble_eq_true rfl) hl.1 ⟨by show cells + 1 ≤ 601024; omega, by show slots + 6 ≤ 7293034; omega⟩ dL_law_3025 (fun H locs S => ?_)
  refine lv_iload C.1 C.2.1 dL_law_3028 (lv_at hl 1 rfl) ?_
  refine lv_icmp_eq (tgt := 3035) C.1 C.2.1 dL_law_3030 (by decide) (fun _ => ?_) (fun c9 => absurd hth c9)
  refine lv_iload C.1 C.2.1 dL_law_3035 (lv_at hl 1 rfl) ?_
  refine lv_if_ne (tgt := 3052) C.1 C.2.1 dL_law_3037 (by decide) (fun c9 => ?_) (fun c9 => ?_)
  · refine lv_goto (tgt := 3150) C.1 C.2.1 dL_law_3052 (by decide) ?_
    exact W.widen (k := cells + 4) (n := slots + 24) (by omega) (by omega) (hk _ _ _ _ _ _ _ hR' S (lv_sub hl [2, 3, 4, 5, 6, 7] rfl))
  have h0 : q.1 = 0 := by
    rcases hq with h | h
    · exact h
    · rw [h] at c9; exact absurd c9 (by decide)
  rw [if_pos h0, hval h0] at S
  refine lv_aload_n C.1 C.2.1 dL_law_3040 rfl (lv_at hl 5 rfl) ?_
  refine lv_iconst (v := 0) C.1 C.2.1 dL_law_3041 (by decide) ?_
  refine Y_lald C F S dL_law_3042 ?_
  refine lv_iload C.1 C.2.1 dL_law_3043 (lv_at hl 0 rfl) ?_
  refine lv_i2l C.1 C.2.1 dL_law_3045 rfl ?_
  refine W.lcmp C.1 C.2.1 dL_law_3046 ?_
  refine lv_if_eq (tgt := 3052) C.1 C.2.1 dL_law_3047 (by decide) (fun _ => ?_) (fun c9 => absurd (Y_cmp _) c9)
  refine lv_goto (tgt := 3150) C.1 C.2.1 dL_law_3052 (by decide) ?_
  exact W.widen (k := cells + 4) (n := slots + 24) (by omega) (by omega) (hk _ _ _ _ _ _ _ hR' S (lv_sub hl [2, 3, 4, 5, 6, 7] rfl))
theorem dL_law_3055 : decode cL_law 3055 = .ok (.aload_n 1, 1) := by decide +kernel
theorem dL_law_3056 : decode cL_law 3056 = .ok (.aload_n 0, 1) := by decide +kernel
theorem dL_law_3057 : decode cL_law 3057 = .ok (.iload 5, 2) := by decide +kernel
theorem dL_law_3059 : decode cL_law 3059 = .ok (.iconst 1, 1) := by decide +kernel
theorem dL_law_3060 : decode cL_law 3060 = .ok (.iadd, 1) := by decide +kernel
theorem dL_law_3061 : decode cL_law 3061 = .ok (.iaload, 1) := by decide +kernel
theorem dL_law_3062 : decode cL_law 3062 = .ok (.invokevirtual 327, 3) := by decide +kernel
theorem dL_law_3065 : decode cL_law 3065 = .ok (.aload_n 2, 1) := by decide +kernel
theorem dL_law_3066 : decode cL_law 3066 = .ok (.aload_n 0, 1) := by decide +kernel
theorem dL_law_3067 : decode cL_law 3067 = .ok (.iload 5, 2) := by decide +kernel
theorem dL_law_3069 : decode cL_law 3069 = .ok (.iconst 1, 1) := by decide +kernel
theorem dL_law_3070 : decode cL_law 3070 = .ok (.iadd, 1) := by decide +kernel
theorem dL_law_3071 : decode cL_law 3071 = .ok (.iaload, 1) := by decide +kernel
theorem dL_law_3072 : decode cL_law 3072 = .ok (.invokevirtual 330, 3) := by decide +kernel
theorem dL_law_3075 : decode cL_law 3075 = .ok (.if_icmp .eq 75, 3) := by decide +kernel
theorem dL_law_3078 : decode cL_law 3078 = .ok (.iconst 0, 1) := by decide +kernel
theorem dL_law_3079 : decode cL_law 3079 = .ok (.ireturn, 1) := by decide +kernel
set_option maxHeartbeats 4000000 in
set_option maxRecDepth 100000 in
theorem w_law_outputByte {p : Program} {l : Launch} {e : Env} {s : State} {m : MethodId} {below : List Frame} {meth : Method} {c : Code} {G : Gx} {b L i n0 m0 aL aD : Nat} {xs : Nat → Int32} {iv : Int32} {cL cD : ClassId} {cells slots : Nat} {Rel : Nat → Sg → Sg → Prop} {nn : Nat} {Q : State → Prop} (hnn9 : nn < 600) (hst : l.stackTraces = false) (C : Cx p s m #[.ref b] meth c RL code 10 ret G) (F : Y_F G s n0 m0 aL aD cL cD) (hX : va_X b L xs s s.heap) (hbl : b < s.heap.size) (hi : Y_I iv i L) (hc : cells + 4 ≤ 601024) (hs : slots + 24 ≤ 7293034) (hE : E_outputByte Rel)
    (hk : ∀ (σ ρ : Sg) (v : Int64) (w : UInt64) (H : Heap) (locs : List Loc) (ls : Array Slot), Rel (nn + 1) σ ρ → Y_S G s n0 m0 aL aD cL cD σ ρ v w H locs → lv_has ls 10 [(0, .ref b), (1, .ref n0), (2, .ref m0), (3, .ref aL), (4, .ref aD), (5, .int iv)] → W p l e room_1 s m #[.ref b] below meth c H locs (cells + 4) (slots + 24) Q (F0 m 3150 ls [])) :
    ∀ (σ ρ : Sg) (v : Int64) (w : UInt64) (H : Heap) (locs : List Loc) (ls : Array Slot), Rel nn σ ρ → Y_S G s n0 m0 aL aD cL cD σ ρ v w H locs → lv_has ls 10 [(0, .ref b), (1, .ref n0), (2, .ref m0), (3, .ref aL), (4, .ref aD), (5, .int iv)] → W p l e room_1 s m #[.ref b] below meth c H locs cells slots Q (F0 m 3055 ls []) := by
  intro σ ρ v w H locs ls hR S hl
  obtain ⟨r, σ', ρ', e7, e8, hR'⟩ := hE nn σ ρ (xs (i + 1)) hnn9 hR 
  refine lv_aload_n C.1 C.2.1 dL_law_3055 rfl (lv_at hl 1 rfl) ?_
  refine lv_aload_n C.1 C.2.1 dL_law_3056 rfl (lv_at hl 0 rfl) ?_
  refine lv_iload C.1 C.2.1 dL_law_3057 (lv_at hl 5 rfl) ?_
  refine lv_iconst (v := 1) C.1 C.2.1 dL_law_3059 (by decide) ?_
  refine lv_iadd C.1 C.2.1 dL_law_3060 ?_
  refine Y_sld C S hX hbl hi.2.1.2.1 hi.2.1.1 hi.2.1.2.2 dL_law_3061 ?_
  refine Y_c0I (r := r) (σ' := σ') (As := [.int (xs (i + 1))]) C F S rfl (m_X7_outputByte l G (Y_X n0) σ (xs (i + 1)) r σ' e7 _) kv_X7_outputByte tw_3_204 ⟨(Nat.le_of_ble_eq_true rfl), (Nat.le_of_ble_eq_true rfl)⟩ rfl rfl (Nat.le_of_ble_eq_true rfl) hl.1 ⟨by show cells + 0 ≤ 601024; omega, by show slots + 0 ≤ 7293034; omega⟩ dL_law_3062 (fun H locs S => ?_)
  refine lv_aload_n C.1 C.2.1 dL_law_3065 rfl (lv_at hl 2 rfl) ?_
  refine lv_aload_n C.1 C.2.1 dL_law_3066 rfl (lv_at hl 0 rfl) ?_
  refine lv_iload C.1 C.2.1 dL_law_3067 (lv_at hl 5 rfl) ?_
  refine lv_iconst (v := 1) C.1 C.2.1 dL_law_3069 (by decide) ?_
  refine lv_iadd C.1 C.2.1 dL_law_3070 ?_
  refine Y_sld C S hX hbl hi.2.1.2.1 hi.2.1.1 hi.2.1.2.2 dL_law_3071 ?_
  refine Y_c1I (r := r) (ρ' := ρ') (As := [.int (xs (i + 1))]) C F S rfl (m_X8_outputByte l G (Y_Mo m0) ρ (xs (i + 1)) r ρ' e8 _) kv_X8_outputByte tw_8_193 ⟨(Nat.le_of_ble_eq_true rfl), (Nat.le_of_ble_eq_true rfl)⟩ rfl rfl (Nat.le_of_ble_eq_true rfl) hl.1 ⟨by show cells + 0 ≤ 601024; omega, by show slots + 0 ≤ 7293034; omega⟩ dL_law_3072 (fun H locs S => ?_)
  refine lv_icmp_eq (tgt := 3150) C.1 C.2.1 dL_law_3075 (by decide) (fun _ => ?_) (fun c9 => absurd rfl c9)
  exact W.widen (k := cells + 4) (n := slots + 24) (by omega) (by omega) (hk _ _ _ _ _ _ _ hR' S (lv_sub hl [0, 1, 2, 3, 4, 5] rfl))
theorem dL_law_3080 : decode cL_law 3080 = .ok (.aload_n 1, 1) := by decide +kernel
theorem dL_law_3081 : decode cL_law 3081 = .ok (.invokevirtual 331, 3) := by decide +kernel
theorem dL_law_3084 : decode cL_law 3084 = .ok (.aload_n 2, 1) := by decide +kernel
theorem dL_law_3085 : decode cL_law 3085 = .ok (.invokevirtual 334, 3) := by decide +kernel
theorem dL_law_3088 : decode cL_law 3088 = .ok (.if_icmp .eq 62, 3) := by decide +kernel
theorem dL_law_3091 : decode cL_law 3091 = .ok (.iconst 0, 1) := by decide +kernel
theorem dL_law_3092 : decode cL_law 3092 = .ok (.ireturn, 1) := by decide +kernel
set_option maxHeartbeats 4000000 in
set_option maxRecDepth 100000 in
theorem w_law_undo {p : Program} {l : Launch} {e : Env} {s : State} {m : MethodId} {below : List Frame} {meth : Method} {c : Code} {G : Gx} {b L i n0 m0 aL aD : Nat} {xs : Nat → Int32} {iv : Int32} {cL cD : ClassId} {cells slots : Nat} {Rel : Nat → Sg → Sg → Prop} {nn : Nat} {Q : State → Prop} (hnn9 : nn < 600) (hst : l.stackTraces = false) (C : Cx p s m #[.ref b] meth c RL code 10 ret G) (F : Y_F G s n0 m0 aL aD cL cD) (hX : va_X b L xs s s.heap) (hbl : b < s.heap.size) (hi : Y_I iv i L) (hc : cells + 4 ≤ 601024) (hs : slots + 24 ≤ 7293034) (hE : E_undo Rel)
    (hk : ∀ (σ ρ : Sg) (v : Int64) (w : UInt64) (H : Heap) (locs : List Loc) (ls : Array Slot), Rel (nn + 1) σ ρ → Y_S G s n0 m0 aL aD cL cD σ ρ v w H locs → lv_has ls 10 [(0, .ref b), (1, .ref n0), (2, .ref m0), (3, .ref aL), (4, .ref aD), (5, .int iv)] → W p l e room_1 s m #[.ref b] below meth c H locs (cells + 4) (slots + 24) Q (F0 m 3150 ls [])) :
    ∀ (σ ρ : Sg) (v : Int64) (w : UInt64) (H : Heap) (locs : List Loc) (ls : Array Slot), Rel nn σ ρ → Y_S G s n0 m0 aL aD cL cD σ ρ v w H locs → lv_has ls 10 [(0, .ref b), (1, .ref n0), (2, .ref m0), (3, .ref aL), (4, .ref aD), (5, .int iv)] → W p l e room_1 s m #[.ref b] below meth c H locs cells slots Q (F0 m 3080 ls []) := by
  intro σ ρ v w H locs ls hR S hl
  obtain ⟨r, σ', ρ', e7, e8, hR'⟩ := hE nn σ ρ  hnn9 hR 
  refine lv_aload_n C.1 C.2.1 dL_law_3080 rfl (lv_at hl 1 rfl) ?_
  refine Y_c0I (r := r) (σ' := σ') (As := []) C F S rfl (m_X7_undo l G (Y_X n0) σ  r σ' e7 _) kv_X7_undo tw_3_191 ⟨(Nat.le_of_ble_eq_true rfl), (Nat.le_of_ble_eq_true rfl)⟩ rfl rfl (Nat.le_of_ble_eq_true rfl) hl.1 ⟨by show cells + 0 ≤ 601024; omega, by show slots + 0 ≤ 7293034; omega⟩ dL_law_3081 (fun H locs S => ?_)
  refine lv_aload_n C.1 C.2.1 dL_law_3084 rfl (lv_at hl 2 rfl) ?_
  refine Y_c1I (r := r) (ρ' := ρ') (As := []) C F S rfl (m_X8_undo l G (Y_Mo m0) ρ  r ρ' e8 _) kv_X8_undo tw_8_197 ⟨(Nat.le_of_ble_eq_true rfl), (Nat.le_of_ble_eq_true rfl)⟩ rfl rfl (Nat.le_of_ble_eq_true rfl) hl.1 ⟨by show cells + 0 ≤ 601024; omega, by show slots + 0 ≤ 7293034; omega⟩ dL_law_3085 (fun H locs S => ?_)
  refine lv_icmp_eq (tgt := 3150) C.1 C.2.1 dL_law_3088 (by decide) (fun _ => ?_) (fun c9 => absurd rfl c9)
  exact W.widen (k := cells + 4) (n := slots + 24) (by omega) (by omega) (hk _ _ _ _ _ _ _ hR' S (lv_sub hl [0, 1, 2, 3, 4, 5] rfl))
theorem dL_law_3093 : decode cL_law 3093 = .ok (.aload_n 1, 1) := by decide +kernel
theorem dL_law_3094 : decode cL_law 3094 = .ok (.invokevirtual 335, 3) := by decide +kernel
theorem dL_law_3097 : decode cL_law 3097 = .ok (.aload_n 2, 1) := by decide +kernel
theorem dL_law_3098 : decode cL_law 3098 = .ok (.invokevirtual 338, 3) := by decide +kernel
theorem dL_law_3101 : decode cL_law 3101 = .ok (.if_icmp .eq 49, 3) := by decide +kernel
theorem dL_law_3104 : decode cL_law 3104 = .ok (.iconst 0, 1) := by decide +kernel
theorem dL_law_3105 : decode cL_law 3105 = .ok (.ireturn, 1) := by decide +kernel
set_option maxHeartbeats 4000000 in
set_option maxRecDepth 100000 in
theorem w_law_saveState {p : Program} {l : Launch} {e : Env} {s : State} {m : MethodId} {below : List Frame} {meth : Method} {c : Code} {G : Gx} {b L i n0 m0 aL aD : Nat} {xs : Nat → Int32} {iv : Int32} {cL cD : ClassId} {cells slots : Nat} {Rel : Nat → Sg → Sg → Prop} {nn : Nat} {Q : State → Prop} (hnn9 : nn < 600) (hst : l.stackTraces = false) (C : Cx p s m #[.ref b] meth c RL code 10 ret G) (F : Y_F G s n0 m0 aL aD cL cD) (hX : va_X b L xs s s.heap) (hbl : b < s.heap.size) (hi : Y_I iv i L) (hc : cells + 4 ≤ 601024) (hs : slots + 24 ≤ 7293034) (hE : E_saveState Rel)
    (hk : ∀ (σ ρ : Sg) (v : Int64) (w : UInt64) (H : Heap) (locs : List Loc) (ls : Array Slot), Rel (nn + 1) σ ρ → Y_S G s n0 m0 aL aD cL cD σ ρ v w H locs → lv_has ls 10 [(0, .ref b), (1, .ref n0), (2, .ref m0), (3, .ref aL), (4, .ref aD), (5, .int iv)] → W p l e room_1 s m #[.ref b] below meth c H locs (cells + 4) (slots + 24) Q (F0 m 3150 ls [])) :
    ∀ (σ ρ : Sg) (v : Int64) (w : UInt64) (H : Heap) (locs : List Loc) (ls : Array Slot), Rel nn σ ρ → Y_S G s n0 m0 aL aD cL cD σ ρ v w H locs → lv_has ls 10 [(0, .ref b), (1, .ref n0), (2, .ref m0), (3, .ref aL), (4, .ref aD), (5, .int iv)] → W p l e room_1 s m #[.ref b] below meth c H locs cells slots Q (F0 m 3093 ls []) := by
  intro σ ρ v w H locs ls hR S hl
  obtain ⟨r, σ', ρ', e7, e8, hR'⟩ := hE nn σ ρ  hnn9 hR 
  refine lv_aload_n C.1 C.2.1 dL_law_3093 rfl (lv_at hl 1 rfl) ?_
  refine Y_c0I (r := r) (σ' := σ') (As := []) C F S rfl (m_X7_saveState l G (Y_X n0) σ  r σ' e7 _) kv_X7_saveState tw_3_200 ⟨(Nat.le_of_ble_eq_true rfl), (Nat.le_of_ble_eq_true rfl)⟩ rfl rfl (Nat.le_of_ble_eq_true rfl) hl.1 ⟨by show cells + 0 ≤ 601024; omega, by show slots + 0 ≤ 7293034; omega⟩ dL_law_3094 (fun H locs S => ?_)
  refine lv_aload_n C.1 C.2.1 dL_law_3097 rfl (lv_at hl 2 rfl) ?_
  refine Y_c1I (r := r) (ρ' := ρ') (As := []) C F S rfl (m_X8_saveState l G (Y_Mo m0) ρ  r ρ' e8 _) kv_X8_saveState tw_8_201 ⟨(Nat.le_of_ble_eq_true rfl), (Nat.le_of_ble_eq_true rfl)⟩ rfl rfl (Nat.le_of_ble_eq_true rfl) hl.1 ⟨by show cells + 0 ≤ 601024; omega, by show slots + 0 ≤ 7293034; omega⟩ dL_law_3098 (fun H locs S => ?_)
  refine lv_icmp_eq (tgt := 3150) C.1 C.2.1 dL_law_3101 (by decide) (fun _ => ?_) (fun c9 => absurd rfl c9)
  exact W.widen (k := cells + 4) (n := slots + 24) (by omega) (by omega) (hk _ _ _ _ _ _ _ hR' S (lv_sub hl [0, 1, 2, 3, 4, 5] rfl))
theorem dL_law_3106 : decode cL_law 3106 = .ok (.aload_n 1, 1) := by decide +kernel
theorem dL_law_3107 : decode cL_law 3107 = .ok (.aload_n 3, 1) := by decide +kernel
theorem dL_law_3108 : decode cL_law 3108 = .ok (.invokestatic 339, 3) := by decide +kernel
theorem dL_law_3111 : decode cL_law 3111 = .ok (.istore 6, 2) := by decide +kernel
theorem dL_law_3113 : decode cL_law 3113 = .ok (.aload_n 2, 1) := by decide +kernel
theorem dL_law_3114 : decode cL_law 3114 = .ok (.invokevirtual 342, 3) := by decide +kernel
theorem dL_law_3117 : decode cL_law 3117 = .ok (.istore 7, 2) := by decide +kernel
theorem dL_law_3119 : decode cL_law 3119 = .ok (.aload_n 2, 1) := by decide +kernel
theorem dL_law_3120 : decode cL_law 3120 = .ok (.invokevirtual 169, 3) := by decide +kernel
theorem dL_law_3123 : decode cL_law 3123 = .ok (.iload 6, 2) := by decide +kernel
theorem dL_law_3125 : decode cL_law 3125 = .ok (.if_icmp .eq 5, 3) := by decide +kernel
theorem dL_law_3128 : decode cL_law 3128 = .ok (.iconst 0, 1) := by decide +kernel
theorem dL_law_3129 : decode cL_law 3129 = .ok (.ireturn, 1) := by decide +kernel
theorem dL_law_3130 : decode cL_law 3130 = .ok (.iload 6, 2) := by decide +kernel
theorem dL_law_3132 : decode cL_law 3132 = .ok (.ifCond .ne 15, 3) := by decide +kernel
theorem dL_law_3135 : decode cL_law 3135 = .ok (.aload_n 3, 1) := by decide +kernel
theorem dL_law_3136 : decode cL_law 3136 = .ok (.iconst 0, 1) := by decide +kernel
theorem dL_law_3137 : decode cL_law 3137 = .ok (.laload, 1) := by decide +kernel
theorem dL_law_3138 : decode cL_law 3138 = .ok (.iload 7, 2) := by decide +kernel
theorem dL_law_3140 : decode cL_law 3140 = .ok (.i2l, 1) := by decide +kernel
theorem dL_law_3141 : decode cL_law 3141 = .ok (.lcmp, 1) := by decide +kernel
theorem dL_law_3142 : decode cL_law 3142 = .ok (.ifCond .eq 5, 3) := by decide +kernel
theorem dL_law_3145 : decode cL_law 3145 = .ok (.iconst 0, 1) := by decide +kernel
theorem dL_law_3146 : decode cL_law 3146 = .ok (.ireturn, 1) := by decide +kernel
theorem dL_law_3147 : decode cL_law 3147 = .ok (.goto 3, 3) := by decide +kernel
set_option maxHeartbeats 4000000 in
set_option maxRecDepth 100000 in
theorem w_law_restoreState {p : Program} {l : Launch} {e : Env} {s : State} {m : MethodId} {below : List Frame} {meth : Method} {c : Code} {G : Gx} {b L i n0 m0 aL aD : Nat} {xs : Nat → Int32} {iv : Int32} {cL cD : ClassId} {cells slots : Nat} {Rel : Nat → Sg → Sg → Prop} {nn : Nat} {Q : State → Prop} (hnn9 : nn < 600) (hst : l.stackTraces = false) (C : Cx p s m #[.ref b] meth c RL code 10 ret G) (F : Y_F G s n0 m0 aL aD cL cD) (hX : va_X b L xs s s.heap) (hbl : b < s.heap.size) (hi : Y_I iv i L) (hc : cells + 4 ≤ 601024) (hs : slots + 24 ≤ 7293034) (hE : E_restoreState Rel)
    (hk : ∀ (σ ρ : Sg) (v : Int64) (w : UInt64) (H : Heap) (locs : List Loc) (ls : Array Slot), Rel (nn + 1) σ ρ → Y_S G s n0 m0 aL aD cL cD σ ρ v w H locs → lv_has ls 10 [(0, .ref b), (1, .ref n0), (2, .ref m0), (3, .ref aL), (4, .ref aD), (5, .int iv)] → W p l e room_1 s m #[.ref b] below meth c H locs (cells + 4) (slots + 24) Q (F0 m 3150 ls [])) :
    ∀ (σ ρ : Sg) (v : Int64) (w : UInt64) (H : Heap) (locs : List Loc) (ls : Array Slot), Rel nn σ ρ → Y_S G s n0 m0 aL aD cL cD σ ρ v w H locs → lv_has ls 10 [(0, .ref b), (1, .ref n0), (2, .ref m0), (3, .ref aL), (4, .ref aD), (5, .int iv)] → W p l e room_1 s m #[.ref b] below meth c H locs cells slots Q (F0 m 3106 ls []) := by
  intro σ ρ v w H locs ls hR S hl
  obtain ⟨q, wq, ρ', e7, hq, e8, hR', hth, hval⟩ := hE nn σ ρ  hnn9 hR 
  refine lv_aload_n C.1 C.2.1 dL_law_3106 rfl (lv_at hl 1 rfl) ?_
  refine lv_aload_n C.1 C.2.1 dL_law_3107 rfl (lv_at hl 3 rfl) ?_
  have hM := m_L_restoreState l hst G (Y_X n0) σ  q e7 hq cL aL v H.size
  rw [show (if q.1 = 0 then (Sum.inl q.2.1.toInt64 : Int64 ⊕ UInt64) else Sum.inl v) = Sum.inl (if q.1 = 0 then q.2.1.toInt64 else v) by split <;> rfl] at hM
  refine Y_wL (n := 2) (As := [.ref n0, .ref aL]) C F S hM (tt_6 (List.mem_of_getElem? (i := 98) (by decide +kernel)) (by decide +kernel)) tw_6_97 tw_1_0 ⟨by decide, by decide, by decide +kernel⟩ tw_6_96 ⟨(Nat.le_of_ble_eq_true rfl), (Nat.le_of_ble_eq_true rfl)⟩ rfl rfl (Nat.le_of_ble_eq_true rfl) hl.1 ⟨by show cells + 1 ≤ 601024; omega, by show slots + 6 ≤ 7293034; omega⟩ dL_law_3108 (fun H locs S => ?_)
  refine lv_istore (lv' := [(6, .int (L_k [(3, 1)] q.1)), (0, .ref b), (1, .ref n0), (2, .ref m0), (3, .ref aL), (4, .ref aD), (5, .int iv)]) C.1 C.2.1 dL_law_3111 hl (by decide) rfl (fun ls hl => ?_)
  refine lv_aload_n C.1 C.2.1 dL_law_3113 rfl (lv_at hl 3 rfl) ?_
  refine Y_c1I (r := wq) (ρ' := ρ') (As := []) C F S rfl (m_X8_restoreState l G (Y_Mo m0) ρ  wq ρ' e8 _) kv_X8_restoreState tw_8_205 ⟨(Nat.le_of_ble_eq_true rfl), (Nat.le_of_ble_eq_true rfl)⟩ rfl rfl (Nat.le_of_ble_eq_true rfl) hl.1 ⟨by show cells + 1 ≤ 601024; omega, by show slots + 6 ≤ 7293034; omega⟩ dL_law_3114 (fun H locs S => ?_)
  refine lv_istore (lv' := [(7, .int wq), (6, .int (L_k [(3, 1)] q.1)), (0, .ref b), (1, .ref n0), (2, .ref m0), (3, .ref aL), (4, .ref aD), (5, .int iv)]) C.1 C.2.1 dL_law_3117 hl (by decide) rfl (fun ls hl => ?_)
  refine lv_aload_n C.1 C.2.1 dL_law_3119 rfl (lv_at hl 4 rfl) ?_
  refine Y_c1I (r := ρ' 8 0 8) (ρ' := ρ') C F S rfl (As := []) (m_X8_thrown l G _ ρ' _ _ rfl _) kv_X8_thrown tw_6_188 ⟨(Nat.le_of_ble_eq_true rfl), (Nat.le_of_ble_eq_true rfl)⟩ rfl rfl (Nat.le_of_ble_eq_true rfl) hl.1 ⟨by show cells + 1 ≤ 601024; omega, by show slots + 6 ≤ 7293034; omega⟩ dL_law_3120 (fun H locs S => ?_)
  refine lv_iload C.1 C.2.1 dL_law_3123 (lv_at hl 1 rfl) ?_
  refine lv_icmp_eq (tgt := 3130) C.1 C.2.1 dL_law_3125 (by decide) (fun _ => ?_) (fun c9 => absurd hth c9)
  refine lv_iload C.1 C.2.1 dL_law_3130 (lv_at hl 1 rfl) ?_
  refine lv_if_ne (tgt := 3147) C.1 C.2.1 dL_law_3132 (by decide) (fun c9 => ?_) (fun c9 => ?_)
  · refine lv_goto (tgt := 3150) C.1 C.2.1 dL_law_3147 (by decide) ?_
    exact W.widen (k := cells + 4) (n := slots + 24) (by omega) (by omega) (hk _ _ _ _ _ _ _ hR' S (lv_sub hl [2, 3, 4, 5, 6, 7] rfl))
  have h0 : q.1 = 0 := by
    rcases hq with h | h
    · exact h
    · rw [h] at c9; exact absurd c9 (by decide)
  rw [if_pos h0, hval h0] at S
  refine lv_aload_n C.1 C.2.1 dL_law_3135 rfl (lv_at hl 5 rfl) ?_
  refine lv_iconst (v := 0) C.1 C.2.1 dL_law_3136 (by decide) ?_
  refine Y_lald C F S dL_law_3137 ?_
  refine lv_iload C.1 C.2.1 dL_law_3138 (lv_at hl 0 rfl) ?_
  refine lv_i2l C.1 C.2.1 dL_law_3140 rfl ?_
  refine W.lcmp C.1 C.2.1 dL_law_3141 ?_
  refine lv_if_eq (tgt := 3147) C.1 C.2.1 dL_law_3142 (by decide) (fun _ => ?_) (fun c9 => absurd (Y_cmp _) c9)
  refine lv_goto (tgt := 3150) C.1 C.2.1 dL_law_3147 (by decide) ?_
  exact W.widen (k := cells + 4) (n := slots + 24) (by omega) (by omega) (hk _ _ _ _ _ _ _ hR' S (lv_sub hl [2, 3, 4, 5, 6, 7] rfl))
