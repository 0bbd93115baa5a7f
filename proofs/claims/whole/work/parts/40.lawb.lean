theorem dL_law_1447 : decode cL_law 1447 = .ok (.aload_n 1, 1) := by decide +kernel
theorem dL_law_1448 : decode cL_law 1448 = .ok (.aload_n 0, 1) := by decide +kernel
theorem dL_law_1449 : decode cL_law 1449 = .ok (.iload 5, 2) := by decide +kernel
theorem dL_law_1451 : decode cL_law 1451 = .ok (.iconst 1, 1) := by decide +kernel
theorem dL_law_1452 : decode cL_law 1452 = .ok (.iadd, 1) := by decide +kernel
theorem dL_law_1453 : decode cL_law 1453 = .ok (.iaload, 1) := by decide +kernel
theorem dL_law_1454 : decode cL_law 1454 = .ok (.aload_n 3, 1) := by decide +kernel
theorem dL_law_1455 : decode cL_law 1455 = .ok (.invokestatic 217, 3) := by decide +kernel
theorem dL_law_1458 : decode cL_law 1458 = .ok (.istore 6, 2) := by decide +kernel
theorem dL_law_1460 : decode cL_law 1460 = .ok (.aload_n 2, 1) := by decide +kernel
theorem dL_law_1461 : decode cL_law 1461 = .ok (.aload_n 0, 1) := by decide +kernel
theorem dL_law_1462 : decode cL_law 1462 = .ok (.iload 5, 2) := by decide +kernel
theorem dL_law_1464 : decode cL_law 1464 = .ok (.iconst 1, 1) := by decide +kernel
theorem dL_law_1465 : decode cL_law 1465 = .ok (.iadd, 1) := by decide +kernel
theorem dL_law_1466 : decode cL_law 1466 = .ok (.iaload, 1) := by decide +kernel
theorem dL_law_1467 : decode cL_law 1467 = .ok (.invokevirtual 219, 3) := by decide +kernel
theorem dL_law_1470 : decode cL_law 1470 = .ok (.istore 7, 2) := by decide +kernel
theorem dL_law_1472 : decode cL_law 1472 = .ok (.aload_n 2, 1) := by decide +kernel
theorem dL_law_1473 : decode cL_law 1473 = .ok (.invokevirtual 169, 3) := by decide +kernel
theorem dL_law_1476 : decode cL_law 1476 = .ok (.iload 6, 2) := by decide +kernel
theorem dL_law_1478 : decode cL_law 1478 = .ok (.if_icmp .eq 5, 3) := by decide +kernel
theorem dL_law_1481 : decode cL_law 1481 = .ok (.iconst 0, 1) := by decide +kernel
theorem dL_law_1482 : decode cL_law 1482 = .ok (.ireturn, 1) := by decide +kernel
theorem dL_law_1483 : decode cL_law 1483 = .ok (.iload 6, 2) := by decide +kernel
theorem dL_law_1485 : decode cL_law 1485 = .ok (.ifCond .ne 15, 3) := by decide +kernel
theorem dL_law_1488 : decode cL_law 1488 = .ok (.aload_n 3, 1) := by decide +kernel
theorem dL_law_1489 : decode cL_law 1489 = .ok (.iconst 0, 1) := by decide +kernel
theorem dL_law_1490 : decode cL_law 1490 = .ok (.laload, 1) := by decide +kernel
theorem dL_law_1491 : decode cL_law 1491 = .ok (.iload 7, 2) := by decide +kernel
theorem dL_law_1493 : decode cL_law 1493 = .ok (.i2l, 1) := by decide +kernel
theorem dL_law_1494 : decode cL_law 1494 = .ok (.lcmp, 1) := by decide +kernel
theorem dL_law_1495 : decode cL_law 1495 = .ok (.ifCond .eq 5, 3) := by decide +kernel
theorem dL_law_1498 : decode cL_law 1498 = .ok (.iconst 0, 1) := by decide +kernel
theorem dL_law_1499 : decode cL_law 1499 = .ok (.ireturn, 1) := by decide +kernel
theorem dL_law_1500 : decode cL_law 1500 = .ok (.goto 1650, 3) := by decide +kernel
set_option maxHeartbeats 4000000 in
set_option maxRecDepth 100000 in
theorem w_law_run {p : Program} {l : Launch} {e : Env} {s : State} {m : MethodId} {below : List Frame} {meth : Method} {c : Code} {G : Gx} {b L i n0 m0 aL aD : Nat} {xs : Nat → Int32} {iv : Int32} {cL cD : ClassId} {cells slots : Nat} {Rel : Nat → Sg → Sg → Prop} {nn : Nat} {Q : State → Prop} (hnn9 : nn < 600) (hst : l.stackTraces = false) (C : Cx p s m #[.ref b] meth c RL code 10 ret G) (F : Y_F G s n0 m0 aL aD cL cD) (hX : va_X b L xs s s.heap) (hbl : b < s.heap.size) (hi : Y_I iv i L) (hc : cells + 4 ≤ 601024) (hs : slots + 24 ≤ 7293034) (hE : E_run Rel)
    (hk : ∀ (σ ρ : Sg) (v : Int64) (w : UInt64) (H : Heap) (locs : List Loc) (ls : Array Slot), Rel (nn + 1) σ ρ → Y_S G s n0 m0 aL aD cL cD σ ρ v w H locs → lv_has ls 10 [(0, .ref b), (1, .ref n0), (2, .ref m0), (3, .ref aL), (4, .ref aD), (5, .int iv)] → W p l e room_1 s m #[.ref b] below meth c H locs (cells + 4) (slots + 24) Q (F0 m 3150 ls [])) :
    ∀ (σ ρ : Sg) (v : Int64) (w : UInt64) (H : Heap) (locs : List Loc) (ls : Array Slot), Rel nn σ ρ → Y_S G s n0 m0 aL aD cL cD σ ρ v w H locs → lv_has ls 10 [(0, .ref b), (1, .ref n0), (2, .ref m0), (3, .ref aL), (4, .ref aD), (5, .int iv)] → W p l e room_1 s m #[.ref b] below meth c H locs cells slots Q (F0 m 1447 ls []) := by
  intro σ ρ v w H locs ls hR S hl
  obtain ⟨q, wq, ρ', e7, hq, e8, hR', hth, hval⟩ := hE nn σ ρ (xs (i + 1)) hnn9 hR 
  refine lv_aload_n C.1 C.2.1 dL_law_1447 rfl (lv_at hl 1 rfl) ?_
  refine lv_aload_n C.1 C.2.1 dL_law_1448 rfl (lv_at hl 0 rfl) ?_
  refine lv_iload C.1 C.2.1 dL_law_1449 (lv_at hl 5 rfl) ?_
  refine lv_iconst (v := 1) C.1 C.2.1 dL_law_1451 (by decide) ?_
  refine lv_iadd C.1 C.2.1 dL_law_1452 ?_
  refine Y_sld C S hX hbl hi.2.1.2.1 hi.2.1.1 hi.2.1.2.2 dL_law_1453 ?_
  refine lv_aload_n C.1 C.2.1 dL_law_1454 rfl (lv_at hl 3 rfl) ?_
  have hM := m_L_run l hst G (Y_X n0) σ (xs (i + 1)) q e7 hq cL aL v H.size
  rw [show (if q.1 = 0 then (Sum.inl q.2.1.toInt64 : Int64 ⊕ UInt64) else Sum.inl v) = Sum.inl (if q.1 = 0 then q.2.1.toInt64 else v) by split <;> rfl] at hM
  refine Y_wL (n := 3) (As := [.ref n0, .int (xs (i + 1)), .ref aL]) C F S hM (tt_5 (List.mem_of_getElem? (i := 30) (by decide +kernel)) (by decide +kernel)) tw_5_29 tw_1_0 ⟨by decide, by decide, by decide +kernel⟩ tw_5_28 ⟨(Nat.le_of_ble_eq_true rfl), (Nat.le_of_ble_eq_true rfl)⟩ rfl rfl (Nat.le_of_ble_eq_true rfl) hl.1 ⟨by show cells + 1 ≤ 601024; omega, by show slots + 6 ≤ 7293034; omega⟩ dL_law_1455 (fun H locs S => ?_)
  refine lv_istore (lv' := [(6, .int (L_k [(2, 1)] q.1)), (0, .ref b), (1, .ref n0), (2, .ref m0), (3, .ref aL), (4, .ref aD), (5, .int iv)]) C.1 C.2.1 dL_law_1458 hl (by decide) rfl (fun ls hl => ?_)
  refine lv_aload_n C.1 C.2.1 dL_law_1460 rfl (lv_at hl 3 rfl) ?_
  refine lv_aload_n C.1 C.2.1 dL_law_1461 rfl (lv_at hl 1 rfl) ?_
  refine lv_iload C.1 C.2.1 dL_law_1462 (lv_at hl 6 rfl) ?_
  refine lv_iconst (v := 1) C.1 C.2.1 dL_law_1464 (by decide) ?_
  refine lv_iadd C.1 C.2.1 dL_law_1465 ?_
  refine Y_sld C S hX hbl hi.2.1.2.1 hi.2.1.1 hi.2.1.2.2 dL_law_1466 ?_
  refine Y_c1I (r := wq) (ρ' := ρ') (As := [.int (xs (i + 1))]) C F S rfl (m_X8_run l G (Y_Mo m0) ρ (xs (i + 1)) wq ρ' e8 _) kv_X8_run tw_7_182 ⟨(Nat.le_of_ble_eq_true rfl), (Nat.le_of_ble_eq_true rfl)⟩ rfl rfl (Nat.le_of_ble_eq_true rfl) hl.1 ⟨by show cells + 1 ≤ 601024; omega, by show slots + 6 ≤ 7293034; omega⟩ dL_law_1467 (fun H locs S => ?_)
  refine lv_istore (lv' := [(7, .int wq), (6, .int (L_k [(2, 1)] q.1)), (0, .ref b), (1, .ref n0), (2, .ref m0), (3, .ref aL), (4, .ref aD), (5, .int iv)]) C.1 C.2.1 dL_law_1470 hl (by decide) rfl (fun ls hl => ?_)
  refine lv_aload_n C.1 C.2.1 dL_law_1472 rfl (lv_at hl 4 rfl) ?_
  refine Y_c1I (r := ρ' 8 0 8) (ρ' := ρ') C F S rfl (As := []) (m_X8_thrown l G _ ρ' _ _ rfl _) kv_X8_thrown tw_6_188 ⟨(Nat.le_of_ble_eq_true rfl), (Nat.le_of_ble_eq_true rfl)⟩ rfl rfl (Nat.le_of_ble_eq_true rfl) hl.1 ⟨by show cells + 1 ≤ 601024; omega, by show slots + 6 ≤ 7293034; omega⟩ dL_law_1473 (fun H locs S => ?_)
  refine lv_iload C.1 C.2.1 dL_law_1476 (lv_at hl 1 rfl) ?_
  refine lv_icmp_eq (tgt := 1483) C.1 C.2.1 dL_law_1478 (by decide) (fun _ => ?_) (fun c9 => absurd hth c9)
  refine lv_iload C.1 C.2.1 dL_law_1483 (lv_at hl 1 rfl) ?_
  refine lv_if_ne (tgt := 1500) C.1 C.2.1 dL_law_1485 (by decide) (fun c9 => ?_) (fun c9 => ?_)
  · refine lv_goto (tgt := 3150) C.1 C.2.1 dL_law_1500 (by decide) ?_
    exact W.widen (k := cells + 4) (n := slots + 24) (by omega) (by omega) (hk _ _ _ _ _ _ _ hR' S (lv_sub hl [2, 3, 4, 5, 6, 7] rfl))
  have h0 : q.1 = 0 := by
    rcases hq with h | h
    · exact h
    · rw [h] at c9; exact absurd c9 (by decide)
  rw [if_pos h0, hval h0] at S
  refine lv_aload_n C.1 C.2.1 dL_law_1488 rfl (lv_at hl 5 rfl) ?_
  refine lv_iconst (v := 0) C.1 C.2.1 dL_law_1489 (by decide) ?_
  refine Y_lald C F S dL_law_1490 ?_
  refine lv_iload C.1 C.2.1 dL_law_1491 (lv_at hl 0 rfl) ?_
  refine lv_i2l C.1 C.2.1 dL_law_1493 rfl ?_
  refine W.lcmp C.1 C.2.1 dL_law_1494 ?_
  refine lv_if_eq (tgt := 1500) C.1 C.2.1 dL_law_1495 (by decide) (fun _ => ?_) (fun c9 => absurd (Y_cmp _) c9)
  refine lv_goto (tgt := 3150) C.1 C.2.1 dL_law_1500 (by decide) ?_
  exact W.widen (k := cells + 4) (n := slots + 24) (by omega) (by omega) (hk _ _ _ _ _ _ _ hR' S (lv_sub hl [2, 3, 4, 5, 6, 7] rfl))
theorem dL_law_1503 : decode cL_law 1503 = .ok (.aload_n 1, 1) := by decide +kernel
theorem dL_law_1504 : decode cL_law 1504 = .ok (.aload_n 0, 1) := by decide +kernel
theorem dL_law_1505 : decode cL_law 1505 = .ok (.iload 5, 2) := by decide +kernel
theorem dL_law_1507 : decode cL_law 1507 = .ok (.iconst 1, 1) := by decide +kernel
theorem dL_law_1508 : decode cL_law 1508 = .ok (.iadd, 1) := by decide +kernel
theorem dL_law_1509 : decode cL_law 1509 = .ok (.iaload, 1) := by decide +kernel
theorem dL_law_1510 : decode cL_law 1510 = .ok (.aload_n 0, 1) := by decide +kernel
theorem dL_law_1511 : decode cL_law 1511 = .ok (.iload 5, 2) := by decide +kernel
theorem dL_law_1513 : decode cL_law 1513 = .ok (.iconst 2, 1) := by decide +kernel
theorem dL_law_1514 : decode cL_law 1514 = .ok (.iadd, 1) := by decide +kernel
theorem dL_law_1515 : decode cL_law 1515 = .ok (.iaload, 1) := by decide +kernel
theorem dL_law_1516 : decode cL_law 1516 = .ok (.ifCond .eq 7, 3) := by decide +kernel
theorem dL_law_1519 : decode cL_law 1519 = .ok (.iconst 1, 1) := by decide +kernel
theorem dL_law_1520 : decode cL_law 1520 = .ok (.goto 4, 3) := by decide +kernel
theorem dL_law_1523 : decode cL_law 1523 = .ok (.iconst 0, 1) := by decide +kernel
theorem dL_law_1524 : decode cL_law 1524 = .ok (.aload_n 3, 1) := by decide +kernel
theorem dL_law_1525 : decode cL_law 1525 = .ok (.invokestatic 220, 3) := by decide +kernel
theorem dL_law_1528 : decode cL_law 1528 = .ok (.istore 6, 2) := by decide +kernel
theorem dL_law_1530 : decode cL_law 1530 = .ok (.aload_n 2, 1) := by decide +kernel
theorem dL_law_1531 : decode cL_law 1531 = .ok (.aload_n 0, 1) := by decide +kernel
theorem dL_law_1532 : decode cL_law 1532 = .ok (.iload 5, 2) := by decide +kernel
theorem dL_law_1534 : decode cL_law 1534 = .ok (.iconst 1, 1) := by decide +kernel
theorem dL_law_1535 : decode cL_law 1535 = .ok (.iadd, 1) := by decide +kernel
theorem dL_law_1536 : decode cL_law 1536 = .ok (.iaload, 1) := by decide +kernel
theorem dL_law_1537 : decode cL_law 1537 = .ok (.aload_n 0, 1) := by decide +kernel
theorem dL_law_1538 : decode cL_law 1538 = .ok (.iload 5, 2) := by decide +kernel
theorem dL_law_1540 : decode cL_law 1540 = .ok (.iconst 2, 1) := by decide +kernel
theorem dL_law_1541 : decode cL_law 1541 = .ok (.iadd, 1) := by decide +kernel
theorem dL_law_1542 : decode cL_law 1542 = .ok (.iaload, 1) := by decide +kernel
theorem dL_law_1543 : decode cL_law 1543 = .ok (.ifCond .eq 7, 3) := by decide +kernel
theorem dL_law_1546 : decode cL_law 1546 = .ok (.iconst 1, 1) := by decide +kernel
theorem dL_law_1547 : decode cL_law 1547 = .ok (.goto 4, 3) := by decide +kernel
theorem dL_law_1550 : decode cL_law 1550 = .ok (.iconst 0, 1) := by decide +kernel
theorem dL_law_1551 : decode cL_law 1551 = .ok (.invokevirtual 222, 3) := by decide +kernel
theorem dL_law_1554 : decode cL_law 1554 = .ok (.istore 7, 2) := by decide +kernel
theorem dL_law_1556 : decode cL_law 1556 = .ok (.aload_n 2, 1) := by decide +kernel
theorem dL_law_1557 : decode cL_law 1557 = .ok (.invokevirtual 169, 3) := by decide +kernel
theorem dL_law_1560 : decode cL_law 1560 = .ok (.iload 6, 2) := by decide +kernel
theorem dL_law_1562 : decode cL_law 1562 = .ok (.if_icmp .eq 5, 3) := by decide +kernel
theorem dL_law_1565 : decode cL_law 1565 = .ok (.iconst 0, 1) := by decide +kernel
theorem dL_law_1566 : decode cL_law 1566 = .ok (.ireturn, 1) := by decide +kernel
theorem dL_law_1567 : decode cL_law 1567 = .ok (.iload 6, 2) := by decide +kernel
theorem dL_law_1569 : decode cL_law 1569 = .ok (.ifCond .ne 22, 3) := by decide +kernel
theorem dL_law_1572 : decode cL_law 1572 = .ok (.aload_n 3, 1) := by decide +kernel
theorem dL_law_1573 : decode cL_law 1573 = .ok (.iconst 0, 1) := by decide +kernel
theorem dL_law_1574 : decode cL_law 1574 = .ok (.laload, 1) := by decide +kernel
theorem dL_law_1575 : decode cL_law 1575 = .ok (.iload 7, 2) := by decide +kernel
theorem dL_law_1577 : decode cL_law 1577 = .ok (.ifCond .eq 7, 3) := by decide +kernel
theorem dL_law_1580 : decode cL_law 1580 = .ok (.lconst 1, 1) := by decide +kernel
theorem dL_law_1581 : decode cL_law 1581 = .ok (.goto 4, 3) := by decide +kernel
theorem dL_law_1584 : decode cL_law 1584 = .ok (.lconst 0, 1) := by decide +kernel
theorem dL_law_1585 : decode cL_law 1585 = .ok (.lcmp, 1) := by decide +kernel
theorem dL_law_1586 : decode cL_law 1586 = .ok (.ifCond .eq 5, 3) := by decide +kernel
theorem dL_law_1589 : decode cL_law 1589 = .ok (.iconst 0, 1) := by decide +kernel
theorem dL_law_1590 : decode cL_law 1590 = .ok (.ireturn, 1) := by decide +kernel
theorem dL_law_1591 : decode cL_law 1591 = .ok (.goto 1559, 3) := by decide +kernel
set_option maxHeartbeats 4000000 in
set_option maxRecDepth 100000 in
theorem w_law_setStopped {p : Program} {l : Launch} {e : Env} {s : State} {m : MethodId} {below : List Frame} {meth : Method} {c : Code} {G : Gx} {b L i n0 m0 aL aD : Nat} {xs : Nat → Int32} {iv : Int32} {cL cD : ClassId} {cells slots : Nat} {Rel : Nat → Sg → Sg → Prop} {nn : Nat} {Q : State → Prop} (hnn9 : nn < 600) (hst : l.stackTraces = false) (C : Cx p s m #[.ref b] meth c RL code 10 ret G) (F : Y_F G s n0 m0 aL aD cL cD) (hX : va_X b L xs s s.heap) (hbl : b < s.heap.size) (hi : Y_I iv i L) (hc : cells + 4 ≤ 601024) (hs : slots + 24 ≤ 7293034) (hE : E_setStopped Rel)
    (hk : ∀ (σ ρ : Sg) (v : Int64) (w : UInt64) (H : Heap) (locs : List Loc) (ls : Array Slot), Rel (nn + 1) σ ρ → Y_S G s n0 m0 aL aD cL cD σ ρ v w H locs → lv_has ls 10 [(0, .ref b), (1, .ref n0), (2, .ref m0), (3, .ref aL), (4, .ref aD), (5, .int iv)] → W p l e room_1 s m #[.ref b] below meth c H locs (cells + 4) (slots + 24) Q (F0 m 3150 ls [])) :
    ∀ (σ ρ : Sg) (v : Int64) (w : UInt64) (H : Heap) (locs : List Loc) (ls : Array Slot), Rel nn σ ρ → Y_S G s n0 m0 aL aD cL cD σ ρ v w H locs → lv_has ls 10 [(0, .ref b), (1, .ref n0), (2, .ref m0), (3, .ref aL), (4, .ref aD), (5, .int iv)] → W p l e room_1 s m #[.ref b] below meth c H locs cells slots Q (F0 m 1503 ls []) := by
  intro σ ρ v w H locs ls hR S hl
  by_cases hb0 : xs (i + 2) = 0
  · obtain ⟨q, wq, ρ', e7, hq, e8, hR', hth, hval⟩ := hE nn σ ρ (xs (i + 1)) 0 hnn9 hR (Or.inl rfl)
    refine lv_aload_n C.1 C.2.1 dL_law_1503 rfl (lv_at hl 1 rfl) ?_
    refine lv_aload_n C.1 C.2.1 dL_law_1504 rfl (lv_at hl 0 rfl) ?_
    refine lv_iload C.1 C.2.1 dL_law_1505 (lv_at hl 5 rfl) ?_
    refine lv_iconst (v := 1) C.1 C.2.1 dL_law_1507 (by decide) ?_
    refine lv_iadd C.1 C.2.1 dL_law_1508 ?_
    refine Y_sld C S hX hbl hi.2.1.2.1 hi.2.1.1 hi.2.1.2.2 dL_law_1509 ?_
    refine lv_aload_n C.1 C.2.1 dL_law_1510 rfl (lv_at hl 0 rfl) ?_
    refine lv_iload C.1 C.2.1 dL_law_1511 (lv_at hl 5 rfl) ?_
    refine lv_iconst (v := 2) C.1 C.2.1 dL_law_1513 (by decide) ?_
    refine lv_iadd C.1 C.2.1 dL_law_1514 ?_
    refine Y_sld C S hX hbl hi.2.2.1.2.1 hi.2.2.1.1 hi.2.2.1.2.2 dL_law_1515 ?_
    refine lv_if_eq (tgt := 1523) C.1 C.2.1 dL_law_1516 (by decide) (fun _ => ?_) (fun c9 => absurd hb0 c9)
    refine lv_iconst (v := 0) C.1 C.2.1 dL_law_1523 (by decide) ?_
    refine lv_aload_n C.1 C.2.1 dL_law_1524 rfl (lv_at hl 3 rfl) ?_
    have hM := m_L_setStopped l hst G (Y_X n0) σ (xs (i + 1)) 0 q e7 hq cL aL v H.size
    rw [show (if q.1 = 0 then (Sum.inl (if q.2.1 = 0 then 0 else 1) : Int64 ⊕ UInt64) else Sum.inl v) = Sum.inl (if q.1 = 0 then (if q.2.1 = 0 then 0 else 1) else v) by split <;> rfl] at hM
    refine Y_wL (n := 4) (As := [.ref n0, .int (xs (i + 1)), .int 0, .ref aL]) C F S hM (tt_5 (List.mem_of_getElem? (i := 164) (by decide +kernel)) (by decide +kernel)) tw_5_163 tw_1_0 ⟨by decide, by decide, by decide +kernel⟩ tw_5_162 ⟨(Nat.le_of_ble_eq_true rfl), (Nat.le_of_ble_eq_true rfl)⟩ rfl rfl (Nat.le_of_ble_eq_true rfl) hl.1 ⟨by show cells + 1 ≤ 601024; omega, by show slots + 6 ≤ 7293034; omega⟩ dL_law_1525 (fun H locs S => ?_)
    refine lv_istore (lv' := [(6, .int (L_k [(1, 1)] q.1)), (0, .ref b), (1, .ref n0), (2, .ref m0), (3, .ref aL), (4, .ref aD), (5, .int iv)]) C.1 C.2.1 dL_law_1528 hl (by decide) rfl (fun ls hl => ?_)
    refine lv_aload_n C.1 C.2.1 dL_law_1530 rfl (lv_at hl 3 rfl) ?_
    refine lv_aload_n C.1 C.2.1 dL_law_1531 rfl (lv_at hl 1 rfl) ?_
    refine lv_iload C.1 C.2.1 dL_law_1532 (lv_at hl 6 rfl) ?_
    refine lv_iconst (v := 1) C.1 C.2.1 dL_law_1534 (by decide) ?_
    refine lv_iadd C.1 C.2.1 dL_law_1535 ?_
    refine Y_sld C S hX hbl hi.2.1.2.1 hi.2.1.1 hi.2.1.2.2 dL_law_1536 ?_
    refine lv_aload_n C.1 C.2.1 dL_law_1537 rfl (lv_at hl 1 rfl) ?_
    refine lv_iload C.1 C.2.1 dL_law_1538 (lv_at hl 6 rfl) ?_
    refine lv_iconst (v := 2) C.1 C.2.1 dL_law_1540 (by decide) ?_
    refine lv_iadd C.1 C.2.1 dL_law_1541 ?_
    refine Y_sld C S hX hbl hi.2.2.1.2.1 hi.2.2.1.1 hi.2.2.1.2.2 dL_law_1542 ?_
    refine lv_if_eq (tgt := 1550) C.1 C.2.1 dL_law_1543 (by decide) (fun _ => ?_) (fun c9 => absurd hb0 c9)
    refine lv_iconst (v := 0) C.1 C.2.1 dL_law_1550 (by decide) ?_
    refine Y_c1I (r := wq) (ρ' := ρ') (As := [.int (xs (i + 1)), .int 0]) C F S rfl (m_X8_setStopped l G (Y_Mo m0) ρ (xs (i + 1)) 0 wq ρ' e8 _) kv_X8_setStopped tw_8_30 ⟨(Nat.le_of_ble_eq_true rfl), (Nat.le_of_ble_eq_true rfl)⟩ rfl rfl (Nat.le_of_ble_eq_true rfl) hl.1 ⟨by show cells + 1 ≤ 601024; omega, by show slots + 6 ≤ 7293034; omega⟩ dL_law_1551 (fun H locs S => ?_)
    refine lv_istore (lv' := [(7, .int wq), (6, .int (L_k [(1, 1)] q.1)), (0, .ref b), (1, .ref n0), (2, .ref m0), (3, .ref aL), (4, .ref aD), (5, .int iv)]) C.1 C.2.1 dL_law_1554 hl (by decide) rfl (fun ls hl => ?_)
    refine lv_aload_n C.1 C.2.1 dL_law_1556 rfl (lv_at hl 4 rfl) ?_
    refine Y_c1I (r := ρ' 8 0 8) (ρ' := ρ') C F S rfl (As := []) (m_X8_thrown l G _ ρ' _ _ rfl _) kv_X8_thrown tw_6_188 ⟨(Nat.le_of_ble_eq_true rfl), (Nat.le_of_ble_eq_true rfl)⟩ rfl rfl (Nat.le_of_ble_eq_true rfl) hl.1 ⟨by show cells + 1 ≤ 601024; omega, by show slots + 6 ≤ 7293034; omega⟩ dL_law_1557 (fun H locs S => ?_)
    refine lv_iload C.1 C.2.1 dL_law_1560 (lv_at hl 1 rfl) ?_
    refine lv_icmp_eq (tgt := 1567) C.1 C.2.1 dL_law_1562 (by decide) (fun _ => ?_) (fun c9 => absurd hth c9)
    refine lv_iload C.1 C.2.1 dL_law_1567 (lv_at hl 1 rfl) ?_
    refine lv_if_ne (tgt := 1591) C.1 C.2.1 dL_law_1569 (by decide) (fun c9 => ?_) (fun c9 => ?_)
    · refine lv_goto (tgt := 3150) C.1 C.2.1 dL_law_1591 (by decide) ?_
      exact W.widen (k := cells + 4) (n := slots + 24) (by omega) (by omega) (hk _ _ _ _ _ _ _ hR' S (lv_sub hl [2, 3, 4, 5, 6, 7] rfl))
    have h0 : q.1 = 0 := by
      rcases hq with h | h
      · exact h
      · rw [h] at c9; exact absurd c9 (by decide)
    rw [if_pos h0, hval h0] at S
    refine lv_aload_n C.1 C.2.1 dL_law_1572 rfl (lv_at hl 5 rfl) ?_
    refine lv_iconst (v := 0) C.1 C.2.1 dL_law_1573 (by decide) ?_
    refine Y_lald C F S dL_law_1574 ?_
    refine lv_iload C.1 C.2.1 dL_law_1575 (lv_at hl 0 rfl) ?_
    refine lv_if_eq (tgt := 1584) C.1 C.2.1 dL_law_1577 (by decide) (fun c9 => ?_) (fun c9 => ?_)
    · rw [if_pos c9] at S ⊢
      refine lv_lconst (v := 0) C.1 C.2.1 dL_law_1584 rfl ?_
      refine W.lcmp C.1 C.2.1 dL_law_1585 ?_
      refine lv_if_eq (tgt := 1591) C.1 C.2.1 dL_law_1586 (by decide) (fun _ => ?_) (fun c9 => absurd (Y_cmp _) c9)
      refine lv_goto (tgt := 3150) C.1 C.2.1 dL_law_1591 (by decide) ?_
      exact W.widen (k := cells + 4) (n := slots + 24) (by omega) (by omega) (hk _ _ _ _ _ _ _ hR' S (lv_sub hl [2, 3, 4, 5, 6, 7] rfl))
    · rw [if_neg c9] at S ⊢
      refine lv_lconst (v := 1) C.1 C.2.1 dL_law_1580 rfl ?_
      refine lv_goto (tgt := 1585) C.1 C.2.1 dL_law_1581 (by decide) ?_
      refine W.lcmp C.1 C.2.1 dL_law_1585 ?_
      refine lv_if_eq (tgt := 1591) C.1 C.2.1 dL_law_1586 (by decide) (fun _ => ?_) (fun c9 => absurd (Y_cmp _) c9)
      refine lv_goto (tgt := 3150) C.1 C.2.1 dL_law_1591 (by decide) ?_
      exact W.widen (k := cells + 4) (n := slots + 24) (by omega) (by omega) (hk _ _ _ _ _ _ _ hR' S (lv_sub hl [2, 3, 4, 5, 6, 7] rfl))
  · obtain ⟨q, wq, ρ', e7, hq, e8, hR', hth, hval⟩ := hE nn σ ρ (xs (i + 1)) 1 hnn9 hR (Or.inr rfl)
    refine lv_aload_n C.1 C.2.1 dL_law_1503 rfl (lv_at hl 1 rfl) ?_
    refine lv_aload_n C.1 C.2.1 dL_law_1504 rfl (lv_at hl 0 rfl) ?_
    refine lv_iload C.1 C.2.1 dL_law_1505 (lv_at hl 5 rfl) ?_
    refine lv_iconst (v := 1) C.1 C.2.1 dL_law_1507 (by decide) ?_
    refine lv_iadd C.1 C.2.1 dL_law_1508 ?_
    refine Y_sld C S hX hbl hi.2.1.2.1 hi.2.1.1 hi.2.1.2.2 dL_law_1509 ?_
    refine lv_aload_n C.1 C.2.1 dL_law_1510 rfl (lv_at hl 0 rfl) ?_
    refine lv_iload C.1 C.2.1 dL_law_1511 (lv_at hl 5 rfl) ?_
    refine lv_iconst (v := 2) C.1 C.2.1 dL_law_1513 (by decide) ?_
    refine lv_iadd C.1 C.2.1 dL_law_1514 ?_
    refine Y_sld C S hX hbl hi.2.2.1.2.1 hi.2.2.1.1 hi.2.2.1.2.2 dL_law_1515 ?_
    refine lv_if_eq (tgt := 1523) C.1 C.2.1 dL_law_1516 (by decide) (fun c9 => absurd c9 hb0) (fun _ => ?_)
    refine lv_iconst (v := 1) C.1 C.2.1 dL_law_1519 (by decide) ?_
    refine lv_goto (tgt := 1524) C.1 C.2.1 dL_law_1520 (by decide) ?_
    refine lv_aload_n C.1 C.2.1 dL_law_1524 rfl (lv_at hl 3 rfl) ?_
    have hM := m_L_setStopped l hst G (Y_X n0) σ (xs (i + 1)) 1 q e7 hq cL aL v H.size
    rw [show (if q.1 = 0 then (Sum.inl (if q.2.1 = 0 then 0 else 1) : Int64 ⊕ UInt64) else Sum.inl v) = Sum.inl (if q.1 = 0 then (if q.2.1 = 0 then 0 else 1) else v) by split <;> rfl] at hM
    refine Y_wL (n := 4) (As := [.ref n0, .int (xs (i + 1)), .int 1, .ref aL]) C F S hM (tt_5 (List.mem_of_getElem? (i := 164) (by decide +kernel)) (by decide +kernel)) tw_5_163 tw_1_0 ⟨by decide, by decide, by decide +kernel⟩ tw_5_162 ⟨(Nat.le_of_ble_eq_true rfl), (Nat.le_of_ble_eq_true rfl)⟩ rfl rfl (Nat.le_of_ble_eq_true rfl) hl.1 ⟨by show cells + 1 ≤ 601024; omega, by show slots + 6 ≤ 7293034; omega⟩ dL_law_1525 (fun H locs S => ?_)
    refine lv_istore (lv' := [(6, .int (L_k [(1, 1)] q.1)), (0, .ref b), (1, .ref n0), (2, .ref m0), (3, .ref aL), (4, .ref aD), (5, .int iv)]) C.1 C.2.1 dL_law_1528 hl (by decide) rfl (fun ls hl => ?_)
    refine lv_aload_n C.1 C.2.1 dL_law_1530 rfl (lv_at hl 3 rfl) ?_
    refine lv_aload_n C.1 C.2.1 dL_law_1531 rfl (lv_at hl 1 rfl) ?_
    refine lv_iload C.1 C.2.1 dL_law_1532 (lv_at hl 6 rfl) ?_
    refine lv_iconst (v := 1) C.1 C.2.1 dL_law_1534 (by decide) ?_
    refine lv_iadd C.1 C.2.1 dL_law_1535 ?_
    refine Y_sld C S hX hbl hi.2.1.2.1 hi.2.1.1 hi.2.1.2.2 dL_law_1536 ?_
    refine lv_aload_n C.1 C.2.1 dL_law_1537 rfl (lv_at hl 1 rfl) ?_
    refine lv_iload C.1 C.2.1 dL_law_1538 (lv_at hl 6 rfl) ?_
    refine lv_iconst (v := 2) C.1 C.2.1 dL_law_1540 (by decide) ?_
    refine lv_iadd C.1 C.2.1 dL_law_1541 ?_
    refine Y_sld C S hX hbl hi.2.2.1.2.1 hi.2.2.1.1 hi.2.2.1.2.2 dL_law_1542 ?_
    refine lv_if_eq (tgt := 1550) C.1 C.2.1 dL_law_1543 (by decide) (fun c9 => absurd c9 hb0) (fun _ => ?_)
    refine lv_iconst (v := 1) C.1 C.2.1 dL_law_1546 (by decide) ?_
    refine lv_goto (tgt := 1551) C.1 C.2.1 dL_law_1547 (by decide) ?_
    refine Y_c1I (r := wq) (ρ' := ρ') (As := [.int (xs (i + 1)), .int 1]) C F S rfl (m_X8_setStopped l G (Y_Mo m0) ρ (xs (i + 1)) 1 wq ρ' e8 _) kv_X8_setStopped tw_8_30 ⟨(Nat.le_of_ble_eq_true rfl), (Nat.le_of_ble_eq_true rfl)⟩ rfl rfl (Nat.le_of_ble_eq_true rfl) hl.1 ⟨by show cells + 1 ≤ 601024; omega, by show slots + 6 ≤ 7293034; omega⟩ dL_law_1551 (fun H locs S => ?_)
    refine lv_istore (lv' := [(7, .int wq), (6, .int (L_k [(1, 1)] q.1)), (0, .ref b), (1, .ref n0), (2, .ref m0), (3, .ref aL), (4, .ref aD), (5, .int iv)]) C.1 C.2.1 dL_law_1554 hl (by decide) rfl (fun ls hl => ?_)
    refine lv_aload_n C.1 C.2.1 dL_law_1556 rfl (lv_at hl 4 rfl) ?_
    refine Y_c1I (r := ρ' 8 0 8) (ρ' := ρ') C F S rfl (As := []) (m_X8_thrown l G _ ρ' _ _ rfl _) kv_X8_thrown tw_6_188 ⟨(Nat.le_of_ble_eq_true rfl), (Nat.le_of_ble_eq_true rfl)⟩ rfl rfl (Nat.le_of_ble_eq_true rfl) hl.1 ⟨by show cells + 1 ≤ 601024; omega, by show slots + 6 ≤ 7293034; omega⟩ dL_law_1557 (fun H locs S => ?_)
    refine lv_iload C.1 C.2.1 dL_law_1560 (lv_at hl 1 rfl) ?_
    refine lv_icmp_eq (tgt := 1567) C.1 C.2.1 dL_law_1562 (by decide) (fun _ => ?_) (fun c9 => absurd hth c9)
    refine lv_iload C.1 C.2.1 dL_law_1567 (lv_at hl 1 rfl) ?_
    refine lv_if_ne (tgt := 1591) C.1 C.2.1 dL_law_1569 (by decide) (fun c9 => ?_) (fun c9 => ?_)
    · refine lv_goto (tgt := 3150) C.1 C.2.1 dL_law_1591 (by decide) ?_
      exact W.widen (k := cells + 4) (n := slots + 24) (by omega) (by omega) (hk _ _ _ _ _ _ _ hR' S (lv_sub hl [2, 3, 4, 5, 6, 7] rfl))
    have h0 : q.1 = 0 := by
      rcases hq with h | h
      · exact h
      · rw [h] at c9; exact absurd c9 (by decide)
    rw [if_pos h0, hval h0] at S
    refine lv_aload_n C.1 C.2.1 dL_law_1572 rfl (lv_at hl 5 rfl) ?_
    refine lv_iconst (v := 0) C.1 C.2.1 dL_law_1573 (by decide) ?_
    refine Y_lald C F S dL_law_1574 ?_
    refine lv_iload C.1 C.2.1 dL_law_1575 (lv_at hl 0 rfl) ?_
    refine lv_if_eq (tgt := 1584) C.1 C.2.1 dL_law_1577 (by decide) (fun c9 => ?_) (fun c9 => ?_)
    · rw [if_pos c9] at S ⊢
      refine lv_lconst (v := 0) C.1 C.2.1 dL_law_1584 rfl ?_
      refine W.lcmp C.1 C.2.1 dL_law_1585 ?_
      refine lv_if_eq (tgt := 1591) C.1 C.2.1 dL_law_1586 (by decide) (fun _ => ?_) (fun c9 => absurd (Y_cmp _) c9)
      refine lv_goto (tgt := 3150) C.1 C.2.1 dL_law_1591 (by decide) ?_
      exact W.widen (k := cells + 4) (n := slots + 24) (by omega) (by omega) (hk _ _ _ _ _ _ _ hR' S (lv_sub hl [2, 3, 4, 5, 6, 7] rfl))
    · rw [if_neg c9] at S ⊢
      refine lv_lconst (v := 1) C.1 C.2.1 dL_law_1580 rfl ?_
      refine lv_goto (tgt := 1585) C.1 C.2.1 dL_law_1581 (by decide) ?_
      refine W.lcmp C.1 C.2.1 dL_law_1585 ?_
      refine lv_if_eq (tgt := 1591) C.1 C.2.1 dL_law_1586 (by decide) (fun _ => ?_) (fun c9 => absurd (Y_cmp _) c9)
      refine lv_goto (tgt := 3150) C.1 C.2.1 dL_law_1591 (by decide) ?_
      exact W.widen (k := cells + 4) (n := slots + 24) (by omega) (by omega) (hk _ _ _ _ _ _ _ hR' S (lv_sub hl [2, 3, 4, 5, 6, 7] rfl))
theorem dL_law_1594 : decode cL_law 1594 = .ok (.aload_n 1, 1) := by decide +kernel
theorem dL_law_1595 : decode cL_law 1595 = .ok (.aload_n 0, 1) := by decide +kernel
theorem dL_law_1596 : decode cL_law 1596 = .ok (.iload 5, 2) := by decide +kernel
theorem dL_law_1598 : decode cL_law 1598 = .ok (.iconst 1, 1) := by decide +kernel
theorem dL_law_1599 : decode cL_law 1599 = .ok (.iadd, 1) := by decide +kernel
theorem dL_law_1600 : decode cL_law 1600 = .ok (.iaload, 1) := by decide +kernel
theorem dL_law_1601 : decode cL_law 1601 = .ok (.aload_n 0, 1) := by decide +kernel
theorem dL_law_1602 : decode cL_law 1602 = .ok (.iload 5, 2) := by decide +kernel
theorem dL_law_1604 : decode cL_law 1604 = .ok (.iconst 2, 1) := by decide +kernel
theorem dL_law_1605 : decode cL_law 1605 = .ok (.iadd, 1) := by decide +kernel
theorem dL_law_1606 : decode cL_law 1606 = .ok (.iaload, 1) := by decide +kernel
theorem dL_law_1607 : decode cL_law 1607 = .ok (.ifCond .eq 7, 3) := by decide +kernel
theorem dL_law_1610 : decode cL_law 1610 = .ok (.iconst 1, 1) := by decide +kernel
theorem dL_law_1611 : decode cL_law 1611 = .ok (.goto 4, 3) := by decide +kernel
theorem dL_law_1614 : decode cL_law 1614 = .ok (.iconst 0, 1) := by decide +kernel
theorem dL_law_1615 : decode cL_law 1615 = .ok (.aload_n 3, 1) := by decide +kernel
theorem dL_law_1616 : decode cL_law 1616 = .ok (.invokestatic 223, 3) := by decide +kernel
theorem dL_law_1619 : decode cL_law 1619 = .ok (.istore 6, 2) := by decide +kernel
theorem dL_law_1621 : decode cL_law 1621 = .ok (.aload_n 2, 1) := by decide +kernel
theorem dL_law_1622 : decode cL_law 1622 = .ok (.aload_n 0, 1) := by decide +kernel
theorem dL_law_1623 : decode cL_law 1623 = .ok (.iload 5, 2) := by decide +kernel
theorem dL_law_1625 : decode cL_law 1625 = .ok (.iconst 1, 1) := by decide +kernel
theorem dL_law_1626 : decode cL_law 1626 = .ok (.iadd, 1) := by decide +kernel
theorem dL_law_1627 : decode cL_law 1627 = .ok (.iaload, 1) := by decide +kernel
theorem dL_law_1628 : decode cL_law 1628 = .ok (.aload_n 0, 1) := by decide +kernel
theorem dL_law_1629 : decode cL_law 1629 = .ok (.iload 5, 2) := by decide +kernel
theorem dL_law_1631 : decode cL_law 1631 = .ok (.iconst 2, 1) := by decide +kernel
theorem dL_law_1632 : decode cL_law 1632 = .ok (.iadd, 1) := by decide +kernel
theorem dL_law_1633 : decode cL_law 1633 = .ok (.iaload, 1) := by decide +kernel
theorem dL_law_1634 : decode cL_law 1634 = .ok (.ifCond .eq 7, 3) := by decide +kernel
theorem dL_law_1637 : decode cL_law 1637 = .ok (.iconst 1, 1) := by decide +kernel
theorem dL_law_1638 : decode cL_law 1638 = .ok (.goto 4, 3) := by decide +kernel
theorem dL_law_1641 : decode cL_law 1641 = .ok (.iconst 0, 1) := by decide +kernel
theorem dL_law_1642 : decode cL_law 1642 = .ok (.invokevirtual 225, 3) := by decide +kernel
theorem dL_law_1645 : decode cL_law 1645 = .ok (.istore 7, 2) := by decide +kernel
theorem dL_law_1647 : decode cL_law 1647 = .ok (.aload_n 2, 1) := by decide +kernel
theorem dL_law_1648 : decode cL_law 1648 = .ok (.invokevirtual 169, 3) := by decide +kernel
theorem dL_law_1651 : decode cL_law 1651 = .ok (.iload 6, 2) := by decide +kernel
theorem dL_law_1653 : decode cL_law 1653 = .ok (.if_icmp .eq 5, 3) := by decide +kernel
theorem dL_law_1656 : decode cL_law 1656 = .ok (.iconst 0, 1) := by decide +kernel
theorem dL_law_1657 : decode cL_law 1657 = .ok (.ireturn, 1) := by decide +kernel
theorem dL_law_1658 : decode cL_law 1658 = .ok (.iload 6, 2) := by decide +kernel
theorem dL_law_1660 : decode cL_law 1660 = .ok (.ifCond .ne 22, 3) := by decide +kernel
theorem dL_law_1663 : decode cL_law 1663 = .ok (.aload_n 3, 1) := by decide +kernel
theorem dL_law_1664 : decode cL_law 1664 = .ok (.iconst 0, 1) := by decide +kernel
theorem dL_law_1665 : decode cL_law 1665 = .ok (.laload, 1) := by decide +kernel
theorem dL_law_1666 : decode cL_law 1666 = .ok (.iload 7, 2) := by decide +kernel
theorem dL_law_1668 : decode cL_law 1668 = .ok (.ifCond .eq 7, 3) := by decide +kernel
theorem dL_law_1671 : decode cL_law 1671 = .ok (.lconst 1, 1) := by decide +kernel
theorem dL_law_1672 : decode cL_law 1672 = .ok (.goto 4, 3) := by decide +kernel
theorem dL_law_1675 : decode cL_law 1675 = .ok (.lconst 0, 1) := by decide +kernel
theorem dL_law_1676 : decode cL_law 1676 = .ok (.lcmp, 1) := by decide +kernel
theorem dL_law_1677 : decode cL_law 1677 = .ok (.ifCond .eq 5, 3) := by decide +kernel
theorem dL_law_1680 : decode cL_law 1680 = .ok (.iconst 0, 1) := by decide +kernel
theorem dL_law_1681 : decode cL_law 1681 = .ok (.ireturn, 1) := by decide +kernel
theorem dL_law_1682 : decode cL_law 1682 = .ok (.goto 1468, 3) := by decide +kernel
set_option maxHeartbeats 4000000 in
set_option maxRecDepth 100000 in
theorem w_law_setJammed {p : Program} {l : Launch} {e : Env} {s : State} {m : MethodId} {below : List Frame} {meth : Method} {c : Code} {G : Gx} {b L i n0 m0 aL aD : Nat} {xs : Nat → Int32} {iv : Int32} {cL cD : ClassId} {cells slots : Nat} {Rel : Nat → Sg → Sg → Prop} {nn : Nat} {Q : State → Prop} (hnn9 : nn < 600) (hst : l.stackTraces = false) (C : Cx p s m #[.ref b] meth c RL code 10 ret G) (F : Y_F G s n0 m0 aL aD cL cD) (hX : va_X b L xs s s.heap) (hbl : b < s.heap.size) (hi : Y_I iv i L) (hc : cells + 4 ≤ 601024) (hs : slots + 24 ≤ 7293034) (hE : E_setJammed Rel)
    (hk : ∀ (σ ρ : Sg) (v : Int64) (w : UInt64) (H : Heap) (locs : List Loc) (ls : Array Slot), Rel (nn + 1) σ ρ → Y_S G s n0 m0 aL aD cL cD σ ρ v w H locs → lv_has ls 10 [(0, .ref b), (1, .ref n0), (2, .ref m0), (3, .ref aL), (4, .ref aD), (5, .int iv)] → W p l e room_1 s m #[.ref b] below meth c H locs (cells + 4) (slots + 24) Q (F0 m 3150 ls [])) :
    ∀ (σ ρ : Sg) (v : Int64) (w : UInt64) (H : Heap) (locs : List Loc) (ls : Array Slot), Rel nn σ ρ → Y_S G s n0 m0 aL aD cL cD σ ρ v w H locs → lv_has ls 10 [(0, .ref b), (1, .ref n0), (2, .ref m0), (3, .ref aL), (4, .ref aD), (5, .int iv)] → W p l e room_1 s m #[.ref b] below meth c H locs cells slots Q (F0 m 1594 ls []) := by
  intro σ ρ v w H locs ls hR S hl
  by_cases hb0 : xs (i + 2) = 0
  · obtain ⟨q, wq, ρ', e7, hq, e8, hR', hth, hval⟩ := hE nn σ ρ (xs (i + 1)) 0 hnn9 hR (Or.inl rfl)
    refine lv_aload_n C.1 C.2.1 dL_law_1594 rfl (lv_at hl 1 rfl) ?_
    refine lv_aload_n C.1 C.2.1 dL_law_1595 rfl (lv_at hl 0 rfl) ?_
    refine lv_iload C.1 C.2.1 dL_law_1596 (lv_at hl 5 rfl) ?_
    refine lv_iconst (v := 1) C.1 C.2.1 dL_law_1598 (by decide) ?_
    refine lv_iadd C.1 C.2.1 dL_law_1599 ?_
    refine Y_sld C S hX hbl hi.2.1.2.1 hi.2.1.1 hi.2.1.2.2 dL_law_1600 ?_
    refine lv_aload_n C.1 C.2.1 dL_law_1601 rfl (lv_at hl 0 rfl) ?_
    refine lv_iload C.1 C.2.1 dL_law_1602 (lv_at hl 5 rfl) ?_
    refine lv_iconst (v := 2) C.1 C.2.1 dL_law_1604 (by decide) ?_
    refine lv_iadd C.1 C.2.1 dL_law_1605 ?_
    refine Y_sld C S hX hbl hi.2.2.1.2.1 hi.2.2.1.1 hi.2.2.1.2.2 dL_law_1606 ?_
    refine lv_if_eq (tgt := 1614) C.1 C.2.1 dL_law_1607 (by decide) (fun _ => ?_) (fun c9 => absurd hb0 c9)
    refine lv_iconst (v := 0) C.1 C.2.1 dL_law_1614 (by decide) ?_
    refine lv_aload_n C.1 C.2.1 dL_law_1615 rfl (lv_at hl 3 rfl) ?_
    have hM := m_L_setJammed l hst G (Y_X n0) σ (xs (i + 1)) 0 q e7 hq cL aL v H.size
    rw [show (if q.1 = 0 then (Sum.inl (if q.2.1 = 0 then 0 else 1) : Int64 ⊕ UInt64) else Sum.inl v) = Sum.inl (if q.1 = 0 then (if q.2.1 = 0 then 0 else 1) else v) by split <;> rfl] at hM
    refine Y_wL (n := 4) (As := [.ref n0, .int (xs (i + 1)), .int 0, .ref aL]) C F S hM (tt_5 (List.mem_of_getElem? (i := 175) (by decide +kernel)) (by decide +kernel)) tw_5_174 tw_1_0 ⟨by decide, by decide, by decide +kernel⟩ tw_5_173 ⟨(Nat.le_of_ble_eq_true rfl), (Nat.le_of_ble_eq_true rfl)⟩ rfl rfl (Nat.le_of_ble_eq_true rfl) hl.1 ⟨by show cells + 1 ≤ 601024; omega, by show slots + 6 ≤ 7293034; omega⟩ dL_law_1616 (fun H locs S => ?_)
    refine lv_istore (lv' := [(6, .int (L_k [(1, 1)] q.1)), (0, .ref b), (1, .ref n0), (2, .ref m0), (3, .ref aL), (4, .ref aD), (5, .int iv)]) C.1 C.2.1 dL_law_1619 hl (by decide) rfl (fun ls hl => ?_)
    refine lv_aload_n C.1 C.2.1 dL_law_1621 rfl (lv_at hl 3 rfl) ?_
    refine lv_aload_n C.1 C.2.1 dL_law_1622 rfl (lv_at hl 1 rfl) ?_
    refine lv_iload C.1 C.2.1 dL_law_1623 (lv_at hl 6 rfl) ?_
    refine lv_iconst (v := 1) C.1 C.2.1 dL_law_1625 (by decide) ?_
    refine lv_iadd C.1 C.2.1 dL_law_1626 ?_
    refine Y_sld C S hX hbl hi.2.1.2.1 hi.2.1.1 hi.2.1.2.2 dL_law_1627 ?_
    refine lv_aload_n C.1 C.2.1 dL_law_1628 rfl (lv_at hl 1 rfl) ?_
    refine lv_iload C.1 C.2.1 dL_law_1629 (lv_at hl 6 rfl) ?_
    refine lv_iconst (v := 2) C.1 C.2.1 dL_law_1631 (by decide) ?_
    refine lv_iadd C.1 C.2.1 dL_law_1632 ?_
    refine Y_sld C S hX hbl hi.2.2.1.2.1 hi.2.2.1.1 hi.2.2.1.2.2 dL_law_1633 ?_
    refine lv_if_eq (tgt := 1641) C.1 C.2.1 dL_law_1634 (by decide) (fun _ => ?_) (fun c9 => absurd hb0 c9)
    refine lv_iconst (v := 0) C.1 C.2.1 dL_law_1641 (by decide) ?_
    refine Y_c1I (r := wq) (ρ' := ρ') (As := [.int (xs (i + 1)), .int 0]) C F S rfl (m_X8_setJammed l G (Y_Mo m0) ρ (xs (i + 1)) 0 wq ρ' e8 _) kv_X8_setJammed tw_8_34 ⟨(Nat.le_of_ble_eq_true rfl), (Nat.le_of_ble_eq_true rfl)⟩ rfl rfl (Nat.le_of_ble_eq_true rfl) hl.1 ⟨by show cells + 1 ≤ 601024; omega, by show slots + 6 ≤ 7293034; omega⟩ dL_law_1642 (fun H locs S => ?_)
    refine lv_istore (lv' := [(7, .int wq), (6, .int (L_k [(1, 1)] q.1)), (0, .ref b), (1, .ref n0), (2, .ref m0), (3, .ref aL), (4, .ref aD), (5, .int iv)]) C.1 C.2.1 dL_law_1645 hl (by decide) rfl (fun ls hl => ?_)
    refine lv_aload_n C.1 C.2.1 dL_law_1647 rfl (lv_at hl 4 rfl) ?_
    refine Y_c1I (r := ρ' 8 0 8) (ρ' := ρ') C F S rfl (As := []) (m_X8_thrown l G _ ρ' _ _ rfl _) kv_X8_thrown tw_6_188 ⟨(Nat.le_of_ble_eq_true rfl), (Nat.le_of_ble_eq_true rfl)⟩ rfl rfl (Nat.le_of_ble_eq_true rfl) hl.1 ⟨by show cells + 1 ≤ 601024; omega, by show slots + 6 ≤ 7293034; omega⟩ dL_law_1648 (fun H locs S => ?_)
    refine lv_iload C.1 C.2.1 dL_law_1651 (lv_at hl 1 rfl) ?_
    refine lv_icmp_eq (tgt := 1658) C.1 C.2.1 dL_law_1653 (by decide) (fun _ => ?_) (fun c9 => absurd hth c9)
    refine lv_iload C.1 C.2.1 dL_law_1658 (lv_at hl 1 rfl) ?_
    refine lv_if_ne (tgt := 1682) C.1 C.2.1 dL_law_1660 (by decide) (fun c9 => ?_) (fun c9 => ?_)
    · refine lv_goto (tgt := 3150) C.1 C.2.1 dL_law_1682 (by decide) ?_
      exact W.widen (k := cells + 4) (n := slots + 24) (by omega) (by omega) (hk _ _ _ _ _ _ _ hR' S (lv_sub hl [2, 3, 4, 5, 6, 7] rfl))
    have h0 : q.1 = 0 := by
      rcases hq with h | h
      · exact h
      · rw [h] at c9; exact absurd c9 (by decide)
    rw [if_pos h0, hval h0] at S
    refine lv_aload_n C.1 C.2.1 dL_law_1663 rfl (lv_at hl 5 rfl) ?_
    refine lv_iconst (v := 0) C.1 C.2.1 dL_law_1664 (by decide) ?_
    refine Y_lald C F S dL_law_1665 ?_
    refine lv_iload C.1 C.2.1 dL_law_1666 (lv_at hl 0 rfl) ?_
    refine lv_if_eq (tgt := 1675) C.1 C.2.1 dL_law_1668 (by decide) (fun c9 => ?_) (fun c9 => ?_)
    · rw [if_pos c9] at S ⊢
      refine lv_lconst (v := 0) C.1 C.2.1 dL_law_1675 rfl ?_
      refine W.lcmp C.1 C.2.1 dL_law_1676 ?_
      refine lv_if_eq (tgt := 1682) C.1 C.2.1 dL_law_1677 (by decide) (fun _ => ?_) (fun c9 => absurd (Y_cmp _) c9)
      refine lv_goto (tgt := 3150) C.1 C.2.1 dL_law_1682 (by decide) ?_
      exact W.widen (k := cells + 4) (n := slots + 24) (by omega) (by omega) (hk _ _ _ _ _ _ _ hR' S (lv_sub hl [2, 3, 4, 5, 6, 7] rfl))
    · rw [if_neg c9] at S ⊢
      refine lv_lconst (v := 1) C.1 C.2.1 dL_law_1671 rfl ?_
      refine lv_goto (tgt := 1676) C.1 C.2.1 dL_law_1672 (by decide) ?_
      refine W.lcmp C.1 C.2.1 dL_law_1676 ?_
      refine lv_if_eq (tgt := 1682) C.1 C.2.1 dL_law_1677 (by decide) (fun _ => ?_) (fun c9 => absurd (Y_cmp _) c9)
      refine lv_goto (tgt := 3150) C.1 C.2.1 dL_law_1682 (by decide) ?_
      exact W.widen (k := cells + 4) (n := slots + 24) (by omega) (by omega) (hk _ _ _ _ _ _ _ hR' S (lv_sub hl [2, 3, 4, 5, 6, 7] rfl))
  · obtain ⟨q, wq, ρ', e7, hq, e8, hR', hth, hval⟩ := hE nn σ ρ (xs (i + 1)) 1 hnn9 hR (Or.inr rfl)
    refine lv_aload_n C.1 C.2.1 dL_law_1594 rfl (lv_at hl 1 rfl) ?_
    refine lv_aload_n C.1 C.2.1 dL_law_1595 rfl (lv_at hl 0 rfl) ?_
    refine lv_iload C.1 C.2.1 dL_law_1596 (lv_at hl 5 rfl) ?_
    refine lv_iconst (v := 1) C.1 C.2.1 dL_law_1598 (by decide) ?_
    refine lv_iadd C.1 C.2.1 dL_law_1599 ?_
    refine Y_sld C S hX hbl hi.2.1.2.1 hi.2.1.1 hi.2.1.2.2 dL_law_1600 ?_
    refine lv_aload_n C.1 C.2.1 dL_law_1601 rfl (lv_at hl 0 rfl) ?_
    refine lv_iload C.1 C.2.1 dL_law_1602 (lv_at hl 5 rfl) ?_
    refine lv_iconst (v := 2) C.1 C.2.1 dL_law_1604 (by decide) ?_
    refine lv_iadd C.1 C.2.1 dL_law_1605 ?_
    refine Y_sld C S hX hbl hi.2.2.1.2.1 hi.2.2.1.1 hi.2.2.1.2.2 dL_law_1606 ?_
    refine lv_if_eq (tgt := 1614) C.1 C.2.1 dL_law_1607 (by decide) (fun c9 => absurd c9 hb0) (fun _ => ?_)
    refine lv_iconst (v := 1) C.1 C.2.1 dL_law_1610 (by decide) ?_
    refine lv_goto (tgt := 1615) C.1 C.2.1 dL_law_1611 (by decide) ?_
    refine lv_aload_n C.1 C.2.1 dL_law_1615 rfl (lv_at hl 3 rfl) ?_
    have hM := m_L_setJammed l hst G (Y_X n0) σ (xs (i + 1)) 1 q e7 hq cL aL v H.size
    rw [show (if q.1 = 0 then (Sum.inl (if q.2.1 = 0 then 0 else 1) : Int64 ⊕ UInt64) else Sum.inl v) = Sum.inl (if q.1 = 0 then (if q.2.1 = 0 then 0 else 1) else v) by split <;> rfl] at hM
    refine Y_wL (n := 4) (As := [.ref n0, .int (xs (i + 1)), .int 1, .ref aL]) C F S hM (tt_5 (List.mem_of_getElem? (i := 175) (by decide +kernel)) (by decide +kernel)) tw_5_174 tw_1_0 ⟨by decide, by decide, by decide +kernel⟩ tw_5_173 ⟨(Nat.le_of_ble_eq_true rfl), (Nat.le_of_ble_eq_true rfl)⟩ rfl rfl (Nat.le_of_ble_eq_true rfl) hl.1 ⟨by show cells + 1 ≤ 601024; omega, by show slots + 6 ≤ 7293034; omega⟩ dL_law_1616 (fun H locs S => ?_)
    refine lv_istore (lv' := [(6, .int (L_k [(1, 1)] q.1)), (0, .ref b), (1, .ref n0), (2, .ref m0), (3, .ref aL), (4, .ref aD), (5, .int iv)]) C.1 C.2.1 dL_law_1619 hl (by decide) rfl (fun ls hl => ?_)
    refine lv_aload_n C.1 C.2.1 dL_law_1621 rfl (lv_at hl 3 rfl) ?_
    refine lv_aload_n C.1 C.2.1 dL_law_1622 rfl (lv_at hl 1 rfl) ?_
    refine lv_iload C.1 C.2.1 dL_law_1623 (lv_at hl 6 rfl) ?_
    refine lv_iconst (v := 1) C.1 C.2.1 dL_law_1625 (by decide) ?_
    refine lv_iadd C.1 C.2.1 dL_law_1626 ?_
    refine Y_sld C S hX hbl hi.2.1.2.1 hi.2.1.1 hi.2.1.2.2 dL_law_1627 ?_
    refine lv_aload_n C.1 C.2.1 dL_law_1628 rfl (lv_at hl 1 rfl) ?_
    refine lv_iload C.1 C.2.1 dL_law_1629 (lv_at hl 6 rfl) ?_
    refine lv_iconst (v := 2) C.1 C.2.1 dL_law_1631 (by decide) ?_
    refine lv_iadd C.1 C.2.1 dL_law_1632 ?_
    refine Y_sld C S hX hbl hi.2.2.1.2.1 hi.2.2.1.1 hi.2.2.1.2.2 dL_law_1633 ?_
    refine lv_if_eq (tgt := 1641) C.1 C.2.1 dL_law_1634 (by decide) (fun c9 => absurd c9 hb0) (fun _ => ?_)
    refine lv_iconst (v := 1) C.1 C.2.1 dL_law_1637 (by decide) ?_
    refine lv_goto (tgt := 1642) C.1 C.2.1 dL_law_1638 (by decide) ?_
    refine Y_c1I (r := wq) (ρ' := ρ') (As := [.int (xs (i + 1)), .int 1]) C F S rfl (m_X8_setJammed l G (Y_Mo m0) ρ (xs (i + 1)) 1 wq ρ' e8 _) kv_X8_setJammed tw_8_34 ⟨(Nat.le_of_ble_eq_true rfl), (Nat.le_of_ble_eq_true rfl)⟩ rfl rfl (Nat.le_of_ble_eq_true rfl) hl.1 ⟨by show cells + 1 ≤ 601024; omega, by show slots + 6 ≤ 7293034; omega⟩ dL_law_1642 (fun H locs S => ?_)
    refine lv_istore (lv' := [(7, .int wq), (6, .int (L_k [(1, 1)] q.1)), (0, .ref b), (1, .ref n0), (2, .ref m0), (3, .ref aL), (4, .ref aD), (5, .int iv)]) C.1 C.2.1 dL_law_1645 hl (by decide) rfl (fun ls hl => ?_)
    refine lv_aload_n C.1 C.2.1 dL_law_1647 rfl (lv_at hl 4 rfl) ?_
    refine Y_c1I (r := ρ' 8 0 8) (ρ' := ρ') C F S rfl (As := []) (m_X8_thrown l G _ ρ' _ _ rfl _) kv_X8_thrown tw_6_188 ⟨(Nat.le_of_ble_eq_true rfl), (Nat.le_of_ble_eq_true rfl)⟩ rfl rfl (Nat.le_of_ble_eq_true rfl) hl.1 ⟨by show cells + 1 ≤ 601024; omega, by show slots + 6 ≤ 7293034; omega⟩ dL_law_1648 (fun H locs S => ?_)
    refine lv_iload C.1 C.2.1 dL_law_1651 (lv_at hl 1 rfl) ?_
    refine lv_icmp_eq (tgt := 1658) C.1 C.2.1 dL_law_1653 (by decide) (fun _ => ?_) (fun c9 => absurd hth c9)
    refine lv_iload C.1 C.2.1 dL_law_1658 (lv_at hl 1 rfl) ?_
    refine lv_if_ne (tgt := 1682) C.1 C.2.1 dL_law_1660 (by decide) (fun c9 => ?_) (fun c9 => ?_)
    · refine lv_goto (tgt := 3150) C.1 C.2.1 dL_law_1682 (by decide) ?_
      exact W.widen (k := cells + 4) (n := slots + 24) (by omega) (by omega) (hk _ _ _ _ _ _ _ hR' S (lv_sub hl [2, 3, 4, 5, 6, 7] rfl))
    have h0 : q.1 = 0 := by
      rcases hq with h | h
      · exact h
      · rw [h] at c9; exact absurd c9 (by decide)
    rw [if_pos h0, hval h0] at S
    refine lv_aload_n C.1 C.2.1 dL_law_1663 rfl (lv_at hl 5 rfl) ?_
    refine lv_iconst (v := 0) C.1 C.2.1 dL_law_1664 (by decide) ?_
    refine Y_lald C F S dL_law_1665 ?_
    refine lv_iload C.1 C.2.1 dL_law_1666 (lv_at hl 0 rfl) ?_
    refine lv_if_eq (tgt := 1675) C.1 C.2.1 dL_law_1668 (by decide) (fun c9 => ?_) (fun c9 => ?_)
    · rw [if_pos c9] at S ⊢
      refine lv_lconst (v := 0) C.1 C.2.1 dL_law_1675 rfl ?_
      refine W.lcmp C.1 C.2.1 dL_law_1676 ?_
      refine lv_if_eq (tgt := 1682) C.1 C.2.1 dL_law_1677 (by decide) (fun _ => ?_) (fun c9 => absurd (Y_cmp _) c9)
      refine lv_goto (tgt := 3150) C.1 C.2.1 dL_law_1682 (by decide) ?_
      exact W.widen (k := cells + 4) (n := slots + 24) (by omega) (by omega) (hk _ _ _ _ _ _ _ hR' S (lv_sub hl [2, 3, 4, 5, 6, 7] rfl))
    · rw [if_neg c9] at S ⊢
      refine lv_lconst (v := 1) C.1 C.2.1 dL_law_1671 rfl ?_
      refine lv_goto (tgt := 1676) C.1 C.2.1 dL_law_1672 (by decide) ?_
      refine W.lcmp C.1 C.2.1 dL_law_1676 ?_
      refine lv_if_eq (tgt := 1682) C.1 C.2.1 dL_law_1677 (by decide) (fun _ => ?_) (fun c9 => absurd (Y_cmp _) c9)
      refine lv_goto (tgt := 3150) C.1 C.2.1 dL_law_1682 (by decide) ?_
      exact W.widen (k := cells + 4) (n := slots + 24) (by omega) (by omega) (hk _ _ _ _ _ _ _ hR' S (lv_sub hl [2, 3, 4, 5, 6, 7] rfl))
theorem dL_law_1685 : decode cL_law 1685 = .ok (.aload_n 1, 1) := by decide +kernel
theorem dL_law_1686 : decode cL_law 1686 = .ok (.aload_n 0, 1) := by decide +kernel
theorem dL_law_1687 : decode cL_law 1687 = .ok (.iload 5, 2) := by decide +kernel
theorem dL_law_1689 : decode cL_law 1689 = .ok (.iconst 1, 1) := by decide +kernel
theorem dL_law_1690 : decode cL_law 1690 = .ok (.iadd, 1) := by decide +kernel
theorem dL_law_1691 : decode cL_law 1691 = .ok (.iaload, 1) := by decide +kernel
theorem dL_law_1692 : decode cL_law 1692 = .ok (.aload_n 0, 1) := by decide +kernel
theorem dL_law_1693 : decode cL_law 1693 = .ok (.iload 5, 2) := by decide +kernel
theorem dL_law_1695 : decode cL_law 1695 = .ok (.iconst 2, 1) := by decide +kernel
theorem dL_law_1696 : decode cL_law 1696 = .ok (.iadd, 1) := by decide +kernel
theorem dL_law_1697 : decode cL_law 1697 = .ok (.iaload, 1) := by decide +kernel
theorem dL_law_1698 : decode cL_law 1698 = .ok (.aload_n 3, 1) := by decide +kernel
theorem dL_law_1699 : decode cL_law 1699 = .ok (.invokestatic 226, 3) := by decide +kernel
theorem dL_law_1702 : decode cL_law 1702 = .ok (.istore 6, 2) := by decide +kernel
theorem dL_law_1704 : decode cL_law 1704 = .ok (.aload_n 2, 1) := by decide +kernel
theorem dL_law_1705 : decode cL_law 1705 = .ok (.aload_n 0, 1) := by decide +kernel
theorem dL_law_1706 : decode cL_law 1706 = .ok (.iload 5, 2) := by decide +kernel
theorem dL_law_1708 : decode cL_law 1708 = .ok (.iconst 1, 1) := by decide +kernel
theorem dL_law_1709 : decode cL_law 1709 = .ok (.iadd, 1) := by decide +kernel
theorem dL_law_1710 : decode cL_law 1710 = .ok (.iaload, 1) := by decide +kernel
theorem dL_law_1711 : decode cL_law 1711 = .ok (.aload_n 0, 1) := by decide +kernel
theorem dL_law_1712 : decode cL_law 1712 = .ok (.iload 5, 2) := by decide +kernel
theorem dL_law_1714 : decode cL_law 1714 = .ok (.iconst 2, 1) := by decide +kernel
theorem dL_law_1715 : decode cL_law 1715 = .ok (.iadd, 1) := by decide +kernel
theorem dL_law_1716 : decode cL_law 1716 = .ok (.iaload, 1) := by decide +kernel
theorem dL_law_1717 : decode cL_law 1717 = .ok (.invokevirtual 228, 3) := by decide +kernel
theorem dL_law_1720 : decode cL_law 1720 = .ok (.istore 7, 2) := by decide +kernel
theorem dL_law_1722 : decode cL_law 1722 = .ok (.aload_n 2, 1) := by decide +kernel
theorem dL_law_1723 : decode cL_law 1723 = .ok (.invokevirtual 169, 3) := by decide +kernel
theorem dL_law_1726 : decode cL_law 1726 = .ok (.iload 6, 2) := by decide +kernel
theorem dL_law_1728 : decode cL_law 1728 = .ok (.if_icmp .eq 5, 3) := by decide +kernel
theorem dL_law_1731 : decode cL_law 1731 = .ok (.iconst 0, 1) := by decide +kernel
theorem dL_law_1732 : decode cL_law 1732 = .ok (.ireturn, 1) := by decide +kernel
theorem dL_law_1733 : decode cL_law 1733 = .ok (.iload 6, 2) := by decide +kernel
theorem dL_law_1735 : decode cL_law 1735 = .ok (.ifCond .ne 15, 3) := by decide +kernel
theorem dL_law_1738 : decode cL_law 1738 = .ok (.aload_n 3, 1) := by decide +kernel
theorem dL_law_1739 : decode cL_law 1739 = .ok (.iconst 0, 1) := by decide +kernel
theorem dL_law_1740 : decode cL_law 1740 = .ok (.laload, 1) := by decide +kernel
theorem dL_law_1741 : decode cL_law 1741 = .ok (.iload 7, 2) := by decide +kernel
theorem dL_law_1743 : decode cL_law 1743 = .ok (.i2l, 1) := by decide +kernel
theorem dL_law_1744 : decode cL_law 1744 = .ok (.lcmp, 1) := by decide +kernel
theorem dL_law_1745 : decode cL_law 1745 = .ok (.ifCond .eq 5, 3) := by decide +kernel
theorem dL_law_1748 : decode cL_law 1748 = .ok (.iconst 0, 1) := by decide +kernel
theorem dL_law_1749 : decode cL_law 1749 = .ok (.ireturn, 1) := by decide +kernel
theorem dL_law_1750 : decode cL_law 1750 = .ok (.goto 1400, 3) := by decide +kernel
set_option maxHeartbeats 4000000 in
set_option maxRecDepth 100000 in
theorem w_law_set {p : Program} {l : Launch} {e : Env} {s : State} {m : MethodId} {below : List Frame} {meth : Method} {c : Code} {G : Gx} {b L i n0 m0 aL aD : Nat} {xs : Nat → Int32} {iv : Int32} {cL cD : ClassId} {cells slots : Nat} {Rel : Nat → Sg → Sg → Prop} {nn : Nat} {Q : State → Prop} (hnn9 : nn < 600) (hst : l.stackTraces = false) (C : Cx p s m #[.ref b] meth c RL code 10 ret G) (F : Y_F G s n0 m0 aL aD cL cD) (hX : va_X b L xs s s.heap) (hbl : b < s.heap.size) (hi : Y_I iv i L) (hc : cells + 4 ≤ 601024) (hs : slots + 24 ≤ 7293034) (hE : E_set Rel)
    (hk : ∀ (σ ρ : Sg) (v : Int64) (w : UInt64) (H : Heap) (locs : List Loc) (ls : Array Slot), Rel (nn + 1) σ ρ → Y_S G s n0 m0 aL aD cL cD σ ρ v w H locs → lv_has ls 10 [(0, .ref b), (1, .ref n0), (2, .ref m0), (3, .ref aL), (4, .ref aD), (5, .int iv)] → W p l e room_1 s m #[.ref b] below meth c H locs (cells + 4) (slots + 24) Q (F0 m 3150 ls [])) :
    ∀ (σ ρ : Sg) (v : Int64) (w : UInt64) (H : Heap) (locs : List Loc) (ls : Array Slot), Rel nn σ ρ → Y_S G s n0 m0 aL aD cL cD σ ρ v w H locs → lv_has ls 10 [(0, .ref b), (1, .ref n0), (2, .ref m0), (3, .ref aL), (4, .ref aD), (5, .int iv)] → W p l e room_1 s m #[.ref b] below meth c H locs cells slots Q (F0 m 1685 ls []) := by
  intro σ ρ v w H locs ls hR S hl
  obtain ⟨q, wq, ρ', e7, hq, e8, hR', hth, hval⟩ := hE nn σ ρ (xs (i + 1)) (xs (i + 2)) hnn9 hR 
  refine lv_aload_n C.1 C.2.1 dL_law_1685 rfl (lv_at hl 1 rfl) ?_
  refine lv_aload_n C.1 C.2.1 dL_law_1686 rfl (lv_at hl 0 rfl) ?_
  refine lv_iload C.1 C.2.1 dL_law_1687 (lv_at hl 5 rfl) ?_
  refine lv_iconst (v := 1) C.1 C.2.1 dL_law_1689 (by decide) ?_
  refine lv_iadd C.1 C.2.1 dL_law_1690 ?_
  refine Y_sld C S hX hbl hi.2.1.2.1 hi.2.1.1 hi.2.1.2.2 dL_law_1691 ?_
  refine lv_aload_n C.1 C.2.1 dL_law_1692 rfl (lv_at hl 0 rfl) ?_
  refine lv_iload C.1 C.2.1 dL_law_1693 (lv_at hl 5 rfl) ?_
  refine lv_iconst (v := 2) C.1 C.2.1 dL_law_1695 (by decide) ?_
  refine lv_iadd C.1 C.2.1 dL_law_1696 ?_
  refine Y_sld C S hX hbl hi.2.2.1.2.1 hi.2.2.1.1 hi.2.2.1.2.2 dL_law_1697 ?_
  refine lv_aload_n C.1 C.2.1 dL_law_1698 rfl (lv_at hl 3 rfl) ?_
  have hM := m_L_set l hst G (Y_X n0) σ (xs (i + 1)) (xs (i + 2)) q e7 hq cL aL v H.size
  rw [show (if q.1 = 0 then (Sum.inl q.2.1.toInt64 : Int64 ⊕ UInt64) else Sum.inl v) = Sum.inl (if q.1 = 0 then q.2.1.toInt64 else v) by split <;> rfl] at hM
  refine Y_wL (n := 4) (As := [.ref n0, .int (xs (i + 1)), .int (xs (i + 2)), .ref aL]) C F S hM (tt_5 (List.mem_of_getElem? (i := 182) (by decide +kernel)) (by decide +kernel)) tw_5_181 tw_1_0 ⟨by decide, by decide, by decide +kernel⟩ tw_5_180 ⟨(Nat.le_of_ble_eq_true rfl), (Nat.le_of_ble_eq_true rfl)⟩ rfl rfl (Nat.le_of_ble_eq_true rfl) hl.1 ⟨by show cells + 2 ≤ 601024; omega, by show slots + 12 ≤ 7293034; omega⟩ dL_law_1699 (fun H locs S => ?_)
  refine lv_istore (lv' := [(6, .int (L_k [(2, 1)] q.1)), (0, .ref b), (1, .ref n0), (2, .ref m0), (3, .ref aL), (4, .ref aD), (5, .int iv)]) C.1 C.2.1 dL_law_1702 hl (by decide) rfl (fun ls hl => ?_)
  refine lv_aload_n C.1 C.2.1 dL_law_1704 rfl (lv_at hl 3 rfl) ?_
  refine lv_aload_n C.1 C.2.1 dL_law_1705 rfl (lv_at hl 1 rfl) ?_
  refine lv_iload C.1 C.2.1 dL_law_1706 (lv_at hl 6 rfl) ?_
  refine lv_iconst (v := 1) C.1 C.2.1 dL_law_1708 (by decide) ?_
  refine lv_iadd C.1 C.2.1 dL_law_1709 ?_
  refine Y_sld C S hX hbl hi.2.1.2.1 hi.2.1.1 hi.2.1.2.2 dL_law_1710 ?_
  refine lv_aload_n C.1 C.2.1 dL_law_1711 rfl (lv_at hl 1 rfl) ?_
  refine lv_iload C.1 C.2.1 dL_law_1712 (lv_at hl 6 rfl) ?_
  refine lv_iconst (v := 2) C.1 C.2.1 dL_law_1714 (by decide) ?_
  refine lv_iadd C.1 C.2.1 dL_law_1715 ?_
  refine Y_sld C S hX hbl hi.2.2.1.2.1 hi.2.2.1.1 hi.2.2.1.2.2 dL_law_1716 ?_
  refine Y_c1I (r := wq) (ρ' := ρ') (As := [.int (xs (i + 1)), .int (xs (i + 2))]) C F S rfl (m_X8_set l G (Y_Mo m0) ρ (xs (i + 1)) (xs (i + 2)) wq ρ' e8 _) kv_X8_set tw_8_38 ⟨(Nat.le_of_ble_eq_true rfl), (Nat.le_of_ble_eq_true rfl)⟩ rfl rfl (Nat.le_of_ble_eq_true rfl) hl.1 ⟨by show cells + 2 ≤ 601024; omega, by show slots + 12 ≤ 7293034; omega⟩ dL_law_1717 (fun H locs S => ?_)
  refine lv_istore (lv' := [(7, .int wq), (6, .int (L_k [(2, 1)] q.1)), (0, .ref b), (1, .ref n0), (2, .ref m0), (3, .ref aL), (4, .ref aD), (5, .int iv)]) C.1 C.2.1 dL_law_1720 hl (by decide) rfl (fun ls hl => ?_)
  refine lv_aload_n C.1 C.2.1 dL_law_1722 rfl (lv_at hl 4 rfl) ?_
  refine Y_c1I (r := ρ' 8 0 8) (ρ' := ρ') C F S rfl (As := []) (m_X8_thrown l G _ ρ' _ _ rfl _) kv_X8_thrown tw_6_188 ⟨(Nat.le_of_ble_eq_true rfl), (Nat.le_of_ble_eq_true rfl)⟩ rfl rfl (Nat.le_of_ble_eq_true rfl) hl.1 ⟨by show cells + 2 ≤ 601024; omega, by show slots + 12 ≤ 7293034; omega⟩ dL_law_1723 (fun H locs S => ?_)
  refine lv_iload C.1 C.2.1 dL_law_1726 (lv_at hl 1 rfl) ?_
  refine lv_icmp_eq (tgt := 1733) C.1 C.2.1 dL_law_1728 (by decide) (fun _ => ?_) (fun c9 => absurd hth c9)
  refine lv_iload C.1 C.2.1 dL_law_1733 (lv_at hl 1 rfl) ?_
  refine lv_if_ne (tgt := 1750) C.1 C.2.1 dL_law_1735 (by decide) (fun c9 => ?_) (fun c9 => ?_)
  · refine lv_goto (tgt := 3150) C.1 C.2.1 dL_law_1750 (by decide) ?_
    exact W.widen (k := cells + 4) (n := slots + 24) (by omega) (by omega) (hk _ _ _ _ _ _ _ hR' S (lv_sub hl [2, 3, 4, 5, 6, 7] rfl))
  have h0 : q.1 = 0 := by
    rcases hq with h | h
    · exact h
    · rw [h] at c9; exact absurd c9 (by decide)
  rw [if_pos h0, hval h0] at S
  refine lv_aload_n C.1 C.2.1 dL_law_1738 rfl (lv_at hl 5 rfl) ?_
  refine lv_iconst (v := 0) C.1 C.2.1 dL_law_1739 (by decide) ?_
  refine Y_lald C F S dL_law_1740 ?_
  refine lv_iload C.1 C.2.1 dL_law_1741 (lv_at hl 0 rfl) ?_
  refine lv_i2l C.1 C.2.1 dL_law_1743 rfl ?_
  refine W.lcmp C.1 C.2.1 dL_law_1744 ?_
  refine lv_if_eq (tgt := 1750) C.1 C.2.1 dL_law_1745 (by decide) (fun _ => ?_) (fun c9 => absurd (Y_cmp _) c9)
  refine lv_goto (tgt := 3150) C.1 C.2.1 dL_law_1750 (by decide) ?_
  exact W.widen (k := cells + 4) (n := slots + 24) (by omega) (by omega) (hk _ _ _ _ _ _ _ hR' S (lv_sub hl [2, 3, 4, 5, 6, 7] rfl))
theorem dL_law_1753 : decode cL_law 1753 = .ok (.aload_n 1, 1) := by decide +kernel
theorem dL_law_1754 : decode cL_law 1754 = .ok (.aload_n 0, 1) := by decide +kernel
theorem dL_law_1755 : decode cL_law 1755 = .ok (.iload 5, 2) := by decide +kernel
theorem dL_law_1757 : decode cL_law 1757 = .ok (.iconst 1, 1) := by decide +kernel
theorem dL_law_1758 : decode cL_law 1758 = .ok (.iadd, 1) := by decide +kernel
theorem dL_law_1759 : decode cL_law 1759 = .ok (.iaload, 1) := by decide +kernel
theorem dL_law_1760 : decode cL_law 1760 = .ok (.aload_n 0, 1) := by decide +kernel
theorem dL_law_1761 : decode cL_law 1761 = .ok (.iload 5, 2) := by decide +kernel
theorem dL_law_1763 : decode cL_law 1763 = .ok (.iconst 2, 1) := by decide +kernel
theorem dL_law_1764 : decode cL_law 1764 = .ok (.iadd, 1) := by decide +kernel
theorem dL_law_1765 : decode cL_law 1765 = .ok (.iaload, 1) := by decide +kernel
theorem dL_law_1766 : decode cL_law 1766 = .ok (.aload_n 3, 1) := by decide +kernel
theorem dL_law_1767 : decode cL_law 1767 = .ok (.invokestatic 229, 3) := by decide +kernel
theorem dL_law_1770 : decode cL_law 1770 = .ok (.istore 6, 2) := by decide +kernel
theorem dL_law_1772 : decode cL_law 1772 = .ok (.aload_n 2, 1) := by decide +kernel
theorem dL_law_1773 : decode cL_law 1773 = .ok (.aload_n 0, 1) := by decide +kernel
theorem dL_law_1774 : decode cL_law 1774 = .ok (.iload 5, 2) := by decide +kernel
theorem dL_law_1776 : decode cL_law 1776 = .ok (.iconst 1, 1) := by decide +kernel
theorem dL_law_1777 : decode cL_law 1777 = .ok (.iadd, 1) := by decide +kernel
theorem dL_law_1778 : decode cL_law 1778 = .ok (.iaload, 1) := by decide +kernel
theorem dL_law_1779 : decode cL_law 1779 = .ok (.aload_n 0, 1) := by decide +kernel
theorem dL_law_1780 : decode cL_law 1780 = .ok (.iload 5, 2) := by decide +kernel
theorem dL_law_1782 : decode cL_law 1782 = .ok (.iconst 2, 1) := by decide +kernel
theorem dL_law_1783 : decode cL_law 1783 = .ok (.iadd, 1) := by decide +kernel
theorem dL_law_1784 : decode cL_law 1784 = .ok (.iaload, 1) := by decide +kernel
theorem dL_law_1785 : decode cL_law 1785 = .ok (.invokevirtual 231, 3) := by decide +kernel
theorem dL_law_1788 : decode cL_law 1788 = .ok (.istore 7, 2) := by decide +kernel
theorem dL_law_1790 : decode cL_law 1790 = .ok (.aload_n 2, 1) := by decide +kernel
theorem dL_law_1791 : decode cL_law 1791 = .ok (.invokevirtual 169, 3) := by decide +kernel
theorem dL_law_1794 : decode cL_law 1794 = .ok (.iload 6, 2) := by decide +kernel
theorem dL_law_1796 : decode cL_law 1796 = .ok (.if_icmp .eq 5, 3) := by decide +kernel
theorem dL_law_1799 : decode cL_law 1799 = .ok (.iconst 0, 1) := by decide +kernel
theorem dL_law_1800 : decode cL_law 1800 = .ok (.ireturn, 1) := by decide +kernel
theorem dL_law_1801 : decode cL_law 1801 = .ok (.iload 6, 2) := by decide +kernel
theorem dL_law_1803 : decode cL_law 1803 = .ok (.ifCond .ne 15, 3) := by decide +kernel
theorem dL_law_1806 : decode cL_law 1806 = .ok (.aload_n 3, 1) := by decide +kernel
theorem dL_law_1807 : decode cL_law 1807 = .ok (.iconst 0, 1) := by decide +kernel
theorem dL_law_1808 : decode cL_law 1808 = .ok (.laload, 1) := by decide +kernel
theorem dL_law_1809 : decode cL_law 1809 = .ok (.iload 7, 2) := by decide +kernel
theorem dL_law_1811 : decode cL_law 1811 = .ok (.i2l, 1) := by decide +kernel
theorem dL_law_1812 : decode cL_law 1812 = .ok (.lcmp, 1) := by decide +kernel
theorem dL_law_1813 : decode cL_law 1813 = .ok (.ifCond .eq 5, 3) := by decide +kernel
theorem dL_law_1816 : decode cL_law 1816 = .ok (.iconst 0, 1) := by decide +kernel
theorem dL_law_1817 : decode cL_law 1817 = .ok (.ireturn, 1) := by decide +kernel
theorem dL_law_1818 : decode cL_law 1818 = .ok (.goto 1332, 3) := by decide +kernel
set_option maxHeartbeats 4000000 in
set_option maxRecDepth 100000 in
theorem w_law_forget {p : Program} {l : Launch} {e : Env} {s : State} {m : MethodId} {below : List Frame} {meth : Method} {c : Code} {G : Gx} {b L i n0 m0 aL aD : Nat} {xs : Nat → Int32} {iv : Int32} {cL cD : ClassId} {cells slots : Nat} {Rel : Nat → Sg → Sg → Prop} {nn : Nat} {Q : State → Prop} (hnn9 : nn < 600) (hst : l.stackTraces = false) (C : Cx p s m #[.ref b] meth c RL code 10 ret G) (F : Y_F G s n0 m0 aL aD cL cD) (hX : va_X b L xs s s.heap) (hbl : b < s.heap.size) (hi : Y_I iv i L) (hc : cells + 4 ≤ 601024) (hs : slots + 24 ≤ 7293034) (hE : E_forget Rel)
    (hk : ∀ (σ ρ : Sg) (v : Int64) (w : UInt64) (H : Heap) (locs : List Loc) (ls : Array Slot), Rel (nn + 1) σ ρ → Y_S G s n0 m0 aL aD cL cD σ ρ v w H locs → lv_has ls 10 [(0, .ref b), (1, .ref n0), (2, .ref m0), (3, .ref aL), (4, .ref aD), (5, .int iv)] → W p l e room_1 s m #[.ref b] below meth c H locs (cells + 4) (slots + 24) Q (F0 m 3150 ls [])) :
    ∀ (σ ρ : Sg) (v : Int64) (w : UInt64) (H : Heap) (locs : List Loc) (ls : Array Slot), Rel nn σ ρ → Y_S G s n0 m0 aL aD cL cD σ ρ v w H locs → lv_has ls 10 [(0, .ref b), (1, .ref n0), (2, .ref m0), (3, .ref aL), (4, .ref aD), (5, .int iv)] → W p l e room_1 s m #[.ref b] below meth c H locs cells slots Q (F0 m 1753 ls []) := by
  intro σ ρ v w H locs ls hR S hl
  obtain ⟨q, wq, ρ', e7, hq, e8, hR', hth, hval⟩ := hE nn σ ρ (xs (i + 1)) (xs (i + 2)) hnn9 hR 
  refine lv_aload_n C.1 C.2.1 dL_law_1753 rfl (lv_at hl 1 rfl) ?_
  refine lv_aload_n C.1 C.2.1 dL_law_1754 rfl (lv_at hl 0 rfl) ?_
  refine lv_iload C.1 C.2.1 dL_law_1755 (lv_at hl 5 rfl) ?_
  refine lv_iconst (v := 1) C.1 C.2.1 dL_law_1757 (by decide) ?_
  refine lv_iadd C.1 C.2.1 dL_law_1758 ?_
  refine Y_sld C S hX hbl hi.2.1.2.1 hi.2.1.1 hi.2.1.2.2 dL_law_1759 ?_
  refine lv_aload_n C.1 C.2.1 dL_law_1760 rfl (lv_at hl 0 rfl) ?_
  refine lv_iload C.1 C.2.1 dL_law_1761 (lv_at hl 5 rfl) ?_
  refine lv_iconst (v := 2) C.1 C.2.1 dL_law_1763 (by decide) ?_
  refine lv_iadd C.1 C.2.1 dL_law_1764 ?_
  refine Y_sld C S hX hbl hi.2.2.1.2.1 hi.2.2.1.1 hi.2.2.1.2.2 dL_law_1765 ?_
  refine lv_aload_n C.1 C.2.1 dL_law_1766 rfl (lv_at hl 3 rfl) ?_
  have hM := m_L_forget l hst G (Y_X n0) σ (xs (i + 1)) (xs (i + 2)) q e7 hq cL aL v H.size
  rw [show (if q.1 = 0 then (Sum.inl q.2.1.toInt64 : Int64 ⊕ UInt64) else Sum.inl v) = Sum.inl (if q.1 = 0 then q.2.1.toInt64 else v) by split <;> rfl] at hM
  refine Y_wL (n := 4) (As := [.ref n0, .int (xs (i + 1)), .int (xs (i + 2)), .ref aL]) C F S hM (tt_5 (List.mem_of_getElem? (i := 191) (by decide +kernel)) (by decide +kernel)) tw_5_190 tw_1_0 ⟨by decide, by decide, by decide +kernel⟩ tw_5_189 ⟨(Nat.le_of_ble_eq_true rfl), (Nat.le_of_ble_eq_true rfl)⟩ rfl rfl (Nat.le_of_ble_eq_true rfl) hl.1 ⟨by show cells + 3 ≤ 601024; omega, by show slots + 18 ≤ 7293034; omega⟩ dL_law_1767 (fun H locs S => ?_)
  refine lv_istore (lv' := [(6, .int (L_k [(1, 1), (3, 2)] q.1)), (0, .ref b), (1, .ref n0), (2, .ref m0), (3, .ref aL), (4, .ref aD), (5, .int iv)]) C.1 C.2.1 dL_law_1770 hl (by decide) rfl (fun ls hl => ?_)
  refine lv_aload_n C.1 C.2.1 dL_law_1772 rfl (lv_at hl 3 rfl) ?_
  refine lv_aload_n C.1 C.2.1 dL_law_1773 rfl (lv_at hl 1 rfl) ?_
  refine lv_iload C.1 C.2.1 dL_law_1774 (lv_at hl 6 rfl) ?_
  refine lv_iconst (v := 1) C.1 C.2.1 dL_law_1776 (by decide) ?_
  refine lv_iadd C.1 C.2.1 dL_law_1777 ?_
  refine Y_sld C S hX hbl hi.2.1.2.1 hi.2.1.1 hi.2.1.2.2 dL_law_1778 ?_
  refine lv_aload_n C.1 C.2.1 dL_law_1779 rfl (lv_at hl 1 rfl) ?_
  refine lv_iload C.1 C.2.1 dL_law_1780 (lv_at hl 6 rfl) ?_
  refine lv_iconst (v := 2) C.1 C.2.1 dL_law_1782 (by decide) ?_
  refine lv_iadd C.1 C.2.1 dL_law_1783 ?_
  refine Y_sld C S hX hbl hi.2.2.1.2.1 hi.2.2.1.1 hi.2.2.1.2.2 dL_law_1784 ?_
  refine Y_c1I (r := wq) (ρ' := ρ') (As := [.int (xs (i + 1)), .int (xs (i + 2))]) C F S rfl (m_X8_forget l G (Y_Mo m0) ρ (xs (i + 1)) (xs (i + 2)) wq ρ' e8 _) kv_X8_forget tw_8_48 ⟨(Nat.le_of_ble_eq_true rfl), (Nat.le_of_ble_eq_true rfl)⟩ rfl rfl (Nat.le_of_ble_eq_true rfl) hl.1 ⟨by show cells + 3 ≤ 601024; omega, by show slots + 18 ≤ 7293034; omega⟩ dL_law_1785 (fun H locs S => ?_)
  refine lv_istore (lv' := [(7, .int wq), (6, .int (L_k [(1, 1), (3, 2)] q.1)), (0, .ref b), (1, .ref n0), (2, .ref m0), (3, .ref aL), (4, .ref aD), (5, .int iv)]) C.1 C.2.1 dL_law_1788 hl (by decide) rfl (fun ls hl => ?_)
  refine lv_aload_n C.1 C.2.1 dL_law_1790 rfl (lv_at hl 4 rfl) ?_
  refine Y_c1I (r := ρ' 8 0 8) (ρ' := ρ') C F S rfl (As := []) (m_X8_thrown l G _ ρ' _ _ rfl _) kv_X8_thrown tw_6_188 ⟨(Nat.le_of_ble_eq_true rfl), (Nat.le_of_ble_eq_true rfl)⟩ rfl rfl (Nat.le_of_ble_eq_true rfl) hl.1 ⟨by show cells + 3 ≤ 601024; omega, by show slots + 18 ≤ 7293034; omega⟩ dL_law_1791 (fun H locs S => ?_)
  refine lv_iload C.1 C.2.1 dL_law_1794 (lv_at hl 1 rfl) ?_
  refine lv_icmp_eq (tgt := 1801) C.1 C.2.1 dL_law_1796 (by decide) (fun _ => ?_) (fun c9 => absurd hth c9)
  refine lv_iload C.1 C.2.1 dL_law_1801 (lv_at hl 1 rfl) ?_
  refine lv_if_ne (tgt := 1818) C.1 C.2.1 dL_law_1803 (by decide) (fun c9 => ?_) (fun c9 => ?_)
  · refine lv_goto (tgt := 3150) C.1 C.2.1 dL_law_1818 (by decide) ?_
    exact W.widen (k := cells + 4) (n := slots + 24) (by omega) (by omega) (hk _ _ _ _ _ _ _ hR' S (lv_sub hl [2, 3, 4, 5, 6, 7] rfl))
  have h0 : q.1 = 0 := by
    rcases hq with h | h | h
    · exact h
    · rw [h] at c9; exact absurd c9 (by decide)
    · rw [h] at c9; exact absurd c9 (by decide)
  rw [if_pos h0, hval h0] at S
  refine lv_aload_n C.1 C.2.1 dL_law_1806 rfl (lv_at hl 5 rfl) ?_
  refine lv_iconst (v := 0) C.1 C.2.1 dL_law_1807 (by decide) ?_
  refine Y_lald C F S dL_law_1808 ?_
  refine lv_iload C.1 C.2.1 dL_law_1809 (lv_at hl 0 rfl) ?_
  refine lv_i2l C.1 C.2.1 dL_law_1811 rfl ?_
  refine W.lcmp C.1 C.2.1 dL_law_1812 ?_
  refine lv_if_eq (tgt := 1818) C.1 C.2.1 dL_law_1813 (by decide) (fun _ => ?_) (fun c9 => absurd (Y_cmp _) c9)
  refine lv_goto (tgt := 3150) C.1 C.2.1 dL_law_1818 (by decide) ?_
  exact W.widen (k := cells + 4) (n := slots + 24) (by omega) (by omega) (hk _ _ _ _ _ _ _ hR' S (lv_sub hl [2, 3, 4, 5, 6, 7] rfl))
theorem dL_law_1821 : decode cL_law 1821 = .ok (.aload_n 1, 1) := by decide +kernel
theorem dL_law_1822 : decode cL_law 1822 = .ok (.invokevirtual 232, 3) := by decide +kernel
theorem dL_law_1825 : decode cL_law 1825 = .ok (.aload_n 2, 1) := by decide +kernel
theorem dL_law_1826 : decode cL_law 1826 = .ok (.invokevirtual 235, 3) := by decide +kernel
theorem dL_law_1829 : decode cL_law 1829 = .ok (.if_icmp .eq 1321, 3) := by decide +kernel
theorem dL_law_1832 : decode cL_law 1832 = .ok (.iconst 0, 1) := by decide +kernel
theorem dL_law_1833 : decode cL_law 1833 = .ok (.ireturn, 1) := by decide +kernel
set_option maxHeartbeats 4000000 in
set_option maxRecDepth 100000 in
theorem w_law_longestWait {p : Program} {l : Launch} {e : Env} {s : State} {m : MethodId} {below : List Frame} {meth : Method} {c : Code} {G : Gx} {b L i n0 m0 aL aD : Nat} {xs : Nat → Int32} {iv : Int32} {cL cD : ClassId} {cells slots : Nat} {Rel : Nat → Sg → Sg → Prop} {nn : Nat} {Q : State → Prop} (hnn9 : nn < 600) (hst : l.stackTraces = false) (C : Cx p s m #[.ref b] meth c RL code 10 ret G) (F : Y_F G s n0 m0 aL aD cL cD) (hX : va_X b L xs s s.heap) (hbl : b < s.heap.size) (hi : Y_I iv i L) (hc : cells + 4 ≤ 601024) (hs : slots + 24 ≤ 7293034) (hE : E_longestWait Rel)
    (hk : ∀ (σ ρ : Sg) (v : Int64) (w : UInt64) (H : Heap) (locs : List Loc) (ls : Array Slot), Rel (nn + 1) σ ρ → Y_S G s n0 m0 aL aD cL cD σ ρ v w H locs → lv_has ls 10 [(0, .ref b), (1, .ref n0), (2, .ref m0), (3, .ref aL), (4, .ref aD), (5, .int iv)] → W p l e room_1 s m #[.ref b] below meth c H locs (cells + 4) (slots + 24) Q (F0 m 3150 ls [])) :
    ∀ (σ ρ : Sg) (v : Int64) (w : UInt64) (H : Heap) (locs : List Loc) (ls : Array Slot), Rel nn σ ρ → Y_S G s n0 m0 aL aD cL cD σ ρ v w H locs → lv_has ls 10 [(0, .ref b), (1, .ref n0), (2, .ref m0), (3, .ref aL), (4, .ref aD), (5, .int iv)] → W p l e room_1 s m #[.ref b] below meth c H locs cells slots Q (F0 m 1821 ls []) := by
  intro σ ρ v w H locs ls hR S hl
  obtain ⟨r, σ', ρ', e7, e8, hR'⟩ := hE nn σ ρ  hnn9 hR 
  refine lv_aload_n C.1 C.2.1 dL_law_1821 rfl (lv_at hl 1 rfl) ?_
  refine Y_c0I (r := r) (σ' := σ') (As := []) C F S rfl (m_X7_longestWait l G (Y_X n0) σ  r σ' e7 _) kv_X7_longestWait tw_3_117 ⟨(Nat.le_of_ble_eq_true rfl), (Nat.le_of_ble_eq_true rfl)⟩ rfl rfl (Nat.le_of_ble_eq_true rfl) hl.1 ⟨by show cells + 0 ≤ 601024; omega, by show slots + 0 ≤ 7293034; omega⟩ dL_law_1822 (fun H locs S => ?_)
  refine lv_aload_n C.1 C.2.1 dL_law_1825 rfl (lv_at hl 2 rfl) ?_
  refine Y_c1I (r := r) (ρ' := ρ') (As := []) C F S rfl (m_X8_longestWait l G (Y_Mo m0) ρ  r ρ' e8 _) kv_X8_longestWait tw_8_52 ⟨(Nat.le_of_ble_eq_true rfl), (Nat.le_of_ble_eq_true rfl)⟩ rfl rfl (Nat.le_of_ble_eq_true rfl) hl.1 ⟨by show cells + 0 ≤ 601024; omega, by show slots + 0 ≤ 7293034; omega⟩ dL_law_1826 (fun H locs S => ?_)
  refine lv_icmp_eq (tgt := 3150) C.1 C.2.1 dL_law_1829 (by decide) (fun _ => ?_) (fun c9 => absurd rfl c9)
  exact W.widen (k := cells + 4) (n := slots + 24) (by omega) (by omega) (hk _ _ _ _ _ _ _ hR' S (lv_sub hl [0, 1, 2, 3, 4, 5] rfl))
theorem dL_law_1834 : decode cL_law 1834 = .ok (.aload_n 1, 1) := by decide +kernel
theorem dL_law_1835 : decode cL_law 1835 = .ok (.invokevirtual 236, 3) := by decide +kernel
theorem dL_law_1838 : decode cL_law 1838 = .ok (.dstore 6, 2) := by decide +kernel
theorem dL_law_1840 : decode cL_law 1840 = .ok (.aload_n 2, 1) := by decide +kernel
theorem dL_law_1841 : decode cL_law 1841 = .ok (.invokevirtual 240, 3) := by decide +kernel
theorem dL_law_1844 : decode cL_law 1844 = .ok (.dstore 8, 2) := by decide +kernel
theorem dL_law_1846 : decode cL_law 1846 = .ok (.dload 6, 2) := by decide +kernel
theorem dL_law_1848 : decode cL_law 1848 = .ok (.dload 8, 2) := by decide +kernel
theorem dL_law_1850 : decode cL_law 1850 = .ok (.dcmp .l, 1) := by decide +kernel
theorem dL_law_1851 : decode cL_law 1851 = .ok (.ifCond .eq 21, 3) := by decide +kernel
theorem dL_law_1854 : decode cL_law 1854 = .ok (.dload 6, 2) := by decide +kernel
theorem dL_law_1856 : decode cL_law 1856 = .ok (.dload 6, 2) := by decide +kernel
theorem dL_law_1858 : decode cL_law 1858 = .ok (.dcmp .l, 1) := by decide +kernel
theorem dL_law_1859 : decode cL_law 1859 = .ok (.ifCond .eq 11, 3) := by decide +kernel
theorem dL_law_1862 : decode cL_law 1862 = .ok (.dload 8, 2) := by decide +kernel
theorem dL_law_1864 : decode cL_law 1864 = .ok (.dload 8, 2) := by decide +kernel
theorem dL_law_1866 : decode cL_law 1866 = .ok (.dcmp .l, 1) := by decide +kernel
theorem dL_law_1867 : decode cL_law 1867 = .ok (.ifCond .ne 5, 3) := by decide +kernel
theorem dL_law_1870 : decode cL_law 1870 = .ok (.iconst 0, 1) := by decide +kernel
theorem dL_law_1871 : decode cL_law 1871 = .ok (.ireturn, 1) := by decide +kernel
theorem dL_law_1872 : decode cL_law 1872 = .ok (.goto 1278, 3) := by decide +kernel
set_option maxHeartbeats 4000000 in
set_option maxRecDepth 100000 in
theorem w_law_meanWait {p : Program} {l : Launch} {e : Env} {s : State} {m : MethodId} {below : List Frame} {meth : Method} {c : Code} {G : Gx} {b L i n0 m0 aL aD : Nat} {xs : Nat → Int32} {iv : Int32} {cL cD : ClassId} {cells slots : Nat} {Rel : Nat → Sg → Sg → Prop} {nn : Nat} {Q : State → Prop} (hnn9 : nn < 600) (hst : l.stackTraces = false) (C : Cx p s m #[.ref b] meth c RL code 10 ret G) (F : Y_F G s n0 m0 aL aD cL cD) (hX : va_X b L xs s s.heap) (hbl : b < s.heap.size) (hi : Y_I iv i L) (hc : cells + 4 ≤ 601024) (hs : slots + 24 ≤ 7293034) (hE : E_meanWait Rel)
    (hk : ∀ (σ ρ : Sg) (v : Int64) (w : UInt64) (H : Heap) (locs : List Loc) (ls : Array Slot), Rel (nn + 1) σ ρ → Y_S G s n0 m0 aL aD cL cD σ ρ v w H locs → lv_has ls 10 [(0, .ref b), (1, .ref n0), (2, .ref m0), (3, .ref aL), (4, .ref aD), (5, .int iv)] → W p l e room_1 s m #[.ref b] below meth c H locs (cells + 4) (slots + 24) Q (F0 m 3150 ls [])) :
    ∀ (σ ρ : Sg) (v : Int64) (w : UInt64) (H : Heap) (locs : List Loc) (ls : Array Slot), Rel nn σ ρ → Y_S G s n0 m0 aL aD cL cD σ ρ v w H locs → lv_has ls 10 [(0, .ref b), (1, .ref n0), (2, .ref m0), (3, .ref aL), (4, .ref aD), (5, .int iv)] → W p l e room_1 s m #[.ref b] below meth c H locs cells slots Q (F0 m 1834 ls []) := by
  intro σ ρ v w H locs ls hR S hl
  obtain ⟨r, σ', ρ', e7, e8, hR'⟩ := hE nn σ ρ  hnn9 hR 
  refine lv_aload_n C.1 C.2.1 dL_law_1834 rfl (lv_at hl 1 rfl) ?_
  refine Y_c0D (r := r) (σ' := σ') (As := []) C F S rfl (m_X7_meanWait l G (Y_X n0) σ  r σ' e7 _) kv_X7_meanWait tw_3_130 ⟨(Nat.le_of_ble_eq_true rfl), (Nat.le_of_ble_eq_true rfl)⟩ rfl rfl (Nat.le_of_ble_eq_true rfl) hl.1 ⟨by show cells + 0 ≤ 601024; omega, by show slots + 0 ≤ 7293034; omega⟩ dL_law_1835 (fun H locs S => ?_)
  refine lv_dstore (lv' := [(6, .double r), (0, .ref b), (1, .ref n0), (2, .ref m0), (3, .ref aL), (4, .ref aD), (5, .int iv)]) C.1 C.2.1 dL_law_1838 hl (by decide) rfl (fun ls hl => ?_)
  refine lv_aload_n C.1 C.2.1 dL_law_1840 rfl (lv_at hl 3 rfl) ?_
  refine Y_c1D (r := r) (ρ' := ρ') (As := []) C F S rfl (m_X8_meanWait l G (Y_Mo m0) ρ  r ρ' e8 _) kv_X8_meanWait tw_8_61 ⟨(Nat.le_of_ble_eq_true rfl), (Nat.le_of_ble_eq_true rfl)⟩ rfl rfl (Nat.le_of_ble_eq_true rfl) hl.1 ⟨by show cells + 0 ≤ 601024; omega, by show slots + 0 ≤ 7293034; omega⟩ dL_law_1841 (fun H locs S => ?_)
  refine lv_dstore (lv' := [(8, .double r), (6, .double r), (0, .ref b), (1, .ref n0), (2, .ref m0), (3, .ref aL), (4, .ref aD), (5, .int iv)]) C.1 C.2.1 dL_law_1844 hl (by decide) rfl (fun ls hl => ?_)
  refine lv_dload C.1 C.2.1 dL_law_1846 (lv_at hl 1 rfl) ?_
  refine lv_dload C.1 C.2.1 dL_law_1848 (lv_at hl 0 rfl) ?_
  refine lv_dcmp C.1 C.2.1 dL_law_1850 ?_
  refine lv_if_eq (tgt := 1872) C.1 C.2.1 dL_law_1851 (by decide) (fun c9 => ?_) (fun c9 => ?_)
  · refine lv_goto (tgt := 3150) C.1 C.2.1 dL_law_1872 (by decide) ?_
    exact W.widen (k := cells + 4) (n := slots + 24) (by omega) (by omega) (hk _ _ _ _ _ _ _ hR' S (lv_sub hl [2, 3, 4, 5, 6, 7] rfl))
  refine lv_dload C.1 C.2.1 dL_law_1854 (lv_at hl 1 rfl) ?_
  refine lv_dload C.1 C.2.1 dL_law_1856 (lv_at hl 1 rfl) ?_
  refine lv_dcmp C.1 C.2.1 dL_law_1858 ?_
  refine lv_if_eq (tgt := 1870) C.1 C.2.1 dL_law_1859 (by decide) (fun c8 => absurd c8 c9) (fun _ => ?_)
  refine lv_dload C.1 C.2.1 dL_law_1862 (lv_at hl 0 rfl) ?_
  refine lv_dload C.1 C.2.1 dL_law_1864 (lv_at hl 0 rfl) ?_
  refine lv_dcmp C.1 C.2.1 dL_law_1866 ?_
  refine lv_if_ne (tgt := 1872) C.1 C.2.1 dL_law_1867 (by decide) (fun _ => ?_) (fun c8 => absurd c8 c9)
  refine lv_goto (tgt := 3150) C.1 C.2.1 dL_law_1872 (by decide) ?_
  exact W.widen (k := cells + 4) (n := slots + 24) (by omega) (by omega) (hk _ _ _ _ _ _ _ hR' S (lv_sub hl [2, 3, 4, 5, 6, 7] rfl))
theorem dL_law_1875 : decode cL_law 1875 = .ok (.aload_n 1, 1) := by decide +kernel
theorem dL_law_1876 : decode cL_law 1876 = .ok (.invokevirtual 241, 3) := by decide +kernel
theorem dL_law_1879 : decode cL_law 1879 = .ok (.f2d, 1) := by decide +kernel
theorem dL_law_1880 : decode cL_law 1880 = .ok (.dstore 6, 2) := by decide +kernel
theorem dL_law_1882 : decode cL_law 1882 = .ok (.aload_n 2, 1) := by decide +kernel
theorem dL_law_1883 : decode cL_law 1883 = .ok (.invokevirtual 245, 3) := by decide +kernel
theorem dL_law_1886 : decode cL_law 1886 = .ok (.f2d, 1) := by decide +kernel
theorem dL_law_1887 : decode cL_law 1887 = .ok (.dstore 8, 2) := by decide +kernel
theorem dL_law_1889 : decode cL_law 1889 = .ok (.dload 6, 2) := by decide +kernel
theorem dL_law_1891 : decode cL_law 1891 = .ok (.dload 8, 2) := by decide +kernel
theorem dL_law_1893 : decode cL_law 1893 = .ok (.dcmp .l, 1) := by decide +kernel
theorem dL_law_1894 : decode cL_law 1894 = .ok (.ifCond .eq 21, 3) := by decide +kernel
theorem dL_law_1897 : decode cL_law 1897 = .ok (.dload 6, 2) := by decide +kernel
theorem dL_law_1899 : decode cL_law 1899 = .ok (.dload 6, 2) := by decide +kernel
theorem dL_law_1901 : decode cL_law 1901 = .ok (.dcmp .l, 1) := by decide +kernel
theorem dL_law_1902 : decode cL_law 1902 = .ok (.ifCond .eq 11, 3) := by decide +kernel
theorem dL_law_1905 : decode cL_law 1905 = .ok (.dload 8, 2) := by decide +kernel
theorem dL_law_1907 : decode cL_law 1907 = .ok (.dload 8, 2) := by decide +kernel
theorem dL_law_1909 : decode cL_law 1909 = .ok (.dcmp .l, 1) := by decide +kernel
theorem dL_law_1910 : decode cL_law 1910 = .ok (.ifCond .ne 5, 3) := by decide +kernel
theorem dL_law_1913 : decode cL_law 1913 = .ok (.iconst 0, 1) := by decide +kernel
theorem dL_law_1914 : decode cL_law 1914 = .ok (.ireturn, 1) := by decide +kernel
theorem dL_law_1915 : decode cL_law 1915 = .ok (.goto 1235, 3) := by decide +kernel
set_option maxHeartbeats 4000000 in
set_option maxRecDepth 100000 in
theorem w_law_lateShare {p : Program} {l : Launch} {e : Env} {s : State} {m : MethodId} {below : List Frame} {meth : Method} {c : Code} {G : Gx} {b L i n0 m0 aL aD : Nat} {xs : Nat → Int32} {iv : Int32} {cL cD : ClassId} {cells slots : Nat} {Rel : Nat → Sg → Sg → Prop} {nn : Nat} {Q : State → Prop} (hnn9 : nn < 600) (hst : l.stackTraces = false) (C : Cx p s m #[.ref b] meth c RL code 10 ret G) (F : Y_F G s n0 m0 aL aD cL cD) (hX : va_X b L xs s s.heap) (hbl : b < s.heap.size) (hi : Y_I iv i L) (hc : cells + 4 ≤ 601024) (hs : slots + 24 ≤ 7293034) (hE : E_lateShare Rel)
    (hk : ∀ (σ ρ : Sg) (v : Int64) (w : UInt64) (H : Heap) (locs : List Loc) (ls : Array Slot), Rel (nn + 1) σ ρ → Y_S G s n0 m0 aL aD cL cD σ ρ v w H locs → lv_has ls 10 [(0, .ref b), (1, .ref n0), (2, .ref m0), (3, .ref aL), (4, .ref aD), (5, .int iv)] → W p l e room_1 s m #[.ref b] below meth c H locs (cells + 4) (slots + 24) Q (F0 m 3150 ls [])) :
    ∀ (σ ρ : Sg) (v : Int64) (w : UInt64) (H : Heap) (locs : List Loc) (ls : Array Slot), Rel nn σ ρ → Y_S G s n0 m0 aL aD cL cD σ ρ v w H locs → lv_has ls 10 [(0, .ref b), (1, .ref n0), (2, .ref m0), (3, .ref aL), (4, .ref aD), (5, .int iv)] → W p l e room_1 s m #[.ref b] below meth c H locs cells slots Q (F0 m 1875 ls []) := by
  intro σ ρ v w H locs ls hR S hl
  obtain ⟨r, σ', ρ', e7, e8, hR', hnn⟩ := hE nn σ ρ  hnn9 hR 
  refine lv_aload_n C.1 C.2.1 dL_law_1875 rfl (lv_at hl 1 rfl) ?_
  refine Y_c0F (r := r) (σ' := σ') (As := []) C F S rfl (m_X7_lateShare l G (Y_X n0) σ  r σ' e7 _) kv_X7_lateShare tw_3_135 ⟨(Nat.le_of_ble_eq_true rfl), (Nat.le_of_ble_eq_true rfl)⟩ rfl rfl (Nat.le_of_ble_eq_true rfl) hl.1 ⟨by show cells + 0 ≤ 601024; omega, by show slots + 0 ≤ 7293034; omega⟩ dL_law_1876 (fun H locs S => ?_)
  refine lv_f2d C.1 C.2.1 dL_law_1879 hnn ?_
  refine lv_dstore (lv' := [(6, .double (FP.f2d r)), (0, .ref b), (1, .ref n0), (2, .ref m0), (3, .ref aL), (4, .ref aD), (5, .int iv)]) C.1 C.2.1 dL_law_1880 hl (by decide) rfl (fun ls hl => ?_)
  refine lv_aload_n C.1 C.2.1 dL_law_1882 rfl (lv_at hl 3 rfl) ?_
  refine Y_c1F (r := r) (ρ' := ρ') (As := []) C F S rfl (m_X8_lateShare l G (Y_Mo m0) ρ  r ρ' e8 _) kv_X8_lateShare tw_8_65 ⟨(Nat.le_of_ble_eq_true rfl), (Nat.le_of_ble_eq_true rfl)⟩ rfl rfl (Nat.le_of_ble_eq_true rfl) hl.1 ⟨by show cells + 0 ≤ 601024; omega, by show slots + 0 ≤ 7293034; omega⟩ dL_law_1883 (fun H locs S => ?_)
  refine lv_f2d C.1 C.2.1 dL_law_1886 hnn ?_
  refine lv_dstore (lv' := [(8, .double (FP.f2d r)), (6, .double (FP.f2d r)), (0, .ref b), (1, .ref n0), (2, .ref m0), (3, .ref aL), (4, .ref aD), (5, .int iv)]) C.1 C.2.1 dL_law_1887 hl (by decide) rfl (fun ls hl => ?_)
  refine lv_dload C.1 C.2.1 dL_law_1889 (lv_at hl 1 rfl) ?_
  refine lv_dload C.1 C.2.1 dL_law_1891 (lv_at hl 0 rfl) ?_
  refine lv_dcmp C.1 C.2.1 dL_law_1893 ?_
  refine lv_if_eq (tgt := 1915) C.1 C.2.1 dL_law_1894 (by decide) (fun c9 => ?_) (fun c9 => ?_)
  · refine lv_goto (tgt := 3150) C.1 C.2.1 dL_law_1915 (by decide) ?_
    exact W.widen (k := cells + 4) (n := slots + 24) (by omega) (by omega) (hk _ _ _ _ _ _ _ hR' S (lv_sub hl [2, 3, 4, 5, 6, 7] rfl))
  refine lv_dload C.1 C.2.1 dL_law_1897 (lv_at hl 1 rfl) ?_
  refine lv_dload C.1 C.2.1 dL_law_1899 (lv_at hl 1 rfl) ?_
  refine lv_dcmp C.1 C.2.1 dL_law_1901 ?_
  refine lv_if_eq (tgt := 1913) C.1 C.2.1 dL_law_1902 (by decide) (fun c8 => absurd c8 c9) (fun _ => ?_)
  refine lv_dload C.1 C.2.1 dL_law_1905 (lv_at hl 0 rfl) ?_
  refine lv_dload C.1 C.2.1 dL_law_1907 (lv_at hl 0 rfl) ?_
  refine lv_dcmp C.1 C.2.1 dL_law_1909 ?_
  refine lv_if_ne (tgt := 1915) C.1 C.2.1 dL_law_1910 (by decide) (fun _ => ?_) (fun c8 => absurd c8 c9)
  refine lv_goto (tgt := 3150) C.1 C.2.1 dL_law_1915 (by decide) ?_
  exact W.widen (k := cells + 4) (n := slots + 24) (by omega) (by omega) (hk _ _ _ _ _ _ _ hR' S (lv_sub hl [2, 3, 4, 5, 6, 7] rfl))
theorem dL_law_1918 : decode cL_law 1918 = .ok (.aload_n 1, 1) := by decide +kernel
theorem dL_law_1919 : decode cL_law 1919 = .ok (.invokevirtual 246, 3) := by decide +kernel
theorem dL_law_1922 : decode cL_law 1922 = .ok (.aload_n 2, 1) := by decide +kernel
theorem dL_law_1923 : decode cL_law 1923 = .ok (.invokevirtual 249, 3) := by decide +kernel
theorem dL_law_1926 : decode cL_law 1926 = .ok (.if_icmp .eq 1224, 3) := by decide +kernel
theorem dL_law_1929 : decode cL_law 1929 = .ok (.iconst 0, 1) := by decide +kernel
theorem dL_law_1930 : decode cL_law 1930 = .ok (.ireturn, 1) := by decide +kernel
set_option maxHeartbeats 4000000 in
set_option maxRecDepth 100000 in
theorem w_law_doubles {p : Program} {l : Launch} {e : Env} {s : State} {m : MethodId} {below : List Frame} {meth : Method} {c : Code} {G : Gx} {b L i n0 m0 aL aD : Nat} {xs : Nat → Int32} {iv : Int32} {cL cD : ClassId} {cells slots : Nat} {Rel : Nat → Sg → Sg → Prop} {nn : Nat} {Q : State → Prop} (hnn9 : nn < 600) (hst : l.stackTraces = false) (C : Cx p s m #[.ref b] meth c RL code 10 ret G) (F : Y_F G s n0 m0 aL aD cL cD) (hX : va_X b L xs s s.heap) (hbl : b < s.heap.size) (hi : Y_I iv i L) (hc : cells + 4 ≤ 601024) (hs : slots + 24 ≤ 7293034) (hE : E_doubles Rel)
    (hk : ∀ (σ ρ : Sg) (v : Int64) (w : UInt64) (H : Heap) (locs : List Loc) (ls : Array Slot), Rel (nn + 1) σ ρ → Y_S G s n0 m0 aL aD cL cD σ ρ v w H locs → lv_has ls 10 [(0, .ref b), (1, .ref n0), (2, .ref m0), (3, .ref aL), (4, .ref aD), (5, .int iv)] → W p l e room_1 s m #[.ref b] below meth c H locs (cells + 4) (slots + 24) Q (F0 m 3150 ls [])) :
    ∀ (σ ρ : Sg) (v : Int64) (w : UInt64) (H : Heap) (locs : List Loc) (ls : Array Slot), Rel nn σ ρ → Y_S G s n0 m0 aL aD cL cD σ ρ v w H locs → lv_has ls 10 [(0, .ref b), (1, .ref n0), (2, .ref m0), (3, .ref aL), (4, .ref aD), (5, .int iv)] → W p l e room_1 s m #[.ref b] below meth c H locs cells slots Q (F0 m 1918 ls []) := by
  intro σ ρ v w H locs ls hR S hl
  obtain ⟨r, σ', ρ', e7, e8, hR'⟩ := hE nn σ ρ  hnn9 hR 
  refine lv_aload_n C.1 C.2.1 dL_law_1918 rfl (lv_at hl 1 rfl) ?_
  refine Y_c0I (r := r) (σ' := σ') (As := []) C F S rfl (m_X7_doubles l G (Y_X n0) σ  r σ' e7 _) kv_X7_doubles tw_3_147 ⟨(Nat.le_of_ble_eq_true rfl), (Nat.le_of_ble_eq_true rfl)⟩ rfl rfl (Nat.le_of_ble_eq_true rfl) hl.1 ⟨by show cells + 0 ≤ 601024; omega, by show slots + 0 ≤ 7293034; omega⟩ dL_law_1919 (fun H locs S => ?_)
  refine lv_aload_n C.1 C.2.1 dL_law_1922 rfl (lv_at hl 2 rfl) ?_
  refine Y_c1I (r := r) (ρ' := ρ') (As := []) C F S rfl (m_X8_doubles l G (Y_Mo m0) ρ  r ρ' e8 _) kv_X8_doubles tw_8_73 ⟨(Nat.le_of_ble_eq_true rfl), (Nat.le_of_ble_eq_true rfl)⟩ rfl rfl (Nat.le_of_ble_eq_true rfl) hl.1 ⟨by show cells + 0 ≤ 601024; omega, by show slots + 0 ≤ 7293034; omega⟩ dL_law_1923 (fun H locs S => ?_)
  refine lv_icmp_eq (tgt := 3150) C.1 C.2.1 dL_law_1926 (by decide) (fun _ => ?_) (fun c9 => absurd rfl c9)
  exact W.widen (k := cells + 4) (n := slots + 24) (by omega) (by omega) (hk _ _ _ _ _ _ _ hR' S (lv_sub hl [0, 1, 2, 3, 4, 5] rfl))
theorem dL_law_1931 : decode cL_law 1931 = .ok (.aload_n 1, 1) := by decide +kernel
theorem dL_law_1932 : decode cL_law 1932 = .ok (.invokevirtual 250, 3) := by decide +kernel
theorem dL_law_1935 : decode cL_law 1935 = .ok (.aload_n 2, 1) := by decide +kernel
theorem dL_law_1936 : decode cL_law 1936 = .ok (.invokevirtual 253, 3) := by decide +kernel
theorem dL_law_1939 : decode cL_law 1939 = .ok (.if_icmp .eq 1211, 3) := by decide +kernel
theorem dL_law_1942 : decode cL_law 1942 = .ok (.iconst 0, 1) := by decide +kernel
theorem dL_law_1943 : decode cL_law 1943 = .ok (.ireturn, 1) := by decide +kernel
set_option maxHeartbeats 4000000 in
set_option maxRecDepth 100000 in
theorem w_law_orphans {p : Program} {l : Launch} {e : Env} {s : State} {m : MethodId} {below : List Frame} {meth : Method} {c : Code} {G : Gx} {b L i n0 m0 aL aD : Nat} {xs : Nat → Int32} {iv : Int32} {cL cD : ClassId} {cells slots : Nat} {Rel : Nat → Sg → Sg → Prop} {nn : Nat} {Q : State → Prop} (hnn9 : nn < 600) (hst : l.stackTraces = false) (C : Cx p s m #[.ref b] meth c RL code 10 ret G) (F : Y_F G s n0 m0 aL aD cL cD) (hX : va_X b L xs s s.heap) (hbl : b < s.heap.size) (hi : Y_I iv i L) (hc : cells + 4 ≤ 601024) (hs : slots + 24 ≤ 7293034) (hE : E_orphans Rel)
    (hk : ∀ (σ ρ : Sg) (v : Int64) (w : UInt64) (H : Heap) (locs : List Loc) (ls : Array Slot), Rel (nn + 1) σ ρ → Y_S G s n0 m0 aL aD cL cD σ ρ v w H locs → lv_has ls 10 [(0, .ref b), (1, .ref n0), (2, .ref m0), (3, .ref aL), (4, .ref aD), (5, .int iv)] → W p l e room_1 s m #[.ref b] below meth c H locs (cells + 4) (slots + 24) Q (F0 m 3150 ls [])) :
    ∀ (σ ρ : Sg) (v : Int64) (w : UInt64) (H : Heap) (locs : List Loc) (ls : Array Slot), Rel nn σ ρ → Y_S G s n0 m0 aL aD cL cD σ ρ v w H locs → lv_has ls 10 [(0, .ref b), (1, .ref n0), (2, .ref m0), (3, .ref aL), (4, .ref aD), (5, .int iv)] → W p l e room_1 s m #[.ref b] below meth c H locs cells slots Q (F0 m 1931 ls []) := by
  intro σ ρ v w H locs ls hR S hl
  obtain ⟨r, σ', ρ', e7, e8, hR'⟩ := hE nn σ ρ  hnn9 hR 
  refine lv_aload_n C.1 C.2.1 dL_law_1931 rfl (lv_at hl 1 rfl) ?_
  refine Y_c0I (r := r) (σ' := σ') (As := []) C F S rfl (m_X7_orphans l G (Y_X n0) σ  r σ' e7 _) kv_X7_orphans tw_3_159 ⟨(Nat.le_of_ble_eq_true rfl), (Nat.le_of_ble_eq_true rfl)⟩ rfl rfl (Nat.le_of_ble_eq_true rfl) hl.1 ⟨by show cells + 0 ≤ 601024; omega, by show slots + 0 ≤ 7293034; omega⟩ dL_law_1932 (fun H locs S => ?_)
  refine lv_aload_n C.1 C.2.1 dL_law_1935 rfl (lv_at hl 2 rfl) ?_
  refine Y_c1I (r := r) (ρ' := ρ') (As := []) C F S rfl (m_X8_orphans l G (Y_Mo m0) ρ  r ρ' e8 _) kv_X8_orphans tw_8_77 ⟨(Nat.le_of_ble_eq_true rfl), (Nat.le_of_ble_eq_true rfl)⟩ rfl rfl (Nat.le_of_ble_eq_true rfl) hl.1 ⟨by show cells + 0 ≤ 601024; omega, by show slots + 0 ≤ 7293034; omega⟩ dL_law_1936 (fun H locs S => ?_)
  refine lv_icmp_eq (tgt := 3150) C.1 C.2.1 dL_law_1939 (by decide) (fun _ => ?_) (fun c9 => absurd rfl c9)
  exact W.widen (k := cells + 4) (n := slots + 24) (by omega) (by omega) (hk _ _ _ _ _ _ _ hR' S (lv_sub hl [0, 1, 2, 3, 4, 5] rfl))
theorem dL_law_1944 : decode cL_law 1944 = .ok (.aload_n 1, 1) := by decide +kernel
theorem dL_law_1945 : decode cL_law 1945 = .ok (.aload_n 0, 1) := by decide +kernel
theorem dL_law_1946 : decode cL_law 1946 = .ok (.iload 5, 2) := by decide +kernel
theorem dL_law_1948 : decode cL_law 1948 = .ok (.iconst 1, 1) := by decide +kernel
theorem dL_law_1949 : decode cL_law 1949 = .ok (.iadd, 1) := by decide +kernel
theorem dL_law_1950 : decode cL_law 1950 = .ok (.iaload, 1) := by decide +kernel
theorem dL_law_1951 : decode cL_law 1951 = .ok (.aload_n 3, 1) := by decide +kernel
theorem dL_law_1952 : decode cL_law 1952 = .ok (.invokestatic 254, 3) := by decide +kernel
theorem dL_law_1955 : decode cL_law 1955 = .ok (.istore 6, 2) := by decide +kernel
theorem dL_law_1957 : decode cL_law 1957 = .ok (.aload_n 2, 1) := by decide +kernel
theorem dL_law_1958 : decode cL_law 1958 = .ok (.aload_n 0, 1) := by decide +kernel
theorem dL_law_1959 : decode cL_law 1959 = .ok (.iload 5, 2) := by decide +kernel
theorem dL_law_1961 : decode cL_law 1961 = .ok (.iconst 1, 1) := by decide +kernel
theorem dL_law_1962 : decode cL_law 1962 = .ok (.iadd, 1) := by decide +kernel
theorem dL_law_1963 : decode cL_law 1963 = .ok (.iaload, 1) := by decide +kernel
theorem dL_law_1964 : decode cL_law 1964 = .ok (.invokevirtual 256, 3) := by decide +kernel
theorem dL_law_1967 : decode cL_law 1967 = .ok (.istore 7, 2) := by decide +kernel
theorem dL_law_1969 : decode cL_law 1969 = .ok (.aload_n 2, 1) := by decide +kernel
theorem dL_law_1970 : decode cL_law 1970 = .ok (.invokevirtual 169, 3) := by decide +kernel
theorem dL_law_1973 : decode cL_law 1973 = .ok (.iload 6, 2) := by decide +kernel
theorem dL_law_1975 : decode cL_law 1975 = .ok (.if_icmp .eq 5, 3) := by decide +kernel
theorem dL_law_1978 : decode cL_law 1978 = .ok (.iconst 0, 1) := by decide +kernel
theorem dL_law_1979 : decode cL_law 1979 = .ok (.ireturn, 1) := by decide +kernel
theorem dL_law_1980 : decode cL_law 1980 = .ok (.iload 6, 2) := by decide +kernel
theorem dL_law_1982 : decode cL_law 1982 = .ok (.ifCond .ne 15, 3) := by decide +kernel
theorem dL_law_1985 : decode cL_law 1985 = .ok (.aload_n 3, 1) := by decide +kernel
theorem dL_law_1986 : decode cL_law 1986 = .ok (.iconst 0, 1) := by decide +kernel
theorem dL_law_1987 : decode cL_law 1987 = .ok (.laload, 1) := by decide +kernel
theorem dL_law_1988 : decode cL_law 1988 = .ok (.iload 7, 2) := by decide +kernel
theorem dL_law_1990 : decode cL_law 1990 = .ok (.i2l, 1) := by decide +kernel
theorem dL_law_1991 : decode cL_law 1991 = .ok (.lcmp, 1) := by decide +kernel
theorem dL_law_1992 : decode cL_law 1992 = .ok (.ifCond .eq 5, 3) := by decide +kernel
theorem dL_law_1995 : decode cL_law 1995 = .ok (.iconst 0, 1) := by decide +kernel
theorem dL_law_1996 : decode cL_law 1996 = .ok (.ireturn, 1) := by decide +kernel
theorem dL_law_1997 : decode cL_law 1997 = .ok (.goto 1153, 3) := by decide +kernel
set_option maxHeartbeats 4000000 in
set_option maxRecDepth 100000 in
theorem w_law_ride {p : Program} {l : Launch} {e : Env} {s : State} {m : MethodId} {below : List Frame} {meth : Method} {c : Code} {G : Gx} {b L i n0 m0 aL aD : Nat} {xs : Nat → Int32} {iv : Int32} {cL cD : ClassId} {cells slots : Nat} {Rel : Nat → Sg → Sg → Prop} {nn : Nat} {Q : State → Prop} (hnn9 : nn < 600) (hst : l.stackTraces = false) (C : Cx p s m #[.ref b] meth c RL code 10 ret G) (F : Y_F G s n0 m0 aL aD cL cD) (hX : va_X b L xs s s.heap) (hbl : b < s.heap.size) (hi : Y_I iv i L) (hc : cells + 4 ≤ 601024) (hs : slots + 24 ≤ 7293034) (hE : E_ride Rel)
    (hk : ∀ (σ ρ : Sg) (v : Int64) (w : UInt64) (H : Heap) (locs : List Loc) (ls : Array Slot), Rel (nn + 1) σ ρ → Y_S G s n0 m0 aL aD cL cD σ ρ v w H locs → lv_has ls 10 [(0, .ref b), (1, .ref n0), (2, .ref m0), (3, .ref aL), (4, .ref aD), (5, .int iv)] → W p l e room_1 s m #[.ref b] below meth c H locs (cells + 4) (slots + 24) Q (F0 m 3150 ls [])) :
    ∀ (σ ρ : Sg) (v : Int64) (w : UInt64) (H : Heap) (locs : List Loc) (ls : Array Slot), Rel nn σ ρ → Y_S G s n0 m0 aL aD cL cD σ ρ v w H locs → lv_has ls 10 [(0, .ref b), (1, .ref n0), (2, .ref m0), (3, .ref aL), (4, .ref aD), (5, .int iv)] → W p l e room_1 s m #[.ref b] below meth c H locs cells slots Q (F0 m 1944 ls []) := by
  intro σ ρ v w H locs ls hR S hl
  obtain ⟨q, wq, ρ', e7, hq, e8, hR', hth, hval⟩ := hE nn σ ρ (xs (i + 1)) hnn9 hR 
  refine lv_aload_n C.1 C.2.1 dL_law_1944 rfl (lv_at hl 1 rfl) ?_
  refine lv_aload_n C.1 C.2.1 dL_law_1945 rfl (lv_at hl 0 rfl) ?_
  refine lv_iload C.1 C.2.1 dL_law_1946 (lv_at hl 5 rfl) ?_
  refine lv_iconst (v := 1) C.1 C.2.1 dL_law_1948 (by decide) ?_
  refine lv_iadd C.1 C.2.1 dL_law_1949 ?_
  refine Y_sld C S hX hbl hi.2.1.2.1 hi.2.1.1 hi.2.1.2.2 dL_law_1950 ?_
  refine lv_aload_n C.1 C.2.1 dL_law_1951 rfl (lv_at hl 3 rfl) ?_
  have hM := m_L_ride l hst G (Y_X n0) σ (xs (i + 1)) q e7 hq cL aL v H.size
  rw [show (if q.1 = 0 then (Sum.inl q.2.1.toInt64 : Int64 ⊕ UInt64) else Sum.inl v) = Sum.inl (if q.1 = 0 then q.2.1.toInt64 else v) by split <;> rfl] at hM
  refine Y_wL (n := 3) (As := [.ref n0, .int (xs (i + 1)), .ref aL]) C F S hM (tt_5 (List.mem_of_getElem? (i := 200) (by decide +kernel)) (by decide +kernel)) tw_5_199 tw_1_0 ⟨by decide, by decide, by decide +kernel⟩ tw_5_198 ⟨(Nat.le_of_ble_eq_true rfl), (Nat.le_of_ble_eq_true rfl)⟩ rfl rfl (Nat.le_of_ble_eq_true rfl) hl.1 ⟨by show cells + 1 ≤ 601024; omega, by show slots + 6 ≤ 7293034; omega⟩ dL_law_1952 (fun H locs S => ?_)
  refine lv_istore (lv' := [(6, .int (L_k [(1, 1)] q.1)), (0, .ref b), (1, .ref n0), (2, .ref m0), (3, .ref aL), (4, .ref aD), (5, .int iv)]) C.1 C.2.1 dL_law_1955 hl (by decide) rfl (fun ls hl => ?_)
  refine lv_aload_n C.1 C.2.1 dL_law_1957 rfl (lv_at hl 3 rfl) ?_
  refine lv_aload_n C.1 C.2.1 dL_law_1958 rfl (lv_at hl 1 rfl) ?_
  refine lv_iload C.1 C.2.1 dL_law_1959 (lv_at hl 6 rfl) ?_
  refine lv_iconst (v := 1) C.1 C.2.1 dL_law_1961 (by decide) ?_
  refine lv_iadd C.1 C.2.1 dL_law_1962 ?_
  refine Y_sld C S hX hbl hi.2.1.2.1 hi.2.1.1 hi.2.1.2.2 dL_law_1963 ?_
  refine Y_c1I (r := wq) (ρ' := ρ') (As := [.int (xs (i + 1))]) C F S rfl (m_X8_ride l G (Y_Mo m0) ρ (xs (i + 1)) wq ρ' e8 _) kv_X8_ride tw_8_81 ⟨(Nat.le_of_ble_eq_true rfl), (Nat.le_of_ble_eq_true rfl)⟩ rfl rfl (Nat.le_of_ble_eq_true rfl) hl.1 ⟨by show cells + 1 ≤ 601024; omega, by show slots + 6 ≤ 7293034; omega⟩ dL_law_1964 (fun H locs S => ?_)
  refine lv_istore (lv' := [(7, .int wq), (6, .int (L_k [(1, 1)] q.1)), (0, .ref b), (1, .ref n0), (2, .ref m0), (3, .ref aL), (4, .ref aD), (5, .int iv)]) C.1 C.2.1 dL_law_1967 hl (by decide) rfl (fun ls hl => ?_)
  refine lv_aload_n C.1 C.2.1 dL_law_1969 rfl (lv_at hl 4 rfl) ?_
  refine Y_c1I (r := ρ' 8 0 8) (ρ' := ρ') C F S rfl (As := []) (m_X8_thrown l G _ ρ' _ _ rfl _) kv_X8_thrown tw_6_188 ⟨(Nat.le_of_ble_eq_true rfl), (Nat.le_of_ble_eq_true rfl)⟩ rfl rfl (Nat.le_of_ble_eq_true rfl) hl.1 ⟨by show cells + 1 ≤ 601024; omega, by show slots + 6 ≤ 7293034; omega⟩ dL_law_1970 (fun H locs S => ?_)
  refine lv_iload C.1 C.2.1 dL_law_1973 (lv_at hl 1 rfl) ?_
  refine lv_icmp_eq (tgt := 1980) C.1 C.2.1 dL_law_1975 (by decide) (fun _ => ?_) (fun c9 => absurd hth c9)
  refine lv_iload C.1 C.2.1 dL_law_1980 (lv_at hl 1 rfl) ?_
  refine lv_if_ne (tgt := 1997) C.1 C.2.1 dL_law_1982 (by decide) (fun c9 => ?_) (fun c9 => ?_)
  · refine lv_goto (tgt := 3150) C.1 C.2.1 dL_law_1997 (by decide) ?_
    exact W.widen (k := cells + 4) (n := slots + 24) (by omega) (by omega) (hk _ _ _ _ _ _ _ hR' S (lv_sub hl [2, 3, 4, 5, 6, 7] rfl))
  have h0 : q.1 = 0 := by
    rcases hq with h | h
    · exact h
    · rw [h] at c9; exact absurd c9 (by decide)
  rw [if_pos h0, hval h0] at S
  refine lv_aload_n C.1 C.2.1 dL_law_1985 rfl (lv_at hl 5 rfl) ?_
  refine lv_iconst (v := 0) C.1 C.2.1 dL_law_1986 (by decide) ?_
  refine Y_lald C F S dL_law_1987 ?_
  refine lv_iload C.1 C.2.1 dL_law_1988 (lv_at hl 0 rfl) ?_
  refine lv_i2l C.1 C.2.1 dL_law_1990 rfl ?_
  refine W.lcmp C.1 C.2.1 dL_law_1991 ?_
  refine lv_if_eq (tgt := 1997) C.1 C.2.1 dL_law_1992 (by decide) (fun _ => ?_) (fun c9 => absurd (Y_cmp _) c9)
  refine lv_goto (tgt := 3150) C.1 C.2.1 dL_law_1997 (by decide) ?_
  exact W.widen (k := cells + 4) (n := slots + 24) (by omega) (by omega) (hk _ _ _ _ _ _ _ hR' S (lv_sub hl [2, 3, 4, 5, 6, 7] rfl))
theorem dL_law_2000 : decode cL_law 2000 = .ok (.aload_n 1, 1) := by decide +kernel
theorem dL_law_2001 : decode cL_law 2001 = .ok (.invokevirtual 257, 3) := by decide +kernel
theorem dL_law_2004 : decode cL_law 2004 = .ok (.aload_n 2, 1) := by decide +kernel
theorem dL_law_2005 : decode cL_law 2005 = .ok (.invokevirtual 260, 3) := by decide +kernel
theorem dL_law_2008 : decode cL_law 2008 = .ok (.if_icmp .eq 1142, 3) := by decide +kernel
theorem dL_law_2011 : decode cL_law 2011 = .ok (.iconst 0, 1) := by decide +kernel
theorem dL_law_2012 : decode cL_law 2012 = .ok (.ireturn, 1) := by decide +kernel
set_option maxHeartbeats 4000000 in
set_option maxRecDepth 100000 in
theorem w_law_busiest {p : Program} {l : Launch} {e : Env} {s : State} {m : MethodId} {below : List Frame} {meth : Method} {c : Code} {G : Gx} {b L i n0 m0 aL aD : Nat} {xs : Nat → Int32} {iv : Int32} {cL cD : ClassId} {cells slots : Nat} {Rel : Nat → Sg → Sg → Prop} {nn : Nat} {Q : State → Prop} (hnn9 : nn < 600) (hst : l.stackTraces = false) (C : Cx p s m #[.ref b] meth c RL code 10 ret G) (F : Y_F G s n0 m0 aL aD cL cD) (hX : va_X b L xs s s.heap) (hbl : b < s.heap.size) (hi : Y_I iv i L) (hc : cells + 4 ≤ 601024) (hs : slots + 24 ≤ 7293034) (hE : E_busiest Rel)
    (hk : ∀ (σ ρ : Sg) (v : Int64) (w : UInt64) (H : Heap) (locs : List Loc) (ls : Array Slot), Rel (nn + 1) σ ρ → Y_S G s n0 m0 aL aD cL cD σ ρ v w H locs → lv_has ls 10 [(0, .ref b), (1, .ref n0), (2, .ref m0), (3, .ref aL), (4, .ref aD), (5, .int iv)] → W p l e room_1 s m #[.ref b] below meth c H locs (cells + 4) (slots + 24) Q (F0 m 3150 ls [])) :
    ∀ (σ ρ : Sg) (v : Int64) (w : UInt64) (H : Heap) (locs : List Loc) (ls : Array Slot), Rel nn σ ρ → Y_S G s n0 m0 aL aD cL cD σ ρ v w H locs → lv_has ls 10 [(0, .ref b), (1, .ref n0), (2, .ref m0), (3, .ref aL), (4, .ref aD), (5, .int iv)] → W p l e room_1 s m #[.ref b] below meth c H locs cells slots Q (F0 m 2000 ls []) := by
  intro σ ρ v w H locs ls hR S hl
  obtain ⟨r, σ', ρ', e7, e8, hR'⟩ := hE nn σ ρ  hnn9 hR 
  refine lv_aload_n C.1 C.2.1 dL_law_2000 rfl (lv_at hl 1 rfl) ?_
  refine Y_c0I (r := r) (σ' := σ') (As := []) C F S rfl (m_X7_busiest l G (Y_X n0) σ  r σ' e7 _) kv_X7_busiest tw_3_163 ⟨(Nat.le_of_ble_eq_true rfl), (Nat.le_of_ble_eq_true rfl)⟩ rfl rfl (Nat.le_of_ble_eq_true rfl) hl.1 ⟨by show cells + 0 ≤ 601024; omega, by show slots + 0 ≤ 7293034; omega⟩ dL_law_2001 (fun H locs S => ?_)
  refine lv_aload_n C.1 C.2.1 dL_law_2004 rfl (lv_at hl 2 rfl) ?_
  refine Y_c1I (r := r) (ρ' := ρ') (As := []) C F S rfl (m_X8_busiest l G (Y_Mo m0) ρ  r ρ' e8 _) kv_X8_busiest tw_8_85 ⟨(Nat.le_of_ble_eq_true rfl), (Nat.le_of_ble_eq_true rfl)⟩ rfl rfl (Nat.le_of_ble_eq_true rfl) hl.1 ⟨by show cells + 0 ≤ 601024; omega, by show slots + 0 ≤ 7293034; omega⟩ dL_law_2005 (fun H locs S => ?_)
  refine lv_icmp_eq (tgt := 3150) C.1 C.2.1 dL_law_2008 (by decide) (fun _ => ?_) (fun c9 => absurd rfl c9)
  exact W.widen (k := cells + 4) (n := slots + 24) (by omega) (by omega) (hk _ _ _ _ _ _ _ hR' S (lv_sub hl [0, 1, 2, 3, 4, 5] rfl))
theorem dL_law_2013 : decode cL_law 2013 = .ok (.aload_n 1, 1) := by decide +kernel
theorem dL_law_2014 : decode cL_law 2014 = .ok (.invokevirtual 261, 3) := by decide +kernel
theorem dL_law_2017 : decode cL_law 2017 = .ok (.aload_n 2, 1) := by decide +kernel
theorem dL_law_2018 : decode cL_law 2018 = .ok (.invokevirtual 264, 3) := by decide +kernel
theorem dL_law_2021 : decode cL_law 2021 = .ok (.if_icmp .eq 1129, 3) := by decide +kernel
theorem dL_law_2024 : decode cL_law 2024 = .ok (.iconst 0, 1) := by decide +kernel
theorem dL_law_2025 : decode cL_law 2025 = .ok (.ireturn, 1) := by decide +kernel
set_option maxHeartbeats 4000000 in
set_option maxRecDepth 100000 in
theorem w_law_fullestFloor {p : Program} {l : Launch} {e : Env} {s : State} {m : MethodId} {below : List Frame} {meth : Method} {c : Code} {G : Gx} {b L i n0 m0 aL aD : Nat} {xs : Nat → Int32} {iv : Int32} {cL cD : ClassId} {cells slots : Nat} {Rel : Nat → Sg → Sg → Prop} {nn : Nat} {Q : State → Prop} (hnn9 : nn < 600) (hst : l.stackTraces = false) (C : Cx p s m #[.ref b] meth c RL code 10 ret G) (F : Y_F G s n0 m0 aL aD cL cD) (hX : va_X b L xs s s.heap) (hbl : b < s.heap.size) (hi : Y_I iv i L) (hc : cells + 4 ≤ 601024) (hs : slots + 24 ≤ 7293034) (hE : E_fullestFloor Rel)
    (hk : ∀ (σ ρ : Sg) (v : Int64) (w : UInt64) (H : Heap) (locs : List Loc) (ls : Array Slot), Rel (nn + 1) σ ρ → Y_S G s n0 m0 aL aD cL cD σ ρ v w H locs → lv_has ls 10 [(0, .ref b), (1, .ref n0), (2, .ref m0), (3, .ref aL), (4, .ref aD), (5, .int iv)] → W p l e room_1 s m #[.ref b] below meth c H locs (cells + 4) (slots + 24) Q (F0 m 3150 ls [])) :
    ∀ (σ ρ : Sg) (v : Int64) (w : UInt64) (H : Heap) (locs : List Loc) (ls : Array Slot), Rel nn σ ρ → Y_S G s n0 m0 aL aD cL cD σ ρ v w H locs → lv_has ls 10 [(0, .ref b), (1, .ref n0), (2, .ref m0), (3, .ref aL), (4, .ref aD), (5, .int iv)] → W p l e room_1 s m #[.ref b] below meth c H locs cells slots Q (F0 m 2013 ls []) := by
  intro σ ρ v w H locs ls hR S hl
  obtain ⟨r, σ', ρ', e7, e8, hR'⟩ := hE nn σ ρ  hnn9 hR 
  refine lv_aload_n C.1 C.2.1 dL_law_2013 rfl (lv_at hl 1 rfl) ?_
  refine Y_c0I (r := r) (σ' := σ') (As := []) C F S rfl (m_X7_fullestFloor l G (Y_X n0) σ  r σ' e7 _) kv_X7_fullestFloor tw_3_167 ⟨(Nat.le_of_ble_eq_true rfl), (Nat.le_of_ble_eq_true rfl)⟩ rfl rfl (Nat.le_of_ble_eq_true rfl) hl.1 ⟨by show cells + 0 ≤ 601024; omega, by show slots + 0 ≤ 7293034; omega⟩ dL_law_2014 (fun H locs S => ?_)
  refine lv_aload_n C.1 C.2.1 dL_law_2017 rfl (lv_at hl 2 rfl) ?_
  refine Y_c1I (r := r) (ρ' := ρ') (As := []) C F S rfl (m_X8_fullestFloor l G (Y_Mo m0) ρ  r ρ' e8 _) kv_X8_fullestFloor tw_8_89 ⟨(Nat.le_of_ble_eq_true rfl), (Nat.le_of_ble_eq_true rfl)⟩ rfl rfl (Nat.le_of_ble_eq_true rfl) hl.1 ⟨by show cells + 0 ≤ 601024; omega, by show slots + 0 ≤ 7293034; omega⟩ dL_law_2018 (fun H locs S => ?_)
  refine lv_icmp_eq (tgt := 3150) C.1 C.2.1 dL_law_2021 (by decide) (fun _ => ?_) (fun c9 => absurd rfl c9)
  exact W.widen (k := cells + 4) (n := slots + 24) (by omega) (by omega) (hk _ _ _ _ _ _ _ hR' S (lv_sub hl [0, 1, 2, 3, 4, 5] rfl))
theorem dL_law_2026 : decode cL_law 2026 = .ok (.aload_n 1, 1) := by decide +kernel
theorem dL_law_2027 : decode cL_law 2027 = .ok (.aload_n 0, 1) := by decide +kernel
theorem dL_law_2028 : decode cL_law 2028 = .ok (.iload 5, 2) := by decide +kernel
theorem dL_law_2030 : decode cL_law 2030 = .ok (.iconst 1, 1) := by decide +kernel
theorem dL_law_2031 : decode cL_law 2031 = .ok (.iadd, 1) := by decide +kernel
theorem dL_law_2032 : decode cL_law 2032 = .ok (.iaload, 1) := by decide +kernel
theorem dL_law_2033 : decode cL_law 2033 = .ok (.aload_n 3, 1) := by decide +kernel
theorem dL_law_2034 : decode cL_law 2034 = .ok (.invokestatic 265, 3) := by decide +kernel
theorem dL_law_2037 : decode cL_law 2037 = .ok (.istore 6, 2) := by decide +kernel
theorem dL_law_2039 : decode cL_law 2039 = .ok (.aload_n 2, 1) := by decide +kernel
theorem dL_law_2040 : decode cL_law 2040 = .ok (.aload_n 0, 1) := by decide +kernel
theorem dL_law_2041 : decode cL_law 2041 = .ok (.iload 5, 2) := by decide +kernel
theorem dL_law_2043 : decode cL_law 2043 = .ok (.iconst 1, 1) := by decide +kernel
theorem dL_law_2044 : decode cL_law 2044 = .ok (.iadd, 1) := by decide +kernel
theorem dL_law_2045 : decode cL_law 2045 = .ok (.iaload, 1) := by decide +kernel
theorem dL_law_2046 : decode cL_law 2046 = .ok (.invokevirtual 267, 3) := by decide +kernel
theorem dL_law_2049 : decode cL_law 2049 = .ok (.istore 7, 2) := by decide +kernel
theorem dL_law_2051 : decode cL_law 2051 = .ok (.aload_n 2, 1) := by decide +kernel
theorem dL_law_2052 : decode cL_law 2052 = .ok (.invokevirtual 169, 3) := by decide +kernel
theorem dL_law_2055 : decode cL_law 2055 = .ok (.iload 6, 2) := by decide +kernel
theorem dL_law_2057 : decode cL_law 2057 = .ok (.if_icmp .eq 5, 3) := by decide +kernel
theorem dL_law_2060 : decode cL_law 2060 = .ok (.iconst 0, 1) := by decide +kernel
theorem dL_law_2061 : decode cL_law 2061 = .ok (.ireturn, 1) := by decide +kernel
theorem dL_law_2062 : decode cL_law 2062 = .ok (.iload 6, 2) := by decide +kernel
theorem dL_law_2064 : decode cL_law 2064 = .ok (.ifCond .ne 15, 3) := by decide +kernel
theorem dL_law_2067 : decode cL_law 2067 = .ok (.aload_n 3, 1) := by decide +kernel
theorem dL_law_2068 : decode cL_law 2068 = .ok (.iconst 0, 1) := by decide +kernel
theorem dL_law_2069 : decode cL_law 2069 = .ok (.laload, 1) := by decide +kernel
theorem dL_law_2070 : decode cL_law 2070 = .ok (.iload 7, 2) := by decide +kernel
theorem dL_law_2072 : decode cL_law 2072 = .ok (.i2l, 1) := by decide +kernel
theorem dL_law_2073 : decode cL_law 2073 = .ok (.lcmp, 1) := by decide +kernel
theorem dL_law_2074 : decode cL_law 2074 = .ok (.ifCond .eq 5, 3) := by decide +kernel
theorem dL_law_2077 : decode cL_law 2077 = .ok (.iconst 0, 1) := by decide +kernel
theorem dL_law_2078 : decode cL_law 2078 = .ok (.ireturn, 1) := by decide +kernel
theorem dL_law_2079 : decode cL_law 2079 = .ok (.goto 1071, 3) := by decide +kernel
set_option maxHeartbeats 4000000 in
set_option maxRecDepth 100000 in
theorem w_law_riders {p : Program} {l : Launch} {e : Env} {s : State} {m : MethodId} {below : List Frame} {meth : Method} {c : Code} {G : Gx} {b L i n0 m0 aL aD : Nat} {xs : Nat → Int32} {iv : Int32} {cL cD : ClassId} {cells slots : Nat} {Rel : Nat → Sg → Sg → Prop} {nn : Nat} {Q : State → Prop} (hnn9 : nn < 600) (hst : l.stackTraces = false) (C : Cx p s m #[.ref b] meth c RL code 10 ret G) (F : Y_F G s n0 m0 aL aD cL cD) (hX : va_X b L xs s s.heap) (hbl : b < s.heap.size) (hi : Y_I iv i L) (hc : cells + 4 ≤ 601024) (hs : slots + 24 ≤ 7293034) (hE : E_riders Rel)
    (hk : ∀ (σ ρ : Sg) (v : Int64) (w : UInt64) (H : Heap) (locs : List Loc) (ls : Array Slot), Rel (nn + 1) σ ρ → Y_S G s n0 m0 aL aD cL cD σ ρ v w H locs → lv_has ls 10 [(0, .ref b), (1, .ref n0), (2, .ref m0), (3, .ref aL), (4, .ref aD), (5, .int iv)] → W p l e room_1 s m #[.ref b] below meth c H locs (cells + 4) (slots + 24) Q (F0 m 3150 ls [])) :
    ∀ (σ ρ : Sg) (v : Int64) (w : UInt64) (H : Heap) (locs : List Loc) (ls : Array Slot), Rel nn σ ρ → Y_S G s n0 m0 aL aD cL cD σ ρ v w H locs → lv_has ls 10 [(0, .ref b), (1, .ref n0), (2, .ref m0), (3, .ref aL), (4, .ref aD), (5, .int iv)] → W p l e room_1 s m #[.ref b] below meth c H locs cells slots Q (F0 m 2026 ls []) := by
  intro σ ρ v w H locs ls hR S hl
  obtain ⟨q, wq, ρ', e7, hq, e8, hR', hth, hval⟩ := hE nn σ ρ (xs (i + 1)) hnn9 hR 
  refine lv_aload_n C.1 C.2.1 dL_law_2026 rfl (lv_at hl 1 rfl) ?_
  refine lv_aload_n C.1 C.2.1 dL_law_2027 rfl (lv_at hl 0 rfl) ?_
  refine lv_iload C.1 C.2.1 dL_law_2028 (lv_at hl 5 rfl) ?_
  refine lv_iconst (v := 1) C.1 C.2.1 dL_law_2030 (by decide) ?_
  refine lv_iadd C.1 C.2.1 dL_law_2031 ?_
  refine Y_sld C S hX hbl hi.2.1.2.1 hi.2.1.1 hi.2.1.2.2 dL_law_2032 ?_
  refine lv_aload_n C.1 C.2.1 dL_law_2033 rfl (lv_at hl 3 rfl) ?_
  have hM := m_L_riders l hst G (Y_X n0) σ (xs (i + 1)) q e7 hq cL aL v H.size
  rw [show (if q.1 = 0 then (Sum.inl q.2.1.toInt64 : Int64 ⊕ UInt64) else Sum.inl v) = Sum.inl (if q.1 = 0 then q.2.1.toInt64 else v) by split <;> rfl] at hM
  refine Y_wL (n := 3) (As := [.ref n0, .int (xs (i + 1)), .ref aL]) C F S hM (tt_5 (List.mem_of_getElem? (i := 208) (by decide +kernel)) (by decide +kernel)) tw_5_207 tw_1_0 ⟨by decide, by decide, by decide +kernel⟩ tw_5_206 ⟨(Nat.le_of_ble_eq_true rfl), (Nat.le_of_ble_eq_true rfl)⟩ rfl rfl (Nat.le_of_ble_eq_true rfl) hl.1 ⟨by show cells + 1 ≤ 601024; omega, by show slots + 6 ≤ 7293034; omega⟩ dL_law_2034 (fun H locs S => ?_)
  refine lv_istore (lv' := [(6, .int (L_k [(1, 1)] q.1)), (0, .ref b), (1, .ref n0), (2, .ref m0), (3, .ref aL), (4, .ref aD), (5, .int iv)]) C.1 C.2.1 dL_law_2037 hl (by decide) rfl (fun ls hl => ?_)
  refine lv_aload_n C.1 C.2.1 dL_law_2039 rfl (lv_at hl 3 rfl) ?_
  refine lv_aload_n C.1 C.2.1 dL_law_2040 rfl (lv_at hl 1 rfl) ?_
  refine lv_iload C.1 C.2.1 dL_law_2041 (lv_at hl 6 rfl) ?_
  refine lv_iconst (v := 1) C.1 C.2.1 dL_law_2043 (by decide) ?_
  refine lv_iadd C.1 C.2.1 dL_law_2044 ?_
  refine Y_sld C S hX hbl hi.2.1.2.1 hi.2.1.1 hi.2.1.2.2 dL_law_2045 ?_
  refine Y_c1I (r := wq) (ρ' := ρ') (As := [.int (xs (i + 1))]) C F S rfl (m_X8_riders l G (Y_Mo m0) ρ (xs (i + 1)) wq ρ' e8 _) kv_X8_riders tw_8_109 ⟨(Nat.le_of_ble_eq_true rfl), (Nat.le_of_ble_eq_true rfl)⟩ rfl rfl (Nat.le_of_ble_eq_true rfl) hl.1 ⟨by show cells + 1 ≤ 601024; omega, by show slots + 6 ≤ 7293034; omega⟩ dL_law_2046 (fun H locs S => ?_)
  refine lv_istore (lv' := [(7, .int wq), (6, .int (L_k [(1, 1)] q.1)), (0, .ref b), (1, .ref n0), (2, .ref m0), (3, .ref aL), (4, .ref aD), (5, .int iv)]) C.1 C.2.1 dL_law_2049 hl (by decide) rfl (fun ls hl => ?_)
  refine lv_aload_n C.1 C.2.1 dL_law_2051 rfl (lv_at hl 4 rfl) ?_
  refine Y_c1I (r := ρ' 8 0 8) (ρ' := ρ') C F S rfl (As := []) (m_X8_thrown l G _ ρ' _ _ rfl _) kv_X8_thrown tw_6_188 ⟨(Nat.le_of_ble_eq_true rfl), (Nat.le_of_ble_eq_true rfl)⟩ rfl rfl (Nat.le_of_ble_eq_true rfl) hl.1 ⟨by show cells + 1 ≤ 601024; omega, by show slots + 6 ≤ 7293034; omega⟩ dL_law_2052 (fun H locs S => ?_)
  refine lv_iload C.1 C.2.1 dL_law_2055 (lv_at hl 1 rfl) ?_
  refine lv_icmp_eq (tgt := 2062) C.1 C.2.1 dL_law_2057 (by decide) (fun _ => ?_) (fun c9 => absurd hth c9)
  refine lv_iload C.1 C.2.1 dL_law_2062 (lv_at hl 1 rfl) ?_
  refine lv_if_ne (tgt := 2079) C.1 C.2.1 dL_law_2064 (by decide) (fun c9 => ?_) (fun c9 => ?_)
  · refine lv_goto (tgt := 3150) C.1 C.2.1 dL_law_2079 (by decide) ?_
    exact W.widen (k := cells + 4) (n := slots + 24) (by omega) (by omega) (hk _ _ _ _ _ _ _ hR' S (lv_sub hl [2, 3, 4, 5, 6, 7] rfl))
  have h0 : q.1 = 0 := by
    rcases hq with h | h
    · exact h
    · rw [h] at c9; exact absurd c9 (by decide)
  rw [if_pos h0, hval h0] at S
  refine lv_aload_n C.1 C.2.1 dL_law_2067 rfl (lv_at hl 5 rfl) ?_
  refine lv_iconst (v := 0) C.1 C.2.1 dL_law_2068 (by decide) ?_
  refine Y_lald C F S dL_law_2069 ?_
  refine lv_iload C.1 C.2.1 dL_law_2070 (lv_at hl 0 rfl) ?_
  refine lv_i2l C.1 C.2.1 dL_law_2072 rfl ?_
  refine W.lcmp C.1 C.2.1 dL_law_2073 ?_
  refine lv_if_eq (tgt := 2079) C.1 C.2.1 dL_law_2074 (by decide) (fun _ => ?_) (fun c9 => absurd (Y_cmp _) c9)
  refine lv_goto (tgt := 3150) C.1 C.2.1 dL_law_2079 (by decide) ?_
  exact W.widen (k := cells + 4) (n := slots + 24) (by omega) (by omega) (hk _ _ _ _ _ _ _ hR' S (lv_sub hl [2, 3, 4, 5, 6, 7] rfl))
theorem dL_law_2082 : decode cL_law 2082 = .ok (.aload_n 1, 1) := by decide +kernel
theorem dL_law_2083 : decode cL_law 2083 = .ok (.aload_n 0, 1) := by decide +kernel
theorem dL_law_2084 : decode cL_law 2084 = .ok (.iload 5, 2) := by decide +kernel
theorem dL_law_2086 : decode cL_law 2086 = .ok (.iconst 1, 1) := by decide +kernel
theorem dL_law_2087 : decode cL_law 2087 = .ok (.iadd, 1) := by decide +kernel
theorem dL_law_2088 : decode cL_law 2088 = .ok (.iaload, 1) := by decide +kernel
theorem dL_law_2089 : decode cL_law 2089 = .ok (.aload_n 3, 1) := by decide +kernel
theorem dL_law_2090 : decode cL_law 2090 = .ok (.invokestatic 268, 3) := by decide +kernel
theorem dL_law_2093 : decode cL_law 2093 = .ok (.istore 6, 2) := by decide +kernel
theorem dL_law_2095 : decode cL_law 2095 = .ok (.aload_n 2, 1) := by decide +kernel
theorem dL_law_2096 : decode cL_law 2096 = .ok (.aload_n 0, 1) := by decide +kernel
theorem dL_law_2097 : decode cL_law 2097 = .ok (.iload 5, 2) := by decide +kernel
theorem dL_law_2099 : decode cL_law 2099 = .ok (.iconst 1, 1) := by decide +kernel
theorem dL_law_2100 : decode cL_law 2100 = .ok (.iadd, 1) := by decide +kernel
theorem dL_law_2101 : decode cL_law 2101 = .ok (.iaload, 1) := by decide +kernel
theorem dL_law_2102 : decode cL_law 2102 = .ok (.invokevirtual 270, 3) := by decide +kernel
theorem dL_law_2105 : decode cL_law 2105 = .ok (.istore 7, 2) := by decide +kernel
theorem dL_law_2107 : decode cL_law 2107 = .ok (.aload_n 2, 1) := by decide +kernel
theorem dL_law_2108 : decode cL_law 2108 = .ok (.invokevirtual 169, 3) := by decide +kernel
theorem dL_law_2111 : decode cL_law 2111 = .ok (.iload 6, 2) := by decide +kernel
theorem dL_law_2113 : decode cL_law 2113 = .ok (.if_icmp .eq 5, 3) := by decide +kernel
theorem dL_law_2116 : decode cL_law 2116 = .ok (.iconst 0, 1) := by decide +kernel
theorem dL_law_2117 : decode cL_law 2117 = .ok (.ireturn, 1) := by decide +kernel
theorem dL_law_2118 : decode cL_law 2118 = .ok (.iload 6, 2) := by decide +kernel
theorem dL_law_2120 : decode cL_law 2120 = .ok (.ifCond .ne 15, 3) := by decide +kernel
theorem dL_law_2123 : decode cL_law 2123 = .ok (.aload_n 3, 1) := by decide +kernel
theorem dL_law_2124 : decode cL_law 2124 = .ok (.iconst 0, 1) := by decide +kernel
theorem dL_law_2125 : decode cL_law 2125 = .ok (.laload, 1) := by decide +kernel
theorem dL_law_2126 : decode cL_law 2126 = .ok (.iload 7, 2) := by decide +kernel
theorem dL_law_2128 : decode cL_law 2128 = .ok (.i2l, 1) := by decide +kernel
theorem dL_law_2129 : decode cL_law 2129 = .ok (.lcmp, 1) := by decide +kernel
theorem dL_law_2130 : decode cL_law 2130 = .ok (.ifCond .eq 5, 3) := by decide +kernel
theorem dL_law_2133 : decode cL_law 2133 = .ok (.iconst 0, 1) := by decide +kernel
theorem dL_law_2134 : decode cL_law 2134 = .ok (.ireturn, 1) := by decide +kernel
theorem dL_law_2135 : decode cL_law 2135 = .ok (.goto 1015, 3) := by decide +kernel
set_option maxHeartbeats 4000000 in
set_option maxRecDepth 100000 in
theorem w_law_served {p : Program} {l : Launch} {e : Env} {s : State} {m : MethodId} {below : List Frame} {meth : Method} {c : Code} {G : Gx} {b L i n0 m0 aL aD : Nat} {xs : Nat → Int32} {iv : Int32} {cL cD : ClassId} {cells slots : Nat} {Rel : Nat → Sg → Sg → Prop} {nn : Nat} {Q : State → Prop} (hnn9 : nn < 600) (hst : l.stackTraces = false) (C : Cx p s m #[.ref b] meth c RL code 10 ret G) (F : Y_F G s n0 m0 aL aD cL cD) (hX : va_X b L xs s s.heap) (hbl : b < s.heap.size) (hi : Y_I iv i L) (hc : cells + 4 ≤ 601024) (hs : slots + 24 ≤ 7293034) (hE : E_served Rel)
    (hk : ∀ (σ ρ : Sg) (v : Int64) (w : UInt64) (H : Heap) (locs : List Loc) (ls : Array Slot), Rel (nn + 1) σ ρ → Y_S G s n0 m0 aL aD cL cD σ ρ v w H locs → lv_has ls 10 [(0, .ref b), (1, .ref n0), (2, .ref m0), (3, .ref aL), (4, .ref aD), (5, .int iv)] → W p l e room_1 s m #[.ref b] below meth c H locs (cells + 4) (slots + 24) Q (F0 m 3150 ls [])) :
    ∀ (σ ρ : Sg) (v : Int64) (w : UInt64) (H : Heap) (locs : List Loc) (ls : Array Slot), Rel nn σ ρ → Y_S G s n0 m0 aL aD cL cD σ ρ v w H locs → lv_has ls 10 [(0, .ref b), (1, .ref n0), (2, .ref m0), (3, .ref aL), (4, .ref aD), (5, .int iv)] → W p l e room_1 s m #[.ref b] below meth c H locs cells slots Q (F0 m 2082 ls []) := by
  intro σ ρ v w H locs ls hR S hl
  obtain ⟨q, wq, ρ', e7, hq, e8, hR', hth, hval⟩ := hE nn σ ρ (xs (i + 1)) hnn9 hR 
  refine lv_aload_n C.1 C.2.1 dL_law_2082 rfl (lv_at hl 1 rfl) ?_
  refine lv_aload_n C.1 C.2.1 dL_law_2083 rfl (lv_at hl 0 rfl) ?_
  refine lv_iload C.1 C.2.1 dL_law_2084 (lv_at hl 5 rfl) ?_
  refine lv_iconst (v := 1) C.1 C.2.1 dL_law_2086 (by decide) ?_
  refine lv_iadd C.1 C.2.1 dL_law_2087 ?_
  refine Y_sld C S hX hbl hi.2.1.2.1 hi.2.1.1 hi.2.1.2.2 dL_law_2088 ?_
  refine lv_aload_n C.1 C.2.1 dL_law_2089 rfl (lv_at hl 3 rfl) ?_
  have hM := m_L_served l hst G (Y_X n0) σ (xs (i + 1)) q e7 hq cL aL v H.size
  rw [show (if q.1 = 0 then (Sum.inl q.2.1.toInt64 : Int64 ⊕ UInt64) else Sum.inl v) = Sum.inl (if q.1 = 0 then q.2.1.toInt64 else v) by split <;> rfl] at hM
  refine Y_wL (n := 3) (As := [.ref n0, .int (xs (i + 1)), .ref aL]) C F S hM (tt_5 (List.mem_of_getElem? (i := 215) (by decide +kernel)) (by decide +kernel)) tw_5_214 tw_1_0 ⟨by decide, by decide, by decide +kernel⟩ tw_5_213 ⟨(Nat.le_of_ble_eq_true rfl), (Nat.le_of_ble_eq_true rfl)⟩ rfl rfl (Nat.le_of_ble_eq_true rfl) hl.1 ⟨by show cells + 1 ≤ 601024; omega, by show slots + 6 ≤ 7293034; omega⟩ dL_law_2090 (fun H locs S => ?_)
  refine lv_istore (lv' := [(6, .int (L_k [(1, 1)] q.1)), (0, .ref b), (1, .ref n0), (2, .ref m0), (3, .ref aL), (4, .ref aD), (5, .int iv)]) C.1 C.2.1 dL_law_2093 hl (by decide) rfl (fun ls hl => ?_)
  refine lv_aload_n C.1 C.2.1 dL_law_2095 rfl (lv_at hl 3 rfl) ?_
  refine lv_aload_n C.1 C.2.1 dL_law_2096 rfl (lv_at hl 1 rfl) ?_
  refine lv_iload C.1 C.2.1 dL_law_2097 (lv_at hl 6 rfl) ?_
  refine lv_iconst (v := 1) C.1 C.2.1 dL_law_2099 (by decide) ?_
  refine lv_iadd C.1 C.2.1 dL_law_2100 ?_
  refine Y_sld C S hX hbl hi.2.1.2.1 hi.2.1.1 hi.2.1.2.2 dL_law_2101 ?_
  refine Y_c1I (r := wq) (ρ' := ρ') (As := [.int (xs (i + 1))]) C F S rfl (m_X8_served l G (Y_Mo m0) ρ (xs (i + 1)) wq ρ' e8 _) kv_X8_served tw_8_113 ⟨(Nat.le_of_ble_eq_true rfl), (Nat.le_of_ble_eq_true rfl)⟩ rfl rfl (Nat.le_of_ble_eq_true rfl) hl.1 ⟨by show cells + 1 ≤ 601024; omega, by show slots + 6 ≤ 7293034; omega⟩ dL_law_2102 (fun H locs S => ?_)
  refine lv_istore (lv' := [(7, .int wq), (6, .int (L_k [(1, 1)] q.1)), (0, .ref b), (1, .ref n0), (2, .ref m0), (3, .ref aL), (4, .ref aD), (5, .int iv)]) C.1 C.2.1 dL_law_2105 hl (by decide) rfl (fun ls hl => ?_)
  refine lv_aload_n C.1 C.2.1 dL_law_2107 rfl (lv_at hl 4 rfl) ?_
  refine Y_c1I (r := ρ' 8 0 8) (ρ' := ρ') C F S rfl (As := []) (m_X8_thrown l G _ ρ' _ _ rfl _) kv_X8_thrown tw_6_188 ⟨(Nat.le_of_ble_eq_true rfl), (Nat.le_of_ble_eq_true rfl)⟩ rfl rfl (Nat.le_of_ble_eq_true rfl) hl.1 ⟨by show cells + 1 ≤ 601024; omega, by show slots + 6 ≤ 7293034; omega⟩ dL_law_2108 (fun H locs S => ?_)
  refine lv_iload C.1 C.2.1 dL_law_2111 (lv_at hl 1 rfl) ?_
  refine lv_icmp_eq (tgt := 2118) C.1 C.2.1 dL_law_2113 (by decide) (fun _ => ?_) (fun c9 => absurd hth c9)
  refine lv_iload C.1 C.2.1 dL_law_2118 (lv_at hl 1 rfl) ?_
  refine lv_if_ne (tgt := 2135) C.1 C.2.1 dL_law_2120 (by decide) (fun c9 => ?_) (fun c9 => ?_)
  · refine lv_goto (tgt := 3150) C.1 C.2.1 dL_law_2135 (by decide) ?_
    exact W.widen (k := cells + 4) (n := slots + 24) (by omega) (by omega) (hk _ _ _ _ _ _ _ hR' S (lv_sub hl [2, 3, 4, 5, 6, 7] rfl))
  have h0 : q.1 = 0 := by
    rcases hq with h | h
    · exact h
    · rw [h] at c9; exact absurd c9 (by decide)
  rw [if_pos h0, hval h0] at S
  refine lv_aload_n C.1 C.2.1 dL_law_2123 rfl (lv_at hl 5 rfl) ?_
  refine lv_iconst (v := 0) C.1 C.2.1 dL_law_2124 (by decide) ?_
  refine Y_lald C F S dL_law_2125 ?_
  refine lv_iload C.1 C.2.1 dL_law_2126 (lv_at hl 0 rfl) ?_
  refine lv_i2l C.1 C.2.1 dL_law_2128 rfl ?_
  refine W.lcmp C.1 C.2.1 dL_law_2129 ?_
  refine lv_if_eq (tgt := 2135) C.1 C.2.1 dL_law_2130 (by decide) (fun _ => ?_) (fun c9 => absurd (Y_cmp _) c9)
  refine lv_goto (tgt := 3150) C.1 C.2.1 dL_law_2135 (by decide) ?_
  exact W.widen (k := cells + 4) (n := slots + 24) (by omega) (by omega) (hk _ _ _ _ _ _ _ hR' S (lv_sub hl [2, 3, 4, 5, 6, 7] rfl))
theorem dL_law_2138 : decode cL_law 2138 = .ok (.aload_n 1, 1) := by decide +kernel
theorem dL_law_2139 : decode cL_law 2139 = .ok (.invokevirtual 271, 3) := by decide +kernel
theorem dL_law_2142 : decode cL_law 2142 = .ok (.dstore 6, 2) := by decide +kernel
theorem dL_law_2144 : decode cL_law 2144 = .ok (.aload_n 2, 1) := by decide +kernel
theorem dL_law_2145 : decode cL_law 2145 = .ok (.invokevirtual 274, 3) := by decide +kernel
theorem dL_law_2148 : decode cL_law 2148 = .ok (.dstore 8, 2) := by decide +kernel
theorem dL_law_2150 : decode cL_law 2150 = .ok (.dload 6, 2) := by decide +kernel
theorem dL_law_2152 : decode cL_law 2152 = .ok (.dload 8, 2) := by decide +kernel
theorem dL_law_2154 : decode cL_law 2154 = .ok (.dcmp .l, 1) := by decide +kernel
theorem dL_law_2155 : decode cL_law 2155 = .ok (.ifCond .eq 21, 3) := by decide +kernel
theorem dL_law_2158 : decode cL_law 2158 = .ok (.dload 6, 2) := by decide +kernel
theorem dL_law_2160 : decode cL_law 2160 = .ok (.dload 6, 2) := by decide +kernel
theorem dL_law_2162 : decode cL_law 2162 = .ok (.dcmp .l, 1) := by decide +kernel
theorem dL_law_2163 : decode cL_law 2163 = .ok (.ifCond .eq 11, 3) := by decide +kernel
theorem dL_law_2166 : decode cL_law 2166 = .ok (.dload 8, 2) := by decide +kernel
theorem dL_law_2168 : decode cL_law 2168 = .ok (.dload 8, 2) := by decide +kernel
theorem dL_law_2170 : decode cL_law 2170 = .ok (.dcmp .l, 1) := by decide +kernel
theorem dL_law_2171 : decode cL_law 2171 = .ok (.ifCond .ne 5, 3) := by decide +kernel
theorem dL_law_2174 : decode cL_law 2174 = .ok (.iconst 0, 1) := by decide +kernel
theorem dL_law_2175 : decode cL_law 2175 = .ok (.ireturn, 1) := by decide +kernel
theorem dL_law_2176 : decode cL_law 2176 = .ok (.goto 974, 3) := by decide +kernel
set_option maxHeartbeats 4000000 in
set_option maxRecDepth 100000 in
theorem w_law_meanRide {p : Program} {l : Launch} {e : Env} {s : State} {m : MethodId} {below : List Frame} {meth : Method} {c : Code} {G : Gx} {b L i n0 m0 aL aD : Nat} {xs : Nat → Int32} {iv : Int32} {cL cD : ClassId} {cells slots : Nat} {Rel : Nat → Sg → Sg → Prop} {nn : Nat} {Q : State → Prop} (hnn9 : nn < 600) (hst : l.stackTraces = false) (C : Cx p s m #[.ref b] meth c RL code 10 ret G) (F : Y_F G s n0 m0 aL aD cL cD) (hX : va_X b L xs s s.heap) (hbl : b < s.heap.size) (hi : Y_I iv i L) (hc : cells + 4 ≤ 601024) (hs : slots + 24 ≤ 7293034) (hE : E_meanRide Rel)
    (hk : ∀ (σ ρ : Sg) (v : Int64) (w : UInt64) (H : Heap) (locs : List Loc) (ls : Array Slot), Rel (nn + 1) σ ρ → Y_S G s n0 m0 aL aD cL cD σ ρ v w H locs → lv_has ls 10 [(0, .ref b), (1, .ref n0), (2, .ref m0), (3, .ref aL), (4, .ref aD), (5, .int iv)] → W p l e room_1 s m #[.ref b] below meth c H locs (cells + 4) (slots + 24) Q (F0 m 3150 ls [])) :
    ∀ (σ ρ : Sg) (v : Int64) (w : UInt64) (H : Heap) (locs : List Loc) (ls : Array Slot), Rel nn σ ρ → Y_S G s n0 m0 aL aD cL cD σ ρ v w H locs → lv_has ls 10 [(0, .ref b), (1, .ref n0), (2, .ref m0), (3, .ref aL), (4, .ref aD), (5, .int iv)] → W p l e room_1 s m #[.ref b] below meth c H locs cells slots Q (F0 m 2138 ls []) := by
  intro σ ρ v w H locs ls hR S hl
  obtain ⟨r, σ', ρ', e7, e8, hR'⟩ := hE nn σ ρ  hnn9 hR 
  refine lv_aload_n C.1 C.2.1 dL_law_2138 rfl (lv_at hl 1 rfl) ?_
  refine Y_c0D (r := r) (σ' := σ') (As := []) C F S rfl (m_X7_meanRide l G (Y_X n0) σ  r σ' e7 _) kv_X7_meanRide tw_3_175 ⟨(Nat.le_of_ble_eq_true rfl), (Nat.le_of_ble_eq_true rfl)⟩ rfl rfl (Nat.le_of_ble_eq_true rfl) hl.1 ⟨by show cells + 0 ≤ 601024; omega, by show slots + 0 ≤ 7293034; omega⟩ dL_law_2139 (fun H locs S => ?_)
  refine lv_dstore (lv' := [(6, .double r), (0, .ref b), (1, .ref n0), (2, .ref m0), (3, .ref aL), (4, .ref aD), (5, .int iv)]) C.1 C.2.1 dL_law_2142 hl (by decide) rfl (fun ls hl => ?_)
  refine lv_aload_n C.1 C.2.1 dL_law_2144 rfl (lv_at hl 3 rfl) ?_
  refine Y_c1D (r := r) (ρ' := ρ') (As := []) C F S rfl (m_X8_meanRide l G (Y_Mo m0) ρ  r ρ' e8 _) kv_X8_meanRide tw_8_117 ⟨(Nat.le_of_ble_eq_true rfl), (Nat.le_of_ble_eq_true rfl)⟩ rfl rfl (Nat.le_of_ble_eq_true rfl) hl.1 ⟨by show cells + 0 ≤ 601024; omega, by show slots + 0 ≤ 7293034; omega⟩ dL_law_2145 (fun H locs S => ?_)
  refine lv_dstore (lv' := [(8, .double r), (6, .double r), (0, .ref b), (1, .ref n0), (2, .ref m0), (3, .ref aL), (4, .ref aD), (5, .int iv)]) C.1 C.2.1 dL_law_2148 hl (by decide) rfl (fun ls hl => ?_)
  refine lv_dload C.1 C.2.1 dL_law_2150 (lv_at hl 1 rfl) ?_
  refine lv_dload C.1 C.2.1 dL_law_2152 (lv_at hl 0 rfl) ?_
  refine lv_dcmp C.1 C.2.1 dL_law_2154 ?_
  refine lv_if_eq (tgt := 2176) C.1 C.2.1 dL_law_2155 (by decide) (fun c9 => ?_) (fun c9 => ?_)
  · refine lv_goto (tgt := 3150) C.1 C.2.1 dL_law_2176 (by decide) ?_
    exact W.widen (k := cells + 4) (n := slots + 24) (by omega) (by omega) (hk _ _ _ _ _ _ _ hR' S (lv_sub hl [2, 3, 4, 5, 6, 7] rfl))
  refine lv_dload C.1 C.2.1 dL_law_2158 (lv_at hl 1 rfl) ?_
  refine lv_dload C.1 C.2.1 dL_law_2160 (lv_at hl 1 rfl) ?_
  refine lv_dcmp C.1 C.2.1 dL_law_2162 ?_
  refine lv_if_eq (tgt := 2174) C.1 C.2.1 dL_law_2163 (by decide) (fun c8 => absurd c8 c9) (fun _ => ?_)
  refine lv_dload C.1 C.2.1 dL_law_2166 (lv_at hl 0 rfl) ?_
  refine lv_dload C.1 C.2.1 dL_law_2168 (lv_at hl 0 rfl) ?_
  refine lv_dcmp C.1 C.2.1 dL_law_2170 ?_
  refine lv_if_ne (tgt := 2176) C.1 C.2.1 dL_law_2171 (by decide) (fun _ => ?_) (fun c8 => absurd c8 c9)
  refine lv_goto (tgt := 3150) C.1 C.2.1 dL_law_2176 (by decide) ?_
  exact W.widen (k := cells + 4) (n := slots + 24) (by omega) (by omega) (hk _ _ _ _ _ _ _ hR' S (lv_sub hl [2, 3, 4, 5, 6, 7] rfl))
theorem dL_law_2179 : decode cL_law 2179 = .ok (.aload_n 1, 1) := by decide +kernel
theorem dL_law_2180 : decode cL_law 2180 = .ok (.aload_n 0, 1) := by decide +kernel
theorem dL_law_2181 : decode cL_law 2181 = .ok (.iload 5, 2) := by decide +kernel
theorem dL_law_2183 : decode cL_law 2183 = .ok (.iconst 1, 1) := by decide +kernel
theorem dL_law_2184 : decode cL_law 2184 = .ok (.iadd, 1) := by decide +kernel
theorem dL_law_2185 : decode cL_law 2185 = .ok (.iaload, 1) := by decide +kernel
theorem dL_law_2186 : decode cL_law 2186 = .ok (.aload_n 0, 1) := by decide +kernel
theorem dL_law_2187 : decode cL_law 2187 = .ok (.iload 5, 2) := by decide +kernel
theorem dL_law_2189 : decode cL_law 2189 = .ok (.iconst 2, 1) := by decide +kernel
theorem dL_law_2190 : decode cL_law 2190 = .ok (.iadd, 1) := by decide +kernel
theorem dL_law_2191 : decode cL_law 2191 = .ok (.iaload, 1) := by decide +kernel
theorem dL_law_2192 : decode cL_law 2192 = .ok (.aload_n 3, 1) := by decide +kernel
theorem dL_law_2193 : decode cL_law 2193 = .ok (.invokestatic 275, 3) := by decide +kernel
theorem dL_law_2196 : decode cL_law 2196 = .ok (.istore 6, 2) := by decide +kernel
theorem dL_law_2198 : decode cL_law 2198 = .ok (.aload_n 2, 1) := by decide +kernel
theorem dL_law_2199 : decode cL_law 2199 = .ok (.aload_n 0, 1) := by decide +kernel
theorem dL_law_2200 : decode cL_law 2200 = .ok (.iload 5, 2) := by decide +kernel
theorem dL_law_2202 : decode cL_law 2202 = .ok (.iconst 1, 1) := by decide +kernel
theorem dL_law_2203 : decode cL_law 2203 = .ok (.iadd, 1) := by decide +kernel
theorem dL_law_2204 : decode cL_law 2204 = .ok (.iaload, 1) := by decide +kernel
theorem dL_law_2205 : decode cL_law 2205 = .ok (.aload_n 0, 1) := by decide +kernel
theorem dL_law_2206 : decode cL_law 2206 = .ok (.iload 5, 2) := by decide +kernel
theorem dL_law_2208 : decode cL_law 2208 = .ok (.iconst 2, 1) := by decide +kernel
theorem dL_law_2209 : decode cL_law 2209 = .ok (.iadd, 1) := by decide +kernel
theorem dL_law_2210 : decode cL_law 2210 = .ok (.iaload, 1) := by decide +kernel
theorem dL_law_2211 : decode cL_law 2211 = .ok (.invokevirtual 277, 3) := by decide +kernel
theorem dL_law_2214 : decode cL_law 2214 = .ok (.istore 7, 2) := by decide +kernel
theorem dL_law_2216 : decode cL_law 2216 = .ok (.aload_n 2, 1) := by decide +kernel
theorem dL_law_2217 : decode cL_law 2217 = .ok (.invokevirtual 169, 3) := by decide +kernel
theorem dL_law_2220 : decode cL_law 2220 = .ok (.iload 6, 2) := by decide +kernel
theorem dL_law_2222 : decode cL_law 2222 = .ok (.if_icmp .eq 5, 3) := by decide +kernel
theorem dL_law_2225 : decode cL_law 2225 = .ok (.iconst 0, 1) := by decide +kernel
theorem dL_law_2226 : decode cL_law 2226 = .ok (.ireturn, 1) := by decide +kernel
theorem dL_law_2227 : decode cL_law 2227 = .ok (.iload 6, 2) := by decide +kernel
theorem dL_law_2229 : decode cL_law 2229 = .ok (.ifCond .ne 15, 3) := by decide +kernel
theorem dL_law_2232 : decode cL_law 2232 = .ok (.aload_n 3, 1) := by decide +kernel
theorem dL_law_2233 : decode cL_law 2233 = .ok (.iconst 0, 1) := by decide +kernel
theorem dL_law_2234 : decode cL_law 2234 = .ok (.laload, 1) := by decide +kernel
theorem dL_law_2235 : decode cL_law 2235 = .ok (.iload 7, 2) := by decide +kernel
theorem dL_law_2237 : decode cL_law 2237 = .ok (.i2l, 1) := by decide +kernel
theorem dL_law_2238 : decode cL_law 2238 = .ok (.lcmp, 1) := by decide +kernel
theorem dL_law_2239 : decode cL_law 2239 = .ok (.ifCond .eq 5, 3) := by decide +kernel
theorem dL_law_2242 : decode cL_law 2242 = .ok (.iconst 0, 1) := by decide +kernel
theorem dL_law_2243 : decode cL_law 2243 = .ok (.ireturn, 1) := by decide +kernel
theorem dL_law_2244 : decode cL_law 2244 = .ok (.goto 906, 3) := by decide +kernel
set_option maxHeartbeats 4000000 in
set_option maxRecDepth 100000 in
theorem w_law_knownBest {p : Program} {l : Launch} {e : Env} {s : State} {m : MethodId} {below : List Frame} {meth : Method} {c : Code} {G : Gx} {b L i n0 m0 aL aD : Nat} {xs : Nat → Int32} {iv : Int32} {cL cD : ClassId} {cells slots : Nat} {Rel : Nat → Sg → Sg → Prop} {nn : Nat} {Q : State → Prop} (hnn9 : nn < 600) (hst : l.stackTraces = false) (C : Cx p s m #[.ref b] meth c RL code 10 ret G) (F : Y_F G s n0 m0 aL aD cL cD) (hX : va_X b L xs s s.heap) (hbl : b < s.heap.size) (hi : Y_I iv i L) (hc : cells + 4 ≤ 601024) (hs : slots + 24 ≤ 7293034) (hE : E_knownBest Rel)
    (hk : ∀ (σ ρ : Sg) (v : Int64) (w : UInt64) (H : Heap) (locs : List Loc) (ls : Array Slot), Rel (nn + 1) σ ρ → Y_S G s n0 m0 aL aD cL cD σ ρ v w H locs → lv_has ls 10 [(0, .ref b), (1, .ref n0), (2, .ref m0), (3, .ref aL), (4, .ref aD), (5, .int iv)] → W p l e room_1 s m #[.ref b] below meth c H locs (cells + 4) (slots + 24) Q (F0 m 3150 ls [])) :
    ∀ (σ ρ : Sg) (v : Int64) (w : UInt64) (H : Heap) (locs : List Loc) (ls : Array Slot), Rel nn σ ρ → Y_S G s n0 m0 aL aD cL cD σ ρ v w H locs → lv_has ls 10 [(0, .ref b), (1, .ref n0), (2, .ref m0), (3, .ref aL), (4, .ref aD), (5, .int iv)] → W p l e room_1 s m #[.ref b] below meth c H locs cells slots Q (F0 m 2179 ls []) := by
  intro σ ρ v w H locs ls hR S hl
  obtain ⟨q, wq, ρ', e7, hq, e8, hR', hth, hval⟩ := hE nn σ ρ (xs (i + 1)) (xs (i + 2)) hnn9 hR 
  refine lv_aload_n C.1 C.2.1 dL_law_2179 rfl (lv_at hl 1 rfl) ?_
  refine lv_aload_n C.1 C.2.1 dL_law_2180 rfl (lv_at hl 0 rfl) ?_
  refine lv_iload C.1 C.2.1 dL_law_2181 (lv_at hl 5 rfl) ?_
  refine lv_iconst (v := 1) C.1 C.2.1 dL_law_2183 (by decide) ?_
  refine lv_iadd C.1 C.2.1 dL_law_2184 ?_
  refine Y_sld C S hX hbl hi.2.1.2.1 hi.2.1.1 hi.2.1.2.2 dL_law_2185 ?_
  refine lv_aload_n C.1 C.2.1 dL_law_2186 rfl (lv_at hl 0 rfl) ?_
  refine lv_iload C.1 C.2.1 dL_law_2187 (lv_at hl 5 rfl) ?_
  refine lv_iconst (v := 2) C.1 C.2.1 dL_law_2189 (by decide) ?_
  refine lv_iadd C.1 C.2.1 dL_law_2190 ?_
  refine Y_sld C S hX hbl hi.2.2.1.2.1 hi.2.2.1.1 hi.2.2.1.2.2 dL_law_2191 ?_
  refine lv_aload_n C.1 C.2.1 dL_law_2192 rfl (lv_at hl 3 rfl) ?_
  have hM := m_L_knownBest l hst G (Y_X n0) σ (xs (i + 1)) (xs (i + 2)) q e7 hq cL aL v H.size
  rw [show (if q.1 = 0 then (Sum.inl q.2.1.toInt64 : Int64 ⊕ UInt64) else Sum.inl v) = Sum.inl (if q.1 = 0 then q.2.1.toInt64 else v) by split <;> rfl] at hM
  refine Y_wL (n := 4) (As := [.ref n0, .int (xs (i + 1)), .int (xs (i + 2)), .ref aL]) C F S hM (tt_5 (List.mem_of_getElem? (i := 222) (by decide +kernel)) (by decide +kernel)) tw_5_221 tw_1_0 ⟨by decide, by decide, by decide +kernel⟩ tw_5_220 ⟨(Nat.le_of_ble_eq_true rfl), (Nat.le_of_ble_eq_true rfl)⟩ rfl rfl (Nat.le_of_ble_eq_true rfl) hl.1 ⟨by show cells + 2 ≤ 601024; omega, by show slots + 12 ≤ 7293034; omega⟩ dL_law_2193 (fun H locs S => ?_)
  refine lv_istore (lv' := [(6, .int (L_k [(1, 1)] q.1)), (0, .ref b), (1, .ref n0), (2, .ref m0), (3, .ref aL), (4, .ref aD), (5, .int iv)]) C.1 C.2.1 dL_law_2196 hl (by decide) rfl (fun ls hl => ?_)
  refine lv_aload_n C.1 C.2.1 dL_law_2198 rfl (lv_at hl 3 rfl) ?_
  refine lv_aload_n C.1 C.2.1 dL_law_2199 rfl (lv_at hl 1 rfl) ?_
  refine lv_iload C.1 C.2.1 dL_law_2200 (lv_at hl 6 rfl) ?_
  refine lv_iconst (v := 1) C.1 C.2.1 dL_law_2202 (by decide) ?_
  refine lv_iadd C.1 C.2.1 dL_law_2203 ?_
  refine Y_sld C S hX hbl hi.2.1.2.1 hi.2.1.1 hi.2.1.2.2 dL_law_2204 ?_
  refine lv_aload_n C.1 C.2.1 dL_law_2205 rfl (lv_at hl 1 rfl) ?_
  refine lv_iload C.1 C.2.1 dL_law_2206 (lv_at hl 6 rfl) ?_
  refine lv_iconst (v := 2) C.1 C.2.1 dL_law_2208 (by decide) ?_
  refine lv_iadd C.1 C.2.1 dL_law_2209 ?_
  refine Y_sld C S hX hbl hi.2.2.1.2.1 hi.2.2.1.1 hi.2.2.1.2.2 dL_law_2210 ?_
  refine Y_c1I (r := wq) (ρ' := ρ') (As := [.int (xs (i + 1)), .int (xs (i + 2))]) C F S rfl (m_X8_knownBest l G (Y_Mo m0) ρ (xs (i + 1)) (xs (i + 2)) wq ρ' e8 _) kv_X8_knownBest tw_8_121 ⟨(Nat.le_of_ble_eq_true rfl), (Nat.le_of_ble_eq_true rfl)⟩ rfl rfl (Nat.le_of_ble_eq_true rfl) hl.1 ⟨by show cells + 2 ≤ 601024; omega, by show slots + 12 ≤ 7293034; omega⟩ dL_law_2211 (fun H locs S => ?_)
  refine lv_istore (lv' := [(7, .int wq), (6, .int (L_k [(1, 1)] q.1)), (0, .ref b), (1, .ref n0), (2, .ref m0), (3, .ref aL), (4, .ref aD), (5, .int iv)]) C.1 C.2.1 dL_law_2214 hl (by decide) rfl (fun ls hl => ?_)
  refine lv_aload_n C.1 C.2.1 dL_law_2216 rfl (lv_at hl 4 rfl) ?_
  refine Y_c1I (r := ρ' 8 0 8) (ρ' := ρ') C F S rfl (As := []) (m_X8_thrown l G _ ρ' _ _ rfl _) kv_X8_thrown tw_6_188 ⟨(Nat.le_of_ble_eq_true rfl), (Nat.le_of_ble_eq_true rfl)⟩ rfl rfl (Nat.le_of_ble_eq_true rfl) hl.1 ⟨by show cells + 2 ≤ 601024; omega, by show slots + 12 ≤ 7293034; omega⟩ dL_law_2217 (fun H locs S => ?_)
  refine lv_iload C.1 C.2.1 dL_law_2220 (lv_at hl 1 rfl) ?_
  refine lv_icmp_eq (tgt := 2227) C.1 C.2.1 dL_law_2222 (by decide) (fun _ => ?_) (fun c9 => absurd hth c9)
  refine lv_iload C.1 C.2.1 dL_law_2227 (lv_at hl 1 rfl) ?_
  refine lv_if_ne (tgt := 2244) C.1 C.2.1 dL_law_2229 (by decide) (fun c9 => ?_) (fun c9 => ?_)
  · refine lv_goto (tgt := 3150) C.1 C.2.1 dL_law_2244 (by decide) ?_
    exact W.widen (k := cells + 4) (n := slots + 24) (by omega) (by omega) (hk _ _ _ _ _ _ _ hR' S (lv_sub hl [2, 3, 4, 5, 6, 7] rfl))
  have h0 : q.1 = 0 := by
    rcases hq with h | h
    · exact h
    · rw [h] at c9; exact absurd c9 (by decide)
  rw [if_pos h0, hval h0] at S
  refine lv_aload_n C.1 C.2.1 dL_law_2232 rfl (lv_at hl 5 rfl) ?_
  refine lv_iconst (v := 0) C.1 C.2.1 dL_law_2233 (by decide) ?_
  refine Y_lald C F S dL_law_2234 ?_
  refine lv_iload C.1 C.2.1 dL_law_2235 (lv_at hl 0 rfl) ?_
  refine lv_i2l C.1 C.2.1 dL_law_2237 rfl ?_
  refine W.lcmp C.1 C.2.1 dL_law_2238 ?_
  refine lv_if_eq (tgt := 2244) C.1 C.2.1 dL_law_2239 (by decide) (fun _ => ?_) (fun c9 => absurd (Y_cmp _) c9)
  refine lv_goto (tgt := 3150) C.1 C.2.1 dL_law_2244 (by decide) ?_
  exact W.widen (k := cells + 4) (n := slots + 24) (by omega) (by omega) (hk _ _ _ _ _ _ _ hR' S (lv_sub hl [2, 3, 4, 5, 6, 7] rfl))
theorem dL_law_2247 : decode cL_law 2247 = .ok (.aload_n 1, 1) := by decide +kernel
theorem dL_law_2248 : decode cL_law 2248 = .ok (.aload_n 0, 1) := by decide +kernel
theorem dL_law_2249 : decode cL_law 2249 = .ok (.iload 5, 2) := by decide +kernel
theorem dL_law_2251 : decode cL_law 2251 = .ok (.iconst 1, 1) := by decide +kernel
theorem dL_law_2252 : decode cL_law 2252 = .ok (.iadd, 1) := by decide +kernel
theorem dL_law_2253 : decode cL_law 2253 = .ok (.iaload, 1) := by decide +kernel
theorem dL_law_2254 : decode cL_law 2254 = .ok (.aload_n 3, 1) := by decide +kernel
theorem dL_law_2255 : decode cL_law 2255 = .ok (.invokestatic 278, 3) := by decide +kernel
theorem dL_law_2258 : decode cL_law 2258 = .ok (.istore 6, 2) := by decide +kernel
theorem dL_law_2260 : decode cL_law 2260 = .ok (.aload_n 2, 1) := by decide +kernel
theorem dL_law_2261 : decode cL_law 2261 = .ok (.aload_n 0, 1) := by decide +kernel
theorem dL_law_2262 : decode cL_law 2262 = .ok (.iload 5, 2) := by decide +kernel
theorem dL_law_2264 : decode cL_law 2264 = .ok (.iconst 1, 1) := by decide +kernel
theorem dL_law_2265 : decode cL_law 2265 = .ok (.iadd, 1) := by decide +kernel
theorem dL_law_2266 : decode cL_law 2266 = .ok (.iaload, 1) := by decide +kernel
theorem dL_law_2267 : decode cL_law 2267 = .ok (.invokevirtual 280, 3) := by decide +kernel
theorem dL_law_2270 : decode cL_law 2270 = .ok (.istore 7, 2) := by decide +kernel
theorem dL_law_2272 : decode cL_law 2272 = .ok (.aload_n 2, 1) := by decide +kernel
theorem dL_law_2273 : decode cL_law 2273 = .ok (.invokevirtual 169, 3) := by decide +kernel
theorem dL_law_2276 : decode cL_law 2276 = .ok (.iload 6, 2) := by decide +kernel
theorem dL_law_2278 : decode cL_law 2278 = .ok (.if_icmp .eq 5, 3) := by decide +kernel
theorem dL_law_2281 : decode cL_law 2281 = .ok (.iconst 0, 1) := by decide +kernel
theorem dL_law_2282 : decode cL_law 2282 = .ok (.ireturn, 1) := by decide +kernel
theorem dL_law_2283 : decode cL_law 2283 = .ok (.iload 6, 2) := by decide +kernel
theorem dL_law_2285 : decode cL_law 2285 = .ok (.ifCond .ne 15, 3) := by decide +kernel
theorem dL_law_2288 : decode cL_law 2288 = .ok (.aload_n 3, 1) := by decide +kernel
theorem dL_law_2289 : decode cL_law 2289 = .ok (.iconst 0, 1) := by decide +kernel
theorem dL_law_2290 : decode cL_law 2290 = .ok (.laload, 1) := by decide +kernel
theorem dL_law_2291 : decode cL_law 2291 = .ok (.iload 7, 2) := by decide +kernel
theorem dL_law_2293 : decode cL_law 2293 = .ok (.i2l, 1) := by decide +kernel
theorem dL_law_2294 : decode cL_law 2294 = .ok (.lcmp, 1) := by decide +kernel
theorem dL_law_2295 : decode cL_law 2295 = .ok (.ifCond .eq 5, 3) := by decide +kernel
theorem dL_law_2298 : decode cL_law 2298 = .ok (.iconst 0, 1) := by decide +kernel
theorem dL_law_2299 : decode cL_law 2299 = .ok (.ireturn, 1) := by decide +kernel
theorem dL_law_2300 : decode cL_law 2300 = .ok (.goto 850, 3) := by decide +kernel
set_option maxHeartbeats 4000000 in
set_option maxRecDepth 100000 in
theorem w_law_cheapest {p : Program} {l : Launch} {e : Env} {s : State} {m : MethodId} {below : List Frame} {meth : Method} {c : Code} {G : Gx} {b L i n0 m0 aL aD : Nat} {xs : Nat → Int32} {iv : Int32} {cL cD : ClassId} {cells slots : Nat} {Rel : Nat → Sg → Sg → Prop} {nn : Nat} {Q : State → Prop} (hnn9 : nn < 600) (hst : l.stackTraces = false) (C : Cx p s m #[.ref b] meth c RL code 10 ret G) (F : Y_F G s n0 m0 aL aD cL cD) (hX : va_X b L xs s s.heap) (hbl : b < s.heap.size) (hi : Y_I iv i L) (hc : cells + 4 ≤ 601024) (hs : slots + 24 ≤ 7293034) (hE : E_cheapest Rel)
    (hk : ∀ (σ ρ : Sg) (v : Int64) (w : UInt64) (H : Heap) (locs : List Loc) (ls : Array Slot), Rel (nn + 1) σ ρ → Y_S G s n0 m0 aL aD cL cD σ ρ v w H locs → lv_has ls 10 [(0, .ref b), (1, .ref n0), (2, .ref m0), (3, .ref aL), (4, .ref aD), (5, .int iv)] → W p l e room_1 s m #[.ref b] below meth c H locs (cells + 4) (slots + 24) Q (F0 m 3150 ls [])) :
    ∀ (σ ρ : Sg) (v : Int64) (w : UInt64) (H : Heap) (locs : List Loc) (ls : Array Slot), Rel nn σ ρ → Y_S G s n0 m0 aL aD cL cD σ ρ v w H locs → lv_has ls 10 [(0, .ref b), (1, .ref n0), (2, .ref m0), (3, .ref aL), (4, .ref aD), (5, .int iv)] → W p l e room_1 s m #[.ref b] below meth c H locs cells slots Q (F0 m 2247 ls []) := by
  intro σ ρ v w H locs ls hR S hl
  obtain ⟨q, wq, ρ', e7, hq, e8, hR', hth, hval⟩ := hE nn σ ρ (xs (i + 1)) hnn9 hR 
  refine lv_aload_n C.1 C.2.1 dL_law_2247 rfl (lv_at hl 1 rfl) ?_
  refine lv_aload_n C.1 C.2.1 dL_law_2248 rfl (lv_at hl 0 rfl) ?_
  refine lv_iload C.1 C.2.1 dL_law_2249 (lv_at hl 5 rfl) ?_
  refine lv_iconst (v := 1) C.1 C.2.1 dL_law_2251 (by decide) ?_
  refine lv_iadd C.1 C.2.1 dL_law_2252 ?_
  refine Y_sld C S hX hbl hi.2.1.2.1 hi.2.1.1 hi.2.1.2.2 dL_law_2253 ?_
  refine lv_aload_n C.1 C.2.1 dL_law_2254 rfl (lv_at hl 3 rfl) ?_
  have hM := m_L_cheapest l hst G (Y_X n0) σ (xs (i + 1)) q e7 hq cL aL v H.size
  rw [show (if q.1 = 0 then (Sum.inl q.2.1.toInt64 : Int64 ⊕ UInt64) else Sum.inl v) = Sum.inl (if q.1 = 0 then q.2.1.toInt64 else v) by split <;> rfl] at hM
  refine Y_wL (n := 3) (As := [.ref n0, .int (xs (i + 1)), .ref aL]) C F S hM (tt_5 (List.mem_of_getElem? (i := 229) (by decide +kernel)) (by decide +kernel)) tw_5_228 tw_1_0 ⟨by decide, by decide, by decide +kernel⟩ tw_5_227 ⟨(Nat.le_of_ble_eq_true rfl), (Nat.le_of_ble_eq_true rfl)⟩ rfl rfl (Nat.le_of_ble_eq_true rfl) hl.1 ⟨by show cells + 1 ≤ 601024; omega, by show slots + 6 ≤ 7293034; omega⟩ dL_law_2255 (fun H locs S => ?_)
  refine lv_istore (lv' := [(6, .int (L_k [(2, 1)] q.1)), (0, .ref b), (1, .ref n0), (2, .ref m0), (3, .ref aL), (4, .ref aD), (5, .int iv)]) C.1 C.2.1 dL_law_2258 hl (by decide) rfl (fun ls hl => ?_)
  refine lv_aload_n C.1 C.2.1 dL_law_2260 rfl (lv_at hl 3 rfl) ?_
  refine lv_aload_n C.1 C.2.1 dL_law_2261 rfl (lv_at hl 1 rfl) ?_
  refine lv_iload C.1 C.2.1 dL_law_2262 (lv_at hl 6 rfl) ?_
  refine lv_iconst (v := 1) C.1 C.2.1 dL_law_2264 (by decide) ?_
  refine lv_iadd C.1 C.2.1 dL_law_2265 ?_
  refine Y_sld C S hX hbl hi.2.1.2.1 hi.2.1.1 hi.2.1.2.2 dL_law_2266 ?_
  refine Y_c1I (r := wq) (ρ' := ρ') (As := [.int (xs (i + 1))]) C F S rfl (m_X8_cheapest l G (Y_Mo m0) ρ (xs (i + 1)) wq ρ' e8 _) kv_X8_cheapest tw_8_125 ⟨(Nat.le_of_ble_eq_true rfl), (Nat.le_of_ble_eq_true rfl)⟩ rfl rfl (Nat.le_of_ble_eq_true rfl) hl.1 ⟨by show cells + 1 ≤ 601024; omega, by show slots + 6 ≤ 7293034; omega⟩ dL_law_2267 (fun H locs S => ?_)
  refine lv_istore (lv' := [(7, .int wq), (6, .int (L_k [(2, 1)] q.1)), (0, .ref b), (1, .ref n0), (2, .ref m0), (3, .ref aL), (4, .ref aD), (5, .int iv)]) C.1 C.2.1 dL_law_2270 hl (by decide) rfl (fun ls hl => ?_)
  refine lv_aload_n C.1 C.2.1 dL_law_2272 rfl (lv_at hl 4 rfl) ?_
  refine Y_c1I (r := ρ' 8 0 8) (ρ' := ρ') C F S rfl (As := []) (m_X8_thrown l G _ ρ' _ _ rfl _) kv_X8_thrown tw_6_188 ⟨(Nat.le_of_ble_eq_true rfl), (Nat.le_of_ble_eq_true rfl)⟩ rfl rfl (Nat.le_of_ble_eq_true rfl) hl.1 ⟨by show cells + 1 ≤ 601024; omega, by show slots + 6 ≤ 7293034; omega⟩ dL_law_2273 (fun H locs S => ?_)
  refine lv_iload C.1 C.2.1 dL_law_2276 (lv_at hl 1 rfl) ?_
  refine lv_icmp_eq (tgt := 2283) C.1 C.2.1 dL_law_2278 (by decide) (fun _ => ?_) (fun c9 => absurd hth c9)
  refine lv_iload C.1 C.2.1 dL_law_2283 (lv_at hl 1 rfl) ?_
  refine lv_if_ne (tgt := 2300) C.1 C.2.1 dL_law_2285 (by decide) (fun c9 => ?_) (fun c9 => ?_)
  · refine lv_goto (tgt := 3150) C.1 C.2.1 dL_law_2300 (by decide) ?_
    exact W.widen (k := cells + 4) (n := slots + 24) (by omega) (by omega) (hk _ _ _ _ _ _ _ hR' S (lv_sub hl [2, 3, 4, 5, 6, 7] rfl))
  have h0 : q.1 = 0 := by
    rcases hq with h | h
    · exact h
    · rw [h] at c9; exact absurd c9 (by decide)
  rw [if_pos h0, hval h0] at S
  refine lv_aload_n C.1 C.2.1 dL_law_2288 rfl (lv_at hl 5 rfl) ?_
  refine lv_iconst (v := 0) C.1 C.2.1 dL_law_2289 (by decide) ?_
  refine Y_lald C F S dL_law_2290 ?_
  refine lv_iload C.1 C.2.1 dL_law_2291 (lv_at hl 0 rfl) ?_
  refine lv_i2l C.1 C.2.1 dL_law_2293 rfl ?_
  refine W.lcmp C.1 C.2.1 dL_law_2294 ?_
  refine lv_if_eq (tgt := 2300) C.1 C.2.1 dL_law_2295 (by decide) (fun _ => ?_) (fun c9 => absurd (Y_cmp _) c9)
  refine lv_goto (tgt := 3150) C.1 C.2.1 dL_law_2300 (by decide) ?_
  exact W.widen (k := cells + 4) (n := slots + 24) (by omega) (by omega) (hk _ _ _ _ _ _ _ hR' S (lv_sub hl [2, 3, 4, 5, 6, 7] rfl))
theorem dL_law_2303 : decode cL_law 2303 = .ok (.aload_n 1, 1) := by decide +kernel
theorem dL_law_2304 : decode cL_law 2304 = .ok (.invokevirtual 281, 3) := by decide +kernel
theorem dL_law_2307 : decode cL_law 2307 = .ok (.aload_n 2, 1) := by decide +kernel
theorem dL_law_2308 : decode cL_law 2308 = .ok (.invokevirtual 284, 3) := by decide +kernel
theorem dL_law_2311 : decode cL_law 2311 = .ok (.if_icmp .eq 839, 3) := by decide +kernel
theorem dL_law_2314 : decode cL_law 2314 = .ok (.iconst 0, 1) := by decide +kernel
theorem dL_law_2315 : decode cL_law 2315 = .ok (.ireturn, 1) := by decide +kernel
set_option maxHeartbeats 4000000 in
set_option maxRecDepth 100000 in
theorem w_law_allRounds {p : Program} {l : Launch} {e : Env} {s : State} {m : MethodId} {below : List Frame} {meth : Method} {c : Code} {G : Gx} {b L i n0 m0 aL aD : Nat} {xs : Nat → Int32} {iv : Int32} {cL cD : ClassId} {cells slots : Nat} {Rel : Nat → Sg → Sg → Prop} {nn : Nat} {Q : State → Prop} (hnn9 : nn < 600) (hst : l.stackTraces = false) (C : Cx p s m #[.ref b] meth c RL code 10 ret G) (F : Y_F G s n0 m0 aL aD cL cD) (hX : va_X b L xs s s.heap) (hbl : b < s.heap.size) (hi : Y_I iv i L) (hc : cells + 4 ≤ 601024) (hs : slots + 24 ≤ 7293034) (hE : E_allRounds Rel)
    (hk : ∀ (σ ρ : Sg) (v : Int64) (w : UInt64) (H : Heap) (locs : List Loc) (ls : Array Slot), Rel (nn + 1) σ ρ → Y_S G s n0 m0 aL aD cL cD σ ρ v w H locs → lv_has ls 10 [(0, .ref b), (1, .ref n0), (2, .ref m0), (3, .ref aL), (4, .ref aD), (5, .int iv)] → W p l e room_1 s m #[.ref b] below meth c H locs (cells + 4) (slots + 24) Q (F0 m 3150 ls [])) :
    ∀ (σ ρ : Sg) (v : Int64) (w : UInt64) (H : Heap) (locs : List Loc) (ls : Array Slot), Rel nn σ ρ → Y_S G s n0 m0 aL aD cL cD σ ρ v w H locs → lv_has ls 10 [(0, .ref b), (1, .ref n0), (2, .ref m0), (3, .ref aL), (4, .ref aD), (5, .int iv)] → W p l e room_1 s m #[.ref b] below meth c H locs cells slots Q (F0 m 2303 ls []) := by
  intro σ ρ v w H locs ls hR S hl
  obtain ⟨r, σ', ρ', e7, e8, hR'⟩ := hE nn σ ρ  hnn9 hR 
  refine lv_aload_n C.1 C.2.1 dL_law_2303 rfl (lv_at hl 1 rfl) ?_
  refine Y_c0I (r := r) (σ' := σ') (As := []) C F S rfl (m_X7_allRounds l G (Y_X n0) σ  r σ' e7 _) kv_X7_allRounds tw_3_179 ⟨(Nat.le_of_ble_eq_true rfl), (Nat.le_of_ble_eq_true rfl)⟩ rfl rfl (Nat.le_of_ble_eq_true rfl) hl.1 ⟨by show cells + 0 ≤ 601024; omega, by show slots + 0 ≤ 7293034; omega⟩ dL_law_2304 (fun H locs S => ?_)
  refine lv_aload_n C.1 C.2.1 dL_law_2307 rfl (lv_at hl 2 rfl) ?_
  refine Y_c1I (r := r) (ρ' := ρ') (As := []) C F S rfl (m_X8_allRounds l G (Y_Mo m0) ρ  r ρ' e8 _) kv_X8_allRounds tw_8_129 ⟨(Nat.le_of_ble_eq_true rfl), (Nat.le_of_ble_eq_true rfl)⟩ rfl rfl (Nat.le_of_ble_eq_true rfl) hl.1 ⟨by show cells + 0 ≤ 601024; omega, by show slots + 0 ≤ 7293034; omega⟩ dL_law_2308 (fun H locs S => ?_)
  refine lv_icmp_eq (tgt := 3150) C.1 C.2.1 dL_law_2311 (by decide) (fun _ => ?_) (fun c9 => absurd rfl c9)
  exact W.widen (k := cells + 4) (n := slots + 24) (by omega) (by omega) (hk _ _ _ _ _ _ _ hR' S (lv_sub hl [0, 1, 2, 3, 4, 5] rfl))
theorem dL_law_2316 : decode cL_law 2316 = .ok (.aload_n 1, 1) := by decide +kernel
theorem dL_law_2317 : decode cL_law 2317 = .ok (.aload_n 0, 1) := by decide +kernel
theorem dL_law_2318 : decode cL_law 2318 = .ok (.iload 5, 2) := by decide +kernel
theorem dL_law_2320 : decode cL_law 2320 = .ok (.iconst 1, 1) := by decide +kernel
theorem dL_law_2321 : decode cL_law 2321 = .ok (.iadd, 1) := by decide +kernel
theorem dL_law_2322 : decode cL_law 2322 = .ok (.iaload, 1) := by decide +kernel
theorem dL_law_2323 : decode cL_law 2323 = .ok (.aload_n 3, 1) := by decide +kernel
theorem dL_law_2324 : decode cL_law 2324 = .ok (.invokestatic 285, 3) := by decide +kernel
theorem dL_law_2327 : decode cL_law 2327 = .ok (.istore 6, 2) := by decide +kernel
theorem dL_law_2329 : decode cL_law 2329 = .ok (.aload_n 2, 1) := by decide +kernel
theorem dL_law_2330 : decode cL_law 2330 = .ok (.aload_n 0, 1) := by decide +kernel
theorem dL_law_2331 : decode cL_law 2331 = .ok (.iload 5, 2) := by decide +kernel
theorem dL_law_2333 : decode cL_law 2333 = .ok (.iconst 1, 1) := by decide +kernel
theorem dL_law_2334 : decode cL_law 2334 = .ok (.iadd, 1) := by decide +kernel
theorem dL_law_2335 : decode cL_law 2335 = .ok (.iaload, 1) := by decide +kernel
theorem dL_law_2336 : decode cL_law 2336 = .ok (.invokevirtual 287, 3) := by decide +kernel
theorem dL_law_2339 : decode cL_law 2339 = .ok (.istore 7, 2) := by decide +kernel
theorem dL_law_2341 : decode cL_law 2341 = .ok (.aload_n 2, 1) := by decide +kernel
theorem dL_law_2342 : decode cL_law 2342 = .ok (.invokevirtual 169, 3) := by decide +kernel
theorem dL_law_2345 : decode cL_law 2345 = .ok (.iload 6, 2) := by decide +kernel
theorem dL_law_2347 : decode cL_law 2347 = .ok (.if_icmp .eq 5, 3) := by decide +kernel
theorem dL_law_2350 : decode cL_law 2350 = .ok (.iconst 0, 1) := by decide +kernel
theorem dL_law_2351 : decode cL_law 2351 = .ok (.ireturn, 1) := by decide +kernel
theorem dL_law_2352 : decode cL_law 2352 = .ok (.iload 6, 2) := by decide +kernel
theorem dL_law_2354 : decode cL_law 2354 = .ok (.ifCond .ne 15, 3) := by decide +kernel
theorem dL_law_2357 : decode cL_law 2357 = .ok (.aload_n 3, 1) := by decide +kernel
theorem dL_law_2358 : decode cL_law 2358 = .ok (.iconst 0, 1) := by decide +kernel
theorem dL_law_2359 : decode cL_law 2359 = .ok (.laload, 1) := by decide +kernel
theorem dL_law_2360 : decode cL_law 2360 = .ok (.iload 7, 2) := by decide +kernel
theorem dL_law_2362 : decode cL_law 2362 = .ok (.i2l, 1) := by decide +kernel
theorem dL_law_2363 : decode cL_law 2363 = .ok (.lcmp, 1) := by decide +kernel
theorem dL_law_2364 : decode cL_law 2364 = .ok (.ifCond .eq 5, 3) := by decide +kernel
theorem dL_law_2367 : decode cL_law 2367 = .ok (.iconst 0, 1) := by decide +kernel
theorem dL_law_2368 : decode cL_law 2368 = .ok (.ireturn, 1) := by decide +kernel
theorem dL_law_2369 : decode cL_law 2369 = .ok (.goto 781, 3) := by decide +kernel
set_option maxHeartbeats 4000000 in
set_option maxRecDepth 100000 in
theorem w_law_claimLeft {p : Program} {l : Launch} {e : Env} {s : State} {m : MethodId} {below : List Frame} {meth : Method} {c : Code} {G : Gx} {b L i n0 m0 aL aD : Nat} {xs : Nat → Int32} {iv : Int32} {cL cD : ClassId} {cells slots : Nat} {Rel : Nat → Sg → Sg → Prop} {nn : Nat} {Q : State → Prop} (hnn9 : nn < 600) (hst : l.stackTraces = false) (C : Cx p s m #[.ref b] meth c RL code 10 ret G) (F : Y_F G s n0 m0 aL aD cL cD) (hX : va_X b L xs s s.heap) (hbl : b < s.heap.size) (hi : Y_I iv i L) (hc : cells + 4 ≤ 601024) (hs : slots + 24 ≤ 7293034) (hE : E_claimLeft Rel)
    (hk : ∀ (σ ρ : Sg) (v : Int64) (w : UInt64) (H : Heap) (locs : List Loc) (ls : Array Slot), Rel (nn + 1) σ ρ → Y_S G s n0 m0 aL aD cL cD σ ρ v w H locs → lv_has ls 10 [(0, .ref b), (1, .ref n0), (2, .ref m0), (3, .ref aL), (4, .ref aD), (5, .int iv)] → W p l e room_1 s m #[.ref b] below meth c H locs (cells + 4) (slots + 24) Q (F0 m 3150 ls [])) :
    ∀ (σ ρ : Sg) (v : Int64) (w : UInt64) (H : Heap) (locs : List Loc) (ls : Array Slot), Rel nn σ ρ → Y_S G s n0 m0 aL aD cL cD σ ρ v w H locs → lv_has ls 10 [(0, .ref b), (1, .ref n0), (2, .ref m0), (3, .ref aL), (4, .ref aD), (5, .int iv)] → W p l e room_1 s m #[.ref b] below meth c H locs cells slots Q (F0 m 2316 ls []) := by
  intro σ ρ v w H locs ls hR S hl
  obtain ⟨q, wq, ρ', e7, hq, e8, hR', hth, hval⟩ := hE nn σ ρ (xs (i + 1)) hnn9 hR 
  refine lv_aload_n C.1 C.2.1 dL_law_2316 rfl (lv_at hl 1 rfl) ?_
  refine lv_aload_n C.1 C.2.1 dL_law_2317 rfl (lv_at hl 0 rfl) ?_
  refine lv_iload C.1 C.2.1 dL_law_2318 (lv_at hl 5 rfl) ?_
  refine lv_iconst (v := 1) C.1 C.2.1 dL_law_2320 (by decide) ?_
  refine lv_iadd C.1 C.2.1 dL_law_2321 ?_
  refine Y_sld C S hX hbl hi.2.1.2.1 hi.2.1.1 hi.2.1.2.2 dL_law_2322 ?_
  refine lv_aload_n C.1 C.2.1 dL_law_2323 rfl (lv_at hl 3 rfl) ?_
  have hM := m_L_claimLeft l hst G (Y_X n0) σ (xs (i + 1)) q e7 hq cL aL v H.size
  rw [show (if q.1 = 0 then (Sum.inl q.2.1.toInt64 : Int64 ⊕ UInt64) else Sum.inl v) = Sum.inl (if q.1 = 0 then q.2.1.toInt64 else v) by split <;> rfl] at hM
  refine Y_wL (n := 3) (As := [.ref n0, .int (xs (i + 1)), .ref aL]) C F S hM (tt_5 (List.mem_of_getElem? (i := 236) (by decide +kernel)) (by decide +kernel)) tw_5_235 tw_1_0 ⟨by decide, by decide, by decide +kernel⟩ tw_5_234 ⟨(Nat.le_of_ble_eq_true rfl), (Nat.le_of_ble_eq_true rfl)⟩ rfl rfl (Nat.le_of_ble_eq_true rfl) hl.1 ⟨by show cells + 1 ≤ 601024; omega, by show slots + 6 ≤ 7293034; omega⟩ dL_law_2324 (fun H locs S => ?_)
  refine lv_istore (lv' := [(6, .int (L_k [(1, 1)] q.1)), (0, .ref b), (1, .ref n0), (2, .ref m0), (3, .ref aL), (4, .ref aD), (5, .int iv)]) C.1 C.2.1 dL_law_2327 hl (by decide) rfl (fun ls hl => ?_)
  refine lv_aload_n C.1 C.2.1 dL_law_2329 rfl (lv_at hl 3 rfl) ?_
  refine lv_aload_n C.1 C.2.1 dL_law_2330 rfl (lv_at hl 1 rfl) ?_
  refine lv_iload C.1 C.2.1 dL_law_2331 (lv_at hl 6 rfl) ?_
  refine lv_iconst (v := 1) C.1 C.2.1 dL_law_2333 (by decide) ?_
  refine lv_iadd C.1 C.2.1 dL_law_2334 ?_
  refine Y_sld C S hX hbl hi.2.1.2.1 hi.2.1.1 hi.2.1.2.2 dL_law_2335 ?_
  refine Y_c1I (r := wq) (ρ' := ρ') (As := [.int (xs (i + 1))]) C F S rfl (m_X8_claimLeft l G (Y_Mo m0) ρ (xs (i + 1)) wq ρ' e8 _) kv_X8_claimLeft tw_8_133 ⟨(Nat.le_of_ble_eq_true rfl), (Nat.le_of_ble_eq_true rfl)⟩ rfl rfl (Nat.le_of_ble_eq_true rfl) hl.1 ⟨by show cells + 1 ≤ 601024; omega, by show slots + 6 ≤ 7293034; omega⟩ dL_law_2336 (fun H locs S => ?_)
  refine lv_istore (lv' := [(7, .int wq), (6, .int (L_k [(1, 1)] q.1)), (0, .ref b), (1, .ref n0), (2, .ref m0), (3, .ref aL), (4, .ref aD), (5, .int iv)]) C.1 C.2.1 dL_law_2339 hl (by decide) rfl (fun ls hl => ?_)
  refine lv_aload_n C.1 C.2.1 dL_law_2341 rfl (lv_at hl 4 rfl) ?_
  refine Y_c1I (r := ρ' 8 0 8) (ρ' := ρ') C F S rfl (As := []) (m_X8_thrown l G _ ρ' _ _ rfl _) kv_X8_thrown tw_6_188 ⟨(Nat.le_of_ble_eq_true rfl), (Nat.le_of_ble_eq_true rfl)⟩ rfl rfl (Nat.le_of_ble_eq_true rfl) hl.1 ⟨by show cells + 1 ≤ 601024; omega, by show slots + 6 ≤ 7293034; omega⟩ dL_law_2342 (fun H locs S => ?_)
  refine lv_iload C.1 C.2.1 dL_law_2345 (lv_at hl 1 rfl) ?_
  refine lv_icmp_eq (tgt := 2352) C.1 C.2.1 dL_law_2347 (by decide) (fun _ => ?_) (fun c9 => absurd hth c9)
  refine lv_iload C.1 C.2.1 dL_law_2352 (lv_at hl 1 rfl) ?_
  refine lv_if_ne (tgt := 2369) C.1 C.2.1 dL_law_2354 (by decide) (fun c9 => ?_) (fun c9 => ?_)
  · refine lv_goto (tgt := 3150) C.1 C.2.1 dL_law_2369 (by decide) ?_
    exact W.widen (k := cells + 4) (n := slots + 24) (by omega) (by omega) (hk _ _ _ _ _ _ _ hR' S (lv_sub hl [2, 3, 4, 5, 6, 7] rfl))
  have h0 : q.1 = 0 := by
    rcases hq with h | h
    · exact h
    · rw [h] at c9; exact absurd c9 (by decide)
  rw [if_pos h0, hval h0] at S
  refine lv_aload_n C.1 C.2.1 dL_law_2357 rfl (lv_at hl 5 rfl) ?_
  refine lv_iconst (v := 0) C.1 C.2.1 dL_law_2358 (by decide) ?_
  refine Y_lald C F S dL_law_2359 ?_
  refine lv_iload C.1 C.2.1 dL_law_2360 (lv_at hl 0 rfl) ?_
  refine lv_i2l C.1 C.2.1 dL_law_2362 rfl ?_
  refine W.lcmp C.1 C.2.1 dL_law_2363 ?_
  refine lv_if_eq (tgt := 2369) C.1 C.2.1 dL_law_2364 (by decide) (fun _ => ?_) (fun c9 => absurd (Y_cmp _) c9)
  refine lv_goto (tgt := 3150) C.1 C.2.1 dL_law_2369 (by decide) ?_
  exact W.widen (k := cells + 4) (n := slots + 24) (by omega) (by omega) (hk _ _ _ _ _ _ _ hR' S (lv_sub hl [2, 3, 4, 5, 6, 7] rfl))
