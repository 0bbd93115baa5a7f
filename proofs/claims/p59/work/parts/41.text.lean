/-! the law's text, whole -/
def y_b0 (G : Gx) (b : Nat) : Ex := (fun q => q = b, fun H => va_at G.1 z_cl (b, .inr (14, [.null, .int 0, .int 0, .int 0])) H)
theorem y_b0.clo {G : Gx} {b : Nat} : x_clo (y_b0 G b) := fun H1 H2 h1 h2 => va_at.kept (show va_at G.1 z_cl (b, .inr (14, [.null, .int 0, .int 0, .int 0])) H1 from h2) (h1 b rfl)
def g_txt (τ : Sg) : Tx := g_calsT τ (q_nn τ 1) 0 (g_carsT τ (q_nn τ 0) 0 (g_hdr τ))
set_option maxHeartbeats 4000000 in
set_option maxRecDepth 100000 in
theorem m_L_text (l : Launch) (G : Gx) (ad : Ad) (N : Nn) (τ : Sg) (hlen : (g_txt τ).1 ≤ 240) (hn3 : q_num τ 40 0 3) (hn8 : q_num τ 40 0 8) (hn9 : q_num τ 40 0 9) (hn10 : q_num τ 40 0 10) (hn11 : q_num τ 40 0 11) (hn13 : q_num τ 40 0 13) (hl0 : ∀ i, i < q_nn τ 0 → lp N τ 41 i) (hc0 : ∀ i, i < q_nn τ 0 → q_num τ 41 i 0 ∧ q_num τ 41 i 1) (hl1 : ∀ i, i < q_nn τ 1 → lp N τ 42 i) (hc1 : ∀ i, i < q_nn τ 1 → q_num τ 42 i 2 ∧ q_num τ 42 i 0 ∧ q_num τ 42 i 1) (hm0 : q_nn τ 0 ≤ 3) (hm1 : q_nn τ 1 ≤ 4) (sz : Nat) : k_ME l yL_text cL_text 4 (some (.object "java/lang/String")) 9 200 80 64000 G (q_W G ad N τ) sz [.ref (ad 40 0)] (fun r H => q_V G ad N τ (q_A ad N τ sz) H ∧ ∃ (w : Nat) (t2 : Nat → Int32), k_str G r w (g_txt τ).1 t2 H ∧ (∀ j, j < (g_txt τ).1 → t2 j = (g_txt τ).2 j) ∧ sz ≤ r ∧ sz ≤ w) (q_A ad N τ sz) := by
  have hlen2 : (g_calsT τ (q_nn τ 1) 0 (g_carsT τ (q_nn τ 0) 0 (g_hdr τ))).1 ≤ 240 := hlen
  have hlen1 : (g_carsT τ (q_nn τ 0) 0 (g_hdr τ)).1 ≤ 240 := Nat.le_trans (g_calsT_le τ _ _ _) hlen2
  have hlenh : (g_hdr τ).1 ≤ 240 := Nat.le_trans (g_carsT_le τ _ _ _) hlen1
  refine k_beginE (by decide +kernel) (Nat.le_of_ble_eq_true rfl) [(0, .ref (ad 40 0))] rfl (fun p e s m args below meth c ls C hnm hsz hP hO hl => ?_)
  subst hsz
  have V := hP
  clear hP
  have S : va_S (q_A ad N τ s.heap.size) s.heap s.heap [] := va_S.rf
  have hA : ∀ q, s.heap.size ≤ q → q_A ad N τ s.heap.size q := fun q h => Or.inr h
  have hG0 := hO.1
  refine u_newO C S cf_14 tw_4_143 tw_4_144 tw_1_20 (fs := [.null, .int 0, .int 0, .int 0]) (fun j hj => by rcases (show j = 0 ∨ j = 1 ∨ j = 2 ∨ j = 3 by omega) with rfl | rfl | rfl | rfl <;> rfl) (Nat.le_of_ble_eq_true rfl) (Nat.le_of_ble_eq_true rfl) dL_text_0 (fun H z9 o9 g1 S => ?_)
  have hk1 := o9
  have hz1 := z9
  replace hO := hO.grow z9 o9
  clear o9 z9
  refine lv_dup C.1 C.2.1 dL_text_3 rfl ?_
  refine u_newO C S cf_14 tw_4_143 tw_4_144 tw_1_20 (fs := [.null, .int 0, .int 0, .int 0]) (fun j hj => by rcases (show j = 0 ∨ j = 1 ∨ j = 2 ∨ j = 3 by omega) with rfl | rfl | rfl | rfl <;> rfl) (Nat.le_of_ble_eq_true rfl) (Nat.le_of_ble_eq_true rfl) dL_text_4 (fun H z9 o9 g2 S => ?_)
  have hk2 : ∀ q : Nat, q < s.heap.size → H[q]? = s.heap[q]? := fun q hq => (o9 q (by omega)).trans (hk1 q hq)
  replace g1 := va_at.kept g1 (o9 _ (by omega))
  replace hO := hO.grow z9 o9
  rw [hz1] at g2 z9
  rw [hz1]
  clear o9 hk1
  refine lv_dup C.1 C.2.1 dL_text_7 rfl ?_
  refine k_callI C S hO [] (k_sbinit l G (s.heap.size + 1) (by omega) (s.heap.size + 1 + 1)) z9 g2 kv_J4_init_da8c8 tw_4_145 ⟨(Nat.le_of_ble_eq_true rfl), (Nat.le_of_ble_eq_true rfl)⟩ rfl rfl (Nat.le_of_ble_eq_true rfl) hl.1 ⟨(Nat.le_of_ble_eq_true rfl), (Nat.le_of_ble_eq_true rfl)⟩ dL_text_8 (fun q h => hA q (by rcases h with h | h <;> omega)) (fun H locs hp hle ok S => ?_)
  obtain ⟨hz3, ksb⟩ := hp
  have hk3 : ∀ q : Nat, q < s.heap.size → H[q]? = s.heap[q]? := fun q hq => (ok q (by omega) (by rintro (h | h) <;> omega)).trans (hk2 q hq)
  replace g1 := va_at.kept g1 (ok _ (by omega) (by rintro (h | h) <;> omega))
  replace hO := hO.call hle ok (fun q hq h => by rcases h with h | h <;> omega)
  clear hk2 ok hle z9 g2 hz1
  have hY : x_clo (y_b0 G s.heap.size) := y_b0.clo
  have hlt : ∀ k o, lp N τ k o → ad k o < s.heap.size := fun k o h => (V.1 k o h).lt
  have B : q_B G ad N (y_b0 G s.heap.size) τ [] (q_A ad N τ s.heap.size) s.heap H locs (s.heap.size + 1) (0, fun _ => 0) := by
    refine ⟨s.heap.size + 1 + 1, ⟨⟨ad, fun _ _ _ => rfl, ⟨fun k o h => (V.1 k o h).kept (hk3 _ (hlt k o h)), V.2.1, V.2.2.1, hO, V.2.2.2.2⟩, fun k o h => Or.inl ⟨k, o, h, rfl⟩, fun y hy => absurd hy List.not_mem_nil, ⟨⟨ksb, by omega, by omega, by omega, fun q hq => ?_⟩, g1⟩, fun q hq => ?_, x_sb.clo hY⟩, S, hA⟩, by omega, by omega⟩
    · have hq : q = s.heap.size := hq
      exact ⟨by omega, by omega⟩
    · rcases hq with h | h | h
      · refine ⟨by omega, fun k o h2 h3 => ?_⟩
        have := hlt k o h2
        omega
      · refine ⟨by omega, fun k o h2 h3 => ?_⟩
        have := hlt k o h2
        omega
      · have h : q = s.heap.size := h
        refine ⟨by omega, fun k o h2 h3 => ?_⟩
        have := hlt k o h2
        omega
  clear V ksb g1 hk3 hO S hz3 hlt
  refine W.widen (k := 3) (n := 24) (Nat.le_of_ble_eq_true rfl) (Nat.le_of_ble_eq_true rfl) ?_
  refine q_appSr C hY B (tx := "floors ") 9 (by decide) (List.mem_of_getElem? (i := 9) rfl) tw_4_174 (by show (_ : Nat) ≤ 240; simp only [g_hdr, tx_ap] at hlenh; simp only [tx_ap]; omega) ⟨(Nat.le_of_ble_eq_true rfl), (Nat.le_of_ble_eq_true rfl)⟩ (Nat.le_of_ble_eq_true rfl) hl.1 ⟨(Nat.le_of_ble_eq_true rfl), (Nat.le_of_ble_eq_true rfl)⟩ dL_text_11 dL_text_13 (fun H locs B => ?_)
  refine lv_aload_n C.1 C.2.1 dL_text_16 rfl (lv_at hl 0 rfl) ?_
  refine q_getI C B.choose_spec.1 40 0 rfl rfl cf_11 3 (by decide) (qi_40_3 G τ 0) tw_4_99 dL_text_17 ?_
  rw [hn3.1]
  refine q_appNr C hY B _ hn3.2 tw_5_20 (by show (_ : Nat) ≤ 240; simp only [g_hdr, tx_ap] at hlenh; simp only [tx_ap]; omega) ⟨(Nat.le_of_ble_eq_true rfl), (Nat.le_of_ble_eq_true rfl)⟩ (Nat.le_of_ble_eq_true rfl) hl.1 ⟨(Nat.le_of_ble_eq_true rfl), (Nat.le_of_ble_eq_true rfl)⟩ dL_text_20 (fun H locs B => ?_)
  refine q_appSr C hY B (tx := ";noise ") 10 (by decide) (List.mem_of_getElem? (i := 10) rfl) tw_4_174 (by show (_ : Nat) ≤ 240; simp only [g_hdr, tx_ap] at hlenh; simp only [tx_ap]; omega) ⟨(Nat.le_of_ble_eq_true rfl), (Nat.le_of_ble_eq_true rfl)⟩ (Nat.le_of_ble_eq_true rfl) hl.1 ⟨(Nat.le_of_ble_eq_true rfl), (Nat.le_of_ble_eq_true rfl)⟩ dL_text_23 dL_text_25 (fun H locs B => ?_)
  refine lv_aload_n C.1 C.2.1 dL_text_28 rfl (lv_at hl 0 rfl) ?_
  refine q_getI C B.choose_spec.1 40 0 rfl rfl cf_11 8 (by decide) (qi_40_8 G τ 0) tw_4_104 dL_text_29 ?_
  rw [hn8.1]
  refine q_appNr C hY B _ hn8.2 tw_5_20 (by show (_ : Nat) ≤ 240; simp only [g_hdr, tx_ap] at hlenh; simp only [tx_ap]; omega) ⟨(Nat.le_of_ble_eq_true rfl), (Nat.le_of_ble_eq_true rfl)⟩ (Nat.le_of_ble_eq_true rfl) hl.1 ⟨(Nat.le_of_ble_eq_true rfl), (Nat.le_of_ble_eq_true rfl)⟩ dL_text_32 (fun H locs B => ?_)
  refine q_appSr C hY B (tx := ";patience ") 11 (by decide) (List.mem_of_getElem? (i := 11) rfl) tw_4_174 (by show (_ : Nat) ≤ 240; simp only [g_hdr, tx_ap] at hlenh; simp only [tx_ap]; omega) ⟨(Nat.le_of_ble_eq_true rfl), (Nat.le_of_ble_eq_true rfl)⟩ (Nat.le_of_ble_eq_true rfl) hl.1 ⟨(Nat.le_of_ble_eq_true rfl), (Nat.le_of_ble_eq_true rfl)⟩ dL_text_35 dL_text_37 (fun H locs B => ?_)
  refine lv_aload_n C.1 C.2.1 dL_text_40 rfl (lv_at hl 0 rfl) ?_
  refine q_getI C B.choose_spec.1 40 0 rfl rfl cf_11 9 (by decide) (qi_40_9 G τ 0) tw_4_105 dL_text_41 ?_
  rw [hn9.1]
  refine q_appNr C hY B _ hn9.2 tw_5_20 (by show (_ : Nat) ≤ 240; simp only [g_hdr, tx_ap] at hlenh; simp only [tx_ap]; omega) ⟨(Nat.le_of_ble_eq_true rfl), (Nat.le_of_ble_eq_true rfl)⟩ (Nat.le_of_ble_eq_true rfl) hl.1 ⟨(Nat.le_of_ble_eq_true rfl), (Nat.le_of_ble_eq_true rfl)⟩ dL_text_44 (fun H locs B => ?_)
  refine q_appSr C hY B (tx := ";weight ") 12 (by decide) (List.mem_of_getElem? (i := 12) rfl) tw_4_174 (by show (_ : Nat) ≤ 240; simp only [g_hdr, tx_ap] at hlenh; simp only [tx_ap]; omega) ⟨(Nat.le_of_ble_eq_true rfl), (Nat.le_of_ble_eq_true rfl)⟩ (Nat.le_of_ble_eq_true rfl) hl.1 ⟨(Nat.le_of_ble_eq_true rfl), (Nat.le_of_ble_eq_true rfl)⟩ dL_text_47 dL_text_49 (fun H locs B => ?_)
  refine lv_aload_n C.1 C.2.1 dL_text_52 rfl (lv_at hl 0 rfl) ?_
  refine q_getI C B.choose_spec.1 40 0 rfl rfl cf_11 10 (by decide) (qi_40_10 G τ 0) tw_4_106 dL_text_53 ?_
  rw [hn10.1]
  refine q_appNr C hY B _ hn10.2 tw_5_20 (by show (_ : Nat) ≤ 240; simp only [g_hdr, tx_ap] at hlenh; simp only [tx_ap]; omega) ⟨(Nat.le_of_ble_eq_true rfl), (Nat.le_of_ble_eq_true rfl)⟩ (Nat.le_of_ble_eq_true rfl) hl.1 ⟨(Nat.le_of_ble_eq_true rfl), (Nat.le_of_ble_eq_true rfl)⟩ dL_text_56 (fun H locs B => ?_)
  refine q_appSr C hY B (tx := ";door ") 13 (by decide) (List.mem_of_getElem? (i := 13) rfl) tw_4_174 (by show (_ : Nat) ≤ 240; simp only [g_hdr, tx_ap] at hlenh; simp only [tx_ap]; omega) ⟨(Nat.le_of_ble_eq_true rfl), (Nat.le_of_ble_eq_true rfl)⟩ (Nat.le_of_ble_eq_true rfl) hl.1 ⟨(Nat.le_of_ble_eq_true rfl), (Nat.le_of_ble_eq_true rfl)⟩ dL_text_59 dL_text_61 (fun H locs B => ?_)
  refine lv_aload_n C.1 C.2.1 dL_text_64 rfl (lv_at hl 0 rfl) ?_
  refine q_getI C B.choose_spec.1 40 0 rfl rfl cf_11 11 (by decide) (qi_40_11 G τ 0) tw_4_107 dL_text_65 ?_
  rw [hn11.1]
  refine q_appNr C hY B _ hn11.2 tw_5_20 (by show (_ : Nat) ≤ 240; simp only [g_hdr, tx_ap] at hlenh; simp only [tx_ap]; omega) ⟨(Nat.le_of_ble_eq_true rfl), (Nat.le_of_ble_eq_true rfl)⟩ (Nat.le_of_ble_eq_true rfl) hl.1 ⟨(Nat.le_of_ble_eq_true rfl), (Nat.le_of_ble_eq_true rfl)⟩ dL_text_68 (fun H locs B => ?_)
  refine q_appSr C hY B (tx := ";seed ") 14 (by decide) (List.mem_of_getElem? (i := 14) rfl) tw_4_174 (by show (_ : Nat) ≤ 240; simp only [g_hdr, tx_ap] at hlenh; simp only [tx_ap]; omega) ⟨(Nat.le_of_ble_eq_true rfl), (Nat.le_of_ble_eq_true rfl)⟩ (Nat.le_of_ble_eq_true rfl) hl.1 ⟨(Nat.le_of_ble_eq_true rfl), (Nat.le_of_ble_eq_true rfl)⟩ dL_text_71 dL_text_73 (fun H locs B => ?_)
  refine lv_aload_n C.1 C.2.1 dL_text_76 rfl (lv_at hl 0 rfl) ?_
  refine q_getI C B.choose_spec.1 40 0 rfl rfl cf_11 13 (by decide) (qi_40_13 G τ 0) tw_4_109 dL_text_77 ?_
  rw [hn13.1]
  refine q_appNr C hY B _ hn13.2 tw_5_20 (by show (_ : Nat) ≤ 240; simp only [g_hdr, tx_ap] at hlenh; simp only [tx_ap]; omega) ⟨(Nat.le_of_ble_eq_true rfl), (Nat.le_of_ble_eq_true rfl)⟩ (Nat.le_of_ble_eq_true rfl) hl.1 ⟨(Nat.le_of_ble_eq_true rfl), (Nat.le_of_ble_eq_true rfl)⟩ dL_text_80 (fun H locs B => ?_)
  refine q_appSr C hY B (tx := ";") 15 (by decide) (List.mem_of_getElem? (i := 15) rfl) tw_4_174 (by show (_ : Nat) ≤ 240; simp only [g_hdr, tx_ap] at hlenh; simp only [tx_ap]; omega) ⟨(Nat.le_of_ble_eq_true rfl), (Nat.le_of_ble_eq_true rfl)⟩ (Nat.le_of_ble_eq_true rfl) hl.1 ⟨(Nat.le_of_ble_eq_true rfl), (Nat.le_of_ble_eq_true rfl)⟩ dL_text_83 dL_text_85 (fun H locs B => ?_)
  have B : q_B G ad N (y_b0 G s.heap.size) τ [] (q_A ad N τ s.heap.size) s.heap H locs (s.heap.size + 1) (g_hdr τ) := B
  have hHa0 := (B.choose_spec.1.1.choose_spec.2.2.2.2.2.1 (s.heap.size + 1) (Or.inl rfl)).1
  refine q_toStr C B tw_5_51 ⟨(Nat.le_of_ble_eq_true rfl), (Nat.le_of_ble_eq_true rfl)⟩ (Nat.le_of_ble_eq_true rfl) hl.1 ⟨(Nat.le_of_ble_eq_true rfl), (Nat.le_of_ble_eq_true rfl)⟩ dL_text_88 (fun H1 locs t2 B hz hs ht => ?_)
  obtain ⟨v, ⟨⟨ad', he, V, aa, -, E⟩, S, -⟩, hva, hvv⟩ := B
  obtain ⟨⟨⟨k1, -, -, -, -⟩, g1⟩, hX, -⟩ := E
  obtain ⟨mm, b, e1, e2, e3, e4, e5⟩ := k1.2
  have g1 : va_at G.1 z_cl (s.heap.size, .inr (14, [.null, .int 0, .int 0, .int 0])) H1 := g1
  have hb0 := hX s.heap.size (Or.inr (Or.inr rfl))
  have hO := V.2.2.2.1
  have hHs : s.heap.size + 1 < H1.size := by have := (hX (s.heap.size + 1) (Or.inl rfl)).1; exact this
  have hHa : s.heap.size + 1 < H.size := hHa0
  refine k_callI C S hO [.ref H.size] (k_sbinitS l G s.heap.size H.size (H.size + 1) (g_hdr τ).1 t2 (by omega) hG0 ⟨by omega, by omega⟩ (fun j hj => by rw [ht j hj, ← e4 j hj]; exact e5 j (by omega)) H1.size) rfl ⟨g1, hs⟩ kv_J4_init_a7421 tw_5_108 ⟨(Nat.le_of_ble_eq_true rfl), (Nat.le_of_ble_eq_true rfl)⟩ rfl rfl (Nat.le_of_ble_eq_true rfl) hl.1 ⟨(Nat.le_of_ble_eq_true rfl), (Nat.le_of_ble_eq_true rfl)⟩ dL_text_91 (fun q h => hA q (by rcases h with h | h <;> omega)) (fun H2 locs hp hle ok S => ?_)
  obtain ⟨v2, ksb, hv2, hv3⟩ := hp
  have hY : x_clo x_0 := fun _ _ _ _ => trivial
  have hkp : ∀ q : Nat, q < H1.size → q ≠ s.heap.size → H2[q]? = H1[q]? := fun q h1 h2 => ok q h1 (by rintro (h | h) <;> omega)
  have hlt : ∀ k o, lp N τ k o → ad' k o < H1.size := fun k o h => (V.1 k o h).lt
  have hO2 := hO.call hle ok (fun q hq h => by rcases h with h | h <;> omega)
  have B : q_B G ad N x_0 τ [] (q_A ad N τ s.heap.size) s.heap H2 locs s.heap.size (g_hdr τ) := by
    refine ⟨v2, ⟨⟨ad', he, ⟨fun k o h => (V.1 k o h).kept (hkp _ (hlt k o h) (hb0.2 k o h)), V.2.1, V.2.2.1, hO2, V.2.2.2.2⟩, aa, fun y hy => absurd hy List.not_mem_nil, ⟨⟨⟨ksb.1, ?_⟩, hG0, by omega, by omega, fun q hq => hq.elim⟩, trivial⟩, fun q hq => ?_, x_sb.clo hY⟩, S, hA⟩, Nat.le_refl _, by omega⟩
    · obtain ⟨m3, b3, f1, f2, f3, f4, f5⟩ := ksb.2
      exact ⟨m3, b3, f1, f2, f3, fun j hj => (f4 j hj).trans (ht j hj), f5⟩
    · rcases hq with h | h | h
      · rw [h]; exact ⟨by omega, hb0.2⟩
      · rw [h]
        refine ⟨by omega, fun k o h2 h3 => ?_⟩
        have := hlt k o h2
        omega
      · exact h.elim
  clear V hX g1 hb0 hO hkp hlt hO2 ksb S hs ht hv2 hv3 ok hle e3 e4 e5
  refine W.widen (k := 20) (n := 20000) (Nat.le_of_ble_eq_true rfl) (Nat.le_of_ble_eq_true rfl) ?_
  refine lv_astore_n (lv' := [(1, .ref s.heap.size), (0, .ref (ad 40 0))]) C.1 C.2.1 dL_text_94 rfl hl (by decide) rfl (fun ls hl => ?_)
  refine lv_aload_n C.1 C.2.1 dL_text_95 rfl (lv_at hl 1 rfl) ?_
  obtain ⟨v, S, hva, hvv⟩ := B
  refine q_getR C S 40 0 50 0 rfl rfl rfl cf_11 0 (by decide) (qr_40_0 G _ 0) tw_4_96 dL_text_96 ?_
  refine q_iter C S 0 (Or.inl (by decide)) (by decide) tw_5_120 ⟨(Nat.le_of_ble_eq_true rfl), (Nat.le_of_ble_eq_true rfl)⟩ (Nat.le_of_ble_eq_true rfl) hl.1 ⟨(Nat.le_of_ble_eq_true rfl), (Nat.le_of_ble_eq_true rfl)⟩ dL_text_99 (fun it H locs S => ?_)
  refine lv_astore_n (lv' := [(2, .ref it), (1, .ref s.heap.size), (0, .ref (ad 40 0))]) C.1 C.2.1 dL_text_104 rfl hl (by decide) rfl (fun ls hl => ?_)
  refine w_L_text_105 C ⟨(Nat.le_of_ble_eq_true rfl), (Nat.le_of_ble_eq_true rfl)⟩ hl0 hc0 (q_nn τ 0) 0 (Nat.zero_add _) it _ H locs ls _ _ ⟨v, S, hva, hvv⟩ (lv_sub hl [1, 0, 2] rfl) hlen1 (by show 20 + 1 + 5 * q_nn τ 0 ≤ 80; omega) (by show 20000 + 4 + 2500 * q_nn τ 0 ≤ 64000; omega) (fun H locs ls B hl => ?_)
  refine W.widen (k := 40) (n := 30000) (by show 20 + 1 + 5 * q_nn τ 0 ≤ 40; omega) (by show 20000 + 4 + 2500 * q_nn τ 0 ≤ 30000; omega) ?_
  refine lv_aload_n C.1 C.2.1 dL_text_158 rfl (lv_at hl 1 rfl) ?_
  obtain ⟨v, S, hva, hvv⟩ := B
  refine q_getR C S 40 0 50 1 rfl rfl rfl cf_11 1 (by decide) (qr_40_1 G _ 0) tw_4_97 dL_text_159 ?_
  refine q_iter C S 1 (Or.inl (by decide)) (by decide) tw_5_120 ⟨(Nat.le_of_ble_eq_true rfl), (Nat.le_of_ble_eq_true rfl)⟩ (Nat.le_of_ble_eq_true rfl) hl.1 ⟨(Nat.le_of_ble_eq_true rfl), (Nat.le_of_ble_eq_true rfl)⟩ dL_text_162 (fun it H locs S => ?_)
  refine lv_astore_n (lv' := [(2, .ref it), (1, .ref s.heap.size), (0, .ref (ad 40 0))]) C.1 C.2.1 dL_text_167 rfl hl (by decide) rfl (fun ls hl => ?_)
  refine w_L_text_168 C ⟨(Nat.le_of_ble_eq_true rfl), (Nat.le_of_ble_eq_true rfl)⟩ hl1 hc1 (q_nn τ 1) 0 (Nat.zero_add _) it _ H locs ls _ _ ⟨v, S, hva, hvv⟩ (lv_sub hl [1, 0, 2] rfl) hlen2 (by show 40 + 1 + 7 * q_nn τ 1 ≤ 80; omega) (by show 30000 + 4 + 3500 * q_nn τ 1 ≤ 64000; omega) (fun H locs ls B hl => ?_)
  refine W.widen (k := 75) (n := 50000) (by show 40 + 1 + 7 * q_nn τ 1 ≤ 75; omega) (by show 30000 + 4 + 3500 * q_nn τ 1 ≤ 50000; omega) ?_
  refine lv_aload_n C.1 C.2.1 dL_text_233 rfl (lv_at hl 0 rfl) ?_
  have hHb : s.heap.size ≤ H.size := B.choose_spec.1.2.1.1
  refine q_toStr C B tw_5_51 ⟨(Nat.le_of_ble_eq_true rfl), (Nat.le_of_ble_eq_true rfl)⟩ (Nat.le_of_ble_eq_true rfl) hl.1 ⟨(Nat.le_of_ble_eq_true rfl), (Nat.le_of_ble_eq_true rfl)⟩ dL_text_234 (fun H1 locs t2 B hz hs ht => ?_)
  obtain ⟨v, S, hva, hvv⟩ := B
  refine k_aretE C S.2.1 (Or.inl ⟨_, rfl⟩) ⟨S.V, H.size + 1, t2, hs, ht, ?_, ?_⟩ (Nat.le_of_ble_eq_true rfl) (Nat.le_of_ble_eq_true rfl) dL_text_237
  · exact hHb
  · exact Nat.le_succ_of_le hHb
