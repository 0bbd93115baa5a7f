/-! the new objects: where each lies, what each holds -/
def z_lo (j : Nat) : Nat := if j < 3 then 3 + 56 * j else 5 + 56 * j
def z_mo (n0 j : Nat) : Nat := if j < 13 then n0 + z_lo j + 4 else n0 + 734
def z_ca (n0 o : Nat) : Nat := n0 + z_lo (o / 4) + 12 + 5 * (o % 4)
def z_ad (n0 m0 : Nat) : Ad := fun k o => match k with
  | 0 => n0 + 733
  | 1 => n0 + z_lo (o / 24) + 32 + o % 24
  | 2 => z_ca n0 o
  | 3 => n0 + 171
  | 4 => n0 + z_lo o
  | 5 => z_mo n0 o
  | 6 => n0 + 739
  | 7 => n0
  | 8 => m0
  | 10 => n0 + 1
  | 11 => n0 + 2
  | 12 => n0 + z_lo o + 1
  | 13 => n0 + z_lo o + 9
  | 14 => n0 + z_lo o + 10
  | 15 => n0 + z_lo o + 11
  | 16 => z_ca n0 o + 1
  | 17 => z_ca n0 o + 2
  | 18 => z_ca n0 o + 3
  | 19 => z_ca n0 o + 4
  | 20 => z_mo n0 o + 1
  | 21 => z_mo n0 o + 2
  | 22 => z_mo n0 o + 3
  | 23 => z_mo n0 o + 4
  | 24 => n0 + 740
  | 25 => n0 + z_lo o + 2
  | 26 => n0 + z_lo o + 3
  | 27 => n0 + 172
  | 30 => m0 + 1
  | 31 => m0 + 2
  | 32 => m0 + 3
  | 33 => m0 + 4
  | 34 => m0 + 5
  | 35 => m0 + 6
  | 36 => m0 + 7
  | 37 => m0 + 8
  | 38 => m0 + 9
  | _ => 0
def z_0 : Nat → Int32 := fun _ => 0
def y_e (G : Gx) (ad : Ad) (q : Nat × Nat) : va_E := z_cel G ad q.1 q.2 z_0
def z_ivC (o i : Nat) : Nat × Nat := match i with
  | 0 => (2, o)
  | 1 => (16, o)
  | 2 => (17, o)
  | 3 => (18, o)
  | _ => (19, o)
def z_ivM (o i : Nat) : Nat × Nat := match i with
  | 0 => (5, o)
  | 1 => (20, o)
  | 2 => (21, o)
  | 3 => (22, o)
  | _ => (23, o)
def z_ivR (i : Nat) : Nat × Nat := match i with
  | 0 => (6, 0)
  | _ => (24, 0)
def z_ivB (i : Nat) : Nat × Nat := match i with
  | 0 => (0, 0)
  | i + 1 => z_ivM 13 i
def z_ivL (j i : Nat) : Nat × Nat := if i = 0 then (4, j) else if i = 1 then (12, j) else if i = 2 then (25, j) else if i = 3 then (26, j) else if i < 9 then z_ivM j (i - 4) else if i = 9 then (13, j) else if i = 10 then (14, j) else if i = 11 then (15, j)
  else if i < 32 then z_ivC (4 * j + (i - 12) / 5) ((i - 12) % 5) else (1, 24 * j + (i - 32))
def z_ivH (i : Nat) : Nat × Nat := if i = 0 then (3, 0) else if i = 1 then (27, 0) else z_ivL (3 + (i - 2) / 56) ((i - 2) % 56)
def z_iv (i : Nat) : Nat × Nat := if i = 0 then (7, 0) else if i = 1 then (10, 0) else if i = 2 then (11, 0) else if i < 171 then z_ivL ((i - 3) / 56) ((i - 3) % 56) else if i < 733 then z_ivH (i - 171) else if i < 739 then z_ivB (i - 733) else z_ivR (i - 739)
def z_ivX (i : Nat) : Nat × Nat := if i = 0 then (8, 0) else (29 + i, 0)
def y_eC (G : Gx) (ad : Ad) (o i : Nat) : va_E := y_e G ad (z_ivC o i)
def y_eM (G : Gx) (ad : Ad) (o i : Nat) : va_E := y_e G ad (z_ivM o i)
def y_eR (G : Gx) (ad : Ad) (i : Nat) : va_E := y_e G ad (z_ivR i)
def y_eB (G : Gx) (ad : Ad) (i : Nat) : va_E := y_e G ad (z_ivB i)
def y_eL (G : Gx) (ad : Ad) (j i : Nat) : va_E := y_e G ad (z_ivL j i)
def y_eH (G : Gx) (ad : Ad) (i : Nat) : va_E := y_e G ad (z_ivH i)
theorem y_qeq {q : Nat × va_E} {e : va_E} {D : va_G} {cl : List vw_C} {H : Heap} {a b : Nat} {x : va_E} (h : va_at D cl (a, x) H) (h1 : a = b) (h2 : x = e) : va_at D cl (b, e) H := by
  subst h1; subst h2; exact h
theorem y_df0 : ∀ j, j < 1 → defaultValue (tyX0 j) = vp_V [.null] j := by
  intro j hj
  match j, hj with
  | 0, _ => rfl
theorem y_df1 : ∀ j, j < 11 → defaultValue (tyX1 j) = vp_V [.int 0, .int 0, .int 0, .int 0, .int 0, .int 0, .int 0, .int 0, .int 0, .int 0, .int 0] j := by
  intro j hj
  match j, hj with
  | 0, _ => rfl
  | 1, _ => rfl
  | 2, _ => rfl
  | 3, _ => rfl
  | 4, _ => rfl
  | 5, _ => rfl
  | 6, _ => rfl
  | 7, _ => rfl
  | 8, _ => rfl
  | 9, _ => rfl
  | 10, _ => rfl
theorem y_df2 : ∀ j, j < 14 → defaultValue (tyX2 j) = vp_V [.int 0, .int 0, .int 0, .int 0, .int 0, .int 0, .int 0, .int 0, .int 0, .int 0, .null, .null, .null, .null] j := by
  intro j hj
  match j, hj with
  | 0, _ => rfl
  | 1, _ => rfl
  | 2, _ => rfl
  | 3, _ => rfl
  | 4, _ => rfl
  | 5, _ => rfl
  | 6, _ => rfl
  | 7, _ => rfl
  | 8, _ => rfl
  | 9, _ => rfl
  | 10, _ => rfl
  | 11, _ => rfl
  | 12, _ => rfl
  | 13, _ => rfl
theorem y_df3 : ∀ j, j < 3 → defaultValue (tyX3 j) = vp_V [.int 0, .int 0, .null] j := by
  intro j hj
  match j, hj with
  | 0, _ => rfl
  | 1, _ => rfl
  | 2, _ => rfl
theorem y_df4 : ∀ j, j < 12 → defaultValue (tyX4 j) = vp_V [.int 0, .int 0, .int 0, .int 0, .int 0, .null, .null, .null, .null, .null, .null, .null] j := by
  intro j hj
  match j, hj with
  | 0, _ => rfl
  | 1, _ => rfl
  | 2, _ => rfl
  | 3, _ => rfl
  | 4, _ => rfl
  | 5, _ => rfl
  | 6, _ => rfl
  | 7, _ => rfl
  | 8, _ => rfl
  | 9, _ => rfl
  | 10, _ => rfl
  | 11, _ => rfl
theorem y_df5 : ∀ j, j < 5 → defaultValue (tyX5 j) = vp_V [.int 0, .null, .null, .null, .null] j := by
  intro j hj
  match j, hj with
  | 0, _ => rfl
  | 1, _ => rfl
  | 2, _ => rfl
  | 3, _ => rfl
  | 4, _ => rfl
theorem y_df6 : ∀ j, j < 9 → defaultValue (tyX6 j) = vp_V [.int 0, .int 0, .null, .int 0, .int 0, .int 0, .int 0, .int 0, .int 0] j := by
  intro j hj
  match j, hj with
  | 0, _ => rfl
  | 1, _ => rfl
  | 2, _ => rfl
  | 3, _ => rfl
  | 4, _ => rfl
  | 5, _ => rfl
  | 6, _ => rfl
  | 7, _ => rfl
  | 8, _ => rfl
theorem y_df7 : ∀ j, j < 13 → defaultValue (tyX7 j) = vp_V [.null, .int 0, .int 0, .int 0, .null, .int 0, .null, .null, .null, .int 0, .null, .null, .null] j := by
  intro j hj
  match j, hj with
  | 0, _ => rfl
  | 1, _ => rfl
  | 2, _ => rfl
  | 3, _ => rfl
  | 4, _ => rfl
  | 5, _ => rfl
  | 6, _ => rfl
  | 7, _ => rfl
  | 8, _ => rfl
  | 9, _ => rfl
  | 10, _ => rfl
  | 11, _ => rfl
  | 12, _ => rfl
theorem y_df8 : ∀ j, j < 23 → defaultValue (tyX8 j) = vp_V [.null, .null, .null, .null, .null, .null, .int 0, .int 0, .int 0, .null, .int 0, .int 0, .int 0, .int 0, .int 0, .int 0, .int 0, .int 0, .int 0, .int 0, .null, .null, .int 0] j := by
  intro j hj
  match j, hj with
  | 0, _ => rfl
  | 1, _ => rfl
  | 2, _ => rfl
  | 3, _ => rfl
  | 4, _ => rfl
  | 5, _ => rfl
  | 6, _ => rfl
  | 7, _ => rfl
  | 8, _ => rfl
  | 9, _ => rfl
  | 10, _ => rfl
  | 11, _ => rfl
  | 12, _ => rfl
  | 13, _ => rfl
  | 14, _ => rfl
  | 15, _ => rfl
  | 16, _ => rfl
  | 17, _ => rfl
  | 18, _ => rfl
  | 19, _ => rfl
  | 20, _ => rfl
  | 21, _ => rfl
  | 22, _ => rfl
  | n + 23, h => exact absurd h (by omega)
theorem dX1_init_0 : decode cX1_init 0 = .ok (.aload_n 0, 1) := by decide +kernel
theorem dX1_init_1 : decode cX1_init 1 = .ok (.invokespecial 3, 3) := by decide +kernel
theorem dX1_init_4 : decode cX1_init 4 = .ok (.return_, 1) := by decide +kernel
theorem kv_X1_init : y_KI yX1_init cX1_init 1 := ⟨tw_1_149, tw_1_148, tw_1_5, rfl, by decide, by decide, by decide +kernel⟩
set_option maxHeartbeats 4000000 in
set_option maxRecDepth 100000 in
theorem m_X1_init (l : Launch) (G : Gx) (ad : Ad) (o : Nat) (a : Nat)  : y_M l yX1_init cX1_init 1 1 12 0 0 G a 1 [.int 0, .int 0, .int 0, .int 0, .int 0, .int 0, .int 0, .int 0, .int 0, .int 0, .int 0] 1 (fun H => ∀ i, i < 1 → va_at G.1 z_cl (a + i, z_cel G ad 1 o z_0) H) := by
  refine y_begin (by decide +kernel) rfl (Nat.le_of_ble_eq_true rfl) (fun p e s m args below meth c ls C hz h0 S hl => ?_)
  refine lv_aload_n C.1.1 C.1.2.1 dX1_init_0 rfl (lv_at hl 0 rfl) ?_
  refine y_obj C tw_1_150 hl.1 (Nat.le_of_ble_eq_true rfl) (Nat.le_of_ble_eq_true rfl) dX1_init_1 ?_
  refine y_ret (n := 1) (D := fun H => ∀ i, i < 1 → va_at G.1 z_cl (a + i, z_cel G ad 1 o z_0) H) C S hz (fun i hi => ?_) (Nat.le_of_ble_eq_true rfl) (Nat.le_of_ble_eq_true rfl) dX1_init_4
  match i, hi with
  | 0, _ => exact h0
theorem dX5_init_0 : decode cX5_init 0 = .ok (.aload_n 0, 1) := by decide +kernel
theorem dX5_init_1 : decode cX5_init 1 = .ok (.invokespecial 3, 3) := by decide +kernel
theorem dX5_init_4 : decode cX5_init 4 = .ok (.aload_n 0, 1) := by decide +kernel
theorem dX5_init_5 : decode cX5_init 5 = .ok (.sipush 240, 3) := by decide +kernel
theorem dX5_init_8 : decode cX5_init 8 = .ok (.newarray .int, 2) := by decide +kernel
theorem dX5_init_10 : decode cX5_init 10 = .ok (.putfield 9, 3) := by decide +kernel
theorem dX5_init_13 : decode cX5_init 13 = .ok (.aload_n 0, 1) := by decide +kernel
theorem dX5_init_14 : decode cX5_init 14 = .ok (.sipush 240, 3) := by decide +kernel
theorem dX5_init_17 : decode cX5_init 17 = .ok (.newarray .int, 2) := by decide +kernel
theorem dX5_init_19 : decode cX5_init 19 = .ok (.putfield 15, 3) := by decide +kernel
theorem dX5_init_22 : decode cX5_init 22 = .ok (.aload_n 0, 1) := by decide +kernel
theorem dX5_init_23 : decode cX5_init 23 = .ok (.sipush 240, 3) := by decide +kernel
theorem dX5_init_26 : decode cX5_init 26 = .ok (.newarray .int, 2) := by decide +kernel
theorem dX5_init_28 : decode cX5_init 28 = .ok (.putfield 18, 3) := by decide +kernel
theorem dX5_init_31 : decode cX5_init 31 = .ok (.aload_n 0, 1) := by decide +kernel
theorem dX5_init_32 : decode cX5_init 32 = .ok (.sipush 240, 3) := by decide +kernel
theorem dX5_init_35 : decode cX5_init 35 = .ok (.newarray .int, 2) := by decide +kernel
theorem dX5_init_37 : decode cX5_init 37 = .ok (.putfield 21, 3) := by decide +kernel
theorem dX5_init_40 : decode cX5_init 40 = .ok (.return_, 1) := by decide +kernel
theorem kv_X5_init : y_KI yX5_init cX5_init 1 := ⟨tw_1_46, tw_1_45, tw_1_3, rfl, by decide, by decide, by decide +kernel⟩
set_option maxHeartbeats 4000000 in
set_option maxRecDepth 100000 in
theorem m_X5_init (l : Launch) (G : Gx) (ad : Ad) (o : Nat) (a : Nat) (e1 : ad 20 o = a + 1) (e2 : ad 21 o = a + 2) (e3 : ad 22 o = a + 3) (e4 : ad 23 o = a + 4) : y_M l yX5_init cX5_init 1 1 12 4 960 G a 5 [.int 0, .null, .null, .null, .null] 5 (fun H => ∀ i, i < 5 → va_at G.1 z_cl (a + i, y_eM G ad o i) H) := by
  refine y_begin (by decide +kernel) rfl (Nat.le_of_ble_eq_true rfl) (fun p e s m args below meth c ls C hz h0 S hl => ?_)
  refine lv_aload_n C.1.1 C.1.2.1 dX5_init_0 rfl (lv_at hl 0 rfl) ?_
  refine y_obj C tw_1_47 hl.1 (Nat.le_of_ble_eq_true rfl) (Nat.le_of_ble_eq_true rfl) dX5_init_1 ?_
  refine lv_aload_n C.1.1 C.1.2.1 dX5_init_4 rfl (lv_at hl 0 rfl) ?_
  refine lv_sipush (v := 240) C.1.1 C.1.2.1 dX5_init_5 (by decide) ?_
  refine y_newI C S hz 240 (by decide) (by decide) (Nat.le_of_ble_eq_true rfl) (Nat.le_of_ble_eq_true rfl) (Nat.le_of_ble_eq_true rfl) dX5_init_8 (fun H z9 o9 h1 S => ?_)
  have h0 := va_at.kept h0 (o9 _ (show a < a + 1 by omega))
  have hz : H.size = a + 2 := z9
  clear o9 z9
  refine y_putF C S h0 (Nat.le_refl _) cf_5 1 (by decide) (Nat.le_of_ble_eq_true rfl) rfl rfl rfl rfl tw_1_52 dX5_init_10 (fun H locs z9 o9 h0 S => ?_)
  have h0 : va_at G.1 z_cl (a, .inr (5, [.int 0, .ref (a + 1), .null, .null, .null])) H := h0
  have h1 := va_at.kept h1 (o9 _ (show a + 1 ≠ a by omega))
  have hz : H.size = a + 2 := z9.trans hz
  clear o9 z9
  refine lv_aload_n C.1.1 C.1.2.1 dX5_init_13 rfl (lv_at hl 0 rfl) ?_
  refine lv_sipush (v := 240) C.1.1 C.1.2.1 dX5_init_14 (by decide) ?_
  refine y_newI C S hz 240 (by decide) (by decide) (Nat.le_of_ble_eq_true rfl) (Nat.le_of_ble_eq_true rfl) (Nat.le_of_ble_eq_true rfl) dX5_init_17 (fun H z9 o9 h2 S => ?_)
  have h0 := va_at.kept h0 (o9 _ (show a < a + 2 by omega))
  have h1 := va_at.kept h1 (o9 _ (show a + 1 < a + 2 by omega))
  have hz : H.size = a + 3 := z9
  clear o9 z9
  refine y_putF C S h0 (Nat.le_refl _) cf_5 2 (by decide) (Nat.le_of_ble_eq_true rfl) rfl rfl rfl rfl tw_1_54 dX5_init_19 (fun H locs z9 o9 h0 S => ?_)
  have h0 : va_at G.1 z_cl (a, .inr (5, [.int 0, .ref (a + 1), .ref (a + 2), .null, .null])) H := h0
  have h1 := va_at.kept h1 (o9 _ (show a + 1 ≠ a by omega))
  have h2 := va_at.kept h2 (o9 _ (show a + 2 ≠ a by omega))
  have hz : H.size = a + 3 := z9.trans hz
  clear o9 z9
  refine lv_aload_n C.1.1 C.1.2.1 dX5_init_22 rfl (lv_at hl 0 rfl) ?_
  refine lv_sipush (v := 240) C.1.1 C.1.2.1 dX5_init_23 (by decide) ?_
  refine y_newI C S hz 240 (by decide) (by decide) (Nat.le_of_ble_eq_true rfl) (Nat.le_of_ble_eq_true rfl) (Nat.le_of_ble_eq_true rfl) dX5_init_26 (fun H z9 o9 h3 S => ?_)
  have h0 := va_at.kept h0 (o9 _ (show a < a + 3 by omega))
  have h1 := va_at.kept h1 (o9 _ (show a + 1 < a + 3 by omega))
  have h2 := va_at.kept h2 (o9 _ (show a + 2 < a + 3 by omega))
  have hz : H.size = a + 4 := z9
  clear o9 z9
  refine y_putF C S h0 (Nat.le_refl _) cf_5 3 (by decide) (Nat.le_of_ble_eq_true rfl) rfl rfl rfl rfl tw_1_56 dX5_init_28 (fun H locs z9 o9 h0 S => ?_)
  have h0 : va_at G.1 z_cl (a, .inr (5, [.int 0, .ref (a + 1), .ref (a + 2), .ref (a + 3), .null])) H := h0
  have h1 := va_at.kept h1 (o9 _ (show a + 1 ≠ a by omega))
  have h2 := va_at.kept h2 (o9 _ (show a + 2 ≠ a by omega))
  have h3 := va_at.kept h3 (o9 _ (show a + 3 ≠ a by omega))
  have hz : H.size = a + 4 := z9.trans hz
  clear o9 z9
  refine lv_aload_n C.1.1 C.1.2.1 dX5_init_31 rfl (lv_at hl 0 rfl) ?_
  refine lv_sipush (v := 240) C.1.1 C.1.2.1 dX5_init_32 (by decide) ?_
  refine y_newI C S hz 240 (by decide) (by decide) (Nat.le_of_ble_eq_true rfl) (Nat.le_of_ble_eq_true rfl) (Nat.le_of_ble_eq_true rfl) dX5_init_35 (fun H z9 o9 h4 S => ?_)
  have h0 := va_at.kept h0 (o9 _ (show a < a + 4 by omega))
  have h1 := va_at.kept h1 (o9 _ (show a + 1 < a + 4 by omega))
  have h2 := va_at.kept h2 (o9 _ (show a + 2 < a + 4 by omega))
  have h3 := va_at.kept h3 (o9 _ (show a + 3 < a + 4 by omega))
  have hz : H.size = a + 5 := z9
  clear o9 z9
  refine y_putF C S h0 (Nat.le_refl _) cf_5 4 (by decide) (Nat.le_of_ble_eq_true rfl) rfl rfl rfl rfl tw_1_58 dX5_init_37 (fun H locs z9 o9 h0 S => ?_)
  have h0 : va_at G.1 z_cl (a, .inr (5, [.int 0, .ref (a + 1), .ref (a + 2), .ref (a + 3), .ref (a + 4)])) H := h0
  have h1 := va_at.kept h1 (o9 _ (show a + 1 ≠ a by omega))
  have h2 := va_at.kept h2 (o9 _ (show a + 2 ≠ a by omega))
  have h3 := va_at.kept h3 (o9 _ (show a + 3 ≠ a by omega))
  have h4 := va_at.kept h4 (o9 _ (show a + 4 ≠ a by omega))
  have hz : H.size = a + 5 := z9.trans hz
  clear o9 z9
  refine y_ret (n := 5) (D := fun H => ∀ i, i < 5 → va_at G.1 z_cl (a + i, y_eM G ad o i) H) C S hz (fun i hi => ?_) (Nat.le_of_ble_eq_true rfl) (Nat.le_of_ble_eq_true rfl) dX5_init_40
  match i, hi with
  | 0, _ => exact y_qeq (q := (0, .inr (0, []))) h0 rfl (by simp only [y_eM, y_e, z_ivM, z_cel, z_0, e1, e2, e3, e4])
  | 1, _ => exact h1
  | 2, _ => exact h2
  | 3, _ => exact h3
  | 4, _ => exact h4
theorem dX2_init_0 : decode cX2_init 0 = .ok (.aload_n 0, 1) := by decide +kernel
theorem dX2_init_1 : decode cX2_init 1 = .ok (.invokespecial 3, 3) := by decide +kernel
theorem dX2_init_4 : decode cX2_init 4 = .ok (.aload_n 0, 1) := by decide +kernel
theorem dX2_init_5 : decode cX2_init 5 = .ok (.bipush 24, 2) := by decide +kernel
theorem dX2_init_7 : decode cX2_init 7 = .ok (.newarray .int, 2) := by decide +kernel
theorem dX2_init_9 : decode cX2_init 9 = .ok (.putfield 9, 3) := by decide +kernel
theorem dX2_init_12 : decode cX2_init 12 = .ok (.aload_n 0, 1) := by decide +kernel
theorem dX2_init_13 : decode cX2_init 13 = .ok (.bipush 24, 2) := by decide +kernel
theorem dX2_init_15 : decode cX2_init 15 = .ok (.newarray .int, 2) := by decide +kernel
theorem dX2_init_17 : decode cX2_init 17 = .ok (.putfield 15, 3) := by decide +kernel
theorem dX2_init_20 : decode cX2_init 20 = .ok (.aload_n 0, 1) := by decide +kernel
theorem dX2_init_21 : decode cX2_init 21 = .ok (.bipush 96, 2) := by decide +kernel
theorem dX2_init_23 : decode cX2_init 23 = .ok (.newarray .int, 2) := by decide +kernel
theorem dX2_init_25 : decode cX2_init 25 = .ok (.putfield 18, 3) := by decide +kernel
theorem dX2_init_28 : decode cX2_init 28 = .ok (.aload_n 0, 1) := by decide +kernel
theorem dX2_init_29 : decode cX2_init 29 = .ok (.iconst 4, 1) := by decide +kernel
theorem dX2_init_30 : decode cX2_init 30 = .ok (.newarray .int, 2) := by decide +kernel
theorem dX2_init_32 : decode cX2_init 32 = .ok (.putfield 21, 3) := by decide +kernel
theorem dX2_init_35 : decode cX2_init 35 = .ok (.return_, 1) := by decide +kernel
theorem kv_X2_init : y_KI yX2_init cX2_init 1 := ⟨tw_1_75, tw_1_74, tw_1_4, rfl, by decide, by decide, by decide +kernel⟩
set_option maxHeartbeats 4000000 in
set_option maxRecDepth 100000 in
theorem m_X2_init (l : Launch) (G : Gx) (ad : Ad) (o : Nat) (a : Nat) (e1 : ad 16 o = a + 1) (e2 : ad 17 o = a + 2) (e3 : ad 18 o = a + 3) (e4 : ad 19 o = a + 4) : y_M l yX2_init cX2_init 1 1 12 4 148 G a 2 [.int 0, .int 0, .int 0, .int 0, .int 0, .int 0, .int 0, .int 0, .int 0, .int 0, .null, .null, .null, .null] 5 (fun H => ∀ i, i < 5 → va_at G.1 z_cl (a + i, y_eC G ad o i) H) := by
  refine y_begin (by decide +kernel) rfl (Nat.le_of_ble_eq_true rfl) (fun p e s m args below meth c ls C hz h0 S hl => ?_)
  refine lv_aload_n C.1.1 C.1.2.1 dX2_init_0 rfl (lv_at hl 0 rfl) ?_
  refine y_obj C tw_1_76 hl.1 (Nat.le_of_ble_eq_true rfl) (Nat.le_of_ble_eq_true rfl) dX2_init_1 ?_
  refine lv_aload_n C.1.1 C.1.2.1 dX2_init_4 rfl (lv_at hl 0 rfl) ?_
  refine lv_bipush (v := 24) C.1.1 C.1.2.1 dX2_init_5 (by decide) ?_
  refine y_newI C S hz 24 (by decide) (by decide) (Nat.le_of_ble_eq_true rfl) (Nat.le_of_ble_eq_true rfl) (Nat.le_of_ble_eq_true rfl) dX2_init_7 (fun H z9 o9 h1 S => ?_)
  have h0 := va_at.kept h0 (o9 _ (show a < a + 1 by omega))
  have hz : H.size = a + 2 := z9
  clear o9 z9
  refine y_putF C S h0 (Nat.le_refl _) cf_2 10 (by decide) (Nat.le_of_ble_eq_true rfl) rfl rfl rfl rfl tw_1_109 dX2_init_9 (fun H locs z9 o9 h0 S => ?_)
  have h0 : va_at G.1 z_cl (a, .inr (2, [.int 0, .int 0, .int 0, .int 0, .int 0, .int 0, .int 0, .int 0, .int 0, .int 0, .ref (a + 1), .null, .null, .null])) H := h0
  have h1 := va_at.kept h1 (o9 _ (show a + 1 ≠ a by omega))
  have hz : H.size = a + 2 := z9.trans hz
  clear o9 z9
  refine lv_aload_n C.1.1 C.1.2.1 dX2_init_12 rfl (lv_at hl 0 rfl) ?_
  refine lv_bipush (v := 24) C.1.1 C.1.2.1 dX2_init_13 (by decide) ?_
  refine y_newI C S hz 24 (by decide) (by decide) (Nat.le_of_ble_eq_true rfl) (Nat.le_of_ble_eq_true rfl) (Nat.le_of_ble_eq_true rfl) dX2_init_15 (fun H z9 o9 h2 S => ?_)
  have h0 := va_at.kept h0 (o9 _ (show a < a + 2 by omega))
  have h1 := va_at.kept h1 (o9 _ (show a + 1 < a + 2 by omega))
  have hz : H.size = a + 3 := z9
  clear o9 z9
  refine y_putF C S h0 (Nat.le_refl _) cf_2 11 (by decide) (Nat.le_of_ble_eq_true rfl) rfl rfl rfl rfl tw_1_111 dX2_init_17 (fun H locs z9 o9 h0 S => ?_)
  have h0 : va_at G.1 z_cl (a, .inr (2, [.int 0, .int 0, .int 0, .int 0, .int 0, .int 0, .int 0, .int 0, .int 0, .int 0, .ref (a + 1), .ref (a + 2), .null, .null])) H := h0
  have h1 := va_at.kept h1 (o9 _ (show a + 1 ≠ a by omega))
  have h2 := va_at.kept h2 (o9 _ (show a + 2 ≠ a by omega))
  have hz : H.size = a + 3 := z9.trans hz
  clear o9 z9
  refine lv_aload_n C.1.1 C.1.2.1 dX2_init_20 rfl (lv_at hl 0 rfl) ?_
  refine lv_bipush (v := 96) C.1.1 C.1.2.1 dX2_init_21 (by decide) ?_
  refine y_newI C S hz 96 (by decide) (by decide) (Nat.le_of_ble_eq_true rfl) (Nat.le_of_ble_eq_true rfl) (Nat.le_of_ble_eq_true rfl) dX2_init_23 (fun H z9 o9 h3 S => ?_)
  have h0 := va_at.kept h0 (o9 _ (show a < a + 3 by omega))
  have h1 := va_at.kept h1 (o9 _ (show a + 1 < a + 3 by omega))
  have h2 := va_at.kept h2 (o9 _ (show a + 2 < a + 3 by omega))
  have hz : H.size = a + 4 := z9
  clear o9 z9
  refine y_putF C S h0 (Nat.le_refl _) cf_2 12 (by decide) (Nat.le_of_ble_eq_true rfl) rfl rfl rfl rfl tw_1_114 dX2_init_25 (fun H locs z9 o9 h0 S => ?_)
  have h0 : va_at G.1 z_cl (a, .inr (2, [.int 0, .int 0, .int 0, .int 0, .int 0, .int 0, .int 0, .int 0, .int 0, .int 0, .ref (a + 1), .ref (a + 2), .ref (a + 3), .null])) H := h0
  have h1 := va_at.kept h1 (o9 _ (show a + 1 ≠ a by omega))
  have h2 := va_at.kept h2 (o9 _ (show a + 2 ≠ a by omega))
  have h3 := va_at.kept h3 (o9 _ (show a + 3 ≠ a by omega))
  have hz : H.size = a + 4 := z9.trans hz
  clear o9 z9
  refine lv_aload_n C.1.1 C.1.2.1 dX2_init_28 rfl (lv_at hl 0 rfl) ?_
  refine lv_iconst (v := 4) C.1.1 C.1.2.1 dX2_init_29 (by decide) ?_
  refine y_newI C S hz 4 (by decide) (by decide) (Nat.le_of_ble_eq_true rfl) (Nat.le_of_ble_eq_true rfl) (Nat.le_of_ble_eq_true rfl) dX2_init_30 (fun H z9 o9 h4 S => ?_)
  have h0 := va_at.kept h0 (o9 _ (show a < a + 4 by omega))
  have h1 := va_at.kept h1 (o9 _ (show a + 1 < a + 4 by omega))
  have h2 := va_at.kept h2 (o9 _ (show a + 2 < a + 4 by omega))
  have h3 := va_at.kept h3 (o9 _ (show a + 3 < a + 4 by omega))
  have hz : H.size = a + 5 := z9
  clear o9 z9
  refine y_putF C S h0 (Nat.le_refl _) cf_2 13 (by decide) (Nat.le_of_ble_eq_true rfl) rfl rfl rfl rfl tw_1_115 dX2_init_32 (fun H locs z9 o9 h0 S => ?_)
  have h0 : va_at G.1 z_cl (a, .inr (2, [.int 0, .int 0, .int 0, .int 0, .int 0, .int 0, .int 0, .int 0, .int 0, .int 0, .ref (a + 1), .ref (a + 2), .ref (a + 3), .ref (a + 4)])) H := h0
  have h1 := va_at.kept h1 (o9 _ (show a + 1 ≠ a by omega))
  have h2 := va_at.kept h2 (o9 _ (show a + 2 ≠ a by omega))
  have h3 := va_at.kept h3 (o9 _ (show a + 3 ≠ a by omega))
  have h4 := va_at.kept h4 (o9 _ (show a + 4 ≠ a by omega))
  have hz : H.size = a + 5 := z9.trans hz
  clear o9 z9
  refine y_ret (n := 5) (D := fun H => ∀ i, i < 5 → va_at G.1 z_cl (a + i, y_eC G ad o i) H) C S hz (fun i hi => ?_) (Nat.le_of_ble_eq_true rfl) (Nat.le_of_ble_eq_true rfl) dX2_init_35
  match i, hi with
  | 0, _ => exact y_qeq (q := (0, .inr (0, []))) h0 rfl (by simp only [y_eC, y_e, z_ivC, z_cel, z_0, e1, e2, e3, e4])
  | 1, _ => exact h1
  | 2, _ => exact h2
  | 3, _ => exact h3
  | 4, _ => exact h4
theorem dX6_init_0 : decode cX6_init 0 = .ok (.aload_n 0, 1) := by decide +kernel
theorem dX6_init_1 : decode cX6_init 1 = .ok (.invokespecial 3, 3) := by decide +kernel
theorem dX6_init_4 : decode cX6_init 4 = .ok (.aload_n 0, 1) := by decide +kernel
theorem dX6_init_5 : decode cX6_init 5 = .ok (.iconst 0, 1) := by decide +kernel
theorem dX6_init_6 : decode cX6_init 6 = .ok (.newarray .int, 2) := by decide +kernel
theorem dX6_init_8 : decode cX6_init 8 = .ok (.putfield 9, 3) := by decide +kernel
theorem dX6_init_11 : decode cX6_init 11 = .ok (.return_, 1) := by decide +kernel
theorem kv_X6_init : y_KI yX6_init cX6_init 1 := ⟨tw_2_71, tw_2_70, tw_1_8, rfl, by decide, by decide, by decide +kernel⟩
set_option maxHeartbeats 4000000 in
set_option maxRecDepth 100000 in
theorem m_X6_init (l : Launch) (G : Gx) (ad : Ad)  (a : Nat) (e1 : ad 24 0 = a + 1) : y_M l yX6_init cX6_init 1 1 12 1 0 G a 6 [.int 0, .int 0, .null, .int 0, .int 0, .int 0, .int 0, .int 0, .int 0] 2 (fun H => ∀ i, i < 2 → va_at G.1 z_cl (a + i, y_eR G ad i) H) := by
  refine y_begin (by decide +kernel) rfl (Nat.le_of_ble_eq_true rfl) (fun p e s m args below meth c ls C hz h0 S hl => ?_)
  refine lv_aload_n C.1.1 C.1.2.1 dX6_init_0 rfl (lv_at hl 0 rfl) ?_
  refine y_obj C tw_2_72 hl.1 (Nat.le_of_ble_eq_true rfl) (Nat.le_of_ble_eq_true rfl) dX6_init_1 ?_
  refine lv_aload_n C.1.1 C.1.2.1 dX6_init_4 rfl (lv_at hl 0 rfl) ?_
  refine lv_iconst (v := 0) C.1.1 C.1.2.1 dX6_init_5 (by decide) ?_
  refine y_newI C S hz 0 (by decide) (by decide) (Nat.le_of_ble_eq_true rfl) (Nat.le_of_ble_eq_true rfl) (Nat.le_of_ble_eq_true rfl) dX6_init_6 (fun H z9 o9 h1 S => ?_)
  have h0 := va_at.kept h0 (o9 _ (show a < a + 1 by omega))
  have hz : H.size = a + 2 := z9
  clear o9 z9
  refine y_putV C S h0 (Nat.le_refl _) cf_6 2 (by decide) (Nat.le_of_ble_eq_true rfl) rfl rfl rfl tw_2_77 dX6_init_8 (fun H locs z9 o9 h0 S => ?_)
  have h0 : va_at G.1 z_cl (a, .inr (6, [.int 0, .int 0, .ref (a + 1), .int 0, .int 0, .int 0, .int 0, .int 0, .int 0])) H := h0
  have h1 := va_at.kept h1 (o9 _ (show a + 1 ≠ a by omega))
  have hz : H.size = a + 2 := z9.trans hz
  clear o9 z9
  refine y_ret (n := 2) (D := fun H => ∀ i, i < 2 → va_at G.1 z_cl (a + i, y_eR G ad i) H) C S hz (fun i hi => ?_) (Nat.le_of_ble_eq_true rfl) (Nat.le_of_ble_eq_true rfl) dX6_init_11
  match i, hi with
  | 0, _ => exact y_qeq (q := (0, .inr (0, []))) h0 rfl (by simp only [y_eR, y_e, z_ivR, z_cel, z_0, e1, if_pos])
  | 1, _ => exact h1
theorem dX0_init_0 : decode cX0_init 0 = .ok (.aload_n 0, 1) := by decide +kernel
theorem dX0_init_1 : decode cX0_init 1 = .ok (.invokespecial 3, 3) := by decide +kernel
theorem dX0_init_4 : decode cX0_init 4 = .ok (.aload_n 0, 1) := by decide +kernel
theorem dX0_init_5 : decode cX0_init 5 = .ok (.new 9, 3) := by decide +kernel
theorem dX0_init_8 : decode cX0_init 8 = .ok (.dup, 1) := by decide +kernel
theorem dX0_init_9 : decode cX0_init 9 = .ok (.invokespecial 11, 3) := by decide +kernel
theorem dX0_init_12 : decode cX0_init 12 = .ok (.putfield 12, 3) := by decide +kernel
theorem dX0_init_15 : decode cX0_init 15 = .ok (.return_, 1) := by decide +kernel
theorem kv_X0_init : y_KI yX0_init cX0_init 1 := ⟨tw_2_59, tw_2_58, tw_1_7, rfl, by decide, by decide, by decide +kernel⟩
set_option maxHeartbeats 4000000 in
set_option maxRecDepth 100000 in
theorem m_X0_init (l : Launch) (G : Gx) (ad : Ad)  (a : Nat) (e1 : ad 5 13 = a + 1) (f1 : ad 20 13 = a + 1 + 1) (f2 : ad 21 13 = a + 1 + 2) (f3 : ad 22 13 = a + 1 + 3) (f4 : ad 23 13 = a + 1 + 4) : y_M l yX0_init cX0_init 1 2 40 5 965 G a 0 [.null] 6 (fun H => ∀ i, i < 6 → va_at G.1 z_cl (a + i, y_eB G ad i) H) := by
  refine y_begin (by decide +kernel) rfl (Nat.le_of_ble_eq_true rfl) (fun p e s m args below meth c ls C hz h0 S hl => ?_)
  refine lv_aload_n C.1.1 C.1.2.1 dX0_init_0 rfl (lv_at hl 0 rfl) ?_
  refine y_obj C tw_2_60 hl.1 (Nat.le_of_ble_eq_true rfl) (Nat.le_of_ble_eq_true rfl) dX0_init_1 ?_
  refine lv_aload_n C.1.1 C.1.2.1 dX0_init_4 rfl (lv_at hl 0 rfl) ?_
  refine y_newO (fs := [.int 0, .null, .null, .null, .null]) C S hz cf_5 tw_2_61 tw_1_43 tw_1_3 (y_df5) (Nat.le_of_ble_eq_true rfl) (Nat.le_of_ble_eq_true rfl) dX0_init_5 (fun H z9 o9 h1 S => ?_)
  have h0 := va_at.kept h0 (o9 _ (show a < a + 1 by omega))
  have hz : H.size = a + 2 := z9
  clear o9 z9
  refine lv_dup C.1.1 C.1.2.1 dX0_init_8 rfl ?_
  refine y_callN C S (show a ≤ a + 1 by omega) (m_X5_init l G ad 13 (a + 1) f1 f2 f3 f4) kv_X5_init (List.mem_of_getElem? (i := 4) rfl) hz h1 ⟨(Nat.le_of_ble_eq_true rfl), (Nat.le_of_ble_eq_true rfl)⟩ (Nat.le_of_ble_eq_true rfl) hl.1 ⟨(Nat.le_of_ble_eq_true rfl), (Nat.le_of_ble_eq_true rfl)⟩ dX0_init_9 (fun H locs z9 d1 o9 S => ?_)
  have h0 := va_at.kept h0 (o9 _ (show a < a + 1 by omega))
  have hz : H.size = a + 6 := z9
  clear o9 z9 h1
  refine y_putF C S h0 (Nat.le_refl _) cf_0 0 (by decide) (Nat.le_of_ble_eq_true rfl) rfl rfl rfl rfl tw_2_63 dX0_init_12 (fun H locs z9 o9 h0 S => ?_)
  have h0 : va_at G.1 z_cl (a, .inr (0, [.ref (a + 1)])) H := h0
  have d1 : ∀ i, i < 5 → va_at G.1 z_cl (a + 1 + i, y_eM G ad 13 i) _ := fun i hi => va_at.kept (d1 i hi) (o9 _ (show a + 1 + i ≠ a by omega))
  have hz : H.size = a + 6 := z9.trans hz
  clear o9 z9
  refine y_ret (n := 6) (D := fun H => ∀ i, i < 6 → va_at G.1 z_cl (a + i, y_eB G ad i) H) C S hz (fun i hi => ?_) (Nat.le_of_ble_eq_true rfl) (Nat.le_of_ble_eq_true rfl) dX0_init_15
  match i, hi with
  | 0, _ => exact y_qeq (q := (0, .inr (0, []))) h0 rfl (by simp only [y_eB, y_e, z_ivB, z_cel, z_0, e1])
  | i + 1, hi => exact y_qeq (q := (0, .inr (0, []))) (d1 i (by omega)) (by omega) rfl
