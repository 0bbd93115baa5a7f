/-! builders made, with nothing and with a string; letters of a string -/
set_option maxHeartbeats 4000000 in
set_option maxRecDepth 100000 in
theorem k_sbinit5 (l : Launch) (G : Gx) (a : Nat) (hGa : G.2.2.1.size ≤ a) (sz : Nat) : k_M l yJ5_init_d00df cJ5_init_d00df 2 none 1 20 1 16 G (fun H => va_at G.1 z_cl (a, .inr (14, [.null, .int 0, .int 0, .int 0])) H) sz [.ref a, .int 16] none (fun H => H.size = sz + 1 ∧ va_at G.1 z_cl (a, e_sb sz 0) H ∧ va_at G.1 z_cl (sz, e_by G 16 (fun _ => 0)) H) (fun x => x = a ∨ sz ≤ x) := by
  refine k_begin (by decide +kernel) (Nat.le_of_ble_eq_true rfl) [(0, .ref a), (1, .int 16)] rfl (fun p e s m args below meth c ls C hnm hsz hP hO hl => ?_)
  have S : va_S (fun x => x = a ∨ sz ≤ x) s.heap s.heap [] := va_S.rf
  refine lv_aload_n C.1 C.2.1 dJ5_init_d00df_0 rfl (lv_at hl 0 rfl) ?_
  refine u_obj C tw_4_151 hl.1 (Nat.le_of_ble_eq_true rfl) (Nat.le_of_ble_eq_true rfl) dJ5_init_d00df_1 ?_
  refine u_gets C hO C.2.2.2.2.2.1.2.2.2.2.2.2.2.1 tw_4_152 dJ5_init_d00df_4 ?_
  refine lv_if_eq (tgt := 25) C.1 C.2.1 dJ5_init_d00df_7 (by decide) (fun c_3 => absurd c_3 (by decide)) (fun c_3 => ?_)
  refine lv_aload_n C.1 C.2.1 dJ5_init_d00df_10 rfl (lv_at hl 0 rfl) ?_
  refine lv_iload_n C.1 C.2.1 dJ5_init_d00df_11 rfl (lv_at hl 1 rfl) ?_
  have haL := hP.lt
  refine u_newB C S 16 (by decide) (by decide) (Nat.le_of_ble_eq_true rfl) (Nat.le_of_ble_eq_true rfl) (Nat.le_of_ble_eq_true rfl) dJ5_init_d00df_12 (fun H1 z1 o1 g1 S => ?_)
  replace hP := va_at.kept hP (o1 _ hP.lt)
  rw [hsz] at g1 z1
  rw [hsz]
  refine u_put C S hP (Or.inl rfl) cf_14 0 (by decide) (Nat.le_of_ble_eq_true rfl) rfl rfl rfl tw_4_160 dJ5_init_d00df_14 (fun H2 locs2 z2 o2 g0 S => ?_)
  replace g1 := va_at.kept g1 (o2 _ (by omega))
  refine lv_aload_n C.1 C.2.1 dJ5_init_d00df_17 rfl (lv_at hl 0 rfl) ?_
  refine lv_iconst (v := 0) C.1 C.2.1 dJ5_init_d00df_18 (by decide) ?_
  refine u_put C S g0 (Or.inl rfl) cf_14 1 (by decide) (Nat.le_of_ble_eq_true rfl) rfl rfl rfl tw_4_161 dJ5_init_d00df_19 (fun H3 locs3 z3 o3 g0 S => ?_)
  replace g1 := va_at.kept g1 (o3 _ (by omega))
  refine lv_goto (tgt := 38) C.1 C.2.1 dJ5_init_d00df_22 (by decide) ?_
  exact k_vret C S ⟨by rw [z3, z2, z1], g0, g1⟩ (Nat.le_of_ble_eq_true rfl) (Nat.le_of_ble_eq_true rfl) dJ5_init_d00df_38
set_option maxHeartbeats 4000000 in
set_option maxRecDepth 100000 in
theorem k_sbinit (l : Launch) (G : Gx) (a : Nat) (hGa : G.2.2.1.size ≤ a) (sz : Nat) : k_M l yJ4_init_da8c8 cJ4_init_da8c8 1 none 2 41 1 16 G (fun H => va_at G.1 z_cl (a, .inr (14, [.null, .int 0, .int 0, .int 0])) H) sz [.ref a] none (fun H => H.size = sz + 1 ∧ k_sb G a sz 0 (fun _ => 0) H) (fun x => x = a ∨ sz ≤ x) := by
  refine k_begin (by decide +kernel) (Nat.le_of_ble_eq_true rfl) [(0, .ref a)] rfl (fun p e s m args below meth c ls C hnm hsz hP hO hl => ?_)
  have S : va_S (fun x => x = a ∨ sz ≤ x) s.heap s.heap [] := va_S.rf
  refine lv_aload_n C.1 C.2.1 dJ4_init_da8c8_0 rfl (lv_at hl 0 rfl) ?_
  refine lv_bipush (v := 16) C.1 C.2.1 dJ4_init_da8c8_1 (by decide) ?_
  refine k_callI C S hO [.int 16] (k_sbinit5 l G a hGa sz) hsz hP kv_J5_init_d00df tw_4_148 ⟨(Nat.le_of_ble_eq_true rfl), (Nat.le_of_ble_eq_true rfl)⟩ rfl rfl (Nat.le_of_ble_eq_true rfl) hl.1 ⟨(Nat.le_of_ble_eq_true rfl), (Nat.le_of_ble_eq_true rfl)⟩ dJ4_init_da8c8_3 (fun x h => h) (fun H1 locs1 hp1 hle1 o1 S => ?_)
  obtain ⟨z1, g0, g1⟩ := hp1
  exact k_vret C S ⟨z1, g0, 16, fun _ => 0, g1, by omega, by omega, fun _ h => absurd h (Nat.not_lt_zero _), fun _ _ => rfl⟩ (Nat.le_of_ble_eq_true rfl) (Nat.le_of_ble_eq_true rfl) dJ4_init_da8c8_6
set_option maxHeartbeats 4000000 in
set_option maxRecDepth 100000 in
theorem k_appSb (l : Launch) (G : Gx) (a v n q w n1 : Nat) (t t1 : Nat → Int32) (hn : n + n1 ≤ 240) (hGa : G.2.2.1.size ≤ a) (hav : a ≠ v) (hqa : q ≠ a ∧ w ≠ a ∧ q ≠ v ∧ w ≠ v) (ht : ∀ j, j < n1 → fits .byte (.int (t1 j)) = true) (sz : Nat) : k_M l yJ4_append_cf1ce cJ4_append_cf1ce 2 (Option.some (FieldType.object "java/lang/AbstractStringBuilder")) 6 134 1 500 G (fun H => k_sb G a v n t H ∧ k_str G q w n1 t1 H) sz [.ref a, .ref q] (some (.ref a)) (fun H => ∃ v2 : Nat, k_sb G a v2 (n + n1) (t_cat t n t1) H ∧ (v2 = v ∨ (sz ≤ v2 ∧ v2 < H.size))) (fun x => x = a ∨ x = v ∨ sz ≤ x) := by
  refine k_begin (by decide +kernel) (Nat.le_of_ble_eq_true rfl) [(0, .ref a), (1, .ref q)] rfl (fun p e s m args below meth c ls C hnm hsz hP hO hl => ?_)
  have S : va_S (fun x => x = a ∨ x = v ∨ sz ≤ x) s.heap s.heap [] := va_S.rf
  refine lv_aload_n C.1 C.2.1 dJ4_append_cf1ce_0 rfl (lv_at hl 0 rfl) ?_
  refine lv_aload_n C.1 C.2.1 dJ4_append_cf1ce_1 rfl (lv_at hl 1 rfl) ?_
  refine k_callV C S hO (u_clsO C.2.2.2.2.2.1 hP.1.1 cf_14.1) [.ref q] (k_appS l G a v n q w n1 t t1 hn hGa hav hqa ht sz) hsz hP kv_J4_append_15ec4 tw_5_118 ⟨(Nat.le_of_ble_eq_true rfl), (Nat.le_of_ble_eq_true rfl)⟩ rfl rfl (Nat.le_of_ble_eq_true rfl) hl.1 ⟨(Nat.le_of_ble_eq_true rfl), (Nat.le_of_ble_eq_true rfl)⟩ dJ4_append_cf1ce_2 (fun x h => h) (fun H1 locs1 hp1 hle1 o1 S => ?_)
  exact k_aret C S (Or.inl ⟨_, rfl⟩) (Or.inr ⟨_, rfl⟩) hp1 (Nat.le_of_ble_eq_true rfl) (Nat.le_of_ble_eq_true rfl) dJ4_append_cf1ce_5
set_option maxHeartbeats 4000000 in
set_option maxRecDepth 100000 in
theorem k_sbinitS5 (l : Launch) (G : Gx) (a q w n1 : Nat) (t1 : Nat → Int32) (hn : n1 ≤ 240) (hGa : G.2.2.1.size ≤ a) (hqa : q ≠ a ∧ w ≠ a) (ht : ∀ j, j < n1 → fits .byte (.int (t1 j)) = true) (sz : Nat) : k_M l yJ5_init_a7421 cJ5_init_a7421 5 none 7 155 2 760 G (fun H => va_at G.1 z_cl (a, .inr (14, [.null, .int 0, .int 0, .int 0])) H ∧ k_str G q w n1 t1 H) sz [.ref a, .ref q] none (fun H => ∃ v2 : Nat, k_sb G a v2 n1 t1 H ∧ sz ≤ v2 ∧ v2 < H.size) (fun x => x = a ∨ sz ≤ x) := by
  refine k_begin (by decide +kernel) (Nat.le_of_ble_eq_true rfl) [(0, .ref a), (1, .ref q)] rfl (fun p e s m args below meth c ls C hnm hsz hP hO hl => ?_)
  obtain ⟨h0, h1⟩ := hP
  have S : va_S (fun x => x = a ∨ sz ≤ x) s.heap s.heap [] := va_S.rf
  subst hsz
  have haL := h0.lt
  have hqL := h1.lt hO C
  refine lv_aload_n C.1 C.2.1 dJ5_init_a7421_0 rfl (lv_at hl 0 rfl) ?_
  refine u_obj C tw_4_151 hl.1 (Nat.le_of_ble_eq_true rfl) (Nat.le_of_ble_eq_true rfl) dJ5_init_a7421_1 ?_
  refine lv_aload_n C.1 C.2.1 dJ5_init_a7421_4 rfl (lv_at hl 1 rfl) ?_
  refine k_callV C S hO (u_strC C hO h1) [] (k_lenS l G q w n1 t1 s.heap.size) rfl h1 kv_J0_length_8abf5 tw_4_225 ⟨(Nat.le_of_ble_eq_true rfl), (Nat.le_of_ble_eq_true rfl)⟩ rfl rfl (Nat.le_of_ble_eq_true rfl) hl.1 ⟨(Nat.le_of_ble_eq_true rfl), (Nat.le_of_ble_eq_true rfl)⟩ dJ5_init_a7421_5 (fun _ h => h.elim) (fun H1 locs1 hz1 hle1 o1 S => ?_)
  have hO1 : z_O G H1 := hO.call hle1 o1 (fun _ _ h => h)
  replace h0 := va_at.kept h0 (o1 _ h0.lt id)
  replace h1 := h1.kept (fun x hx => o1 x hx id)
  refine lv_istore_n (lv' := [(2, .int (nI n1)), (0, .ref a), (1, .ref q)]) C.1 C.2.1 dJ5_init_a7421_8 rfl hl (by decide) rfl (fun ls hl => ?_)
  refine lv_iload_n C.1 C.2.1 dJ5_init_a7421_9 rfl (lv_at hl 0 rfl) ?_
  refine z_ldc (v := 2147483631) C tw_5_114 dJ5_init_a7421_10 ?_
  refine lv_icmp_ge (tgt := 22) C.1 C.2.1 dJ5_init_a7421_12 (by decide) (fun c_ => absurd c_ (nI_ge (show n1 < 2147483631 by omega) (by decide))) (fun c_ => ?_)
  refine lv_iload_n C.1 C.2.1 dJ5_init_a7421_15 rfl (lv_at hl 0 rfl) ?_
  refine lv_bipush (v := 16) C.1 C.2.1 dJ5_init_a7421_16 (by decide) ?_
  refine lv_iadd C.1 C.2.1 dJ5_init_a7421_18 ?_
  rw [show nI n1 + 16 = nI (n1 + 16) from (Int32.ofNat_add n1 16).symm]
  refine lv_goto (tgt := 24) C.1 C.2.1 dJ5_init_a7421_19 (by decide) ?_
  refine lv_istore_n (lv' := [(3, .int (nI (n1 + 16))), (2, .int (nI n1)), (0, .ref a), (1, .ref q)]) C.1 C.2.1 dJ5_init_a7421_24 rfl hl (by decide) rfl (fun ls hl => ?_)
  refine lv_aload_n C.1 C.2.1 dJ5_init_a7421_25 rfl (lv_at hl 3 rfl) ?_
  refine k_callV C S hO1 (u_strC C hO1 h1) [] (k_coderS l G q w n1 t1 s.heap.size) hz1 h1 kv_J0_coder_7d493 tw_4_234 ⟨(Nat.le_of_ble_eq_true rfl), (Nat.le_of_ble_eq_true rfl)⟩ rfl rfl (Nat.le_of_ble_eq_true rfl) hl.1 ⟨(Nat.le_of_ble_eq_true rfl), (Nat.le_of_ble_eq_true rfl)⟩ dJ5_init_a7421_26 (fun _ h => h.elim) (fun H2 locs2 hz2 hle2 o2 S => ?_)
  have hO2 : z_O G H2 := hO1.call hle2 o2 (fun _ _ h => h)
  replace h0 := va_at.kept h0 (o2 _ h0.lt id)
  replace h1 := h1.kept (fun x hx => o2 x hx id)
  refine lv_istore (lv' := [(4, .int 0), (3, .int (nI (n1 + 16))), (2, .int (nI n1)), (0, .ref a), (1, .ref q)]) C.1 C.2.1 dJ5_init_a7421_29 hl (by decide) rfl (fun ls hl => ?_)
  refine lv_aload_n C.1 C.2.1 dJ5_init_a7421_31 rfl (lv_at hl 3 rfl) ?_
  refine lv_iload C.1 C.2.1 dJ5_init_a7421_32 (lv_at hl 0 rfl) ?_
  refine u_put C S h0 (Or.inl rfl) cf_14 1 (by decide) (Nat.le_of_ble_eq_true rfl) rfl rfl rfl tw_4_161 dJ5_init_a7421_34 (fun H3 locs3 z3 o3 g0 S => ?_)
  have hO3 := hO2.put z3 o3 hGa
  replace h1 := h1.kept' (o3 _ hqa.1) (o3 _ hqa.2)
  refine lv_aload_n C.1 C.2.1 dJ5_init_a7421_37 rfl (lv_at hl 3 rfl) ?_
  refine lv_iload C.1 C.2.1 dJ5_init_a7421_38 (lv_at hl 0 rfl) ?_
  refine lv_if_ne (tgt := 49) C.1 C.2.1 dJ5_init_a7421_40 (by decide) (fun c_ => absurd rfl c_) (fun c_ => ?_)
  refine lv_iload_n C.1 C.2.1 dJ5_init_a7421_43 rfl (lv_at hl 1 rfl) ?_
  refine u_newB C S (n1 + 16) (nI_pos (by omega)) (nI_clamp (by omega)) (by omega) (Nat.le_of_ble_eq_true rfl) (by show 0 + 0 + 0 + (n1 + 16) ≤ 760; omega) dJ5_init_a7421_44 (fun H4 z4 o4 g1 S => ?_)
  have e4 : H3.size = s.heap.size := z3.trans hz2
  rw [e4] at g1 z4
  rw [e4]
  have hO4 := hO3.grow (e4 ▸ z4) o4
  replace g0 := va_at.kept g0 (o4 _ g0.lt)
  replace h1 := h1.kept o4
  refine lv_goto (tgt := 53) C.1 C.2.1 dJ5_init_a7421_46 (by decide) ?_
  refine u_put C S g0 (Or.inl rfl) cf_14 0 (by decide) (Nat.le_of_ble_eq_true rfl) rfl rfl rfl tw_4_160 dJ5_init_a7421_53 (fun H5 locs5 z5 o5 g0 S => ?_)
  have hO5 := hO4.put z5 o5 hGa
  replace h1 := h1.kept' (o5 _ hqa.1) (o5 _ hqa.2)
  replace g1 := va_at.kept g1 (o5 _ (by omega))
  have hsb : k_sb G a s.heap.size 0 (fun _ => 0) H5 := ⟨g0, n1 + 16, fun _ => 0, g1, Nat.zero_le _, by omega, fun _ h => absurd h (Nat.not_lt_zero _), fun _ _ => rfl⟩
  refine lv_aload_n C.1 C.2.1 dJ5_init_a7421_56 rfl (lv_at hl 3 rfl) ?_
  refine lv_aload_n C.1 C.2.1 dJ5_init_a7421_57 rfl (lv_at hl 4 rfl) ?_
  refine W.widen (k := 1) (n := 256) (Nat.le_of_ble_eq_true rfl) (by show 0 + 0 + 0 + (n1 + 16) ≤ 256; omega) ?_
  refine k_callO C S hO5 (u_clsO C.2.2.2.2.2.1 g0 cf_14.1) [.ref q] (k_appSb l G a s.heap.size 0 q w n1 (fun _ => 0) t1 (by omega) hGa (by omega) ⟨hqa.1, hqa.2, by omega, by omega⟩ ht H5.size) rfl ⟨hsb, h1⟩ kp_J4_append_cf1ce tw_4_180 tw_7_187 tw_4_179 tw_7_195 (by decide +kernel) tw_5_115 ⟨(Nat.le_of_ble_eq_true rfl), (Nat.le_of_ble_eq_true rfl)⟩ rfl rfl (Nat.le_of_ble_eq_true rfl) hl.1 ⟨(Nat.le_of_ble_eq_true rfl), (Nat.le_of_ble_eq_true rfl)⟩ dJ5_init_a7421_58 (fun x h => by rcases h with h | h | h; exact Or.inl h; exact Or.inr (by omega); exact Or.inr (by omega)) (fun H6 locs6 hp6 hle6 o6 S => ?_)
  obtain ⟨v2, f1, f2⟩ := hp6
  refine lv_pop C.1 C.2.1 dJ5_init_a7421_61 rfl ?_
  refine k_vret C S ⟨v2, ?_, by rcases f2 with h | h <;> omega, by rcases f2 with h | h <;> omega⟩ (Nat.le_of_ble_eq_true rfl) (Nat.le_of_ble_eq_true rfl) dJ5_init_a7421_62
  rw [show 0 + n1 = n1 by omega, show t_cat (fun _ => 0) 0 t1 = t1 from funext fun j => (if_neg (Nat.not_lt_zero j)).trans (by rw [Nat.sub_zero])] at f1
  exact f1
set_option maxHeartbeats 4000000 in
set_option maxRecDepth 100000 in
theorem k_sbinitS (l : Launch) (G : Gx) (a q w n1 : Nat) (t1 : Nat → Int32) (hn : n1 ≤ 240) (hGa : G.2.2.1.size ≤ a) (hqa : q ≠ a ∧ w ≠ a) (ht : ∀ j, j < n1 → fits .byte (.int (t1 j)) = true) (sz : Nat) : k_M l yJ4_init_a7421 cJ4_init_a7421 2 none 8 179 2 760 G (fun H => va_at G.1 z_cl (a, .inr (14, [.null, .int 0, .int 0, .int 0])) H ∧ k_str G q w n1 t1 H) sz [.ref a, .ref q] none (fun H => ∃ v2 : Nat, k_sb G a v2 n1 t1 H ∧ sz ≤ v2 ∧ v2 < H.size) (fun x => x = a ∨ sz ≤ x) := by
  refine k_begin (by decide +kernel) (Nat.le_of_ble_eq_true rfl) [(0, .ref a), (1, .ref q)] rfl (fun p e s m args below meth c ls C hnm hsz hP hO hl => ?_)
  have S : va_S (fun x => x = a ∨ sz ≤ x) s.heap s.heap [] := va_S.rf
  refine lv_aload_n C.1 C.2.1 dJ4_init_a7421_0 rfl (lv_at hl 0 rfl) ?_
  refine lv_aload_n C.1 C.2.1 dJ4_init_a7421_1 rfl (lv_at hl 1 rfl) ?_
  refine k_callI C S hO [.ref q] (k_sbinitS5 l G a q w n1 t1 hn hGa hqa ht sz) hsz hP kv_J5_init_a7421 tw_5_111 ⟨(Nat.le_of_ble_eq_true rfl), (Nat.le_of_ble_eq_true rfl)⟩ rfl rfl (Nat.le_of_ble_eq_true rfl) hl.1 ⟨(Nat.le_of_ble_eq_true rfl), (Nat.le_of_ble_eq_true rfl)⟩ dJ4_init_a7421_2 (fun x h => h) (fun H1 locs1 hp1 hle1 o1 S => ?_)
  exact k_vret C S hp1 (Nat.le_of_ble_eq_true rfl) (Nat.le_of_ble_eq_true rfl) dJ4_init_a7421_5
set_option maxHeartbeats 4000000 in
set_option maxRecDepth 100000 in
theorem k_strl1 (l : Launch) (G : Gx) (q w n : Nat) (t : Nat → Int32) (sz : Nat) : k_M l yJ0_isLatin1_aae02 cJ0_isLatin1_aae02 1 (Option.some FieldType.boolean) 0 0 0 0 G (fun H => k_str G q w n t H) sz [.ref q] (some (.int 1)) (fun H => H.size = sz) (fun q => False) := by
  refine k_begin (by decide +kernel) (Nat.le_of_ble_eq_true rfl) [(0, .ref q)] rfl (fun p e s m args below meth c ls C hnm hsz hP hO hl => ?_)
  have S : va_S (fun q => False) s.heap s.heap [] := va_S.rf
  refine u_gets C hO C.2.2.2.2.2.1.2.2.2.2.2.2.2.1 tw_2_227 dJ0_isLatin1_aae02_0 ?_
  refine lv_if_eq (tgt := 17) C.1 C.2.1 dJ0_isLatin1_aae02_3 (by decide) (fun c_3 => absurd c_3 (by decide)) (fun c_3 => ?_)
  refine lv_aload_n C.1 C.2.1 dJ0_isLatin1_aae02_6 rfl (lv_at hl 0 rfl) ?_
  refine u_strc C hO hP tw_5_98 dJ0_isLatin1_aae02_7 ?_
  refine lv_if_ne (tgt := 17) C.1 C.2.1 dJ0_isLatin1_aae02_10 (by decide) (fun c_ => absurd rfl c_) (fun c_ => ?_)
  refine lv_iconst (v := 1) C.1 C.2.1 dJ0_isLatin1_aae02_13 (by decide) ?_
  refine lv_goto (tgt := 18) C.1 C.2.1 dJ0_isLatin1_aae02_14 (by decide) ?_
  exact k_zret C S rfl hsz (Nat.le_of_ble_eq_true rfl) (Nat.le_of_ble_eq_true rfl) dJ0_isLatin1_aae02_18
set_option maxHeartbeats 4000000 in
set_option maxRecDepth 100000 in
theorem k_ckixr (l : Launch) (G : Gx) (i n : Int32) (t9 : Nat) (h0 : ¬ i < 0) (h1 : ¬ n ≤ i) (sz : Nat) : k_M l yJ3_checkIndex_8e157 cJ3_checkIndex_8e157 3 (Option.some FieldType.int) 0 0 0 0 G (fun H => True) sz [.int i, .int n, .ref t9] (some (.int i)) (fun H => H.size = sz) (fun q => False) := by
  refine k_begin (by decide +kernel) (Nat.le_of_ble_eq_true rfl) [(0, .int i), (1, .int n), (2, .ref t9)] rfl (fun p e s m args below meth c ls C hnm hsz hP hO hl => ?_)
  have S : va_S (fun q => False) s.heap s.heap [] := va_S.rf
  refine lv_iload_n C.1 C.2.1 dJ3_checkIndex_8e157_0 rfl (lv_at hl 0 rfl) ?_
  refine lv_if_lt (tgt := 9) C.1 C.2.1 dJ3_checkIndex_8e157_1 (by decide) (fun c_3 => absurd c_3 h0) (fun c_3 => ?_)
  refine lv_iload_n C.1 C.2.1 dJ3_checkIndex_8e157_4 rfl (lv_at hl 0 rfl) ?_
  refine lv_iload_n C.1 C.2.1 dJ3_checkIndex_8e157_5 rfl (lv_at hl 1 rfl) ?_
  refine lv_icmp_lt (tgt := 16) C.1 C.2.1 dJ3_checkIndex_8e157_6 (by decide) (fun c_6 => ?_) (fun c_6 => absurd (Int32.not_lt.mp c_6) h1)
  refine lv_iload_n C.1 C.2.1 dJ3_checkIndex_8e157_16 rfl (lv_at hl 0 rfl) ?_
  exact k_iret C S hsz (Nat.le_of_ble_eq_true rfl) (Nat.le_of_ble_eq_true rfl) dJ3_checkIndex_8e157_17
set_option maxHeartbeats 4000000 in
set_option maxRecDepth 100000 in
theorem k_ckstr (l : Launch) (G : Gx) (i n : Int32) (h0 : ¬ i < 0) (h1 : ¬ n ≤ i) (sz : Nat) : k_M l yJ0_checkIndex_df160 cJ0_checkIndex_df160 2 none 1 22 0 0 G (fun H => True) sz [.int i, .int n] none (fun H => H.size = sz) (fun q => False) := by
  refine k_begin (by decide +kernel) (Nat.le_of_ble_eq_true rfl) [(0, .int i), (1, .int n)] rfl (fun p e s m args below meth c ls C hnm hsz hP hO hl => ?_)
  have S : va_S (fun q => False) s.heap s.heap [] := va_S.rf
  refine lv_iload_n C.1 C.2.1 dJ0_checkIndex_df160_0 rfl (lv_at hl 0 rfl) ?_
  refine lv_iload_n C.1 C.2.1 dJ0_checkIndex_df160_1 rfl (lv_at hl 1 rfl) ?_
  rcases C.2.2.2.2.2.1.2.2.2.2.2.2.2.2.1 with hZ | ⟨t9, hZ⟩
  · refine u_gets C hO hZ tw_3_3 dJ0_checkIndex_df160_2 ?_
    refine k_callS C S hO [.int i, .int n, .null] (k_ckix l G i n h0 h1 sz) hsz trivial kv_J3_checkIndex_8e157 tw_3_5 ⟨(Nat.le_of_ble_eq_true rfl), (Nat.le_of_ble_eq_true rfl)⟩ rfl rfl (Nat.le_of_ble_eq_true rfl) hl.1 ⟨(Nat.le_of_ble_eq_true rfl), (Nat.le_of_ble_eq_true rfl)⟩ dJ0_checkIndex_df160_5 (fun _ h => h.elim) (fun H1 locs1 hz1 hle1 o1 S => ?_)
    refine lv_pop C.1 C.2.1 dJ0_checkIndex_df160_8 rfl ?_
    exact k_vret C S hz1 (Nat.le_of_ble_eq_true rfl) (Nat.le_of_ble_eq_true rfl) dJ0_checkIndex_df160_9
  · refine u_gets C hO hZ tw_3_3 dJ0_checkIndex_df160_2 ?_
    refine k_callS C S hO [.int i, .int n, .ref t9] (k_ckixr l G i n t9 h0 h1 sz) hsz trivial kv_J3_checkIndex_8e157 tw_3_5 ⟨(Nat.le_of_ble_eq_true rfl), (Nat.le_of_ble_eq_true rfl)⟩ rfl rfl (Nat.le_of_ble_eq_true rfl) hl.1 ⟨(Nat.le_of_ble_eq_true rfl), (Nat.le_of_ble_eq_true rfl)⟩ dJ0_checkIndex_df160_5 (fun _ h => h.elim) (fun H1 locs1 hz1 hle1 o1 S => ?_)
    refine lv_pop C.1 C.2.1 dJ0_checkIndex_df160_8 rfl ?_
    exact k_vret C S hz1 (Nat.le_of_ble_eq_true rfl) (Nat.le_of_ble_eq_true rfl) dJ0_checkIndex_df160_9
def t_chr (x : Int32) : Int32 := ((x &&& 255).toUInt32 % 65536).toInt32
set_option maxHeartbeats 4000000 in
set_option maxRecDepth 100000 in
theorem k_chl1 (l : Launch) (G : Gx) (q w n j : Nat) (t : Nat → Int32) (hj : j < n) (hn : n < 2147483648) (sz : Nat) : k_M l yJ1_charAt_3b067 cJ1_charAt_3b067 2 (Option.some FieldType.char) 2 43 0 0 G (fun H => k_str G q w n t H) sz [.ref w, .int (nI j)] (some (.int (t_chr (t j)))) (fun H => H.size = sz) (fun q => False) := by
  refine k_begin (by decide +kernel) (Nat.le_of_ble_eq_true rfl) [(0, .ref w), (1, .int (nI j))] rfl (fun p e s m args below meth c ls C hnm hsz hP hO hl => ?_)
  have S : va_S (fun q => False) s.heap s.heap [] := va_S.rf
  refine lv_iload_n C.1 C.2.1 dJ1_charAt_3b067_0 rfl (lv_at hl 1 rfl) ?_
  refine lv_aload_n C.1 C.2.1 dJ1_charAt_3b067_1 rfl (lv_at hl 0 rfl) ?_
  refine u_Tlen C (u_strT C hO hP) dJ1_charAt_3b067_2 ?_
  refine k_callS C S hO [.int (nI j), .int (nI n)] (k_ckstr l G (nI j) (nI n) (nI_pos (by omega)) (nI_ge hj hn) sz) hsz trivial kv_J0_checkIndex_df160 tw_3_0 ⟨(Nat.le_of_ble_eq_true rfl), (Nat.le_of_ble_eq_true rfl)⟩ rfl rfl (Nat.le_of_ble_eq_true rfl) hl.1 ⟨(Nat.le_of_ble_eq_true rfl), (Nat.le_of_ble_eq_true rfl)⟩ dJ1_charAt_3b067_3 (fun _ h => h.elim) (fun H1 locs1 hz1 hle1 o1 S => ?_)
  have hO1 : z_O G H1 := hO.call hle1 o1 (fun _ _ h => h)
  replace hP := hP.kept (fun x hx => o1 x hx id)
  refine lv_aload_n C.1 C.2.1 dJ1_charAt_3b067_6 rfl (lv_at hl 0 rfl) ?_
  refine lv_iload_n C.1 C.2.1 dJ1_charAt_3b067_7 rfl (lv_at hl 1 rfl) ?_
  refine u_Tald C (u_strT C hO1 hP) (i := nI j) (by rw [nI_clamp (by omega)]; exact fun q => q.elim (fun q => nI_pos (by omega) q) (fun q => by omega)) rfl dJ1_charAt_3b067_8 ?_
  rw [nI_clamp (by omega)]
  refine lv_sipush (v := 255) C.1 C.2.1 dJ1_charAt_3b067_9 (by decide) ?_
  refine lv_iand C.1 C.2.1 dJ1_charAt_3b067_12 ?_
  refine lv_i2c (v := t_chr (t j)) C.1 C.2.1 dJ1_charAt_3b067_13 rfl ?_
  exact k_zret C S (pk_nc _) hz1 (Nat.le_of_ble_eq_true rfl) (Nat.le_of_ble_eq_true rfl) dJ1_charAt_3b067_14
set_option maxHeartbeats 4000000 in
set_option maxRecDepth 100000 in
theorem k_chS (l : Launch) (G : Gx) (q w n j : Nat) (t : Nat → Int32) (hj : j < n) (hn : n < 2147483648) (sz : Nat) : k_M l yJ0_charAt_5068e cJ0_charAt_5068e 2 (Option.some FieldType.char) 3 64 0 0 G (fun H => k_str G q w n t H) sz [.ref q, .int (nI j)] (some (.int (t_chr (t j)))) (fun H => H.size = sz) (fun q => False) := by
  refine k_begin (by decide +kernel) (Nat.le_of_ble_eq_true rfl) [(0, .ref q), (1, .int (nI j))] rfl (fun p e s m args below meth c ls C hnm hsz hP hO hl => ?_)
  have S : va_S (fun q => False) s.heap s.heap [] := va_S.rf
  refine lv_aload_n C.1 C.2.1 dJ0_charAt_5068e_0 rfl (lv_at hl 0 rfl) ?_
  refine k_callV C S hO (u_strC C hO hP) [] (k_strl1 l G q w n t sz) hsz hP kv_J0_isLatin1_aae02 tw_2_233 ⟨(Nat.le_of_ble_eq_true rfl), (Nat.le_of_ble_eq_true rfl)⟩ rfl rfl (Nat.le_of_ble_eq_true rfl) hl.1 ⟨(Nat.le_of_ble_eq_true rfl), (Nat.le_of_ble_eq_true rfl)⟩ dJ0_charAt_5068e_1 (fun _ h => h.elim) (fun H1 locs1 hz1 hle1 o1 S => ?_)
  have hO1 : z_O G H1 := hO.call hle1 o1 (fun _ _ h => h)
  replace hP := hP.kept (fun x hx => o1 x hx id)
  refine lv_if_eq (tgt := 16) C.1 C.2.1 dJ0_charAt_5068e_4 (by decide) (fun c_ => absurd c_ (by decide)) (fun c_ => ?_)
  refine lv_aload_n C.1 C.2.1 dJ0_charAt_5068e_7 rfl (lv_at hl 0 rfl) ?_
  refine u_strv C hO1 hP tw_5_97 dJ0_charAt_5068e_8 ?_
  refine lv_iload_n C.1 C.2.1 dJ0_charAt_5068e_11 rfl (lv_at hl 1 rfl) ?_
  refine k_callS C S hO1 [.ref w, .int (nI j)] (k_chl1 l G q w n j t hj hn sz) hz1 hP kv_J1_charAt_3b067 tw_2_237 ⟨(Nat.le_of_ble_eq_true rfl), (Nat.le_of_ble_eq_true rfl)⟩ rfl rfl (Nat.le_of_ble_eq_true rfl) hl.1 ⟨(Nat.le_of_ble_eq_true rfl), (Nat.le_of_ble_eq_true rfl)⟩ dJ0_charAt_5068e_12 (fun _ h => h.elim) (fun H2 locs2 hz2 hle2 o2 S => ?_)
  exact k_zret C S (pk_nc _) hz2 (Nat.le_of_ble_eq_true rfl) (Nat.le_of_ble_eq_true rfl) dJ0_charAt_5068e_15
