/-! text builders: numbers and letters appended, a builder made, its text as a string; letters of a string -/
theorem dgc_fitA (x : Nat) : ∀ j, j < dgn x → fits .byte (.int (dgc x j)) = true := fun j _ => dgc_fit x j
set_option maxHeartbeats 4000000 in
set_option maxRecDepth 100000 in
theorem k_appI5 (l : Launch) (G : Gx) (a v n d : Nat) (t : Nat → Int32) (hn : n + dgn d ≤ 240) (hd : d < 10000) (hGa : G.2.2.1.size ≤ a) (hGv : G.2.2.1.size ≤ v) (hav : a ≠ v) (sz : Nat) : k_M l yJ5_append_c97b9 cJ5_append_c97b9 4 (Option.some (FieldType.object "java/lang/AbstractStringBuilder")) 4 91 1 500 G (fun H => k_sb G a v n t H) sz [.ref a, .int (nI d)] (some (.ref a)) (fun H => ∃ v2 : Nat, k_sb G a v2 (n + dgn d) (t_cat t n (dgc d)) H ∧ (v2 = v ∨ (sz ≤ v2 ∧ v2 < H.size))) (fun x => x = a ∨ x = v ∨ sz ≤ x) := by
  refine k_begin (by decide +kernel) (Nat.le_of_ble_eq_true rfl) [(0, .ref a), (1, .int (nI d))] rfl (fun p e s m args below meth c ls C hnm hsz hP hO hl => ?_)
  have S : va_S (fun x => x = a ∨ x = v ∨ sz ≤ x) s.heap s.heap [] := va_S.rf
  subst hsz
  obtain ⟨h0, mm, b, h1, hnm, hm, hbt, hbf⟩ := hP
  have haL := h0.lt
  have hvL := h1.lt
  refine lv_aload_n C.1 C.2.1 dJ5_append_c97b9_0 rfl (lv_at hl 0 rfl) ?_
  refine u_get C h0 cf_14 3 (by decide) rfl tw_4_163 dJ5_append_c97b9_1 ?_
  refine lv_istore_n (lv' := [(2, .int (nI n)), (0, .ref a), (1, .int (nI d))]) C.1 C.2.1 dJ5_append_c97b9_4 rfl hl (by decide) rfl (fun ls hl => ?_)
  refine lv_iload_n C.1 C.2.1 dJ5_append_c97b9_5 rfl (lv_at hl 0 rfl) ?_
  refine lv_iload_n C.1 C.2.1 dJ5_append_c97b9_6 rfl (lv_at hl 2 rfl) ?_
  refine k_callS C S hO [.int (nI d)] (k_strsz l G d hd s.heap.size) rfl trivial kv_J6_stringSize_0f7a4 tw_5_27 ⟨(Nat.le_of_ble_eq_true rfl), (Nat.le_of_ble_eq_true rfl)⟩ rfl rfl (Nat.le_of_ble_eq_true rfl) hl.1 ⟨(Nat.le_of_ble_eq_true rfl), (Nat.le_of_ble_eq_true rfl)⟩ dJ5_append_c97b9_7 (fun _ h => h.elim) (fun H1 locs1 hz1 hle1 o1 S => ?_)
  have hO1 : z_O G H1 := hO.call hle1 o1 (fun _ _ h => h)
  replace h0 := va_at.kept h0 (o1 _ h0.lt id)
  replace h1 := va_at.kept h1 (o1 _ h1.lt id)
  refine lv_iadd C.1 C.2.1 dJ5_append_c97b9_10 ?_
  rw [show nI n + nI (dgn d) = nI (n + dgn d) from (Int32.ofNat_add n (dgn d)).symm]
  refine lv_istore_n (lv' := [(3, .int (nI (n + dgn d))), (2, .int (nI n)), (0, .ref a), (1, .int (nI d))]) C.1 C.2.1 dJ5_append_c97b9_11 rfl hl (by decide) rfl (fun ls hl => ?_)
  refine lv_aload_n C.1 C.2.1 dJ5_append_c97b9_12 rfl (lv_at hl 2 rfl) ?_
  refine lv_iload_n C.1 C.2.1 dJ5_append_c97b9_13 rfl (lv_at hl 0 rfl) ?_
  refine k_callVC C S hO1 (u_clsO C.2.2.2.2.2.1 h0 cf_14.1) [.int (nI (n + dgn d))] (k_ensure l G a v mm (n + dgn d) (nI n) b hm hn hGa hav hbf s.heap.size) hz1 ⟨h0, h1⟩ kp_J5_ensureCapacityInternal_d00df (sel_J5_ensureCapacityInternal_d00df C) tw_4_185 ⟨(Nat.le_of_ble_eq_true rfl), (Nat.le_of_ble_eq_true rfl)⟩ rfl rfl (Nat.le_of_ble_eq_true rfl) hl.1 ⟨(Nat.le_of_ble_eq_true rfl), (Nat.le_of_ble_eq_true rfl)⟩ dJ5_append_c97b9_14 (fun x h => h.elim Or.inl (fun h => Or.inr (Or.inr h))) (fun H2 locs2 hp2 hle2 o2 S => ?_)
  obtain ⟨v2, m2, b2, g0, g1, e1, e2, e3, e4, e5, e6⟩ := hp2
  have hO2 : z_O G H2 := hO1.call hle2 o2 (fun x hx h => by have := hO.1; rcases h with h | h <;> omega)
  have hv2 : v2 ≠ a := by rcases e6 with h | h <;> omega
  have hv2A : v2 = v ∨ s.heap.size ≤ v2 := e6.imp id And.left
  have hGv2 : G.2.2.1.size ≤ v2 := by have := hO.1; rcases e6 with h | h <;> omega
  refine lv_aload_n C.1 C.2.1 dJ5_append_c97b9_17 rfl (lv_at hl 2 rfl) ?_
  refine k_callVC C S hO2 (u_clsO C.2.2.2.2.2.1 g0 cf_14.1) [] (k_isl1 l G a v2 (nI n) H2.size) rfl g0 kp_J5_isLatin1_aae02 (C.2.2.2.2.1 _ tw_4_208) tw_4_205 ⟨(Nat.le_of_ble_eq_true rfl), (Nat.le_of_ble_eq_true rfl)⟩ rfl rfl (Nat.le_of_ble_eq_true rfl) hl.1 ⟨(Nat.le_of_ble_eq_true rfl), (Nat.le_of_ble_eq_true rfl)⟩ dJ5_append_c97b9_18 (fun _ h => h.elim) (fun H3 locs3 hz3 hle3 o3 S => ?_)
  have hO3 : z_O G H3 := hO2.call hle3 o3 (fun _ _ h => h)
  replace g0 := va_at.kept g0 (o3 _ g0.lt id)
  replace g1 := va_at.kept g1 (o3 _ g1.lt id)
  refine lv_if_eq (tgt := 37) C.1 C.2.1 dJ5_append_c97b9_21 (by decide) (fun c_ => absurd c_ (by decide)) (fun c_ => ?_)
  refine lv_iload_n C.1 C.2.1 dJ5_append_c97b9_24 rfl (lv_at hl 3 rfl) ?_
  refine lv_iload_n C.1 C.2.1 dJ5_append_c97b9_25 rfl (lv_at hl 0 rfl) ?_
  refine lv_aload_n C.1 C.2.1 dJ5_append_c97b9_26 rfl (lv_at hl 2 rfl) ?_
  refine u_get C g0 cf_14 0 (by decide) rfl tw_4_160 dJ5_append_c97b9_27 ?_
  refine k_callS C S hO3 [.int (nI d), .int (nI (n + dgn d)), .ref v2] (k_getch l G v2 m2 (n + dgn d) d b2 hd (Nat.le_add_left _ _) e2 e3 hGv2 H2.size) hz3 g1 kv_J6_getChars_ba4f3 tw_5_30 ⟨(Nat.le_of_ble_eq_true rfl), (Nat.le_of_ble_eq_true rfl)⟩ rfl rfl (Nat.le_of_ble_eq_true rfl) hl.1 ⟨(Nat.le_of_ble_eq_true rfl), (Nat.le_of_ble_eq_true rfl)⟩ dJ5_append_c97b9_30 (fun x h => Or.inr (by rw [h]; exact hv2A)) (fun H4 locs4 hp4 hle4 o4 S => ?_)
  obtain ⟨z4, g1⟩ := hp4
  replace g0 := va_at.kept g0 (o4 _ g0.lt (Ne.symm hv2))
  refine lv_pop C.1 C.2.1 dJ5_append_c97b9_33 rfl ?_
  refine lv_goto (tgt := 48) C.1 C.2.1 dJ5_append_c97b9_34 (by decide) ?_
  refine lv_aload_n C.1 C.2.1 dJ5_append_c97b9_48 rfl (lv_at hl 2 rfl) ?_
  refine lv_iload_n C.1 C.2.1 dJ5_append_c97b9_49 rfl (lv_at hl 0 rfl) ?_
  refine u_put C S g0 (Or.inl rfl) cf_14 3 (by decide) (Nat.le_of_ble_eq_true rfl) rfl rfl rfl tw_4_163 dJ5_append_c97b9_50 (fun H5 locs5 z5 o5 g0 S => ?_)
  replace g1 := va_at.kept g1 (o5 _ hv2)
  refine lv_aload_n C.1 C.2.1 dJ5_append_c97b9_53 rfl (lv_at hl 2 rfl) ?_
  refine k_aret C S (Or.inl ⟨_, rfl⟩) (Or.inr ⟨_, rfl⟩) ⟨v2, ⟨g0, m2, _, g1, e2, e3, fun j hj => ?_, fun j hj => ?_⟩, e6.imp id (fun h => ⟨h.1, by omega⟩)⟩ (Nat.le_of_ble_eq_true rfl) (Nat.le_of_ble_eq_true rfl) dJ5_append_c97b9_54
  · unfold b_put t_cat
    rw [Nat.add_sub_cancel]
    by_cases c1 : j < n
    · rw [if_neg (by omega), if_pos c1, e4 j (by omega), hbt j c1]
    · rw [if_pos ⟨by omega, hj⟩, if_neg c1]
  · unfold b_put
    split
    · exact dgc_fit _ _
    · exact e5 j hj
set_option maxHeartbeats 4000000 in
set_option maxRecDepth 100000 in
theorem k_appI (l : Launch) (G : Gx) (a v n d : Nat) (t : Nat → Int32) (hn : n + dgn d ≤ 240) (hd : d < 10000) (hGa : G.2.2.1.size ≤ a) (hGv : G.2.2.1.size ≤ v) (hav : a ≠ v) (sz : Nat) : k_M l yJ4_append_bf812 cJ4_append_bf812 2 (Option.some (FieldType.object "java/lang/StringBuilder")) 5 114 1 500 G (fun H => k_sb G a v n t H) sz [.ref a, .int (nI d)] (some (.ref a)) (fun H => ∃ v2 : Nat, k_sb G a v2 (n + dgn d) (t_cat t n (dgc d)) H ∧ (v2 = v ∨ (sz ≤ v2 ∧ v2 < H.size))) (fun x => x = a ∨ x = v ∨ sz ≤ x) := by
  refine k_begin (by decide +kernel) (Nat.le_of_ble_eq_true rfl) [(0, .ref a), (1, .int (nI d))] rfl (fun p e s m args below meth c ls C hnm hsz hP hO hl => ?_)
  have S : va_S (fun x => x = a ∨ x = v ∨ sz ≤ x) s.heap s.heap [] := va_S.rf
  refine lv_aload_n C.1 C.2.1 dJ4_append_bf812_0 rfl (lv_at hl 0 rfl) ?_
  refine lv_iload_n C.1 C.2.1 dJ4_append_bf812_1 rfl (lv_at hl 1 rfl) ?_
  refine k_callSU C S hO (u_clsO C.2.2.2.2.2.1 hP.1 cf_14.1) (ci := 14) rfl [.int (nI d)] (k_appI5 l G a v n d t hn hd hGa hGv hav sz) hsz hP kp_J5_append_c97b9 (by decide) tw_7_194 tw_4_172 tw_5_24 ⟨(Nat.le_of_ble_eq_true rfl), (Nat.le_of_ble_eq_true rfl)⟩ rfl rfl (Nat.le_of_ble_eq_true rfl) hl.1 ⟨(Nat.le_of_ble_eq_true rfl), (Nat.le_of_ble_eq_true rfl)⟩ dJ4_append_bf812_2 (fun x h => h) (fun H1 locs1 hp1 hle1 o1 S => ?_)
  refine lv_pop C.1 C.2.1 dJ4_append_bf812_5 rfl ?_
  refine lv_aload_n C.1 C.2.1 dJ4_append_bf812_6 rfl (lv_at hl 0 rfl) ?_
  exact k_aret C S (Or.inl ⟨_, rfl⟩) (Or.inr ⟨_, rfl⟩) hp1 (Nat.le_of_ble_eq_true rfl) (Nat.le_of_ble_eq_true rfl) dJ4_append_bf812_7
set_option maxHeartbeats 4000000 in
set_option maxRecDepth 100000 in
theorem k_canen (l : Launch) (G : Gx) (ch : Int32) (h : ¬ 255 < ch) (sz : Nat) : k_M l yJ1_canEncode_fc78d cJ1_canEncode_fc78d 1 (Option.some FieldType.boolean) 0 0 0 0 G (fun H => True) sz [.int ch] (some (.int 1)) (fun H => H.size = sz) (fun q => False) := by
  refine k_begin (by decide +kernel) (Nat.le_of_ble_eq_true rfl) [(0, .int ch)] rfl (fun p e s m args below meth c ls C hnm hsz hP hO hl => ?_)
  have S : va_S (fun q => False) s.heap s.heap [] := va_S.rf
  refine lv_iload_n C.1 C.2.1 dJ1_canEncode_fc78d_0 rfl (lv_at hl 0 rfl) ?_
  refine lv_sipush (v := 255) C.1 C.2.1 dJ1_canEncode_fc78d_1 (by decide) ?_
  refine lv_icmp_gt (tgt := 11) C.1 C.2.1 dJ1_canEncode_fc78d_4 (by decide) (fun c_ => absurd c_ h) (fun c_ => ?_)
  refine lv_iconst (v := 1) C.1 C.2.1 dJ1_canEncode_fc78d_7 (by decide) ?_
  refine lv_goto (tgt := 12) C.1 C.2.1 dJ1_canEncode_fc78d_8 (by decide) ?_
  exact k_zret C S rfl hsz (Nat.le_of_ble_eq_true rfl) (Nat.le_of_ble_eq_true rfl) dJ1_canEncode_fc78d_12
set_option maxHeartbeats 4000000 in
set_option maxRecDepth 100000 in
theorem k_appC5 (l : Launch) (G : Gx) (a v n : Nat) (ch : Int32) (t : Nat → Int32) (hn : n + 1 ≤ 240) (hch : ¬ 255 < ch ∧ ch.toInt8.toInt32 = ch ∧ vp_nar .byte ch = ch ∧ fits .byte (.int ch) = true) (hGa : G.2.2.1.size ≤ a) (hGv : G.2.2.1.size ≤ v) (hav : a ≠ v) (sz : Nat) : k_M l yJ5_append_3fe6f cJ5_append_3fe6f 2 (Option.some (FieldType.object "java/lang/AbstractStringBuilder")) 4 91 1 500 G (fun H => k_sb G a v n t H) sz [.ref a, .int ch] (some (.ref a)) (fun H => ∃ v2 : Nat, k_sb G a v2 (n + 1) (t_cat t n (fun _ => ch)) H ∧ (v2 = v ∨ (sz ≤ v2 ∧ v2 < H.size))) (fun x => x = a ∨ x = v ∨ sz ≤ x) := by
  refine k_begin (by decide +kernel) (Nat.le_of_ble_eq_true rfl) [(0, .ref a), (1, .int ch)] rfl (fun p e s m args below meth c ls C hnm hsz hP hO hl => ?_)
  have S : va_S (fun x => x = a ∨ x = v ∨ sz ≤ x) s.heap s.heap [] := va_S.rf
  subst hsz
  obtain ⟨h0, mm, b, h1, hnm, hm, hbt, hbf⟩ := hP
  have haL := h0.lt
  have hvL := h1.lt
  refine lv_aload_n C.1 C.2.1 dJ5_append_3fe6f_0 rfl (lv_at hl 0 rfl) ?_
  refine lv_aload_n C.1 C.2.1 dJ5_append_3fe6f_1 rfl (lv_at hl 0 rfl) ?_
  refine u_get C h0 cf_14 3 (by decide) rfl tw_4_163 dJ5_append_3fe6f_2 ?_
  refine lv_iconst (v := 1) C.1 C.2.1 dJ5_append_3fe6f_5 (by decide) ?_
  refine lv_iadd C.1 C.2.1 dJ5_append_3fe6f_6 ?_
  rw [show nI n + 1 = nI (n + 1) from (nI_succ n).symm]
  refine k_callVC C S hO (u_clsO C.2.2.2.2.2.1 h0 cf_14.1) [.int (nI (n + 1))] (k_ensure l G a v mm (n + 1) (nI n) b hm hn hGa hav hbf s.heap.size) rfl ⟨h0, h1⟩ kp_J5_ensureCapacityInternal_d00df (sel_J5_ensureCapacityInternal_d00df C) tw_4_185 ⟨(Nat.le_of_ble_eq_true rfl), (Nat.le_of_ble_eq_true rfl)⟩ rfl rfl (Nat.le_of_ble_eq_true rfl) hl.1 ⟨(Nat.le_of_ble_eq_true rfl), (Nat.le_of_ble_eq_true rfl)⟩ dJ5_append_3fe6f_7 (fun x h => h.elim Or.inl (fun h => Or.inr (Or.inr h))) (fun H2 locs2 hp2 hle2 o2 S => ?_)
  obtain ⟨v2, m2, b2, g0, g1, e1, e2, e3, e4, e5, e6⟩ := hp2
  have hO2 : z_O G H2 := hO.call hle2 o2 (fun x hx h => by have := hO.1; rcases h with h | h <;> omega)
  have hv2 : v2 ≠ a := by rcases e6 with h | h <;> omega
  have hv2A : v2 = v ∨ s.heap.size ≤ v2 := e6.imp id And.left
  refine lv_aload_n C.1 C.2.1 dJ5_append_3fe6f_10 rfl (lv_at hl 0 rfl) ?_
  refine k_callVC C S hO2 (u_clsO C.2.2.2.2.2.1 g0 cf_14.1) [] (k_isl1 l G a v2 (nI n) H2.size) rfl g0 kp_J5_isLatin1_aae02 (C.2.2.2.2.1 _ tw_4_208) tw_4_205 ⟨(Nat.le_of_ble_eq_true rfl), (Nat.le_of_ble_eq_true rfl)⟩ rfl rfl (Nat.le_of_ble_eq_true rfl) hl.1 ⟨(Nat.le_of_ble_eq_true rfl), (Nat.le_of_ble_eq_true rfl)⟩ dJ5_append_3fe6f_11 (fun _ h => h.elim) (fun H3 locs3 hz3 hle3 o3 S => ?_)
  have hO3 : z_O G H3 := hO2.call hle3 o3 (fun _ _ h => h)
  replace g0 := va_at.kept g0 (o3 _ g0.lt id)
  replace g1 := va_at.kept g1 (o3 _ g1.lt id)
  refine lv_if_eq (tgt := 45) C.1 C.2.1 dJ5_append_3fe6f_14 (by decide) (fun c_ => absurd c_ (by decide)) (fun c_ => ?_)
  refine lv_iload_n C.1 C.2.1 dJ5_append_3fe6f_17 rfl (lv_at hl 1 rfl) ?_
  refine k_callS C S hO3 [.int ch] (k_canen l G ch hch.1 H3.size) rfl trivial kv_J1_canEncode_fc78d tw_5_178 ⟨(Nat.le_of_ble_eq_true rfl), (Nat.le_of_ble_eq_true rfl)⟩ rfl rfl (Nat.le_of_ble_eq_true rfl) hl.1 ⟨(Nat.le_of_ble_eq_true rfl), (Nat.le_of_ble_eq_true rfl)⟩ dJ5_append_3fe6f_18 (fun _ h => h.elim) (fun H4 locs4 hz4 hle4 o4 S => ?_)
  replace g0 := va_at.kept g0 (o4 _ g0.lt id)
  replace g1 := va_at.kept g1 (o4 _ g1.lt id)
  refine lv_if_eq (tgt := 45) C.1 C.2.1 dJ5_append_3fe6f_21 (by decide) (fun c_ => absurd c_ (by decide)) (fun c_ => ?_)
  refine lv_aload_n C.1 C.2.1 dJ5_append_3fe6f_24 rfl (lv_at hl 0 rfl) ?_
  refine u_get C g0 cf_14 0 (by decide) rfl tw_4_160 dJ5_append_3fe6f_25 ?_
  refine lv_aload_n C.1 C.2.1 dJ5_append_3fe6f_28 rfl (lv_at hl 0 rfl) ?_
  refine lv_dup C.1 C.2.1 dJ5_append_3fe6f_29 rfl ?_
  refine u_get C g0 cf_14 3 (by decide) rfl tw_4_163 dJ5_append_3fe6f_30 ?_
  refine lv_dup_x1 C.1 C.2.1 dJ5_append_3fe6f_33 rfl rfl ?_
  refine lv_iconst (v := 1) C.1 C.2.1 dJ5_append_3fe6f_34 (by decide) ?_
  refine lv_iadd C.1 C.2.1 dJ5_append_3fe6f_35 ?_
  rw [show nI n + 1 = nI (n + 1) from (nI_succ n).symm]
  refine u_put C S g0 (Or.inl rfl) cf_14 3 (by decide) (Nat.le_of_ble_eq_true rfl) rfl rfl rfl tw_4_163 dJ5_append_3fe6f_36 (fun H5 locs5 z5 o5 g0 S => ?_)
  replace g1 := va_at.kept g1 (o5 _ hv2)
  refine lv_iload_n C.1 C.2.1 dJ5_append_3fe6f_39 rfl (lv_at hl 1 rfl) ?_
  refine lv_i2b (v := ch) C.1 C.2.1 dJ5_append_3fe6f_40 hch.2.1 ?_
  refine u_bast C S g1 (Or.inr hv2A) (i := nI n) (by rw [nI_clamp (by omega)]; exact fun q => q.elim (fun q => nI_pos (by omega) q) (fun q => by omega)) dJ5_append_3fe6f_41 (fun H6 locs6 z6 o6 g1 S => ?_)
  rw [nI_clamp (show n < 2 ^ 31 by omega), hch.2.2.1] at g1
  replace g0 := va_at.kept g0 (o6 _ (Ne.symm hv2))
  refine lv_goto (tgt := 75) C.1 C.2.1 dJ5_append_3fe6f_42 (by decide) ?_
  refine lv_aload_n C.1 C.2.1 dJ5_append_3fe6f_75 rfl (lv_at hl 0 rfl) ?_
  refine k_aret C S (Or.inl ⟨_, rfl⟩) (Or.inr ⟨_, rfl⟩) ⟨v2, ⟨g0, m2, _, g1, e2, e3, fun j hj => ?_, fun j hj => ?_⟩, e6.imp id (fun h => ⟨h.1, by omega⟩)⟩ (Nat.le_of_ble_eq_true rfl) (Nat.le_of_ble_eq_true rfl) dJ5_append_3fe6f_76
  · unfold upd t_cat
    by_cases c1 : j = n
    · rw [if_pos c1, if_neg (by omega)]
    · rw [if_neg c1, if_pos (by omega), e4 j (by omega), hbt j (by omega)]
  · unfold upd
    split
    · exact hch.2.2.2
    · exact e5 j hj
set_option maxHeartbeats 4000000 in
set_option maxRecDepth 100000 in
theorem k_appC (l : Launch) (G : Gx) (a v n : Nat) (ch : Int32) (t : Nat → Int32) (hn : n + 1 ≤ 240) (hch : ¬ 255 < ch ∧ ch.toInt8.toInt32 = ch ∧ vp_nar .byte ch = ch ∧ fits .byte (.int ch) = true) (hGa : G.2.2.1.size ≤ a) (hGv : G.2.2.1.size ≤ v) (hav : a ≠ v) (sz : Nat) : k_M l yJ4_append_cf468 cJ4_append_cf468 2 (Option.some (FieldType.object "java/lang/StringBuilder")) 5 112 1 500 G (fun H => k_sb G a v n t H) sz [.ref a, .int ch] (some (.ref a)) (fun H => ∃ v2 : Nat, k_sb G a v2 (n + 1) (t_cat t n (fun _ => ch)) H ∧ (v2 = v ∨ (sz ≤ v2 ∧ v2 < H.size))) (fun x => x = a ∨ x = v ∨ sz ≤ x) := by
  refine k_begin (by decide +kernel) (Nat.le_of_ble_eq_true rfl) [(0, .ref a), (1, .int ch)] rfl (fun p e s m args below meth c ls C hnm hsz hP hO hl => ?_)
  have S : va_S (fun x => x = a ∨ x = v ∨ sz ≤ x) s.heap s.heap [] := va_S.rf
  refine lv_aload_n C.1 C.2.1 dJ4_append_cf468_0 rfl (lv_at hl 0 rfl) ?_
  refine lv_iload_n C.1 C.2.1 dJ4_append_cf468_1 rfl (lv_at hl 1 rfl) ?_
  refine k_callSU C S hO (u_clsO C.2.2.2.2.2.1 hP.1 cf_14.1) (ci := 14) rfl [.int ch] (k_appC5 l G a v n ch t hn hch hGa hGv hav sz) hsz hP kp_J5_append_3fe6f (by decide) tw_7_196 tw_4_172 tw_5_175 ⟨(Nat.le_of_ble_eq_true rfl), (Nat.le_of_ble_eq_true rfl)⟩ rfl rfl (Nat.le_of_ble_eq_true rfl) hl.1 ⟨(Nat.le_of_ble_eq_true rfl), (Nat.le_of_ble_eq_true rfl)⟩ dJ4_append_cf468_2 (fun x h => h) (fun H1 locs1 hp1 hle1 o1 S => ?_)
  refine lv_pop C.1 C.2.1 dJ4_append_cf468_5 rfl ?_
  refine lv_aload_n C.1 C.2.1 dJ4_append_cf468_6 rfl (lv_at hl 0 rfl) ?_
  exact k_aret C S (Or.inl ⟨_, rfl⟩) (Or.inr ⟨_, rfl⟩) hp1 (Nat.le_of_ble_eq_true rfl) (Nat.le_of_ble_eq_true rfl) dJ4_append_cf468_7
