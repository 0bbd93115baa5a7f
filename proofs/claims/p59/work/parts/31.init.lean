/-! the law's constructor, whole -/
def g_ad0 (a : Nat) : Ad := fun k o => match k with
  | 40 => a
  | 50 => a + 1 + o
  | 46 => a + 4
  | 47 => a + 5
  | 48 => a + 6
  | _ => a
theorem g_lp0 {F : Int32} {k o : Nat} (h : lp (0, 0, 0, 0) (t_raw F) k o) : (k = 40 ∧ o = 0) ∨ (k = 50 ∧ o < 3) ∨ (k = 46 ∧ o = 0) ∨ (k = 47 ∧ o = 0) ∨ (k = 48 ∧ o = 0) := by
  unfold lp at h
  split at h
  · exact Or.inl ⟨rfl, h⟩
  · exact absurd h (Nat.not_lt_zero _)
  · exact absurd h (Nat.not_lt_zero _)
  · exact absurd h (Nat.not_lt_zero _)
  · exact absurd h (Nat.not_lt_zero _)
  · exact absurd h (Nat.not_lt_zero _)
  · exact Or.inr (Or.inr (Or.inl ⟨rfl, h⟩))
  · exact Or.inr (Or.inr (Or.inr (Or.inl ⟨rfl, h⟩)))
  · exact Or.inr (Or.inr (Or.inr (Or.inr ⟨rfl, h⟩)))
  · exact absurd (show _ < 0 from h) (Nat.not_lt_zero _)
  · refine Or.inr (Or.inl ⟨rfl, ?_⟩)
    rcases h with h | h
    · exact h
    · exact absurd (show (0 : Nat) = 1 from h.2) (by decide)
  · exact absurd h (Nat.not_lt_zero _)
  · exact absurd rfl h.2
  · exact h.elim
theorem g_ad0_ge (a : Nat) {F : Int32} {k o : Nat} (h : lp (0, 0, 0, 0) (t_raw F) k o) : a ≤ g_ad0 a k o := by
  rcases g_lp0 h with ⟨rfl, rfl⟩ | ⟨rfl, h⟩ | ⟨rfl, rfl⟩ | ⟨rfl, rfl⟩ | ⟨rfl, rfl⟩
  · exact Nat.le_refl a
  · show a ≤ a + 1 + o; omega
  · exact Nat.le_add_right a 4
  · exact Nat.le_add_right a 5
  · exact Nat.le_add_right a 6
theorem q_first {G : Gx} {x : Nat} {F : Int32} {H : Heap} (h0 : va_at G.1 z_cl (x, .inr (11, [.ref (x + 1), .ref (x + 2), .ref (x + 3), .int F, .ref (x + 4), .ref (x + 5), .ref (x + 6), .int 0, .int 0, .int 0, .int 0, .int 0, .int 30, .int 0])) H)
    (n1 : va_at G.1 z_cl (x + 1, e_al 0 (G.2.2.2 3) 0) H) (n2 : va_at G.1 z_cl (x + 2, e_al 0 (G.2.2.2 3) 0) H) (n3 : va_at G.1 z_cl (x + 3, e_al 0 (G.2.2.2 3) 0) H) (n4 : va_at G.1 z_cl (x + 4, .inl (G.2.1 0, 4, .inl (fun _ => 0))) H) (n5 : va_at G.1 z_cl (x + 5, .inl (G.2.1 0, 4, .inl (fun _ => 0))) H) (n6 : va_at G.1 z_cl (x + 6, .inl (G.2.1 0, 5, .inl (fun _ => 0))) H)
    (hGx : G.2.2.1.size ≤ x) (hO : z_O G H) : q_W G (g_ad0 x) (0, 0, 0, 0) (t_raw F) H := by
  refine ⟨fun k o h => ?_, fun k1 o1 k2 o2 h1 h2 he => ?_, fun k o h => Nat.le_trans hGx (g_ad0_ge x h), hO, fun o ho => ?_⟩
  · rcases g_lp0 h with ⟨rfl, rfl⟩ | ⟨rfl, h⟩ | ⟨rfl, rfl⟩ | ⟨rfl, rfl⟩ | ⟨rfl, rfl⟩
    · exact h0
    · rcases (show o = 0 ∨ o = 1 ∨ o = 2 by omega) with rfl | rfl | rfl
      · exact n1
      · exact n2
      · exact n3
    · exact n4
    · exact n5
    · exact n6
  · rcases g_lp0 h1 with ⟨rfl, rfl⟩ | ⟨rfl, h1⟩ | ⟨rfl, rfl⟩ | ⟨rfl, rfl⟩ | ⟨rfl, rfl⟩ <;> rcases g_lp0 h2 with ⟨rfl, rfl⟩ | ⟨rfl, h2⟩ | ⟨rfl, rfl⟩ | ⟨rfl, rfl⟩ | ⟨rfl, rfl⟩ <;> simp only [g_ad0] at he <;> first | exact ⟨rfl, rfl⟩ | omega | exact ⟨rfl, by omega⟩
  · exact ⟨rfl, Nat.le_refl _, Nat.zero_le _, Or.inl rfl, Nat.zero_le _⟩
set_option maxHeartbeats 4000000 in
set_option maxRecDepth 100000 in
theorem m_L_init (l : Launch) (G : Gx) (a sa ns nc : Nat) (w : Nat → Int32) (hns : ns < 2147483648) (hS : x_S G sa ns w) (hGa : G.2.2.1.size ≤ a) (hF0 : ¬ 4 + jbits (t_cell ns w 0) 0 3 = 0) (hF1 : ¬ 4 + jbits (t_cell ns w 0) 0 3 - 1 = 0) (hnc : nc < 10) (hnc3 : nc ≤ 3) (hx : 2 + jbits (t_cell ns w 0) 27 1 = nI nc) : k_M l yL_init cL_init 6 none 7 157 80 (6 * 80) G (fun H => va_at G.1 z_cl (a, .inr (11, [.null, .null, .null, .int 0, .null, .null, .null, .int 0, .int 0, .int 0, .int 0, .int 0, .int 0, .int 0])) H) (a + 1) [.ref a, .ref sa] none (fun H => ∃ ad : Ad, ad 40 0 = a ∧ q_W G ad (nc, 4, 0, 0) (g_init ns w nc) H ∧ ∀ k o, lp (nc, 4, 0, 0) (g_init ns w nc) k o → a ≤ ad k o) (fun q => a ≤ q) := by
  refine k_begin (by decide +kernel) (Nat.le_of_ble_eq_true rfl) [(0, .ref a), (1, .ref sa)] rfl (fun p e s m args below meth c ls C hnm hsz hP hO hl => ?_)
  have S : va_S (fun q => a ≤ q) s.heap s.heap [] := va_S.rf
  have hz : s.heap.size = a + 1 := hsz
  generalize hx0 : t_cell ns w 0 = x at hF0 hF1 hx
  have h0 := hP
  clear hP
  refine lv_aload_n C.1 C.2.1 dL_init_0 rfl (lv_at hl 0 rfl) ?_
  refine u_obj C tw_3_129 hl.1 (Nat.le_of_ble_eq_true rfl) (Nat.le_of_ble_eq_true rfl) dL_init_1 ?_
  refine lv_aload_n C.1 C.2.1 dL_init_4 rfl (lv_at hl 0 rfl) ?_
  refine u_newO C S cf_12 tw_3_130 tw_3_131 tw_1_3 (fs := [.int 0, .null, .int 0]) (fun j hj => by rcases (show j = 0 ∨ j = 1 ∨ j = 2 by omega) with rfl | rfl | rfl <;> rfl) (Nat.le_of_ble_eq_true rfl) (Nat.le_of_ble_eq_true rfl) dL_init_5 (fun H z9 o9 n9 S => ?_)
  replace h0 := va_at.kept h0 (o9 _ (by omega))
  replace hO := hO.grow z9 o9
  rw [hz] at n9 z9
  rw [hz]
  clear o9 hz
  refine lv_dup C.1 C.2.1 dL_init_8 rfl ?_
  refine k_callI C S hO [] (k_alinit l G (a + 1) (by omega) (a + 1 + 1)) z9 n9 kv_Jx4a65c_init_da8c8 tw_3_132 ⟨(Nat.le_of_ble_eq_true rfl), (Nat.le_of_ble_eq_true rfl)⟩ rfl rfl (Nat.le_of_ble_eq_true rfl) hl.1 ⟨(Nat.le_of_ble_eq_true rfl), (Nat.le_of_ble_eq_true rfl)⟩ dL_init_9 (fun q h => by rw [h]; exact Nat.le_add_right a _) (fun H locs hp9 hle9 ok9 S => ?_)
  replace h0 := va_at.kept h0 (ok9 _ (by omega) (by omega))
  replace hO := hO.call hle9 ok9 (fun q hq h => by omega)
  obtain ⟨hz, n1⟩ := hp9
  clear hle9 ok9 n9
  replace hz : H.size = a + 2 := hz
  refine u_putF C (hnm.trans rfl) S h0 (Nat.le_refl a) cf_11 0 (by decide) (Nat.le_of_ble_eq_true rfl) rfl rfl rfl rfl tw_4_96 dL_init_12 (fun H locs z9 o9 h0 S => ?_)
  replace h0 : va_at G.1 z_cl (a, .inr (11, [.ref (a + 1), .null, .null, .int 0, .null, .null, .null, .int 0, .int 0, .int 0, .int 0, .int 0, .int 0, .int 0])) H := h0
  replace n1 := va_at.kept n1 (o9 _ (by omega))
  replace hO := hO.put z9 o9 hGa
  replace hz : H.size = a + 2 := z9.trans hz
  clear z9 o9
  refine lv_aload_n C.1 C.2.1 dL_init_15 rfl (lv_at hl 0 rfl) ?_
  refine u_newO C S cf_12 tw_3_130 tw_3_131 tw_1_3 (fs := [.int 0, .null, .int 0]) (fun j hj => by rcases (show j = 0 ∨ j = 1 ∨ j = 2 by omega) with rfl | rfl | rfl <;> rfl) (Nat.le_of_ble_eq_true rfl) (Nat.le_of_ble_eq_true rfl) dL_init_16 (fun H z9 o9 n9 S => ?_)
  replace h0 := va_at.kept h0 (o9 _ (by omega))
  replace n1 := va_at.kept n1 (o9 _ (by omega))
  replace hO := hO.grow z9 o9
  rw [hz] at n9 z9
  rw [hz]
  clear o9 hz
  refine lv_dup C.1 C.2.1 dL_init_19 rfl ?_
  refine k_callI C S hO [] (k_alinit l G (a + 2) (by omega) (a + 2 + 1)) z9 n9 kv_Jx4a65c_init_da8c8 tw_3_132 ⟨(Nat.le_of_ble_eq_true rfl), (Nat.le_of_ble_eq_true rfl)⟩ rfl rfl (Nat.le_of_ble_eq_true rfl) hl.1 ⟨(Nat.le_of_ble_eq_true rfl), (Nat.le_of_ble_eq_true rfl)⟩ dL_init_20 (fun q h => by rw [h]; exact Nat.le_add_right a _) (fun H locs hp9 hle9 ok9 S => ?_)
  replace h0 := va_at.kept h0 (ok9 _ (by omega) (by omega))
  replace n1 := va_at.kept n1 (ok9 _ (by omega) (by omega))
  replace hO := hO.call hle9 ok9 (fun q hq h => by omega)
  obtain ⟨hz, n2⟩ := hp9
  clear hle9 ok9 n9
  replace hz : H.size = a + 3 := hz
  refine u_putF C (hnm.trans rfl) S h0 (Nat.le_refl a) cf_11 1 (by decide) (Nat.le_of_ble_eq_true rfl) rfl rfl rfl rfl tw_4_97 dL_init_23 (fun H locs z9 o9 h0 S => ?_)
  replace h0 : va_at G.1 z_cl (a, .inr (11, [.ref (a + 1), .ref (a + 2), .null, .int 0, .null, .null, .null, .int 0, .int 0, .int 0, .int 0, .int 0, .int 0, .int 0])) H := h0
  replace n1 := va_at.kept n1 (o9 _ (by omega))
  replace n2 := va_at.kept n2 (o9 _ (by omega))
  replace hO := hO.put z9 o9 hGa
  replace hz : H.size = a + 3 := z9.trans hz
  clear z9 o9
  refine lv_aload_n C.1 C.2.1 dL_init_26 rfl (lv_at hl 0 rfl) ?_
  refine u_newO C S cf_12 tw_3_130 tw_3_131 tw_1_3 (fs := [.int 0, .null, .int 0]) (fun j hj => by rcases (show j = 0 ∨ j = 1 ∨ j = 2 by omega) with rfl | rfl | rfl <;> rfl) (Nat.le_of_ble_eq_true rfl) (Nat.le_of_ble_eq_true rfl) dL_init_27 (fun H z9 o9 n9 S => ?_)
  replace h0 := va_at.kept h0 (o9 _ (by omega))
  replace n1 := va_at.kept n1 (o9 _ (by omega))
  replace n2 := va_at.kept n2 (o9 _ (by omega))
  replace hO := hO.grow z9 o9
  rw [hz] at n9 z9
  rw [hz]
  clear o9 hz
  refine lv_dup C.1 C.2.1 dL_init_30 rfl ?_
  refine k_callI C S hO [] (k_alinit l G (a + 3) (by omega) (a + 3 + 1)) z9 n9 kv_Jx4a65c_init_da8c8 tw_3_132 ⟨(Nat.le_of_ble_eq_true rfl), (Nat.le_of_ble_eq_true rfl)⟩ rfl rfl (Nat.le_of_ble_eq_true rfl) hl.1 ⟨(Nat.le_of_ble_eq_true rfl), (Nat.le_of_ble_eq_true rfl)⟩ dL_init_31 (fun q h => by rw [h]; exact Nat.le_add_right a _) (fun H locs hp9 hle9 ok9 S => ?_)
  replace h0 := va_at.kept h0 (ok9 _ (by omega) (by omega))
  replace n1 := va_at.kept n1 (ok9 _ (by omega) (by omega))
  replace n2 := va_at.kept n2 (ok9 _ (by omega) (by omega))
  replace hO := hO.call hle9 ok9 (fun q hq h => by omega)
  obtain ⟨hz, n3⟩ := hp9
  clear hle9 ok9 n9
  replace hz : H.size = a + 4 := hz
  refine u_put C S h0 (Nat.le_refl a) cf_11 2 (by decide) (Nat.le_of_ble_eq_true rfl) rfl rfl rfl tw_4_98 dL_init_34 (fun H locs z9 o9 h0 S => ?_)
  replace h0 : va_at G.1 z_cl (a, .inr (11, [.ref (a + 1), .ref (a + 2), .ref (a + 3), .int 0, .null, .null, .null, .int 0, .int 0, .int 0, .int 0, .int 0, .int 0, .int 0])) H := h0
  replace n1 := va_at.kept n1 (o9 _ (by omega))
  replace n2 := va_at.kept n2 (o9 _ (by omega))
  replace n3 := va_at.kept n3 (o9 _ (by omega))
  replace hO := hO.put z9 o9 hGa
  replace hz : H.size = a + 4 := z9.trans hz
  clear z9 o9
  refine lv_aload_n C.1 C.2.1 dL_init_37 rfl (lv_at hl 0 rfl) ?_
  refine lv_iconst (v := 4) C.1 C.2.1 dL_init_38 (by decide) ?_
  refine u_newI C S 4 (by decide) (by decide) (Nat.le_of_ble_eq_true rfl) (Nat.le_of_ble_eq_true rfl) (Nat.le_of_ble_eq_true rfl) dL_init_39 (fun H z9 o9 n4 S => ?_)
  replace h0 := va_at.kept h0 (o9 _ (by omega))
  replace n1 := va_at.kept n1 (o9 _ (by omega))
  replace n2 := va_at.kept n2 (o9 _ (by omega))
  replace n3 := va_at.kept n3 (o9 _ (by omega))
  replace hO := hO.grow z9 o9
  rw [hz] at n4 z9
  rw [hz]
  clear o9 hz
  have hz : H.size = a + 5 := z9
  clear z9
  refine u_putF C (hnm.trans rfl) S h0 (Nat.le_refl a) cf_11 4 (by decide) (Nat.le_of_ble_eq_true rfl) rfl rfl rfl rfl tw_4_100 dL_init_41 (fun H locs z9 o9 h0 S => ?_)
  replace h0 : va_at G.1 z_cl (a, .inr (11, [.ref (a + 1), .ref (a + 2), .ref (a + 3), .int 0, .ref (a + 4), .null, .null, .int 0, .int 0, .int 0, .int 0, .int 0, .int 0, .int 0])) H := h0
  replace n1 := va_at.kept n1 (o9 _ (by omega))
  replace n2 := va_at.kept n2 (o9 _ (by omega))
  replace n3 := va_at.kept n3 (o9 _ (by omega))
  replace n4 := va_at.kept n4 (o9 _ (by omega))
  replace hO := hO.put z9 o9 hGa
  replace hz : H.size = a + 5 := z9.trans hz
  clear z9 o9
  refine lv_aload_n C.1 C.2.1 dL_init_44 rfl (lv_at hl 0 rfl) ?_
  refine lv_iconst (v := 4) C.1 C.2.1 dL_init_45 (by decide) ?_
  refine u_newI C S 4 (by decide) (by decide) (Nat.le_of_ble_eq_true rfl) (Nat.le_of_ble_eq_true rfl) (Nat.le_of_ble_eq_true rfl) dL_init_46 (fun H z9 o9 n5 S => ?_)
  replace h0 := va_at.kept h0 (o9 _ (by omega))
  replace n1 := va_at.kept n1 (o9 _ (by omega))
  replace n2 := va_at.kept n2 (o9 _ (by omega))
  replace n3 := va_at.kept n3 (o9 _ (by omega))
  replace n4 := va_at.kept n4 (o9 _ (by omega))
  replace hO := hO.grow z9 o9
  rw [hz] at n5 z9
  rw [hz]
  clear o9 hz
  have hz : H.size = a + 6 := z9
  clear z9
  refine u_putF C (hnm.trans rfl) S h0 (Nat.le_refl a) cf_11 5 (by decide) (Nat.le_of_ble_eq_true rfl) rfl rfl rfl rfl tw_4_101 dL_init_48 (fun H locs z9 o9 h0 S => ?_)
  replace h0 : va_at G.1 z_cl (a, .inr (11, [.ref (a + 1), .ref (a + 2), .ref (a + 3), .int 0, .ref (a + 4), .ref (a + 5), .null, .int 0, .int 0, .int 0, .int 0, .int 0, .int 0, .int 0])) H := h0
  replace n1 := va_at.kept n1 (o9 _ (by omega))
  replace n2 := va_at.kept n2 (o9 _ (by omega))
  replace n3 := va_at.kept n3 (o9 _ (by omega))
  replace n4 := va_at.kept n4 (o9 _ (by omega))
  replace n5 := va_at.kept n5 (o9 _ (by omega))
  replace hO := hO.put z9 o9 hGa
  replace hz : H.size = a + 6 := z9.trans hz
  clear z9 o9
  refine lv_aload_n C.1 C.2.1 dL_init_51 rfl (lv_at hl 0 rfl) ?_
  refine lv_iconst (v := 5) C.1 C.2.1 dL_init_52 (by decide) ?_
  refine u_newI C S 5 (by decide) (by decide) (Nat.le_of_ble_eq_true rfl) (Nat.le_of_ble_eq_true rfl) (Nat.le_of_ble_eq_true rfl) dL_init_53 (fun H z9 o9 n6 S => ?_)
  replace h0 := va_at.kept h0 (o9 _ (by omega))
  replace n1 := va_at.kept n1 (o9 _ (by omega))
  replace n2 := va_at.kept n2 (o9 _ (by omega))
  replace n3 := va_at.kept n3 (o9 _ (by omega))
  replace n4 := va_at.kept n4 (o9 _ (by omega))
  replace n5 := va_at.kept n5 (o9 _ (by omega))
  replace hO := hO.grow z9 o9
  rw [hz] at n6 z9
  rw [hz]
  clear o9 hz
  have hz : H.size = a + 7 := z9
  clear z9
  refine u_putF C (hnm.trans rfl) S h0 (Nat.le_refl a) cf_11 6 (by decide) (Nat.le_of_ble_eq_true rfl) rfl rfl rfl rfl tw_4_102 dL_init_55 (fun H locs z9 o9 h0 S => ?_)
  replace h0 : va_at G.1 z_cl (a, .inr (11, [.ref (a + 1), .ref (a + 2), .ref (a + 3), .int 0, .ref (a + 4), .ref (a + 5), .ref (a + 6), .int 0, .int 0, .int 0, .int 0, .int 0, .int 0, .int 0])) H := h0
  replace n1 := va_at.kept n1 (o9 _ (by omega))
  replace n2 := va_at.kept n2 (o9 _ (by omega))
  replace n3 := va_at.kept n3 (o9 _ (by omega))
  replace n4 := va_at.kept n4 (o9 _ (by omega))
  replace n5 := va_at.kept n5 (o9 _ (by omega))
  replace n6 := va_at.kept n6 (o9 _ (by omega))
  replace hO := hO.put z9 o9 hGa
  replace hz : H.size = a + 7 := z9.trans hz
  clear z9 o9
  refine lv_aload_n C.1 C.2.1 dL_init_58 rfl (lv_at hl 0 rfl) ?_
  refine lv_bipush (v := 30) C.1 C.2.1 dL_init_59 (by decide) ?_
  refine u_put C S h0 (Nat.le_refl a) cf_11 12 (by decide) (Nat.le_of_ble_eq_true rfl) rfl rfl rfl tw_4_108 dL_init_61 (fun H locs z9 o9 h0 S => ?_)
  replace h0 : va_at G.1 z_cl (a, .inr (11, [.ref (a + 1), .ref (a + 2), .ref (a + 3), .int 0, .ref (a + 4), .ref (a + 5), .ref (a + 6), .int 0, .int 0, .int 0, .int 0, .int 0, .int 30, .int 0])) H := h0
  replace n1 := va_at.kept n1 (o9 _ (by omega))
  replace n2 := va_at.kept n2 (o9 _ (by omega))
  replace n3 := va_at.kept n3 (o9 _ (by omega))
  replace n4 := va_at.kept n4 (o9 _ (by omega))
  replace n5 := va_at.kept n5 (o9 _ (by omega))
  replace n6 := va_at.kept n6 (o9 _ (by omega))
  replace hO := hO.put z9 o9 hGa
  replace hz : H.size = a + 7 := z9.trans hz
  clear z9 o9
  refine lv_aload_n C.1 C.2.1 dL_init_64 rfl (lv_at hl 1 rfl) ?_
  refine lv_iconst (v := 0) C.1 C.2.1 dL_init_65 (by decide) ?_
  refine k_callS C S hO [.ref sa, .int (nI 0)] (k_cell l G sa ns 0 w hns (by decide) H.size) rfl hS kv_L_cell tw_3_104 ⟨(Nat.le_of_ble_eq_true rfl), (Nat.le_of_ble_eq_true rfl)⟩ rfl rfl (Nat.le_of_ble_eq_true rfl) hl.1 ⟨(Nat.le_of_ble_eq_true rfl), (Nat.le_of_ble_eq_true rfl)⟩ dL_init_66 (fun _ h => h.elim) (fun H locs z9 hle9 ok9 S => ?_)
  replace h0 := va_at.kept h0 (ok9 _ (by omega) id)
  replace n1 := va_at.kept n1 (ok9 _ (by omega) id)
  replace n2 := va_at.kept n2 (ok9 _ (by omega) id)
  replace n3 := va_at.kept n3 (ok9 _ (by omega) id)
  replace n4 := va_at.kept n4 (ok9 _ (by omega) id)
  replace n5 := va_at.kept n5 (ok9 _ (by omega) id)
  replace n6 := va_at.kept n6 (ok9 _ (by omega) id)
  replace hO := hO.call hle9 ok9 (fun _ _ h => h)
  replace hz : H.size = a + 7 := z9.trans hz
  clear z9 hle9 ok9
  rw [hx0]
  refine lv_istore_n (lv' := [(2, .int x), (0, .ref a), (1, .ref sa)]) C.1 C.2.1 dL_init_69 rfl hl (by decide) rfl (fun ls hl => ?_)
  refine lv_aload_n C.1 C.2.1 dL_init_70 rfl (lv_at hl 1 rfl) ?_
  refine lv_iconst (v := 4) C.1 C.2.1 dL_init_71 (by decide) ?_
  refine lv_iload_n C.1 C.2.1 dL_init_72 rfl (lv_at hl 0 rfl) ?_
  refine lv_iconst (v := 0) C.1 C.2.1 dL_init_73 (by decide) ?_
  refine lv_iconst (v := 3) C.1 C.2.1 dL_init_74 (by decide) ?_
  refine k_callS C S hO [.int x, .int 0, .int 3] (k_bits l G _ _ _ H.size) rfl trivial kv_L_bits tw_3_159 ⟨(Nat.le_of_ble_eq_true rfl), (Nat.le_of_ble_eq_true rfl)⟩ rfl rfl (Nat.le_of_ble_eq_true rfl) hl.1 ⟨(Nat.le_of_ble_eq_true rfl), (Nat.le_of_ble_eq_true rfl)⟩ dL_init_75 (fun _ h => h.elim) (fun H locs z9 hle9 ok9 S => ?_)
  replace h0 := va_at.kept h0 (ok9 _ (by omega) id)
  replace n1 := va_at.kept n1 (ok9 _ (by omega) id)
  replace n2 := va_at.kept n2 (ok9 _ (by omega) id)
  replace n3 := va_at.kept n3 (ok9 _ (by omega) id)
  replace n4 := va_at.kept n4 (ok9 _ (by omega) id)
  replace n5 := va_at.kept n5 (ok9 _ (by omega) id)
  replace n6 := va_at.kept n6 (ok9 _ (by omega) id)
  replace hO := hO.call hle9 ok9 (fun _ _ h => h)
  replace hz : H.size = a + 7 := z9.trans hz
  clear z9 hle9 ok9
  refine lv_iadd C.1 C.2.1 dL_init_78 ?_
  refine u_putF C (hnm.trans rfl) S h0 (Nat.le_refl a) cf_11 3 (by decide) (Nat.le_of_ble_eq_true rfl) rfl rfl rfl rfl tw_4_99 dL_init_79 (fun H locs z9 o9 h0 S => ?_)
  replace h0 : va_at G.1 z_cl (a, .inr (11, [.ref (a + 1), .ref (a + 2), .ref (a + 3), .int (4 + jbits x 0 3), .ref (a + 4), .ref (a + 5), .ref (a + 6), .int 0, .int 0, .int 0, .int 0, .int 0, .int 30, .int 0])) H := h0
  replace n1 := va_at.kept n1 (o9 _ (by omega))
  replace n2 := va_at.kept n2 (o9 _ (by omega))
  replace n3 := va_at.kept n3 (o9 _ (by omega))
  replace n4 := va_at.kept n4 (o9 _ (by omega))
  replace n5 := va_at.kept n5 (o9 _ (by omega))
  replace n6 := va_at.kept n6 (o9 _ (by omega))
  replace hO := hO.put z9 o9 hGa
  replace hz : H.size = a + 7 := z9.trans hz
  clear z9 o9
  have W0 : q_W G (g_ad0 a) (0, 0, 0, 0) (t_raw (4 + jbits x 0 3)) H := q_first (x := a) h0 n1 n2 n3 n4 n5 n6 hGa hO
  have S0 : q_S G (g_ad0 a) (0, 0, 0, 0) x_0 (t_raw (4 + jbits x 0 3)) [] (fun q => a ≤ q) s.heap H locs := ⟨⟨_, fun _ _ _ => rfl, W0, fun k o h => g_ad0_ge a h, fun x hx => absurd hx List.not_mem_nil, q_X0 _ _ _ _⟩, S, fun q hq => by omega⟩
  clear W0 S h0 n1 n2 n3 n4 n5 n6 hO hz
  have S := S0
  clear S0
  refine W.widen (k := 6) (n := 6 * 6) (Nat.le_of_ble_eq_true rfl) (Nat.le_of_ble_eq_true rfl) ?_
  replace hl : lv_has ls 6 [(2, .int x), (0, .ref (g_ad0 a 40 0)), (1, .ref sa)] := hl
  have k105 : ∀ (H : Heap) (locs : List Loc), q_S G (g_ad0 a) (0, 0, 0, 0) x_0 (t_raw (4 + jbits x 0 3)) [] (fun q => a ≤ q) s.heap H locs → W p l e { frames := 7, cells := 80, slots := 6 * 80, locals := 157 } s m args below meth c H locs 6 (6 * 6) (MQ below (k_Q none (fun H => ∃ ad : Ad, ad 40 0 = a ∧ q_W G ad (nc, 4, 0, 0) (g_init ns w nc) H ∧ ∀ k o, lp (nc, 4, 0, 0) (g_init ns w nc) k o → a ≤ ad k o) (fun q => a ≤ q)) args s 80 (6 * 80) (fun q => a ≤ q)) (F0 m 105 ls [.int (t_noi x), .ref (g_ad0 a 40 0)]) := by
    intro H locs S
    refine q_putI C S 40 0 8 rfl rfl rfl cf_11 8 (by decide) (qp_40_8 G _ 0 _) rfl rfl rfl tw_4_104 dL_init_105 (fun H locs S => ?_)
    refine lv_aload_n C.1 C.2.1 dL_init_108 rfl (lv_at hl 1 rfl) ?_
    refine lv_iconst (v := 3) C.1 C.2.1 dL_init_109 (by decide) ?_
    refine lv_iload_n C.1 C.2.1 dL_init_110 rfl (lv_at hl 0 rfl) ?_
    refine lv_bipush (v := 9) C.1 C.2.1 dL_init_111 (by decide) ?_
    refine lv_iconst (v := 2) C.1 C.2.1 dL_init_113 (by decide) ?_
    refine q_callK C S [.int x, .int 9, .int 2] (k_bits l G _ _ _ _) kv_L_bits tw_3_159 ⟨(Nat.le_of_ble_eq_true rfl), (Nat.le_of_ble_eq_true rfl)⟩ rfl rfl (Nat.le_of_ble_eq_true rfl) hl.1 ⟨(Nat.le_of_ble_eq_true rfl), (Nat.le_of_ble_eq_true rfl)⟩ dL_init_114 (fun H locs S => ?_)
    refine lv_iadd C.1 C.2.1 dL_init_117 ?_
    refine q_putI C S 40 0 9 rfl rfl rfl cf_11 9 (by decide) (qp_40_9 G _ 0 _) rfl rfl rfl tw_4_105 dL_init_118 (fun H locs S => ?_)
    refine lv_aload_n C.1 C.2.1 dL_init_121 rfl (lv_at hl 1 rfl) ?_
    refine lv_iload_n C.1 C.2.1 dL_init_122 rfl (lv_at hl 0 rfl) ?_
    refine lv_bipush (v := 11) C.1 C.2.1 dL_init_123 (by decide) ?_
    refine lv_iconst (v := 2) C.1 C.2.1 dL_init_125 (by decide) ?_
    refine q_callK C S [.int x, .int 11, .int 2] (k_bits l G _ _ _ _) kv_L_bits tw_3_159 ⟨(Nat.le_of_ble_eq_true rfl), (Nat.le_of_ble_eq_true rfl)⟩ rfl rfl (Nat.le_of_ble_eq_true rfl) hl.1 ⟨(Nat.le_of_ble_eq_true rfl), (Nat.le_of_ble_eq_true rfl)⟩ dL_init_126 (fun H locs S => ?_)
    refine q_putI C S 40 0 10 rfl rfl rfl cf_11 10 (by decide) (qp_40_10 G _ 0 _) rfl rfl rfl tw_4_106 dL_init_129 (fun H locs S => ?_)
    refine lv_aload_n C.1 C.2.1 dL_init_132 rfl (lv_at hl 1 rfl) ?_
    refine lv_iload_n C.1 C.2.1 dL_init_133 rfl (lv_at hl 0 rfl) ?_
    refine lv_bipush (v := 13) C.1 C.2.1 dL_init_134 (by decide) ?_
    refine lv_iconst (v := 2) C.1 C.2.1 dL_init_136 (by decide) ?_
    refine q_callK C S [.int x, .int 13, .int 2] (k_bits l G _ _ _ _) kv_L_bits tw_3_159 ⟨(Nat.le_of_ble_eq_true rfl), (Nat.le_of_ble_eq_true rfl)⟩ rfl rfl (Nat.le_of_ble_eq_true rfl) hl.1 ⟨(Nat.le_of_ble_eq_true rfl), (Nat.le_of_ble_eq_true rfl)⟩ dL_init_137 (fun H locs S => ?_)
    refine q_putI C S 40 0 11 rfl rfl rfl cf_11 11 (by decide) (qp_40_11 G _ 0 _) rfl rfl rfl tw_4_107 dL_init_140 (fun H locs S => ?_)
    refine lv_aload_n C.1 C.2.1 dL_init_143 rfl (lv_at hl 1 rfl) ?_
    refine lv_iload_n C.1 C.2.1 dL_init_144 rfl (lv_at hl 0 rfl) ?_
    refine lv_bipush (v := 15) C.1 C.2.1 dL_init_145 (by decide) ?_
    refine lv_bipush (v := 12) C.1 C.2.1 dL_init_147 (by decide) ?_
    refine q_callK C S [.int x, .int 15, .int 12] (k_bits l G _ _ _ _) kv_L_bits tw_3_159 ⟨(Nat.le_of_ble_eq_true rfl), (Nat.le_of_ble_eq_true rfl)⟩ rfl rfl (Nat.le_of_ble_eq_true rfl) hl.1 ⟨(Nat.le_of_ble_eq_true rfl), (Nat.le_of_ble_eq_true rfl)⟩ dL_init_149 (fun H locs S => ?_)
    refine q_putI C S 40 0 13 rfl rfl rfl cf_11 13 (by decide) (qp_40_13 G _ 0 _) rfl rfl rfl tw_4_109 dL_init_152 (fun H locs S => ?_)
    refine lv_iconst (v := 0) C.1 C.2.1 dL_init_155 (by decide) ?_
    refine lv_istore_n (lv' := [(3, .int 0), (2, .int x), (0, .ref (g_ad0 a 40 0)), (1, .ref sa)]) C.1 C.2.1 dL_init_156 rfl hl (by decide) rfl (fun ls hl => ?_)
    refine w_L_init_157 (R := { frames := 7, cells := 80, slots := 6 * 80, locals := 157 }) (x := x) (a := a) hns hS hF0 hnc hx ⟨(Nat.le_of_ble_eq_true rfl), (Nat.le_of_ble_eq_true rfl)⟩ C nc 0 (by omega) (g_ad0 a) (t_base x) H locs ls 6 S rfl (lv_sub hl [2, 3, 1, 0] rfl) rfl rfl rfl rfl rfl (by show 6 + 2 * nc + 10 + 50 ≤ 80; omega) (Nat.le_of_ble_eq_true rfl) (fun ad τ' H locs ls cells hτ S ha hl hn1 hc1 hF hcs => ?_)
    refine lv_iconst (v := 0) C.1 C.2.1 dL_init_237 (by decide) ?_
    refine lv_istore_n (lv' := [(3, .int 0), (0, .ref (ad 40 0)), (1, .ref sa)]) C.1 C.2.1 dL_init_238 rfl hl (by decide) rfl (fun ls hl => ?_)
    refine w_L_init_239 (R := { frames := 7, cells := 80, slots := 6 * 80, locals := 157 }) (a := a) hns hS hF0 hF1 ⟨(Nat.le_of_ble_eq_true rfl), (Nat.le_of_ble_eq_true rfl)⟩ C 4 0 rfl ad τ' H locs ls cells S ha (lv_sub hl [1, 2, 0] rfl) hn1 (hc1.trans (if_pos rfl).symm) hF (by show cells + 10 * 4 + 10 ≤ 80; exact hcs) (Nat.le_of_ble_eq_true rfl) (fun ad H locs ls cells S ha hcs => ?_)
    obtain ⟨⟨ad', he, V, aa, -⟩, S1, -⟩ := S
    refine k_vret C S1 ⟨ad', (he 40 0 rfl).trans ha, ?_, ?_⟩ hcs (Nat.mul_le_mul_left 6 hcs) dL_init_324
    · rw [hτ] at V; unfold g_init; rw [hx0]; exact V
    · rw [hτ] at aa; unfold g_init; rw [hx0]; exact aa
  refine lv_aload_n C.1 C.2.1 dL_init_82 rfl (lv_at hl 1 rfl) ?_
  refine lv_iload_n C.1 C.2.1 dL_init_83 rfl (lv_at hl 0 rfl) ?_
  refine lv_iconst (v := 3) C.1 C.2.1 dL_init_84 (by decide) ?_
  refine lv_iconst (v := 1) C.1 C.2.1 dL_init_85 (by decide) ?_
  refine q_callK C S [.int x, .int 3, .int 1] (k_bits l G _ _ _ _) kv_L_bits tw_3_159 ⟨(Nat.le_of_ble_eq_true rfl), (Nat.le_of_ble_eq_true rfl)⟩ rfl rfl (Nat.le_of_ble_eq_true rfl) hl.1 ⟨(Nat.le_of_ble_eq_true rfl), (Nat.le_of_ble_eq_true rfl)⟩ dL_init_86 (fun H locs S => ?_)
  refine lv_if_ne (tgt := 96) C.1 C.2.1 dL_init_89 (by decide) (fun cn => ?_) (fun cn => ?_)
  · refine lv_bipush (v := 10) C.1 C.2.1 dL_init_96 (by decide) ?_
    refine lv_iload_n C.1 C.2.1 dL_init_98 rfl (lv_at hl 0 rfl) ?_
    refine lv_iconst (v := 4) C.1 C.2.1 dL_init_99 (by decide) ?_
    refine lv_iconst (v := 5) C.1 C.2.1 dL_init_100 (by decide) ?_
    refine q_callK C S [.int x, .int 4, .int 5] (k_bits l G _ _ _ _) kv_L_bits tw_3_159 ⟨(Nat.le_of_ble_eq_true rfl), (Nat.le_of_ble_eq_true rfl)⟩ rfl rfl (Nat.le_of_ble_eq_true rfl) hl.1 ⟨(Nat.le_of_ble_eq_true rfl), (Nat.le_of_ble_eq_true rfl)⟩ dL_init_101 (fun H locs S => ?_)
    refine lv_iadd C.1 C.2.1 dL_init_104 ?_
    rw [show 10 + jbits x 4 5 = t_noi x from (if_neg cn).symm]
    exact k105 H locs S
  · refine lv_iconst (v := 0) C.1 C.2.1 dL_init_92 (by decide) ?_
    refine lv_goto (tgt := 105) C.1 C.2.1 dL_init_93 (by decide) ?_
    have k9 := k105 H locs S
    rw [show t_noi x = 0 from if_pos cn] at k9
    exact k9
