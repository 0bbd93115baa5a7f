theorem dX8_clear_0 : decode cX8_clear 0 = .ok (.iconst 0, 1) := by decide +kernel
theorem dX8_clear_1 : decode cX8_clear 1 = .ok (.istore_n 1, 1) := by decide +kernel
theorem dX8_clear_2 : decode cX8_clear 2 = .ok (.iload_n 1, 1) := by decide +kernel
theorem dX8_clear_3 : decode cX8_clear 3 = .ok (.sipush 2111, 3) := by decide +kernel
theorem dX8_clear_6 : decode cX8_clear 6 = .ok (.if_icmp .ge 16, 3) := by decide +kernel
theorem dX8_clear_9 : decode cX8_clear 9 = .ok (.aload_n 0, 1) := by decide +kernel
theorem dX8_clear_10 : decode cX8_clear 10 = .ok (.getfield 7, 3) := by decide +kernel
theorem dX8_clear_13 : decode cX8_clear 13 = .ok (.iload_n 1, 1) := by decide +kernel
theorem dX8_clear_14 : decode cX8_clear 14 = .ok (.iconst 0, 1) := by decide +kernel
theorem dX8_clear_15 : decode cX8_clear 15 = .ok (.iastore, 1) := by decide +kernel
theorem dX8_clear_16 : decode cX8_clear 16 = .ok (.iinc 1 1, 3) := by decide +kernel
theorem dX8_clear_19 : decode cX8_clear 19 = .ok (.goto (-17), 3) := by decide +kernel
theorem dX8_clear_22 : decode cX8_clear 22 = .ok (.aload_n 0, 1) := by decide +kernel
theorem dX8_clear_23 : decode cX8_clear 23 = .ok (.getfield 7, 3) := by decide +kernel
theorem dX8_clear_26 : decode cX8_clear 26 = .ok (.iconst 5, 1) := by decide +kernel
theorem dX8_clear_27 : decode cX8_clear 27 = .ok (.bipush 6, 2) := by decide +kernel
theorem dX8_clear_29 : decode cX8_clear 29 = .ok (.iastore, 1) := by decide +kernel
theorem dX8_clear_30 : decode cX8_clear 30 = .ok (.aload_n 0, 1) := by decide +kernel
theorem dX8_clear_31 : decode cX8_clear 31 = .ok (.getfield 7, 3) := by decide +kernel
theorem dX8_clear_34 : decode cX8_clear 34 = .ok (.bipush 6, 2) := by decide +kernel
theorem dX8_clear_36 : decode cX8_clear 36 = .ok (.iconst 2, 1) := by decide +kernel
theorem dX8_clear_37 : decode cX8_clear 37 = .ok (.iastore, 1) := by decide +kernel
theorem dX8_clear_38 : decode cX8_clear 38 = .ok (.aload_n 0, 1) := by decide +kernel
theorem dX8_clear_39 : decode cX8_clear 39 = .ok (.getfield 7, 3) := by decide +kernel
theorem dX8_clear_42 : decode cX8_clear 42 = .ok (.bipush 7, 2) := by decide +kernel
theorem dX8_clear_44 : decode cX8_clear 44 = .ok (.iconst 1, 1) := by decide +kernel
theorem dX8_clear_45 : decode cX8_clear 45 = .ok (.iastore, 1) := by decide +kernel
theorem dX8_clear_46 : decode cX8_clear 46 = .ok (.aload_n 0, 1) := by decide +kernel
theorem dX8_clear_47 : decode cX8_clear 47 = .ok (.getfield 7, 3) := by decide +kernel
theorem dX8_clear_50 : decode cX8_clear 50 = .ok (.bipush 8, 2) := by decide +kernel
theorem dX8_clear_52 : decode cX8_clear 52 = .ok (.bipush 30, 2) := by decide +kernel
theorem dX8_clear_54 : decode cX8_clear 54 = .ok (.iastore, 1) := by decide +kernel
theorem dX8_clear_55 : decode cX8_clear 55 = .ok (.aload_n 0, 1) := by decide +kernel
theorem dX8_clear_56 : decode cX8_clear 56 = .ok (.getfield 7, 3) := by decide +kernel
theorem dX8_clear_59 : decode cX8_clear 59 = .ok (.bipush 9, 2) := by decide +kernel
theorem dX8_clear_61 : decode cX8_clear 61 = .ok (.iconst 1, 1) := by decide +kernel
theorem dX8_clear_62 : decode cX8_clear 62 = .ok (.iastore, 1) := by decide +kernel
theorem dX8_clear_63 : decode cX8_clear 63 = .ok (.return_, 1) := by decide +kernel
/-! BusLiftsModel.clear()V -/
noncomputable def f_X8_clear_22  (σ : Sg)  : Option Sg := st (sup σ 30 0 5 6) fun σ1 => (st (sup σ1 30 0 6 2) fun σ2 => (st (sup σ2 30 0 7 1) fun σ3 => (st (sup σ3 30 0 8 30) fun σ4 => (st (sup σ4 30 0 9 1) fun σ5 => (some σ5)))))
noncomputable def f_X8_clear_2  : Nat → Sg → Int32 → Option Sg
  | 0, _, _ => none
  | n + 1, σ, v1 => if 2111 ≤ v1 then (f_X8_clear_22 σ) else (if v1 < 0 ∨ 2111 ≤ (v1).toNatClampNeg then none else (st (sup σ 30 0 (v1).toNatClampNeg 0) fun σ1 => (f_X8_clear_2  n σ1 (v1 + 1))))
theorem f_X8_clear_2_s  (n : Nat) (σ : Sg) (v1 : Int32) : f_X8_clear_2  (n + 1) σ v1 = (if 2111 ≤ v1 then (f_X8_clear_22 σ) else (if v1 < 0 ∨ 2111 ≤ (v1).toNatClampNeg then none else (st (sup σ 30 0 (v1).toNatClampNeg 0) fun σ1 => (f_X8_clear_2  n σ1 (v1 + 1))))) := rfl
noncomputable def f_X8_clear  (σ : Sg)  : Option Sg := f_X8_clear_2 FU σ 0
set_option maxHeartbeats 4000000 in
set_option maxRecDepth 100000 in
theorem w_X8_clear_22 {p : Program} {l : Launch} {e : Env} {s : State} {m : MethodId} {args : Array Value} {below : List Frame} {meth : Method} {c : Code} {G : Gx} {ad : Ad} {res : Sg} (C : Cx p s m args meth c yX8_clear.cls cX8_clear 2 none G)  : ∀ (σ : Sg)  (H : Heap) (locs : List Loc) (ls : Array Slot), z_S 1 G ad σ (z_A 1 ad s.heap.size) s.heap H locs → lv_has ls 2 [(0, .ref (ad 8 0))] → f_X8_clear_22  σ  = some res → W p l e { frames := 0, cells := 0, slots := 0, locals := 0 } s m args below meth c H locs 0 0 (MQ below (va_Qv (S := Unit) (fun _ => True) (fun _ t => z_W 1 G ad res t.heap) (z_A 1 ad s.heap.size)) args s 0 0 (z_A 1 ad s.heap.size)) (F0 m 22 ls []) := by
  intro σ  H locs ls S hl  hf
  unfold f_X8_clear_22 at hf
  refine lv_aload_n C.1 C.2.1 dX8_clear_22 rfl (lv_at hl 0 rfl) ?_
  refine z_getR C S 8 0 rfl (by decide) cf_8 0 (by decide) _ (gr_8_0 G ad 0) tw_6_118 dX8_clear_23 ?_
  refine lv_iconst (v := 5) C.1 C.2.1 dX8_clear_26 (by decide) ?_
  refine lv_bipush (v := 6) C.1 C.2.1 dX8_clear_27 (by decide) ?_
  obtain ⟨σ1, e_29, hf⟩ := stb hf
  refine z_iastL C S 30 0 rfl (by decide) 2111 (fun _ => rfl) 5 (by decide) (by decide) (by decide) dX8_clear_29 (fun H locs S => ?_)
  rw [← e_29] at S
  refine lv_aload_n C.1 C.2.1 dX8_clear_30 rfl (lv_at hl 0 rfl) ?_
  refine z_getR C S 8 0 rfl (by decide) cf_8 0 (by decide) _ (gr_8_0 G ad 0) tw_6_118 dX8_clear_31 ?_
  refine lv_bipush (v := 6) C.1 C.2.1 dX8_clear_34 (by decide) ?_
  refine lv_iconst (v := 2) C.1 C.2.1 dX8_clear_36 (by decide) ?_
  obtain ⟨σ2, e_37, hf⟩ := stb hf
  refine z_iastL C S 30 0 rfl (by decide) 2111 (fun _ => rfl) 6 (by decide) (by decide) (by decide) dX8_clear_37 (fun H locs S => ?_)
  rw [← e_37] at S
  refine lv_aload_n C.1 C.2.1 dX8_clear_38 rfl (lv_at hl 0 rfl) ?_
  refine z_getR C S 8 0 rfl (by decide) cf_8 0 (by decide) _ (gr_8_0 G ad 0) tw_6_118 dX8_clear_39 ?_
  refine lv_bipush (v := 7) C.1 C.2.1 dX8_clear_42 (by decide) ?_
  refine lv_iconst (v := 1) C.1 C.2.1 dX8_clear_44 (by decide) ?_
  obtain ⟨σ3, e_45, hf⟩ := stb hf
  refine z_iastL C S 30 0 rfl (by decide) 2111 (fun _ => rfl) 7 (by decide) (by decide) (by decide) dX8_clear_45 (fun H locs S => ?_)
  rw [← e_45] at S
  refine lv_aload_n C.1 C.2.1 dX8_clear_46 rfl (lv_at hl 0 rfl) ?_
  refine z_getR C S 8 0 rfl (by decide) cf_8 0 (by decide) _ (gr_8_0 G ad 0) tw_6_118 dX8_clear_47 ?_
  refine lv_bipush (v := 8) C.1 C.2.1 dX8_clear_50 (by decide) ?_
  refine lv_bipush (v := 30) C.1 C.2.1 dX8_clear_52 (by decide) ?_
  obtain ⟨σ4, e_54, hf⟩ := stb hf
  refine z_iastL C S 30 0 rfl (by decide) 2111 (fun _ => rfl) 8 (by decide) (by decide) (by decide) dX8_clear_54 (fun H locs S => ?_)
  rw [← e_54] at S
  refine lv_aload_n C.1 C.2.1 dX8_clear_55 rfl (lv_at hl 0 rfl) ?_
  refine z_getR C S 8 0 rfl (by decide) cf_8 0 (by decide) _ (gr_8_0 G ad 0) tw_6_118 dX8_clear_56 ?_
  refine lv_bipush (v := 9) C.1 C.2.1 dX8_clear_59 (by decide) ?_
  refine lv_iconst (v := 1) C.1 C.2.1 dX8_clear_61 (by decide) ?_
  obtain ⟨σ5, e_62, hf⟩ := stb hf
  refine z_iastL C S 30 0 rfl (by decide) 2111 (fun _ => rfl) 9 (by decide) (by decide) (by decide) dX8_clear_62 (fun H locs S => ?_)
  rw [← e_62] at S
  exact z_vret C S hf dX8_clear_63
set_option maxHeartbeats 4000000 in
set_option maxRecDepth 100000 in
theorem w_X8_clear_2 {p : Program} {l : Launch} {e : Env} {s : State} {m : MethodId} {args : Array Value} {below : List Frame} {meth : Method} {c : Code} {G : Gx} {ad : Ad} {res : Sg} (C : Cx p s m args meth c yX8_clear.cls cX8_clear 2 none G)  : ∀ n : Nat, ∀ (σ : Sg) (v1 : Int32) (H : Heap) (locs : List Loc) (ls : Array Slot), z_S 1 G ad σ (z_A 1 ad s.heap.size) s.heap H locs → lv_has ls 2 [(0, .ref (ad 8 0)), (1, .int v1)] → f_X8_clear_2  n σ v1 = some res → W p l e { frames := 0, cells := 0, slots := 0, locals := 0 } s m args below meth c H locs 0 0 (MQ below (va_Qv (S := Unit) (fun _ => True) (fun _ t => z_W 1 G ad res t.heap) (z_A 1 ad s.heap.size)) args s 0 0 (z_A 1 ad s.heap.size)) (F0 m 2 ls []) := by
  intro n
  induction n with
  | zero => intro σ v1 H locs ls S hl  hf; cases hf
  | succ n ih =>
    intro σ v1 H locs ls S hl  hf
    rw [f_X8_clear_2_s] at hf
    refine lv_iload_n C.1 C.2.1 dX8_clear_2 rfl (lv_at hl 1 rfl) ?_
    refine lv_sipush (v := 2111) C.1 C.2.1 dX8_clear_3 (by decide) ?_
    refine lv_icmp_ge (tgt := 22) C.1 C.2.1 dX8_clear_6 (by decide) (fun c_6 => ?_) (fun c_6 => ?_)
    · rw [if_pos c_6] at hf
      exact w_X8_clear_22 C _ _ _ _ S (lv_sub hl [0] rfl) hf
    · rw [if_neg c_6] at hf
      refine lv_aload_n C.1 C.2.1 dX8_clear_9 rfl (lv_at hl 0 rfl) ?_
      refine z_getR C S 8 0 rfl (by decide) cf_8 0 (by decide) _ (gr_8_0 G ad 0) tw_6_118 dX8_clear_10 ?_
      refine lv_iload_n C.1 C.2.1 dX8_clear_13 rfl (lv_at hl 1 rfl) ?_
      refine lv_iconst (v := 0) C.1 C.2.1 dX8_clear_14 (by decide) ?_
      obtain ⟨g_15, hf⟩ := gd hf
      obtain ⟨σ1, e_15, hf⟩ := stb hf
      refine z_iast C S 30 0 rfl (by decide) 2111 (fun _ => rfl) g_15 dX8_clear_15 (fun H locs S => ?_)
      rw [← e_15] at S
      refine lv_iinc (v := (v1 + 1)) (lv' := [(1, .int (v1 + 1)), (0, .ref (ad 8 0))]) C.1 C.2.1 dX8_clear_16 hl (k := 1) rfl rfl (by decide) rfl (fun ls hl => ?_)
      refine lv_goto (tgt := 2) C.1 C.2.1 dX8_clear_19 (by decide) ?_
      exact ih _ (v1 + 1) _ _ _ S (lv_sub hl [1, 0] rfl)  hf
set_option maxHeartbeats 4000000 in
set_option maxRecDepth 100000 in
theorem w_X8_clear_0 {p : Program} {l : Launch} {e : Env} {s : State} {m : MethodId} {args : Array Value} {below : List Frame} {meth : Method} {c : Code} {G : Gx} {ad : Ad} {res : Sg} (C : Cx p s m args meth c yX8_clear.cls cX8_clear 2 none G)  : ∀ (σ : Sg)  (H : Heap) (locs : List Loc) (ls : Array Slot), z_S 1 G ad σ (z_A 1 ad s.heap.size) s.heap H locs → lv_has ls 2 [(0, .ref (ad 8 0))] → f_X8_clear  σ  = some res → W p l e { frames := 0, cells := 0, slots := 0, locals := 0 } s m args below meth c H locs 0 0 (MQ below (va_Qv (S := Unit) (fun _ => True) (fun _ t => z_W 1 G ad res t.heap) (z_A 1 ad s.heap.size)) args s 0 0 (z_A 1 ad s.heap.size)) (F0 m 0 ls []) := by
  intro σ  H locs ls S hl  hf
  unfold f_X8_clear at hf
  refine lv_iconst (v := 0) C.1 C.2.1 dX8_clear_0 (by decide) ?_
  refine lv_istore_n (lv' := [(1, .int 0), (0, .ref (ad 8 0))]) C.1 C.2.1 dX8_clear_1 rfl hl (by decide) rfl (fun ls hl => ?_)
  exact w_X8_clear_2 C FU _ 0 _ _ _ S (lv_sub hl [1, 0] rfl) hf
theorem kv_X8_clear : KV yX8_clear cX8_clear 2 none 0 := ⟨tw_6_113, tw_6_112, tw_p_41, tw_1_10, by decide, by decide, by decide +kernel⟩
theorem m_X8_clear (l : Launch) (G : Gx) (ad : Ad) (σ : Sg)  (σ' : Sg)  (hf : f_X8_clear σ  = some σ') (sz : Nat) : z_MV l yX8_clear cX8_clear 2 none 0 0 1 G ad σ sz [.ref (ad 8 0)] σ' := by
  refine z_begin (by decide +kernel) (Nat.le_of_ble_eq_true rfl) [(0, .ref (ad 8 0))] rfl (fun p e s m args below meth c ls C hz S hl => ?_)
  subst hz
  exact w_X8_clear_0 (res := σ') C σ  _ _ _ S hl  hf

theorem dX8_addCar_0 : decode cX8_addCar 0 = .ok (.aload_n 0, 1) := by decide +kernel
theorem dX8_addCar_1 : decode cX8_addCar 1 = .ok (.getfield 7, 3) := by decide +kernel
theorem dX8_addCar_4 : decode cX8_addCar 4 = .ok (.bipush 23, 2) := by decide +kernel
theorem dX8_addCar_6 : decode cX8_addCar 6 = .ok (.aload_n 0, 1) := by decide +kernel
theorem dX8_addCar_7 : decode cX8_addCar 7 = .ok (.getfield 7, 3) := by decide +kernel
theorem dX8_addCar_10 : decode cX8_addCar 10 = .ok (.iconst 1, 1) := by decide +kernel
theorem dX8_addCar_11 : decode cX8_addCar 11 = .ok (.iaload, 1) := by decide +kernel
theorem dX8_addCar_12 : decode cX8_addCar 12 = .ok (.iadd, 1) := by decide +kernel
theorem dX8_addCar_13 : decode cX8_addCar 13 = .ok (.iload_n 1, 1) := by decide +kernel
theorem dX8_addCar_14 : decode cX8_addCar 14 = .ok (.iastore, 1) := by decide +kernel
theorem dX8_addCar_15 : decode cX8_addCar 15 = .ok (.aload_n 0, 1) := by decide +kernel
theorem dX8_addCar_16 : decode cX8_addCar 16 = .ok (.getfield 7, 3) := by decide +kernel
theorem dX8_addCar_19 : decode cX8_addCar 19 = .ok (.bipush 27, 2) := by decide +kernel
theorem dX8_addCar_21 : decode cX8_addCar 21 = .ok (.aload_n 0, 1) := by decide +kernel
theorem dX8_addCar_22 : decode cX8_addCar 22 = .ok (.getfield 7, 3) := by decide +kernel
theorem dX8_addCar_25 : decode cX8_addCar 25 = .ok (.iconst 1, 1) := by decide +kernel
theorem dX8_addCar_26 : decode cX8_addCar 26 = .ok (.iaload, 1) := by decide +kernel
theorem dX8_addCar_27 : decode cX8_addCar 27 = .ok (.iadd, 1) := by decide +kernel
theorem dX8_addCar_28 : decode cX8_addCar 28 = .ok (.iload_n 2, 1) := by decide +kernel
theorem dX8_addCar_29 : decode cX8_addCar 29 = .ok (.iastore, 1) := by decide +kernel
theorem dX8_addCar_30 : decode cX8_addCar 30 = .ok (.aload_n 0, 1) := by decide +kernel
theorem dX8_addCar_31 : decode cX8_addCar 31 = .ok (.getfield 7, 3) := by decide +kernel
theorem dX8_addCar_34 : decode cX8_addCar 34 = .ok (.iconst 1, 1) := by decide +kernel
theorem dX8_addCar_35 : decode cX8_addCar 35 = .ok (.dup2, 1) := by decide +kernel
theorem dX8_addCar_36 : decode cX8_addCar 36 = .ok (.iaload, 1) := by decide +kernel
theorem dX8_addCar_37 : decode cX8_addCar 37 = .ok (.iconst 1, 1) := by decide +kernel
theorem dX8_addCar_38 : decode cX8_addCar 38 = .ok (.iadd, 1) := by decide +kernel
theorem dX8_addCar_39 : decode cX8_addCar 39 = .ok (.iastore, 1) := by decide +kernel
theorem dX8_addCar_40 : decode cX8_addCar 40 = .ok (.return_, 1) := by decide +kernel
/-! BusLiftsModel.addCar(II)V -/
noncomputable def f_X8_addCar  (σ : Sg) (v1 : Int32) (v2 : Int32) : Option Sg := if (23 + (σ 30 0 1)) < 0 ∨ 2111 ≤ ((23 + (σ 30 0 1))).toNatClampNeg then none else (st (sup σ 30 0 ((23 + (σ 30 0 1))).toNatClampNeg v1) fun σ1 => (if (27 + (σ1 30 0 1)) < 0 ∨ 2111 ≤ ((27 + (σ1 30 0 1))).toNatClampNeg then none else (st (sup σ1 30 0 ((27 + (σ1 30 0 1))).toNatClampNeg v2) fun σ2 => (st (sup σ2 30 0 1 ((σ2 30 0 1) + 1)) fun σ3 => (some σ3)))))
set_option maxHeartbeats 4000000 in
set_option maxRecDepth 100000 in
theorem w_X8_addCar_0 {p : Program} {l : Launch} {e : Env} {s : State} {m : MethodId} {args : Array Value} {below : List Frame} {meth : Method} {c : Code} {G : Gx} {ad : Ad} {res : Sg} (C : Cx p s m args meth c yX8_addCar.cls cX8_addCar 3 none G)  : ∀ (σ : Sg) (v1 : Int32) (v2 : Int32) (H : Heap) (locs : List Loc) (ls : Array Slot), z_S 1 G ad σ (z_A 1 ad s.heap.size) s.heap H locs → lv_has ls 3 [(0, .ref (ad 8 0)), (1, .int v1), (2, .int v2)] → f_X8_addCar  σ v1 v2 = some res → W p l e { frames := 0, cells := 0, slots := 0, locals := 0 } s m args below meth c H locs 0 0 (MQ below (va_Qv (S := Unit) (fun _ => True) (fun _ t => z_W 1 G ad res t.heap) (z_A 1 ad s.heap.size)) args s 0 0 (z_A 1 ad s.heap.size)) (F0 m 0 ls []) := by
  intro σ v1 v2 H locs ls S hl  hf
  unfold f_X8_addCar at hf
  refine lv_aload_n C.1 C.2.1 dX8_addCar_0 rfl (lv_at hl 0 rfl) ?_
  refine z_getR C S 8 0 rfl (by decide) cf_8 0 (by decide) _ (gr_8_0 G ad 0) tw_6_118 dX8_addCar_1 ?_
  refine lv_bipush (v := 23) C.1 C.2.1 dX8_addCar_4 (by decide) ?_
  refine lv_aload_n C.1 C.2.1 dX8_addCar_6 rfl (lv_at hl 0 rfl) ?_
  refine z_getR C S 8 0 rfl (by decide) cf_8 0 (by decide) _ (gr_8_0 G ad 0) tw_6_118 dX8_addCar_7 ?_
  refine lv_iconst (v := 1) C.1 C.2.1 dX8_addCar_10 (by decide) ?_
  refine z_ialdL C S 30 0 rfl (by decide) 2111 (fun _ => rfl) 1 (by decide) (by decide) (by decide) dX8_addCar_11 ?_
  refine lv_iadd C.1 C.2.1 dX8_addCar_12 ?_
  refine lv_iload_n C.1 C.2.1 dX8_addCar_13 rfl (lv_at hl 1 rfl) ?_
  obtain ⟨g_14, hf⟩ := gd hf
  obtain ⟨σ1, e_14, hf⟩ := stb hf
  refine z_iast C S 30 0 rfl (by decide) 2111 (fun _ => rfl) g_14 dX8_addCar_14 (fun H locs S => ?_)
  rw [← e_14] at S
  refine lv_aload_n C.1 C.2.1 dX8_addCar_15 rfl (lv_at hl 0 rfl) ?_
  refine z_getR C S 8 0 rfl (by decide) cf_8 0 (by decide) _ (gr_8_0 G ad 0) tw_6_118 dX8_addCar_16 ?_
  refine lv_bipush (v := 27) C.1 C.2.1 dX8_addCar_19 (by decide) ?_
  refine lv_aload_n C.1 C.2.1 dX8_addCar_21 rfl (lv_at hl 0 rfl) ?_
  refine z_getR C S 8 0 rfl (by decide) cf_8 0 (by decide) _ (gr_8_0 G ad 0) tw_6_118 dX8_addCar_22 ?_
  refine lv_iconst (v := 1) C.1 C.2.1 dX8_addCar_25 (by decide) ?_
  refine z_ialdL C S 30 0 rfl (by decide) 2111 (fun _ => rfl) 1 (by decide) (by decide) (by decide) dX8_addCar_26 ?_
  refine lv_iadd C.1 C.2.1 dX8_addCar_27 ?_
  refine lv_iload_n C.1 C.2.1 dX8_addCar_28 rfl (lv_at hl 2 rfl) ?_
  obtain ⟨g_29, hf⟩ := gd hf
  obtain ⟨σ2, e_29, hf⟩ := stb hf
  refine z_iast C S 30 0 rfl (by decide) 2111 (fun _ => rfl) g_29 dX8_addCar_29 (fun H locs S => ?_)
  rw [← e_29] at S
  refine lv_aload_n C.1 C.2.1 dX8_addCar_30 rfl (lv_at hl 0 rfl) ?_
  refine z_getR C S 8 0 rfl (by decide) cf_8 0 (by decide) _ (gr_8_0 G ad 0) tw_6_118 dX8_addCar_31 ?_
  refine lv_iconst (v := 1) C.1 C.2.1 dX8_addCar_34 (by decide) ?_
  refine lv_dup2_11 C.1 C.2.1 dX8_addCar_35 rfl rfl ?_
  refine z_ialdL C S 30 0 rfl (by decide) 2111 (fun _ => rfl) 1 (by decide) (by decide) (by decide) dX8_addCar_36 ?_
  refine lv_iconst (v := 1) C.1 C.2.1 dX8_addCar_37 (by decide) ?_
  refine lv_iadd C.1 C.2.1 dX8_addCar_38 ?_
  obtain ⟨σ3, e_39, hf⟩ := stb hf
  refine z_iastL C S 30 0 rfl (by decide) 2111 (fun _ => rfl) 1 (by decide) (by decide) (by decide) dX8_addCar_39 (fun H locs S => ?_)
  rw [← e_39] at S
  exact z_vret C S hf dX8_addCar_40
theorem kv_X8_addCar : KV yX8_addCar cX8_addCar 3 none 2 := ⟨tw_6_117, tw_6_116, tw_p_42, tw_1_10, by decide, by decide, by decide +kernel⟩
theorem m_X8_addCar (l : Launch) (G : Gx) (ad : Ad) (σ : Sg) (v1 : Int32) (v2 : Int32) (σ' : Sg)  (hf : f_X8_addCar σ v1 v2 = some σ') (sz : Nat) : z_MV l yX8_addCar cX8_addCar 3 none 0 0 1 G ad σ sz [.ref (ad 8 0), .int v1, .int v2] σ' := by
  refine z_begin (by decide +kernel) (Nat.le_of_ble_eq_true rfl) [(0, .ref (ad 8 0)), (1, .int v1), (2, .int v2)] rfl (fun p e s m args below meth c ls C hz S hl => ?_)
  subst hz
  exact w_X8_addCar_0 (res := σ') C σ v1 v2 _ _ _ S hl  hf

theorem dX8_thrown_0 : decode cX8_thrown 0 = .ok (.aload_n 0, 1) := by decide +kernel
theorem dX8_thrown_1 : decode cX8_thrown 1 = .ok (.getfield 48, 3) := by decide +kernel
theorem dX8_thrown_4 : decode cX8_thrown 4 = .ok (.ireturn, 1) := by decide +kernel
/-! BusLiftsModel.thrown()I -/
noncomputable def f_X8_thrown  (σ : Sg)  : Option (Int32 × Sg) := some ((σ 8 0 8), σ)
set_option maxHeartbeats 4000000 in
set_option maxRecDepth 100000 in
theorem w_X8_thrown_0 {p : Program} {l : Launch} {e : Env} {s : State} {m : MethodId} {args : Array Value} {below : List Frame} {meth : Method} {c : Code} {G : Gx} {ad : Ad} {res : Int32 × Sg} (C : Cx p s m args meth c yX8_thrown.cls cX8_thrown 1 (Option.some FieldType.int) G)  : ∀ (σ : Sg)  (H : Heap) (locs : List Loc) (ls : Array Slot), z_S 1 G ad σ (z_A 1 ad s.heap.size) s.heap H locs → lv_has ls 1 [(0, .ref (ad 8 0))] → f_X8_thrown  σ  = some res → W p l e { frames := 0, cells := 0, slots := 0, locals := 0 } s m args below meth c H locs 0 0 (MQ below (va_Qi (S := Unit) (fun r1 _ => r1 = res.1) (fun _ t => z_W 1 G ad res.2 t.heap) (z_A 1 ad s.heap.size)) args s 0 0 (z_A 1 ad s.heap.size)) (F0 m 0 ls []) := by
  intro σ  H locs ls S hl  hf
  unfold f_X8_thrown at hf
  refine lv_aload_n C.1 C.2.1 dX8_thrown_0 rfl (lv_at hl 0 rfl) ?_
  refine z_getI C S 8 0 rfl (by decide) cf_8 8 (by decide) (gi_8_8 G ad 0) tw_6_126 dX8_thrown_1 ?_
  exact z_iret C S hf dX8_thrown_4
theorem kv_X8_thrown : KV yX8_thrown cX8_thrown 1 (Option.some FieldType.int) 0 := ⟨tw_6_191, tw_6_189, tw_6_190, tw_1_10, by decide, by decide, by decide +kernel⟩
theorem m_X8_thrown (l : Launch) (G : Gx) (ad : Ad) (σ : Sg)  (r : Int32) (σ' : Sg)  (hf : f_X8_thrown σ  = some (r, σ')) (sz : Nat) : z_MI l yX8_thrown cX8_thrown 1 (Option.some FieldType.int) 0 0 1 G ad σ sz [.ref (ad 8 0)] r σ' := by
  refine z_begin (by decide +kernel) (Nat.le_of_ble_eq_true rfl) [(0, .ref (ad 8 0))] rfl (fun p e s m args below meth c ls C hz S hl => ?_)
  subst hz
  exact w_X8_thrown_0 (res := (r, σ')) C σ  _ _ _ S hl  hf

theorem dX8_appendWord_0 : decode cX8_appendWord 0 = .ok (.bipush 24, 2) := by decide +kernel
theorem dX8_appendWord_2 : decode cX8_appendWord 2 = .ok (.istore_n 2, 1) := by decide +kernel
theorem dX8_appendWord_3 : decode cX8_appendWord 3 = .ok (.iload_n 2, 1) := by decide +kernel
theorem dX8_appendWord_4 : decode cX8_appendWord 4 = .ok (.ifCond .lt 35, 3) := by decide +kernel
theorem dX8_appendWord_7 : decode cX8_appendWord 7 = .ok (.aload_n 0, 1) := by decide +kernel
theorem dX8_appendWord_8 : decode cX8_appendWord 8 = .ok (.getfield 28, 3) := by decide +kernel
theorem dX8_appendWord_11 : decode cX8_appendWord 11 = .ok (.aload_n 0, 1) := by decide +kernel
theorem dX8_appendWord_12 : decode cX8_appendWord 12 = .ok (.getfield 159, 3) := by decide +kernel
theorem dX8_appendWord_15 : decode cX8_appendWord 15 = .ok (.iload_n 1, 1) := by decide +kernel
theorem dX8_appendWord_16 : decode cX8_appendWord 16 = .ok (.iload_n 2, 1) := by decide +kernel
theorem dX8_appendWord_17 : decode cX8_appendWord 17 = .ok (.ishr, 1) := by decide +kernel
theorem dX8_appendWord_18 : decode cX8_appendWord 18 = .ok (.sipush 255, 3) := by decide +kernel
theorem dX8_appendWord_21 : decode cX8_appendWord 21 = .ok (.iand, 1) := by decide +kernel
theorem dX8_appendWord_22 : decode cX8_appendWord 22 = .ok (.iastore, 1) := by decide +kernel
theorem dX8_appendWord_23 : decode cX8_appendWord 23 = .ok (.aload_n 0, 1) := by decide +kernel
theorem dX8_appendWord_24 : decode cX8_appendWord 24 = .ok (.dup, 1) := by decide +kernel
theorem dX8_appendWord_25 : decode cX8_appendWord 25 = .ok (.getfield 159, 3) := by decide +kernel
theorem dX8_appendWord_28 : decode cX8_appendWord 28 = .ok (.iconst 1, 1) := by decide +kernel
theorem dX8_appendWord_29 : decode cX8_appendWord 29 = .ok (.iadd, 1) := by decide +kernel
theorem dX8_appendWord_30 : decode cX8_appendWord 30 = .ok (.putfield 159, 3) := by decide +kernel
theorem dX8_appendWord_33 : decode cX8_appendWord 33 = .ok (.iinc 2 (-8), 3) := by decide +kernel
theorem dX8_appendWord_36 : decode cX8_appendWord 36 = .ok (.goto (-33), 3) := by decide +kernel
theorem dX8_appendWord_39 : decode cX8_appendWord 39 = .ok (.return_, 1) := by decide +kernel
/-! BusLiftsModel.appendWord(I)V -/
noncomputable def f_X8_appendWord_39  (σ : Sg)  : Option Sg := some σ
noncomputable def f_X8_appendWord_3  : Nat → Sg → Int32 → Int32 → Option Sg
  | 0, _, _, _ => none
  | n + 1, σ, v1, v2 => if v2 < 0 then (f_X8_appendWord_39 σ) else (if (σ 8 0 10) < 0 ∨ 700 ≤ ((σ 8 0 10)).toNatClampNeg then none else (st (sup σ 36 0 ((σ 8 0 10)).toNatClampNeg ((v1 >>> (v2 &&& 31)) &&& 255)) fun σ1 => (st (sup σ1 8 0 10 ((σ1 8 0 10) + 1)) fun σ2 => (f_X8_appendWord_3  n σ2 v1 (v2 + (-8))))))
theorem f_X8_appendWord_3_s  (n : Nat) (σ : Sg) (v1 : Int32) (v2 : Int32) : f_X8_appendWord_3  (n + 1) σ v1 v2 = (if v2 < 0 then (f_X8_appendWord_39 σ) else (if (σ 8 0 10) < 0 ∨ 700 ≤ ((σ 8 0 10)).toNatClampNeg then none else (st (sup σ 36 0 ((σ 8 0 10)).toNatClampNeg ((v1 >>> (v2 &&& 31)) &&& 255)) fun σ1 => (st (sup σ1 8 0 10 ((σ1 8 0 10) + 1)) fun σ2 => (f_X8_appendWord_3  n σ2 v1 (v2 + (-8))))))) := rfl
noncomputable def f_X8_appendWord  (σ : Sg) (v1 : Int32) : Option Sg := f_X8_appendWord_3 FU σ v1 24
set_option maxHeartbeats 4000000 in
set_option maxRecDepth 100000 in
theorem w_X8_appendWord_39 {p : Program} {l : Launch} {e : Env} {s : State} {m : MethodId} {args : Array Value} {below : List Frame} {meth : Method} {c : Code} {G : Gx} {ad : Ad} {res : Sg} (C : Cx p s m args meth c yX8_appendWord.cls cX8_appendWord 3 none G)  : ∀ (σ : Sg)  (H : Heap) (locs : List Loc) (ls : Array Slot), z_S 1 G ad σ (z_A 1 ad s.heap.size) s.heap H locs → lv_has ls 3 [] → f_X8_appendWord_39  σ  = some res → W p l e { frames := 0, cells := 0, slots := 0, locals := 0 } s m args below meth c H locs 0 0 (MQ below (va_Qv (S := Unit) (fun _ => True) (fun _ t => z_W 1 G ad res t.heap) (z_A 1 ad s.heap.size)) args s 0 0 (z_A 1 ad s.heap.size)) (F0 m 39 ls []) := by
  intro σ  H locs ls S hl  hf
  unfold f_X8_appendWord_39 at hf
  exact z_vret C S hf dX8_appendWord_39
set_option maxHeartbeats 4000000 in
set_option maxRecDepth 100000 in
theorem w_X8_appendWord_3 {p : Program} {l : Launch} {e : Env} {s : State} {m : MethodId} {args : Array Value} {below : List Frame} {meth : Method} {c : Code} {G : Gx} {ad : Ad} {res : Sg} (C : Cx p s m args meth c yX8_appendWord.cls cX8_appendWord 3 none G)  : ∀ n : Nat, ∀ (σ : Sg) (v1 : Int32) (v2 : Int32) (H : Heap) (locs : List Loc) (ls : Array Slot), z_S 1 G ad σ (z_A 1 ad s.heap.size) s.heap H locs → lv_has ls 3 [(0, .ref (ad 8 0)), (1, .int v1), (2, .int v2)] → f_X8_appendWord_3  n σ v1 v2 = some res → W p l e { frames := 0, cells := 0, slots := 0, locals := 0 } s m args below meth c H locs 0 0 (MQ below (va_Qv (S := Unit) (fun _ => True) (fun _ t => z_W 1 G ad res t.heap) (z_A 1 ad s.heap.size)) args s 0 0 (z_A 1 ad s.heap.size)) (F0 m 3 ls []) := by
  intro n
  induction n with
  | zero => intro σ v1 v2 H locs ls S hl  hf; cases hf
  | succ n ih =>
    intro σ v1 v2 H locs ls S hl  hf
    rw [f_X8_appendWord_3_s] at hf
    refine lv_iload_n C.1 C.2.1 dX8_appendWord_3 rfl (lv_at hl 2 rfl) ?_
    refine lv_if_lt (tgt := 39) C.1 C.2.1 dX8_appendWord_4 (by decide) (fun c_4 => ?_) (fun c_4 => ?_)
    · rw [if_pos c_4] at hf
      exact w_X8_appendWord_39 C _ _ _ _ S (lv_sub hl [] rfl) hf
    · rw [if_neg c_4] at hf
      refine lv_aload_n C.1 C.2.1 dX8_appendWord_7 rfl (lv_at hl 0 rfl) ?_
      refine z_getR C S 8 0 rfl (by decide) cf_8 9 (by decide) _ (gr_8_9 G ad 0) tw_6_127 dX8_appendWord_8 ?_
      refine lv_aload_n C.1 C.2.1 dX8_appendWord_11 rfl (lv_at hl 0 rfl) ?_
      refine z_getI C S 8 0 rfl (by decide) cf_8 10 (by decide) (gi_8_10 G ad 0) tw_6_128 dX8_appendWord_12 ?_
      refine lv_iload_n C.1 C.2.1 dX8_appendWord_15 rfl (lv_at hl 1 rfl) ?_
      refine lv_iload_n C.1 C.2.1 dX8_appendWord_16 rfl (lv_at hl 2 rfl) ?_
      refine lv_ishr C.1 C.2.1 dX8_appendWord_17 ?_
      refine lv_sipush (v := 255) C.1 C.2.1 dX8_appendWord_18 (by decide) ?_
      refine lv_iand C.1 C.2.1 dX8_appendWord_21 ?_
      obtain ⟨g_22, hf⟩ := gd hf
      obtain ⟨σ1, e_22, hf⟩ := stb hf
      refine z_iast C S 36 0 rfl (by decide) 700 (fun _ => rfl) g_22 dX8_appendWord_22 (fun H locs S => ?_)
      rw [← e_22] at S
      refine lv_aload_n C.1 C.2.1 dX8_appendWord_23 rfl (lv_at hl 0 rfl) ?_
      refine lv_dup C.1 C.2.1 dX8_appendWord_24 rfl ?_
      refine z_getI C S 8 0 rfl (by decide) cf_8 10 (by decide) (gi_8_10 G ad 0) tw_6_128 dX8_appendWord_25 ?_
      refine lv_iconst (v := 1) C.1 C.2.1 dX8_appendWord_28 (by decide) ?_
      refine lv_iadd C.1 C.2.1 dX8_appendWord_29 ?_
      obtain ⟨σ2, e_30, hf⟩ := stb hf
      refine z_putI C S 8 0 rfl (by decide) cf_8 10 (by decide) (pi_8_10 G ad 0) rfl rfl rfl tw_6_128 dX8_appendWord_30 (fun H locs S => ?_)
      rw [← e_30] at S
      refine lv_iinc (v := (v2 + (-8))) (lv' := [(2, .int (v2 + (-8))), (0, .ref (ad 8 0)), (1, .int v1)]) C.1 C.2.1 dX8_appendWord_33 hl (k := 2) rfl rfl (by decide) rfl (fun ls hl => ?_)
      refine lv_goto (tgt := 3) C.1 C.2.1 dX8_appendWord_36 (by decide) ?_
      exact ih _ v1 (v2 + (-8)) _ _ _ S (lv_sub hl [1, 2, 0] rfl)  hf
set_option maxHeartbeats 4000000 in
set_option maxRecDepth 100000 in
theorem w_X8_appendWord_0 {p : Program} {l : Launch} {e : Env} {s : State} {m : MethodId} {args : Array Value} {below : List Frame} {meth : Method} {c : Code} {G : Gx} {ad : Ad} {res : Sg} (C : Cx p s m args meth c yX8_appendWord.cls cX8_appendWord 3 none G)  : ∀ (σ : Sg) (v1 : Int32) (H : Heap) (locs : List Loc) (ls : Array Slot), z_S 1 G ad σ (z_A 1 ad s.heap.size) s.heap H locs → lv_has ls 3 [(0, .ref (ad 8 0)), (1, .int v1)] → f_X8_appendWord  σ v1 = some res → W p l e { frames := 0, cells := 0, slots := 0, locals := 0 } s m args below meth c H locs 0 0 (MQ below (va_Qv (S := Unit) (fun _ => True) (fun _ t => z_W 1 G ad res t.heap) (z_A 1 ad s.heap.size)) args s 0 0 (z_A 1 ad s.heap.size)) (F0 m 0 ls []) := by
  intro σ v1 H locs ls S hl  hf
  unfold f_X8_appendWord at hf
  refine lv_bipush (v := 24) C.1 C.2.1 dX8_appendWord_0 (by decide) ?_
  refine lv_istore_n (lv' := [(2, .int 24), (0, .ref (ad 8 0)), (1, .int v1)]) C.1 C.2.1 dX8_appendWord_2 rfl hl (by decide) rfl (fun ls hl => ?_)
  exact w_X8_appendWord_3 C FU _ v1 24 _ _ _ S (lv_sub hl [1, 2, 0] rfl) hf
theorem kv_X8_appendWord : KV yX8_appendWord cX8_appendWord 3 none 1 := ⟨tw_6_199, tw_6_198, tw_p_43, tw_1_10, by decide, by decide, by decide +kernel⟩
theorem m_X8_appendWord (l : Launch) (G : Gx) (ad : Ad) (σ : Sg) (v1 : Int32) (σ' : Sg)  (hf : f_X8_appendWord σ v1 = some σ') (sz : Nat) : z_MV l yX8_appendWord cX8_appendWord 3 none 0 0 1 G ad σ sz [.ref (ad 8 0), .int v1] σ' := by
  refine z_begin (by decide +kernel) (Nat.le_of_ble_eq_true rfl) [(0, .ref (ad 8 0)), (1, .int v1)] rfl (fun p e s m args below meth c ls C hz S hl => ?_)
  subst hz
  exact w_X8_appendWord_0 (res := σ') C σ v1 _ _ _ S hl  hf

theorem dX8_appendInput_0 : decode cX8_appendInput 0 = .ok (.aload_n 0, 1) := by decide +kernel
theorem dX8_appendInput_1 : decode cX8_appendInput 1 = .ok (.iconst 0, 1) := by decide +kernel
theorem dX8_appendInput_2 : decode cX8_appendInput 2 = .ok (.putfield 48, 3) := by decide +kernel
theorem dX8_appendInput_5 : decode cX8_appendInput 5 = .ok (.aload_n 0, 1) := by decide +kernel
theorem dX8_appendInput_6 : decode cX8_appendInput 6 = .ok (.getfield 159, 3) := by decide +kernel
theorem dX8_appendInput_9 : decode cX8_appendInput 9 = .ok (.bipush 20, 2) := by decide +kernel
theorem dX8_appendInput_11 : decode cX8_appendInput 11 = .ok (.iadd, 1) := by decide +kernel
theorem dX8_appendInput_12 : decode cX8_appendInput 12 = .ok (.sipush 700, 3) := by decide +kernel
theorem dX8_appendInput_15 : decode cX8_appendInput 15 = .ok (.if_icmp .le 5, 3) := by decide +kernel
theorem dX8_appendInput_18 : decode cX8_appendInput 18 = .ok (.iconst (-1), 1) := by decide +kernel
theorem dX8_appendInput_19 : decode cX8_appendInput 19 = .ok (.ireturn, 1) := by decide +kernel
theorem dX8_appendInput_20 : decode cX8_appendInput 20 = .ok (.aload_n 0, 1) := by decide +kernel
theorem dX8_appendInput_21 : decode cX8_appendInput 21 = .ok (.iload_n 1, 1) := by decide +kernel
theorem dX8_appendInput_22 : decode cX8_appendInput 22 = .ok (.invokevirtual 162, 3) := by decide +kernel
theorem dX8_appendInput_25 : decode cX8_appendInput 25 = .ok (.aload_n 0, 1) := by decide +kernel
theorem dX8_appendInput_26 : decode cX8_appendInput 26 = .ok (.iload_n 2, 1) := by decide +kernel
theorem dX8_appendInput_27 : decode cX8_appendInput 27 = .ok (.invokevirtual 162, 3) := by decide +kernel
theorem dX8_appendInput_30 : decode cX8_appendInput 30 = .ok (.aload_n 0, 1) := by decide +kernel
theorem dX8_appendInput_31 : decode cX8_appendInput 31 = .ok (.iload_n 3, 1) := by decide +kernel
theorem dX8_appendInput_32 : decode cX8_appendInput 32 = .ok (.invokevirtual 162, 3) := by decide +kernel
theorem dX8_appendInput_35 : decode cX8_appendInput 35 = .ok (.aload_n 0, 1) := by decide +kernel
theorem dX8_appendInput_36 : decode cX8_appendInput 36 = .ok (.iload 4, 2) := by decide +kernel
theorem dX8_appendInput_38 : decode cX8_appendInput 38 = .ok (.invokevirtual 162, 3) := by decide +kernel
theorem dX8_appendInput_41 : decode cX8_appendInput 41 = .ok (.aload_n 0, 1) := by decide +kernel
theorem dX8_appendInput_42 : decode cX8_appendInput 42 = .ok (.iload 5, 2) := by decide +kernel
theorem dX8_appendInput_44 : decode cX8_appendInput 44 = .ok (.invokevirtual 162, 3) := by decide +kernel
theorem dX8_appendInput_47 : decode cX8_appendInput 47 = .ok (.aload_n 0, 1) := by decide +kernel
theorem dX8_appendInput_48 : decode cX8_appendInput 48 = .ok (.getfield 159, 3) := by decide +kernel
theorem dX8_appendInput_51 : decode cX8_appendInput 51 = .ok (.ireturn, 1) := by decide +kernel
/-! BusLiftsModel.appendInput(IIIII)I -/
noncomputable def f_X8_appendInput  (σ : Sg) (v1 : Int32) (v2 : Int32) (v3 : Int32) (v4 : Int32) (v5 : Int32) : Option (Int32 × Sg) := st (sup σ 8 0 8 0) fun σ1 => (if ((σ1 8 0 10) + 20) ≤ 700 then (bv (f_X8_appendWord σ1 v1) fun σ2 => (bv (f_X8_appendWord σ2 v2) fun σ3 => (bv (f_X8_appendWord σ3 v3) fun σ4 => (bv (f_X8_appendWord σ4 v4) fun σ5 => (bv (f_X8_appendWord σ5 v5) fun σ6 => (some ((σ6 8 0 10), σ6))))))) else (some ((-1), σ1)))
set_option maxHeartbeats 4000000 in
set_option maxRecDepth 100000 in
theorem w_X8_appendInput_0 {p : Program} {l : Launch} {e : Env} {s : State} {m : MethodId} {args : Array Value} {below : List Frame} {meth : Method} {c : Code} {G : Gx} {ad : Ad} {res : Int32 × Sg} (C : Cx p s m args meth c yX8_appendInput.cls cX8_appendInput 6 (Option.some FieldType.int) G)  : ∀ (σ : Sg) (v1 : Int32) (v2 : Int32) (v3 : Int32) (v4 : Int32) (v5 : Int32) (H : Heap) (locs : List Loc) (ls : Array Slot), z_S 1 G ad σ (z_A 1 ad s.heap.size) s.heap H locs → lv_has ls 6 [(0, .ref (ad 8 0)), (1, .int v1), (2, .int v2), (3, .int v3), (4, .int v4), (5, .int v5)] → f_X8_appendInput  σ v1 v2 v3 v4 v5 = some res → W p l e { frames := 1, cells := 0, slots := 0, locals := 22 } s m args below meth c H locs 0 0 (MQ below (va_Qi (S := Unit) (fun r1 _ => r1 = res.1) (fun _ t => z_W 1 G ad res.2 t.heap) (z_A 1 ad s.heap.size)) args s 0 0 (z_A 1 ad s.heap.size)) (F0 m 0 ls []) := by
  intro σ v1 v2 v3 v4 v5 H locs ls S hl  hf
  unfold f_X8_appendInput at hf
  refine lv_aload_n C.1 C.2.1 dX8_appendInput_0 rfl (lv_at hl 0 rfl) ?_
  refine lv_iconst (v := 0) C.1 C.2.1 dX8_appendInput_1 (by decide) ?_
  obtain ⟨σ1, e_2, hf⟩ := stb hf
  refine z_putI C S 8 0 rfl (by decide) cf_8 8 (by decide) (pi_8_8 G ad 0) rfl rfl rfl tw_6_126 dX8_appendInput_2 (fun H locs S => ?_)
  rw [← e_2] at S
  refine lv_aload_n C.1 C.2.1 dX8_appendInput_5 rfl (lv_at hl 0 rfl) ?_
  refine z_getI C S 8 0 rfl (by decide) cf_8 10 (by decide) (gi_8_10 G ad 0) tw_6_128 dX8_appendInput_6 ?_
  refine lv_bipush (v := 20) C.1 C.2.1 dX8_appendInput_9 (by decide) ?_
  refine lv_iadd C.1 C.2.1 dX8_appendInput_11 ?_
  refine lv_sipush (v := 700) C.1 C.2.1 dX8_appendInput_12 (by decide) ?_
  refine lv_icmp_le (tgt := 20) C.1 C.2.1 dX8_appendInput_15 (by decide) (fun c_15 => ?_) (fun c_15 => ?_)
  · rw [if_pos c_15] at hf
    refine lv_aload_n C.1 C.2.1 dX8_appendInput_20 rfl (lv_at hl 0 rfl) ?_
    refine lv_iload_n C.1 C.2.1 dX8_appendInput_21 rfl (lv_at hl 1 rfl) ?_
    obtain ⟨σ2, q_22, hf⟩ := bvb hf
    refine z_callV C S 8 0 rfl (by decide) cf_8 ⟨_, rfl⟩ [.int v1] (m_X8_appendWord l G ad σ1 v1 σ2 q_22 _) kv_X8_appendWord tw_6_196 ⟨Nat.le_of_ble_eq_true rfl, Nat.le_of_ble_eq_true rfl⟩ rfl rfl (Nat.le_of_ble_eq_true rfl) hl.1 ⟨Nat.le_of_ble_eq_true rfl, Nat.le_of_ble_eq_true rfl⟩ dX8_appendInput_22 (fun H locs S => ?_)
    refine lv_aload_n C.1 C.2.1 dX8_appendInput_25 rfl (lv_at hl 0 rfl) ?_
    refine lv_iload_n C.1 C.2.1 dX8_appendInput_26 rfl (lv_at hl 2 rfl) ?_
    obtain ⟨σ3, q_27, hf⟩ := bvb hf
    refine z_callV C S 8 0 rfl (by decide) cf_8 ⟨_, rfl⟩ [.int v2] (m_X8_appendWord l G ad σ2 v2 σ3 q_27 _) kv_X8_appendWord tw_6_196 ⟨Nat.le_of_ble_eq_true rfl, Nat.le_of_ble_eq_true rfl⟩ rfl rfl (Nat.le_of_ble_eq_true rfl) hl.1 ⟨Nat.le_of_ble_eq_true rfl, Nat.le_of_ble_eq_true rfl⟩ dX8_appendInput_27 (fun H locs S => ?_)
    refine lv_aload_n C.1 C.2.1 dX8_appendInput_30 rfl (lv_at hl 0 rfl) ?_
    refine lv_iload_n C.1 C.2.1 dX8_appendInput_31 rfl (lv_at hl 3 rfl) ?_
    obtain ⟨σ4, q_32, hf⟩ := bvb hf
    refine z_callV C S 8 0 rfl (by decide) cf_8 ⟨_, rfl⟩ [.int v3] (m_X8_appendWord l G ad σ3 v3 σ4 q_32 _) kv_X8_appendWord tw_6_196 ⟨Nat.le_of_ble_eq_true rfl, Nat.le_of_ble_eq_true rfl⟩ rfl rfl (Nat.le_of_ble_eq_true rfl) hl.1 ⟨Nat.le_of_ble_eq_true rfl, Nat.le_of_ble_eq_true rfl⟩ dX8_appendInput_32 (fun H locs S => ?_)
    refine lv_aload_n C.1 C.2.1 dX8_appendInput_35 rfl (lv_at hl 0 rfl) ?_
    refine lv_iload C.1 C.2.1 dX8_appendInput_36 (lv_at hl 4 rfl) ?_
    obtain ⟨σ5, q_38, hf⟩ := bvb hf
    refine z_callV C S 8 0 rfl (by decide) cf_8 ⟨_, rfl⟩ [.int v4] (m_X8_appendWord l G ad σ4 v4 σ5 q_38 _) kv_X8_appendWord tw_6_196 ⟨Nat.le_of_ble_eq_true rfl, Nat.le_of_ble_eq_true rfl⟩ rfl rfl (Nat.le_of_ble_eq_true rfl) hl.1 ⟨Nat.le_of_ble_eq_true rfl, Nat.le_of_ble_eq_true rfl⟩ dX8_appendInput_38 (fun H locs S => ?_)
    refine lv_aload_n C.1 C.2.1 dX8_appendInput_41 rfl (lv_at hl 0 rfl) ?_
    refine lv_iload C.1 C.2.1 dX8_appendInput_42 (lv_at hl 5 rfl) ?_
    obtain ⟨σ6, q_44, hf⟩ := bvb hf
    refine z_callV C S 8 0 rfl (by decide) cf_8 ⟨_, rfl⟩ [.int v5] (m_X8_appendWord l G ad σ5 v5 σ6 q_44 _) kv_X8_appendWord tw_6_196 ⟨Nat.le_of_ble_eq_true rfl, Nat.le_of_ble_eq_true rfl⟩ rfl rfl (Nat.le_of_ble_eq_true rfl) hl.1 ⟨Nat.le_of_ble_eq_true rfl, Nat.le_of_ble_eq_true rfl⟩ dX8_appendInput_44 (fun H locs S => ?_)
    refine lv_aload_n C.1 C.2.1 dX8_appendInput_47 rfl (lv_at hl 0 rfl) ?_
    refine z_getI C S 8 0 rfl (by decide) cf_8 10 (by decide) (gi_8_10 G ad 0) tw_6_128 dX8_appendInput_48 ?_
    exact z_iret C S hf dX8_appendInput_51
  · rw [if_neg c_15] at hf
    refine lv_iconst (v := (-1)) C.1 C.2.1 dX8_appendInput_18 (by decide) ?_
    exact z_iret C S hf dX8_appendInput_19
theorem kv_X8_appendInput : KV yX8_appendInput cX8_appendInput 6 (Option.some FieldType.int) 5 := ⟨tw_6_195, tw_6_193, tw_6_194, tw_1_10, by decide, by decide, by decide +kernel⟩
theorem m_X8_appendInput (l : Launch) (G : Gx) (ad : Ad) (σ : Sg) (v1 : Int32) (v2 : Int32) (v3 : Int32) (v4 : Int32) (v5 : Int32) (r : Int32) (σ' : Sg)  (hf : f_X8_appendInput σ v1 v2 v3 v4 v5 = some (r, σ')) (sz : Nat) : z_MI l yX8_appendInput cX8_appendInput 6 (Option.some FieldType.int) 1 22 1 G ad σ sz [.ref (ad 8 0), .int v1, .int v2, .int v3, .int v4, .int v5] r σ' := by
  refine z_begin (by decide +kernel) (Nat.le_of_ble_eq_true rfl) [(0, .ref (ad 8 0)), (1, .int v1), (2, .int v2), (3, .int v3), (4, .int v4), (5, .int v5)] rfl (fun p e s m args below meth c ls C hz S hl => ?_)
  subst hz
  exact w_X8_appendInput_0 (res := (r, σ')) C σ v1 v2 v3 v4 v5 _ _ _ S hl  hf

theorem dX8_inRange_0 : decode cX8_inRange 0 = .ok (.iload_n 0, 1) := by decide +kernel
theorem dX8_inRange_1 : decode cX8_inRange 1 = .ok (.iload_n 1, 1) := by decide +kernel
theorem dX8_inRange_2 : decode cX8_inRange 2 = .ok (.if_icmp .lt 12, 3) := by decide +kernel
theorem dX8_inRange_5 : decode cX8_inRange 5 = .ok (.iload_n 0, 1) := by decide +kernel
theorem dX8_inRange_6 : decode cX8_inRange 6 = .ok (.iload_n 2, 1) := by decide +kernel
theorem dX8_inRange_7 : decode cX8_inRange 7 = .ok (.if_icmp .gt 7, 3) := by decide +kernel
theorem dX8_inRange_10 : decode cX8_inRange 10 = .ok (.iconst 1, 1) := by decide +kernel
theorem dX8_inRange_11 : decode cX8_inRange 11 = .ok (.goto 4, 3) := by decide +kernel
theorem dX8_inRange_14 : decode cX8_inRange 14 = .ok (.iconst 0, 1) := by decide +kernel
theorem dX8_inRange_15 : decode cX8_inRange 15 = .ok (.ireturn, 1) := by decide +kernel
/-! BusLiftsModel.inRange(III)Z -/
noncomputable def f_X8_inRange_15  (σ : Sg) (v100 : Int32) : Option (Int32 × Sg) := if ¬ (v100 = 0 ∨ v100 = 1) then none else (some (v100, σ))
noncomputable def f_X8_inRange_14  (σ : Sg)  : Option (Int32 × Sg) := f_X8_inRange_15 σ 0
noncomputable def f_X8_inRange  (σ : Sg) (v0 : Int32) (v1 : Int32) (v2 : Int32) : Option (Int32 × Sg) := if v0 < v1 then (f_X8_inRange_14 σ) else (if v2 < v0 then (f_X8_inRange_14 σ) else (f_X8_inRange_15 σ 1))
set_option maxHeartbeats 4000000 in
set_option maxRecDepth 100000 in
theorem w_X8_inRange_15 {p : Program} {l : Launch} {e : Env} {s : State} {m : MethodId} {args : Array Value} {below : List Frame} {meth : Method} {c : Code} {G : Gx} {ad : Ad} {res : Int32 × Sg} (C : Cx p s m args meth c yX8_inRange.cls cX8_inRange 3 (Option.some FieldType.boolean) G)  : ∀ (σ : Sg) (v100 : Int32) (H : Heap) (locs : List Loc) (ls : Array Slot), z_S 1 G ad σ (z_A 1 ad s.heap.size) s.heap H locs → lv_has ls 3 [] → f_X8_inRange_15  σ v100 = some res → W p l e { frames := 0, cells := 0, slots := 0, locals := 0 } s m args below meth c H locs 0 0 (MQ below (va_Qi (S := Unit) (fun r1 _ => r1 = res.1) (fun _ t => z_W 1 G ad res.2 t.heap) (z_A 1 ad s.heap.size)) args s 0 0 (z_A 1 ad s.heap.size)) (F0 m 15 ls [.int v100]) := by
  intro σ v100 H locs ls S hl  hf
  unfold f_X8_inRange_15 at hf
  obtain ⟨g_15, hf⟩ := gd hf
  exact z_zret C S (nbz g_15).1 hf dX8_inRange_15
set_option maxHeartbeats 4000000 in
set_option maxRecDepth 100000 in
theorem w_X8_inRange_14 {p : Program} {l : Launch} {e : Env} {s : State} {m : MethodId} {args : Array Value} {below : List Frame} {meth : Method} {c : Code} {G : Gx} {ad : Ad} {res : Int32 × Sg} (C : Cx p s m args meth c yX8_inRange.cls cX8_inRange 3 (Option.some FieldType.boolean) G)  : ∀ (σ : Sg)  (H : Heap) (locs : List Loc) (ls : Array Slot), z_S 1 G ad σ (z_A 1 ad s.heap.size) s.heap H locs → lv_has ls 3 [] → f_X8_inRange_14  σ  = some res → W p l e { frames := 0, cells := 0, slots := 0, locals := 0 } s m args below meth c H locs 0 0 (MQ below (va_Qi (S := Unit) (fun r1 _ => r1 = res.1) (fun _ t => z_W 1 G ad res.2 t.heap) (z_A 1 ad s.heap.size)) args s 0 0 (z_A 1 ad s.heap.size)) (F0 m 14 ls []) := by
  intro σ  H locs ls S hl  hf
  unfold f_X8_inRange_14 at hf
  refine lv_iconst (v := 0) C.1 C.2.1 dX8_inRange_14 (by decide) ?_
  exact w_X8_inRange_15 C _ 0 _ _ _ S (lv_sub hl [] rfl) hf
set_option maxHeartbeats 4000000 in
set_option maxRecDepth 100000 in
theorem w_X8_inRange_0 {p : Program} {l : Launch} {e : Env} {s : State} {m : MethodId} {args : Array Value} {below : List Frame} {meth : Method} {c : Code} {G : Gx} {ad : Ad} {res : Int32 × Sg} (C : Cx p s m args meth c yX8_inRange.cls cX8_inRange 3 (Option.some FieldType.boolean) G)  : ∀ (σ : Sg) (v0 : Int32) (v1 : Int32) (v2 : Int32) (H : Heap) (locs : List Loc) (ls : Array Slot), z_S 1 G ad σ (z_A 1 ad s.heap.size) s.heap H locs → lv_has ls 3 [(0, .int v0), (1, .int v1), (2, .int v2)] → f_X8_inRange  σ v0 v1 v2 = some res → W p l e { frames := 0, cells := 0, slots := 0, locals := 0 } s m args below meth c H locs 0 0 (MQ below (va_Qi (S := Unit) (fun r1 _ => r1 = res.1) (fun _ t => z_W 1 G ad res.2 t.heap) (z_A 1 ad s.heap.size)) args s 0 0 (z_A 1 ad s.heap.size)) (F0 m 0 ls []) := by
  intro σ v0 v1 v2 H locs ls S hl  hf
  unfold f_X8_inRange at hf
  refine lv_iload_n C.1 C.2.1 dX8_inRange_0 rfl (lv_at hl 0 rfl) ?_
  refine lv_iload_n C.1 C.2.1 dX8_inRange_1 rfl (lv_at hl 1 rfl) ?_
  refine lv_icmp_lt (tgt := 14) C.1 C.2.1 dX8_inRange_2 (by decide) (fun c_2 => ?_) (fun c_2 => ?_)
  · rw [if_pos c_2] at hf
    exact w_X8_inRange_14 C _ _ _ _ S (lv_sub hl [] rfl) hf
  · rw [if_neg c_2] at hf
    refine lv_iload_n C.1 C.2.1 dX8_inRange_5 rfl (lv_at hl 0 rfl) ?_
    refine lv_iload_n C.1 C.2.1 dX8_inRange_6 rfl (lv_at hl 2 rfl) ?_
    refine lv_icmp_gt (tgt := 14) C.1 C.2.1 dX8_inRange_7 (by decide) (fun c_7 => ?_) (fun c_7 => ?_)
    · rw [if_pos c_7] at hf
      exact w_X8_inRange_14 C _ _ _ _ S (lv_sub hl [] rfl) hf
    · rw [if_neg c_7] at hf
      refine lv_iconst (v := 1) C.1 C.2.1 dX8_inRange_10 (by decide) ?_
      refine lv_goto (tgt := 15) C.1 C.2.1 dX8_inRange_11 (by decide) ?_
      exact w_X8_inRange_15 C _ 1 _ _ _ S (lv_sub hl [] rfl) hf
theorem kv_X8_inRange : KS yX8_inRange cX8_inRange 3 (Option.some FieldType.boolean) 3 := ⟨tw_6_206, tw_6_205, tw_1_10, by decide, by decide, by decide +kernel⟩
theorem m_X8_inRange (l : Launch) (G : Gx) (ad : Ad) (σ : Sg) (v0 : Int32) (v1 : Int32) (v2 : Int32) (r : Int32) (σ' : Sg)  (hf : f_X8_inRange σ v0 v1 v2 = some (r, σ')) (sz : Nat) : z_MI l yX8_inRange cX8_inRange 3 (Option.some FieldType.boolean) 0 0 1 G ad σ sz [.int v0, .int v1, .int v2] r σ' := by
  refine z_begin (by decide +kernel) (Nat.le_of_ble_eq_true rfl) [(0, .int v0), (1, .int v1), (2, .int v2)] rfl (fun p e s m args below meth c ls C hz S hl => ?_)
  subst hz
  exact w_X8_inRange_0 (res := (r, σ')) C σ v0 v1 v2 _ _ _ S hl  hf

theorem dX8_truncateInput_0 : decode cX8_truncateInput 0 = .ok (.aload_n 0, 1) := by decide +kernel
theorem dX8_truncateInput_1 : decode cX8_truncateInput 1 = .ok (.iconst 0, 1) := by decide +kernel
theorem dX8_truncateInput_2 : decode cX8_truncateInput 2 = .ok (.putfield 48, 3) := by decide +kernel
theorem dX8_truncateInput_5 : decode cX8_truncateInput 5 = .ok (.iload_n 1, 1) := by decide +kernel
theorem dX8_truncateInput_6 : decode cX8_truncateInput 6 = .ok (.iconst 0, 1) := by decide +kernel
theorem dX8_truncateInput_7 : decode cX8_truncateInput 7 = .ok (.aload_n 0, 1) := by decide +kernel
theorem dX8_truncateInput_8 : decode cX8_truncateInput 8 = .ok (.getfield 159, 3) := by decide +kernel
theorem dX8_truncateInput_11 : decode cX8_truncateInput 11 = .ok (.invokestatic 165, 3) := by decide +kernel
theorem dX8_truncateInput_14 : decode cX8_truncateInput 14 = .ok (.ifCond .ne 5, 3) := by decide +kernel
theorem dX8_truncateInput_17 : decode cX8_truncateInput 17 = .ok (.iconst 0, 1) := by decide +kernel
theorem dX8_truncateInput_18 : decode cX8_truncateInput 18 = .ok (.ireturn, 1) := by decide +kernel
theorem dX8_truncateInput_19 : decode cX8_truncateInput 19 = .ok (.aload_n 0, 1) := by decide +kernel
theorem dX8_truncateInput_20 : decode cX8_truncateInput 20 = .ok (.iload_n 1, 1) := by decide +kernel
theorem dX8_truncateInput_21 : decode cX8_truncateInput 21 = .ok (.putfield 159, 3) := by decide +kernel
theorem dX8_truncateInput_24 : decode cX8_truncateInput 24 = .ok (.iconst 1, 1) := by decide +kernel
theorem dX8_truncateInput_25 : decode cX8_truncateInput 25 = .ok (.ireturn, 1) := by decide +kernel
/-! BusLiftsModel.truncateInput(I)Z -/
noncomputable def f_X8_truncateInput  (σ : Sg) (v1 : Int32) : Option (Int32 × Sg) := st (sup σ 8 0 8 0) fun σ1 => (bi (f_X8_inRange σ1 v1 0 (σ1 8 0 10)) fun r3 σ2 => (if r3 = 0 then (some (0, σ2)) else (st (sup σ2 8 0 10 v1) fun σ4 => (some (1, σ4)))))
set_option maxHeartbeats 4000000 in
set_option maxRecDepth 100000 in
theorem w_X8_truncateInput_0 {p : Program} {l : Launch} {e : Env} {s : State} {m : MethodId} {args : Array Value} {below : List Frame} {meth : Method} {c : Code} {G : Gx} {ad : Ad} {res : Int32 × Sg} (C : Cx p s m args meth c yX8_truncateInput.cls cX8_truncateInput 2 (Option.some FieldType.boolean) G)  : ∀ (σ : Sg) (v1 : Int32) (H : Heap) (locs : List Loc) (ls : Array Slot), z_S 1 G ad σ (z_A 1 ad s.heap.size) s.heap H locs → lv_has ls 2 [(0, .ref (ad 8 0)), (1, .int v1)] → f_X8_truncateInput  σ v1 = some res → W p l e { frames := 1, cells := 0, slots := 0, locals := 22 } s m args below meth c H locs 0 0 (MQ below (va_Qi (S := Unit) (fun r1 _ => r1 = res.1) (fun _ t => z_W 1 G ad res.2 t.heap) (z_A 1 ad s.heap.size)) args s 0 0 (z_A 1 ad s.heap.size)) (F0 m 0 ls []) := by
  intro σ v1 H locs ls S hl  hf
  unfold f_X8_truncateInput at hf
  refine lv_aload_n C.1 C.2.1 dX8_truncateInput_0 rfl (lv_at hl 0 rfl) ?_
  refine lv_iconst (v := 0) C.1 C.2.1 dX8_truncateInput_1 (by decide) ?_
  obtain ⟨σ1, e_2, hf⟩ := stb hf
  refine z_putI C S 8 0 rfl (by decide) cf_8 8 (by decide) (pi_8_8 G ad 0) rfl rfl rfl tw_6_126 dX8_truncateInput_2 (fun H locs S => ?_)
  rw [← e_2] at S
  refine lv_iload_n C.1 C.2.1 dX8_truncateInput_5 rfl (lv_at hl 1 rfl) ?_
  refine lv_iconst (v := 0) C.1 C.2.1 dX8_truncateInput_6 (by decide) ?_
  refine lv_aload_n C.1 C.2.1 dX8_truncateInput_7 rfl (lv_at hl 0 rfl) ?_
  refine z_getI C S 8 0 rfl (by decide) cf_8 10 (by decide) (gi_8_10 G ad 0) tw_6_128 dX8_truncateInput_8 ?_
  obtain ⟨r3, σ2, q_11, hf⟩ := bib hf
  refine z_callSI C S [.int v1, .int 0, .int (σ1 8 0 10)] (m_X8_inRange l G ad σ1 v1 0 (σ1 8 0 10) r3 σ2 q_11 _) kv_X8_inRange tw_6_204 ⟨Nat.le_of_ble_eq_true rfl, Nat.le_of_ble_eq_true rfl⟩ rfl rfl (Nat.le_of_ble_eq_true rfl) hl.1 ⟨Nat.le_of_ble_eq_true rfl, Nat.le_of_ble_eq_true rfl⟩ dX8_truncateInput_11 (fun H locs S => ?_)
  refine lv_if_ne (tgt := 19) C.1 C.2.1 dX8_truncateInput_14 (by decide) (fun c_14 => ?_) (fun c_14 => ?_)
  · rw [if_neg c_14] at hf
    refine lv_aload_n C.1 C.2.1 dX8_truncateInput_19 rfl (lv_at hl 0 rfl) ?_
    refine lv_iload_n C.1 C.2.1 dX8_truncateInput_20 rfl (lv_at hl 1 rfl) ?_
    obtain ⟨σ4, e_21, hf⟩ := stb hf
    refine z_putI C S 8 0 rfl (by decide) cf_8 10 (by decide) (pi_8_10 G ad 0) rfl rfl rfl tw_6_128 dX8_truncateInput_21 (fun H locs S => ?_)
    rw [← e_21] at S
    refine lv_iconst (v := 1) C.1 C.2.1 dX8_truncateInput_24 (by decide) ?_
    exact z_zret C S rfl hf dX8_truncateInput_25
  · rw [if_pos c_14] at hf
    refine lv_iconst (v := 0) C.1 C.2.1 dX8_truncateInput_17 (by decide) ?_
    exact z_zret C S rfl hf dX8_truncateInput_18
theorem kv_X8_truncateInput : KV yX8_truncateInput cX8_truncateInput 2 (Option.some FieldType.boolean) 1 := ⟨tw_6_203, tw_6_201, tw_6_202, tw_1_10, by decide, by decide, by decide +kernel⟩
theorem m_X8_truncateInput (l : Launch) (G : Gx) (ad : Ad) (σ : Sg) (v1 : Int32) (r : Int32) (σ' : Sg)  (hf : f_X8_truncateInput σ v1 = some (r, σ')) (sz : Nat) : z_MI l yX8_truncateInput cX8_truncateInput 2 (Option.some FieldType.boolean) 1 22 1 G ad σ sz [.ref (ad 8 0), .int v1] r σ' := by
  refine z_begin (by decide +kernel) (Nat.le_of_ble_eq_true rfl) [(0, .ref (ad 8 0)), (1, .int v1)] rfl (fun p e s m args below meth c ls C hz S hl => ?_)
  subst hz
  exact w_X8_truncateInput_0 (res := (r, σ')) C σ v1 _ _ _ S hl  hf

theorem dX8_copies_0 : decode cX8_copies 0 = .ok (.iconst 0, 1) := by decide +kernel
theorem dX8_copies_1 : decode cX8_copies 1 = .ok (.istore 5, 2) := by decide +kernel
theorem dX8_copies_3 : decode cX8_copies 3 = .ok (.iload 5, 2) := by decide +kernel
theorem dX8_copies_5 : decode cX8_copies 5 = .ok (.iload 4, 2) := by decide +kernel
theorem dX8_copies_7 : decode cX8_copies 7 = .ok (.if_icmp .ge 21, 3) := by decide +kernel
theorem dX8_copies_10 : decode cX8_copies 10 = .ok (.aload_n 2, 1) := by decide +kernel
theorem dX8_copies_11 : decode cX8_copies 11 = .ok (.iload_n 3, 1) := by decide +kernel
theorem dX8_copies_12 : decode cX8_copies 12 = .ok (.iload 5, 2) := by decide +kernel
theorem dX8_copies_14 : decode cX8_copies 14 = .ok (.iadd, 1) := by decide +kernel
theorem dX8_copies_15 : decode cX8_copies 15 = .ok (.aload_n 0, 1) := by decide +kernel
theorem dX8_copies_16 : decode cX8_copies 16 = .ok (.iload_n 1, 1) := by decide +kernel
theorem dX8_copies_17 : decode cX8_copies 17 = .ok (.iload 5, 2) := by decide +kernel
theorem dX8_copies_19 : decode cX8_copies 19 = .ok (.iadd, 1) := by decide +kernel
theorem dX8_copies_20 : decode cX8_copies 20 = .ok (.iaload, 1) := by decide +kernel
theorem dX8_copies_21 : decode cX8_copies 21 = .ok (.iastore, 1) := by decide +kernel
theorem dX8_copies_22 : decode cX8_copies 22 = .ok (.iinc 5 1, 3) := by decide +kernel
theorem dX8_copies_25 : decode cX8_copies 25 = .ok (.goto (-22), 3) := by decide +kernel
theorem dX8_copies_28 : decode cX8_copies 28 = .ok (.return_, 1) := by decide +kernel
/-! BusLiftsModel.copies([II[III)V -/
noncomputable def f_X8_copies_28  (σ : Sg)  : Option Sg := some σ
noncomputable def f_X8_copies_3  : Nat → Sg → Nat → Nat → Nat → Int32 → Nat → Nat → Nat → Int32 → Int32 → Int32 → Option Sg
  | 0, _, _, _, _, _, _, _, _, _, _, _ => none
  | n + 1, σ, ka0, oa0, na0, v1, ka2, oa2, na2, v3, v4, v5 => if v4 ≤ v5 then (f_X8_copies_28 σ) else (if (v1 + v5) < 0 ∨ na0 ≤ ((v1 + v5)).toNatClampNeg then none else (if (v3 + v5) < 0 ∨ na2 ≤ ((v3 + v5)).toNatClampNeg then none else (st (sup σ ka2 oa2 ((v3 + v5)).toNatClampNeg (σ ka0 oa0 ((v1 + v5)).toNatClampNeg)) fun σ1 => (f_X8_copies_3  n σ1 ka0 oa0 na0 v1 ka2 oa2 na2 v3 v4 (v5 + 1)))))
theorem f_X8_copies_3_s  (n : Nat) (σ : Sg) (ka0 oa0 na0 : Nat) (v1 : Int32) (ka2 oa2 na2 : Nat) (v3 : Int32) (v4 : Int32) (v5 : Int32) : f_X8_copies_3  (n + 1) σ ka0 oa0 na0 v1 ka2 oa2 na2 v3 v4 v5 = (if v4 ≤ v5 then (f_X8_copies_28 σ) else (if (v1 + v5) < 0 ∨ na0 ≤ ((v1 + v5)).toNatClampNeg then none else (if (v3 + v5) < 0 ∨ na2 ≤ ((v3 + v5)).toNatClampNeg then none else (st (sup σ ka2 oa2 ((v3 + v5)).toNatClampNeg (σ ka0 oa0 ((v1 + v5)).toNatClampNeg)) fun σ1 => (f_X8_copies_3  n σ1 ka0 oa0 na0 v1 ka2 oa2 na2 v3 v4 (v5 + 1)))))) := rfl
noncomputable def f_X8_copies  (σ : Sg) (ka0 oa0 na0 : Nat) (v1 : Int32) (ka2 oa2 na2 : Nat) (v3 : Int32) (v4 : Int32) : Option Sg := f_X8_copies_3 FU σ ka0 oa0 na0 v1 ka2 oa2 na2 v3 v4 0
set_option maxHeartbeats 4000000 in
set_option maxRecDepth 100000 in
theorem w_X8_copies_28 {p : Program} {l : Launch} {e : Env} {s : State} {m : MethodId} {args : Array Value} {below : List Frame} {meth : Method} {c : Code} {G : Gx} {ad : Ad} {res : Sg} (C : Cx p s m args meth c yX8_copies.cls cX8_copies 6 none G)  : ∀ (σ : Sg)  (H : Heap) (locs : List Loc) (ls : Array Slot), z_S 1 G ad σ (z_A 1 ad s.heap.size) s.heap H locs → lv_has ls 6 [] → f_X8_copies_28  σ  = some res → W p l e { frames := 0, cells := 0, slots := 0, locals := 0 } s m args below meth c H locs 0 0 (MQ below (va_Qv (S := Unit) (fun _ => True) (fun _ t => z_W 1 G ad res t.heap) (z_A 1 ad s.heap.size)) args s 0 0 (z_A 1 ad s.heap.size)) (F0 m 28 ls []) := by
  intro σ  H locs ls S hl  hf
  unfold f_X8_copies_28 at hf
  exact z_vret C S hf dX8_copies_28
set_option maxHeartbeats 4000000 in
set_option maxRecDepth 100000 in
theorem w_X8_copies_3 {p : Program} {l : Launch} {e : Env} {s : State} {m : MethodId} {args : Array Value} {below : List Frame} {meth : Method} {c : Code} {G : Gx} {ad : Ad} {res : Sg} (C : Cx p s m args meth c yX8_copies.cls cX8_copies 6 none G)  : ∀ n : Nat, ∀ (σ : Sg) (ka0 oa0 na0 : Nat) (v1 : Int32) (ka2 oa2 na2 : Nat) (v3 : Int32) (v4 : Int32) (v5 : Int32) (H : Heap) (locs : List Loc) (ls : Array Slot), z_S 1 G ad σ (z_A 1 ad s.heap.size) s.heap H locs → lv_has ls 6 [(0, .ref (ad ka0 oa0)), (1, .int v1), (2, .ref (ad ka2 oa2)), (3, .int v3), (4, .int v4), (5, .int v5)] → (z_side ka0 = 1) → (oa0 < z_cnt ka0) → (∀ (G : Gx) (ad : Ad) (o : Nat) (a : Nat → Int32), z_cel G ad ka0 o a = .inl (G.2.1 0, na0, .inl a)) → (z_side ka2 = 1) → (oa2 < z_cnt ka2) → (∀ (G : Gx) (ad : Ad) (o : Nat) (a : Nat → Int32), z_cel G ad ka2 o a = .inl (G.2.1 0, na2, .inl a)) → f_X8_copies_3  n σ ka0 oa0 na0 v1 ka2 oa2 na2 v3 v4 v5 = some res → W p l e { frames := 0, cells := 0, slots := 0, locals := 0 } s m args below meth c H locs 0 0 (MQ below (va_Qv (S := Unit) (fun _ => True) (fun _ t => z_W 1 G ad res t.heap) (z_A 1 ad s.heap.size)) args s 0 0 (z_A 1 ad s.heap.size)) (F0 m 3 ls []) := by
  intro n
  induction n with
  | zero => intro σ ka0 oa0 na0 v1 ka2 oa2 na2 v3 v4 v5 H locs ls S hl hs0 ho0 hc0 hs2 ho2 hc2 hf; cases hf
  | succ n ih =>
    intro σ ka0 oa0 na0 v1 ka2 oa2 na2 v3 v4 v5 H locs ls S hl hs0 ho0 hc0 hs2 ho2 hc2 hf
    rw [f_X8_copies_3_s] at hf
    refine lv_iload C.1 C.2.1 dX8_copies_3 (lv_at hl 5 rfl) ?_
    refine lv_iload C.1 C.2.1 dX8_copies_5 (lv_at hl 4 rfl) ?_
    refine lv_icmp_ge (tgt := 28) C.1 C.2.1 dX8_copies_7 (by decide) (fun c_7 => ?_) (fun c_7 => ?_)
    · rw [if_pos c_7] at hf
      exact w_X8_copies_28 C _ _ _ _ S (lv_sub hl [] rfl) hf
    · rw [if_neg c_7] at hf
      refine lv_aload_n C.1 C.2.1 dX8_copies_10 rfl (lv_at hl 2 rfl) ?_
      refine lv_iload_n C.1 C.2.1 dX8_copies_11 rfl (lv_at hl 3 rfl) ?_
      refine lv_iload C.1 C.2.1 dX8_copies_12 (lv_at hl 5 rfl) ?_
      refine lv_iadd C.1 C.2.1 dX8_copies_14 ?_
      refine lv_aload_n C.1 C.2.1 dX8_copies_15 rfl (lv_at hl 0 rfl) ?_
      refine lv_iload_n C.1 C.2.1 dX8_copies_16 rfl (lv_at hl 1 rfl) ?_
      refine lv_iload C.1 C.2.1 dX8_copies_17 (lv_at hl 5 rfl) ?_
      refine lv_iadd C.1 C.2.1 dX8_copies_19 ?_
      obtain ⟨g_20, hf⟩ := gd hf
      refine z_iald C S ka0 oa0 hs0 ho0 na0 (hc0 _ _ _) g_20 dX8_copies_20 ?_
      obtain ⟨g_21, hf⟩ := gd hf
      obtain ⟨σ1, e_21, hf⟩ := stb hf
      refine z_iast C S ka2 oa2 hs2 ho2 na2 (hc2 _ _ _) g_21 dX8_copies_21 (fun H locs S => ?_)
      rw [← e_21] at S
      refine lv_iinc (v := (v5 + 1)) (lv' := [(5, .int (v5 + 1)), (0, .ref (ad ka0 oa0)), (1, .int v1), (2, .ref (ad ka2 oa2)), (3, .int v3), (4, .int v4)]) C.1 C.2.1 dX8_copies_22 hl (k := 5) rfl rfl (by decide) rfl (fun ls hl => ?_)
      refine lv_goto (tgt := 3) C.1 C.2.1 dX8_copies_25 (by decide) ?_
      exact ih _ ka0 oa0 na0 v1 ka2 oa2 na2 v3 v4 (v5 + 1) _ _ _ S (lv_sub hl [1, 2, 3, 4, 5, 0] rfl) hs0 ho0 hc0 hs2 ho2 hc2 hf
set_option maxHeartbeats 4000000 in
set_option maxRecDepth 100000 in
theorem w_X8_copies_0 {p : Program} {l : Launch} {e : Env} {s : State} {m : MethodId} {args : Array Value} {below : List Frame} {meth : Method} {c : Code} {G : Gx} {ad : Ad} {res : Sg} (C : Cx p s m args meth c yX8_copies.cls cX8_copies 6 none G)  : ∀ (σ : Sg) (ka0 oa0 na0 : Nat) (v1 : Int32) (ka2 oa2 na2 : Nat) (v3 : Int32) (v4 : Int32) (H : Heap) (locs : List Loc) (ls : Array Slot), z_S 1 G ad σ (z_A 1 ad s.heap.size) s.heap H locs → lv_has ls 6 [(0, .ref (ad ka0 oa0)), (1, .int v1), (2, .ref (ad ka2 oa2)), (3, .int v3), (4, .int v4)] → (z_side ka0 = 1) → (oa0 < z_cnt ka0) → (∀ (G : Gx) (ad : Ad) (o : Nat) (a : Nat → Int32), z_cel G ad ka0 o a = .inl (G.2.1 0, na0, .inl a)) → (z_side ka2 = 1) → (oa2 < z_cnt ka2) → (∀ (G : Gx) (ad : Ad) (o : Nat) (a : Nat → Int32), z_cel G ad ka2 o a = .inl (G.2.1 0, na2, .inl a)) → f_X8_copies  σ ka0 oa0 na0 v1 ka2 oa2 na2 v3 v4 = some res → W p l e { frames := 0, cells := 0, slots := 0, locals := 0 } s m args below meth c H locs 0 0 (MQ below (va_Qv (S := Unit) (fun _ => True) (fun _ t => z_W 1 G ad res t.heap) (z_A 1 ad s.heap.size)) args s 0 0 (z_A 1 ad s.heap.size)) (F0 m 0 ls []) := by
  intro σ ka0 oa0 na0 v1 ka2 oa2 na2 v3 v4 H locs ls S hl hs0 ho0 hc0 hs2 ho2 hc2 hf
  unfold f_X8_copies at hf
  refine lv_iconst (v := 0) C.1 C.2.1 dX8_copies_0 (by decide) ?_
  refine lv_istore (lv' := [(5, .int 0), (0, .ref (ad ka0 oa0)), (1, .int v1), (2, .ref (ad ka2 oa2)), (3, .int v3), (4, .int v4)]) C.1 C.2.1 dX8_copies_1 hl (by decide) rfl (fun ls hl => ?_)
  exact w_X8_copies_3 C FU _ ka0 oa0 na0 v1 ka2 oa2 na2 v3 v4 0 _ _ _ S (lv_sub hl [1, 2, 3, 4, 5, 0] rfl) hs0 ho0 hc0 hs2 ho2 hc2 hf
theorem kv_X8_copies : KS yX8_copies cX8_copies 6 none 5 := ⟨tw_6_213, tw_6_212, tw_1_10, by decide, by decide, by decide +kernel⟩
theorem m_X8_copies (l : Launch) (G : Gx) (ad : Ad) (σ : Sg) (ka0 oa0 na0 : Nat) (v1 : Int32) (ka2 oa2 na2 : Nat) (v3 : Int32) (v4 : Int32) (σ' : Sg) (hs0 : z_side ka0 = 1) (ho0 : oa0 < z_cnt ka0) (hc0 : ∀ (G : Gx) (ad : Ad) (o : Nat) (a : Nat → Int32), z_cel G ad ka0 o a = .inl (G.2.1 0, na0, .inl a)) (hs2 : z_side ka2 = 1) (ho2 : oa2 < z_cnt ka2) (hc2 : ∀ (G : Gx) (ad : Ad) (o : Nat) (a : Nat → Int32), z_cel G ad ka2 o a = .inl (G.2.1 0, na2, .inl a)) (hf : f_X8_copies σ ka0 oa0 na0 v1 ka2 oa2 na2 v3 v4 = some σ') (sz : Nat) : z_MV l yX8_copies cX8_copies 6 none 0 0 1 G ad σ sz [.ref (ad ka0 oa0), .int v1, .ref (ad ka2 oa2), .int v3, .int v4] σ' := by
  refine z_begin (by decide +kernel) (Nat.le_of_ble_eq_true rfl) [(0, .ref (ad ka0 oa0)), (1, .int v1), (2, .ref (ad ka2 oa2)), (3, .int v3), (4, .int v4)] rfl (fun p e s m args below meth c ls C hz S hl => ?_)
  subst hz
  exact w_X8_copies_0 (res := σ') C σ ka0 oa0 na0 v1 ka2 oa2 na2 v3 v4 _ _ _ S hl hs0 ho0 hc0 hs2 ho2 hc2 hf

theorem dX8_byteAt_0 : decode cX8_byteAt 0 = .ok (.iload_n 1, 1) := by decide +kernel
theorem dX8_byteAt_1 : decode cX8_byteAt 1 = .ok (.aload_n 0, 1) := by decide +kernel
theorem dX8_byteAt_2 : decode cX8_byteAt 2 = .ok (.getfield 159, 3) := by decide +kernel
theorem dX8_byteAt_5 : decode cX8_byteAt 5 = .ok (.if_icmp .ge 12, 3) := by decide +kernel
theorem dX8_byteAt_8 : decode cX8_byteAt 8 = .ok (.aload_n 0, 1) := by decide +kernel
theorem dX8_byteAt_9 : decode cX8_byteAt 9 = .ok (.getfield 28, 3) := by decide +kernel
theorem dX8_byteAt_12 : decode cX8_byteAt 12 = .ok (.iload_n 1, 1) := by decide +kernel
theorem dX8_byteAt_13 : decode cX8_byteAt 13 = .ok (.iaload, 1) := by decide +kernel
theorem dX8_byteAt_14 : decode cX8_byteAt 14 = .ok (.goto 4, 3) := by decide +kernel
theorem dX8_byteAt_17 : decode cX8_byteAt 17 = .ok (.iconst (-1), 1) := by decide +kernel
theorem dX8_byteAt_18 : decode cX8_byteAt 18 = .ok (.ireturn, 1) := by decide +kernel
/-! BusLiftsModel.byteAt(I)I -/
noncomputable def f_X8_byteAt_18  (σ : Sg) (v100 : Int32) : Option (Int32 × Sg) := some (v100, σ)
noncomputable def f_X8_byteAt  (σ : Sg) (v1 : Int32) : Option (Int32 × Sg) := if (σ 8 0 10) ≤ v1 then (f_X8_byteAt_18 σ (-1)) else (if v1 < 0 ∨ 700 ≤ (v1).toNatClampNeg then none else (f_X8_byteAt_18 σ (σ 36 0 (v1).toNatClampNeg)))
set_option maxHeartbeats 4000000 in
set_option maxRecDepth 100000 in
theorem w_X8_byteAt_18 {p : Program} {l : Launch} {e : Env} {s : State} {m : MethodId} {args : Array Value} {below : List Frame} {meth : Method} {c : Code} {G : Gx} {ad : Ad} {res : Int32 × Sg} (C : Cx p s m args meth c yX8_byteAt.cls cX8_byteAt 2 (Option.some FieldType.int) G)  : ∀ (σ : Sg) (v100 : Int32) (H : Heap) (locs : List Loc) (ls : Array Slot), z_S 1 G ad σ (z_A 1 ad s.heap.size) s.heap H locs → lv_has ls 2 [] → f_X8_byteAt_18  σ v100 = some res → W p l e { frames := 0, cells := 0, slots := 0, locals := 0 } s m args below meth c H locs 0 0 (MQ below (va_Qi (S := Unit) (fun r1 _ => r1 = res.1) (fun _ t => z_W 1 G ad res.2 t.heap) (z_A 1 ad s.heap.size)) args s 0 0 (z_A 1 ad s.heap.size)) (F0 m 18 ls [.int v100]) := by
  intro σ v100 H locs ls S hl  hf
  unfold f_X8_byteAt_18 at hf
  exact z_iret C S hf dX8_byteAt_18
set_option maxHeartbeats 4000000 in
set_option maxRecDepth 100000 in
theorem w_X8_byteAt_0 {p : Program} {l : Launch} {e : Env} {s : State} {m : MethodId} {args : Array Value} {below : List Frame} {meth : Method} {c : Code} {G : Gx} {ad : Ad} {res : Int32 × Sg} (C : Cx p s m args meth c yX8_byteAt.cls cX8_byteAt 2 (Option.some FieldType.int) G)  : ∀ (σ : Sg) (v1 : Int32) (H : Heap) (locs : List Loc) (ls : Array Slot), z_S 1 G ad σ (z_A 1 ad s.heap.size) s.heap H locs → lv_has ls 2 [(0, .ref (ad 8 0)), (1, .int v1)] → f_X8_byteAt  σ v1 = some res → W p l e { frames := 0, cells := 0, slots := 0, locals := 0 } s m args below meth c H locs 0 0 (MQ below (va_Qi (S := Unit) (fun r1 _ => r1 = res.1) (fun _ t => z_W 1 G ad res.2 t.heap) (z_A 1 ad s.heap.size)) args s 0 0 (z_A 1 ad s.heap.size)) (F0 m 0 ls []) := by
  intro σ v1 H locs ls S hl  hf
  unfold f_X8_byteAt at hf
  refine lv_iload_n C.1 C.2.1 dX8_byteAt_0 rfl (lv_at hl 1 rfl) ?_
  refine lv_aload_n C.1 C.2.1 dX8_byteAt_1 rfl (lv_at hl 0 rfl) ?_
  refine z_getI C S 8 0 rfl (by decide) cf_8 10 (by decide) (gi_8_10 G ad 0) tw_6_128 dX8_byteAt_2 ?_
  refine lv_icmp_ge (tgt := 17) C.1 C.2.1 dX8_byteAt_5 (by decide) (fun c_5 => ?_) (fun c_5 => ?_)
  · rw [if_pos c_5] at hf
    refine lv_iconst (v := (-1)) C.1 C.2.1 dX8_byteAt_17 (by decide) ?_
    exact w_X8_byteAt_18 C _ (-1) _ _ _ S (lv_sub hl [] rfl) hf
  · rw [if_neg c_5] at hf
    refine lv_aload_n C.1 C.2.1 dX8_byteAt_8 rfl (lv_at hl 0 rfl) ?_
    refine z_getR C S 8 0 rfl (by decide) cf_8 9 (by decide) _ (gr_8_9 G ad 0) tw_6_127 dX8_byteAt_9 ?_
    refine lv_iload_n C.1 C.2.1 dX8_byteAt_12 rfl (lv_at hl 1 rfl) ?_
    obtain ⟨g_13, hf⟩ := gd hf
    refine z_iald C S 36 0 rfl (by decide) 700 (fun _ => rfl) g_13 dX8_byteAt_13 ?_
    refine lv_goto (tgt := 18) C.1 C.2.1 dX8_byteAt_14 (by decide) ?_
    exact w_X8_byteAt_18 C _ (σ 36 0 (v1).toNatClampNeg) _ _ _ S (lv_sub hl [] rfl) hf
theorem kv_X8_byteAt : KV yX8_byteAt cX8_byteAt 2 (Option.some FieldType.int) 1 := ⟨tw_6_221, tw_6_220, tw_p_45, tw_1_10, by decide, by decide, by decide +kernel⟩
theorem m_X8_byteAt (l : Launch) (G : Gx) (ad : Ad) (σ : Sg) (v1 : Int32) (r : Int32) (σ' : Sg)  (hf : f_X8_byteAt σ v1 = some (r, σ')) (sz : Nat) : z_MI l yX8_byteAt cX8_byteAt 2 (Option.some FieldType.int) 0 0 1 G ad σ sz [.ref (ad 8 0), .int v1] r σ' := by
  refine z_begin (by decide +kernel) (Nat.le_of_ble_eq_true rfl) [(0, .ref (ad 8 0)), (1, .int v1)] rfl (fun p e s m args below meth c ls C hz S hl => ?_)
  subst hz
  exact w_X8_byteAt_0 (res := (r, σ')) C σ v1 _ _ _ S hl  hf

theorem dX8_advanceToken_0 : decode cX8_advanceToken 0 = .ok (.aload_n 0, 1) := by decide +kernel
theorem dX8_advanceToken_1 : decode cX8_advanceToken 1 = .ok (.aload_n 0, 1) := by decide +kernel
theorem dX8_advanceToken_2 : decode cX8_advanceToken 2 = .ok (.getfield 169, 3) := by decide +kernel
theorem dX8_advanceToken_5 : decode cX8_advanceToken 5 = .ok (.invokevirtual 172, 3) := by decide +kernel
theorem dX8_advanceToken_8 : decode cX8_advanceToken 8 = .ok (.bipush 32, 2) := by decide +kernel
theorem dX8_advanceToken_10 : decode cX8_advanceToken 10 = .ok (.if_icmp .eq 16, 3) := by decide +kernel
theorem dX8_advanceToken_13 : decode cX8_advanceToken 13 = .ok (.aload_n 0, 1) := by decide +kernel
theorem dX8_advanceToken_14 : decode cX8_advanceToken 14 = .ok (.aload_n 0, 1) := by decide +kernel
theorem dX8_advanceToken_15 : decode cX8_advanceToken 15 = .ok (.getfield 169, 3) := by decide +kernel
theorem dX8_advanceToken_18 : decode cX8_advanceToken 18 = .ok (.invokevirtual 172, 3) := by decide +kernel
theorem dX8_advanceToken_21 : decode cX8_advanceToken 21 = .ok (.bipush 10, 2) := by decide +kernel
theorem dX8_advanceToken_23 : decode cX8_advanceToken 23 = .ok (.if_icmp .ne 16, 3) := by decide +kernel
theorem dX8_advanceToken_26 : decode cX8_advanceToken 26 = .ok (.aload_n 0, 1) := by decide +kernel
theorem dX8_advanceToken_27 : decode cX8_advanceToken 27 = .ok (.dup, 1) := by decide +kernel
theorem dX8_advanceToken_28 : decode cX8_advanceToken 28 = .ok (.getfield 169, 3) := by decide +kernel
theorem dX8_advanceToken_31 : decode cX8_advanceToken 31 = .ok (.iconst 1, 1) := by decide +kernel
theorem dX8_advanceToken_32 : decode cX8_advanceToken 32 = .ok (.iadd, 1) := by decide +kernel
theorem dX8_advanceToken_33 : decode cX8_advanceToken 33 = .ok (.putfield 169, 3) := by decide +kernel
theorem dX8_advanceToken_36 : decode cX8_advanceToken 36 = .ok (.goto (-36), 3) := by decide +kernel
theorem dX8_advanceToken_39 : decode cX8_advanceToken 39 = .ok (.aload_n 0, 1) := by decide +kernel
theorem dX8_advanceToken_40 : decode cX8_advanceToken 40 = .ok (.aload_n 0, 1) := by decide +kernel
theorem dX8_advanceToken_41 : decode cX8_advanceToken 41 = .ok (.getfield 169, 3) := by decide +kernel
theorem dX8_advanceToken_44 : decode cX8_advanceToken 44 = .ok (.putfield 175, 3) := by decide +kernel
theorem dX8_advanceToken_47 : decode cX8_advanceToken 47 = .ok (.aload_n 0, 1) := by decide +kernel
theorem dX8_advanceToken_48 : decode cX8_advanceToken 48 = .ok (.aload_n 0, 1) := by decide +kernel
theorem dX8_advanceToken_49 : decode cX8_advanceToken 49 = .ok (.getfield 169, 3) := by decide +kernel
theorem dX8_advanceToken_52 : decode cX8_advanceToken 52 = .ok (.invokevirtual 172, 3) := by decide +kernel
theorem dX8_advanceToken_55 : decode cX8_advanceToken 55 = .ok (.istore_n 1, 1) := by decide +kernel
theorem dX8_advanceToken_56 : decode cX8_advanceToken 56 = .ok (.aload_n 0, 1) := by decide +kernel
theorem dX8_advanceToken_57 : decode cX8_advanceToken 57 = .ok (.iconst 0, 1) := by decide +kernel
theorem dX8_advanceToken_58 : decode cX8_advanceToken 58 = .ok (.putfield 178, 3) := by decide +kernel
theorem dX8_advanceToken_61 : decode cX8_advanceToken 61 = .ok (.iload_n 1, 1) := by decide +kernel
theorem dX8_advanceToken_62 : decode cX8_advanceToken 62 = .ok (.iconst (-1), 1) := by decide +kernel
theorem dX8_advanceToken_63 : decode cX8_advanceToken 63 = .ok (.if_icmp .ne 11, 3) := by decide +kernel
theorem dX8_advanceToken_66 : decode cX8_advanceToken 66 = .ok (.aload_n 0, 1) := by decide +kernel
theorem dX8_advanceToken_67 : decode cX8_advanceToken 67 = .ok (.iconst 0, 1) := by decide +kernel
theorem dX8_advanceToken_68 : decode cX8_advanceToken 68 = .ok (.putfield 181, 3) := by decide +kernel
theorem dX8_advanceToken_71 : decode cX8_advanceToken 71 = .ok (.goto 158, 3) := by decide +kernel
theorem dX8_advanceToken_74 : decode cX8_advanceToken 74 = .ok (.iload_n 1, 1) := by decide +kernel
theorem dX8_advanceToken_75 : decode cX8_advanceToken 75 = .ok (.bipush 97, 2) := by decide +kernel
theorem dX8_advanceToken_77 : decode cX8_advanceToken 77 = .ok (.bipush 122, 2) := by decide +kernel
theorem dX8_advanceToken_79 : decode cX8_advanceToken 79 = .ok (.invokestatic 165, 3) := by decide +kernel
theorem dX8_advanceToken_82 : decode cX8_advanceToken 82 = .ok (.ifCond .eq 39, 3) := by decide +kernel
theorem dX8_advanceToken_85 : decode cX8_advanceToken 85 = .ok (.aload_n 0, 1) := by decide +kernel
theorem dX8_advanceToken_86 : decode cX8_advanceToken 86 = .ok (.iconst 1, 1) := by decide +kernel
theorem dX8_advanceToken_87 : decode cX8_advanceToken 87 = .ok (.putfield 181, 3) := by decide +kernel
theorem dX8_advanceToken_90 : decode cX8_advanceToken 90 = .ok (.aload_n 0, 1) := by decide +kernel
theorem dX8_advanceToken_91 : decode cX8_advanceToken 91 = .ok (.aload_n 0, 1) := by decide +kernel
theorem dX8_advanceToken_92 : decode cX8_advanceToken 92 = .ok (.getfield 169, 3) := by decide +kernel
theorem dX8_advanceToken_95 : decode cX8_advanceToken 95 = .ok (.invokevirtual 172, 3) := by decide +kernel
theorem dX8_advanceToken_98 : decode cX8_advanceToken 98 = .ok (.bipush 97, 2) := by decide +kernel
theorem dX8_advanceToken_100 : decode cX8_advanceToken 100 = .ok (.bipush 122, 2) := by decide +kernel
theorem dX8_advanceToken_102 : decode cX8_advanceToken 102 = .ok (.invokestatic 165, 3) := by decide +kernel
theorem dX8_advanceToken_105 : decode cX8_advanceToken 105 = .ok (.ifCond .eq 124, 3) := by decide +kernel
theorem dX8_advanceToken_108 : decode cX8_advanceToken 108 = .ok (.aload_n 0, 1) := by decide +kernel
theorem dX8_advanceToken_109 : decode cX8_advanceToken 109 = .ok (.dup, 1) := by decide +kernel
theorem dX8_advanceToken_110 : decode cX8_advanceToken 110 = .ok (.getfield 169, 3) := by decide +kernel
theorem dX8_advanceToken_113 : decode cX8_advanceToken 113 = .ok (.iconst 1, 1) := by decide +kernel
theorem dX8_advanceToken_114 : decode cX8_advanceToken 114 = .ok (.iadd, 1) := by decide +kernel
theorem dX8_advanceToken_115 : decode cX8_advanceToken 115 = .ok (.putfield 169, 3) := by decide +kernel
theorem dX8_advanceToken_118 : decode cX8_advanceToken 118 = .ok (.goto (-28), 3) := by decide +kernel
theorem dX8_advanceToken_121 : decode cX8_advanceToken 121 = .ok (.iload_n 1, 1) := by decide +kernel
theorem dX8_advanceToken_122 : decode cX8_advanceToken 122 = .ok (.bipush 48, 2) := by decide +kernel
theorem dX8_advanceToken_124 : decode cX8_advanceToken 124 = .ok (.bipush 57, 2) := by decide +kernel
theorem dX8_advanceToken_126 : decode cX8_advanceToken 126 = .ok (.invokestatic 165, 3) := by decide +kernel
theorem dX8_advanceToken_129 : decode cX8_advanceToken 129 = .ok (.ifCond .eq 75, 3) := by decide +kernel
theorem dX8_advanceToken_132 : decode cX8_advanceToken 132 = .ok (.aload_n 0, 1) := by decide +kernel
theorem dX8_advanceToken_133 : decode cX8_advanceToken 133 = .ok (.iconst 2, 1) := by decide +kernel
theorem dX8_advanceToken_134 : decode cX8_advanceToken 134 = .ok (.putfield 181, 3) := by decide +kernel
theorem dX8_advanceToken_137 : decode cX8_advanceToken 137 = .ok (.aload_n 0, 1) := by decide +kernel
theorem dX8_advanceToken_138 : decode cX8_advanceToken 138 = .ok (.aload_n 0, 1) := by decide +kernel
theorem dX8_advanceToken_139 : decode cX8_advanceToken 139 = .ok (.getfield 169, 3) := by decide +kernel
theorem dX8_advanceToken_142 : decode cX8_advanceToken 142 = .ok (.invokevirtual 172, 3) := by decide +kernel
theorem dX8_advanceToken_145 : decode cX8_advanceToken 145 = .ok (.bipush 48, 2) := by decide +kernel
theorem dX8_advanceToken_147 : decode cX8_advanceToken 147 = .ok (.bipush 57, 2) := by decide +kernel
theorem dX8_advanceToken_149 : decode cX8_advanceToken 149 = .ok (.invokestatic 165, 3) := by decide +kernel
theorem dX8_advanceToken_152 : decode cX8_advanceToken 152 = .ok (.ifCond .eq 77, 3) := by decide +kernel
theorem dX8_advanceToken_155 : decode cX8_advanceToken 155 = .ok (.aload_n 0, 1) := by decide +kernel
theorem dX8_advanceToken_156 : decode cX8_advanceToken 156 = .ok (.getfield 169, 3) := by decide +kernel
theorem dX8_advanceToken_159 : decode cX8_advanceToken 159 = .ok (.aload_n 0, 1) := by decide +kernel
theorem dX8_advanceToken_160 : decode cX8_advanceToken 160 = .ok (.getfield 175, 3) := by decide +kernel
theorem dX8_advanceToken_163 : decode cX8_advanceToken 163 = .ok (.isub, 1) := by decide +kernel
theorem dX8_advanceToken_164 : decode cX8_advanceToken 164 = .ok (.iconst 4, 1) := by decide +kernel
theorem dX8_advanceToken_165 : decode cX8_advanceToken 165 = .ok (.if_icmp .ge 26, 3) := by decide +kernel
theorem dX8_advanceToken_168 : decode cX8_advanceToken 168 = .ok (.aload_n 0, 1) := by decide +kernel
theorem dX8_advanceToken_169 : decode cX8_advanceToken 169 = .ok (.bipush 10, 2) := by decide +kernel
theorem dX8_advanceToken_171 : decode cX8_advanceToken 171 = .ok (.aload_n 0, 1) := by decide +kernel
theorem dX8_advanceToken_172 : decode cX8_advanceToken 172 = .ok (.getfield 178, 3) := by decide +kernel
theorem dX8_advanceToken_175 : decode cX8_advanceToken 175 = .ok (.imul, 1) := by decide +kernel
theorem dX8_advanceToken_176 : decode cX8_advanceToken 176 = .ok (.aload_n 0, 1) := by decide +kernel
theorem dX8_advanceToken_177 : decode cX8_advanceToken 177 = .ok (.aload_n 0, 1) := by decide +kernel
theorem dX8_advanceToken_178 : decode cX8_advanceToken 178 = .ok (.getfield 169, 3) := by decide +kernel
theorem dX8_advanceToken_181 : decode cX8_advanceToken 181 = .ok (.invokevirtual 172, 3) := by decide +kernel
theorem dX8_advanceToken_184 : decode cX8_advanceToken 184 = .ok (.iadd, 1) := by decide +kernel
theorem dX8_advanceToken_185 : decode cX8_advanceToken 185 = .ok (.bipush 48, 2) := by decide +kernel
theorem dX8_advanceToken_187 : decode cX8_advanceToken 187 = .ok (.isub, 1) := by decide +kernel
theorem dX8_advanceToken_188 : decode cX8_advanceToken 188 = .ok (.putfield 178, 3) := by decide +kernel
theorem dX8_advanceToken_191 : decode cX8_advanceToken 191 = .ok (.aload_n 0, 1) := by decide +kernel
theorem dX8_advanceToken_192 : decode cX8_advanceToken 192 = .ok (.dup, 1) := by decide +kernel
theorem dX8_advanceToken_193 : decode cX8_advanceToken 193 = .ok (.getfield 169, 3) := by decide +kernel
theorem dX8_advanceToken_196 : decode cX8_advanceToken 196 = .ok (.iconst 1, 1) := by decide +kernel
theorem dX8_advanceToken_197 : decode cX8_advanceToken 197 = .ok (.iadd, 1) := by decide +kernel
theorem dX8_advanceToken_198 : decode cX8_advanceToken 198 = .ok (.putfield 169, 3) := by decide +kernel
theorem dX8_advanceToken_201 : decode cX8_advanceToken 201 = .ok (.goto (-64), 3) := by decide +kernel
theorem dX8_advanceToken_204 : decode cX8_advanceToken 204 = .ok (.aload_n 0, 1) := by decide +kernel
theorem dX8_advanceToken_205 : decode cX8_advanceToken 205 = .ok (.iload_n 1, 1) := by decide +kernel
theorem dX8_advanceToken_206 : decode cX8_advanceToken 206 = .ok (.bipush 59, 2) := by decide +kernel
theorem dX8_advanceToken_208 : decode cX8_advanceToken 208 = .ok (.if_icmp .ne 7, 3) := by decide +kernel
theorem dX8_advanceToken_211 : decode cX8_advanceToken 211 = .ok (.iconst 3, 1) := by decide +kernel
theorem dX8_advanceToken_212 : decode cX8_advanceToken 212 = .ok (.goto 4, 3) := by decide +kernel
theorem dX8_advanceToken_215 : decode cX8_advanceToken 215 = .ok (.iconst 4, 1) := by decide +kernel
theorem dX8_advanceToken_216 : decode cX8_advanceToken 216 = .ok (.putfield 181, 3) := by decide +kernel
theorem dX8_advanceToken_219 : decode cX8_advanceToken 219 = .ok (.aload_n 0, 1) := by decide +kernel
theorem dX8_advanceToken_220 : decode cX8_advanceToken 220 = .ok (.dup, 1) := by decide +kernel
theorem dX8_advanceToken_221 : decode cX8_advanceToken 221 = .ok (.getfield 169, 3) := by decide +kernel
theorem dX8_advanceToken_224 : decode cX8_advanceToken 224 = .ok (.iconst 1, 1) := by decide +kernel
theorem dX8_advanceToken_225 : decode cX8_advanceToken 225 = .ok (.iadd, 1) := by decide +kernel
theorem dX8_advanceToken_226 : decode cX8_advanceToken 226 = .ok (.putfield 169, 3) := by decide +kernel
theorem dX8_advanceToken_229 : decode cX8_advanceToken 229 = .ok (.return_, 1) := by decide +kernel
/-! BusLiftsModel.advanceToken()V -/
noncomputable def f_X8_advanceToken_26 (k0 : Sg → Option Sg) (σ : Sg)  : Option Sg := st (sup σ 8 0 15 ((σ 8 0 15) + 1)) fun σ1 => (k0 σ1)
noncomputable def f_X8_advanceToken_229  (σ : Sg)  : Option Sg := some σ
noncomputable def f_X8_advanceToken_216  (σ : Sg) (v101 : Int32) : Option Sg := st (sup σ 8 0 18 v101) fun σ1 => (st (sup σ1 8 0 15 ((σ1 8 0 15) + 1)) fun σ2 => (f_X8_advanceToken_229 σ2))
noncomputable def f_X8_advanceToken_191 (k137 : Sg → Option Sg) (σ : Sg)  : Option Sg := st (sup σ 8 0 15 ((σ 8 0 15) + 1)) fun σ1 => (k137 σ1)
noncomputable def f_X8_advanceToken_137  : Nat → Sg → Option Sg
  | 0, _ => none
  | n + 1, σ => bi (f_X8_byteAt σ (σ 8 0 15)) fun r2 σ1 => (bi (f_X8_inRange σ1 r2 48 57) fun r4 σ3 => (if r4 = 0 then (f_X8_advanceToken_229 σ3) else (if 4 ≤ ((σ3 8 0 15) - (σ3 8 0 16)) then (f_X8_advanceToken_191 (f_X8_advanceToken_137 n) σ3) else (bi (f_X8_byteAt σ3 (σ3 8 0 15)) fun r6 σ5 => (st (sup σ5 8 0 17 (((10 * (σ3 8 0 17)) + r6) - 48)) fun σ7 => (f_X8_advanceToken_191 (f_X8_advanceToken_137 n) σ7))))))
theorem f_X8_advanceToken_137_s  (n : Nat) (σ : Sg)  : f_X8_advanceToken_137  (n + 1) σ  = (bi (f_X8_byteAt σ (σ 8 0 15)) fun r2 σ1 => (bi (f_X8_inRange σ1 r2 48 57) fun r4 σ3 => (if r4 = 0 then (f_X8_advanceToken_229 σ3) else (if 4 ≤ ((σ3 8 0 15) - (σ3 8 0 16)) then (f_X8_advanceToken_191 (f_X8_advanceToken_137 n) σ3) else (bi (f_X8_byteAt σ3 (σ3 8 0 15)) fun r6 σ5 => (st (sup σ5 8 0 17 (((10 * (σ3 8 0 17)) + r6) - 48)) fun σ7 => (f_X8_advanceToken_191 (f_X8_advanceToken_137 n) σ7))))))) := rfl
noncomputable def f_X8_advanceToken_90  : Nat → Sg → Option Sg
  | 0, _ => none
  | n + 1, σ => bi (f_X8_byteAt σ (σ 8 0 15)) fun r2 σ1 => (bi (f_X8_inRange σ1 r2 97 122) fun r4 σ3 => (if r4 = 0 then (f_X8_advanceToken_229 σ3) else (st (sup σ3 8 0 15 ((σ3 8 0 15) + 1)) fun σ5 => (f_X8_advanceToken_90  n σ5))))
theorem f_X8_advanceToken_90_s  (n : Nat) (σ : Sg)  : f_X8_advanceToken_90  (n + 1) σ  = (bi (f_X8_byteAt σ (σ 8 0 15)) fun r2 σ1 => (bi (f_X8_inRange σ1 r2 97 122) fun r4 σ3 => (if r4 = 0 then (f_X8_advanceToken_229 σ3) else (st (sup σ3 8 0 15 ((σ3 8 0 15) + 1)) fun σ5 => (f_X8_advanceToken_90  n σ5))))) := rfl
noncomputable def f_X8_advanceToken_39  (σ : Sg)  : Option Sg := st (sup σ 8 0 16 (σ 8 0 15)) fun σ1 => (bi (f_X8_byteAt σ1 (σ1 8 0 15)) fun r3 σ2 => (st (sup σ2 8 0 17 0) fun σ4 => (if r3 = (-1) then (st (sup σ4 8 0 18 0) fun σ11 => (f_X8_advanceToken_229 σ11)) else (bi (f_X8_inRange σ4 r3 97 122) fun r6 σ5 => (if r6 = 0 then (bi (f_X8_inRange σ5 r3 48 57) fun r8 σ7 => (if r8 = 0 then (if r3 = 59 then (f_X8_advanceToken_216 σ7 3) else (f_X8_advanceToken_216 σ7 4)) else (st (sup σ7 8 0 18 2) fun σ9 => (f_X8_advanceToken_137 FU σ9)))) else (st (sup σ5 8 0 18 1) fun σ10 => (f_X8_advanceToken_90 FU σ10)))))))
noncomputable def f_X8_advanceToken_0  : Nat → Sg → Option Sg
  | 0, _ => none
  | n + 1, σ => bi (f_X8_byteAt σ (σ 8 0 15)) fun r2 σ1 => (if r2 = 32 then (f_X8_advanceToken_26 (f_X8_advanceToken_0 n) σ1) else (bi (f_X8_byteAt σ1 (σ1 8 0 15)) fun r4 σ3 => (if r4 = 10 then (f_X8_advanceToken_26 (f_X8_advanceToken_0 n) σ3) else (f_X8_advanceToken_39 σ3))))
theorem f_X8_advanceToken_0_s  (n : Nat) (σ : Sg)  : f_X8_advanceToken_0  (n + 1) σ  = (bi (f_X8_byteAt σ (σ 8 0 15)) fun r2 σ1 => (if r2 = 32 then (f_X8_advanceToken_26 (f_X8_advanceToken_0 n) σ1) else (bi (f_X8_byteAt σ1 (σ1 8 0 15)) fun r4 σ3 => (if r4 = 10 then (f_X8_advanceToken_26 (f_X8_advanceToken_0 n) σ3) else (f_X8_advanceToken_39 σ3))))) := rfl
set_option maxHeartbeats 4000000 in
set_option maxRecDepth 100000 in
theorem w_X8_advanceToken_26 {p : Program} {l : Launch} {e : Env} {s : State} {m : MethodId} {args : Array Value} {below : List Frame} {meth : Method} {c : Code} {G : Gx} {ad : Ad} {res : Sg} (C : Cx p s m args meth c yX8_advanceToken.cls cX8_advanceToken 2 none G) (k0 : Sg → Option Sg) (hk0 : ∀ (σ : Sg)  (H : Heap) (locs : List Loc) (ls : Array Slot), z_S 1 G ad σ (z_A 1 ad s.heap.size) s.heap H locs → lv_has ls 2 [(0, .ref (ad 8 0))] → k0 σ  = some res → W p l e { frames := 1, cells := 0, slots := 0, locals := 22 } s m args below meth c H locs 0 0 (MQ below (va_Qv (S := Unit) (fun _ => True) (fun _ t => z_W 1 G ad res t.heap) (z_A 1 ad s.heap.size)) args s 0 0 (z_A 1 ad s.heap.size)) (F0 m 0 ls [])) : ∀ (σ : Sg)  (H : Heap) (locs : List Loc) (ls : Array Slot), z_S 1 G ad σ (z_A 1 ad s.heap.size) s.heap H locs → lv_has ls 2 [(0, .ref (ad 8 0))] → f_X8_advanceToken_26 k0 σ  = some res → W p l e { frames := 1, cells := 0, slots := 0, locals := 22 } s m args below meth c H locs 0 0 (MQ below (va_Qv (S := Unit) (fun _ => True) (fun _ t => z_W 1 G ad res t.heap) (z_A 1 ad s.heap.size)) args s 0 0 (z_A 1 ad s.heap.size)) (F0 m 26 ls []) := by
  intro σ  H locs ls S hl  hf
  unfold f_X8_advanceToken_26 at hf
  refine lv_aload_n C.1 C.2.1 dX8_advanceToken_26 rfl (lv_at hl 0 rfl) ?_
  refine lv_dup C.1 C.2.1 dX8_advanceToken_27 rfl ?_
  refine z_getI C S 8 0 rfl (by decide) cf_8 15 (by decide) (gi_8_15 G ad 0) tw_6_133 dX8_advanceToken_28 ?_
  refine lv_iconst (v := 1) C.1 C.2.1 dX8_advanceToken_31 (by decide) ?_
  refine lv_iadd C.1 C.2.1 dX8_advanceToken_32 ?_
  obtain ⟨σ1, e_33, hf⟩ := stb hf
  refine z_putI C S 8 0 rfl (by decide) cf_8 15 (by decide) (pi_8_15 G ad 0) rfl rfl rfl tw_6_133 dX8_advanceToken_33 (fun H locs S => ?_)
  rw [← e_33] at S
  refine lv_goto (tgt := 0) C.1 C.2.1 dX8_advanceToken_36 (by decide) ?_
  exact hk0 _  _ _ _ S (lv_sub hl [0] rfl)  hf
set_option maxHeartbeats 4000000 in
set_option maxRecDepth 100000 in
theorem w_X8_advanceToken_229 {p : Program} {l : Launch} {e : Env} {s : State} {m : MethodId} {args : Array Value} {below : List Frame} {meth : Method} {c : Code} {G : Gx} {ad : Ad} {res : Sg} (C : Cx p s m args meth c yX8_advanceToken.cls cX8_advanceToken 2 none G)  : ∀ (σ : Sg)  (H : Heap) (locs : List Loc) (ls : Array Slot), z_S 1 G ad σ (z_A 1 ad s.heap.size) s.heap H locs → lv_has ls 2 [] → f_X8_advanceToken_229  σ  = some res → W p l e { frames := 1, cells := 0, slots := 0, locals := 22 } s m args below meth c H locs 0 0 (MQ below (va_Qv (S := Unit) (fun _ => True) (fun _ t => z_W 1 G ad res t.heap) (z_A 1 ad s.heap.size)) args s 0 0 (z_A 1 ad s.heap.size)) (F0 m 229 ls []) := by
  intro σ  H locs ls S hl  hf
  unfold f_X8_advanceToken_229 at hf
  exact z_vret C S hf dX8_advanceToken_229
set_option maxHeartbeats 4000000 in
set_option maxRecDepth 100000 in
theorem w_X8_advanceToken_216 {p : Program} {l : Launch} {e : Env} {s : State} {m : MethodId} {args : Array Value} {below : List Frame} {meth : Method} {c : Code} {G : Gx} {ad : Ad} {res : Sg} (C : Cx p s m args meth c yX8_advanceToken.cls cX8_advanceToken 2 none G)  : ∀ (σ : Sg) (v101 : Int32) (H : Heap) (locs : List Loc) (ls : Array Slot), z_S 1 G ad σ (z_A 1 ad s.heap.size) s.heap H locs → lv_has ls 2 [(0, .ref (ad 8 0))] → f_X8_advanceToken_216  σ v101 = some res → W p l e { frames := 1, cells := 0, slots := 0, locals := 22 } s m args below meth c H locs 0 0 (MQ below (va_Qv (S := Unit) (fun _ => True) (fun _ t => z_W 1 G ad res t.heap) (z_A 1 ad s.heap.size)) args s 0 0 (z_A 1 ad s.heap.size)) (F0 m 216 ls [.int v101, .ref (ad 8 0)]) := by
  intro σ v101 H locs ls S hl  hf
  unfold f_X8_advanceToken_216 at hf
  obtain ⟨σ1, e_216, hf⟩ := stb hf
  refine z_putI C S 8 0 rfl (by decide) cf_8 18 (by decide) (pi_8_18 G ad 0) rfl rfl rfl tw_6_136 dX8_advanceToken_216 (fun H locs S => ?_)
  rw [← e_216] at S
  refine lv_aload_n C.1 C.2.1 dX8_advanceToken_219 rfl (lv_at hl 0 rfl) ?_
  refine lv_dup C.1 C.2.1 dX8_advanceToken_220 rfl ?_
  refine z_getI C S 8 0 rfl (by decide) cf_8 15 (by decide) (gi_8_15 G ad 0) tw_6_133 dX8_advanceToken_221 ?_
  refine lv_iconst (v := 1) C.1 C.2.1 dX8_advanceToken_224 (by decide) ?_
  refine lv_iadd C.1 C.2.1 dX8_advanceToken_225 ?_
  obtain ⟨σ2, e_226, hf⟩ := stb hf
  refine z_putI C S 8 0 rfl (by decide) cf_8 15 (by decide) (pi_8_15 G ad 0) rfl rfl rfl tw_6_133 dX8_advanceToken_226 (fun H locs S => ?_)
  rw [← e_226] at S
  exact w_X8_advanceToken_229 C _ _ _ _ S (lv_sub hl [] rfl) hf
set_option maxHeartbeats 4000000 in
set_option maxRecDepth 100000 in
theorem w_X8_advanceToken_191 {p : Program} {l : Launch} {e : Env} {s : State} {m : MethodId} {args : Array Value} {below : List Frame} {meth : Method} {c : Code} {G : Gx} {ad : Ad} {res : Sg} (C : Cx p s m args meth c yX8_advanceToken.cls cX8_advanceToken 2 none G) (k137 : Sg → Option Sg) (hk137 : ∀ (σ : Sg)  (H : Heap) (locs : List Loc) (ls : Array Slot), z_S 1 G ad σ (z_A 1 ad s.heap.size) s.heap H locs → lv_has ls 2 [(0, .ref (ad 8 0))] → k137 σ  = some res → W p l e { frames := 1, cells := 0, slots := 0, locals := 22 } s m args below meth c H locs 0 0 (MQ below (va_Qv (S := Unit) (fun _ => True) (fun _ t => z_W 1 G ad res t.heap) (z_A 1 ad s.heap.size)) args s 0 0 (z_A 1 ad s.heap.size)) (F0 m 137 ls [])) : ∀ (σ : Sg)  (H : Heap) (locs : List Loc) (ls : Array Slot), z_S 1 G ad σ (z_A 1 ad s.heap.size) s.heap H locs → lv_has ls 2 [(0, .ref (ad 8 0))] → f_X8_advanceToken_191 k137 σ  = some res → W p l e { frames := 1, cells := 0, slots := 0, locals := 22 } s m args below meth c H locs 0 0 (MQ below (va_Qv (S := Unit) (fun _ => True) (fun _ t => z_W 1 G ad res t.heap) (z_A 1 ad s.heap.size)) args s 0 0 (z_A 1 ad s.heap.size)) (F0 m 191 ls []) := by
  intro σ  H locs ls S hl  hf
  unfold f_X8_advanceToken_191 at hf
  refine lv_aload_n C.1 C.2.1 dX8_advanceToken_191 rfl (lv_at hl 0 rfl) ?_
  refine lv_dup C.1 C.2.1 dX8_advanceToken_192 rfl ?_
  refine z_getI C S 8 0 rfl (by decide) cf_8 15 (by decide) (gi_8_15 G ad 0) tw_6_133 dX8_advanceToken_193 ?_
  refine lv_iconst (v := 1) C.1 C.2.1 dX8_advanceToken_196 (by decide) ?_
  refine lv_iadd C.1 C.2.1 dX8_advanceToken_197 ?_
  obtain ⟨σ1, e_198, hf⟩ := stb hf
  refine z_putI C S 8 0 rfl (by decide) cf_8 15 (by decide) (pi_8_15 G ad 0) rfl rfl rfl tw_6_133 dX8_advanceToken_198 (fun H locs S => ?_)
  rw [← e_198] at S
  refine lv_goto (tgt := 137) C.1 C.2.1 dX8_advanceToken_201 (by decide) ?_
  exact hk137 _  _ _ _ S (lv_sub hl [0] rfl)  hf
set_option maxHeartbeats 4000000 in
set_option maxRecDepth 100000 in
theorem w_X8_advanceToken_137 {p : Program} {l : Launch} {e : Env} {s : State} {m : MethodId} {args : Array Value} {below : List Frame} {meth : Method} {c : Code} {G : Gx} {ad : Ad} {res : Sg} (C : Cx p s m args meth c yX8_advanceToken.cls cX8_advanceToken 2 none G)  : ∀ n : Nat, ∀ (σ : Sg)  (H : Heap) (locs : List Loc) (ls : Array Slot), z_S 1 G ad σ (z_A 1 ad s.heap.size) s.heap H locs → lv_has ls 2 [(0, .ref (ad 8 0))] → f_X8_advanceToken_137  n σ  = some res → W p l e { frames := 1, cells := 0, slots := 0, locals := 22 } s m args below meth c H locs 0 0 (MQ below (va_Qv (S := Unit) (fun _ => True) (fun _ t => z_W 1 G ad res t.heap) (z_A 1 ad s.heap.size)) args s 0 0 (z_A 1 ad s.heap.size)) (F0 m 137 ls []) := by
  intro n
  induction n with
  | zero => intro σ  H locs ls S hl  hf; cases hf
  | succ n ih =>
    intro σ  H locs ls S hl  hf
    rw [f_X8_advanceToken_137_s] at hf
    refine lv_aload_n C.1 C.2.1 dX8_advanceToken_137 rfl (lv_at hl 0 rfl) ?_
    refine lv_aload_n C.1 C.2.1 dX8_advanceToken_138 rfl (lv_at hl 0 rfl) ?_
    refine z_getI C S 8 0 rfl (by decide) cf_8 15 (by decide) (gi_8_15 G ad 0) tw_6_133 dX8_advanceToken_139 ?_
    obtain ⟨r2, σ1, q_142, hf⟩ := bib hf
    refine z_callI C S 8 0 rfl (by decide) cf_8 ⟨_, rfl⟩ [.int (σ 8 0 15)] (m_X8_byteAt l G ad σ (σ 8 0 15) r2 σ1 q_142 _) kv_X8_byteAt tw_6_218 ⟨Nat.le_of_ble_eq_true rfl, Nat.le_of_ble_eq_true rfl⟩ rfl rfl (Nat.le_of_ble_eq_true rfl) hl.1 ⟨Nat.le_of_ble_eq_true rfl, Nat.le_of_ble_eq_true rfl⟩ dX8_advanceToken_142 (fun H locs S => ?_)
    refine lv_bipush (v := 48) C.1 C.2.1 dX8_advanceToken_145 (by decide) ?_
    refine lv_bipush (v := 57) C.1 C.2.1 dX8_advanceToken_147 (by decide) ?_
    obtain ⟨r4, σ3, q_149, hf⟩ := bib hf
    refine z_callSI C S [.int r2, .int 48, .int 57] (m_X8_inRange l G ad σ1 r2 48 57 r4 σ3 q_149 _) kv_X8_inRange tw_6_204 ⟨Nat.le_of_ble_eq_true rfl, Nat.le_of_ble_eq_true rfl⟩ rfl rfl (Nat.le_of_ble_eq_true rfl) hl.1 ⟨Nat.le_of_ble_eq_true rfl, Nat.le_of_ble_eq_true rfl⟩ dX8_advanceToken_149 (fun H locs S => ?_)
    refine lv_if_eq (tgt := 229) C.1 C.2.1 dX8_advanceToken_152 (by decide) (fun c_152 => ?_) (fun c_152 => ?_)
    · rw [if_pos c_152] at hf
      exact w_X8_advanceToken_229 C _ _ _ _ S (lv_sub hl [] rfl) hf
    · rw [if_neg c_152] at hf
      refine lv_aload_n C.1 C.2.1 dX8_advanceToken_155 rfl (lv_at hl 0 rfl) ?_
      refine z_getI C S 8 0 rfl (by decide) cf_8 15 (by decide) (gi_8_15 G ad 0) tw_6_133 dX8_advanceToken_156 ?_
      refine lv_aload_n C.1 C.2.1 dX8_advanceToken_159 rfl (lv_at hl 0 rfl) ?_
      refine z_getI C S 8 0 rfl (by decide) cf_8 16 (by decide) (gi_8_16 G ad 0) tw_6_134 dX8_advanceToken_160 ?_
      refine lv_isub C.1 C.2.1 dX8_advanceToken_163 ?_
      refine lv_iconst (v := 4) C.1 C.2.1 dX8_advanceToken_164 (by decide) ?_
      refine lv_icmp_ge (tgt := 191) C.1 C.2.1 dX8_advanceToken_165 (by decide) (fun c_165 => ?_) (fun c_165 => ?_)
      · rw [if_pos c_165] at hf
        exact w_X8_advanceToken_191 C (f_X8_advanceToken_137 n) ih _ _ _ _ S (lv_sub hl [0] rfl) hf
      · rw [if_neg c_165] at hf
        refine lv_aload_n C.1 C.2.1 dX8_advanceToken_168 rfl (lv_at hl 0 rfl) ?_
        refine lv_bipush (v := 10) C.1 C.2.1 dX8_advanceToken_169 (by decide) ?_
        refine lv_aload_n C.1 C.2.1 dX8_advanceToken_171 rfl (lv_at hl 0 rfl) ?_
        refine z_getI C S 8 0 rfl (by decide) cf_8 17 (by decide) (gi_8_17 G ad 0) tw_6_135 dX8_advanceToken_172 ?_
        refine lv_imul C.1 C.2.1 dX8_advanceToken_175 ?_
        refine lv_aload_n C.1 C.2.1 dX8_advanceToken_176 rfl (lv_at hl 0 rfl) ?_
        refine lv_aload_n C.1 C.2.1 dX8_advanceToken_177 rfl (lv_at hl 0 rfl) ?_
        refine z_getI C S 8 0 rfl (by decide) cf_8 15 (by decide) (gi_8_15 G ad 0) tw_6_133 dX8_advanceToken_178 ?_
        obtain ⟨r6, σ5, q_181, hf⟩ := bib hf
        refine z_callI C S 8 0 rfl (by decide) cf_8 ⟨_, rfl⟩ [.int (σ3 8 0 15)] (m_X8_byteAt l G ad σ3 (σ3 8 0 15) r6 σ5 q_181 _) kv_X8_byteAt tw_6_218 ⟨Nat.le_of_ble_eq_true rfl, Nat.le_of_ble_eq_true rfl⟩ rfl rfl (Nat.le_of_ble_eq_true rfl) hl.1 ⟨Nat.le_of_ble_eq_true rfl, Nat.le_of_ble_eq_true rfl⟩ dX8_advanceToken_181 (fun H locs S => ?_)
        refine lv_iadd C.1 C.2.1 dX8_advanceToken_184 ?_
        refine lv_bipush (v := 48) C.1 C.2.1 dX8_advanceToken_185 (by decide) ?_
        refine lv_isub C.1 C.2.1 dX8_advanceToken_187 ?_
        obtain ⟨σ7, e_188, hf⟩ := stb hf
        refine z_putI C S 8 0 rfl (by decide) cf_8 17 (by decide) (pi_8_17 G ad 0) rfl rfl rfl tw_6_135 dX8_advanceToken_188 (fun H locs S => ?_)
        rw [← e_188] at S
        exact w_X8_advanceToken_191 C (f_X8_advanceToken_137 n) ih _ _ _ _ S (lv_sub hl [0] rfl) hf
set_option maxHeartbeats 4000000 in
set_option maxRecDepth 100000 in
theorem w_X8_advanceToken_90 {p : Program} {l : Launch} {e : Env} {s : State} {m : MethodId} {args : Array Value} {below : List Frame} {meth : Method} {c : Code} {G : Gx} {ad : Ad} {res : Sg} (C : Cx p s m args meth c yX8_advanceToken.cls cX8_advanceToken 2 none G)  : ∀ n : Nat, ∀ (σ : Sg)  (H : Heap) (locs : List Loc) (ls : Array Slot), z_S 1 G ad σ (z_A 1 ad s.heap.size) s.heap H locs → lv_has ls 2 [(0, .ref (ad 8 0))] → f_X8_advanceToken_90  n σ  = some res → W p l e { frames := 1, cells := 0, slots := 0, locals := 22 } s m args below meth c H locs 0 0 (MQ below (va_Qv (S := Unit) (fun _ => True) (fun _ t => z_W 1 G ad res t.heap) (z_A 1 ad s.heap.size)) args s 0 0 (z_A 1 ad s.heap.size)) (F0 m 90 ls []) := by
  intro n
  induction n with
  | zero => intro σ  H locs ls S hl  hf; cases hf
  | succ n ih =>
    intro σ  H locs ls S hl  hf
    rw [f_X8_advanceToken_90_s] at hf
    refine lv_aload_n C.1 C.2.1 dX8_advanceToken_90 rfl (lv_at hl 0 rfl) ?_
    refine lv_aload_n C.1 C.2.1 dX8_advanceToken_91 rfl (lv_at hl 0 rfl) ?_
    refine z_getI C S 8 0 rfl (by decide) cf_8 15 (by decide) (gi_8_15 G ad 0) tw_6_133 dX8_advanceToken_92 ?_
    obtain ⟨r2, σ1, q_95, hf⟩ := bib hf
    refine z_callI C S 8 0 rfl (by decide) cf_8 ⟨_, rfl⟩ [.int (σ 8 0 15)] (m_X8_byteAt l G ad σ (σ 8 0 15) r2 σ1 q_95 _) kv_X8_byteAt tw_6_218 ⟨Nat.le_of_ble_eq_true rfl, Nat.le_of_ble_eq_true rfl⟩ rfl rfl (Nat.le_of_ble_eq_true rfl) hl.1 ⟨Nat.le_of_ble_eq_true rfl, Nat.le_of_ble_eq_true rfl⟩ dX8_advanceToken_95 (fun H locs S => ?_)
    refine lv_bipush (v := 97) C.1 C.2.1 dX8_advanceToken_98 (by decide) ?_
    refine lv_bipush (v := 122) C.1 C.2.1 dX8_advanceToken_100 (by decide) ?_
    obtain ⟨r4, σ3, q_102, hf⟩ := bib hf
    refine z_callSI C S [.int r2, .int 97, .int 122] (m_X8_inRange l G ad σ1 r2 97 122 r4 σ3 q_102 _) kv_X8_inRange tw_6_204 ⟨Nat.le_of_ble_eq_true rfl, Nat.le_of_ble_eq_true rfl⟩ rfl rfl (Nat.le_of_ble_eq_true rfl) hl.1 ⟨Nat.le_of_ble_eq_true rfl, Nat.le_of_ble_eq_true rfl⟩ dX8_advanceToken_102 (fun H locs S => ?_)
    refine lv_if_eq (tgt := 229) C.1 C.2.1 dX8_advanceToken_105 (by decide) (fun c_105 => ?_) (fun c_105 => ?_)
    · rw [if_pos c_105] at hf
      exact w_X8_advanceToken_229 C _ _ _ _ S (lv_sub hl [] rfl) hf
    · rw [if_neg c_105] at hf
      refine lv_aload_n C.1 C.2.1 dX8_advanceToken_108 rfl (lv_at hl 0 rfl) ?_
      refine lv_dup C.1 C.2.1 dX8_advanceToken_109 rfl ?_
      refine z_getI C S 8 0 rfl (by decide) cf_8 15 (by decide) (gi_8_15 G ad 0) tw_6_133 dX8_advanceToken_110 ?_
      refine lv_iconst (v := 1) C.1 C.2.1 dX8_advanceToken_113 (by decide) ?_
      refine lv_iadd C.1 C.2.1 dX8_advanceToken_114 ?_
      obtain ⟨σ5, e_115, hf⟩ := stb hf
      refine z_putI C S 8 0 rfl (by decide) cf_8 15 (by decide) (pi_8_15 G ad 0) rfl rfl rfl tw_6_133 dX8_advanceToken_115 (fun H locs S => ?_)
      rw [← e_115] at S
      refine lv_goto (tgt := 90) C.1 C.2.1 dX8_advanceToken_118 (by decide) ?_
      exact ih _  _ _ _ S (lv_sub hl [0] rfl)  hf
set_option maxHeartbeats 4000000 in
set_option maxRecDepth 100000 in
theorem w_X8_advanceToken_39 {p : Program} {l : Launch} {e : Env} {s : State} {m : MethodId} {args : Array Value} {below : List Frame} {meth : Method} {c : Code} {G : Gx} {ad : Ad} {res : Sg} (C : Cx p s m args meth c yX8_advanceToken.cls cX8_advanceToken 2 none G)  : ∀ (σ : Sg)  (H : Heap) (locs : List Loc) (ls : Array Slot), z_S 1 G ad σ (z_A 1 ad s.heap.size) s.heap H locs → lv_has ls 2 [(0, .ref (ad 8 0))] → f_X8_advanceToken_39  σ  = some res → W p l e { frames := 1, cells := 0, slots := 0, locals := 22 } s m args below meth c H locs 0 0 (MQ below (va_Qv (S := Unit) (fun _ => True) (fun _ t => z_W 1 G ad res t.heap) (z_A 1 ad s.heap.size)) args s 0 0 (z_A 1 ad s.heap.size)) (F0 m 39 ls []) := by
  intro σ  H locs ls S hl  hf
  unfold f_X8_advanceToken_39 at hf
  refine lv_aload_n C.1 C.2.1 dX8_advanceToken_39 rfl (lv_at hl 0 rfl) ?_
  refine lv_aload_n C.1 C.2.1 dX8_advanceToken_40 rfl (lv_at hl 0 rfl) ?_
  refine z_getI C S 8 0 rfl (by decide) cf_8 15 (by decide) (gi_8_15 G ad 0) tw_6_133 dX8_advanceToken_41 ?_
  obtain ⟨σ1, e_44, hf⟩ := stb hf
  refine z_putI C S 8 0 rfl (by decide) cf_8 16 (by decide) (pi_8_16 G ad 0) rfl rfl rfl tw_6_134 dX8_advanceToken_44 (fun H locs S => ?_)
  rw [← e_44] at S
  refine lv_aload_n C.1 C.2.1 dX8_advanceToken_47 rfl (lv_at hl 0 rfl) ?_
  refine lv_aload_n C.1 C.2.1 dX8_advanceToken_48 rfl (lv_at hl 0 rfl) ?_
  refine z_getI C S 8 0 rfl (by decide) cf_8 15 (by decide) (gi_8_15 G ad 0) tw_6_133 dX8_advanceToken_49 ?_
  obtain ⟨r3, σ2, q_52, hf⟩ := bib hf
  refine z_callI C S 8 0 rfl (by decide) cf_8 ⟨_, rfl⟩ [.int (σ1 8 0 15)] (m_X8_byteAt l G ad σ1 (σ1 8 0 15) r3 σ2 q_52 _) kv_X8_byteAt tw_6_218 ⟨Nat.le_of_ble_eq_true rfl, Nat.le_of_ble_eq_true rfl⟩ rfl rfl (Nat.le_of_ble_eq_true rfl) hl.1 ⟨Nat.le_of_ble_eq_true rfl, Nat.le_of_ble_eq_true rfl⟩ dX8_advanceToken_52 (fun H locs S => ?_)
  refine lv_istore_n (lv' := [(1, .int r3), (0, .ref (ad 8 0))]) C.1 C.2.1 dX8_advanceToken_55 rfl hl (by decide) rfl (fun ls hl => ?_)
  refine lv_aload_n C.1 C.2.1 dX8_advanceToken_56 rfl (lv_at hl 1 rfl) ?_
  refine lv_iconst (v := 0) C.1 C.2.1 dX8_advanceToken_57 (by decide) ?_
  obtain ⟨σ4, e_58, hf⟩ := stb hf
  refine z_putI C S 8 0 rfl (by decide) cf_8 17 (by decide) (pi_8_17 G ad 0) rfl rfl rfl tw_6_135 dX8_advanceToken_58 (fun H locs S => ?_)
  rw [← e_58] at S
  refine lv_iload_n C.1 C.2.1 dX8_advanceToken_61 rfl (lv_at hl 0 rfl) ?_
  refine lv_iconst (v := (-1)) C.1 C.2.1 dX8_advanceToken_62 (by decide) ?_
  refine lv_icmp_ne (tgt := 74) C.1 C.2.1 dX8_advanceToken_63 (by decide) (fun c_63 => ?_) (fun c_63 => ?_)
  · rw [if_neg c_63] at hf
    refine lv_iload_n C.1 C.2.1 dX8_advanceToken_74 rfl (lv_at hl 0 rfl) ?_
    refine lv_bipush (v := 97) C.1 C.2.1 dX8_advanceToken_75 (by decide) ?_
    refine lv_bipush (v := 122) C.1 C.2.1 dX8_advanceToken_77 (by decide) ?_
    obtain ⟨r6, σ5, q_79, hf⟩ := bib hf
    refine z_callSI C S [.int r3, .int 97, .int 122] (m_X8_inRange l G ad σ4 r3 97 122 r6 σ5 q_79 _) kv_X8_inRange tw_6_204 ⟨Nat.le_of_ble_eq_true rfl, Nat.le_of_ble_eq_true rfl⟩ rfl rfl (Nat.le_of_ble_eq_true rfl) hl.1 ⟨Nat.le_of_ble_eq_true rfl, Nat.le_of_ble_eq_true rfl⟩ dX8_advanceToken_79 (fun H locs S => ?_)
    refine lv_if_eq (tgt := 121) C.1 C.2.1 dX8_advanceToken_82 (by decide) (fun c_82 => ?_) (fun c_82 => ?_)
    · rw [if_pos c_82] at hf
      refine lv_iload_n C.1 C.2.1 dX8_advanceToken_121 rfl (lv_at hl 0 rfl) ?_
      refine lv_bipush (v := 48) C.1 C.2.1 dX8_advanceToken_122 (by decide) ?_
      refine lv_bipush (v := 57) C.1 C.2.1 dX8_advanceToken_124 (by decide) ?_
      obtain ⟨r8, σ7, q_126, hf⟩ := bib hf
      refine z_callSI C S [.int r3, .int 48, .int 57] (m_X8_inRange l G ad σ5 r3 48 57 r8 σ7 q_126 _) kv_X8_inRange tw_6_204 ⟨Nat.le_of_ble_eq_true rfl, Nat.le_of_ble_eq_true rfl⟩ rfl rfl (Nat.le_of_ble_eq_true rfl) hl.1 ⟨Nat.le_of_ble_eq_true rfl, Nat.le_of_ble_eq_true rfl⟩ dX8_advanceToken_126 (fun H locs S => ?_)
      refine lv_if_eq (tgt := 204) C.1 C.2.1 dX8_advanceToken_129 (by decide) (fun c_129 => ?_) (fun c_129 => ?_)
      · rw [if_pos c_129] at hf
        refine lv_aload_n C.1 C.2.1 dX8_advanceToken_204 rfl (lv_at hl 1 rfl) ?_
        refine lv_iload_n C.1 C.2.1 dX8_advanceToken_205 rfl (lv_at hl 0 rfl) ?_
        refine lv_bipush (v := 59) C.1 C.2.1 dX8_advanceToken_206 (by decide) ?_
        refine lv_icmp_ne (tgt := 215) C.1 C.2.1 dX8_advanceToken_208 (by decide) (fun c_208 => ?_) (fun c_208 => ?_)
        · rw [if_neg c_208] at hf
          refine lv_iconst (v := 4) C.1 C.2.1 dX8_advanceToken_215 (by decide) ?_
          exact w_X8_advanceToken_216 C _ 4 _ _ _ S (lv_sub hl [1] rfl) hf
        · rw [if_pos c_208] at hf
          refine lv_iconst (v := 3) C.1 C.2.1 dX8_advanceToken_211 (by decide) ?_
          refine lv_goto (tgt := 216) C.1 C.2.1 dX8_advanceToken_212 (by decide) ?_
          exact w_X8_advanceToken_216 C _ 3 _ _ _ S (lv_sub hl [1] rfl) hf
      · rw [if_neg c_129] at hf
        refine lv_aload_n C.1 C.2.1 dX8_advanceToken_132 rfl (lv_at hl 1 rfl) ?_
        refine lv_iconst (v := 2) C.1 C.2.1 dX8_advanceToken_133 (by decide) ?_
        obtain ⟨σ9, e_134, hf⟩ := stb hf
        refine z_putI C S 8 0 rfl (by decide) cf_8 18 (by decide) (pi_8_18 G ad 0) rfl rfl rfl tw_6_136 dX8_advanceToken_134 (fun H locs S => ?_)
        rw [← e_134] at S
        exact w_X8_advanceToken_137 C FU _ _ _ _ S (lv_sub hl [1] rfl) hf
    · rw [if_neg c_82] at hf
      refine lv_aload_n C.1 C.2.1 dX8_advanceToken_85 rfl (lv_at hl 1 rfl) ?_
      refine lv_iconst (v := 1) C.1 C.2.1 dX8_advanceToken_86 (by decide) ?_
      obtain ⟨σ10, e_87, hf⟩ := stb hf
      refine z_putI C S 8 0 rfl (by decide) cf_8 18 (by decide) (pi_8_18 G ad 0) rfl rfl rfl tw_6_136 dX8_advanceToken_87 (fun H locs S => ?_)
      rw [← e_87] at S
      exact w_X8_advanceToken_90 C FU _ _ _ _ S (lv_sub hl [1] rfl) hf
  · rw [if_pos c_63] at hf
    refine lv_aload_n C.1 C.2.1 dX8_advanceToken_66 rfl (lv_at hl 1 rfl) ?_
    refine lv_iconst (v := 0) C.1 C.2.1 dX8_advanceToken_67 (by decide) ?_
    obtain ⟨σ11, e_68, hf⟩ := stb hf
    refine z_putI C S 8 0 rfl (by decide) cf_8 18 (by decide) (pi_8_18 G ad 0) rfl rfl rfl tw_6_136 dX8_advanceToken_68 (fun H locs S => ?_)
    rw [← e_68] at S
    refine lv_goto (tgt := 229) C.1 C.2.1 dX8_advanceToken_71 (by decide) ?_
    exact w_X8_advanceToken_229 C _ _ _ _ S (lv_sub hl [] rfl) hf
set_option maxHeartbeats 4000000 in
set_option maxRecDepth 100000 in
theorem w_X8_advanceToken_0 {p : Program} {l : Launch} {e : Env} {s : State} {m : MethodId} {args : Array Value} {below : List Frame} {meth : Method} {c : Code} {G : Gx} {ad : Ad} {res : Sg} (C : Cx p s m args meth c yX8_advanceToken.cls cX8_advanceToken 2 none G)  : ∀ n : Nat, ∀ (σ : Sg)  (H : Heap) (locs : List Loc) (ls : Array Slot), z_S 1 G ad σ (z_A 1 ad s.heap.size) s.heap H locs → lv_has ls 2 [(0, .ref (ad 8 0))] → f_X8_advanceToken_0  n σ  = some res → W p l e { frames := 1, cells := 0, slots := 0, locals := 22 } s m args below meth c H locs 0 0 (MQ below (va_Qv (S := Unit) (fun _ => True) (fun _ t => z_W 1 G ad res t.heap) (z_A 1 ad s.heap.size)) args s 0 0 (z_A 1 ad s.heap.size)) (F0 m 0 ls []) := by
  intro n
  induction n with
  | zero => intro σ  H locs ls S hl  hf; cases hf
  | succ n ih =>
    intro σ  H locs ls S hl  hf
    rw [f_X8_advanceToken_0_s] at hf
    refine lv_aload_n C.1 C.2.1 dX8_advanceToken_0 rfl (lv_at hl 0 rfl) ?_
    refine lv_aload_n C.1 C.2.1 dX8_advanceToken_1 rfl (lv_at hl 0 rfl) ?_
    refine z_getI C S 8 0 rfl (by decide) cf_8 15 (by decide) (gi_8_15 G ad 0) tw_6_133 dX8_advanceToken_2 ?_
    obtain ⟨r2, σ1, q_5, hf⟩ := bib hf
    refine z_callI C S 8 0 rfl (by decide) cf_8 ⟨_, rfl⟩ [.int (σ 8 0 15)] (m_X8_byteAt l G ad σ (σ 8 0 15) r2 σ1 q_5 _) kv_X8_byteAt tw_6_218 ⟨Nat.le_of_ble_eq_true rfl, Nat.le_of_ble_eq_true rfl⟩ rfl rfl (Nat.le_of_ble_eq_true rfl) hl.1 ⟨Nat.le_of_ble_eq_true rfl, Nat.le_of_ble_eq_true rfl⟩ dX8_advanceToken_5 (fun H locs S => ?_)
    refine lv_bipush (v := 32) C.1 C.2.1 dX8_advanceToken_8 (by decide) ?_
    refine lv_icmp_eq (tgt := 26) C.1 C.2.1 dX8_advanceToken_10 (by decide) (fun c_10 => ?_) (fun c_10 => ?_)
    · rw [if_pos c_10] at hf
      exact w_X8_advanceToken_26 C (f_X8_advanceToken_0 n) ih _ _ _ _ S (lv_sub hl [0] rfl) hf
    · rw [if_neg c_10] at hf
      refine lv_aload_n C.1 C.2.1 dX8_advanceToken_13 rfl (lv_at hl 0 rfl) ?_
      refine lv_aload_n C.1 C.2.1 dX8_advanceToken_14 rfl (lv_at hl 0 rfl) ?_
      refine z_getI C S 8 0 rfl (by decide) cf_8 15 (by decide) (gi_8_15 G ad 0) tw_6_133 dX8_advanceToken_15 ?_
      obtain ⟨r4, σ3, q_18, hf⟩ := bib hf
      refine z_callI C S 8 0 rfl (by decide) cf_8 ⟨_, rfl⟩ [.int (σ1 8 0 15)] (m_X8_byteAt l G ad σ1 (σ1 8 0 15) r4 σ3 q_18 _) kv_X8_byteAt tw_6_218 ⟨Nat.le_of_ble_eq_true rfl, Nat.le_of_ble_eq_true rfl⟩ rfl rfl (Nat.le_of_ble_eq_true rfl) hl.1 ⟨Nat.le_of_ble_eq_true rfl, Nat.le_of_ble_eq_true rfl⟩ dX8_advanceToken_18 (fun H locs S => ?_)
      refine lv_bipush (v := 10) C.1 C.2.1 dX8_advanceToken_21 (by decide) ?_
      refine lv_icmp_ne (tgt := 39) C.1 C.2.1 dX8_advanceToken_23 (by decide) (fun c_23 => ?_) (fun c_23 => ?_)
      · rw [if_neg c_23] at hf
        exact w_X8_advanceToken_39 C _ _ _ _ S (lv_sub hl [0] rfl) hf
      · rw [if_pos c_23] at hf
        exact w_X8_advanceToken_26 C (f_X8_advanceToken_0 n) ih _ _ _ _ S (lv_sub hl [0] rfl) hf
theorem kv_X8_advanceToken : KV yX8_advanceToken cX8_advanceToken 2 none 0 := ⟨tw_6_217, tw_6_216, tw_p_44, tw_1_10, by decide, by decide, by decide +kernel⟩
noncomputable def f_X8_advanceToken (σ : Sg)  : Option Sg := f_X8_advanceToken_0 FU σ 
theorem m_X8_advanceToken (l : Launch) (G : Gx) (ad : Ad) (σ : Sg)  (σ' : Sg)  (hf : f_X8_advanceToken σ  = some σ') (sz : Nat) : z_MV l yX8_advanceToken cX8_advanceToken 2 none 1 22 1 G ad σ sz [.ref (ad 8 0)] σ' := by
  refine z_begin (by decide +kernel) (Nat.le_of_ble_eq_true rfl) [(0, .ref (ad 8 0))] rfl (fun p e s m args below meth c ls C hz S hl => ?_)
  subst hz
  exact w_X8_advanceToken_0 (res := σ') C FU σ  _ _ _ S hl  hf

theorem dX8_tokenLength_0 : decode cX8_tokenLength 0 = .ok (.aload_n 0, 1) := by decide +kernel
theorem dX8_tokenLength_1 : decode cX8_tokenLength 1 = .ok (.getfield 169, 3) := by decide +kernel
theorem dX8_tokenLength_4 : decode cX8_tokenLength 4 = .ok (.aload_n 0, 1) := by decide +kernel
theorem dX8_tokenLength_5 : decode cX8_tokenLength 5 = .ok (.getfield 175, 3) := by decide +kernel
theorem dX8_tokenLength_8 : decode cX8_tokenLength 8 = .ok (.isub, 1) := by decide +kernel
theorem dX8_tokenLength_9 : decode cX8_tokenLength 9 = .ok (.ireturn, 1) := by decide +kernel
/-! BusLiftsModel.tokenLength()I -/
noncomputable def f_X8_tokenLength  (σ : Sg)  : Option (Int32 × Sg) := some (((σ 8 0 15) - (σ 8 0 16)), σ)
set_option maxHeartbeats 4000000 in
set_option maxRecDepth 100000 in
theorem w_X8_tokenLength_0 {p : Program} {l : Launch} {e : Env} {s : State} {m : MethodId} {args : Array Value} {below : List Frame} {meth : Method} {c : Code} {G : Gx} {ad : Ad} {res : Int32 × Sg} (C : Cx p s m args meth c yX8_tokenLength.cls cX8_tokenLength 1 (Option.some FieldType.int) G)  : ∀ (σ : Sg)  (H : Heap) (locs : List Loc) (ls : Array Slot), z_S 1 G ad σ (z_A 1 ad s.heap.size) s.heap H locs → lv_has ls 1 [(0, .ref (ad 8 0))] → f_X8_tokenLength  σ  = some res → W p l e { frames := 0, cells := 0, slots := 0, locals := 0 } s m args below meth c H locs 0 0 (MQ below (va_Qi (S := Unit) (fun r1 _ => r1 = res.1) (fun _ t => z_W 1 G ad res.2 t.heap) (z_A 1 ad s.heap.size)) args s 0 0 (z_A 1 ad s.heap.size)) (F0 m 0 ls []) := by
  intro σ  H locs ls S hl  hf
  unfold f_X8_tokenLength at hf
  refine lv_aload_n C.1 C.2.1 dX8_tokenLength_0 rfl (lv_at hl 0 rfl) ?_
  refine z_getI C S 8 0 rfl (by decide) cf_8 15 (by decide) (gi_8_15 G ad 0) tw_6_133 dX8_tokenLength_1 ?_
  refine lv_aload_n C.1 C.2.1 dX8_tokenLength_4 rfl (lv_at hl 0 rfl) ?_
  refine z_getI C S 8 0 rfl (by decide) cf_8 16 (by decide) (gi_8_16 G ad 0) tw_6_134 dX8_tokenLength_5 ?_
  refine lv_isub C.1 C.2.1 dX8_tokenLength_8 ?_
  exact z_iret C S hf dX8_tokenLength_9
theorem kv_X8_tokenLength : KV yX8_tokenLength cX8_tokenLength 1 (Option.some FieldType.int) 0 := ⟨tw_6_238, tw_6_237, tw_p_49, tw_1_10, by decide, by decide, by decide +kernel⟩
theorem m_X8_tokenLength (l : Launch) (G : Gx) (ad : Ad) (σ : Sg)  (r : Int32) (σ' : Sg)  (hf : f_X8_tokenLength σ  = some (r, σ')) (sz : Nat) : z_MI l yX8_tokenLength cX8_tokenLength 1 (Option.some FieldType.int) 0 0 1 G ad σ sz [.ref (ad 8 0)] r σ' := by
  refine z_begin (by decide +kernel) (Nat.le_of_ble_eq_true rfl) [(0, .ref (ad 8 0))] rfl (fun p e s m args below meth c ls C hz S hl => ?_)
  subst hz
  exact w_X8_tokenLength_0 (res := (r, σ')) C σ  _ _ _ S hl  hf

theorem dX8_isWord_0 : decode cX8_isWord 0 = .ok (.aload_n 0, 1) := by decide +kernel
theorem dX8_isWord_1 : decode cX8_isWord 1 = .ok (.getfield 181, 3) := by decide +kernel
theorem dX8_isWord_4 : decode cX8_isWord 4 = .ok (.iconst 1, 1) := by decide +kernel
theorem dX8_isWord_5 : decode cX8_isWord 5 = .ok (.if_icmp .ne 14, 3) := by decide +kernel
theorem dX8_isWord_8 : decode cX8_isWord 8 = .ok (.aload_n 0, 1) := by decide +kernel
theorem dX8_isWord_9 : decode cX8_isWord 9 = .ok (.invokevirtual 190, 3) := by decide +kernel
theorem dX8_isWord_12 : decode cX8_isWord 12 = .ok (.aload_n 1, 1) := by decide +kernel
theorem dX8_isWord_13 : decode cX8_isWord 13 = .ok (.invokevirtual 193, 3) := by decide +kernel
theorem dX8_isWord_16 : decode cX8_isWord 16 = .ok (.if_icmp .eq 5, 3) := by decide +kernel
theorem dX8_isWord_19 : decode cX8_isWord 19 = .ok (.iconst 0, 1) := by decide +kernel
theorem dX8_isWord_20 : decode cX8_isWord 20 = .ok (.ireturn, 1) := by decide +kernel
theorem dX8_isWord_21 : decode cX8_isWord 21 = .ok (.iconst 0, 1) := by decide +kernel
theorem dX8_isWord_22 : decode cX8_isWord 22 = .ok (.istore_n 2, 1) := by decide +kernel
theorem dX8_isWord_23 : decode cX8_isWord 23 = .ok (.iload_n 2, 1) := by decide +kernel
theorem dX8_isWord_24 : decode cX8_isWord 24 = .ok (.aload_n 1, 1) := by decide +kernel
theorem dX8_isWord_25 : decode cX8_isWord 25 = .ok (.invokevirtual 193, 3) := by decide +kernel
theorem dX8_isWord_28 : decode cX8_isWord 28 = .ok (.if_icmp .ge 30, 3) := by decide +kernel
theorem dX8_isWord_31 : decode cX8_isWord 31 = .ok (.aload_n 0, 1) := by decide +kernel
theorem dX8_isWord_32 : decode cX8_isWord 32 = .ok (.getfield 28, 3) := by decide +kernel
theorem dX8_isWord_35 : decode cX8_isWord 35 = .ok (.aload_n 0, 1) := by decide +kernel
theorem dX8_isWord_36 : decode cX8_isWord 36 = .ok (.getfield 175, 3) := by decide +kernel
theorem dX8_isWord_39 : decode cX8_isWord 39 = .ok (.iload_n 2, 1) := by decide +kernel
theorem dX8_isWord_40 : decode cX8_isWord 40 = .ok (.iadd, 1) := by decide +kernel
theorem dX8_isWord_41 : decode cX8_isWord 41 = .ok (.iaload, 1) := by decide +kernel
theorem dX8_isWord_42 : decode cX8_isWord 42 = .ok (.aload_n 1, 1) := by decide +kernel
theorem dX8_isWord_43 : decode cX8_isWord 43 = .ok (.iload_n 2, 1) := by decide +kernel
theorem dX8_isWord_44 : decode cX8_isWord 44 = .ok (.invokevirtual 198, 3) := by decide +kernel
theorem dX8_isWord_47 : decode cX8_isWord 47 = .ok (.if_icmp .eq 5, 3) := by decide +kernel
theorem dX8_isWord_50 : decode cX8_isWord 50 = .ok (.iconst 0, 1) := by decide +kernel
theorem dX8_isWord_51 : decode cX8_isWord 51 = .ok (.ireturn, 1) := by decide +kernel
theorem dX8_isWord_52 : decode cX8_isWord 52 = .ok (.iinc 2 1, 3) := by decide +kernel
theorem dX8_isWord_55 : decode cX8_isWord 55 = .ok (.goto (-32), 3) := by decide +kernel
theorem dX8_isWord_58 : decode cX8_isWord 58 = .ok (.iconst 1, 1) := by decide +kernel
theorem dX8_isWord_59 : decode cX8_isWord 59 = .ok (.ireturn, 1) := by decide +kernel
/-! BusLiftsModel.isWord(Ljava/lang/String;)Z -/
noncomputable def f_X8_isWord_19  (σ : Sg)  : Option (Int32 × Sg) := some (0, σ)
noncomputable def f_X8_isWord_58  (σ : Sg)  : Option (Int32 × Sg) := some (1, σ)
noncomputable def f_X8_isWord_50  (σ : Sg)  : Option (Int32 × Sg) := some (0, σ)
noncomputable def f_X8_isWord_23  : Nat → Sg → Nat → Int32 → Option (Int32 × Sg)
  | 0, _, _, _ => none
  | n + 1, σ, w1, v2 => if (slen w1) ≤ v2 then (f_X8_isWord_58 σ) else (if ((σ 8 0 16) + v2) < 0 ∨ 700 ≤ (((σ 8 0 16) + v2)).toNatClampNeg then none else (if v2 < 0 ∨ (z_lens.getD w1 0) ≤ (v2).toNatClampNeg then none else (if (σ 36 0 (((σ 8 0 16) + v2)).toNatClampNeg) = (jchr w1 v2) then (f_X8_isWord_23  n σ w1 (v2 + 1)) else (f_X8_isWord_50 σ))))
theorem f_X8_isWord_23_s  (n : Nat) (σ : Sg) (w1 : Nat) (v2 : Int32) : f_X8_isWord_23  (n + 1) σ w1 v2 = (if (slen w1) ≤ v2 then (f_X8_isWord_58 σ) else (if ((σ 8 0 16) + v2) < 0 ∨ 700 ≤ (((σ 8 0 16) + v2)).toNatClampNeg then none else (if v2 < 0 ∨ (z_lens.getD w1 0) ≤ (v2).toNatClampNeg then none else (if (σ 36 0 (((σ 8 0 16) + v2)).toNatClampNeg) = (jchr w1 v2) then (f_X8_isWord_23  n σ w1 (v2 + 1)) else (f_X8_isWord_50 σ))))) := rfl
noncomputable def f_X8_isWord  (σ : Sg) (w1 : Nat) : Option (Int32 × Sg) := if (σ 8 0 18) = 1 then (bi (f_X8_tokenLength σ) fun r2 σ1 => (if r2 = (slen w1) then (f_X8_isWord_23 FU σ1 w1 0) else (f_X8_isWord_19 σ1))) else (f_X8_isWord_19 σ)
set_option maxHeartbeats 4000000 in
set_option maxRecDepth 100000 in
theorem w_X8_isWord_19 {p : Program} {l : Launch} {e : Env} {s : State} {m : MethodId} {args : Array Value} {below : List Frame} {meth : Method} {c : Code} {G : Gx} {ad : Ad} {res : Int32 × Sg} (C : Cx p s m args meth c yX8_isWord.cls cX8_isWord 3 (Option.some FieldType.boolean) G)  : ∀ (σ : Sg)  (H : Heap) (locs : List Loc) (ls : Array Slot), z_S 1 G ad σ (z_A 1 ad s.heap.size) s.heap H locs → lv_has ls 3 [] → f_X8_isWord_19  σ  = some res → W p l e { frames := 4, cells := 0, slots := 0, locals := 100 } s m args below meth c H locs 0 0 (MQ below (va_Qi (S := Unit) (fun r1 _ => r1 = res.1) (fun _ t => z_W 1 G ad res.2 t.heap) (z_A 1 ad s.heap.size)) args s 0 0 (z_A 1 ad s.heap.size)) (F0 m 19 ls []) := by
  intro σ  H locs ls S hl  hf
  unfold f_X8_isWord_19 at hf
  refine lv_iconst (v := 0) C.1 C.2.1 dX8_isWord_19 (by decide) ?_
  exact z_zret C S rfl hf dX8_isWord_20
set_option maxHeartbeats 4000000 in
set_option maxRecDepth 100000 in
theorem w_X8_isWord_58 {p : Program} {l : Launch} {e : Env} {s : State} {m : MethodId} {args : Array Value} {below : List Frame} {meth : Method} {c : Code} {G : Gx} {ad : Ad} {res : Int32 × Sg} (C : Cx p s m args meth c yX8_isWord.cls cX8_isWord 3 (Option.some FieldType.boolean) G)  : ∀ (σ : Sg)  (H : Heap) (locs : List Loc) (ls : Array Slot), z_S 1 G ad σ (z_A 1 ad s.heap.size) s.heap H locs → lv_has ls 3 [] → f_X8_isWord_58  σ  = some res → W p l e { frames := 4, cells := 0, slots := 0, locals := 100 } s m args below meth c H locs 0 0 (MQ below (va_Qi (S := Unit) (fun r1 _ => r1 = res.1) (fun _ t => z_W 1 G ad res.2 t.heap) (z_A 1 ad s.heap.size)) args s 0 0 (z_A 1 ad s.heap.size)) (F0 m 58 ls []) := by
  intro σ  H locs ls S hl  hf
  unfold f_X8_isWord_58 at hf
  refine lv_iconst (v := 1) C.1 C.2.1 dX8_isWord_58 (by decide) ?_
  exact z_zret C S rfl hf dX8_isWord_59
set_option maxHeartbeats 4000000 in
set_option maxRecDepth 100000 in
theorem w_X8_isWord_50 {p : Program} {l : Launch} {e : Env} {s : State} {m : MethodId} {args : Array Value} {below : List Frame} {meth : Method} {c : Code} {G : Gx} {ad : Ad} {res : Int32 × Sg} (C : Cx p s m args meth c yX8_isWord.cls cX8_isWord 3 (Option.some FieldType.boolean) G)  : ∀ (σ : Sg)  (H : Heap) (locs : List Loc) (ls : Array Slot), z_S 1 G ad σ (z_A 1 ad s.heap.size) s.heap H locs → lv_has ls 3 [] → f_X8_isWord_50  σ  = some res → W p l e { frames := 4, cells := 0, slots := 0, locals := 100 } s m args below meth c H locs 0 0 (MQ below (va_Qi (S := Unit) (fun r1 _ => r1 = res.1) (fun _ t => z_W 1 G ad res.2 t.heap) (z_A 1 ad s.heap.size)) args s 0 0 (z_A 1 ad s.heap.size)) (F0 m 50 ls []) := by
  intro σ  H locs ls S hl  hf
  unfold f_X8_isWord_50 at hf
  refine lv_iconst (v := 0) C.1 C.2.1 dX8_isWord_50 (by decide) ?_
  exact z_zret C S rfl hf dX8_isWord_51
set_option maxHeartbeats 4000000 in
set_option maxRecDepth 100000 in
theorem w_X8_isWord_23 {p : Program} {l : Launch} {e : Env} {s : State} {m : MethodId} {args : Array Value} {below : List Frame} {meth : Method} {c : Code} {G : Gx} {ad : Ad} {res : Int32 × Sg} (C : Cx p s m args meth c yX8_isWord.cls cX8_isWord 3 (Option.some FieldType.boolean) G)  : ∀ n : Nat, ∀ (σ : Sg) (w1 : Nat) (v2 : Int32) (H : Heap) (locs : List Loc) (ls : Array Slot), z_S 1 G ad σ (z_A 1 ad s.heap.size) s.heap H locs → lv_has ls 3 [(0, .ref (ad 8 0)), (1, .ref (G.2.2.2 (10 + w1))), (2, .int v2)] → (w1 < 9) → f_X8_isWord_23  n σ w1 v2 = some res → W p l e { frames := 4, cells := 0, slots := 0, locals := 100 } s m args below meth c H locs 0 0 (MQ below (va_Qi (S := Unit) (fun r1 _ => r1 = res.1) (fun _ t => z_W 1 G ad res.2 t.heap) (z_A 1 ad s.heap.size)) args s 0 0 (z_A 1 ad s.heap.size)) (F0 m 23 ls []) := by
  intro n
  induction n with
  | zero => intro σ w1 v2 H locs ls S hl hw1 hf; cases hf
  | succ n ih =>
    intro σ w1 v2 H locs ls S hl hw1 hf
    rw [f_X8_isWord_23_s] at hf
    refine lv_iload_n C.1 C.2.1 dX8_isWord_23 rfl (lv_at hl 2 rfl) ?_
    refine lv_aload_n C.1 C.2.1 dX8_isWord_24 rfl (lv_at hl 1 rfl) ?_
    refine z_callSt C S (z_smove C S w1 hw1) [] (m_J0_length_8abf5 l 1 G ad σ w1 hw1 _) kv_J0_length_8abf5 tw_6_239 ⟨(Nat.le_of_ble_eq_true rfl), (Nat.le_of_ble_eq_true rfl)⟩ rfl rfl (Nat.le_of_ble_eq_true rfl) hl.1 ⟨(Nat.le_of_ble_eq_true rfl), (Nat.le_of_ble_eq_true rfl)⟩ dX8_isWord_25 (fun H locs S => ?_)
    refine lv_icmp_ge (tgt := 58) C.1 C.2.1 dX8_isWord_28 (by decide) (fun c_28 => ?_) (fun c_28 => ?_)
    · rw [if_pos c_28] at hf
      exact w_X8_isWord_58 C _ _ _ _ S (lv_sub hl [] rfl) hf
    · rw [if_neg c_28] at hf
      refine lv_aload_n C.1 C.2.1 dX8_isWord_31 rfl (lv_at hl 0 rfl) ?_
      refine z_getR C S 8 0 rfl (by decide) cf_8 9 (by decide) _ (gr_8_9 G ad 0) tw_6_127 dX8_isWord_32 ?_
      refine lv_aload_n C.1 C.2.1 dX8_isWord_35 rfl (lv_at hl 0 rfl) ?_
      refine z_getI C S 8 0 rfl (by decide) cf_8 16 (by decide) (gi_8_16 G ad 0) tw_6_134 dX8_isWord_36 ?_
      refine lv_iload_n C.1 C.2.1 dX8_isWord_39 rfl (lv_at hl 2 rfl) ?_
      refine lv_iadd C.1 C.2.1 dX8_isWord_40 ?_
      obtain ⟨g_41, hf⟩ := gd hf
      refine z_iald C S 36 0 rfl (by decide) 700 (fun _ => rfl) g_41 dX8_isWord_41 ?_
      refine lv_aload_n C.1 C.2.1 dX8_isWord_42 rfl (lv_at hl 1 rfl) ?_
      refine lv_iload_n C.1 C.2.1 dX8_isWord_43 rfl (lv_at hl 2 rfl) ?_
      obtain ⟨g_44, hf⟩ := gd hf
      refine z_callSt C S (z_smove C S w1 hw1) [.int v2] (m_J0_charAt_5068e l 1 G ad σ w1 v2 hw1 g_44 _) kv_J0_charAt_5068e tw_7_0 ⟨(Nat.le_of_ble_eq_true rfl), (Nat.le_of_ble_eq_true rfl)⟩ rfl rfl (Nat.le_of_ble_eq_true rfl) hl.1 ⟨(Nat.le_of_ble_eq_true rfl), (Nat.le_of_ble_eq_true rfl)⟩ dX8_isWord_44 (fun H locs S => ?_)
      refine lv_icmp_eq (tgt := 52) C.1 C.2.1 dX8_isWord_47 (by decide) (fun c_47 => ?_) (fun c_47 => ?_)
      · rw [if_pos c_47] at hf
        refine lv_iinc (v := (v2 + 1)) (lv' := [(2, .int (v2 + 1)), (0, .ref (ad 8 0)), (1, .ref (G.2.2.2 (10 + w1)))]) C.1 C.2.1 dX8_isWord_52 hl (k := 2) rfl rfl (by decide) rfl (fun ls hl => ?_)
        refine lv_goto (tgt := 23) C.1 C.2.1 dX8_isWord_55 (by decide) ?_
        exact ih _ w1 (v2 + 1) _ _ _ S (lv_sub hl [1, 2, 0] rfl) hw1 hf
      · rw [if_neg c_47] at hf
        exact w_X8_isWord_50 C _ _ _ _ S (lv_sub hl [] rfl) hf
set_option maxHeartbeats 4000000 in
set_option maxRecDepth 100000 in
theorem w_X8_isWord_0 {p : Program} {l : Launch} {e : Env} {s : State} {m : MethodId} {args : Array Value} {below : List Frame} {meth : Method} {c : Code} {G : Gx} {ad : Ad} {res : Int32 × Sg} (C : Cx p s m args meth c yX8_isWord.cls cX8_isWord 3 (Option.some FieldType.boolean) G)  : ∀ (σ : Sg) (w1 : Nat) (H : Heap) (locs : List Loc) (ls : Array Slot), z_S 1 G ad σ (z_A 1 ad s.heap.size) s.heap H locs → lv_has ls 3 [(0, .ref (ad 8 0)), (1, .ref (G.2.2.2 (10 + w1)))] → (w1 < 9) → f_X8_isWord  σ w1 = some res → W p l e { frames := 4, cells := 0, slots := 0, locals := 100 } s m args below meth c H locs 0 0 (MQ below (va_Qi (S := Unit) (fun r1 _ => r1 = res.1) (fun _ t => z_W 1 G ad res.2 t.heap) (z_A 1 ad s.heap.size)) args s 0 0 (z_A 1 ad s.heap.size)) (F0 m 0 ls []) := by
  intro σ w1 H locs ls S hl hw1 hf
  unfold f_X8_isWord at hf
  refine lv_aload_n C.1 C.2.1 dX8_isWord_0 rfl (lv_at hl 0 rfl) ?_
  refine z_getI C S 8 0 rfl (by decide) cf_8 18 (by decide) (gi_8_18 G ad 0) tw_6_136 dX8_isWord_1 ?_
  refine lv_iconst (v := 1) C.1 C.2.1 dX8_isWord_4 (by decide) ?_
  refine lv_icmp_ne (tgt := 19) C.1 C.2.1 dX8_isWord_5 (by decide) (fun c_5 => ?_) (fun c_5 => ?_)
  · rw [if_neg c_5] at hf
    exact w_X8_isWord_19 C _ _ _ _ S (lv_sub hl [] rfl) hf
  · rw [if_pos c_5] at hf
    refine lv_aload_n C.1 C.2.1 dX8_isWord_8 rfl (lv_at hl 0 rfl) ?_
    obtain ⟨r2, σ1, q_9, hf⟩ := bib hf
    refine z_callI C S 8 0 rfl (by decide) cf_8 ⟨_, rfl⟩ [] (m_X8_tokenLength l G ad σ r2 σ1 q_9 _) kv_X8_tokenLength tw_6_235 ⟨Nat.le_of_ble_eq_true rfl, Nat.le_of_ble_eq_true rfl⟩ rfl rfl (Nat.le_of_ble_eq_true rfl) hl.1 ⟨Nat.le_of_ble_eq_true rfl, Nat.le_of_ble_eq_true rfl⟩ dX8_isWord_9 (fun H locs S => ?_)
    refine lv_aload_n C.1 C.2.1 dX8_isWord_12 rfl (lv_at hl 1 rfl) ?_
    refine z_callSt C S (z_smove C S w1 hw1) [] (m_J0_length_8abf5 l 1 G ad σ1 w1 hw1 _) kv_J0_length_8abf5 tw_6_239 ⟨(Nat.le_of_ble_eq_true rfl), (Nat.le_of_ble_eq_true rfl)⟩ rfl rfl (Nat.le_of_ble_eq_true rfl) hl.1 ⟨(Nat.le_of_ble_eq_true rfl), (Nat.le_of_ble_eq_true rfl)⟩ dX8_isWord_13 (fun H locs S => ?_)
    refine lv_icmp_eq (tgt := 21) C.1 C.2.1 dX8_isWord_16 (by decide) (fun c_16 => ?_) (fun c_16 => ?_)
    · rw [if_pos c_16] at hf
      refine lv_iconst (v := 0) C.1 C.2.1 dX8_isWord_21 (by decide) ?_
      refine lv_istore_n (lv' := [(2, .int 0), (0, .ref (ad 8 0)), (1, .ref (G.2.2.2 (10 + w1)))]) C.1 C.2.1 dX8_isWord_22 rfl hl (by decide) rfl (fun ls hl => ?_)
      exact w_X8_isWord_23 C FU _ w1 0 _ _ _ S (lv_sub hl [1, 2, 0] rfl) hw1 hf
    · rw [if_neg c_16] at hf
      exact w_X8_isWord_19 C _ _ _ _ S (lv_sub hl [] rfl) hf
theorem kv_X8_isWord : KV yX8_isWord cX8_isWord 3 (Option.some FieldType.boolean) 1 := ⟨tw_6_234, tw_6_233, tw_p_48, tw_1_10, by decide, by decide, by decide +kernel⟩
theorem m_X8_isWord (l : Launch) (G : Gx) (ad : Ad) (σ : Sg) (w1 : Nat) (r : Int32) (σ' : Sg) (hw1 : w1 < 9) (hf : f_X8_isWord σ w1 = some (r, σ')) (sz : Nat) : z_MI l yX8_isWord cX8_isWord 3 (Option.some FieldType.boolean) 4 100 1 G ad σ sz [.ref (ad 8 0), .ref (G.2.2.2 (10 + w1))] r σ' := by
  refine z_begin (by decide +kernel) (Nat.le_of_ble_eq_true rfl) [(0, .ref (ad 8 0)), (1, .ref (G.2.2.2 (10 + w1)))] rfl (fun p e s m args below meth c ls C hz S hl => ?_)
  subst hz
  exact w_X8_isWord_0 (res := (r, σ')) C σ w1 _ _ _ S hl hw1 hf

theorem dX8_failsAt_0 : decode cX8_failsAt 0 = .ok (.aload_n 0, 1) := by decide +kernel
theorem dX8_failsAt_1 : decode cX8_failsAt 1 = .ok (.getfield 184, 3) := by decide +kernel
theorem dX8_failsAt_4 : decode cX8_failsAt 4 = .ok (.ifCond .ne 16, 3) := by decide +kernel
theorem dX8_failsAt_7 : decode cX8_failsAt 7 = .ok (.aload_n 0, 1) := by decide +kernel
theorem dX8_failsAt_8 : decode cX8_failsAt 8 = .ok (.iload_n 1, 1) := by decide +kernel
theorem dX8_failsAt_9 : decode cX8_failsAt 9 = .ok (.putfield 184, 3) := by decide +kernel
theorem dX8_failsAt_12 : decode cX8_failsAt 12 = .ok (.aload_n 0, 1) := by decide +kernel
theorem dX8_failsAt_13 : decode cX8_failsAt 13 = .ok (.aload_n 0, 1) := by decide +kernel
theorem dX8_failsAt_14 : decode cX8_failsAt 14 = .ok (.getfield 175, 3) := by decide +kernel
theorem dX8_failsAt_17 : decode cX8_failsAt 17 = .ok (.putfield 187, 3) := by decide +kernel
theorem dX8_failsAt_20 : decode cX8_failsAt 20 = .ok (.iconst 0, 1) := by decide +kernel
theorem dX8_failsAt_21 : decode cX8_failsAt 21 = .ok (.ireturn, 1) := by decide +kernel
/-! BusLiftsModel.failsAt(I)Z -/
noncomputable def f_X8_failsAt_20  (σ : Sg)  : Option (Int32 × Sg) := some (0, σ)
noncomputable def f_X8_failsAt  (σ : Sg) (v1 : Int32) : Option (Int32 × Sg) := if (σ 8 0 13) = 0 then (st (sup σ 8 0 13 v1) fun σ1 => (st (sup σ1 8 0 14 (σ1 8 0 16)) fun σ2 => (f_X8_failsAt_20 σ2))) else (f_X8_failsAt_20 σ)
set_option maxHeartbeats 4000000 in
set_option maxRecDepth 100000 in
theorem w_X8_failsAt_20 {p : Program} {l : Launch} {e : Env} {s : State} {m : MethodId} {args : Array Value} {below : List Frame} {meth : Method} {c : Code} {G : Gx} {ad : Ad} {res : Int32 × Sg} (C : Cx p s m args meth c yX8_failsAt.cls cX8_failsAt 2 (Option.some FieldType.boolean) G)  : ∀ (σ : Sg)  (H : Heap) (locs : List Loc) (ls : Array Slot), z_S 1 G ad σ (z_A 1 ad s.heap.size) s.heap H locs → lv_has ls 2 [] → f_X8_failsAt_20  σ  = some res → W p l e { frames := 0, cells := 0, slots := 0, locals := 0 } s m args below meth c H locs 0 0 (MQ below (va_Qi (S := Unit) (fun r1 _ => r1 = res.1) (fun _ t => z_W 1 G ad res.2 t.heap) (z_A 1 ad s.heap.size)) args s 0 0 (z_A 1 ad s.heap.size)) (F0 m 20 ls []) := by
  intro σ  H locs ls S hl  hf
  unfold f_X8_failsAt_20 at hf
  refine lv_iconst (v := 0) C.1 C.2.1 dX8_failsAt_20 (by decide) ?_
  exact z_zret C S rfl hf dX8_failsAt_21
set_option maxHeartbeats 4000000 in
set_option maxRecDepth 100000 in
theorem w_X8_failsAt_0 {p : Program} {l : Launch} {e : Env} {s : State} {m : MethodId} {args : Array Value} {below : List Frame} {meth : Method} {c : Code} {G : Gx} {ad : Ad} {res : Int32 × Sg} (C : Cx p s m args meth c yX8_failsAt.cls cX8_failsAt 2 (Option.some FieldType.boolean) G)  : ∀ (σ : Sg) (v1 : Int32) (H : Heap) (locs : List Loc) (ls : Array Slot), z_S 1 G ad σ (z_A 1 ad s.heap.size) s.heap H locs → lv_has ls 2 [(0, .ref (ad 8 0)), (1, .int v1)] → f_X8_failsAt  σ v1 = some res → W p l e { frames := 0, cells := 0, slots := 0, locals := 0 } s m args below meth c H locs 0 0 (MQ below (va_Qi (S := Unit) (fun r1 _ => r1 = res.1) (fun _ t => z_W 1 G ad res.2 t.heap) (z_A 1 ad s.heap.size)) args s 0 0 (z_A 1 ad s.heap.size)) (F0 m 0 ls []) := by
  intro σ v1 H locs ls S hl  hf
  unfold f_X8_failsAt at hf
  refine lv_aload_n C.1 C.2.1 dX8_failsAt_0 rfl (lv_at hl 0 rfl) ?_
  refine z_getI C S 8 0 rfl (by decide) cf_8 13 (by decide) (gi_8_13 G ad 0) tw_6_131 dX8_failsAt_1 ?_
  refine lv_if_ne (tgt := 20) C.1 C.2.1 dX8_failsAt_4 (by decide) (fun c_4 => ?_) (fun c_4 => ?_)
  · rw [if_neg c_4] at hf
    exact w_X8_failsAt_20 C _ _ _ _ S (lv_sub hl [] rfl) hf
  · rw [if_pos c_4] at hf
    refine lv_aload_n C.1 C.2.1 dX8_failsAt_7 rfl (lv_at hl 0 rfl) ?_
    refine lv_iload_n C.1 C.2.1 dX8_failsAt_8 rfl (lv_at hl 1 rfl) ?_
    obtain ⟨σ1, e_9, hf⟩ := stb hf
    refine z_putI C S 8 0 rfl (by decide) cf_8 13 (by decide) (pi_8_13 G ad 0) rfl rfl rfl tw_6_131 dX8_failsAt_9 (fun H locs S => ?_)
    rw [← e_9] at S
    refine lv_aload_n C.1 C.2.1 dX8_failsAt_12 rfl (lv_at hl 0 rfl) ?_
    refine lv_aload_n C.1 C.2.1 dX8_failsAt_13 rfl (lv_at hl 0 rfl) ?_
    refine z_getI C S 8 0 rfl (by decide) cf_8 16 (by decide) (gi_8_16 G ad 0) tw_6_134 dX8_failsAt_14 ?_
    obtain ⟨σ2, e_17, hf⟩ := stb hf
    refine z_putI C S 8 0 rfl (by decide) cf_8 14 (by decide) (pi_8_14 G ad 0) rfl rfl rfl tw_6_132 dX8_failsAt_17 (fun H locs S => ?_)
    rw [← e_17] at S
    exact w_X8_failsAt_20 C _ _ _ _ S (lv_sub hl [] rfl) hf
theorem kv_X8_failsAt : KV yX8_failsAt cX8_failsAt 2 (Option.some FieldType.boolean) 1 := ⟨tw_7_4, tw_7_3, tw_p_50, tw_1_10, by decide, by decide, by decide +kernel⟩
theorem m_X8_failsAt (l : Launch) (G : Gx) (ad : Ad) (σ : Sg) (v1 : Int32) (r : Int32) (σ' : Sg)  (hf : f_X8_failsAt σ v1 = some (r, σ')) (sz : Nat) : z_MI l yX8_failsAt cX8_failsAt 2 (Option.some FieldType.boolean) 0 0 1 G ad σ sz [.ref (ad 8 0), .int v1] r σ' := by
  refine z_begin (by decide +kernel) (Nat.le_of_ble_eq_true rfl) [(0, .ref (ad 8 0)), (1, .int v1)] rfl (fun p e s m args below meth c ls C hz S hl => ?_)
  subst hz
  exact w_X8_failsAt_0 (res := (r, σ')) C σ v1 _ _ _ S hl  hf

theorem dX8_takes_0 : decode cX8_takes 0 = .ok (.aload_n 0, 1) := by decide +kernel
theorem dX8_takes_1 : decode cX8_takes 1 = .ok (.getfield 181, 3) := by decide +kernel
theorem dX8_takes_4 : decode cX8_takes 4 = .ok (.iconst 2, 1) := by decide +kernel
theorem dX8_takes_5 : decode cX8_takes 5 = .ok (.if_icmp .ne 11, 3) := by decide +kernel
theorem dX8_takes_8 : decode cX8_takes 8 = .ok (.aload_n 0, 1) := by decide +kernel
theorem dX8_takes_9 : decode cX8_takes 9 = .ok (.invokevirtual 190, 3) := by decide +kernel
theorem dX8_takes_12 : decode cX8_takes 12 = .ok (.iconst 4, 1) := by decide +kernel
theorem dX8_takes_13 : decode cX8_takes 13 = .ok (.if_icmp .le 9, 3) := by decide +kernel
theorem dX8_takes_16 : decode cX8_takes 16 = .ok (.aload_n 0, 1) := by decide +kernel
theorem dX8_takes_17 : decode cX8_takes 17 = .ok (.iconst 1, 1) := by decide +kernel
theorem dX8_takes_18 : decode cX8_takes 18 = .ok (.invokevirtual 202, 3) := by decide +kernel
theorem dX8_takes_21 : decode cX8_takes 21 = .ok (.ireturn, 1) := by decide +kernel
theorem dX8_takes_22 : decode cX8_takes 22 = .ok (.aload_n 0, 1) := by decide +kernel
theorem dX8_takes_23 : decode cX8_takes 23 = .ok (.getfield 178, 3) := by decide +kernel
theorem dX8_takes_26 : decode cX8_takes 26 = .ok (.iload_n 2, 1) := by decide +kernel
theorem dX8_takes_27 : decode cX8_takes 27 = .ok (.iload_n 3, 1) := by decide +kernel
theorem dX8_takes_28 : decode cX8_takes 28 = .ok (.invokestatic 165, 3) := by decide +kernel
theorem dX8_takes_31 : decode cX8_takes 31 = .ok (.ifCond .ne 9, 3) := by decide +kernel
theorem dX8_takes_34 : decode cX8_takes 34 = .ok (.aload_n 0, 1) := by decide +kernel
theorem dX8_takes_35 : decode cX8_takes 35 = .ok (.iconst 2, 1) := by decide +kernel
theorem dX8_takes_36 : decode cX8_takes 36 = .ok (.invokevirtual 202, 3) := by decide +kernel
theorem dX8_takes_39 : decode cX8_takes 39 = .ok (.ireturn, 1) := by decide +kernel
theorem dX8_takes_40 : decode cX8_takes 40 = .ok (.aload_n 0, 1) := by decide +kernel
theorem dX8_takes_41 : decode cX8_takes 41 = .ok (.getfield 35, 3) := by decide +kernel
theorem dX8_takes_44 : decode cX8_takes 44 = .ok (.iload_n 1, 1) := by decide +kernel
theorem dX8_takes_45 : decode cX8_takes 45 = .ok (.aload_n 0, 1) := by decide +kernel
theorem dX8_takes_46 : decode cX8_takes 46 = .ok (.getfield 178, 3) := by decide +kernel
theorem dX8_takes_49 : decode cX8_takes 49 = .ok (.iastore, 1) := by decide +kernel
theorem dX8_takes_50 : decode cX8_takes 50 = .ok (.aload_n 0, 1) := by decide +kernel
theorem dX8_takes_51 : decode cX8_takes 51 = .ok (.invokevirtual 205, 3) := by decide +kernel
theorem dX8_takes_54 : decode cX8_takes 54 = .ok (.iconst 1, 1) := by decide +kernel
theorem dX8_takes_55 : decode cX8_takes 55 = .ok (.ireturn, 1) := by decide +kernel
/-! BusLiftsModel.takes(III)Z -/
noncomputable def f_X8_takes_16  (σ : Sg)  : Option (Int32 × Sg) := bi (f_X8_failsAt σ 1) fun r2 σ1 => (if ¬ (r2 = 0 ∨ r2 = 1) then none else (some (r2, σ1)))
noncomputable def f_X8_takes  (σ : Sg) (v1 : Int32) (v2 : Int32) (v3 : Int32) : Option (Int32 × Sg) := if (σ 8 0 18) = 2 then (bi (f_X8_tokenLength σ) fun r2 σ1 => (if r2 ≤ 4 then (bi (f_X8_inRange σ1 (σ1 8 0 17) v2 v3) fun r4 σ3 => (if r4 = 0 then (bi (f_X8_failsAt σ3 2) fun r8 σ7 => (if ¬ (r8 = 0 ∨ r8 = 1) then none else (some (r8, σ7)))) else (if v1 < 0 ∨ 3 ≤ (v1).toNatClampNeg then none else (st (sup σ3 37 0 (v1).toNatClampNeg (σ3 8 0 17)) fun σ5 => (bv (f_X8_advanceToken σ5) fun σ6 => (some (1, σ6))))))) else (f_X8_takes_16 σ1))) else (f_X8_takes_16 σ)
set_option maxHeartbeats 4000000 in
set_option maxRecDepth 100000 in
theorem w_X8_takes_16 {p : Program} {l : Launch} {e : Env} {s : State} {m : MethodId} {args : Array Value} {below : List Frame} {meth : Method} {c : Code} {G : Gx} {ad : Ad} {res : Int32 × Sg} (C : Cx p s m args meth c yX8_takes.cls cX8_takes 4 (Option.some FieldType.boolean) G)  : ∀ (σ : Sg)  (H : Heap) (locs : List Loc) (ls : Array Slot), z_S 1 G ad σ (z_A 1 ad s.heap.size) s.heap H locs → lv_has ls 4 [(0, .ref (ad 8 0))] → f_X8_takes_16  σ  = some res → W p l e { frames := 2, cells := 0, slots := 0, locals := 43 } s m args below meth c H locs 0 0 (MQ below (va_Qi (S := Unit) (fun r1 _ => r1 = res.1) (fun _ t => z_W 1 G ad res.2 t.heap) (z_A 1 ad s.heap.size)) args s 0 0 (z_A 1 ad s.heap.size)) (F0 m 16 ls []) := by
  intro σ  H locs ls S hl  hf
  unfold f_X8_takes_16 at hf
  refine lv_aload_n C.1 C.2.1 dX8_takes_16 rfl (lv_at hl 0 rfl) ?_
  refine lv_iconst (v := 1) C.1 C.2.1 dX8_takes_17 (by decide) ?_
  obtain ⟨r2, σ1, q_18, hf⟩ := bib hf
  refine z_callI C S 8 0 rfl (by decide) cf_8 ⟨_, rfl⟩ [.int 1] (m_X8_failsAt l G ad σ 1 r2 σ1 q_18 _) kv_X8_failsAt tw_7_1 ⟨Nat.le_of_ble_eq_true rfl, Nat.le_of_ble_eq_true rfl⟩ rfl rfl (Nat.le_of_ble_eq_true rfl) hl.1 ⟨Nat.le_of_ble_eq_true rfl, Nat.le_of_ble_eq_true rfl⟩ dX8_takes_18 (fun H locs S => ?_)
  obtain ⟨g_21, hf⟩ := gd hf
  exact z_zret C S (nbz g_21).1 hf dX8_takes_21
set_option maxHeartbeats 4000000 in
set_option maxRecDepth 100000 in
theorem w_X8_takes_0 {p : Program} {l : Launch} {e : Env} {s : State} {m : MethodId} {args : Array Value} {below : List Frame} {meth : Method} {c : Code} {G : Gx} {ad : Ad} {res : Int32 × Sg} (C : Cx p s m args meth c yX8_takes.cls cX8_takes 4 (Option.some FieldType.boolean) G)  : ∀ (σ : Sg) (v1 : Int32) (v2 : Int32) (v3 : Int32) (H : Heap) (locs : List Loc) (ls : Array Slot), z_S 1 G ad σ (z_A 1 ad s.heap.size) s.heap H locs → lv_has ls 4 [(0, .ref (ad 8 0)), (1, .int v1), (2, .int v2), (3, .int v3)] → f_X8_takes  σ v1 v2 v3 = some res → W p l e { frames := 2, cells := 0, slots := 0, locals := 43 } s m args below meth c H locs 0 0 (MQ below (va_Qi (S := Unit) (fun r1 _ => r1 = res.1) (fun _ t => z_W 1 G ad res.2 t.heap) (z_A 1 ad s.heap.size)) args s 0 0 (z_A 1 ad s.heap.size)) (F0 m 0 ls []) := by
  intro σ v1 v2 v3 H locs ls S hl  hf
  unfold f_X8_takes at hf
  refine lv_aload_n C.1 C.2.1 dX8_takes_0 rfl (lv_at hl 0 rfl) ?_
  refine z_getI C S 8 0 rfl (by decide) cf_8 18 (by decide) (gi_8_18 G ad 0) tw_6_136 dX8_takes_1 ?_
  refine lv_iconst (v := 2) C.1 C.2.1 dX8_takes_4 (by decide) ?_
  refine lv_icmp_ne (tgt := 16) C.1 C.2.1 dX8_takes_5 (by decide) (fun c_5 => ?_) (fun c_5 => ?_)
  · rw [if_neg c_5] at hf
    exact w_X8_takes_16 C _ _ _ _ S (lv_sub hl [0] rfl) hf
  · rw [if_pos c_5] at hf
    refine lv_aload_n C.1 C.2.1 dX8_takes_8 rfl (lv_at hl 0 rfl) ?_
    obtain ⟨r2, σ1, q_9, hf⟩ := bib hf
    refine z_callI C S 8 0 rfl (by decide) cf_8 ⟨_, rfl⟩ [] (m_X8_tokenLength l G ad σ r2 σ1 q_9 _) kv_X8_tokenLength tw_6_235 ⟨Nat.le_of_ble_eq_true rfl, Nat.le_of_ble_eq_true rfl⟩ rfl rfl (Nat.le_of_ble_eq_true rfl) hl.1 ⟨Nat.le_of_ble_eq_true rfl, Nat.le_of_ble_eq_true rfl⟩ dX8_takes_9 (fun H locs S => ?_)
    refine lv_iconst (v := 4) C.1 C.2.1 dX8_takes_12 (by decide) ?_
    refine lv_icmp_le (tgt := 22) C.1 C.2.1 dX8_takes_13 (by decide) (fun c_13 => ?_) (fun c_13 => ?_)
    · rw [if_pos c_13] at hf
      refine lv_aload_n C.1 C.2.1 dX8_takes_22 rfl (lv_at hl 0 rfl) ?_
      refine z_getI C S 8 0 rfl (by decide) cf_8 17 (by decide) (gi_8_17 G ad 0) tw_6_135 dX8_takes_23 ?_
      refine lv_iload_n C.1 C.2.1 dX8_takes_26 rfl (lv_at hl 2 rfl) ?_
      refine lv_iload_n C.1 C.2.1 dX8_takes_27 rfl (lv_at hl 3 rfl) ?_
      obtain ⟨r4, σ3, q_28, hf⟩ := bib hf
      refine z_callSI C S [.int (σ1 8 0 17), .int v2, .int v3] (m_X8_inRange l G ad σ1 (σ1 8 0 17) v2 v3 r4 σ3 q_28 _) kv_X8_inRange tw_6_204 ⟨Nat.le_of_ble_eq_true rfl, Nat.le_of_ble_eq_true rfl⟩ rfl rfl (Nat.le_of_ble_eq_true rfl) hl.1 ⟨Nat.le_of_ble_eq_true rfl, Nat.le_of_ble_eq_true rfl⟩ dX8_takes_28 (fun H locs S => ?_)
      refine lv_if_ne (tgt := 40) C.1 C.2.1 dX8_takes_31 (by decide) (fun c_31 => ?_) (fun c_31 => ?_)
      · rw [if_neg c_31] at hf
        refine lv_aload_n C.1 C.2.1 dX8_takes_40 rfl (lv_at hl 0 rfl) ?_
        refine z_getR C S 8 0 rfl (by decide) cf_8 20 (by decide) _ (gr_8_20 G ad 0) tw_6_138 dX8_takes_41 ?_
        refine lv_iload_n C.1 C.2.1 dX8_takes_44 rfl (lv_at hl 1 rfl) ?_
        refine lv_aload_n C.1 C.2.1 dX8_takes_45 rfl (lv_at hl 0 rfl) ?_
        refine z_getI C S 8 0 rfl (by decide) cf_8 17 (by decide) (gi_8_17 G ad 0) tw_6_135 dX8_takes_46 ?_
        obtain ⟨g_49, hf⟩ := gd hf
        obtain ⟨σ5, e_49, hf⟩ := stb hf
        refine z_iast C S 37 0 rfl (by decide) 3 (fun _ => rfl) g_49 dX8_takes_49 (fun H locs S => ?_)
        rw [← e_49] at S
        refine lv_aload_n C.1 C.2.1 dX8_takes_50 rfl (lv_at hl 0 rfl) ?_
        obtain ⟨σ6, q_51, hf⟩ := bvb hf
        refine z_callV C S 8 0 rfl (by decide) cf_8 ⟨_, rfl⟩ [] (m_X8_advanceToken l G ad σ5 σ6 q_51 _) kv_X8_advanceToken tw_6_214 ⟨Nat.le_of_ble_eq_true rfl, Nat.le_of_ble_eq_true rfl⟩ rfl rfl (Nat.le_of_ble_eq_true rfl) hl.1 ⟨Nat.le_of_ble_eq_true rfl, Nat.le_of_ble_eq_true rfl⟩ dX8_takes_51 (fun H locs S => ?_)
        refine lv_iconst (v := 1) C.1 C.2.1 dX8_takes_54 (by decide) ?_
        exact z_zret C S rfl hf dX8_takes_55
      · rw [if_pos c_31] at hf
        refine lv_aload_n C.1 C.2.1 dX8_takes_34 rfl (lv_at hl 0 rfl) ?_
        refine lv_iconst (v := 2) C.1 C.2.1 dX8_takes_35 (by decide) ?_
        obtain ⟨r8, σ7, q_36, hf⟩ := bib hf
        refine z_callI C S 8 0 rfl (by decide) cf_8 ⟨_, rfl⟩ [.int 2] (m_X8_failsAt l G ad σ3 2 r8 σ7 q_36 _) kv_X8_failsAt tw_7_1 ⟨Nat.le_of_ble_eq_true rfl, Nat.le_of_ble_eq_true rfl⟩ rfl rfl (Nat.le_of_ble_eq_true rfl) hl.1 ⟨Nat.le_of_ble_eq_true rfl, Nat.le_of_ble_eq_true rfl⟩ dX8_takes_36 (fun H locs S => ?_)
        obtain ⟨g_39, hf⟩ := gd hf
        exact z_zret C S (nbz g_39).1 hf dX8_takes_39
    · rw [if_neg c_13] at hf
      exact w_X8_takes_16 C _ _ _ _ S (lv_sub hl [0] rfl) hf
theorem kv_X8_takes : KV yX8_takes cX8_takes 4 (Option.some FieldType.boolean) 3 := ⟨tw_7_8, tw_7_7, tw_p_51, tw_1_10, by decide, by decide, by decide +kernel⟩
theorem m_X8_takes (l : Launch) (G : Gx) (ad : Ad) (σ : Sg) (v1 : Int32) (v2 : Int32) (v3 : Int32) (r : Int32) (σ' : Sg)  (hf : f_X8_takes σ v1 v2 v3 = some (r, σ')) (sz : Nat) : z_MI l yX8_takes cX8_takes 4 (Option.some FieldType.boolean) 2 43 1 G ad σ sz [.ref (ad 8 0), .int v1, .int v2, .int v3] r σ' := by
  refine z_begin (by decide +kernel) (Nat.le_of_ble_eq_true rfl) [(0, .ref (ad 8 0)), (1, .int v1), (2, .int v2), (3, .int v3)] rfl (fun p e s m args below meth c ls C hz S hl => ?_)
  subst hz
  exact w_X8_takes_0 (res := (r, σ')) C σ v1 v2 v3 _ _ _ S hl  hf

theorem dX8_starts_0 : decode cX8_starts 0 = .ok (.iload_n 1, 1) := by decide +kernel
theorem dX8_starts_1 : decode cX8_starts 1 = .ok (.ifCond .ne 9, 3) := by decide +kernel
theorem dX8_starts_4 : decode cX8_starts 4 = .ok (.aload_n 0, 1) := by decide +kernel
theorem dX8_starts_5 : decode cX8_starts 5 = .ok (.iconst 3, 1) := by decide +kernel
theorem dX8_starts_6 : decode cX8_starts 6 = .ok (.invokevirtual 202, 3) := by decide +kernel
theorem dX8_starts_9 : decode cX8_starts 9 = .ok (.ireturn, 1) := by decide +kernel
theorem dX8_starts_10 : decode cX8_starts 10 = .ok (.aload_n 0, 1) := by decide +kernel
theorem dX8_starts_11 : decode cX8_starts 11 = .ok (.invokevirtual 205, 3) := by decide +kernel
theorem dX8_starts_14 : decode cX8_starts 14 = .ok (.iconst 1, 1) := by decide +kernel
theorem dX8_starts_15 : decode cX8_starts 15 = .ok (.ireturn, 1) := by decide +kernel
/-! BusLiftsModel.starts(Z)Z -/
noncomputable def f_X8_starts  (σ : Sg) (v1 : Int32) : Option (Int32 × Sg) := if v1 = 0 then (bi (f_X8_failsAt σ 3) fun r3 σ2 => (if ¬ (r3 = 0 ∨ r3 = 1) then none else (some (r3, σ2)))) else (bv (f_X8_advanceToken σ) fun σ1 => (some (1, σ1)))
set_option maxHeartbeats 4000000 in
set_option maxRecDepth 100000 in
theorem w_X8_starts_0 {p : Program} {l : Launch} {e : Env} {s : State} {m : MethodId} {args : Array Value} {below : List Frame} {meth : Method} {c : Code} {G : Gx} {ad : Ad} {res : Int32 × Sg} (C : Cx p s m args meth c yX8_starts.cls cX8_starts 2 (Option.some FieldType.boolean) G)  : ∀ (σ : Sg) (v1 : Int32) (H : Heap) (locs : List Loc) (ls : Array Slot), z_S 1 G ad σ (z_A 1 ad s.heap.size) s.heap H locs → lv_has ls 2 [(0, .ref (ad 8 0)), (1, .int v1)] → f_X8_starts  σ v1 = some res → W p l e { frames := 2, cells := 0, slots := 0, locals := 43 } s m args below meth c H locs 0 0 (MQ below (va_Qi (S := Unit) (fun r1 _ => r1 = res.1) (fun _ t => z_W 1 G ad res.2 t.heap) (z_A 1 ad s.heap.size)) args s 0 0 (z_A 1 ad s.heap.size)) (F0 m 0 ls []) := by
  intro σ v1 H locs ls S hl  hf
  unfold f_X8_starts at hf
  refine lv_iload_n C.1 C.2.1 dX8_starts_0 rfl (lv_at hl 1 rfl) ?_
  refine lv_if_ne (tgt := 10) C.1 C.2.1 dX8_starts_1 (by decide) (fun c_1 => ?_) (fun c_1 => ?_)
  · rw [if_neg c_1] at hf
    refine lv_aload_n C.1 C.2.1 dX8_starts_10 rfl (lv_at hl 0 rfl) ?_
    obtain ⟨σ1, q_11, hf⟩ := bvb hf
    refine z_callV C S 8 0 rfl (by decide) cf_8 ⟨_, rfl⟩ [] (m_X8_advanceToken l G ad σ σ1 q_11 _) kv_X8_advanceToken tw_6_214 ⟨Nat.le_of_ble_eq_true rfl, Nat.le_of_ble_eq_true rfl⟩ rfl rfl (Nat.le_of_ble_eq_true rfl) hl.1 ⟨Nat.le_of_ble_eq_true rfl, Nat.le_of_ble_eq_true rfl⟩ dX8_starts_11 (fun H locs S => ?_)
    refine lv_iconst (v := 1) C.1 C.2.1 dX8_starts_14 (by decide) ?_
    exact z_zret C S rfl hf dX8_starts_15
  · rw [if_pos c_1] at hf
    refine lv_aload_n C.1 C.2.1 dX8_starts_4 rfl (lv_at hl 0 rfl) ?_
    refine lv_iconst (v := 3) C.1 C.2.1 dX8_starts_5 (by decide) ?_
    obtain ⟨r3, σ2, q_6, hf⟩ := bib hf
    refine z_callI C S 8 0 rfl (by decide) cf_8 ⟨_, rfl⟩ [.int 3] (m_X8_failsAt l G ad σ 3 r3 σ2 q_6 _) kv_X8_failsAt tw_7_1 ⟨Nat.le_of_ble_eq_true rfl, Nat.le_of_ble_eq_true rfl⟩ rfl rfl (Nat.le_of_ble_eq_true rfl) hl.1 ⟨Nat.le_of_ble_eq_true rfl, Nat.le_of_ble_eq_true rfl⟩ dX8_starts_6 (fun H locs S => ?_)
    obtain ⟨g_9, hf⟩ := gd hf
    exact z_zret C S (nbz g_9).1 hf dX8_starts_9
theorem kv_X8_starts : KV yX8_starts cX8_starts 2 (Option.some FieldType.boolean) 1 := ⟨tw_7_17, tw_7_16, tw_p_53, tw_1_10, by decide, by decide, by decide +kernel⟩
theorem m_X8_starts (l : Launch) (G : Gx) (ad : Ad) (σ : Sg) (v1 : Int32) (r : Int32) (σ' : Sg)  (hf : f_X8_starts σ v1 = some (r, σ')) (sz : Nat) : z_MI l yX8_starts cX8_starts 2 (Option.some FieldType.boolean) 2 43 1 G ad σ sz [.ref (ad 8 0), .int v1] r σ' := by
  refine z_begin (by decide +kernel) (Nat.le_of_ble_eq_true rfl) [(0, .ref (ad 8 0)), (1, .int v1)] rfl (fun p e s m args below meth c ls C hz S hl => ?_)
  subst hz
  exact w_X8_starts_0 (res := (r, σ')) C σ v1 _ _ _ S hl  hf

theorem dX8_readCar_0 : decode cX8_readCar 0 = .ok (.aload_n 0, 1) := by decide +kernel
theorem dX8_readCar_1 : decode cX8_readCar 1 = .ok (.aload_n 0, 1) := by decide +kernel
theorem dX8_readCar_2 : decode cX8_readCar 2 = .ok (.getfield 7, 3) := by decide +kernel
theorem dX8_readCar_5 : decode cX8_readCar 5 = .ok (.iconst 1, 1) := by decide +kernel
theorem dX8_readCar_6 : decode cX8_readCar 6 = .ok (.iaload, 1) := by decide +kernel
theorem dX8_readCar_7 : decode cX8_readCar 7 = .ok (.iconst 4, 1) := by decide +kernel
theorem dX8_readCar_8 : decode cX8_readCar 8 = .ok (.if_icmp .ge 7, 3) := by decide +kernel
theorem dX8_readCar_11 : decode cX8_readCar 11 = .ok (.iconst 1, 1) := by decide +kernel
theorem dX8_readCar_12 : decode cX8_readCar 12 = .ok (.goto 4, 3) := by decide +kernel
theorem dX8_readCar_15 : decode cX8_readCar 15 = .ok (.iconst 0, 1) := by decide +kernel
theorem dX8_readCar_16 : decode cX8_readCar 16 = .ok (.invokevirtual 211, 3) := by decide +kernel
theorem dX8_readCar_19 : decode cX8_readCar 19 = .ok (.ifCond .eq 31, 3) := by decide +kernel
theorem dX8_readCar_22 : decode cX8_readCar 22 = .ok (.aload_n 0, 1) := by decide +kernel
theorem dX8_readCar_23 : decode cX8_readCar 23 = .ok (.iconst 0, 1) := by decide +kernel
theorem dX8_readCar_24 : decode cX8_readCar 24 = .ok (.iconst 0, 1) := by decide +kernel
theorem dX8_readCar_25 : decode cX8_readCar 25 = .ok (.aload_n 0, 1) := by decide +kernel
theorem dX8_readCar_26 : decode cX8_readCar 26 = .ok (.getfield 7, 3) := by decide +kernel
theorem dX8_readCar_29 : decode cX8_readCar 29 = .ok (.iconst 0, 1) := by decide +kernel
theorem dX8_readCar_30 : decode cX8_readCar 30 = .ok (.iaload, 1) := by decide +kernel
theorem dX8_readCar_31 : decode cX8_readCar 31 = .ok (.iconst 1, 1) := by decide +kernel
theorem dX8_readCar_32 : decode cX8_readCar 32 = .ok (.isub, 1) := by decide +kernel
theorem dX8_readCar_33 : decode cX8_readCar 33 = .ok (.invokevirtual 215, 3) := by decide +kernel
theorem dX8_readCar_36 : decode cX8_readCar 36 = .ok (.ifCond .eq 14, 3) := by decide +kernel
theorem dX8_readCar_39 : decode cX8_readCar 39 = .ok (.aload_n 0, 1) := by decide +kernel
theorem dX8_readCar_40 : decode cX8_readCar 40 = .ok (.iconst 1, 1) := by decide +kernel
theorem dX8_readCar_41 : decode cX8_readCar 41 = .ok (.iconst 1, 1) := by decide +kernel
theorem dX8_readCar_42 : decode cX8_readCar 42 = .ok (.bipush 8, 2) := by decide +kernel
theorem dX8_readCar_44 : decode cX8_readCar 44 = .ok (.invokevirtual 215, 3) := by decide +kernel
theorem dX8_readCar_47 : decode cX8_readCar 47 = .ok (.ifCond .ne 5, 3) := by decide +kernel
theorem dX8_readCar_50 : decode cX8_readCar 50 = .ok (.iconst 0, 1) := by decide +kernel
theorem dX8_readCar_51 : decode cX8_readCar 51 = .ok (.ireturn, 1) := by decide +kernel
theorem dX8_readCar_52 : decode cX8_readCar 52 = .ok (.aload_n 0, 1) := by decide +kernel
theorem dX8_readCar_53 : decode cX8_readCar 53 = .ok (.aload_n 0, 1) := by decide +kernel
theorem dX8_readCar_54 : decode cX8_readCar 54 = .ok (.getfield 35, 3) := by decide +kernel
theorem dX8_readCar_57 : decode cX8_readCar 57 = .ok (.iconst 0, 1) := by decide +kernel
theorem dX8_readCar_58 : decode cX8_readCar 58 = .ok (.iaload, 1) := by decide +kernel
theorem dX8_readCar_59 : decode cX8_readCar 59 = .ok (.aload_n 0, 1) := by decide +kernel
theorem dX8_readCar_60 : decode cX8_readCar 60 = .ok (.getfield 35, 3) := by decide +kernel
theorem dX8_readCar_63 : decode cX8_readCar 63 = .ok (.iconst 1, 1) := by decide +kernel
theorem dX8_readCar_64 : decode cX8_readCar 64 = .ok (.iaload, 1) := by decide +kernel
theorem dX8_readCar_65 : decode cX8_readCar 65 = .ok (.invokevirtual 44, 3) := by decide +kernel
theorem dX8_readCar_68 : decode cX8_readCar 68 = .ok (.iconst 1, 1) := by decide +kernel
theorem dX8_readCar_69 : decode cX8_readCar 69 = .ok (.ireturn, 1) := by decide +kernel
/-! BusLiftsModel.readCar()Z -/
noncomputable def f_X8_readCar_50  (σ : Sg)  : Option (Int32 × Sg) := some (0, σ)
noncomputable def f_X8_readCar_16  (σ : Sg) (v101 : Int32) : Option (Int32 × Sg) := bi (f_X8_starts σ v101) fun r2 σ1 => (if r2 = 0 then (f_X8_readCar_50 σ1) else (bi (f_X8_takes σ1 0 0 ((σ1 30 0 0) - 1)) fun r4 σ3 => (if r4 = 0 then (f_X8_readCar_50 σ3) else (bi (f_X8_takes σ3 1 1 8) fun r6 σ5 => (if r6 = 0 then (f_X8_readCar_50 σ5) else (bv (f_X8_addCar σ5 (σ5 37 0 0) (σ5 37 0 1)) fun σ7 => (some (1, σ7))))))))
noncomputable def f_X8_readCar  (σ : Sg)  : Option (Int32 × Sg) := if 4 ≤ (σ 30 0 1) then (f_X8_readCar_16 σ 0) else (f_X8_readCar_16 σ 1)
set_option maxHeartbeats 4000000 in
set_option maxRecDepth 100000 in
theorem w_X8_readCar_50 {p : Program} {l : Launch} {e : Env} {s : State} {m : MethodId} {args : Array Value} {below : List Frame} {meth : Method} {c : Code} {G : Gx} {ad : Ad} {res : Int32 × Sg} (C : Cx p s m args meth c yX8_readCar.cls cX8_readCar 1 (Option.some FieldType.boolean) G)  : ∀ (σ : Sg)  (H : Heap) (locs : List Loc) (ls : Array Slot), z_S 1 G ad σ (z_A 1 ad s.heap.size) s.heap H locs → lv_has ls 1 [] → f_X8_readCar_50  σ  = some res → W p l e { frames := 3, cells := 0, slots := 0, locals := 66 } s m args below meth c H locs 0 0 (MQ below (va_Qi (S := Unit) (fun r1 _ => r1 = res.1) (fun _ t => z_W 1 G ad res.2 t.heap) (z_A 1 ad s.heap.size)) args s 0 0 (z_A 1 ad s.heap.size)) (F0 m 50 ls []) := by
  intro σ  H locs ls S hl  hf
  unfold f_X8_readCar_50 at hf
  refine lv_iconst (v := 0) C.1 C.2.1 dX8_readCar_50 (by decide) ?_
  exact z_zret C S rfl hf dX8_readCar_51
set_option maxHeartbeats 4000000 in
set_option maxRecDepth 100000 in
theorem w_X8_readCar_16 {p : Program} {l : Launch} {e : Env} {s : State} {m : MethodId} {args : Array Value} {below : List Frame} {meth : Method} {c : Code} {G : Gx} {ad : Ad} {res : Int32 × Sg} (C : Cx p s m args meth c yX8_readCar.cls cX8_readCar 1 (Option.some FieldType.boolean) G)  : ∀ (σ : Sg) (v101 : Int32) (H : Heap) (locs : List Loc) (ls : Array Slot), z_S 1 G ad σ (z_A 1 ad s.heap.size) s.heap H locs → lv_has ls 1 [(0, .ref (ad 8 0))] → f_X8_readCar_16  σ v101 = some res → W p l e { frames := 3, cells := 0, slots := 0, locals := 66 } s m args below meth c H locs 0 0 (MQ below (va_Qi (S := Unit) (fun r1 _ => r1 = res.1) (fun _ t => z_W 1 G ad res.2 t.heap) (z_A 1 ad s.heap.size)) args s 0 0 (z_A 1 ad s.heap.size)) (F0 m 16 ls [.int v101, .ref (ad 8 0)]) := by
  intro σ v101 H locs ls S hl  hf
  unfold f_X8_readCar_16 at hf
  obtain ⟨r2, σ1, q_16, hf⟩ := bib hf
  refine z_callI C S 8 0 rfl (by decide) cf_8 ⟨_, rfl⟩ [.int v101] (m_X8_starts l G ad σ v101 r2 σ1 q_16 _) kv_X8_starts tw_7_14 ⟨Nat.le_of_ble_eq_true rfl, Nat.le_of_ble_eq_true rfl⟩ rfl rfl (Nat.le_of_ble_eq_true rfl) hl.1 ⟨Nat.le_of_ble_eq_true rfl, Nat.le_of_ble_eq_true rfl⟩ dX8_readCar_16 (fun H locs S => ?_)
  refine lv_if_eq (tgt := 50) C.1 C.2.1 dX8_readCar_19 (by decide) (fun c_19 => ?_) (fun c_19 => ?_)
  · rw [if_pos c_19] at hf
    exact w_X8_readCar_50 C _ _ _ _ S (lv_sub hl [] rfl) hf
  · rw [if_neg c_19] at hf
    refine lv_aload_n C.1 C.2.1 dX8_readCar_22 rfl (lv_at hl 0 rfl) ?_
    refine lv_iconst (v := 0) C.1 C.2.1 dX8_readCar_23 (by decide) ?_
    refine lv_iconst (v := 0) C.1 C.2.1 dX8_readCar_24 (by decide) ?_
    refine lv_aload_n C.1 C.2.1 dX8_readCar_25 rfl (lv_at hl 0 rfl) ?_
    refine z_getR C S 8 0 rfl (by decide) cf_8 0 (by decide) _ (gr_8_0 G ad 0) tw_6_118 dX8_readCar_26 ?_
    refine lv_iconst (v := 0) C.1 C.2.1 dX8_readCar_29 (by decide) ?_
    refine z_ialdL C S 30 0 rfl (by decide) 2111 (fun _ => rfl) 0 (by decide) (by decide) (by decide) dX8_readCar_30 ?_
    refine lv_iconst (v := 1) C.1 C.2.1 dX8_readCar_31 (by decide) ?_
    refine lv_isub C.1 C.2.1 dX8_readCar_32 ?_
    obtain ⟨r4, σ3, q_33, hf⟩ := bib hf
    refine z_callI C S 8 0 rfl (by decide) cf_8 ⟨_, rfl⟩ [.int 0, .int 0, .int ((σ1 30 0 0) - 1)] (m_X8_takes l G ad σ1 0 0 ((σ1 30 0 0) - 1) r4 σ3 q_33 _) kv_X8_takes tw_7_5 ⟨Nat.le_of_ble_eq_true rfl, Nat.le_of_ble_eq_true rfl⟩ rfl rfl (Nat.le_of_ble_eq_true rfl) hl.1 ⟨Nat.le_of_ble_eq_true rfl, Nat.le_of_ble_eq_true rfl⟩ dX8_readCar_33 (fun H locs S => ?_)
    refine lv_if_eq (tgt := 50) C.1 C.2.1 dX8_readCar_36 (by decide) (fun c_36 => ?_) (fun c_36 => ?_)
    · rw [if_pos c_36] at hf
      exact w_X8_readCar_50 C _ _ _ _ S (lv_sub hl [] rfl) hf
    · rw [if_neg c_36] at hf
      refine lv_aload_n C.1 C.2.1 dX8_readCar_39 rfl (lv_at hl 0 rfl) ?_
      refine lv_iconst (v := 1) C.1 C.2.1 dX8_readCar_40 (by decide) ?_
      refine lv_iconst (v := 1) C.1 C.2.1 dX8_readCar_41 (by decide) ?_
      refine lv_bipush (v := 8) C.1 C.2.1 dX8_readCar_42 (by decide) ?_
      obtain ⟨r6, σ5, q_44, hf⟩ := bib hf
      refine z_callI C S 8 0 rfl (by decide) cf_8 ⟨_, rfl⟩ [.int 1, .int 1, .int 8] (m_X8_takes l G ad σ3 1 1 8 r6 σ5 q_44 _) kv_X8_takes tw_7_5 ⟨Nat.le_of_ble_eq_true rfl, Nat.le_of_ble_eq_true rfl⟩ rfl rfl (Nat.le_of_ble_eq_true rfl) hl.1 ⟨Nat.le_of_ble_eq_true rfl, Nat.le_of_ble_eq_true rfl⟩ dX8_readCar_44 (fun H locs S => ?_)
      refine lv_if_ne (tgt := 52) C.1 C.2.1 dX8_readCar_47 (by decide) (fun c_47 => ?_) (fun c_47 => ?_)
      · rw [if_neg c_47] at hf
        refine lv_aload_n C.1 C.2.1 dX8_readCar_52 rfl (lv_at hl 0 rfl) ?_
        refine lv_aload_n C.1 C.2.1 dX8_readCar_53 rfl (lv_at hl 0 rfl) ?_
        refine z_getR C S 8 0 rfl (by decide) cf_8 20 (by decide) _ (gr_8_20 G ad 0) tw_6_138 dX8_readCar_54 ?_
        refine lv_iconst (v := 0) C.1 C.2.1 dX8_readCar_57 (by decide) ?_
        refine z_ialdL C S 37 0 rfl (by decide) 3 (fun _ => rfl) 0 (by decide) (by decide) (by decide) dX8_readCar_58 ?_
        refine lv_aload_n C.1 C.2.1 dX8_readCar_59 rfl (lv_at hl 0 rfl) ?_
        refine z_getR C S 8 0 rfl (by decide) cf_8 20 (by decide) _ (gr_8_20 G ad 0) tw_6_138 dX8_readCar_60 ?_
        refine lv_iconst (v := 1) C.1 C.2.1 dX8_readCar_63 (by decide) ?_
        refine z_ialdL C S 37 0 rfl (by decide) 3 (fun _ => rfl) 1 (by decide) (by decide) (by decide) dX8_readCar_64 ?_
        obtain ⟨σ7, q_65, hf⟩ := bvb hf
        refine z_callV C S 8 0 rfl (by decide) cf_8 ⟨_, rfl⟩ [.int (σ5 37 0 0), .int (σ5 37 0 1)] (m_X8_addCar l G ad σ5 (σ5 37 0 0) (σ5 37 0 1) σ7 q_65 _) kv_X8_addCar tw_6_114 ⟨Nat.le_of_ble_eq_true rfl, Nat.le_of_ble_eq_true rfl⟩ rfl rfl (Nat.le_of_ble_eq_true rfl) hl.1 ⟨Nat.le_of_ble_eq_true rfl, Nat.le_of_ble_eq_true rfl⟩ dX8_readCar_65 (fun H locs S => ?_)
        refine lv_iconst (v := 1) C.1 C.2.1 dX8_readCar_68 (by decide) ?_
        exact z_zret C S rfl hf dX8_readCar_69
      · rw [if_pos c_47] at hf
        exact w_X8_readCar_50 C _ _ _ _ S (lv_sub hl [] rfl) hf
set_option maxHeartbeats 4000000 in
set_option maxRecDepth 100000 in
theorem w_X8_readCar_0 {p : Program} {l : Launch} {e : Env} {s : State} {m : MethodId} {args : Array Value} {below : List Frame} {meth : Method} {c : Code} {G : Gx} {ad : Ad} {res : Int32 × Sg} (C : Cx p s m args meth c yX8_readCar.cls cX8_readCar 1 (Option.some FieldType.boolean) G)  : ∀ (σ : Sg)  (H : Heap) (locs : List Loc) (ls : Array Slot), z_S 1 G ad σ (z_A 1 ad s.heap.size) s.heap H locs → lv_has ls 1 [(0, .ref (ad 8 0))] → f_X8_readCar  σ  = some res → W p l e { frames := 3, cells := 0, slots := 0, locals := 66 } s m args below meth c H locs 0 0 (MQ below (va_Qi (S := Unit) (fun r1 _ => r1 = res.1) (fun _ t => z_W 1 G ad res.2 t.heap) (z_A 1 ad s.heap.size)) args s 0 0 (z_A 1 ad s.heap.size)) (F0 m 0 ls []) := by
  intro σ  H locs ls S hl  hf
  unfold f_X8_readCar at hf
  refine lv_aload_n C.1 C.2.1 dX8_readCar_0 rfl (lv_at hl 0 rfl) ?_
  refine lv_aload_n C.1 C.2.1 dX8_readCar_1 rfl (lv_at hl 0 rfl) ?_
  refine z_getR C S 8 0 rfl (by decide) cf_8 0 (by decide) _ (gr_8_0 G ad 0) tw_6_118 dX8_readCar_2 ?_
  refine lv_iconst (v := 1) C.1 C.2.1 dX8_readCar_5 (by decide) ?_
  refine z_ialdL C S 30 0 rfl (by decide) 2111 (fun _ => rfl) 1 (by decide) (by decide) (by decide) dX8_readCar_6 ?_
  refine lv_iconst (v := 4) C.1 C.2.1 dX8_readCar_7 (by decide) ?_
  refine lv_icmp_ge (tgt := 15) C.1 C.2.1 dX8_readCar_8 (by decide) (fun c_8 => ?_) (fun c_8 => ?_)
  · rw [if_pos c_8] at hf
    refine lv_iconst (v := 0) C.1 C.2.1 dX8_readCar_15 (by decide) ?_
    exact w_X8_readCar_16 C _ 0 _ _ _ S (lv_sub hl [0] rfl) hf
  · rw [if_neg c_8] at hf
    refine lv_iconst (v := 1) C.1 C.2.1 dX8_readCar_11 (by decide) ?_
    refine lv_goto (tgt := 16) C.1 C.2.1 dX8_readCar_12 (by decide) ?_
    exact w_X8_readCar_16 C _ 1 _ _ _ S (lv_sub hl [0] rfl) hf
theorem kv_X8_readCar : KV yX8_readCar cX8_readCar 1 (Option.some FieldType.boolean) 0 := ⟨tw_7_13, tw_7_12, tw_p_52, tw_1_10, by decide, by decide, by decide +kernel⟩
theorem m_X8_readCar (l : Launch) (G : Gx) (ad : Ad) (σ : Sg)  (r : Int32) (σ' : Sg)  (hf : f_X8_readCar σ  = some (r, σ')) (sz : Nat) : z_MI l yX8_readCar cX8_readCar 1 (Option.some FieldType.boolean) 3 66 1 G ad σ sz [.ref (ad 8 0)] r σ' := by
  refine z_begin (by decide +kernel) (Nat.le_of_ble_eq_true rfl) [(0, .ref (ad 8 0))] rfl (fun p e s m args below meth c ls C hz S hl => ?_)
  subst hz
  exact w_X8_readCar_0 (res := (r, σ')) C σ  _ _ _ S hl  hf

theorem dX8_notedAt_0 : decode cX8_notedAt 0 = .ok (.sipush 703, 3) := by decide +kernel
theorem dX8_notedAt_3 : decode cX8_notedAt 3 = .ok (.iconst 4, 1) := by decide +kernel
theorem dX8_notedAt_4 : decode cX8_notedAt 4 = .ok (.bipush 24, 2) := by decide +kernel
theorem dX8_notedAt_6 : decode cX8_notedAt 6 = .ok (.iload_n 0, 1) := by decide +kernel
theorem dX8_notedAt_7 : decode cX8_notedAt 7 = .ok (.imul, 1) := by decide +kernel
theorem dX8_notedAt_8 : decode cX8_notedAt 8 = .ok (.iload_n 1, 1) := by decide +kernel
theorem dX8_notedAt_9 : decode cX8_notedAt 9 = .ok (.iadd, 1) := by decide +kernel
theorem dX8_notedAt_10 : decode cX8_notedAt 10 = .ok (.imul, 1) := by decide +kernel
theorem dX8_notedAt_11 : decode cX8_notedAt 11 = .ok (.iadd, 1) := by decide +kernel
theorem dX8_notedAt_12 : decode cX8_notedAt 12 = .ok (.iload_n 2, 1) := by decide +kernel
theorem dX8_notedAt_13 : decode cX8_notedAt 13 = .ok (.iadd, 1) := by decide +kernel
theorem dX8_notedAt_14 : decode cX8_notedAt 14 = .ok (.ireturn, 1) := by decide +kernel
/-! BusLiftsModel.notedAt(III)I -/
noncomputable def f_X8_notedAt  (σ : Sg) (v0 : Int32) (v1 : Int32) (v2 : Int32) : Option (Int32 × Sg) := some (((703 + (4 * ((24 * v0) + v1))) + v2), σ)
set_option maxHeartbeats 4000000 in
set_option maxRecDepth 100000 in
theorem w_X8_notedAt_0 {p : Program} {l : Launch} {e : Env} {s : State} {m : MethodId} {args : Array Value} {below : List Frame} {meth : Method} {c : Code} {G : Gx} {ad : Ad} {res : Int32 × Sg} (C : Cx p s m args meth c yX8_notedAt.cls cX8_notedAt 3 (Option.some FieldType.int) G)  : ∀ (σ : Sg) (v0 : Int32) (v1 : Int32) (v2 : Int32) (H : Heap) (locs : List Loc) (ls : Array Slot), z_S 1 G ad σ (z_A 1 ad s.heap.size) s.heap H locs → lv_has ls 3 [(0, .int v0), (1, .int v1), (2, .int v2)] → f_X8_notedAt  σ v0 v1 v2 = some res → W p l e { frames := 0, cells := 0, slots := 0, locals := 0 } s m args below meth c H locs 0 0 (MQ below (va_Qi (S := Unit) (fun r1 _ => r1 = res.1) (fun _ t => z_W 1 G ad res.2 t.heap) (z_A 1 ad s.heap.size)) args s 0 0 (z_A 1 ad s.heap.size)) (F0 m 0 ls []) := by
  intro σ v0 v1 v2 H locs ls S hl  hf
  unfold f_X8_notedAt at hf
  refine lv_sipush (v := 703) C.1 C.2.1 dX8_notedAt_0 (by decide) ?_
  refine lv_iconst (v := 4) C.1 C.2.1 dX8_notedAt_3 (by decide) ?_
  refine lv_bipush (v := 24) C.1 C.2.1 dX8_notedAt_4 (by decide) ?_
  refine lv_iload_n C.1 C.2.1 dX8_notedAt_6 rfl (lv_at hl 0 rfl) ?_
  refine lv_imul C.1 C.2.1 dX8_notedAt_7 ?_
  refine lv_iload_n C.1 C.2.1 dX8_notedAt_8 rfl (lv_at hl 1 rfl) ?_
  refine lv_iadd C.1 C.2.1 dX8_notedAt_9 ?_
  refine lv_imul C.1 C.2.1 dX8_notedAt_10 ?_
  refine lv_iadd C.1 C.2.1 dX8_notedAt_11 ?_
  refine lv_iload_n C.1 C.2.1 dX8_notedAt_12 rfl (lv_at hl 2 rfl) ?_
  refine lv_iadd C.1 C.2.1 dX8_notedAt_13 ?_
  exact z_iret C S hf dX8_notedAt_14
theorem kv_X8_notedAt : KS yX8_notedAt cX8_notedAt 3 (Option.some FieldType.int) 3 := ⟨tw_7_33, tw_7_32, tw_1_10, by decide, by decide, by decide +kernel⟩
theorem m_X8_notedAt (l : Launch) (G : Gx) (ad : Ad) (σ : Sg) (v0 : Int32) (v1 : Int32) (v2 : Int32) (r : Int32) (σ' : Sg)  (hf : f_X8_notedAt σ v0 v1 v2 = some (r, σ')) (sz : Nat) : z_MI l yX8_notedAt cX8_notedAt 3 (Option.some FieldType.int) 0 0 1 G ad σ sz [.int v0, .int v1, .int v2] r σ' := by
  refine z_begin (by decide +kernel) (Nat.le_of_ble_eq_true rfl) [(0, .int v0), (1, .int v1), (2, .int v2)] rfl (fun p e s m args below meth c ls C hz S hl => ?_)
  subst hz
  exact w_X8_notedAt_0 (res := (r, σ')) C σ v0 v1 v2 _ _ _ S hl  hf

theorem dX8_forgetsBids_0 : decode cX8_forgetsBids 0 = .ok (.iconst 0, 1) := by decide +kernel
theorem dX8_forgetsBids_1 : decode cX8_forgetsBids 1 = .ok (.istore_n 3, 1) := by decide +kernel
theorem dX8_forgetsBids_2 : decode cX8_forgetsBids 2 = .ok (.iload_n 3, 1) := by decide +kernel
theorem dX8_forgetsBids_3 : decode cX8_forgetsBids 3 = .ok (.iconst 4, 1) := by decide +kernel
theorem dX8_forgetsBids_4 : decode cX8_forgetsBids 4 = .ok (.if_icmp .ge 21, 3) := by decide +kernel
theorem dX8_forgetsBids_7 : decode cX8_forgetsBids 7 = .ok (.aload_n 0, 1) := by decide +kernel
theorem dX8_forgetsBids_8 : decode cX8_forgetsBids 8 = .ok (.getfield 7, 3) := by decide +kernel
theorem dX8_forgetsBids_11 : decode cX8_forgetsBids 11 = .ok (.iload_n 1, 1) := by decide +kernel
theorem dX8_forgetsBids_12 : decode cX8_forgetsBids 12 = .ok (.iload_n 2, 1) := by decide +kernel
theorem dX8_forgetsBids_13 : decode cX8_forgetsBids 13 = .ok (.iload_n 3, 1) := by decide +kernel
theorem dX8_forgetsBids_14 : decode cX8_forgetsBids 14 = .ok (.invokestatic 61, 3) := by decide +kernel
theorem dX8_forgetsBids_17 : decode cX8_forgetsBids 17 = .ok (.iconst (-1), 1) := by decide +kernel
theorem dX8_forgetsBids_18 : decode cX8_forgetsBids 18 = .ok (.iastore, 1) := by decide +kernel
theorem dX8_forgetsBids_19 : decode cX8_forgetsBids 19 = .ok (.iinc 3 1, 3) := by decide +kernel
theorem dX8_forgetsBids_22 : decode cX8_forgetsBids 22 = .ok (.goto (-20), 3) := by decide +kernel
theorem dX8_forgetsBids_25 : decode cX8_forgetsBids 25 = .ok (.return_, 1) := by decide +kernel
/-! BusLiftsModel.forgetsBids(II)V -/
noncomputable def f_X8_forgetsBids_25  (σ : Sg)  : Option Sg := some σ
noncomputable def f_X8_forgetsBids_2  : Nat → Sg → Int32 → Int32 → Int32 → Option Sg
  | 0, _, _, _, _ => none
  | n + 1, σ, v1, v2, v3 => if 4 ≤ v3 then (f_X8_forgetsBids_25 σ) else (bi (f_X8_notedAt σ v1 v2 v3) fun r2 σ1 => (if r2 < 0 ∨ 2111 ≤ (r2).toNatClampNeg then none else (st (sup σ1 30 0 (r2).toNatClampNeg (-1)) fun σ3 => (f_X8_forgetsBids_2  n σ3 v1 v2 (v3 + 1)))))
theorem f_X8_forgetsBids_2_s  (n : Nat) (σ : Sg) (v1 : Int32) (v2 : Int32) (v3 : Int32) : f_X8_forgetsBids_2  (n + 1) σ v1 v2 v3 = (if 4 ≤ v3 then (f_X8_forgetsBids_25 σ) else (bi (f_X8_notedAt σ v1 v2 v3) fun r2 σ1 => (if r2 < 0 ∨ 2111 ≤ (r2).toNatClampNeg then none else (st (sup σ1 30 0 (r2).toNatClampNeg (-1)) fun σ3 => (f_X8_forgetsBids_2  n σ3 v1 v2 (v3 + 1)))))) := rfl
noncomputable def f_X8_forgetsBids  (σ : Sg) (v1 : Int32) (v2 : Int32) : Option Sg := f_X8_forgetsBids_2 FU σ v1 v2 0
set_option maxHeartbeats 4000000 in
set_option maxRecDepth 100000 in
theorem w_X8_forgetsBids_25 {p : Program} {l : Launch} {e : Env} {s : State} {m : MethodId} {args : Array Value} {below : List Frame} {meth : Method} {c : Code} {G : Gx} {ad : Ad} {res : Sg} (C : Cx p s m args meth c yX8_forgetsBids.cls cX8_forgetsBids 4 none G)  : ∀ (σ : Sg)  (H : Heap) (locs : List Loc) (ls : Array Slot), z_S 1 G ad σ (z_A 1 ad s.heap.size) s.heap H locs → lv_has ls 4 [] → f_X8_forgetsBids_25  σ  = some res → W p l e { frames := 1, cells := 0, slots := 0, locals := 22 } s m args below meth c H locs 0 0 (MQ below (va_Qv (S := Unit) (fun _ => True) (fun _ t => z_W 1 G ad res t.heap) (z_A 1 ad s.heap.size)) args s 0 0 (z_A 1 ad s.heap.size)) (F0 m 25 ls []) := by
  intro σ  H locs ls S hl  hf
  unfold f_X8_forgetsBids_25 at hf
  exact z_vret C S hf dX8_forgetsBids_25
set_option maxHeartbeats 4000000 in
set_option maxRecDepth 100000 in
theorem w_X8_forgetsBids_2 {p : Program} {l : Launch} {e : Env} {s : State} {m : MethodId} {args : Array Value} {below : List Frame} {meth : Method} {c : Code} {G : Gx} {ad : Ad} {res : Sg} (C : Cx p s m args meth c yX8_forgetsBids.cls cX8_forgetsBids 4 none G)  : ∀ n : Nat, ∀ (σ : Sg) (v1 : Int32) (v2 : Int32) (v3 : Int32) (H : Heap) (locs : List Loc) (ls : Array Slot), z_S 1 G ad σ (z_A 1 ad s.heap.size) s.heap H locs → lv_has ls 4 [(0, .ref (ad 8 0)), (1, .int v1), (2, .int v2), (3, .int v3)] → f_X8_forgetsBids_2  n σ v1 v2 v3 = some res → W p l e { frames := 1, cells := 0, slots := 0, locals := 22 } s m args below meth c H locs 0 0 (MQ below (va_Qv (S := Unit) (fun _ => True) (fun _ t => z_W 1 G ad res t.heap) (z_A 1 ad s.heap.size)) args s 0 0 (z_A 1 ad s.heap.size)) (F0 m 2 ls []) := by
  intro n
  induction n with
  | zero => intro σ v1 v2 v3 H locs ls S hl  hf; cases hf
  | succ n ih =>
    intro σ v1 v2 v3 H locs ls S hl  hf
    rw [f_X8_forgetsBids_2_s] at hf
    refine lv_iload_n C.1 C.2.1 dX8_forgetsBids_2 rfl (lv_at hl 3 rfl) ?_
    refine lv_iconst (v := 4) C.1 C.2.1 dX8_forgetsBids_3 (by decide) ?_
    refine lv_icmp_ge (tgt := 25) C.1 C.2.1 dX8_forgetsBids_4 (by decide) (fun c_4 => ?_) (fun c_4 => ?_)
    · rw [if_pos c_4] at hf
      exact w_X8_forgetsBids_25 C _ _ _ _ S (lv_sub hl [] rfl) hf
    · rw [if_neg c_4] at hf
      refine lv_aload_n C.1 C.2.1 dX8_forgetsBids_7 rfl (lv_at hl 0 rfl) ?_
      refine z_getR C S 8 0 rfl (by decide) cf_8 0 (by decide) _ (gr_8_0 G ad 0) tw_6_118 dX8_forgetsBids_8 ?_
      refine lv_iload_n C.1 C.2.1 dX8_forgetsBids_11 rfl (lv_at hl 1 rfl) ?_
      refine lv_iload_n C.1 C.2.1 dX8_forgetsBids_12 rfl (lv_at hl 2 rfl) ?_
      refine lv_iload_n C.1 C.2.1 dX8_forgetsBids_13 rfl (lv_at hl 3 rfl) ?_
      obtain ⟨r2, σ1, q_14, hf⟩ := bib hf
      refine z_callSI C S [.int v1, .int v2, .int v3] (m_X8_notedAt l G ad σ v1 v2 v3 r2 σ1 q_14 _) kv_X8_notedAt tw_7_31 ⟨Nat.le_of_ble_eq_true rfl, Nat.le_of_ble_eq_true rfl⟩ rfl rfl (Nat.le_of_ble_eq_true rfl) hl.1 ⟨Nat.le_of_ble_eq_true rfl, Nat.le_of_ble_eq_true rfl⟩ dX8_forgetsBids_14 (fun H locs S => ?_)
      refine lv_iconst (v := (-1)) C.1 C.2.1 dX8_forgetsBids_17 (by decide) ?_
      obtain ⟨g_18, hf⟩ := gd hf
      obtain ⟨σ3, e_18, hf⟩ := stb hf
      refine z_iast C S 30 0 rfl (by decide) 2111 (fun _ => rfl) g_18 dX8_forgetsBids_18 (fun H locs S => ?_)
      rw [← e_18] at S
      refine lv_iinc (v := (v3 + 1)) (lv' := [(3, .int (v3 + 1)), (0, .ref (ad 8 0)), (1, .int v1), (2, .int v2)]) C.1 C.2.1 dX8_forgetsBids_19 hl (k := 3) rfl rfl (by decide) rfl (fun ls hl => ?_)
      refine lv_goto (tgt := 2) C.1 C.2.1 dX8_forgetsBids_22 (by decide) ?_
      exact ih _ v1 v2 (v3 + 1) _ _ _ S (lv_sub hl [1, 2, 3, 0] rfl)  hf
set_option maxHeartbeats 4000000 in
set_option maxRecDepth 100000 in
theorem w_X8_forgetsBids_0 {p : Program} {l : Launch} {e : Env} {s : State} {m : MethodId} {args : Array Value} {below : List Frame} {meth : Method} {c : Code} {G : Gx} {ad : Ad} {res : Sg} (C : Cx p s m args meth c yX8_forgetsBids.cls cX8_forgetsBids 4 none G)  : ∀ (σ : Sg) (v1 : Int32) (v2 : Int32) (H : Heap) (locs : List Loc) (ls : Array Slot), z_S 1 G ad σ (z_A 1 ad s.heap.size) s.heap H locs → lv_has ls 4 [(0, .ref (ad 8 0)), (1, .int v1), (2, .int v2)] → f_X8_forgetsBids  σ v1 v2 = some res → W p l e { frames := 1, cells := 0, slots := 0, locals := 22 } s m args below meth c H locs 0 0 (MQ below (va_Qv (S := Unit) (fun _ => True) (fun _ t => z_W 1 G ad res t.heap) (z_A 1 ad s.heap.size)) args s 0 0 (z_A 1 ad s.heap.size)) (F0 m 0 ls []) := by
  intro σ v1 v2 H locs ls S hl  hf
  unfold f_X8_forgetsBids at hf
  refine lv_iconst (v := 0) C.1 C.2.1 dX8_forgetsBids_0 (by decide) ?_
  refine lv_istore_n (lv' := [(3, .int 0), (0, .ref (ad 8 0)), (1, .int v1), (2, .int v2)]) C.1 C.2.1 dX8_forgetsBids_1 rfl hl (by decide) rfl (fun ls hl => ?_)
  exact w_X8_forgetsBids_2 C FU _ v1 v2 0 _ _ _ S (lv_sub hl [1, 2, 3, 0] rfl) hf
theorem kv_X8_forgetsBids : KV yX8_forgetsBids cX8_forgetsBids 4 none 2 := ⟨tw_7_30, tw_7_29, tw_p_56, tw_1_10, by decide, by decide, by decide +kernel⟩
theorem m_X8_forgetsBids (l : Launch) (G : Gx) (ad : Ad) (σ : Sg) (v1 : Int32) (v2 : Int32) (σ' : Sg)  (hf : f_X8_forgetsBids σ v1 v2 = some σ') (sz : Nat) : z_MV l yX8_forgetsBids cX8_forgetsBids 4 none 1 22 1 G ad σ sz [.ref (ad 8 0), .int v1, .int v2] σ' := by
  refine z_begin (by decide +kernel) (Nat.le_of_ble_eq_true rfl) [(0, .ref (ad 8 0)), (1, .int v1), (2, .int v2)] rfl (fun p e s m args below meth c ls C hz S hl => ?_)
  subst hz
  exact w_X8_forgetsBids_0 (res := σ') C σ v1 v2 _ _ _ S hl  hf

theorem dX8_addCall_0 : decode cX8_addCall 0 = .ok (.aload_n 0, 1) := by decide +kernel
theorem dX8_addCall_1 : decode cX8_addCall 1 = .ok (.getfield 7, 3) := by decide +kernel
theorem dX8_addCall_4 : decode cX8_addCall 4 = .ok (.iconst 2, 1) := by decide +kernel
theorem dX8_addCall_5 : decode cX8_addCall 5 = .ok (.iaload, 1) := by decide +kernel
theorem dX8_addCall_6 : decode cX8_addCall 6 = .ok (.istore 4, 2) := by decide +kernel
theorem dX8_addCall_8 : decode cX8_addCall 8 = .ok (.aload_n 0, 1) := by decide +kernel
theorem dX8_addCall_9 : decode cX8_addCall 9 = .ok (.getfield 7, 3) := by decide +kernel
theorem dX8_addCall_12 : decode cX8_addCall 12 = .ok (.bipush 55, 2) := by decide +kernel
theorem dX8_addCall_14 : decode cX8_addCall 14 = .ok (.iload 4, 2) := by decide +kernel
theorem dX8_addCall_16 : decode cX8_addCall 16 = .ok (.iadd, 1) := by decide +kernel
theorem dX8_addCall_17 : decode cX8_addCall 17 = .ok (.iload_n 2, 1) := by decide +kernel
theorem dX8_addCall_18 : decode cX8_addCall 18 = .ok (.iastore, 1) := by decide +kernel
theorem dX8_addCall_19 : decode cX8_addCall 19 = .ok (.aload_n 0, 1) := by decide +kernel
theorem dX8_addCall_20 : decode cX8_addCall 20 = .ok (.getfield 7, 3) := by decide +kernel
theorem dX8_addCall_23 : decode cX8_addCall 23 = .ok (.bipush 79, 2) := by decide +kernel
theorem dX8_addCall_25 : decode cX8_addCall 25 = .ok (.iload 4, 2) := by decide +kernel
theorem dX8_addCall_27 : decode cX8_addCall 27 = .ok (.iadd, 1) := by decide +kernel
theorem dX8_addCall_28 : decode cX8_addCall 28 = .ok (.iload_n 3, 1) := by decide +kernel
theorem dX8_addCall_29 : decode cX8_addCall 29 = .ok (.iastore, 1) := by decide +kernel
theorem dX8_addCall_30 : decode cX8_addCall 30 = .ok (.aload_n 0, 1) := by decide +kernel
theorem dX8_addCall_31 : decode cX8_addCall 31 = .ok (.getfield 7, 3) := by decide +kernel
theorem dX8_addCall_34 : decode cX8_addCall 34 = .ok (.bipush 103, 2) := by decide +kernel
theorem dX8_addCall_36 : decode cX8_addCall 36 = .ok (.iload 4, 2) := by decide +kernel
theorem dX8_addCall_38 : decode cX8_addCall 38 = .ok (.iadd, 1) := by decide +kernel
theorem dX8_addCall_39 : decode cX8_addCall 39 = .ok (.iload_n 1, 1) := by decide +kernel
theorem dX8_addCall_40 : decode cX8_addCall 40 = .ok (.iastore, 1) := by decide +kernel
theorem dX8_addCall_41 : decode cX8_addCall 41 = .ok (.aload_n 0, 1) := by decide +kernel
theorem dX8_addCall_42 : decode cX8_addCall 42 = .ok (.getfield 7, 3) := by decide +kernel
theorem dX8_addCall_45 : decode cX8_addCall 45 = .ok (.bipush 127, 2) := by decide +kernel
theorem dX8_addCall_47 : decode cX8_addCall 47 = .ok (.iload 4, 2) := by decide +kernel
theorem dX8_addCall_49 : decode cX8_addCall 49 = .ok (.iadd, 1) := by decide +kernel
theorem dX8_addCall_50 : decode cX8_addCall 50 = .ok (.iconst 0, 1) := by decide +kernel
theorem dX8_addCall_51 : decode cX8_addCall 51 = .ok (.iastore, 1) := by decide +kernel
theorem dX8_addCall_52 : decode cX8_addCall 52 = .ok (.aload_n 0, 1) := by decide +kernel
theorem dX8_addCall_53 : decode cX8_addCall 53 = .ok (.getfield 7, 3) := by decide +kernel
theorem dX8_addCall_56 : decode cX8_addCall 56 = .ok (.sipush 151, 3) := by decide +kernel
theorem dX8_addCall_59 : decode cX8_addCall 59 = .ok (.iload 4, 2) := by decide +kernel
theorem dX8_addCall_61 : decode cX8_addCall 61 = .ok (.iadd, 1) := by decide +kernel
theorem dX8_addCall_62 : decode cX8_addCall 62 = .ok (.iconst (-1), 1) := by decide +kernel
theorem dX8_addCall_63 : decode cX8_addCall 63 = .ok (.iastore, 1) := by decide +kernel
theorem dX8_addCall_64 : decode cX8_addCall 64 = .ok (.aload_n 0, 1) := by decide +kernel
theorem dX8_addCall_65 : decode cX8_addCall 65 = .ok (.getfield 7, 3) := by decide +kernel
theorem dX8_addCall_68 : decode cX8_addCall 68 = .ok (.sipush 175, 3) := by decide +kernel
theorem dX8_addCall_71 : decode cX8_addCall 71 = .ok (.iload 4, 2) := by decide +kernel
theorem dX8_addCall_73 : decode cX8_addCall 73 = .ok (.iadd, 1) := by decide +kernel
theorem dX8_addCall_74 : decode cX8_addCall 74 = .ok (.iconst (-1), 1) := by decide +kernel
theorem dX8_addCall_75 : decode cX8_addCall 75 = .ok (.iastore, 1) := by decide +kernel
theorem dX8_addCall_76 : decode cX8_addCall 76 = .ok (.aload_n 0, 1) := by decide +kernel
theorem dX8_addCall_77 : decode cX8_addCall 77 = .ok (.getfield 7, 3) := by decide +kernel
theorem dX8_addCall_80 : decode cX8_addCall 80 = .ok (.sipush 199, 3) := by decide +kernel
theorem dX8_addCall_83 : decode cX8_addCall 83 = .ok (.iload 4, 2) := by decide +kernel
theorem dX8_addCall_85 : decode cX8_addCall 85 = .ok (.iadd, 1) := by decide +kernel
theorem dX8_addCall_86 : decode cX8_addCall 86 = .ok (.iconst (-1), 1) := by decide +kernel
theorem dX8_addCall_87 : decode cX8_addCall 87 = .ok (.iastore, 1) := by decide +kernel
theorem dX8_addCall_88 : decode cX8_addCall 88 = .ok (.aload_n 0, 1) := by decide +kernel
theorem dX8_addCall_89 : decode cX8_addCall 89 = .ok (.getfield 7, 3) := by decide +kernel
theorem dX8_addCall_92 : decode cX8_addCall 92 = .ok (.sipush 223, 3) := by decide +kernel
theorem dX8_addCall_95 : decode cX8_addCall 95 = .ok (.iload 4, 2) := by decide +kernel
theorem dX8_addCall_97 : decode cX8_addCall 97 = .ok (.iadd, 1) := by decide +kernel
theorem dX8_addCall_98 : decode cX8_addCall 98 = .ok (.iconst 0, 1) := by decide +kernel
theorem dX8_addCall_99 : decode cX8_addCall 99 = .ok (.iastore, 1) := by decide +kernel
theorem dX8_addCall_100 : decode cX8_addCall 100 = .ok (.aload_n 0, 1) := by decide +kernel
theorem dX8_addCall_101 : decode cX8_addCall 101 = .ok (.getfield 7, 3) := by decide +kernel
theorem dX8_addCall_104 : decode cX8_addCall 104 = .ok (.sipush 247, 3) := by decide +kernel
theorem dX8_addCall_107 : decode cX8_addCall 107 = .ok (.iload 4, 2) := by decide +kernel
theorem dX8_addCall_109 : decode cX8_addCall 109 = .ok (.iadd, 1) := by decide +kernel
theorem dX8_addCall_110 : decode cX8_addCall 110 = .ok (.iconst (-1), 1) := by decide +kernel
theorem dX8_addCall_111 : decode cX8_addCall 111 = .ok (.iastore, 1) := by decide +kernel
theorem dX8_addCall_112 : decode cX8_addCall 112 = .ok (.aload_n 0, 1) := by decide +kernel
theorem dX8_addCall_113 : decode cX8_addCall 113 = .ok (.getfield 7, 3) := by decide +kernel
theorem dX8_addCall_116 : decode cX8_addCall 116 = .ok (.sipush 271, 3) := by decide +kernel
theorem dX8_addCall_119 : decode cX8_addCall 119 = .ok (.iload 4, 2) := by decide +kernel
theorem dX8_addCall_121 : decode cX8_addCall 121 = .ok (.iadd, 1) := by decide +kernel
theorem dX8_addCall_122 : decode cX8_addCall 122 = .ok (.iconst 0, 1) := by decide +kernel
theorem dX8_addCall_123 : decode cX8_addCall 123 = .ok (.iastore, 1) := by decide +kernel
theorem dX8_addCall_124 : decode cX8_addCall 124 = .ok (.aload_n 0, 1) := by decide +kernel
theorem dX8_addCall_125 : decode cX8_addCall 125 = .ok (.getfield 7, 3) := by decide +kernel
theorem dX8_addCall_128 : decode cX8_addCall 128 = .ok (.sipush 295, 3) := by decide +kernel
theorem dX8_addCall_131 : decode cX8_addCall 131 = .ok (.iload 4, 2) := by decide +kernel
theorem dX8_addCall_133 : decode cX8_addCall 133 = .ok (.iadd, 1) := by decide +kernel
theorem dX8_addCall_134 : decode cX8_addCall 134 = .ok (.iconst (-1), 1) := by decide +kernel
theorem dX8_addCall_135 : decode cX8_addCall 135 = .ok (.iastore, 1) := by decide +kernel
theorem dX8_addCall_136 : decode cX8_addCall 136 = .ok (.iconst 0, 1) := by decide +kernel
theorem dX8_addCall_137 : decode cX8_addCall 137 = .ok (.istore 5, 2) := by decide +kernel
theorem dX8_addCall_139 : decode cX8_addCall 139 = .ok (.iload 5, 2) := by decide +kernel
theorem dX8_addCall_141 : decode cX8_addCall 141 = .ok (.iconst 4, 1) := by decide +kernel
theorem dX8_addCall_142 : decode cX8_addCall 142 = .ok (.if_icmp .ge 89, 3) := by decide +kernel
theorem dX8_addCall_145 : decode cX8_addCall 145 = .ok (.aload_n 0, 1) := by decide +kernel
theorem dX8_addCall_146 : decode cX8_addCall 146 = .ok (.getfield 7, 3) := by decide +kernel
theorem dX8_addCall_149 : decode cX8_addCall 149 = .ok (.sipush 319, 3) := by decide +kernel
theorem dX8_addCall_152 : decode cX8_addCall 152 = .ok (.bipush 24, 2) := by decide +kernel
theorem dX8_addCall_154 : decode cX8_addCall 154 = .ok (.iload 5, 2) := by decide +kernel
theorem dX8_addCall_156 : decode cX8_addCall 156 = .ok (.imul, 1) := by decide +kernel
theorem dX8_addCall_157 : decode cX8_addCall 157 = .ok (.iadd, 1) := by decide +kernel
theorem dX8_addCall_158 : decode cX8_addCall 158 = .ok (.iload 4, 2) := by decide +kernel
theorem dX8_addCall_160 : decode cX8_addCall 160 = .ok (.iadd, 1) := by decide +kernel
theorem dX8_addCall_161 : decode cX8_addCall 161 = .ok (.iconst 0, 1) := by decide +kernel
theorem dX8_addCall_162 : decode cX8_addCall 162 = .ok (.iastore, 1) := by decide +kernel
theorem dX8_addCall_163 : decode cX8_addCall 163 = .ok (.aload_n 0, 1) := by decide +kernel
theorem dX8_addCall_164 : decode cX8_addCall 164 = .ok (.getfield 7, 3) := by decide +kernel
theorem dX8_addCall_167 : decode cX8_addCall 167 = .ok (.sipush 415, 3) := by decide +kernel
theorem dX8_addCall_170 : decode cX8_addCall 170 = .ok (.bipush 24, 2) := by decide +kernel
theorem dX8_addCall_172 : decode cX8_addCall 172 = .ok (.iload 5, 2) := by decide +kernel
theorem dX8_addCall_174 : decode cX8_addCall 174 = .ok (.imul, 1) := by decide +kernel
theorem dX8_addCall_175 : decode cX8_addCall 175 = .ok (.iadd, 1) := by decide +kernel
theorem dX8_addCall_176 : decode cX8_addCall 176 = .ok (.iload 4, 2) := by decide +kernel
theorem dX8_addCall_178 : decode cX8_addCall 178 = .ok (.iadd, 1) := by decide +kernel
theorem dX8_addCall_179 : decode cX8_addCall 179 = .ok (.iconst 0, 1) := by decide +kernel
theorem dX8_addCall_180 : decode cX8_addCall 180 = .ok (.iastore, 1) := by decide +kernel
theorem dX8_addCall_181 : decode cX8_addCall 181 = .ok (.aload_n 0, 1) := by decide +kernel
theorem dX8_addCall_182 : decode cX8_addCall 182 = .ok (.getfield 7, 3) := by decide +kernel
theorem dX8_addCall_185 : decode cX8_addCall 185 = .ok (.sipush 511, 3) := by decide +kernel
theorem dX8_addCall_188 : decode cX8_addCall 188 = .ok (.bipush 24, 2) := by decide +kernel
theorem dX8_addCall_190 : decode cX8_addCall 190 = .ok (.iload 5, 2) := by decide +kernel
theorem dX8_addCall_192 : decode cX8_addCall 192 = .ok (.imul, 1) := by decide +kernel
theorem dX8_addCall_193 : decode cX8_addCall 193 = .ok (.iadd, 1) := by decide +kernel
theorem dX8_addCall_194 : decode cX8_addCall 194 = .ok (.iload 4, 2) := by decide +kernel
theorem dX8_addCall_196 : decode cX8_addCall 196 = .ok (.iadd, 1) := by decide +kernel
theorem dX8_addCall_197 : decode cX8_addCall 197 = .ok (.iconst (-1), 1) := by decide +kernel
theorem dX8_addCall_198 : decode cX8_addCall 198 = .ok (.iastore, 1) := by decide +kernel
theorem dX8_addCall_199 : decode cX8_addCall 199 = .ok (.aload_n 0, 1) := by decide +kernel
theorem dX8_addCall_200 : decode cX8_addCall 200 = .ok (.getfield 7, 3) := by decide +kernel
theorem dX8_addCall_203 : decode cX8_addCall 203 = .ok (.sipush 607, 3) := by decide +kernel
theorem dX8_addCall_206 : decode cX8_addCall 206 = .ok (.bipush 24, 2) := by decide +kernel
theorem dX8_addCall_208 : decode cX8_addCall 208 = .ok (.iload 5, 2) := by decide +kernel
theorem dX8_addCall_210 : decode cX8_addCall 210 = .ok (.imul, 1) := by decide +kernel
theorem dX8_addCall_211 : decode cX8_addCall 211 = .ok (.iadd, 1) := by decide +kernel
theorem dX8_addCall_212 : decode cX8_addCall 212 = .ok (.iload 4, 2) := by decide +kernel
theorem dX8_addCall_214 : decode cX8_addCall 214 = .ok (.iadd, 1) := by decide +kernel
theorem dX8_addCall_215 : decode cX8_addCall 215 = .ok (.iconst 0, 1) := by decide +kernel
theorem dX8_addCall_216 : decode cX8_addCall 216 = .ok (.iastore, 1) := by decide +kernel
theorem dX8_addCall_217 : decode cX8_addCall 217 = .ok (.aload_n 0, 1) := by decide +kernel
theorem dX8_addCall_218 : decode cX8_addCall 218 = .ok (.iload 5, 2) := by decide +kernel
theorem dX8_addCall_220 : decode cX8_addCall 220 = .ok (.iload 4, 2) := by decide +kernel
theorem dX8_addCall_222 : decode cX8_addCall 222 = .ok (.invokevirtual 51, 3) := by decide +kernel
theorem dX8_addCall_225 : decode cX8_addCall 225 = .ok (.iinc 5 1, 3) := by decide +kernel
theorem dX8_addCall_228 : decode cX8_addCall 228 = .ok (.goto (-89), 3) := by decide +kernel
theorem dX8_addCall_231 : decode cX8_addCall 231 = .ok (.aload_n 0, 1) := by decide +kernel
theorem dX8_addCall_232 : decode cX8_addCall 232 = .ok (.getfield 7, 3) := by decide +kernel
theorem dX8_addCall_235 : decode cX8_addCall 235 = .ok (.iconst 2, 1) := by decide +kernel
theorem dX8_addCall_236 : decode cX8_addCall 236 = .ok (.dup2, 1) := by decide +kernel
theorem dX8_addCall_237 : decode cX8_addCall 237 = .ok (.iaload, 1) := by decide +kernel
theorem dX8_addCall_238 : decode cX8_addCall 238 = .ok (.iconst 1, 1) := by decide +kernel
theorem dX8_addCall_239 : decode cX8_addCall 239 = .ok (.iadd, 1) := by decide +kernel
theorem dX8_addCall_240 : decode cX8_addCall 240 = .ok (.iastore, 1) := by decide +kernel
theorem dX8_addCall_241 : decode cX8_addCall 241 = .ok (.return_, 1) := by decide +kernel
/-! BusLiftsModel.addCall(III)V -/
noncomputable def f_X8_addCall_231  (σ : Sg)  : Option Sg := st (sup σ 30 0 2 ((σ 30 0 2) + 1)) fun σ1 => (some σ1)
noncomputable def f_X8_addCall_139  : Nat → Sg → Int32 → Int32 → Option Sg
  | 0, _, _, _ => none
  | n + 1, σ, v4, v5 => if 4 ≤ v5 then (f_X8_addCall_231 σ) else (if ((319 + (24 * v5)) + v4) < 0 ∨ 2111 ≤ (((319 + (24 * v5)) + v4)).toNatClampNeg then none else (st (sup σ 30 0 (((319 + (24 * v5)) + v4)).toNatClampNeg 0) fun σ1 => (if ((415 + (24 * v5)) + v4) < 0 ∨ 2111 ≤ (((415 + (24 * v5)) + v4)).toNatClampNeg then none else (st (sup σ1 30 0 (((415 + (24 * v5)) + v4)).toNatClampNeg 0) fun σ2 => (if ((511 + (24 * v5)) + v4) < 0 ∨ 2111 ≤ (((511 + (24 * v5)) + v4)).toNatClampNeg then none else (st (sup σ2 30 0 (((511 + (24 * v5)) + v4)).toNatClampNeg (-1)) fun σ3 => (if ((607 + (24 * v5)) + v4) < 0 ∨ 2111 ≤ (((607 + (24 * v5)) + v4)).toNatClampNeg then none else (st (sup σ3 30 0 (((607 + (24 * v5)) + v4)).toNatClampNeg 0) fun σ4 => (bv (f_X8_forgetsBids σ4 v5 v4) fun σ5 => (f_X8_addCall_139  n σ5 v4 (v5 + 1)))))))))))
theorem f_X8_addCall_139_s  (n : Nat) (σ : Sg) (v4 : Int32) (v5 : Int32) : f_X8_addCall_139  (n + 1) σ v4 v5 = (if 4 ≤ v5 then (f_X8_addCall_231 σ) else (if ((319 + (24 * v5)) + v4) < 0 ∨ 2111 ≤ (((319 + (24 * v5)) + v4)).toNatClampNeg then none else (st (sup σ 30 0 (((319 + (24 * v5)) + v4)).toNatClampNeg 0) fun σ1 => (if ((415 + (24 * v5)) + v4) < 0 ∨ 2111 ≤ (((415 + (24 * v5)) + v4)).toNatClampNeg then none else (st (sup σ1 30 0 (((415 + (24 * v5)) + v4)).toNatClampNeg 0) fun σ2 => (if ((511 + (24 * v5)) + v4) < 0 ∨ 2111 ≤ (((511 + (24 * v5)) + v4)).toNatClampNeg then none else (st (sup σ2 30 0 (((511 + (24 * v5)) + v4)).toNatClampNeg (-1)) fun σ3 => (if ((607 + (24 * v5)) + v4) < 0 ∨ 2111 ≤ (((607 + (24 * v5)) + v4)).toNatClampNeg then none else (st (sup σ3 30 0 (((607 + (24 * v5)) + v4)).toNatClampNeg 0) fun σ4 => (bv (f_X8_forgetsBids σ4 v5 v4) fun σ5 => (f_X8_addCall_139  n σ5 v4 (v5 + 1)))))))))))) := rfl
noncomputable def f_X8_addCall  (σ : Sg) (v1 : Int32) (v2 : Int32) (v3 : Int32) : Option Sg := if (55 + (σ 30 0 2)) < 0 ∨ 2111 ≤ ((55 + (σ 30 0 2))).toNatClampNeg then none else (st (sup σ 30 0 ((55 + (σ 30 0 2))).toNatClampNeg v2) fun σ1 => (if (79 + (σ 30 0 2)) < 0 ∨ 2111 ≤ ((79 + (σ 30 0 2))).toNatClampNeg then none else (st (sup σ1 30 0 ((79 + (σ 30 0 2))).toNatClampNeg v3) fun σ2 => (if (103 + (σ 30 0 2)) < 0 ∨ 2111 ≤ ((103 + (σ 30 0 2))).toNatClampNeg then none else (st (sup σ2 30 0 ((103 + (σ 30 0 2))).toNatClampNeg v1) fun σ3 => (if (127 + (σ 30 0 2)) < 0 ∨ 2111 ≤ ((127 + (σ 30 0 2))).toNatClampNeg then none else (st (sup σ3 30 0 ((127 + (σ 30 0 2))).toNatClampNeg 0) fun σ4 => (if (151 + (σ 30 0 2)) < 0 ∨ 2111 ≤ ((151 + (σ 30 0 2))).toNatClampNeg then none else (st (sup σ4 30 0 ((151 + (σ 30 0 2))).toNatClampNeg (-1)) fun σ5 => (if (175 + (σ 30 0 2)) < 0 ∨ 2111 ≤ ((175 + (σ 30 0 2))).toNatClampNeg then none else (st (sup σ5 30 0 ((175 + (σ 30 0 2))).toNatClampNeg (-1)) fun σ6 => (if (199 + (σ 30 0 2)) < 0 ∨ 2111 ≤ ((199 + (σ 30 0 2))).toNatClampNeg then none else (st (sup σ6 30 0 ((199 + (σ 30 0 2))).toNatClampNeg (-1)) fun σ7 => (if (223 + (σ 30 0 2)) < 0 ∨ 2111 ≤ ((223 + (σ 30 0 2))).toNatClampNeg then none else (st (sup σ7 30 0 ((223 + (σ 30 0 2))).toNatClampNeg 0) fun σ8 => (if (247 + (σ 30 0 2)) < 0 ∨ 2111 ≤ ((247 + (σ 30 0 2))).toNatClampNeg then none else (st (sup σ8 30 0 ((247 + (σ 30 0 2))).toNatClampNeg (-1)) fun σ9 => (if (271 + (σ 30 0 2)) < 0 ∨ 2111 ≤ ((271 + (σ 30 0 2))).toNatClampNeg then none else (st (sup σ9 30 0 ((271 + (σ 30 0 2))).toNatClampNeg 0) fun σ10 => (if (295 + (σ 30 0 2)) < 0 ∨ 2111 ≤ ((295 + (σ 30 0 2))).toNatClampNeg then none else (st (sup σ10 30 0 ((295 + (σ 30 0 2))).toNatClampNeg (-1)) fun σ11 => (f_X8_addCall_139 FU σ11 (σ 30 0 2) 0))))))))))))))))))))))
set_option maxHeartbeats 4000000 in
set_option maxRecDepth 100000 in
theorem w_X8_addCall_231 {p : Program} {l : Launch} {e : Env} {s : State} {m : MethodId} {args : Array Value} {below : List Frame} {meth : Method} {c : Code} {G : Gx} {ad : Ad} {res : Sg} (C : Cx p s m args meth c yX8_addCall.cls cX8_addCall 6 none G)  : ∀ (σ : Sg)  (H : Heap) (locs : List Loc) (ls : Array Slot), z_S 1 G ad σ (z_A 1 ad s.heap.size) s.heap H locs → lv_has ls 6 [(0, .ref (ad 8 0))] → f_X8_addCall_231  σ  = some res → W p l e { frames := 2, cells := 0, slots := 0, locals := 45 } s m args below meth c H locs 0 0 (MQ below (va_Qv (S := Unit) (fun _ => True) (fun _ t => z_W 1 G ad res t.heap) (z_A 1 ad s.heap.size)) args s 0 0 (z_A 1 ad s.heap.size)) (F0 m 231 ls []) := by
  intro σ  H locs ls S hl  hf
  unfold f_X8_addCall_231 at hf
  refine lv_aload_n C.1 C.2.1 dX8_addCall_231 rfl (lv_at hl 0 rfl) ?_
  refine z_getR C S 8 0 rfl (by decide) cf_8 0 (by decide) _ (gr_8_0 G ad 0) tw_6_118 dX8_addCall_232 ?_
  refine lv_iconst (v := 2) C.1 C.2.1 dX8_addCall_235 (by decide) ?_
  refine lv_dup2_11 C.1 C.2.1 dX8_addCall_236 rfl rfl ?_
  refine z_ialdL C S 30 0 rfl (by decide) 2111 (fun _ => rfl) 2 (by decide) (by decide) (by decide) dX8_addCall_237 ?_
  refine lv_iconst (v := 1) C.1 C.2.1 dX8_addCall_238 (by decide) ?_
  refine lv_iadd C.1 C.2.1 dX8_addCall_239 ?_
  obtain ⟨σ1, e_240, hf⟩ := stb hf
  refine z_iastL C S 30 0 rfl (by decide) 2111 (fun _ => rfl) 2 (by decide) (by decide) (by decide) dX8_addCall_240 (fun H locs S => ?_)
  rw [← e_240] at S
  exact z_vret C S hf dX8_addCall_241
set_option maxHeartbeats 4000000 in
set_option maxRecDepth 100000 in
theorem w_X8_addCall_139 {p : Program} {l : Launch} {e : Env} {s : State} {m : MethodId} {args : Array Value} {below : List Frame} {meth : Method} {c : Code} {G : Gx} {ad : Ad} {res : Sg} (C : Cx p s m args meth c yX8_addCall.cls cX8_addCall 6 none G)  : ∀ n : Nat, ∀ (σ : Sg) (v4 : Int32) (v5 : Int32) (H : Heap) (locs : List Loc) (ls : Array Slot), z_S 1 G ad σ (z_A 1 ad s.heap.size) s.heap H locs → lv_has ls 6 [(0, .ref (ad 8 0)), (4, .int v4), (5, .int v5)] → f_X8_addCall_139  n σ v4 v5 = some res → W p l e { frames := 2, cells := 0, slots := 0, locals := 45 } s m args below meth c H locs 0 0 (MQ below (va_Qv (S := Unit) (fun _ => True) (fun _ t => z_W 1 G ad res t.heap) (z_A 1 ad s.heap.size)) args s 0 0 (z_A 1 ad s.heap.size)) (F0 m 139 ls []) := by
  intro n
  induction n with
  | zero => intro σ v4 v5 H locs ls S hl  hf; cases hf
  | succ n ih =>
    intro σ v4 v5 H locs ls S hl  hf
    rw [f_X8_addCall_139_s] at hf
    refine lv_iload C.1 C.2.1 dX8_addCall_139 (lv_at hl 2 rfl) ?_
    refine lv_iconst (v := 4) C.1 C.2.1 dX8_addCall_141 (by decide) ?_
    refine lv_icmp_ge (tgt := 231) C.1 C.2.1 dX8_addCall_142 (by decide) (fun c_142 => ?_) (fun c_142 => ?_)
    · rw [if_pos c_142] at hf
      exact w_X8_addCall_231 C _ _ _ _ S (lv_sub hl [0] rfl) hf
    · rw [if_neg c_142] at hf
      refine lv_aload_n C.1 C.2.1 dX8_addCall_145 rfl (lv_at hl 0 rfl) ?_
      refine z_getR C S 8 0 rfl (by decide) cf_8 0 (by decide) _ (gr_8_0 G ad 0) tw_6_118 dX8_addCall_146 ?_
      refine lv_sipush (v := 319) C.1 C.2.1 dX8_addCall_149 (by decide) ?_
      refine lv_bipush (v := 24) C.1 C.2.1 dX8_addCall_152 (by decide) ?_
      refine lv_iload C.1 C.2.1 dX8_addCall_154 (lv_at hl 2 rfl) ?_
      refine lv_imul C.1 C.2.1 dX8_addCall_156 ?_
      refine lv_iadd C.1 C.2.1 dX8_addCall_157 ?_
      refine lv_iload C.1 C.2.1 dX8_addCall_158 (lv_at hl 1 rfl) ?_
      refine lv_iadd C.1 C.2.1 dX8_addCall_160 ?_
      refine lv_iconst (v := 0) C.1 C.2.1 dX8_addCall_161 (by decide) ?_
      obtain ⟨g_162, hf⟩ := gd hf
      obtain ⟨σ1, e_162, hf⟩ := stb hf
      refine z_iast C S 30 0 rfl (by decide) 2111 (fun _ => rfl) g_162 dX8_addCall_162 (fun H locs S => ?_)
      rw [← e_162] at S
      refine lv_aload_n C.1 C.2.1 dX8_addCall_163 rfl (lv_at hl 0 rfl) ?_
      refine z_getR C S 8 0 rfl (by decide) cf_8 0 (by decide) _ (gr_8_0 G ad 0) tw_6_118 dX8_addCall_164 ?_
      refine lv_sipush (v := 415) C.1 C.2.1 dX8_addCall_167 (by decide) ?_
      refine lv_bipush (v := 24) C.1 C.2.1 dX8_addCall_170 (by decide) ?_
      refine lv_iload C.1 C.2.1 dX8_addCall_172 (lv_at hl 2 rfl) ?_
      refine lv_imul C.1 C.2.1 dX8_addCall_174 ?_
      refine lv_iadd C.1 C.2.1 dX8_addCall_175 ?_
      refine lv_iload C.1 C.2.1 dX8_addCall_176 (lv_at hl 1 rfl) ?_
      refine lv_iadd C.1 C.2.1 dX8_addCall_178 ?_
      refine lv_iconst (v := 0) C.1 C.2.1 dX8_addCall_179 (by decide) ?_
      obtain ⟨g_180, hf⟩ := gd hf
      obtain ⟨σ2, e_180, hf⟩ := stb hf
      refine z_iast C S 30 0 rfl (by decide) 2111 (fun _ => rfl) g_180 dX8_addCall_180 (fun H locs S => ?_)
      rw [← e_180] at S
      refine lv_aload_n C.1 C.2.1 dX8_addCall_181 rfl (lv_at hl 0 rfl) ?_
      refine z_getR C S 8 0 rfl (by decide) cf_8 0 (by decide) _ (gr_8_0 G ad 0) tw_6_118 dX8_addCall_182 ?_
      refine lv_sipush (v := 511) C.1 C.2.1 dX8_addCall_185 (by decide) ?_
      refine lv_bipush (v := 24) C.1 C.2.1 dX8_addCall_188 (by decide) ?_
      refine lv_iload C.1 C.2.1 dX8_addCall_190 (lv_at hl 2 rfl) ?_
      refine lv_imul C.1 C.2.1 dX8_addCall_192 ?_
      refine lv_iadd C.1 C.2.1 dX8_addCall_193 ?_
      refine lv_iload C.1 C.2.1 dX8_addCall_194 (lv_at hl 1 rfl) ?_
      refine lv_iadd C.1 C.2.1 dX8_addCall_196 ?_
      refine lv_iconst (v := (-1)) C.1 C.2.1 dX8_addCall_197 (by decide) ?_
      obtain ⟨g_198, hf⟩ := gd hf
      obtain ⟨σ3, e_198, hf⟩ := stb hf
      refine z_iast C S 30 0 rfl (by decide) 2111 (fun _ => rfl) g_198 dX8_addCall_198 (fun H locs S => ?_)
      rw [← e_198] at S
      refine lv_aload_n C.1 C.2.1 dX8_addCall_199 rfl (lv_at hl 0 rfl) ?_
      refine z_getR C S 8 0 rfl (by decide) cf_8 0 (by decide) _ (gr_8_0 G ad 0) tw_6_118 dX8_addCall_200 ?_
      refine lv_sipush (v := 607) C.1 C.2.1 dX8_addCall_203 (by decide) ?_
      refine lv_bipush (v := 24) C.1 C.2.1 dX8_addCall_206 (by decide) ?_
      refine lv_iload C.1 C.2.1 dX8_addCall_208 (lv_at hl 2 rfl) ?_
      refine lv_imul C.1 C.2.1 dX8_addCall_210 ?_
      refine lv_iadd C.1 C.2.1 dX8_addCall_211 ?_
      refine lv_iload C.1 C.2.1 dX8_addCall_212 (lv_at hl 1 rfl) ?_
      refine lv_iadd C.1 C.2.1 dX8_addCall_214 ?_
      refine lv_iconst (v := 0) C.1 C.2.1 dX8_addCall_215 (by decide) ?_
      obtain ⟨g_216, hf⟩ := gd hf
      obtain ⟨σ4, e_216, hf⟩ := stb hf
      refine z_iast C S 30 0 rfl (by decide) 2111 (fun _ => rfl) g_216 dX8_addCall_216 (fun H locs S => ?_)
      rw [← e_216] at S
      refine lv_aload_n C.1 C.2.1 dX8_addCall_217 rfl (lv_at hl 0 rfl) ?_
      refine lv_iload C.1 C.2.1 dX8_addCall_218 (lv_at hl 2 rfl) ?_
      refine lv_iload C.1 C.2.1 dX8_addCall_220 (lv_at hl 1 rfl) ?_
      obtain ⟨σ5, q_222, hf⟩ := bvb hf
      refine z_callV C S 8 0 rfl (by decide) cf_8 ⟨_, rfl⟩ [.int v5, .int v4] (m_X8_forgetsBids l G ad σ4 v5 v4 σ5 q_222 _) kv_X8_forgetsBids tw_7_27 ⟨Nat.le_of_ble_eq_true rfl, Nat.le_of_ble_eq_true rfl⟩ rfl rfl (Nat.le_of_ble_eq_true rfl) hl.1 ⟨Nat.le_of_ble_eq_true rfl, Nat.le_of_ble_eq_true rfl⟩ dX8_addCall_222 (fun H locs S => ?_)
      refine lv_iinc (v := (v5 + 1)) (lv' := [(5, .int (v5 + 1)), (0, .ref (ad 8 0)), (4, .int v4)]) C.1 C.2.1 dX8_addCall_225 hl (k := 2) rfl rfl (by decide) rfl (fun ls hl => ?_)
      refine lv_goto (tgt := 139) C.1 C.2.1 dX8_addCall_228 (by decide) ?_
      exact ih _ v4 (v5 + 1) _ _ _ S (lv_sub hl [1, 2, 0] rfl)  hf
set_option maxHeartbeats 4000000 in
set_option maxRecDepth 100000 in
theorem w_X8_addCall_0 {p : Program} {l : Launch} {e : Env} {s : State} {m : MethodId} {args : Array Value} {below : List Frame} {meth : Method} {c : Code} {G : Gx} {ad : Ad} {res : Sg} (C : Cx p s m args meth c yX8_addCall.cls cX8_addCall 6 none G)  : ∀ (σ : Sg) (v1 : Int32) (v2 : Int32) (v3 : Int32) (H : Heap) (locs : List Loc) (ls : Array Slot), z_S 1 G ad σ (z_A 1 ad s.heap.size) s.heap H locs → lv_has ls 6 [(0, .ref (ad 8 0)), (1, .int v1), (2, .int v2), (3, .int v3)] → f_X8_addCall  σ v1 v2 v3 = some res → W p l e { frames := 2, cells := 0, slots := 0, locals := 45 } s m args below meth c H locs 0 0 (MQ below (va_Qv (S := Unit) (fun _ => True) (fun _ t => z_W 1 G ad res t.heap) (z_A 1 ad s.heap.size)) args s 0 0 (z_A 1 ad s.heap.size)) (F0 m 0 ls []) := by
  intro σ v1 v2 v3 H locs ls S hl  hf
  unfold f_X8_addCall at hf
  refine lv_aload_n C.1 C.2.1 dX8_addCall_0 rfl (lv_at hl 0 rfl) ?_
  refine z_getR C S 8 0 rfl (by decide) cf_8 0 (by decide) _ (gr_8_0 G ad 0) tw_6_118 dX8_addCall_1 ?_
  refine lv_iconst (v := 2) C.1 C.2.1 dX8_addCall_4 (by decide) ?_
  refine z_ialdL C S 30 0 rfl (by decide) 2111 (fun _ => rfl) 2 (by decide) (by decide) (by decide) dX8_addCall_5 ?_
  refine lv_istore (lv' := [(4, .int (σ 30 0 2)), (0, .ref (ad 8 0)), (1, .int v1), (2, .int v2), (3, .int v3)]) C.1 C.2.1 dX8_addCall_6 hl (by decide) rfl (fun ls hl => ?_)
  refine lv_aload_n C.1 C.2.1 dX8_addCall_8 rfl (lv_at hl 1 rfl) ?_
  refine z_getR C S 8 0 rfl (by decide) cf_8 0 (by decide) _ (gr_8_0 G ad 0) tw_6_118 dX8_addCall_9 ?_
  refine lv_bipush (v := 55) C.1 C.2.1 dX8_addCall_12 (by decide) ?_
  refine lv_iload C.1 C.2.1 dX8_addCall_14 (lv_at hl 0 rfl) ?_
  refine lv_iadd C.1 C.2.1 dX8_addCall_16 ?_
  refine lv_iload_n C.1 C.2.1 dX8_addCall_17 rfl (lv_at hl 3 rfl) ?_
  obtain ⟨g_18, hf⟩ := gd hf
  obtain ⟨σ1, e_18, hf⟩ := stb hf
  refine z_iast C S 30 0 rfl (by decide) 2111 (fun _ => rfl) g_18 dX8_addCall_18 (fun H locs S => ?_)
  rw [← e_18] at S
  refine lv_aload_n C.1 C.2.1 dX8_addCall_19 rfl (lv_at hl 1 rfl) ?_
  refine z_getR C S 8 0 rfl (by decide) cf_8 0 (by decide) _ (gr_8_0 G ad 0) tw_6_118 dX8_addCall_20 ?_
  refine lv_bipush (v := 79) C.1 C.2.1 dX8_addCall_23 (by decide) ?_
  refine lv_iload C.1 C.2.1 dX8_addCall_25 (lv_at hl 0 rfl) ?_
  refine lv_iadd C.1 C.2.1 dX8_addCall_27 ?_
  refine lv_iload_n C.1 C.2.1 dX8_addCall_28 rfl (lv_at hl 4 rfl) ?_
  obtain ⟨g_29, hf⟩ := gd hf
  obtain ⟨σ2, e_29, hf⟩ := stb hf
  refine z_iast C S 30 0 rfl (by decide) 2111 (fun _ => rfl) g_29 dX8_addCall_29 (fun H locs S => ?_)
  rw [← e_29] at S
  refine lv_aload_n C.1 C.2.1 dX8_addCall_30 rfl (lv_at hl 1 rfl) ?_
  refine z_getR C S 8 0 rfl (by decide) cf_8 0 (by decide) _ (gr_8_0 G ad 0) tw_6_118 dX8_addCall_31 ?_
  refine lv_bipush (v := 103) C.1 C.2.1 dX8_addCall_34 (by decide) ?_
  refine lv_iload C.1 C.2.1 dX8_addCall_36 (lv_at hl 0 rfl) ?_
  refine lv_iadd C.1 C.2.1 dX8_addCall_38 ?_
  refine lv_iload_n C.1 C.2.1 dX8_addCall_39 rfl (lv_at hl 2 rfl) ?_
  obtain ⟨g_40, hf⟩ := gd hf
  obtain ⟨σ3, e_40, hf⟩ := stb hf
  refine z_iast C S 30 0 rfl (by decide) 2111 (fun _ => rfl) g_40 dX8_addCall_40 (fun H locs S => ?_)
  rw [← e_40] at S
  refine lv_aload_n C.1 C.2.1 dX8_addCall_41 rfl (lv_at hl 1 rfl) ?_
  refine z_getR C S 8 0 rfl (by decide) cf_8 0 (by decide) _ (gr_8_0 G ad 0) tw_6_118 dX8_addCall_42 ?_
  refine lv_bipush (v := 127) C.1 C.2.1 dX8_addCall_45 (by decide) ?_
  refine lv_iload C.1 C.2.1 dX8_addCall_47 (lv_at hl 0 rfl) ?_
  refine lv_iadd C.1 C.2.1 dX8_addCall_49 ?_
  refine lv_iconst (v := 0) C.1 C.2.1 dX8_addCall_50 (by decide) ?_
  obtain ⟨g_51, hf⟩ := gd hf
  obtain ⟨σ4, e_51, hf⟩ := stb hf
  refine z_iast C S 30 0 rfl (by decide) 2111 (fun _ => rfl) g_51 dX8_addCall_51 (fun H locs S => ?_)
  rw [← e_51] at S
  refine lv_aload_n C.1 C.2.1 dX8_addCall_52 rfl (lv_at hl 1 rfl) ?_
  refine z_getR C S 8 0 rfl (by decide) cf_8 0 (by decide) _ (gr_8_0 G ad 0) tw_6_118 dX8_addCall_53 ?_
  refine lv_sipush (v := 151) C.1 C.2.1 dX8_addCall_56 (by decide) ?_
  refine lv_iload C.1 C.2.1 dX8_addCall_59 (lv_at hl 0 rfl) ?_
  refine lv_iadd C.1 C.2.1 dX8_addCall_61 ?_
  refine lv_iconst (v := (-1)) C.1 C.2.1 dX8_addCall_62 (by decide) ?_
  obtain ⟨g_63, hf⟩ := gd hf
  obtain ⟨σ5, e_63, hf⟩ := stb hf
  refine z_iast C S 30 0 rfl (by decide) 2111 (fun _ => rfl) g_63 dX8_addCall_63 (fun H locs S => ?_)
  rw [← e_63] at S
  refine lv_aload_n C.1 C.2.1 dX8_addCall_64 rfl (lv_at hl 1 rfl) ?_
  refine z_getR C S 8 0 rfl (by decide) cf_8 0 (by decide) _ (gr_8_0 G ad 0) tw_6_118 dX8_addCall_65 ?_
  refine lv_sipush (v := 175) C.1 C.2.1 dX8_addCall_68 (by decide) ?_
  refine lv_iload C.1 C.2.1 dX8_addCall_71 (lv_at hl 0 rfl) ?_
  refine lv_iadd C.1 C.2.1 dX8_addCall_73 ?_
  refine lv_iconst (v := (-1)) C.1 C.2.1 dX8_addCall_74 (by decide) ?_
  obtain ⟨g_75, hf⟩ := gd hf
  obtain ⟨σ6, e_75, hf⟩ := stb hf
  refine z_iast C S 30 0 rfl (by decide) 2111 (fun _ => rfl) g_75 dX8_addCall_75 (fun H locs S => ?_)
  rw [← e_75] at S
  refine lv_aload_n C.1 C.2.1 dX8_addCall_76 rfl (lv_at hl 1 rfl) ?_
  refine z_getR C S 8 0 rfl (by decide) cf_8 0 (by decide) _ (gr_8_0 G ad 0) tw_6_118 dX8_addCall_77 ?_
  refine lv_sipush (v := 199) C.1 C.2.1 dX8_addCall_80 (by decide) ?_
  refine lv_iload C.1 C.2.1 dX8_addCall_83 (lv_at hl 0 rfl) ?_
  refine lv_iadd C.1 C.2.1 dX8_addCall_85 ?_
  refine lv_iconst (v := (-1)) C.1 C.2.1 dX8_addCall_86 (by decide) ?_
  obtain ⟨g_87, hf⟩ := gd hf
  obtain ⟨σ7, e_87, hf⟩ := stb hf
  refine z_iast C S 30 0 rfl (by decide) 2111 (fun _ => rfl) g_87 dX8_addCall_87 (fun H locs S => ?_)
  rw [← e_87] at S
  refine lv_aload_n C.1 C.2.1 dX8_addCall_88 rfl (lv_at hl 1 rfl) ?_
  refine z_getR C S 8 0 rfl (by decide) cf_8 0 (by decide) _ (gr_8_0 G ad 0) tw_6_118 dX8_addCall_89 ?_
  refine lv_sipush (v := 223) C.1 C.2.1 dX8_addCall_92 (by decide) ?_
  refine lv_iload C.1 C.2.1 dX8_addCall_95 (lv_at hl 0 rfl) ?_
  refine lv_iadd C.1 C.2.1 dX8_addCall_97 ?_
  refine lv_iconst (v := 0) C.1 C.2.1 dX8_addCall_98 (by decide) ?_
  obtain ⟨g_99, hf⟩ := gd hf
  obtain ⟨σ8, e_99, hf⟩ := stb hf
  refine z_iast C S 30 0 rfl (by decide) 2111 (fun _ => rfl) g_99 dX8_addCall_99 (fun H locs S => ?_)
  rw [← e_99] at S
  refine lv_aload_n C.1 C.2.1 dX8_addCall_100 rfl (lv_at hl 1 rfl) ?_
  refine z_getR C S 8 0 rfl (by decide) cf_8 0 (by decide) _ (gr_8_0 G ad 0) tw_6_118 dX8_addCall_101 ?_
  refine lv_sipush (v := 247) C.1 C.2.1 dX8_addCall_104 (by decide) ?_
  refine lv_iload C.1 C.2.1 dX8_addCall_107 (lv_at hl 0 rfl) ?_
  refine lv_iadd C.1 C.2.1 dX8_addCall_109 ?_
  refine lv_iconst (v := (-1)) C.1 C.2.1 dX8_addCall_110 (by decide) ?_
  obtain ⟨g_111, hf⟩ := gd hf
  obtain ⟨σ9, e_111, hf⟩ := stb hf
  refine z_iast C S 30 0 rfl (by decide) 2111 (fun _ => rfl) g_111 dX8_addCall_111 (fun H locs S => ?_)
  rw [← e_111] at S
  refine lv_aload_n C.1 C.2.1 dX8_addCall_112 rfl (lv_at hl 1 rfl) ?_
  refine z_getR C S 8 0 rfl (by decide) cf_8 0 (by decide) _ (gr_8_0 G ad 0) tw_6_118 dX8_addCall_113 ?_
  refine lv_sipush (v := 271) C.1 C.2.1 dX8_addCall_116 (by decide) ?_
  refine lv_iload C.1 C.2.1 dX8_addCall_119 (lv_at hl 0 rfl) ?_
  refine lv_iadd C.1 C.2.1 dX8_addCall_121 ?_
  refine lv_iconst (v := 0) C.1 C.2.1 dX8_addCall_122 (by decide) ?_
  obtain ⟨g_123, hf⟩ := gd hf
  obtain ⟨σ10, e_123, hf⟩ := stb hf
  refine z_iast C S 30 0 rfl (by decide) 2111 (fun _ => rfl) g_123 dX8_addCall_123 (fun H locs S => ?_)
  rw [← e_123] at S
  refine lv_aload_n C.1 C.2.1 dX8_addCall_124 rfl (lv_at hl 1 rfl) ?_
  refine z_getR C S 8 0 rfl (by decide) cf_8 0 (by decide) _ (gr_8_0 G ad 0) tw_6_118 dX8_addCall_125 ?_
  refine lv_sipush (v := 295) C.1 C.2.1 dX8_addCall_128 (by decide) ?_
  refine lv_iload C.1 C.2.1 dX8_addCall_131 (lv_at hl 0 rfl) ?_
  refine lv_iadd C.1 C.2.1 dX8_addCall_133 ?_
  refine lv_iconst (v := (-1)) C.1 C.2.1 dX8_addCall_134 (by decide) ?_
  obtain ⟨g_135, hf⟩ := gd hf
  obtain ⟨σ11, e_135, hf⟩ := stb hf
  refine z_iast C S 30 0 rfl (by decide) 2111 (fun _ => rfl) g_135 dX8_addCall_135 (fun H locs S => ?_)
  rw [← e_135] at S
  refine lv_iconst (v := 0) C.1 C.2.1 dX8_addCall_136 (by decide) ?_
  refine lv_istore (lv' := [(5, .int 0), (4, .int (σ 30 0 2)), (0, .ref (ad 8 0)), (1, .int v1), (2, .int v2), (3, .int v3)]) C.1 C.2.1 dX8_addCall_137 hl (by decide) rfl (fun ls hl => ?_)
  exact w_X8_addCall_139 C FU _ (σ 30 0 2) 0 _ _ _ S (lv_sub hl [2, 1, 0] rfl) hf
theorem kv_X8_addCall : KV yX8_addCall cX8_addCall 6 none 3 := ⟨tw_7_26, tw_7_25, tw_p_55, tw_1_10, by decide, by decide, by decide +kernel⟩
theorem m_X8_addCall (l : Launch) (G : Gx) (ad : Ad) (σ : Sg) (v1 : Int32) (v2 : Int32) (v3 : Int32) (σ' : Sg)  (hf : f_X8_addCall σ v1 v2 v3 = some σ') (sz : Nat) : z_MV l yX8_addCall cX8_addCall 6 none 2 45 1 G ad σ sz [.ref (ad 8 0), .int v1, .int v2, .int v3] σ' := by
  refine z_begin (by decide +kernel) (Nat.le_of_ble_eq_true rfl) [(0, .ref (ad 8 0)), (1, .int v1), (2, .int v2), (3, .int v3)] rfl (fun p e s m args below meth c ls C hz S hl => ?_)
  subst hz
  exact w_X8_addCall_0 (res := σ') C σ v1 v2 v3 _ _ _ S hl  hf

theorem dX8_readCall_0 : decode cX8_readCall 0 = .ok (.aload_n 0, 1) := by decide +kernel
theorem dX8_readCall_1 : decode cX8_readCall 1 = .ok (.aload_n 0, 1) := by decide +kernel
theorem dX8_readCall_2 : decode cX8_readCall 2 = .ok (.getfield 7, 3) := by decide +kernel
theorem dX8_readCall_5 : decode cX8_readCall 5 = .ok (.iconst 2, 1) := by decide +kernel
theorem dX8_readCall_6 : decode cX8_readCall 6 = .ok (.iaload, 1) := by decide +kernel
theorem dX8_readCall_7 : decode cX8_readCall 7 = .ok (.bipush 24, 2) := by decide +kernel
theorem dX8_readCall_9 : decode cX8_readCall 9 = .ok (.if_icmp .ge 7, 3) := by decide +kernel
theorem dX8_readCall_12 : decode cX8_readCall 12 = .ok (.iconst 1, 1) := by decide +kernel
theorem dX8_readCall_13 : decode cX8_readCall 13 = .ok (.goto 4, 3) := by decide +kernel
theorem dX8_readCall_16 : decode cX8_readCall 16 = .ok (.iconst 0, 1) := by decide +kernel
theorem dX8_readCall_17 : decode cX8_readCall 17 = .ok (.invokevirtual 211, 3) := by decide +kernel
theorem dX8_readCall_20 : decode cX8_readCall 20 = .ok (.ifCond .eq 32, 3) := by decide +kernel
theorem dX8_readCall_23 : decode cX8_readCall 23 = .ok (.aload_n 0, 1) := by decide +kernel
theorem dX8_readCall_24 : decode cX8_readCall 24 = .ok (.iconst 0, 1) := by decide +kernel
theorem dX8_readCall_25 : decode cX8_readCall 25 = .ok (.iconst 0, 1) := by decide +kernel
theorem dX8_readCall_26 : decode cX8_readCall 26 = .ok (.sipush 999, 3) := by decide +kernel
theorem dX8_readCall_29 : decode cX8_readCall 29 = .ok (.invokevirtual 215, 3) := by decide +kernel
theorem dX8_readCall_32 : decode cX8_readCall 32 = .ok (.ifCond .eq 20, 3) := by decide +kernel
theorem dX8_readCall_35 : decode cX8_readCall 35 = .ok (.aload_n 0, 1) := by decide +kernel
theorem dX8_readCall_36 : decode cX8_readCall 36 = .ok (.iconst 1, 1) := by decide +kernel
theorem dX8_readCall_37 : decode cX8_readCall 37 = .ok (.iconst 0, 1) := by decide +kernel
theorem dX8_readCall_38 : decode cX8_readCall 38 = .ok (.aload_n 0, 1) := by decide +kernel
theorem dX8_readCall_39 : decode cX8_readCall 39 = .ok (.getfield 7, 3) := by decide +kernel
theorem dX8_readCall_42 : decode cX8_readCall 42 = .ok (.iconst 0, 1) := by decide +kernel
theorem dX8_readCall_43 : decode cX8_readCall 43 = .ok (.iaload, 1) := by decide +kernel
theorem dX8_readCall_44 : decode cX8_readCall 44 = .ok (.iconst 1, 1) := by decide +kernel
theorem dX8_readCall_45 : decode cX8_readCall 45 = .ok (.isub, 1) := by decide +kernel
theorem dX8_readCall_46 : decode cX8_readCall 46 = .ok (.invokevirtual 215, 3) := by decide +kernel
theorem dX8_readCall_49 : decode cX8_readCall 49 = .ok (.ifCond .ne 5, 3) := by decide +kernel
theorem dX8_readCall_52 : decode cX8_readCall 52 = .ok (.iconst 0, 1) := by decide +kernel
theorem dX8_readCall_53 : decode cX8_readCall 53 = .ok (.ireturn, 1) := by decide +kernel
theorem dX8_readCall_54 : decode cX8_readCall 54 = .ok (.aload_n 0, 1) := by decide +kernel
theorem dX8_readCall_55 : decode cX8_readCall 55 = .ok (.getfield 181, 3) := by decide +kernel
theorem dX8_readCall_58 : decode cX8_readCall 58 = .ok (.iconst 2, 1) := by decide +kernel
theorem dX8_readCall_59 : decode cX8_readCall 59 = .ok (.if_icmp .ne 30, 3) := by decide +kernel
theorem dX8_readCall_62 : decode cX8_readCall 62 = .ok (.aload_n 0, 1) := by decide +kernel
theorem dX8_readCall_63 : decode cX8_readCall 63 = .ok (.invokevirtual 190, 3) := by decide +kernel
theorem dX8_readCall_66 : decode cX8_readCall 66 = .ok (.iconst 5, 1) := by decide +kernel
theorem dX8_readCall_67 : decode cX8_readCall 67 = .ok (.if_icmp .ge 22, 3) := by decide +kernel
theorem dX8_readCall_70 : decode cX8_readCall 70 = .ok (.aload_n 0, 1) := by decide +kernel
theorem dX8_readCall_71 : decode cX8_readCall 71 = .ok (.getfield 178, 3) := by decide +kernel
theorem dX8_readCall_74 : decode cX8_readCall 74 = .ok (.aload_n 0, 1) := by decide +kernel
theorem dX8_readCall_75 : decode cX8_readCall 75 = .ok (.getfield 35, 3) := by decide +kernel
theorem dX8_readCall_78 : decode cX8_readCall 78 = .ok (.iconst 1, 1) := by decide +kernel
theorem dX8_readCall_79 : decode cX8_readCall 79 = .ok (.iaload, 1) := by decide +kernel
theorem dX8_readCall_80 : decode cX8_readCall 80 = .ok (.if_icmp .ne 9, 3) := by decide +kernel
theorem dX8_readCall_83 : decode cX8_readCall 83 = .ok (.aload_n 0, 1) := by decide +kernel
theorem dX8_readCall_84 : decode cX8_readCall 84 = .ok (.iconst 2, 1) := by decide +kernel
theorem dX8_readCall_85 : decode cX8_readCall 85 = .ok (.invokevirtual 202, 3) := by decide +kernel
theorem dX8_readCall_88 : decode cX8_readCall 88 = .ok (.ireturn, 1) := by decide +kernel
theorem dX8_readCall_89 : decode cX8_readCall 89 = .ok (.aload_n 0, 1) := by decide +kernel
theorem dX8_readCall_90 : decode cX8_readCall 90 = .ok (.iconst 2, 1) := by decide +kernel
theorem dX8_readCall_91 : decode cX8_readCall 91 = .ok (.iconst 0, 1) := by decide +kernel
theorem dX8_readCall_92 : decode cX8_readCall 92 = .ok (.aload_n 0, 1) := by decide +kernel
theorem dX8_readCall_93 : decode cX8_readCall 93 = .ok (.getfield 7, 3) := by decide +kernel
theorem dX8_readCall_96 : decode cX8_readCall 96 = .ok (.iconst 0, 1) := by decide +kernel
theorem dX8_readCall_97 : decode cX8_readCall 97 = .ok (.iaload, 1) := by decide +kernel
theorem dX8_readCall_98 : decode cX8_readCall 98 = .ok (.iconst 1, 1) := by decide +kernel
theorem dX8_readCall_99 : decode cX8_readCall 99 = .ok (.isub, 1) := by decide +kernel
theorem dX8_readCall_100 : decode cX8_readCall 100 = .ok (.invokevirtual 215, 3) := by decide +kernel
theorem dX8_readCall_103 : decode cX8_readCall 103 = .ok (.ifCond .ne 5, 3) := by decide +kernel
theorem dX8_readCall_106 : decode cX8_readCall 106 = .ok (.iconst 0, 1) := by decide +kernel
theorem dX8_readCall_107 : decode cX8_readCall 107 = .ok (.ireturn, 1) := by decide +kernel
theorem dX8_readCall_108 : decode cX8_readCall 108 = .ok (.aload_n 0, 1) := by decide +kernel
theorem dX8_readCall_109 : decode cX8_readCall 109 = .ok (.aload_n 0, 1) := by decide +kernel
theorem dX8_readCall_110 : decode cX8_readCall 110 = .ok (.getfield 35, 3) := by decide +kernel
theorem dX8_readCall_113 : decode cX8_readCall 113 = .ok (.iconst 0, 1) := by decide +kernel
theorem dX8_readCall_114 : decode cX8_readCall 114 = .ok (.iaload, 1) := by decide +kernel
theorem dX8_readCall_115 : decode cX8_readCall 115 = .ok (.aload_n 0, 1) := by decide +kernel
theorem dX8_readCall_116 : decode cX8_readCall 116 = .ok (.getfield 35, 3) := by decide +kernel
theorem dX8_readCall_119 : decode cX8_readCall 119 = .ok (.iconst 1, 1) := by decide +kernel
theorem dX8_readCall_120 : decode cX8_readCall 120 = .ok (.iaload, 1) := by decide +kernel
theorem dX8_readCall_121 : decode cX8_readCall 121 = .ok (.aload_n 0, 1) := by decide +kernel
theorem dX8_readCall_122 : decode cX8_readCall 122 = .ok (.getfield 35, 3) := by decide +kernel
theorem dX8_readCall_125 : decode cX8_readCall 125 = .ok (.iconst 2, 1) := by decide +kernel
theorem dX8_readCall_126 : decode cX8_readCall 126 = .ok (.iaload, 1) := by decide +kernel
theorem dX8_readCall_127 : decode cX8_readCall 127 = .ok (.invokevirtual 218, 3) := by decide +kernel
theorem dX8_readCall_130 : decode cX8_readCall 130 = .ok (.iconst 1, 1) := by decide +kernel
theorem dX8_readCall_131 : decode cX8_readCall 131 = .ok (.ireturn, 1) := by decide +kernel
/-! BusLiftsModel.readCall()Z -/
noncomputable def f_X8_readCall_52  (σ : Sg)  : Option (Int32 × Sg) := some (0, σ)
noncomputable def f_X8_readCall_89  (σ : Sg)  : Option (Int32 × Sg) := bi (f_X8_takes σ 2 0 ((σ 30 0 0) - 1)) fun r2 σ1 => (if r2 = 0 then (some (0, σ1)) else (bv (f_X8_addCall σ1 (σ1 37 0 0) (σ1 37 0 1) (σ1 37 0 2)) fun σ3 => (some (1, σ3))))
noncomputable def f_X8_readCall_17  (σ : Sg) (v101 : Int32) : Option (Int32 × Sg) := bi (f_X8_starts σ v101) fun r2 σ1 => (if r2 = 0 then (f_X8_readCall_52 σ1) else (bi (f_X8_takes σ1 0 0 999) fun r4 σ3 => (if r4 = 0 then (f_X8_readCall_52 σ3) else (bi (f_X8_takes σ3 1 0 ((σ3 30 0 0) - 1)) fun r6 σ5 => (if r6 = 0 then (f_X8_readCall_52 σ5) else (if (σ5 8 0 18) = 2 then (bi (f_X8_tokenLength σ5) fun r8 σ7 => (if 5 ≤ r8 then (f_X8_readCall_89 σ7) else (if (σ7 8 0 17) = (σ7 37 0 1) then (bi (f_X8_failsAt σ7 2) fun r10 σ9 => (if ¬ (r10 = 0 ∨ r10 = 1) then none else (some (r10, σ9)))) else (f_X8_readCall_89 σ7)))) else (f_X8_readCall_89 σ5)))))))
noncomputable def f_X8_readCall  (σ : Sg)  : Option (Int32 × Sg) := if 24 ≤ (σ 30 0 2) then (f_X8_readCall_17 σ 0) else (f_X8_readCall_17 σ 1)
set_option maxHeartbeats 4000000 in
set_option maxRecDepth 100000 in
theorem w_X8_readCall_52 {p : Program} {l : Launch} {e : Env} {s : State} {m : MethodId} {args : Array Value} {below : List Frame} {meth : Method} {c : Code} {G : Gx} {ad : Ad} {res : Int32 × Sg} (C : Cx p s m args meth c yX8_readCall.cls cX8_readCall 1 (Option.some FieldType.boolean) G)  : ∀ (σ : Sg)  (H : Heap) (locs : List Loc) (ls : Array Slot), z_S 1 G ad σ (z_A 1 ad s.heap.size) s.heap H locs → lv_has ls 1 [] → f_X8_readCall_52  σ  = some res → W p l e { frames := 3, cells := 0, slots := 0, locals := 70 } s m args below meth c H locs 0 0 (MQ below (va_Qi (S := Unit) (fun r1 _ => r1 = res.1) (fun _ t => z_W 1 G ad res.2 t.heap) (z_A 1 ad s.heap.size)) args s 0 0 (z_A 1 ad s.heap.size)) (F0 m 52 ls []) := by
  intro σ  H locs ls S hl  hf
  unfold f_X8_readCall_52 at hf
  refine lv_iconst (v := 0) C.1 C.2.1 dX8_readCall_52 (by decide) ?_
  exact z_zret C S rfl hf dX8_readCall_53
set_option maxHeartbeats 4000000 in
set_option maxRecDepth 100000 in
theorem w_X8_readCall_89 {p : Program} {l : Launch} {e : Env} {s : State} {m : MethodId} {args : Array Value} {below : List Frame} {meth : Method} {c : Code} {G : Gx} {ad : Ad} {res : Int32 × Sg} (C : Cx p s m args meth c yX8_readCall.cls cX8_readCall 1 (Option.some FieldType.boolean) G)  : ∀ (σ : Sg)  (H : Heap) (locs : List Loc) (ls : Array Slot), z_S 1 G ad σ (z_A 1 ad s.heap.size) s.heap H locs → lv_has ls 1 [(0, .ref (ad 8 0))] → f_X8_readCall_89  σ  = some res → W p l e { frames := 3, cells := 0, slots := 0, locals := 70 } s m args below meth c H locs 0 0 (MQ below (va_Qi (S := Unit) (fun r1 _ => r1 = res.1) (fun _ t => z_W 1 G ad res.2 t.heap) (z_A 1 ad s.heap.size)) args s 0 0 (z_A 1 ad s.heap.size)) (F0 m 89 ls []) := by
  intro σ  H locs ls S hl  hf
  unfold f_X8_readCall_89 at hf
  refine lv_aload_n C.1 C.2.1 dX8_readCall_89 rfl (lv_at hl 0 rfl) ?_
  refine lv_iconst (v := 2) C.1 C.2.1 dX8_readCall_90 (by decide) ?_
  refine lv_iconst (v := 0) C.1 C.2.1 dX8_readCall_91 (by decide) ?_
  refine lv_aload_n C.1 C.2.1 dX8_readCall_92 rfl (lv_at hl 0 rfl) ?_
  refine z_getR C S 8 0 rfl (by decide) cf_8 0 (by decide) _ (gr_8_0 G ad 0) tw_6_118 dX8_readCall_93 ?_
  refine lv_iconst (v := 0) C.1 C.2.1 dX8_readCall_96 (by decide) ?_
  refine z_ialdL C S 30 0 rfl (by decide) 2111 (fun _ => rfl) 0 (by decide) (by decide) (by decide) dX8_readCall_97 ?_
  refine lv_iconst (v := 1) C.1 C.2.1 dX8_readCall_98 (by decide) ?_
  refine lv_isub C.1 C.2.1 dX8_readCall_99 ?_
  obtain ⟨r2, σ1, q_100, hf⟩ := bib hf
  refine z_callI C S 8 0 rfl (by decide) cf_8 ⟨_, rfl⟩ [.int 2, .int 0, .int ((σ 30 0 0) - 1)] (m_X8_takes l G ad σ 2 0 ((σ 30 0 0) - 1) r2 σ1 q_100 _) kv_X8_takes tw_7_5 ⟨Nat.le_of_ble_eq_true rfl, Nat.le_of_ble_eq_true rfl⟩ rfl rfl (Nat.le_of_ble_eq_true rfl) hl.1 ⟨Nat.le_of_ble_eq_true rfl, Nat.le_of_ble_eq_true rfl⟩ dX8_readCall_100 (fun H locs S => ?_)
  refine lv_if_ne (tgt := 108) C.1 C.2.1 dX8_readCall_103 (by decide) (fun c_103 => ?_) (fun c_103 => ?_)
  · rw [if_neg c_103] at hf
    refine lv_aload_n C.1 C.2.1 dX8_readCall_108 rfl (lv_at hl 0 rfl) ?_
    refine lv_aload_n C.1 C.2.1 dX8_readCall_109 rfl (lv_at hl 0 rfl) ?_
    refine z_getR C S 8 0 rfl (by decide) cf_8 20 (by decide) _ (gr_8_20 G ad 0) tw_6_138 dX8_readCall_110 ?_
    refine lv_iconst (v := 0) C.1 C.2.1 dX8_readCall_113 (by decide) ?_
    refine z_ialdL C S 37 0 rfl (by decide) 3 (fun _ => rfl) 0 (by decide) (by decide) (by decide) dX8_readCall_114 ?_
    refine lv_aload_n C.1 C.2.1 dX8_readCall_115 rfl (lv_at hl 0 rfl) ?_
    refine z_getR C S 8 0 rfl (by decide) cf_8 20 (by decide) _ (gr_8_20 G ad 0) tw_6_138 dX8_readCall_116 ?_
    refine lv_iconst (v := 1) C.1 C.2.1 dX8_readCall_119 (by decide) ?_
    refine z_ialdL C S 37 0 rfl (by decide) 3 (fun _ => rfl) 1 (by decide) (by decide) (by decide) dX8_readCall_120 ?_
    refine lv_aload_n C.1 C.2.1 dX8_readCall_121 rfl (lv_at hl 0 rfl) ?_
    refine z_getR C S 8 0 rfl (by decide) cf_8 20 (by decide) _ (gr_8_20 G ad 0) tw_6_138 dX8_readCall_122 ?_
    refine lv_iconst (v := 2) C.1 C.2.1 dX8_readCall_125 (by decide) ?_
    refine z_ialdL C S 37 0 rfl (by decide) 3 (fun _ => rfl) 2 (by decide) (by decide) (by decide) dX8_readCall_126 ?_
    obtain ⟨σ3, q_127, hf⟩ := bvb hf
    refine z_callV C S 8 0 rfl (by decide) cf_8 ⟨_, rfl⟩ [.int (σ1 37 0 0), .int (σ1 37 0 1), .int (σ1 37 0 2)] (m_X8_addCall l G ad σ1 (σ1 37 0 0) (σ1 37 0 1) (σ1 37 0 2) σ3 q_127 _) kv_X8_addCall tw_7_23 ⟨Nat.le_of_ble_eq_true rfl, Nat.le_of_ble_eq_true rfl⟩ rfl rfl (Nat.le_of_ble_eq_true rfl) hl.1 ⟨Nat.le_of_ble_eq_true rfl, Nat.le_of_ble_eq_true rfl⟩ dX8_readCall_127 (fun H locs S => ?_)
    refine lv_iconst (v := 1) C.1 C.2.1 dX8_readCall_130 (by decide) ?_
    exact z_zret C S rfl hf dX8_readCall_131
  · rw [if_pos c_103] at hf
    refine lv_iconst (v := 0) C.1 C.2.1 dX8_readCall_106 (by decide) ?_
    exact z_zret C S rfl hf dX8_readCall_107
set_option maxHeartbeats 4000000 in
set_option maxRecDepth 100000 in
theorem w_X8_readCall_17 {p : Program} {l : Launch} {e : Env} {s : State} {m : MethodId} {args : Array Value} {below : List Frame} {meth : Method} {c : Code} {G : Gx} {ad : Ad} {res : Int32 × Sg} (C : Cx p s m args meth c yX8_readCall.cls cX8_readCall 1 (Option.some FieldType.boolean) G)  : ∀ (σ : Sg) (v101 : Int32) (H : Heap) (locs : List Loc) (ls : Array Slot), z_S 1 G ad σ (z_A 1 ad s.heap.size) s.heap H locs → lv_has ls 1 [(0, .ref (ad 8 0))] → f_X8_readCall_17  σ v101 = some res → W p l e { frames := 3, cells := 0, slots := 0, locals := 70 } s m args below meth c H locs 0 0 (MQ below (va_Qi (S := Unit) (fun r1 _ => r1 = res.1) (fun _ t => z_W 1 G ad res.2 t.heap) (z_A 1 ad s.heap.size)) args s 0 0 (z_A 1 ad s.heap.size)) (F0 m 17 ls [.int v101, .ref (ad 8 0)]) := by
  intro σ v101 H locs ls S hl  hf
  unfold f_X8_readCall_17 at hf
  obtain ⟨r2, σ1, q_17, hf⟩ := bib hf
  refine z_callI C S 8 0 rfl (by decide) cf_8 ⟨_, rfl⟩ [.int v101] (m_X8_starts l G ad σ v101 r2 σ1 q_17 _) kv_X8_starts tw_7_14 ⟨Nat.le_of_ble_eq_true rfl, Nat.le_of_ble_eq_true rfl⟩ rfl rfl (Nat.le_of_ble_eq_true rfl) hl.1 ⟨Nat.le_of_ble_eq_true rfl, Nat.le_of_ble_eq_true rfl⟩ dX8_readCall_17 (fun H locs S => ?_)
  refine lv_if_eq (tgt := 52) C.1 C.2.1 dX8_readCall_20 (by decide) (fun c_20 => ?_) (fun c_20 => ?_)
  · rw [if_pos c_20] at hf
    exact w_X8_readCall_52 C _ _ _ _ S (lv_sub hl [] rfl) hf
  · rw [if_neg c_20] at hf
    refine lv_aload_n C.1 C.2.1 dX8_readCall_23 rfl (lv_at hl 0 rfl) ?_
    refine lv_iconst (v := 0) C.1 C.2.1 dX8_readCall_24 (by decide) ?_
    refine lv_iconst (v := 0) C.1 C.2.1 dX8_readCall_25 (by decide) ?_
    refine lv_sipush (v := 999) C.1 C.2.1 dX8_readCall_26 (by decide) ?_
    obtain ⟨r4, σ3, q_29, hf⟩ := bib hf
    refine z_callI C S 8 0 rfl (by decide) cf_8 ⟨_, rfl⟩ [.int 0, .int 0, .int 999] (m_X8_takes l G ad σ1 0 0 999 r4 σ3 q_29 _) kv_X8_takes tw_7_5 ⟨Nat.le_of_ble_eq_true rfl, Nat.le_of_ble_eq_true rfl⟩ rfl rfl (Nat.le_of_ble_eq_true rfl) hl.1 ⟨Nat.le_of_ble_eq_true rfl, Nat.le_of_ble_eq_true rfl⟩ dX8_readCall_29 (fun H locs S => ?_)
    refine lv_if_eq (tgt := 52) C.1 C.2.1 dX8_readCall_32 (by decide) (fun c_32 => ?_) (fun c_32 => ?_)
    · rw [if_pos c_32] at hf
      exact w_X8_readCall_52 C _ _ _ _ S (lv_sub hl [] rfl) hf
    · rw [if_neg c_32] at hf
      refine lv_aload_n C.1 C.2.1 dX8_readCall_35 rfl (lv_at hl 0 rfl) ?_
      refine lv_iconst (v := 1) C.1 C.2.1 dX8_readCall_36 (by decide) ?_
      refine lv_iconst (v := 0) C.1 C.2.1 dX8_readCall_37 (by decide) ?_
      refine lv_aload_n C.1 C.2.1 dX8_readCall_38 rfl (lv_at hl 0 rfl) ?_
      refine z_getR C S 8 0 rfl (by decide) cf_8 0 (by decide) _ (gr_8_0 G ad 0) tw_6_118 dX8_readCall_39 ?_
      refine lv_iconst (v := 0) C.1 C.2.1 dX8_readCall_42 (by decide) ?_
      refine z_ialdL C S 30 0 rfl (by decide) 2111 (fun _ => rfl) 0 (by decide) (by decide) (by decide) dX8_readCall_43 ?_
      refine lv_iconst (v := 1) C.1 C.2.1 dX8_readCall_44 (by decide) ?_
      refine lv_isub C.1 C.2.1 dX8_readCall_45 ?_
      obtain ⟨r6, σ5, q_46, hf⟩ := bib hf
      refine z_callI C S 8 0 rfl (by decide) cf_8 ⟨_, rfl⟩ [.int 1, .int 0, .int ((σ3 30 0 0) - 1)] (m_X8_takes l G ad σ3 1 0 ((σ3 30 0 0) - 1) r6 σ5 q_46 _) kv_X8_takes tw_7_5 ⟨Nat.le_of_ble_eq_true rfl, Nat.le_of_ble_eq_true rfl⟩ rfl rfl (Nat.le_of_ble_eq_true rfl) hl.1 ⟨Nat.le_of_ble_eq_true rfl, Nat.le_of_ble_eq_true rfl⟩ dX8_readCall_46 (fun H locs S => ?_)
      refine lv_if_ne (tgt := 54) C.1 C.2.1 dX8_readCall_49 (by decide) (fun c_49 => ?_) (fun c_49 => ?_)
      · rw [if_neg c_49] at hf
        refine lv_aload_n C.1 C.2.1 dX8_readCall_54 rfl (lv_at hl 0 rfl) ?_
        refine z_getI C S 8 0 rfl (by decide) cf_8 18 (by decide) (gi_8_18 G ad 0) tw_6_136 dX8_readCall_55 ?_
        refine lv_iconst (v := 2) C.1 C.2.1 dX8_readCall_58 (by decide) ?_
        refine lv_icmp_ne (tgt := 89) C.1 C.2.1 dX8_readCall_59 (by decide) (fun c_59 => ?_) (fun c_59 => ?_)
        · rw [if_neg c_59] at hf
          exact w_X8_readCall_89 C _ _ _ _ S (lv_sub hl [0] rfl) hf
        · rw [if_pos c_59] at hf
          refine lv_aload_n C.1 C.2.1 dX8_readCall_62 rfl (lv_at hl 0 rfl) ?_
          obtain ⟨r8, σ7, q_63, hf⟩ := bib hf
          refine z_callI C S 8 0 rfl (by decide) cf_8 ⟨_, rfl⟩ [] (m_X8_tokenLength l G ad σ5 r8 σ7 q_63 _) kv_X8_tokenLength tw_6_235 ⟨Nat.le_of_ble_eq_true rfl, Nat.le_of_ble_eq_true rfl⟩ rfl rfl (Nat.le_of_ble_eq_true rfl) hl.1 ⟨Nat.le_of_ble_eq_true rfl, Nat.le_of_ble_eq_true rfl⟩ dX8_readCall_63 (fun H locs S => ?_)
          refine lv_iconst (v := 5) C.1 C.2.1 dX8_readCall_66 (by decide) ?_
          refine lv_icmp_ge (tgt := 89) C.1 C.2.1 dX8_readCall_67 (by decide) (fun c_67 => ?_) (fun c_67 => ?_)
          · rw [if_pos c_67] at hf
            exact w_X8_readCall_89 C _ _ _ _ S (lv_sub hl [0] rfl) hf
          · rw [if_neg c_67] at hf
            refine lv_aload_n C.1 C.2.1 dX8_readCall_70 rfl (lv_at hl 0 rfl) ?_
            refine z_getI C S 8 0 rfl (by decide) cf_8 17 (by decide) (gi_8_17 G ad 0) tw_6_135 dX8_readCall_71 ?_
            refine lv_aload_n C.1 C.2.1 dX8_readCall_74 rfl (lv_at hl 0 rfl) ?_
            refine z_getR C S 8 0 rfl (by decide) cf_8 20 (by decide) _ (gr_8_20 G ad 0) tw_6_138 dX8_readCall_75 ?_
            refine lv_iconst (v := 1) C.1 C.2.1 dX8_readCall_78 (by decide) ?_
            refine z_ialdL C S 37 0 rfl (by decide) 3 (fun _ => rfl) 1 (by decide) (by decide) (by decide) dX8_readCall_79 ?_
            refine lv_icmp_ne (tgt := 89) C.1 C.2.1 dX8_readCall_80 (by decide) (fun c_80 => ?_) (fun c_80 => ?_)
            · rw [if_neg c_80] at hf
              exact w_X8_readCall_89 C _ _ _ _ S (lv_sub hl [0] rfl) hf
            · rw [if_pos c_80] at hf
              refine lv_aload_n C.1 C.2.1 dX8_readCall_83 rfl (lv_at hl 0 rfl) ?_
              refine lv_iconst (v := 2) C.1 C.2.1 dX8_readCall_84 (by decide) ?_
              obtain ⟨r10, σ9, q_85, hf⟩ := bib hf
              refine z_callI C S 8 0 rfl (by decide) cf_8 ⟨_, rfl⟩ [.int 2] (m_X8_failsAt l G ad σ7 2 r10 σ9 q_85 _) kv_X8_failsAt tw_7_1 ⟨Nat.le_of_ble_eq_true rfl, Nat.le_of_ble_eq_true rfl⟩ rfl rfl (Nat.le_of_ble_eq_true rfl) hl.1 ⟨Nat.le_of_ble_eq_true rfl, Nat.le_of_ble_eq_true rfl⟩ dX8_readCall_85 (fun H locs S => ?_)
              obtain ⟨g_88, hf⟩ := gd hf
              exact z_zret C S (nbz g_88).1 hf dX8_readCall_88
      · rw [if_pos c_49] at hf
        exact w_X8_readCall_52 C _ _ _ _ S (lv_sub hl [] rfl) hf
set_option maxHeartbeats 4000000 in
set_option maxRecDepth 100000 in
theorem w_X8_readCall_0 {p : Program} {l : Launch} {e : Env} {s : State} {m : MethodId} {args : Array Value} {below : List Frame} {meth : Method} {c : Code} {G : Gx} {ad : Ad} {res : Int32 × Sg} (C : Cx p s m args meth c yX8_readCall.cls cX8_readCall 1 (Option.some FieldType.boolean) G)  : ∀ (σ : Sg)  (H : Heap) (locs : List Loc) (ls : Array Slot), z_S 1 G ad σ (z_A 1 ad s.heap.size) s.heap H locs → lv_has ls 1 [(0, .ref (ad 8 0))] → f_X8_readCall  σ  = some res → W p l e { frames := 3, cells := 0, slots := 0, locals := 70 } s m args below meth c H locs 0 0 (MQ below (va_Qi (S := Unit) (fun r1 _ => r1 = res.1) (fun _ t => z_W 1 G ad res.2 t.heap) (z_A 1 ad s.heap.size)) args s 0 0 (z_A 1 ad s.heap.size)) (F0 m 0 ls []) := by
  intro σ  H locs ls S hl  hf
  unfold f_X8_readCall at hf
  refine lv_aload_n C.1 C.2.1 dX8_readCall_0 rfl (lv_at hl 0 rfl) ?_
  refine lv_aload_n C.1 C.2.1 dX8_readCall_1 rfl (lv_at hl 0 rfl) ?_
  refine z_getR C S 8 0 rfl (by decide) cf_8 0 (by decide) _ (gr_8_0 G ad 0) tw_6_118 dX8_readCall_2 ?_
  refine lv_iconst (v := 2) C.1 C.2.1 dX8_readCall_5 (by decide) ?_
  refine z_ialdL C S 30 0 rfl (by decide) 2111 (fun _ => rfl) 2 (by decide) (by decide) (by decide) dX8_readCall_6 ?_
  refine lv_bipush (v := 24) C.1 C.2.1 dX8_readCall_7 (by decide) ?_
  refine lv_icmp_ge (tgt := 16) C.1 C.2.1 dX8_readCall_9 (by decide) (fun c_9 => ?_) (fun c_9 => ?_)
  · rw [if_pos c_9] at hf
    refine lv_iconst (v := 0) C.1 C.2.1 dX8_readCall_16 (by decide) ?_
    exact w_X8_readCall_17 C _ 0 _ _ _ S (lv_sub hl [0] rfl) hf
  · rw [if_neg c_9] at hf
    refine lv_iconst (v := 1) C.1 C.2.1 dX8_readCall_12 (by decide) ?_
    refine lv_goto (tgt := 17) C.1 C.2.1 dX8_readCall_13 (by decide) ?_
    exact w_X8_readCall_17 C _ 1 _ _ _ S (lv_sub hl [0] rfl) hf
theorem kv_X8_readCall : KV yX8_readCall cX8_readCall 1 (Option.some FieldType.boolean) 0 := ⟨tw_7_22, tw_7_21, tw_p_54, tw_1_10, by decide, by decide, by decide +kernel⟩
theorem m_X8_readCall (l : Launch) (G : Gx) (ad : Ad) (σ : Sg)  (r : Int32) (σ' : Sg)  (hf : f_X8_readCall σ  = some (r, σ')) (sz : Nat) : z_MI l yX8_readCall cX8_readCall 1 (Option.some FieldType.boolean) 3 70 1 G ad σ sz [.ref (ad 8 0)] r σ' := by
  refine z_begin (by decide +kernel) (Nat.le_of_ble_eq_true rfl) [(0, .ref (ad 8 0))] rfl (fun p e s m args below meth c ls C hz S hl => ?_)
  subst hz
  exact w_X8_readCall_0 (res := (r, σ')) C σ  _ _ _ S hl  hf

theorem dX8_takesOnce_0 : decode cX8_takesOnce 0 = .ok (.aload_n 0, 1) := by decide +kernel
theorem dX8_takesOnce_1 : decode cX8_takesOnce 1 = .ok (.getfield 208, 3) := by decide +kernel
theorem dX8_takesOnce_4 : decode cX8_takesOnce 4 = .ok (.iload_n 1, 1) := by decide +kernel
theorem dX8_takesOnce_5 : decode cX8_takesOnce 5 = .ok (.ishr, 1) := by decide +kernel
theorem dX8_takesOnce_6 : decode cX8_takesOnce 6 = .ok (.iconst 1, 1) := by decide +kernel
theorem dX8_takesOnce_7 : decode cX8_takesOnce 7 = .ok (.iand, 1) := by decide +kernel
theorem dX8_takesOnce_8 : decode cX8_takesOnce 8 = .ok (.ifCond .ne 7, 3) := by decide +kernel
theorem dX8_takesOnce_11 : decode cX8_takesOnce 11 = .ok (.iconst 1, 1) := by decide +kernel
theorem dX8_takesOnce_12 : decode cX8_takesOnce 12 = .ok (.goto 4, 3) := by decide +kernel
theorem dX8_takesOnce_15 : decode cX8_takesOnce 15 = .ok (.iconst 0, 1) := by decide +kernel
theorem dX8_takesOnce_16 : decode cX8_takesOnce 16 = .ok (.istore 4, 2) := by decide +kernel
theorem dX8_takesOnce_18 : decode cX8_takesOnce 18 = .ok (.aload_n 0, 1) := by decide +kernel
theorem dX8_takesOnce_19 : decode cX8_takesOnce 19 = .ok (.dup, 1) := by decide +kernel
theorem dX8_takesOnce_20 : decode cX8_takesOnce 20 = .ok (.getfield 208, 3) := by decide +kernel
theorem dX8_takesOnce_23 : decode cX8_takesOnce 23 = .ok (.iconst 1, 1) := by decide +kernel
theorem dX8_takesOnce_24 : decode cX8_takesOnce 24 = .ok (.iload_n 1, 1) := by decide +kernel
theorem dX8_takesOnce_25 : decode cX8_takesOnce 25 = .ok (.ishl, 1) := by decide +kernel
theorem dX8_takesOnce_26 : decode cX8_takesOnce 26 = .ok (.ior, 1) := by decide +kernel
theorem dX8_takesOnce_27 : decode cX8_takesOnce 27 = .ok (.putfield 208, 3) := by decide +kernel
theorem dX8_takesOnce_30 : decode cX8_takesOnce 30 = .ok (.aload_n 0, 1) := by decide +kernel
theorem dX8_takesOnce_31 : decode cX8_takesOnce 31 = .ok (.iload 4, 2) := by decide +kernel
theorem dX8_takesOnce_33 : decode cX8_takesOnce 33 = .ok (.invokevirtual 211, 3) := by decide +kernel
theorem dX8_takesOnce_36 : decode cX8_takesOnce 36 = .ok (.ifCond .eq 13, 3) := by decide +kernel
theorem dX8_takesOnce_39 : decode cX8_takesOnce 39 = .ok (.aload_n 0, 1) := by decide +kernel
theorem dX8_takesOnce_40 : decode cX8_takesOnce 40 = .ok (.iconst 0, 1) := by decide +kernel
theorem dX8_takesOnce_41 : decode cX8_takesOnce 41 = .ok (.iload_n 2, 1) := by decide +kernel
theorem dX8_takesOnce_42 : decode cX8_takesOnce 42 = .ok (.iload_n 3, 1) := by decide +kernel
theorem dX8_takesOnce_43 : decode cX8_takesOnce 43 = .ok (.invokevirtual 215, 3) := by decide +kernel
theorem dX8_takesOnce_46 : decode cX8_takesOnce 46 = .ok (.ifCond .ne 5, 3) := by decide +kernel
theorem dX8_takesOnce_49 : decode cX8_takesOnce 49 = .ok (.iconst 0, 1) := by decide +kernel
theorem dX8_takesOnce_50 : decode cX8_takesOnce 50 = .ok (.ireturn, 1) := by decide +kernel
theorem dX8_takesOnce_51 : decode cX8_takesOnce 51 = .ok (.aload_n 0, 1) := by decide +kernel
theorem dX8_takesOnce_52 : decode cX8_takesOnce 52 = .ok (.getfield 7, 3) := by decide +kernel
theorem dX8_takesOnce_55 : decode cX8_takesOnce 55 = .ok (.iload_n 1, 1) := by decide +kernel
theorem dX8_takesOnce_56 : decode cX8_takesOnce 56 = .ok (.aload_n 0, 1) := by decide +kernel
theorem dX8_takesOnce_57 : decode cX8_takesOnce 57 = .ok (.getfield 35, 3) := by decide +kernel
theorem dX8_takesOnce_60 : decode cX8_takesOnce 60 = .ok (.iconst 0, 1) := by decide +kernel
theorem dX8_takesOnce_61 : decode cX8_takesOnce 61 = .ok (.iaload, 1) := by decide +kernel
theorem dX8_takesOnce_62 : decode cX8_takesOnce 62 = .ok (.iastore, 1) := by decide +kernel
theorem dX8_takesOnce_63 : decode cX8_takesOnce 63 = .ok (.iconst 1, 1) := by decide +kernel
theorem dX8_takesOnce_64 : decode cX8_takesOnce 64 = .ok (.ireturn, 1) := by decide +kernel
/-! BusLiftsModel.takesOnce(III)Z -/
noncomputable def f_X8_takesOnce_49  (σ : Sg)  : Option (Int32 × Sg) := some (0, σ)
noncomputable def f_X8_takesOnce_16  (σ : Sg) (v1 : Int32) (v2 : Int32) (v3 : Int32) (v100 : Int32) : Option (Int32 × Sg) := st (sup σ 8 0 19 ((σ 8 0 19) ||| (1 <<< (v1 &&& 31)))) fun σ1 => (bi (f_X8_starts σ1 v100) fun r3 σ2 => (if r3 = 0 then (f_X8_takesOnce_49 σ2) else (bi (f_X8_takes σ2 0 v2 v3) fun r5 σ4 => (if r5 = 0 then (f_X8_takesOnce_49 σ4) else (if v1 < 0 ∨ 2111 ≤ (v1).toNatClampNeg then none else (st (sup σ4 30 0 (v1).toNatClampNeg (σ4 37 0 0)) fun σ6 => (some (1, σ6))))))))
noncomputable def f_X8_takesOnce  (σ : Sg) (v1 : Int32) (v2 : Int32) (v3 : Int32) : Option (Int32 × Sg) := if (((σ 8 0 19) >>> (v1 &&& 31)) &&& 1) = 0 then (f_X8_takesOnce_16 σ v1 v2 v3 1) else (f_X8_takesOnce_16 σ v1 v2 v3 0)
set_option maxHeartbeats 4000000 in
set_option maxRecDepth 100000 in
theorem w_X8_takesOnce_49 {p : Program} {l : Launch} {e : Env} {s : State} {m : MethodId} {args : Array Value} {below : List Frame} {meth : Method} {c : Code} {G : Gx} {ad : Ad} {res : Int32 × Sg} (C : Cx p s m args meth c yX8_takesOnce.cls cX8_takesOnce 5 (Option.some FieldType.boolean) G)  : ∀ (σ : Sg)  (H : Heap) (locs : List Loc) (ls : Array Slot), z_S 1 G ad σ (z_A 1 ad s.heap.size) s.heap H locs → lv_has ls 5 [] → f_X8_takesOnce_49  σ  = some res → W p l e { frames := 3, cells := 0, slots := 0, locals := 66 } s m args below meth c H locs 0 0 (MQ below (va_Qi (S := Unit) (fun r1 _ => r1 = res.1) (fun _ t => z_W 1 G ad res.2 t.heap) (z_A 1 ad s.heap.size)) args s 0 0 (z_A 1 ad s.heap.size)) (F0 m 49 ls []) := by
  intro σ  H locs ls S hl  hf
  unfold f_X8_takesOnce_49 at hf
  refine lv_iconst (v := 0) C.1 C.2.1 dX8_takesOnce_49 (by decide) ?_
  exact z_zret C S rfl hf dX8_takesOnce_50
set_option maxHeartbeats 4000000 in
set_option maxRecDepth 100000 in
theorem w_X8_takesOnce_16 {p : Program} {l : Launch} {e : Env} {s : State} {m : MethodId} {args : Array Value} {below : List Frame} {meth : Method} {c : Code} {G : Gx} {ad : Ad} {res : Int32 × Sg} (C : Cx p s m args meth c yX8_takesOnce.cls cX8_takesOnce 5 (Option.some FieldType.boolean) G)  : ∀ (σ : Sg) (v1 : Int32) (v2 : Int32) (v3 : Int32) (v100 : Int32) (H : Heap) (locs : List Loc) (ls : Array Slot), z_S 1 G ad σ (z_A 1 ad s.heap.size) s.heap H locs → lv_has ls 5 [(0, .ref (ad 8 0)), (1, .int v1), (2, .int v2), (3, .int v3)] → f_X8_takesOnce_16  σ v1 v2 v3 v100 = some res → W p l e { frames := 3, cells := 0, slots := 0, locals := 66 } s m args below meth c H locs 0 0 (MQ below (va_Qi (S := Unit) (fun r1 _ => r1 = res.1) (fun _ t => z_W 1 G ad res.2 t.heap) (z_A 1 ad s.heap.size)) args s 0 0 (z_A 1 ad s.heap.size)) (F0 m 16 ls [.int v100]) := by
  intro σ v1 v2 v3 v100 H locs ls S hl  hf
  unfold f_X8_takesOnce_16 at hf
  refine lv_istore (lv' := [(4, .int v100), (0, .ref (ad 8 0)), (1, .int v1), (2, .int v2), (3, .int v3)]) C.1 C.2.1 dX8_takesOnce_16 hl (by decide) rfl (fun ls hl => ?_)
  refine lv_aload_n C.1 C.2.1 dX8_takesOnce_18 rfl (lv_at hl 1 rfl) ?_
  refine lv_dup C.1 C.2.1 dX8_takesOnce_19 rfl ?_
  refine z_getI C S 8 0 rfl (by decide) cf_8 19 (by decide) (gi_8_19 G ad 0) tw_6_137 dX8_takesOnce_20 ?_
  refine lv_iconst (v := 1) C.1 C.2.1 dX8_takesOnce_23 (by decide) ?_
  refine lv_iload_n C.1 C.2.1 dX8_takesOnce_24 rfl (lv_at hl 2 rfl) ?_
  refine lv_ishl C.1 C.2.1 dX8_takesOnce_25 ?_
  refine lv_ior C.1 C.2.1 dX8_takesOnce_26 ?_
  obtain ⟨σ1, e_27, hf⟩ := stb hf
  refine z_putI C S 8 0 rfl (by decide) cf_8 19 (by decide) (pi_8_19 G ad 0) rfl rfl rfl tw_6_137 dX8_takesOnce_27 (fun H locs S => ?_)
  rw [← e_27] at S
  refine lv_aload_n C.1 C.2.1 dX8_takesOnce_30 rfl (lv_at hl 1 rfl) ?_
  refine lv_iload C.1 C.2.1 dX8_takesOnce_31 (lv_at hl 0 rfl) ?_
  obtain ⟨r3, σ2, q_33, hf⟩ := bib hf
  refine z_callI C S 8 0 rfl (by decide) cf_8 ⟨_, rfl⟩ [.int v100] (m_X8_starts l G ad σ1 v100 r3 σ2 q_33 _) kv_X8_starts tw_7_14 ⟨Nat.le_of_ble_eq_true rfl, Nat.le_of_ble_eq_true rfl⟩ rfl rfl (Nat.le_of_ble_eq_true rfl) hl.1 ⟨Nat.le_of_ble_eq_true rfl, Nat.le_of_ble_eq_true rfl⟩ dX8_takesOnce_33 (fun H locs S => ?_)
  refine lv_if_eq (tgt := 49) C.1 C.2.1 dX8_takesOnce_36 (by decide) (fun c_36 => ?_) (fun c_36 => ?_)
  · rw [if_pos c_36] at hf
    exact w_X8_takesOnce_49 C _ _ _ _ S (lv_sub hl [] rfl) hf
  · rw [if_neg c_36] at hf
    refine lv_aload_n C.1 C.2.1 dX8_takesOnce_39 rfl (lv_at hl 1 rfl) ?_
    refine lv_iconst (v := 0) C.1 C.2.1 dX8_takesOnce_40 (by decide) ?_
    refine lv_iload_n C.1 C.2.1 dX8_takesOnce_41 rfl (lv_at hl 3 rfl) ?_
    refine lv_iload_n C.1 C.2.1 dX8_takesOnce_42 rfl (lv_at hl 4 rfl) ?_
    obtain ⟨r5, σ4, q_43, hf⟩ := bib hf
    refine z_callI C S 8 0 rfl (by decide) cf_8 ⟨_, rfl⟩ [.int 0, .int v2, .int v3] (m_X8_takes l G ad σ2 0 v2 v3 r5 σ4 q_43 _) kv_X8_takes tw_7_5 ⟨Nat.le_of_ble_eq_true rfl, Nat.le_of_ble_eq_true rfl⟩ rfl rfl (Nat.le_of_ble_eq_true rfl) hl.1 ⟨Nat.le_of_ble_eq_true rfl, Nat.le_of_ble_eq_true rfl⟩ dX8_takesOnce_43 (fun H locs S => ?_)
    refine lv_if_ne (tgt := 51) C.1 C.2.1 dX8_takesOnce_46 (by decide) (fun c_46 => ?_) (fun c_46 => ?_)
    · rw [if_neg c_46] at hf
      refine lv_aload_n C.1 C.2.1 dX8_takesOnce_51 rfl (lv_at hl 1 rfl) ?_
      refine z_getR C S 8 0 rfl (by decide) cf_8 0 (by decide) _ (gr_8_0 G ad 0) tw_6_118 dX8_takesOnce_52 ?_
      refine lv_iload_n C.1 C.2.1 dX8_takesOnce_55 rfl (lv_at hl 2 rfl) ?_
      refine lv_aload_n C.1 C.2.1 dX8_takesOnce_56 rfl (lv_at hl 1 rfl) ?_
      refine z_getR C S 8 0 rfl (by decide) cf_8 20 (by decide) _ (gr_8_20 G ad 0) tw_6_138 dX8_takesOnce_57 ?_
      refine lv_iconst (v := 0) C.1 C.2.1 dX8_takesOnce_60 (by decide) ?_
      refine z_ialdL C S 37 0 rfl (by decide) 3 (fun _ => rfl) 0 (by decide) (by decide) (by decide) dX8_takesOnce_61 ?_
      obtain ⟨g_62, hf⟩ := gd hf
      obtain ⟨σ6, e_62, hf⟩ := stb hf
      refine z_iast C S 30 0 rfl (by decide) 2111 (fun _ => rfl) g_62 dX8_takesOnce_62 (fun H locs S => ?_)
      rw [← e_62] at S
      refine lv_iconst (v := 1) C.1 C.2.1 dX8_takesOnce_63 (by decide) ?_
      exact z_zret C S rfl hf dX8_takesOnce_64
    · rw [if_pos c_46] at hf
      exact w_X8_takesOnce_49 C _ _ _ _ S (lv_sub hl [] rfl) hf
set_option maxHeartbeats 4000000 in
set_option maxRecDepth 100000 in
theorem w_X8_takesOnce_0 {p : Program} {l : Launch} {e : Env} {s : State} {m : MethodId} {args : Array Value} {below : List Frame} {meth : Method} {c : Code} {G : Gx} {ad : Ad} {res : Int32 × Sg} (C : Cx p s m args meth c yX8_takesOnce.cls cX8_takesOnce 5 (Option.some FieldType.boolean) G)  : ∀ (σ : Sg) (v1 : Int32) (v2 : Int32) (v3 : Int32) (H : Heap) (locs : List Loc) (ls : Array Slot), z_S 1 G ad σ (z_A 1 ad s.heap.size) s.heap H locs → lv_has ls 5 [(0, .ref (ad 8 0)), (1, .int v1), (2, .int v2), (3, .int v3)] → f_X8_takesOnce  σ v1 v2 v3 = some res → W p l e { frames := 3, cells := 0, slots := 0, locals := 66 } s m args below meth c H locs 0 0 (MQ below (va_Qi (S := Unit) (fun r1 _ => r1 = res.1) (fun _ t => z_W 1 G ad res.2 t.heap) (z_A 1 ad s.heap.size)) args s 0 0 (z_A 1 ad s.heap.size)) (F0 m 0 ls []) := by
  intro σ v1 v2 v3 H locs ls S hl  hf
  unfold f_X8_takesOnce at hf
  refine lv_aload_n C.1 C.2.1 dX8_takesOnce_0 rfl (lv_at hl 0 rfl) ?_
  refine z_getI C S 8 0 rfl (by decide) cf_8 19 (by decide) (gi_8_19 G ad 0) tw_6_137 dX8_takesOnce_1 ?_
  refine lv_iload_n C.1 C.2.1 dX8_takesOnce_4 rfl (lv_at hl 1 rfl) ?_
  refine lv_ishr C.1 C.2.1 dX8_takesOnce_5 ?_
  refine lv_iconst (v := 1) C.1 C.2.1 dX8_takesOnce_6 (by decide) ?_
  refine lv_iand C.1 C.2.1 dX8_takesOnce_7 ?_
  refine lv_if_ne (tgt := 15) C.1 C.2.1 dX8_takesOnce_8 (by decide) (fun c_8 => ?_) (fun c_8 => ?_)
  · rw [if_neg c_8] at hf
    refine lv_iconst (v := 0) C.1 C.2.1 dX8_takesOnce_15 (by decide) ?_
    exact w_X8_takesOnce_16 C _ v1 v2 v3 0 _ _ _ S (lv_sub hl [0, 1, 2, 3] rfl) hf
  · rw [if_pos c_8] at hf
    refine lv_iconst (v := 1) C.1 C.2.1 dX8_takesOnce_11 (by decide) ?_
    refine lv_goto (tgt := 16) C.1 C.2.1 dX8_takesOnce_12 (by decide) ?_
    exact w_X8_takesOnce_16 C _ v1 v2 v3 1 _ _ _ S (lv_sub hl [0, 1, 2, 3] rfl) hf
theorem kv_X8_takesOnce : KV yX8_takesOnce cX8_takesOnce 5 (Option.some FieldType.boolean) 3 := ⟨tw_7_38, tw_7_37, tw_p_57, tw_1_10, by decide, by decide, by decide +kernel⟩
theorem m_X8_takesOnce (l : Launch) (G : Gx) (ad : Ad) (σ : Sg) (v1 : Int32) (v2 : Int32) (v3 : Int32) (r : Int32) (σ' : Sg)  (hf : f_X8_takesOnce σ v1 v2 v3 = some (r, σ')) (sz : Nat) : z_MI l yX8_takesOnce cX8_takesOnce 5 (Option.some FieldType.boolean) 3 66 1 G ad σ sz [.ref (ad 8 0), .int v1, .int v2, .int v3] r σ' := by
  refine z_begin (by decide +kernel) (Nat.le_of_ble_eq_true rfl) [(0, .ref (ad 8 0)), (1, .int v1), (2, .int v2), (3, .int v3)] rfl (fun p e s m args below meth c ls C hz S hl => ?_)
  subst hz
  exact w_X8_takesOnce_0 (res := (r, σ')) C σ v1 v2 v3 _ _ _ S hl  hf

theorem dX8_readStatement_0 : decode cX8_readStatement 0 = .ok (.aload_n 0, 1) := by decide +kernel
theorem dX8_readStatement_1 : decode cX8_readStatement 1 = .ok (.getfield 7, 3) := by decide +kernel
theorem dX8_readStatement_4 : decode cX8_readStatement 4 = .ok (.iconst 0, 1) := by decide +kernel
theorem dX8_readStatement_5 : decode cX8_readStatement 5 = .ok (.iaload, 1) := by decide +kernel
theorem dX8_readStatement_6 : decode cX8_readStatement 6 = .ok (.ifCond .ne 49, 3) := by decide +kernel
theorem dX8_readStatement_9 : decode cX8_readStatement 9 = .ok (.aload_n 0, 1) := by decide +kernel
theorem dX8_readStatement_10 : decode cX8_readStatement 10 = .ok (.ldc 222, 2) := by decide +kernel
theorem dX8_readStatement_12 : decode cX8_readStatement 12 = .ok (.invokevirtual 224, 3) := by decide +kernel
theorem dX8_readStatement_15 : decode cX8_readStatement 15 = .ok (.ifCond .ne 9, 3) := by decide +kernel
theorem dX8_readStatement_18 : decode cX8_readStatement 18 = .ok (.aload_n 0, 1) := by decide +kernel
theorem dX8_readStatement_19 : decode cX8_readStatement 19 = .ok (.iconst 1, 1) := by decide +kernel
theorem dX8_readStatement_20 : decode cX8_readStatement 20 = .ok (.invokevirtual 202, 3) := by decide +kernel
theorem dX8_readStatement_23 : decode cX8_readStatement 23 = .ok (.ireturn, 1) := by decide +kernel
theorem dX8_readStatement_24 : decode cX8_readStatement 24 = .ok (.aload_n 0, 1) := by decide +kernel
theorem dX8_readStatement_25 : decode cX8_readStatement 25 = .ok (.invokevirtual 205, 3) := by decide +kernel
theorem dX8_readStatement_28 : decode cX8_readStatement 28 = .ok (.aload_n 0, 1) := by decide +kernel
theorem dX8_readStatement_29 : decode cX8_readStatement 29 = .ok (.iconst 0, 1) := by decide +kernel
theorem dX8_readStatement_30 : decode cX8_readStatement 30 = .ok (.iconst 2, 1) := by decide +kernel
theorem dX8_readStatement_31 : decode cX8_readStatement 31 = .ok (.bipush 30, 2) := by decide +kernel
theorem dX8_readStatement_33 : decode cX8_readStatement 33 = .ok (.invokevirtual 215, 3) := by decide +kernel
theorem dX8_readStatement_36 : decode cX8_readStatement 36 = .ok (.ifCond .ne 5, 3) := by decide +kernel
theorem dX8_readStatement_39 : decode cX8_readStatement 39 = .ok (.iconst 0, 1) := by decide +kernel
theorem dX8_readStatement_40 : decode cX8_readStatement 40 = .ok (.ireturn, 1) := by decide +kernel
theorem dX8_readStatement_41 : decode cX8_readStatement 41 = .ok (.aload_n 0, 1) := by decide +kernel
theorem dX8_readStatement_42 : decode cX8_readStatement 42 = .ok (.getfield 7, 3) := by decide +kernel
theorem dX8_readStatement_45 : decode cX8_readStatement 45 = .ok (.iconst 0, 1) := by decide +kernel
theorem dX8_readStatement_46 : decode cX8_readStatement 46 = .ok (.aload_n 0, 1) := by decide +kernel
theorem dX8_readStatement_47 : decode cX8_readStatement 47 = .ok (.getfield 35, 3) := by decide +kernel
theorem dX8_readStatement_50 : decode cX8_readStatement 50 = .ok (.iconst 0, 1) := by decide +kernel
theorem dX8_readStatement_51 : decode cX8_readStatement 51 = .ok (.iaload, 1) := by decide +kernel
theorem dX8_readStatement_52 : decode cX8_readStatement 52 = .ok (.iastore, 1) := by decide +kernel
theorem dX8_readStatement_53 : decode cX8_readStatement 53 = .ok (.iconst 1, 1) := by decide +kernel
theorem dX8_readStatement_54 : decode cX8_readStatement 54 = .ok (.ireturn, 1) := by decide +kernel
theorem dX8_readStatement_55 : decode cX8_readStatement 55 = .ok (.aload_n 0, 1) := by decide +kernel
theorem dX8_readStatement_56 : decode cX8_readStatement 56 = .ok (.ldc 228, 2) := by decide +kernel
theorem dX8_readStatement_58 : decode cX8_readStatement 58 = .ok (.invokevirtual 224, 3) := by decide +kernel
theorem dX8_readStatement_61 : decode cX8_readStatement 61 = .ok (.ifCond .eq 8, 3) := by decide +kernel
theorem dX8_readStatement_64 : decode cX8_readStatement 64 = .ok (.aload_n 0, 1) := by decide +kernel
theorem dX8_readStatement_65 : decode cX8_readStatement 65 = .ok (.invokevirtual 230, 3) := by decide +kernel
theorem dX8_readStatement_68 : decode cX8_readStatement 68 = .ok (.ireturn, 1) := by decide +kernel
theorem dX8_readStatement_69 : decode cX8_readStatement 69 = .ok (.aload_n 0, 1) := by decide +kernel
theorem dX8_readStatement_70 : decode cX8_readStatement 70 = .ok (.ldc 234, 2) := by decide +kernel
theorem dX8_readStatement_72 : decode cX8_readStatement 72 = .ok (.invokevirtual 224, 3) := by decide +kernel
theorem dX8_readStatement_75 : decode cX8_readStatement 75 = .ok (.ifCond .eq 8, 3) := by decide +kernel
theorem dX8_readStatement_78 : decode cX8_readStatement 78 = .ok (.aload_n 0, 1) := by decide +kernel
theorem dX8_readStatement_79 : decode cX8_readStatement 79 = .ok (.invokevirtual 236, 3) := by decide +kernel
theorem dX8_readStatement_82 : decode cX8_readStatement 82 = .ok (.ireturn, 1) := by decide +kernel
theorem dX8_readStatement_83 : decode cX8_readStatement 83 = .ok (.aload_n 0, 1) := by decide +kernel
theorem dX8_readStatement_84 : decode cX8_readStatement 84 = .ok (.ldc 239, 2) := by decide +kernel
theorem dX8_readStatement_86 : decode cX8_readStatement 86 = .ok (.invokevirtual 224, 3) := by decide +kernel
theorem dX8_readStatement_89 : decode cX8_readStatement 89 = .ok (.ifCond .eq 12, 3) := by decide +kernel
theorem dX8_readStatement_92 : decode cX8_readStatement 92 = .ok (.aload_n 0, 1) := by decide +kernel
theorem dX8_readStatement_93 : decode cX8_readStatement 93 = .ok (.iconst 4, 1) := by decide +kernel
theorem dX8_readStatement_94 : decode cX8_readStatement 94 = .ok (.iconst 0, 1) := by decide +kernel
theorem dX8_readStatement_95 : decode cX8_readStatement 95 = .ok (.bipush 90, 2) := by decide +kernel
theorem dX8_readStatement_97 : decode cX8_readStatement 97 = .ok (.invokevirtual 241, 3) := by decide +kernel
theorem dX8_readStatement_100 : decode cX8_readStatement 100 = .ok (.ireturn, 1) := by decide +kernel
theorem dX8_readStatement_101 : decode cX8_readStatement 101 = .ok (.aload_n 0, 1) := by decide +kernel
theorem dX8_readStatement_102 : decode cX8_readStatement 102 = .ok (.ldc 244, 2) := by decide +kernel
theorem dX8_readStatement_104 : decode cX8_readStatement 104 = .ok (.invokevirtual 224, 3) := by decide +kernel
theorem dX8_readStatement_107 : decode cX8_readStatement 107 = .ok (.ifCond .eq 14, 3) := by decide +kernel
theorem dX8_readStatement_110 : decode cX8_readStatement 110 = .ok (.aload_n 0, 1) := by decide +kernel
theorem dX8_readStatement_111 : decode cX8_readStatement 111 = .ok (.bipush 9, 2) := by decide +kernel
theorem dX8_readStatement_113 : decode cX8_readStatement 113 = .ok (.iconst 0, 1) := by decide +kernel
theorem dX8_readStatement_114 : decode cX8_readStatement 114 = .ok (.sipush 9999, 3) := by decide +kernel
theorem dX8_readStatement_117 : decode cX8_readStatement 117 = .ok (.invokevirtual 241, 3) := by decide +kernel
theorem dX8_readStatement_120 : decode cX8_readStatement 120 = .ok (.ireturn, 1) := by decide +kernel
theorem dX8_readStatement_121 : decode cX8_readStatement 121 = .ok (.aload_n 0, 1) := by decide +kernel
theorem dX8_readStatement_122 : decode cX8_readStatement 122 = .ok (.ldc 246, 2) := by decide +kernel
theorem dX8_readStatement_124 : decode cX8_readStatement 124 = .ok (.invokevirtual 224, 3) := by decide +kernel
theorem dX8_readStatement_127 : decode cX8_readStatement 127 = .ok (.ifCond .eq 12, 3) := by decide +kernel
theorem dX8_readStatement_130 : decode cX8_readStatement 130 = .ok (.aload_n 0, 1) := by decide +kernel
theorem dX8_readStatement_131 : decode cX8_readStatement 131 = .ok (.iconst 5, 1) := by decide +kernel
theorem dX8_readStatement_132 : decode cX8_readStatement 132 = .ok (.iconst 3, 1) := by decide +kernel
theorem dX8_readStatement_133 : decode cX8_readStatement 133 = .ok (.bipush 50, 2) := by decide +kernel
theorem dX8_readStatement_135 : decode cX8_readStatement 135 = .ok (.invokevirtual 241, 3) := by decide +kernel
theorem dX8_readStatement_138 : decode cX8_readStatement 138 = .ok (.ireturn, 1) := by decide +kernel
theorem dX8_readStatement_139 : decode cX8_readStatement 139 = .ok (.aload_n 0, 1) := by decide +kernel
theorem dX8_readStatement_140 : decode cX8_readStatement 140 = .ok (.ldc 248, 2) := by decide +kernel
theorem dX8_readStatement_142 : decode cX8_readStatement 142 = .ok (.invokevirtual 224, 3) := by decide +kernel
theorem dX8_readStatement_145 : decode cX8_readStatement 145 = .ok (.ifCond .eq 13, 3) := by decide +kernel
theorem dX8_readStatement_148 : decode cX8_readStatement 148 = .ok (.aload_n 0, 1) := by decide +kernel
theorem dX8_readStatement_149 : decode cX8_readStatement 149 = .ok (.bipush 6, 2) := by decide +kernel
theorem dX8_readStatement_151 : decode cX8_readStatement 151 = .ok (.iconst 0, 1) := by decide +kernel
theorem dX8_readStatement_152 : decode cX8_readStatement 152 = .ok (.bipush 20, 2) := by decide +kernel
theorem dX8_readStatement_154 : decode cX8_readStatement 154 = .ok (.invokevirtual 241, 3) := by decide +kernel
theorem dX8_readStatement_157 : decode cX8_readStatement 157 = .ok (.ireturn, 1) := by decide +kernel
theorem dX8_readStatement_158 : decode cX8_readStatement 158 = .ok (.aload_n 0, 1) := by decide +kernel
theorem dX8_readStatement_159 : decode cX8_readStatement 159 = .ok (.ldc 250, 2) := by decide +kernel
theorem dX8_readStatement_161 : decode cX8_readStatement 161 = .ok (.invokevirtual 224, 3) := by decide +kernel
theorem dX8_readStatement_164 : decode cX8_readStatement 164 = .ok (.ifCond .eq 12, 3) := by decide +kernel
theorem dX8_readStatement_167 : decode cX8_readStatement 167 = .ok (.aload_n 0, 1) := by decide +kernel
theorem dX8_readStatement_168 : decode cX8_readStatement 168 = .ok (.bipush 7, 2) := by decide +kernel
theorem dX8_readStatement_170 : decode cX8_readStatement 170 = .ok (.iconst 0, 1) := by decide +kernel
theorem dX8_readStatement_171 : decode cX8_readStatement 171 = .ok (.iconst 5, 1) := by decide +kernel
theorem dX8_readStatement_172 : decode cX8_readStatement 172 = .ok (.invokevirtual 241, 3) := by decide +kernel
theorem dX8_readStatement_175 : decode cX8_readStatement 175 = .ok (.ireturn, 1) := by decide +kernel
theorem dX8_readStatement_176 : decode cX8_readStatement 176 = .ok (.aload_n 0, 1) := by decide +kernel
theorem dX8_readStatement_177 : decode cX8_readStatement 177 = .ok (.ldc 252, 2) := by decide +kernel
theorem dX8_readStatement_179 : decode cX8_readStatement 179 = .ok (.invokevirtual 224, 3) := by decide +kernel
theorem dX8_readStatement_182 : decode cX8_readStatement 182 = .ok (.ifCond .eq 14, 3) := by decide +kernel
theorem dX8_readStatement_185 : decode cX8_readStatement 185 = .ok (.aload_n 0, 1) := by decide +kernel
theorem dX8_readStatement_186 : decode cX8_readStatement 186 = .ok (.bipush 8, 2) := by decide +kernel
theorem dX8_readStatement_188 : decode cX8_readStatement 188 = .ok (.iconst 1, 1) := by decide +kernel
theorem dX8_readStatement_189 : decode cX8_readStatement 189 = .ok (.sipush 999, 3) := by decide +kernel
theorem dX8_readStatement_192 : decode cX8_readStatement 192 = .ok (.invokevirtual 241, 3) := by decide +kernel
theorem dX8_readStatement_195 : decode cX8_readStatement 195 = .ok (.ireturn, 1) := by decide +kernel
theorem dX8_readStatement_196 : decode cX8_readStatement 196 = .ok (.aload_n 0, 1) := by decide +kernel
theorem dX8_readStatement_197 : decode cX8_readStatement 197 = .ok (.iconst 1, 1) := by decide +kernel
theorem dX8_readStatement_198 : decode cX8_readStatement 198 = .ok (.invokevirtual 202, 3) := by decide +kernel
theorem dX8_readStatement_201 : decode cX8_readStatement 201 = .ok (.ireturn, 1) := by decide +kernel
/-! BusLiftsModel.readStatement()Z -/
noncomputable def f_X8_readStatement  (σ : Sg)  : Option (Int32 × Sg) := if (σ 30 0 0) = 0 then (bi (f_X8_isWord σ 0) fun r36 σ35 => (if r36 = 0 then (bi (f_X8_failsAt σ35 1) fun r42 σ41 => (if ¬ (r42 = 0 ∨ r42 = 1) then none else (some (r42, σ41)))) else (bv (f_X8_advanceToken σ35) fun σ37 => (bi (f_X8_takes σ37 0 2 30) fun r39 σ38 => (if r39 = 0 then (some (0, σ38)) else (st (sup σ38 30 0 0 (σ38 37 0 0)) fun σ40 => (some (1, σ40)))))))) else (bi (f_X8_isWord σ 1) fun r2 σ1 => (if r2 = 0 then (bi (f_X8_isWord σ1 2) fun r4 σ3 => (if r4 = 0 then (bi (f_X8_isWord σ3 3) fun r6 σ5 => (if r6 = 0 then (bi (f_X8_isWord σ5 8) fun r8 σ7 => (if r8 = 0 then (bi (f_X8_isWord σ7 4) fun r10 σ9 => (if r10 = 0 then (bi (f_X8_isWord σ9 5) fun r12 σ11 => (if r12 = 0 then (bi (f_X8_isWord σ11 6) fun r14 σ13 => (if r14 = 0 then (bi (f_X8_isWord σ13 7) fun r16 σ15 => (if r16 = 0 then (bi (f_X8_failsAt σ15 1) fun r18 σ17 => (if ¬ (r18 = 0 ∨ r18 = 1) then none else (some (r18, σ17)))) else (bi (f_X8_takesOnce σ15 8 1 999) fun r20 σ19 => (if ¬ (r20 = 0 ∨ r20 = 1) then none else (some (r20, σ19)))))) else (bi (f_X8_takesOnce σ13 7 0 5) fun r22 σ21 => (if ¬ (r22 = 0 ∨ r22 = 1) then none else (some (r22, σ21)))))) else (bi (f_X8_takesOnce σ11 6 0 20) fun r24 σ23 => (if ¬ (r24 = 0 ∨ r24 = 1) then none else (some (r24, σ23)))))) else (bi (f_X8_takesOnce σ9 5 3 50) fun r26 σ25 => (if ¬ (r26 = 0 ∨ r26 = 1) then none else (some (r26, σ25)))))) else (bi (f_X8_takesOnce σ7 9 0 9999) fun r28 σ27 => (if ¬ (r28 = 0 ∨ r28 = 1) then none else (some (r28, σ27)))))) else (bi (f_X8_takesOnce σ5 4 0 90) fun r30 σ29 => (if ¬ (r30 = 0 ∨ r30 = 1) then none else (some (r30, σ29)))))) else (bi (f_X8_readCall σ3) fun r32 σ31 => (if ¬ (r32 = 0 ∨ r32 = 1) then none else (some (r32, σ31)))))) else (bi (f_X8_readCar σ1) fun r34 σ33 => (if ¬ (r34 = 0 ∨ r34 = 1) then none else (some (r34, σ33))))))
set_option maxHeartbeats 4000000 in
set_option maxRecDepth 100000 in
theorem w_X8_readStatement_0 {p : Program} {l : Launch} {e : Env} {s : State} {m : MethodId} {args : Array Value} {below : List Frame} {meth : Method} {c : Code} {G : Gx} {ad : Ad} {res : Int32 × Sg} (C : Cx p s m args meth c yX8_readStatement.cls cX8_readStatement 1 (Option.some FieldType.boolean) G)  : ∀ (σ : Sg)  (H : Heap) (locs : List Loc) (ls : Array Slot), z_S 1 G ad σ (z_A 1 ad s.heap.size) s.heap H locs → lv_has ls 1 [(0, .ref (ad 8 0))] → f_X8_readStatement  σ  = some res → W p l e { frames := 5, cells := 0, slots := 0, locals := 122 } s m args below meth c H locs 0 0 (MQ below (va_Qi (S := Unit) (fun r1 _ => r1 = res.1) (fun _ t => z_W 1 G ad res.2 t.heap) (z_A 1 ad s.heap.size)) args s 0 0 (z_A 1 ad s.heap.size)) (F0 m 0 ls []) := by
  intro σ  H locs ls S hl  hf
  unfold f_X8_readStatement at hf
  refine lv_aload_n C.1 C.2.1 dX8_readStatement_0 rfl (lv_at hl 0 rfl) ?_
  refine z_getR C S 8 0 rfl (by decide) cf_8 0 (by decide) _ (gr_8_0 G ad 0) tw_6_118 dX8_readStatement_1 ?_
  refine lv_iconst (v := 0) C.1 C.2.1 dX8_readStatement_4 (by decide) ?_
  refine z_ialdL C S 30 0 rfl (by decide) 2111 (fun _ => rfl) 0 (by decide) (by decide) (by decide) dX8_readStatement_5 ?_
  refine lv_if_ne (tgt := 55) C.1 C.2.1 dX8_readStatement_6 (by decide) (fun c_6 => ?_) (fun c_6 => ?_)
  · rw [if_neg c_6] at hf
    refine lv_aload_n C.1 C.2.1 dX8_readStatement_55 rfl (lv_at hl 0 rfl) ?_
    refine z_sldc (sa := 10 + 1) C (List.mem_of_getElem? (i := 19) rfl) dX8_readStatement_56 ?_
    obtain ⟨r2, σ1, q_58, hf⟩ := bib hf
    refine z_callI C S 8 0 rfl (by decide) cf_8 ⟨_, rfl⟩ [.ref (G.2.2.2 (10 + 1))] (m_X8_isWord l G ad σ 1 r2 σ1 (by decide) q_58 _) kv_X8_isWord tw_6_231 ⟨Nat.le_of_ble_eq_true rfl, Nat.le_of_ble_eq_true rfl⟩ rfl rfl (Nat.le_of_ble_eq_true rfl) hl.1 ⟨Nat.le_of_ble_eq_true rfl, Nat.le_of_ble_eq_true rfl⟩ dX8_readStatement_58 (fun H locs S => ?_)
    refine lv_if_eq (tgt := 69) C.1 C.2.1 dX8_readStatement_61 (by decide) (fun c_61 => ?_) (fun c_61 => ?_)
    · rw [if_pos c_61] at hf
      refine lv_aload_n C.1 C.2.1 dX8_readStatement_69 rfl (lv_at hl 0 rfl) ?_
      refine z_sldc (sa := 10 + 2) C (List.mem_of_getElem? (i := 20) rfl) dX8_readStatement_70 ?_
      obtain ⟨r4, σ3, q_72, hf⟩ := bib hf
      refine z_callI C S 8 0 rfl (by decide) cf_8 ⟨_, rfl⟩ [.ref (G.2.2.2 (10 + 2))] (m_X8_isWord l G ad σ1 2 r4 σ3 (by decide) q_72 _) kv_X8_isWord tw_6_231 ⟨Nat.le_of_ble_eq_true rfl, Nat.le_of_ble_eq_true rfl⟩ rfl rfl (Nat.le_of_ble_eq_true rfl) hl.1 ⟨Nat.le_of_ble_eq_true rfl, Nat.le_of_ble_eq_true rfl⟩ dX8_readStatement_72 (fun H locs S => ?_)
      refine lv_if_eq (tgt := 83) C.1 C.2.1 dX8_readStatement_75 (by decide) (fun c_75 => ?_) (fun c_75 => ?_)
      · rw [if_pos c_75] at hf
        refine lv_aload_n C.1 C.2.1 dX8_readStatement_83 rfl (lv_at hl 0 rfl) ?_
        refine z_sldc (sa := 10 + 3) C (List.mem_of_getElem? (i := 21) rfl) dX8_readStatement_84 ?_
        obtain ⟨r6, σ5, q_86, hf⟩ := bib hf
        refine z_callI C S 8 0 rfl (by decide) cf_8 ⟨_, rfl⟩ [.ref (G.2.2.2 (10 + 3))] (m_X8_isWord l G ad σ3 3 r6 σ5 (by decide) q_86 _) kv_X8_isWord tw_6_231 ⟨Nat.le_of_ble_eq_true rfl, Nat.le_of_ble_eq_true rfl⟩ rfl rfl (Nat.le_of_ble_eq_true rfl) hl.1 ⟨Nat.le_of_ble_eq_true rfl, Nat.le_of_ble_eq_true rfl⟩ dX8_readStatement_86 (fun H locs S => ?_)
        refine lv_if_eq (tgt := 101) C.1 C.2.1 dX8_readStatement_89 (by decide) (fun c_89 => ?_) (fun c_89 => ?_)
        · rw [if_pos c_89] at hf
          refine lv_aload_n C.1 C.2.1 dX8_readStatement_101 rfl (lv_at hl 0 rfl) ?_
          refine z_sldc (sa := 10 + 8) C (List.mem_of_getElem? (i := 22) rfl) dX8_readStatement_102 ?_
          obtain ⟨r8, σ7, q_104, hf⟩ := bib hf
          refine z_callI C S 8 0 rfl (by decide) cf_8 ⟨_, rfl⟩ [.ref (G.2.2.2 (10 + 8))] (m_X8_isWord l G ad σ5 8 r8 σ7 (by decide) q_104 _) kv_X8_isWord tw_6_231 ⟨Nat.le_of_ble_eq_true rfl, Nat.le_of_ble_eq_true rfl⟩ rfl rfl (Nat.le_of_ble_eq_true rfl) hl.1 ⟨Nat.le_of_ble_eq_true rfl, Nat.le_of_ble_eq_true rfl⟩ dX8_readStatement_104 (fun H locs S => ?_)
          refine lv_if_eq (tgt := 121) C.1 C.2.1 dX8_readStatement_107 (by decide) (fun c_107 => ?_) (fun c_107 => ?_)
          · rw [if_pos c_107] at hf
            refine lv_aload_n C.1 C.2.1 dX8_readStatement_121 rfl (lv_at hl 0 rfl) ?_
            refine z_sldc (sa := 10 + 4) C (List.mem_of_getElem? (i := 23) rfl) dX8_readStatement_122 ?_
            obtain ⟨r10, σ9, q_124, hf⟩ := bib hf
            refine z_callI C S 8 0 rfl (by decide) cf_8 ⟨_, rfl⟩ [.ref (G.2.2.2 (10 + 4))] (m_X8_isWord l G ad σ7 4 r10 σ9 (by decide) q_124 _) kv_X8_isWord tw_6_231 ⟨Nat.le_of_ble_eq_true rfl, Nat.le_of_ble_eq_true rfl⟩ rfl rfl (Nat.le_of_ble_eq_true rfl) hl.1 ⟨Nat.le_of_ble_eq_true rfl, Nat.le_of_ble_eq_true rfl⟩ dX8_readStatement_124 (fun H locs S => ?_)
            refine lv_if_eq (tgt := 139) C.1 C.2.1 dX8_readStatement_127 (by decide) (fun c_127 => ?_) (fun c_127 => ?_)
            · rw [if_pos c_127] at hf
              refine lv_aload_n C.1 C.2.1 dX8_readStatement_139 rfl (lv_at hl 0 rfl) ?_
              refine z_sldc (sa := 10 + 5) C (List.mem_of_getElem? (i := 24) rfl) dX8_readStatement_140 ?_
              obtain ⟨r12, σ11, q_142, hf⟩ := bib hf
              refine z_callI C S 8 0 rfl (by decide) cf_8 ⟨_, rfl⟩ [.ref (G.2.2.2 (10 + 5))] (m_X8_isWord l G ad σ9 5 r12 σ11 (by decide) q_142 _) kv_X8_isWord tw_6_231 ⟨Nat.le_of_ble_eq_true rfl, Nat.le_of_ble_eq_true rfl⟩ rfl rfl (Nat.le_of_ble_eq_true rfl) hl.1 ⟨Nat.le_of_ble_eq_true rfl, Nat.le_of_ble_eq_true rfl⟩ dX8_readStatement_142 (fun H locs S => ?_)
              refine lv_if_eq (tgt := 158) C.1 C.2.1 dX8_readStatement_145 (by decide) (fun c_145 => ?_) (fun c_145 => ?_)
              · rw [if_pos c_145] at hf
                refine lv_aload_n C.1 C.2.1 dX8_readStatement_158 rfl (lv_at hl 0 rfl) ?_
                refine z_sldc (sa := 10 + 6) C (List.mem_of_getElem? (i := 25) rfl) dX8_readStatement_159 ?_
                obtain ⟨r14, σ13, q_161, hf⟩ := bib hf
                refine z_callI C S 8 0 rfl (by decide) cf_8 ⟨_, rfl⟩ [.ref (G.2.2.2 (10 + 6))] (m_X8_isWord l G ad σ11 6 r14 σ13 (by decide) q_161 _) kv_X8_isWord tw_6_231 ⟨Nat.le_of_ble_eq_true rfl, Nat.le_of_ble_eq_true rfl⟩ rfl rfl (Nat.le_of_ble_eq_true rfl) hl.1 ⟨Nat.le_of_ble_eq_true rfl, Nat.le_of_ble_eq_true rfl⟩ dX8_readStatement_161 (fun H locs S => ?_)
                refine lv_if_eq (tgt := 176) C.1 C.2.1 dX8_readStatement_164 (by decide) (fun c_164 => ?_) (fun c_164 => ?_)
                · rw [if_pos c_164] at hf
                  refine lv_aload_n C.1 C.2.1 dX8_readStatement_176 rfl (lv_at hl 0 rfl) ?_
                  refine z_sldc (sa := 10 + 7) C (List.mem_of_getElem? (i := 26) rfl) dX8_readStatement_177 ?_
                  obtain ⟨r16, σ15, q_179, hf⟩ := bib hf
                  refine z_callI C S 8 0 rfl (by decide) cf_8 ⟨_, rfl⟩ [.ref (G.2.2.2 (10 + 7))] (m_X8_isWord l G ad σ13 7 r16 σ15 (by decide) q_179 _) kv_X8_isWord tw_6_231 ⟨Nat.le_of_ble_eq_true rfl, Nat.le_of_ble_eq_true rfl⟩ rfl rfl (Nat.le_of_ble_eq_true rfl) hl.1 ⟨Nat.le_of_ble_eq_true rfl, Nat.le_of_ble_eq_true rfl⟩ dX8_readStatement_179 (fun H locs S => ?_)
                  refine lv_if_eq (tgt := 196) C.1 C.2.1 dX8_readStatement_182 (by decide) (fun c_182 => ?_) (fun c_182 => ?_)
                  · rw [if_pos c_182] at hf
                    refine lv_aload_n C.1 C.2.1 dX8_readStatement_196 rfl (lv_at hl 0 rfl) ?_
                    refine lv_iconst (v := 1) C.1 C.2.1 dX8_readStatement_197 (by decide) ?_
                    obtain ⟨r18, σ17, q_198, hf⟩ := bib hf
                    refine z_callI C S 8 0 rfl (by decide) cf_8 ⟨_, rfl⟩ [.int 1] (m_X8_failsAt l G ad σ15 1 r18 σ17 q_198 _) kv_X8_failsAt tw_7_1 ⟨Nat.le_of_ble_eq_true rfl, Nat.le_of_ble_eq_true rfl⟩ rfl rfl (Nat.le_of_ble_eq_true rfl) hl.1 ⟨Nat.le_of_ble_eq_true rfl, Nat.le_of_ble_eq_true rfl⟩ dX8_readStatement_198 (fun H locs S => ?_)
                    obtain ⟨g_201, hf⟩ := gd hf
                    exact z_zret C S (nbz g_201).1 hf dX8_readStatement_201
                  · rw [if_neg c_182] at hf
                    refine lv_aload_n C.1 C.2.1 dX8_readStatement_185 rfl (lv_at hl 0 rfl) ?_
                    refine lv_bipush (v := 8) C.1 C.2.1 dX8_readStatement_186 (by decide) ?_
                    refine lv_iconst (v := 1) C.1 C.2.1 dX8_readStatement_188 (by decide) ?_
                    refine lv_sipush (v := 999) C.1 C.2.1 dX8_readStatement_189 (by decide) ?_
                    obtain ⟨r20, σ19, q_192, hf⟩ := bib hf
                    refine z_callI C S 8 0 rfl (by decide) cf_8 ⟨_, rfl⟩ [.int 8, .int 1, .int 999] (m_X8_takesOnce l G ad σ15 8 1 999 r20 σ19 q_192 _) kv_X8_takesOnce tw_7_35 ⟨Nat.le_of_ble_eq_true rfl, Nat.le_of_ble_eq_true rfl⟩ rfl rfl (Nat.le_of_ble_eq_true rfl) hl.1 ⟨Nat.le_of_ble_eq_true rfl, Nat.le_of_ble_eq_true rfl⟩ dX8_readStatement_192 (fun H locs S => ?_)
                    obtain ⟨g_195, hf⟩ := gd hf
                    exact z_zret C S (nbz g_195).1 hf dX8_readStatement_195
                · rw [if_neg c_164] at hf
                  refine lv_aload_n C.1 C.2.1 dX8_readStatement_167 rfl (lv_at hl 0 rfl) ?_
                  refine lv_bipush (v := 7) C.1 C.2.1 dX8_readStatement_168 (by decide) ?_
                  refine lv_iconst (v := 0) C.1 C.2.1 dX8_readStatement_170 (by decide) ?_
                  refine lv_iconst (v := 5) C.1 C.2.1 dX8_readStatement_171 (by decide) ?_
                  obtain ⟨r22, σ21, q_172, hf⟩ := bib hf
                  refine z_callI C S 8 0 rfl (by decide) cf_8 ⟨_, rfl⟩ [.int 7, .int 0, .int 5] (m_X8_takesOnce l G ad σ13 7 0 5 r22 σ21 q_172 _) kv_X8_takesOnce tw_7_35 ⟨Nat.le_of_ble_eq_true rfl, Nat.le_of_ble_eq_true rfl⟩ rfl rfl (Nat.le_of_ble_eq_true rfl) hl.1 ⟨Nat.le_of_ble_eq_true rfl, Nat.le_of_ble_eq_true rfl⟩ dX8_readStatement_172 (fun H locs S => ?_)
                  obtain ⟨g_175, hf⟩ := gd hf
                  exact z_zret C S (nbz g_175).1 hf dX8_readStatement_175
              · rw [if_neg c_145] at hf
                refine lv_aload_n C.1 C.2.1 dX8_readStatement_148 rfl (lv_at hl 0 rfl) ?_
                refine lv_bipush (v := 6) C.1 C.2.1 dX8_readStatement_149 (by decide) ?_
                refine lv_iconst (v := 0) C.1 C.2.1 dX8_readStatement_151 (by decide) ?_
                refine lv_bipush (v := 20) C.1 C.2.1 dX8_readStatement_152 (by decide) ?_
                obtain ⟨r24, σ23, q_154, hf⟩ := bib hf
                refine z_callI C S 8 0 rfl (by decide) cf_8 ⟨_, rfl⟩ [.int 6, .int 0, .int 20] (m_X8_takesOnce l G ad σ11 6 0 20 r24 σ23 q_154 _) kv_X8_takesOnce tw_7_35 ⟨Nat.le_of_ble_eq_true rfl, Nat.le_of_ble_eq_true rfl⟩ rfl rfl (Nat.le_of_ble_eq_true rfl) hl.1 ⟨Nat.le_of_ble_eq_true rfl, Nat.le_of_ble_eq_true rfl⟩ dX8_readStatement_154 (fun H locs S => ?_)
                obtain ⟨g_157, hf⟩ := gd hf
                exact z_zret C S (nbz g_157).1 hf dX8_readStatement_157
            · rw [if_neg c_127] at hf
              refine lv_aload_n C.1 C.2.1 dX8_readStatement_130 rfl (lv_at hl 0 rfl) ?_
              refine lv_iconst (v := 5) C.1 C.2.1 dX8_readStatement_131 (by decide) ?_
              refine lv_iconst (v := 3) C.1 C.2.1 dX8_readStatement_132 (by decide) ?_
              refine lv_bipush (v := 50) C.1 C.2.1 dX8_readStatement_133 (by decide) ?_
              obtain ⟨r26, σ25, q_135, hf⟩ := bib hf
              refine z_callI C S 8 0 rfl (by decide) cf_8 ⟨_, rfl⟩ [.int 5, .int 3, .int 50] (m_X8_takesOnce l G ad σ9 5 3 50 r26 σ25 q_135 _) kv_X8_takesOnce tw_7_35 ⟨Nat.le_of_ble_eq_true rfl, Nat.le_of_ble_eq_true rfl⟩ rfl rfl (Nat.le_of_ble_eq_true rfl) hl.1 ⟨Nat.le_of_ble_eq_true rfl, Nat.le_of_ble_eq_true rfl⟩ dX8_readStatement_135 (fun H locs S => ?_)
              obtain ⟨g_138, hf⟩ := gd hf
              exact z_zret C S (nbz g_138).1 hf dX8_readStatement_138
          · rw [if_neg c_107] at hf
            refine lv_aload_n C.1 C.2.1 dX8_readStatement_110 rfl (lv_at hl 0 rfl) ?_
            refine lv_bipush (v := 9) C.1 C.2.1 dX8_readStatement_111 (by decide) ?_
            refine lv_iconst (v := 0) C.1 C.2.1 dX8_readStatement_113 (by decide) ?_
            refine lv_sipush (v := 9999) C.1 C.2.1 dX8_readStatement_114 (by decide) ?_
            obtain ⟨r28, σ27, q_117, hf⟩ := bib hf
            refine z_callI C S 8 0 rfl (by decide) cf_8 ⟨_, rfl⟩ [.int 9, .int 0, .int 9999] (m_X8_takesOnce l G ad σ7 9 0 9999 r28 σ27 q_117 _) kv_X8_takesOnce tw_7_35 ⟨Nat.le_of_ble_eq_true rfl, Nat.le_of_ble_eq_true rfl⟩ rfl rfl (Nat.le_of_ble_eq_true rfl) hl.1 ⟨Nat.le_of_ble_eq_true rfl, Nat.le_of_ble_eq_true rfl⟩ dX8_readStatement_117 (fun H locs S => ?_)
            obtain ⟨g_120, hf⟩ := gd hf
            exact z_zret C S (nbz g_120).1 hf dX8_readStatement_120
        · rw [if_neg c_89] at hf
          refine lv_aload_n C.1 C.2.1 dX8_readStatement_92 rfl (lv_at hl 0 rfl) ?_
          refine lv_iconst (v := 4) C.1 C.2.1 dX8_readStatement_93 (by decide) ?_
          refine lv_iconst (v := 0) C.1 C.2.1 dX8_readStatement_94 (by decide) ?_
          refine lv_bipush (v := 90) C.1 C.2.1 dX8_readStatement_95 (by decide) ?_
          obtain ⟨r30, σ29, q_97, hf⟩ := bib hf
          refine z_callI C S 8 0 rfl (by decide) cf_8 ⟨_, rfl⟩ [.int 4, .int 0, .int 90] (m_X8_takesOnce l G ad σ5 4 0 90 r30 σ29 q_97 _) kv_X8_takesOnce tw_7_35 ⟨Nat.le_of_ble_eq_true rfl, Nat.le_of_ble_eq_true rfl⟩ rfl rfl (Nat.le_of_ble_eq_true rfl) hl.1 ⟨Nat.le_of_ble_eq_true rfl, Nat.le_of_ble_eq_true rfl⟩ dX8_readStatement_97 (fun H locs S => ?_)
          obtain ⟨g_100, hf⟩ := gd hf
          exact z_zret C S (nbz g_100).1 hf dX8_readStatement_100
      · rw [if_neg c_75] at hf
        refine lv_aload_n C.1 C.2.1 dX8_readStatement_78 rfl (lv_at hl 0 rfl) ?_
        obtain ⟨r32, σ31, q_79, hf⟩ := bib hf
        refine z_callI C S 8 0 rfl (by decide) cf_8 ⟨_, rfl⟩ [] (m_X8_readCall l G ad σ3 r32 σ31 q_79 _) kv_X8_readCall tw_7_19 ⟨Nat.le_of_ble_eq_true rfl, Nat.le_of_ble_eq_true rfl⟩ rfl rfl (Nat.le_of_ble_eq_true rfl) hl.1 ⟨Nat.le_of_ble_eq_true rfl, Nat.le_of_ble_eq_true rfl⟩ dX8_readStatement_79 (fun H locs S => ?_)
        obtain ⟨g_82, hf⟩ := gd hf
        exact z_zret C S (nbz g_82).1 hf dX8_readStatement_82
    · rw [if_neg c_61] at hf
      refine lv_aload_n C.1 C.2.1 dX8_readStatement_64 rfl (lv_at hl 0 rfl) ?_
      obtain ⟨r34, σ33, q_65, hf⟩ := bib hf
      refine z_callI C S 8 0 rfl (by decide) cf_8 ⟨_, rfl⟩ [] (m_X8_readCar l G ad σ1 r34 σ33 q_65 _) kv_X8_readCar tw_7_10 ⟨Nat.le_of_ble_eq_true rfl, Nat.le_of_ble_eq_true rfl⟩ rfl rfl (Nat.le_of_ble_eq_true rfl) hl.1 ⟨Nat.le_of_ble_eq_true rfl, Nat.le_of_ble_eq_true rfl⟩ dX8_readStatement_65 (fun H locs S => ?_)
      obtain ⟨g_68, hf⟩ := gd hf
      exact z_zret C S (nbz g_68).1 hf dX8_readStatement_68
  · rw [if_pos c_6] at hf
    refine lv_aload_n C.1 C.2.1 dX8_readStatement_9 rfl (lv_at hl 0 rfl) ?_
    refine z_sldc (sa := 10 + 0) C (List.mem_of_getElem? (i := 18) rfl) dX8_readStatement_10 ?_
    obtain ⟨r36, σ35, q_12, hf⟩ := bib hf
    refine z_callI C S 8 0 rfl (by decide) cf_8 ⟨_, rfl⟩ [.ref (G.2.2.2 (10 + 0))] (m_X8_isWord l G ad σ 0 r36 σ35 (by decide) q_12 _) kv_X8_isWord tw_6_231 ⟨Nat.le_of_ble_eq_true rfl, Nat.le_of_ble_eq_true rfl⟩ rfl rfl (Nat.le_of_ble_eq_true rfl) hl.1 ⟨Nat.le_of_ble_eq_true rfl, Nat.le_of_ble_eq_true rfl⟩ dX8_readStatement_12 (fun H locs S => ?_)
    refine lv_if_ne (tgt := 24) C.1 C.2.1 dX8_readStatement_15 (by decide) (fun c_15 => ?_) (fun c_15 => ?_)
    · rw [if_neg c_15] at hf
      refine lv_aload_n C.1 C.2.1 dX8_readStatement_24 rfl (lv_at hl 0 rfl) ?_
      obtain ⟨σ37, q_25, hf⟩ := bvb hf
      refine z_callV C S 8 0 rfl (by decide) cf_8 ⟨_, rfl⟩ [] (m_X8_advanceToken l G ad σ35 σ37 q_25 _) kv_X8_advanceToken tw_6_214 ⟨Nat.le_of_ble_eq_true rfl, Nat.le_of_ble_eq_true rfl⟩ rfl rfl (Nat.le_of_ble_eq_true rfl) hl.1 ⟨Nat.le_of_ble_eq_true rfl, Nat.le_of_ble_eq_true rfl⟩ dX8_readStatement_25 (fun H locs S => ?_)
      refine lv_aload_n C.1 C.2.1 dX8_readStatement_28 rfl (lv_at hl 0 rfl) ?_
      refine lv_iconst (v := 0) C.1 C.2.1 dX8_readStatement_29 (by decide) ?_
      refine lv_iconst (v := 2) C.1 C.2.1 dX8_readStatement_30 (by decide) ?_
      refine lv_bipush (v := 30) C.1 C.2.1 dX8_readStatement_31 (by decide) ?_
      obtain ⟨r39, σ38, q_33, hf⟩ := bib hf
      refine z_callI C S 8 0 rfl (by decide) cf_8 ⟨_, rfl⟩ [.int 0, .int 2, .int 30] (m_X8_takes l G ad σ37 0 2 30 r39 σ38 q_33 _) kv_X8_takes tw_7_5 ⟨Nat.le_of_ble_eq_true rfl, Nat.le_of_ble_eq_true rfl⟩ rfl rfl (Nat.le_of_ble_eq_true rfl) hl.1 ⟨Nat.le_of_ble_eq_true rfl, Nat.le_of_ble_eq_true rfl⟩ dX8_readStatement_33 (fun H locs S => ?_)
      refine lv_if_ne (tgt := 41) C.1 C.2.1 dX8_readStatement_36 (by decide) (fun c_36 => ?_) (fun c_36 => ?_)
      · rw [if_neg c_36] at hf
        refine lv_aload_n C.1 C.2.1 dX8_readStatement_41 rfl (lv_at hl 0 rfl) ?_
        refine z_getR C S 8 0 rfl (by decide) cf_8 0 (by decide) _ (gr_8_0 G ad 0) tw_6_118 dX8_readStatement_42 ?_
        refine lv_iconst (v := 0) C.1 C.2.1 dX8_readStatement_45 (by decide) ?_
        refine lv_aload_n C.1 C.2.1 dX8_readStatement_46 rfl (lv_at hl 0 rfl) ?_
        refine z_getR C S 8 0 rfl (by decide) cf_8 20 (by decide) _ (gr_8_20 G ad 0) tw_6_138 dX8_readStatement_47 ?_
        refine lv_iconst (v := 0) C.1 C.2.1 dX8_readStatement_50 (by decide) ?_
        refine z_ialdL C S 37 0 rfl (by decide) 3 (fun _ => rfl) 0 (by decide) (by decide) (by decide) dX8_readStatement_51 ?_
        obtain ⟨σ40, e_52, hf⟩ := stb hf
        refine z_iastL C S 30 0 rfl (by decide) 2111 (fun _ => rfl) 0 (by decide) (by decide) (by decide) dX8_readStatement_52 (fun H locs S => ?_)
        rw [← e_52] at S
        refine lv_iconst (v := 1) C.1 C.2.1 dX8_readStatement_53 (by decide) ?_
        exact z_zret C S rfl hf dX8_readStatement_54
      · rw [if_pos c_36] at hf
        refine lv_iconst (v := 0) C.1 C.2.1 dX8_readStatement_39 (by decide) ?_
        exact z_zret C S rfl hf dX8_readStatement_40
    · rw [if_pos c_15] at hf
      refine lv_aload_n C.1 C.2.1 dX8_readStatement_18 rfl (lv_at hl 0 rfl) ?_
      refine lv_iconst (v := 1) C.1 C.2.1 dX8_readStatement_19 (by decide) ?_
      obtain ⟨r42, σ41, q_20, hf⟩ := bib hf
      refine z_callI C S 8 0 rfl (by decide) cf_8 ⟨_, rfl⟩ [.int 1] (m_X8_failsAt l G ad σ35 1 r42 σ41 q_20 _) kv_X8_failsAt tw_7_1 ⟨Nat.le_of_ble_eq_true rfl, Nat.le_of_ble_eq_true rfl⟩ rfl rfl (Nat.le_of_ble_eq_true rfl) hl.1 ⟨Nat.le_of_ble_eq_true rfl, Nat.le_of_ble_eq_true rfl⟩ dX8_readStatement_20 (fun H locs S => ?_)
      obtain ⟨g_23, hf⟩ := gd hf
      exact z_zret C S (nbz g_23).1 hf dX8_readStatement_23
theorem kv_X8_readStatement : KV yX8_readStatement cX8_readStatement 1 (Option.some FieldType.boolean) 0 := ⟨tw_6_229, tw_6_228, tw_p_47, tw_1_10, by decide, by decide, by decide +kernel⟩
theorem m_X8_readStatement (l : Launch) (G : Gx) (ad : Ad) (σ : Sg)  (r : Int32) (σ' : Sg)  (hf : f_X8_readStatement σ  = some (r, σ')) (sz : Nat) : z_MI l yX8_readStatement cX8_readStatement 1 (Option.some FieldType.boolean) 5 122 1 G ad σ sz [.ref (ad 8 0)] r σ' := by
  refine z_begin (by decide +kernel) (Nat.le_of_ble_eq_true rfl) [(0, .ref (ad 8 0))] rfl (fun p e s m args below meth c ls C hz S hl => ?_)
  subst hz
  exact w_X8_readStatement_0 (res := (r, σ')) C σ  _ _ _ S hl  hf

theorem dX8_readText_0 : decode cX8_readText 0 = .ok (.aload_n 0, 1) := by decide +kernel
theorem dX8_readText_1 : decode cX8_readText 1 = .ok (.getfield 181, 3) := by decide +kernel
theorem dX8_readText_4 : decode cX8_readText 4 = .ok (.ifCond .ne 12, 3) := by decide +kernel
theorem dX8_readText_7 : decode cX8_readText 7 = .ok (.aload_n 0, 1) := by decide +kernel
theorem dX8_readText_8 : decode cX8_readText 8 = .ok (.getfield 7, 3) := by decide +kernel
theorem dX8_readText_11 : decode cX8_readText 11 = .ok (.iconst 0, 1) := by decide +kernel
theorem dX8_readText_12 : decode cX8_readText 12 = .ok (.iaload, 1) := by decide +kernel
theorem dX8_readText_13 : decode cX8_readText 13 = .ok (.ifCond .ne 33, 3) := by decide +kernel
theorem dX8_readText_16 : decode cX8_readText 16 = .ok (.aload_n 0, 1) := by decide +kernel
theorem dX8_readText_17 : decode cX8_readText 17 = .ok (.invokevirtual 254, 3) := by decide +kernel
theorem dX8_readText_20 : decode cX8_readText 20 = .ok (.ifCond .ne 5, 3) := by decide +kernel
theorem dX8_readText_23 : decode cX8_readText 23 = .ok (.iconst 0, 1) := by decide +kernel
theorem dX8_readText_24 : decode cX8_readText 24 = .ok (.ireturn, 1) := by decide +kernel
theorem dX8_readText_25 : decode cX8_readText 25 = .ok (.aload_n 0, 1) := by decide +kernel
theorem dX8_readText_26 : decode cX8_readText 26 = .ok (.getfield 181, 3) := by decide +kernel
theorem dX8_readText_29 : decode cX8_readText 29 = .ok (.iconst 3, 1) := by decide +kernel
theorem dX8_readText_30 : decode cX8_readText 30 = .ok (.if_icmp .eq 9, 3) := by decide +kernel
theorem dX8_readText_33 : decode cX8_readText 33 = .ok (.aload_n 0, 1) := by decide +kernel
theorem dX8_readText_34 : decode cX8_readText 34 = .ok (.iconst 1, 1) := by decide +kernel
theorem dX8_readText_35 : decode cX8_readText 35 = .ok (.invokevirtual 202, 3) := by decide +kernel
theorem dX8_readText_38 : decode cX8_readText 38 = .ok (.ireturn, 1) := by decide +kernel
theorem dX8_readText_39 : decode cX8_readText 39 = .ok (.aload_n 0, 1) := by decide +kernel
theorem dX8_readText_40 : decode cX8_readText 40 = .ok (.invokevirtual 205, 3) := by decide +kernel
theorem dX8_readText_43 : decode cX8_readText 43 = .ok (.goto (-43), 3) := by decide +kernel
theorem dX8_readText_46 : decode cX8_readText 46 = .ok (.aload_n 0, 1) := by decide +kernel
theorem dX8_readText_47 : decode cX8_readText 47 = .ok (.getfield 7, 3) := by decide +kernel
theorem dX8_readText_50 : decode cX8_readText 50 = .ok (.iconst 1, 1) := by decide +kernel
theorem dX8_readText_51 : decode cX8_readText 51 = .ok (.iaload, 1) := by decide +kernel
theorem dX8_readText_52 : decode cX8_readText 52 = .ok (.ifCond .gt 11, 3) := by decide +kernel
theorem dX8_readText_55 : decode cX8_readText 55 = .ok (.aload_n 0, 1) := by decide +kernel
theorem dX8_readText_56 : decode cX8_readText 56 = .ok (.iconst 4, 1) := by decide +kernel
theorem dX8_readText_57 : decode cX8_readText 57 = .ok (.invokevirtual 202, 3) := by decide +kernel
theorem dX8_readText_60 : decode cX8_readText 60 = .ok (.ifCond .eq 7, 3) := by decide +kernel
theorem dX8_readText_63 : decode cX8_readText 63 = .ok (.iconst 1, 1) := by decide +kernel
theorem dX8_readText_64 : decode cX8_readText 64 = .ok (.goto 4, 3) := by decide +kernel
theorem dX8_readText_67 : decode cX8_readText 67 = .ok (.iconst 0, 1) := by decide +kernel
theorem dX8_readText_68 : decode cX8_readText 68 = .ok (.ireturn, 1) := by decide +kernel
/-! BusLiftsModel.readText()Z -/
noncomputable def f_X8_readText_33  (σ : Sg)  : Option (Int32 × Sg) := bi (f_X8_failsAt σ 1) fun r2 σ1 => (if ¬ (r2 = 0 ∨ r2 = 1) then none else (some (r2, σ1)))
noncomputable def f_X8_readText_23  (σ : Sg)  : Option (Int32 × Sg) := some (0, σ)
noncomputable def f_X8_readText_16 (k0 : Sg → Option (Int32 × Sg)) (σ : Sg)  : Option (Int32 × Sg) := bi (f_X8_readStatement σ) fun r2 σ1 => (if r2 = 0 then (f_X8_readText_23 σ1) else (if (σ1 8 0 18) = 3 then (bv (f_X8_advanceToken σ1) fun σ3 => (k0 σ3)) else (f_X8_readText_33 σ1)))
noncomputable def f_X8_readText_68  (σ : Sg) (v100 : Int32) : Option (Int32 × Sg) := if ¬ (v100 = 0 ∨ v100 = 1) then none else (some (v100, σ))
noncomputable def f_X8_readText_63  (σ : Sg)  : Option (Int32 × Sg) := f_X8_readText_68 σ 1
noncomputable def f_X8_readText_46  (σ : Sg)  : Option (Int32 × Sg) := if 0 < (σ 30 0 1) then (f_X8_readText_63 σ) else (bi (f_X8_failsAt σ 4) fun r2 σ1 => (if r2 = 0 then (f_X8_readText_68 σ1 0) else (f_X8_readText_63 σ1)))
noncomputable def f_X8_readText_0  : Nat → Sg → Option (Int32 × Sg)
  | 0, _ => none
  | n + 1, σ => if (σ 8 0 18) = 0 then (if (σ 30 0 0) = 0 then (f_X8_readText_16 (f_X8_readText_0 n) σ) else (f_X8_readText_46 σ)) else (f_X8_readText_16 (f_X8_readText_0 n) σ)
theorem f_X8_readText_0_s  (n : Nat) (σ : Sg)  : f_X8_readText_0  (n + 1) σ  = (if (σ 8 0 18) = 0 then (if (σ 30 0 0) = 0 then (f_X8_readText_16 (f_X8_readText_0 n) σ) else (f_X8_readText_46 σ)) else (f_X8_readText_16 (f_X8_readText_0 n) σ)) := rfl
set_option maxHeartbeats 4000000 in
set_option maxRecDepth 100000 in
theorem w_X8_readText_33 {p : Program} {l : Launch} {e : Env} {s : State} {m : MethodId} {args : Array Value} {below : List Frame} {meth : Method} {c : Code} {G : Gx} {ad : Ad} {res : Int32 × Sg} (C : Cx p s m args meth c yX8_readText.cls cX8_readText 1 (Option.some FieldType.boolean) G)  : ∀ (σ : Sg)  (H : Heap) (locs : List Loc) (ls : Array Slot), z_S 1 G ad σ (z_A 1 ad s.heap.size) s.heap H locs → lv_has ls 1 [(0, .ref (ad 8 0))] → f_X8_readText_33  σ  = some res → W p l e { frames := 6, cells := 0, slots := 0, locals := 142 } s m args below meth c H locs 0 0 (MQ below (va_Qi (S := Unit) (fun r1 _ => r1 = res.1) (fun _ t => z_W 1 G ad res.2 t.heap) (z_A 1 ad s.heap.size)) args s 0 0 (z_A 1 ad s.heap.size)) (F0 m 33 ls []) := by
  intro σ  H locs ls S hl  hf
  unfold f_X8_readText_33 at hf
  refine lv_aload_n C.1 C.2.1 dX8_readText_33 rfl (lv_at hl 0 rfl) ?_
  refine lv_iconst (v := 1) C.1 C.2.1 dX8_readText_34 (by decide) ?_
  obtain ⟨r2, σ1, q_35, hf⟩ := bib hf
  refine z_callI C S 8 0 rfl (by decide) cf_8 ⟨_, rfl⟩ [.int 1] (m_X8_failsAt l G ad σ 1 r2 σ1 q_35 _) kv_X8_failsAt tw_7_1 ⟨Nat.le_of_ble_eq_true rfl, Nat.le_of_ble_eq_true rfl⟩ rfl rfl (Nat.le_of_ble_eq_true rfl) hl.1 ⟨Nat.le_of_ble_eq_true rfl, Nat.le_of_ble_eq_true rfl⟩ dX8_readText_35 (fun H locs S => ?_)
  obtain ⟨g_38, hf⟩ := gd hf
  exact z_zret C S (nbz g_38).1 hf dX8_readText_38
set_option maxHeartbeats 4000000 in
set_option maxRecDepth 100000 in
theorem w_X8_readText_23 {p : Program} {l : Launch} {e : Env} {s : State} {m : MethodId} {args : Array Value} {below : List Frame} {meth : Method} {c : Code} {G : Gx} {ad : Ad} {res : Int32 × Sg} (C : Cx p s m args meth c yX8_readText.cls cX8_readText 1 (Option.some FieldType.boolean) G)  : ∀ (σ : Sg)  (H : Heap) (locs : List Loc) (ls : Array Slot), z_S 1 G ad σ (z_A 1 ad s.heap.size) s.heap H locs → lv_has ls 1 [] → f_X8_readText_23  σ  = some res → W p l e { frames := 6, cells := 0, slots := 0, locals := 142 } s m args below meth c H locs 0 0 (MQ below (va_Qi (S := Unit) (fun r1 _ => r1 = res.1) (fun _ t => z_W 1 G ad res.2 t.heap) (z_A 1 ad s.heap.size)) args s 0 0 (z_A 1 ad s.heap.size)) (F0 m 23 ls []) := by
  intro σ  H locs ls S hl  hf
  unfold f_X8_readText_23 at hf
  refine lv_iconst (v := 0) C.1 C.2.1 dX8_readText_23 (by decide) ?_
  exact z_zret C S rfl hf dX8_readText_24
set_option maxHeartbeats 4000000 in
set_option maxRecDepth 100000 in
theorem w_X8_readText_16 {p : Program} {l : Launch} {e : Env} {s : State} {m : MethodId} {args : Array Value} {below : List Frame} {meth : Method} {c : Code} {G : Gx} {ad : Ad} {res : Int32 × Sg} (C : Cx p s m args meth c yX8_readText.cls cX8_readText 1 (Option.some FieldType.boolean) G) (k0 : Sg → Option (Int32 × Sg)) (hk0 : ∀ (σ : Sg)  (H : Heap) (locs : List Loc) (ls : Array Slot), z_S 1 G ad σ (z_A 1 ad s.heap.size) s.heap H locs → lv_has ls 1 [(0, .ref (ad 8 0))] → k0 σ  = some res → W p l e { frames := 6, cells := 0, slots := 0, locals := 142 } s m args below meth c H locs 0 0 (MQ below (va_Qi (S := Unit) (fun r1 _ => r1 = res.1) (fun _ t => z_W 1 G ad res.2 t.heap) (z_A 1 ad s.heap.size)) args s 0 0 (z_A 1 ad s.heap.size)) (F0 m 0 ls [])) : ∀ (σ : Sg)  (H : Heap) (locs : List Loc) (ls : Array Slot), z_S 1 G ad σ (z_A 1 ad s.heap.size) s.heap H locs → lv_has ls 1 [(0, .ref (ad 8 0))] → f_X8_readText_16 k0 σ  = some res → W p l e { frames := 6, cells := 0, slots := 0, locals := 142 } s m args below meth c H locs 0 0 (MQ below (va_Qi (S := Unit) (fun r1 _ => r1 = res.1) (fun _ t => z_W 1 G ad res.2 t.heap) (z_A 1 ad s.heap.size)) args s 0 0 (z_A 1 ad s.heap.size)) (F0 m 16 ls []) := by
  intro σ  H locs ls S hl  hf
  unfold f_X8_readText_16 at hf
  refine lv_aload_n C.1 C.2.1 dX8_readText_16 rfl (lv_at hl 0 rfl) ?_
  obtain ⟨r2, σ1, q_17, hf⟩ := bib hf
  refine z_callI C S 8 0 rfl (by decide) cf_8 ⟨_, rfl⟩ [] (m_X8_readStatement l G ad σ r2 σ1 q_17 _) kv_X8_readStatement tw_6_226 ⟨Nat.le_of_ble_eq_true rfl, Nat.le_of_ble_eq_true rfl⟩ rfl rfl (Nat.le_of_ble_eq_true rfl) hl.1 ⟨Nat.le_of_ble_eq_true rfl, Nat.le_of_ble_eq_true rfl⟩ dX8_readText_17 (fun H locs S => ?_)
  refine lv_if_ne (tgt := 25) C.1 C.2.1 dX8_readText_20 (by decide) (fun c_20 => ?_) (fun c_20 => ?_)
  · rw [if_neg c_20] at hf
    refine lv_aload_n C.1 C.2.1 dX8_readText_25 rfl (lv_at hl 0 rfl) ?_
    refine z_getI C S 8 0 rfl (by decide) cf_8 18 (by decide) (gi_8_18 G ad 0) tw_6_136 dX8_readText_26 ?_
    refine lv_iconst (v := 3) C.1 C.2.1 dX8_readText_29 (by decide) ?_
    refine lv_icmp_eq (tgt := 39) C.1 C.2.1 dX8_readText_30 (by decide) (fun c_30 => ?_) (fun c_30 => ?_)
    · rw [if_pos c_30] at hf
      refine lv_aload_n C.1 C.2.1 dX8_readText_39 rfl (lv_at hl 0 rfl) ?_
      obtain ⟨σ3, q_40, hf⟩ := bvb hf
      refine z_callV C S 8 0 rfl (by decide) cf_8 ⟨_, rfl⟩ [] (m_X8_advanceToken l G ad σ1 σ3 q_40 _) kv_X8_advanceToken tw_6_214 ⟨Nat.le_of_ble_eq_true rfl, Nat.le_of_ble_eq_true rfl⟩ rfl rfl (Nat.le_of_ble_eq_true rfl) hl.1 ⟨Nat.le_of_ble_eq_true rfl, Nat.le_of_ble_eq_true rfl⟩ dX8_readText_40 (fun H locs S => ?_)
      refine lv_goto (tgt := 0) C.1 C.2.1 dX8_readText_43 (by decide) ?_
      exact hk0 _  _ _ _ S (lv_sub hl [0] rfl)  hf
    · rw [if_neg c_30] at hf
      exact w_X8_readText_33 C _ _ _ _ S (lv_sub hl [0] rfl) hf
  · rw [if_pos c_20] at hf
    exact w_X8_readText_23 C _ _ _ _ S (lv_sub hl [] rfl) hf
set_option maxHeartbeats 4000000 in
set_option maxRecDepth 100000 in
theorem w_X8_readText_68 {p : Program} {l : Launch} {e : Env} {s : State} {m : MethodId} {args : Array Value} {below : List Frame} {meth : Method} {c : Code} {G : Gx} {ad : Ad} {res : Int32 × Sg} (C : Cx p s m args meth c yX8_readText.cls cX8_readText 1 (Option.some FieldType.boolean) G)  : ∀ (σ : Sg) (v100 : Int32) (H : Heap) (locs : List Loc) (ls : Array Slot), z_S 1 G ad σ (z_A 1 ad s.heap.size) s.heap H locs → lv_has ls 1 [] → f_X8_readText_68  σ v100 = some res → W p l e { frames := 6, cells := 0, slots := 0, locals := 142 } s m args below meth c H locs 0 0 (MQ below (va_Qi (S := Unit) (fun r1 _ => r1 = res.1) (fun _ t => z_W 1 G ad res.2 t.heap) (z_A 1 ad s.heap.size)) args s 0 0 (z_A 1 ad s.heap.size)) (F0 m 68 ls [.int v100]) := by
  intro σ v100 H locs ls S hl  hf
  unfold f_X8_readText_68 at hf
  obtain ⟨g_68, hf⟩ := gd hf
  exact z_zret C S (nbz g_68).1 hf dX8_readText_68
set_option maxHeartbeats 4000000 in
set_option maxRecDepth 100000 in
theorem w_X8_readText_63 {p : Program} {l : Launch} {e : Env} {s : State} {m : MethodId} {args : Array Value} {below : List Frame} {meth : Method} {c : Code} {G : Gx} {ad : Ad} {res : Int32 × Sg} (C : Cx p s m args meth c yX8_readText.cls cX8_readText 1 (Option.some FieldType.boolean) G)  : ∀ (σ : Sg)  (H : Heap) (locs : List Loc) (ls : Array Slot), z_S 1 G ad σ (z_A 1 ad s.heap.size) s.heap H locs → lv_has ls 1 [] → f_X8_readText_63  σ  = some res → W p l e { frames := 6, cells := 0, slots := 0, locals := 142 } s m args below meth c H locs 0 0 (MQ below (va_Qi (S := Unit) (fun r1 _ => r1 = res.1) (fun _ t => z_W 1 G ad res.2 t.heap) (z_A 1 ad s.heap.size)) args s 0 0 (z_A 1 ad s.heap.size)) (F0 m 63 ls []) := by
  intro σ  H locs ls S hl  hf
  unfold f_X8_readText_63 at hf
  refine lv_iconst (v := 1) C.1 C.2.1 dX8_readText_63 (by decide) ?_
  refine lv_goto (tgt := 68) C.1 C.2.1 dX8_readText_64 (by decide) ?_
  exact w_X8_readText_68 C _ 1 _ _ _ S (lv_sub hl [] rfl) hf
set_option maxHeartbeats 4000000 in
set_option maxRecDepth 100000 in
theorem w_X8_readText_46 {p : Program} {l : Launch} {e : Env} {s : State} {m : MethodId} {args : Array Value} {below : List Frame} {meth : Method} {c : Code} {G : Gx} {ad : Ad} {res : Int32 × Sg} (C : Cx p s m args meth c yX8_readText.cls cX8_readText 1 (Option.some FieldType.boolean) G)  : ∀ (σ : Sg)  (H : Heap) (locs : List Loc) (ls : Array Slot), z_S 1 G ad σ (z_A 1 ad s.heap.size) s.heap H locs → lv_has ls 1 [(0, .ref (ad 8 0))] → f_X8_readText_46  σ  = some res → W p l e { frames := 6, cells := 0, slots := 0, locals := 142 } s m args below meth c H locs 0 0 (MQ below (va_Qi (S := Unit) (fun r1 _ => r1 = res.1) (fun _ t => z_W 1 G ad res.2 t.heap) (z_A 1 ad s.heap.size)) args s 0 0 (z_A 1 ad s.heap.size)) (F0 m 46 ls []) := by
  intro σ  H locs ls S hl  hf
  unfold f_X8_readText_46 at hf
  refine lv_aload_n C.1 C.2.1 dX8_readText_46 rfl (lv_at hl 0 rfl) ?_
  refine z_getR C S 8 0 rfl (by decide) cf_8 0 (by decide) _ (gr_8_0 G ad 0) tw_6_118 dX8_readText_47 ?_
  refine lv_iconst (v := 1) C.1 C.2.1 dX8_readText_50 (by decide) ?_
  refine z_ialdL C S 30 0 rfl (by decide) 2111 (fun _ => rfl) 1 (by decide) (by decide) (by decide) dX8_readText_51 ?_
  refine lv_if_gt (tgt := 63) C.1 C.2.1 dX8_readText_52 (by decide) (fun c_52 => ?_) (fun c_52 => ?_)
  · rw [if_pos c_52] at hf
    exact w_X8_readText_63 C _ _ _ _ S (lv_sub hl [] rfl) hf
  · rw [if_neg c_52] at hf
    refine lv_aload_n C.1 C.2.1 dX8_readText_55 rfl (lv_at hl 0 rfl) ?_
    refine lv_iconst (v := 4) C.1 C.2.1 dX8_readText_56 (by decide) ?_
    obtain ⟨r2, σ1, q_57, hf⟩ := bib hf
    refine z_callI C S 8 0 rfl (by decide) cf_8 ⟨_, rfl⟩ [.int 4] (m_X8_failsAt l G ad σ 4 r2 σ1 q_57 _) kv_X8_failsAt tw_7_1 ⟨Nat.le_of_ble_eq_true rfl, Nat.le_of_ble_eq_true rfl⟩ rfl rfl (Nat.le_of_ble_eq_true rfl) hl.1 ⟨Nat.le_of_ble_eq_true rfl, Nat.le_of_ble_eq_true rfl⟩ dX8_readText_57 (fun H locs S => ?_)
    refine lv_if_eq (tgt := 67) C.1 C.2.1 dX8_readText_60 (by decide) (fun c_60 => ?_) (fun c_60 => ?_)
    · rw [if_pos c_60] at hf
      refine lv_iconst (v := 0) C.1 C.2.1 dX8_readText_67 (by decide) ?_
      exact w_X8_readText_68 C _ 0 _ _ _ S (lv_sub hl [] rfl) hf
    · rw [if_neg c_60] at hf
      exact w_X8_readText_63 C _ _ _ _ S (lv_sub hl [] rfl) hf
set_option maxHeartbeats 4000000 in
set_option maxRecDepth 100000 in
theorem w_X8_readText_0 {p : Program} {l : Launch} {e : Env} {s : State} {m : MethodId} {args : Array Value} {below : List Frame} {meth : Method} {c : Code} {G : Gx} {ad : Ad} {res : Int32 × Sg} (C : Cx p s m args meth c yX8_readText.cls cX8_readText 1 (Option.some FieldType.boolean) G)  : ∀ n : Nat, ∀ (σ : Sg)  (H : Heap) (locs : List Loc) (ls : Array Slot), z_S 1 G ad σ (z_A 1 ad s.heap.size) s.heap H locs → lv_has ls 1 [(0, .ref (ad 8 0))] → f_X8_readText_0  n σ  = some res → W p l e { frames := 6, cells := 0, slots := 0, locals := 142 } s m args below meth c H locs 0 0 (MQ below (va_Qi (S := Unit) (fun r1 _ => r1 = res.1) (fun _ t => z_W 1 G ad res.2 t.heap) (z_A 1 ad s.heap.size)) args s 0 0 (z_A 1 ad s.heap.size)) (F0 m 0 ls []) := by
  intro n
  induction n with
  | zero => intro σ  H locs ls S hl  hf; cases hf
  | succ n ih =>
    intro σ  H locs ls S hl  hf
    rw [f_X8_readText_0_s] at hf
    refine lv_aload_n C.1 C.2.1 dX8_readText_0 rfl (lv_at hl 0 rfl) ?_
    refine z_getI C S 8 0 rfl (by decide) cf_8 18 (by decide) (gi_8_18 G ad 0) tw_6_136 dX8_readText_1 ?_
    refine lv_if_ne (tgt := 16) C.1 C.2.1 dX8_readText_4 (by decide) (fun c_4 => ?_) (fun c_4 => ?_)
    · rw [if_neg c_4] at hf
      exact w_X8_readText_16 C (f_X8_readText_0 n) ih _ _ _ _ S (lv_sub hl [0] rfl) hf
    · rw [if_pos c_4] at hf
      refine lv_aload_n C.1 C.2.1 dX8_readText_7 rfl (lv_at hl 0 rfl) ?_
      refine z_getR C S 8 0 rfl (by decide) cf_8 0 (by decide) _ (gr_8_0 G ad 0) tw_6_118 dX8_readText_8 ?_
      refine lv_iconst (v := 0) C.1 C.2.1 dX8_readText_11 (by decide) ?_
      refine z_ialdL C S 30 0 rfl (by decide) 2111 (fun _ => rfl) 0 (by decide) (by decide) (by decide) dX8_readText_12 ?_
      refine lv_if_ne (tgt := 46) C.1 C.2.1 dX8_readText_13 (by decide) (fun c_13 => ?_) (fun c_13 => ?_)
      · rw [if_neg c_13] at hf
        exact w_X8_readText_46 C _ _ _ _ S (lv_sub hl [0] rfl) hf
      · rw [if_pos c_13] at hf
        exact w_X8_readText_16 C (f_X8_readText_0 n) ih _ _ _ _ S (lv_sub hl [0] rfl) hf
theorem kv_X8_readText : KV yX8_readText cX8_readText 1 (Option.some FieldType.boolean) 0 := ⟨tw_6_225, tw_6_224, tw_p_46, tw_1_10, by decide, by decide, by decide +kernel⟩
noncomputable def f_X8_readText (σ : Sg)  : Option (Int32 × Sg) := f_X8_readText_0 FU σ 
theorem m_X8_readText (l : Launch) (G : Gx) (ad : Ad) (σ : Sg)  (r : Int32) (σ' : Sg)  (hf : f_X8_readText σ  = some (r, σ')) (sz : Nat) : z_MI l yX8_readText cX8_readText 1 (Option.some FieldType.boolean) 6 142 1 G ad σ sz [.ref (ad 8 0)] r σ' := by
  refine z_begin (by decide +kernel) (Nat.le_of_ble_eq_true rfl) [(0, .ref (ad 8 0))] rfl (fun p e s m args below meth c ls C hz S hl => ?_)
  subst hz
  exact w_X8_readText_0 (res := (r, σ')) C FU σ  _ _ _ S hl  hf

theorem dX8_loadLifts_0 : decode cX8_loadLifts 0 = .ok (.aload_n 0, 1) := by decide +kernel
theorem dX8_loadLifts_1 : decode cX8_loadLifts 1 = .ok (.iconst 0, 1) := by decide +kernel
theorem dX8_loadLifts_2 : decode cX8_loadLifts 2 = .ok (.putfield 48, 3) := by decide +kernel
theorem dX8_loadLifts_5 : decode cX8_loadLifts 5 = .ok (.aload_n 0, 1) := by decide +kernel
theorem dX8_loadLifts_6 : decode cX8_loadLifts 6 = .ok (.getfield 7, 3) := by decide +kernel
theorem dX8_loadLifts_9 : decode cX8_loadLifts 9 = .ok (.iconst 0, 1) := by decide +kernel
theorem dX8_loadLifts_10 : decode cX8_loadLifts 10 = .ok (.aload_n 0, 1) := by decide +kernel
theorem dX8_loadLifts_11 : decode cX8_loadLifts 11 = .ok (.getfield 13, 3) := by decide +kernel
theorem dX8_loadLifts_14 : decode cX8_loadLifts 14 = .ok (.iconst 0, 1) := by decide +kernel
theorem dX8_loadLifts_15 : decode cX8_loadLifts 15 = .ok (.sipush 2111, 3) := by decide +kernel
theorem dX8_loadLifts_18 : decode cX8_loadLifts 18 = .ok (.invokestatic 57, 3) := by decide +kernel
theorem dX8_loadLifts_21 : decode cX8_loadLifts 21 = .ok (.aload_n 0, 1) := by decide +kernel
theorem dX8_loadLifts_22 : decode cX8_loadLifts 22 = .ok (.invokevirtual 41, 3) := by decide +kernel
theorem dX8_loadLifts_25 : decode cX8_loadLifts 25 = .ok (.aload_n 0, 1) := by decide +kernel
theorem dX8_loadLifts_26 : decode cX8_loadLifts 26 = .ok (.iconst 0, 1) := by decide +kernel
theorem dX8_loadLifts_27 : decode cX8_loadLifts 27 = .ok (.putfield 184, 3) := by decide +kernel
theorem dX8_loadLifts_30 : decode cX8_loadLifts 30 = .ok (.aload_n 0, 1) := by decide +kernel
theorem dX8_loadLifts_31 : decode cX8_loadLifts 31 = .ok (.iconst (-1), 1) := by decide +kernel
theorem dX8_loadLifts_32 : decode cX8_loadLifts 32 = .ok (.putfield 187, 3) := by decide +kernel
theorem dX8_loadLifts_35 : decode cX8_loadLifts 35 = .ok (.aload_n 0, 1) := by decide +kernel
theorem dX8_loadLifts_36 : decode cX8_loadLifts 36 = .ok (.iconst 0, 1) := by decide +kernel
theorem dX8_loadLifts_37 : decode cX8_loadLifts 37 = .ok (.putfield 169, 3) := by decide +kernel
theorem dX8_loadLifts_40 : decode cX8_loadLifts 40 = .ok (.aload_n 0, 1) := by decide +kernel
theorem dX8_loadLifts_41 : decode cX8_loadLifts 41 = .ok (.iconst 0, 1) := by decide +kernel
theorem dX8_loadLifts_42 : decode cX8_loadLifts 42 = .ok (.putfield 208, 3) := by decide +kernel
theorem dX8_loadLifts_45 : decode cX8_loadLifts 45 = .ok (.aload_n 0, 1) := by decide +kernel
theorem dX8_loadLifts_46 : decode cX8_loadLifts 46 = .ok (.invokevirtual 205, 3) := by decide +kernel
theorem dX8_loadLifts_49 : decode cX8_loadLifts 49 = .ok (.aload_n 0, 1) := by decide +kernel
theorem dX8_loadLifts_50 : decode cX8_loadLifts 50 = .ok (.invokevirtual 257, 3) := by decide +kernel
theorem dX8_loadLifts_53 : decode cX8_loadLifts 53 = .ok (.istore_n 1, 1) := by decide +kernel
theorem dX8_loadLifts_54 : decode cX8_loadLifts 54 = .ok (.aload_n 0, 1) := by decide +kernel
theorem dX8_loadLifts_55 : decode cX8_loadLifts 55 = .ok (.iconst 0, 1) := by decide +kernel
theorem dX8_loadLifts_56 : decode cX8_loadLifts 56 = .ok (.putfield 159, 3) := by decide +kernel
theorem dX8_loadLifts_59 : decode cX8_loadLifts 59 = .ok (.aload_n 0, 1) := by decide +kernel
theorem dX8_loadLifts_60 : decode cX8_loadLifts 60 = .ok (.aload_n 0, 1) := by decide +kernel
theorem dX8_loadLifts_61 : decode cX8_loadLifts 61 = .ok (.getfield 184, 3) := by decide +kernel
theorem dX8_loadLifts_64 : decode cX8_loadLifts 64 = .ok (.putfield 260, 3) := by decide +kernel
theorem dX8_loadLifts_67 : decode cX8_loadLifts 67 = .ok (.aload_n 0, 1) := by decide +kernel
theorem dX8_loadLifts_68 : decode cX8_loadLifts 68 = .ok (.aload_n 0, 1) := by decide +kernel
theorem dX8_loadLifts_69 : decode cX8_loadLifts 69 = .ok (.getfield 187, 3) := by decide +kernel
theorem dX8_loadLifts_72 : decode cX8_loadLifts 72 = .ok (.putfield 31, 3) := by decide +kernel
theorem dX8_loadLifts_75 : decode cX8_loadLifts 75 = .ok (.iload_n 1, 1) := by decide +kernel
theorem dX8_loadLifts_76 : decode cX8_loadLifts 76 = .ok (.ifCond .ne 21, 3) := by decide +kernel
theorem dX8_loadLifts_79 : decode cX8_loadLifts 79 = .ok (.aload_n 0, 1) := by decide +kernel
theorem dX8_loadLifts_80 : decode cX8_loadLifts 80 = .ok (.getfield 13, 3) := by decide +kernel
theorem dX8_loadLifts_83 : decode cX8_loadLifts 83 = .ok (.iconst 0, 1) := by decide +kernel
theorem dX8_loadLifts_84 : decode cX8_loadLifts 84 = .ok (.aload_n 0, 1) := by decide +kernel
theorem dX8_loadLifts_85 : decode cX8_loadLifts 85 = .ok (.getfield 7, 3) := by decide +kernel
theorem dX8_loadLifts_88 : decode cX8_loadLifts 88 = .ok (.iconst 0, 1) := by decide +kernel
theorem dX8_loadLifts_89 : decode cX8_loadLifts 89 = .ok (.sipush 2111, 3) := by decide +kernel
theorem dX8_loadLifts_92 : decode cX8_loadLifts 92 = .ok (.invokestatic 57, 3) := by decide +kernel
theorem dX8_loadLifts_95 : decode cX8_loadLifts 95 = .ok (.iconst (-1), 1) := by decide +kernel
theorem dX8_loadLifts_96 : decode cX8_loadLifts 96 = .ok (.ireturn, 1) := by decide +kernel
theorem dX8_loadLifts_97 : decode cX8_loadLifts 97 = .ok (.aload_n 0, 1) := by decide +kernel
theorem dX8_loadLifts_98 : decode cX8_loadLifts 98 = .ok (.iconst 0, 1) := by decide +kernel
theorem dX8_loadLifts_99 : decode cX8_loadLifts 99 = .ok (.putfield 54, 3) := by decide +kernel
theorem dX8_loadLifts_102 : decode cX8_loadLifts 102 = .ok (.aload_n 0, 1) := by decide +kernel
theorem dX8_loadLifts_103 : decode cX8_loadLifts 103 = .ok (.iconst 0, 1) := by decide +kernel
theorem dX8_loadLifts_104 : decode cX8_loadLifts 104 = .ok (.putfield 263, 3) := by decide +kernel
theorem dX8_loadLifts_107 : decode cX8_loadLifts 107 = .ok (.aload_n 0, 1) := by decide +kernel
theorem dX8_loadLifts_108 : decode cX8_loadLifts 108 = .ok (.getfield 7, 3) := by decide +kernel
theorem dX8_loadLifts_111 : decode cX8_loadLifts 111 = .ok (.iconst 1, 1) := by decide +kernel
theorem dX8_loadLifts_112 : decode cX8_loadLifts 112 = .ok (.iaload, 1) := by decide +kernel
theorem dX8_loadLifts_113 : decode cX8_loadLifts 113 = .ok (.ireturn, 1) := by decide +kernel
/-! BusLiftsModel.loadLifts()I -/
noncomputable def f_X8_loadLifts  (σ : Sg)  : Option (Int32 × Sg) := st (sup σ 8 0 8 0) fun σ1 => (bv (f_X8_copies σ1 30 0 2111 0 31 0 2111 0 2111) fun σ2 => (bv (f_X8_clear σ2) fun σ3 => (st (sup σ3 8 0 13 0) fun σ4 => (st (sup σ4 8 0 14 (-1)) fun σ5 => (st (sup σ5 8 0 15 0) fun σ6 => (st (sup σ6 8 0 19 0) fun σ7 => (bv (f_X8_advanceToken σ7) fun σ8 => (bi (f_X8_readText σ8) fun r10 σ9 => (st (sup σ9 8 0 10 0) fun σ11 => (st (sup σ11 8 0 11 (σ11 8 0 13)) fun σ12 => (st (sup σ12 8 0 12 (σ12 8 0 14)) fun σ13 => (if r10 = 0 then (bv (f_X8_copies σ13 31 0 2111 0 30 0 2111 0 2111) fun σ16 => (some ((-1), σ16))) else (st (sup σ13 8 0 6 0) fun σ14 => (st (sup σ14 8 0 7 0) fun σ15 => (some ((σ15 30 0 1), σ15))))))))))))))))
set_option maxHeartbeats 4000000 in
set_option maxRecDepth 100000 in
theorem w_X8_loadLifts_0 {p : Program} {l : Launch} {e : Env} {s : State} {m : MethodId} {args : Array Value} {below : List Frame} {meth : Method} {c : Code} {G : Gx} {ad : Ad} {res : Int32 × Sg} (C : Cx p s m args meth c yX8_loadLifts.cls cX8_loadLifts 2 (Option.some FieldType.int) G)  : ∀ (σ : Sg)  (H : Heap) (locs : List Loc) (ls : Array Slot), z_S 1 G ad σ (z_A 1 ad s.heap.size) s.heap H locs → lv_has ls 2 [(0, .ref (ad 8 0))] → f_X8_loadLifts  σ  = some res → W p l e { frames := 7, cells := 0, slots := 0, locals := 162 } s m args below meth c H locs 0 0 (MQ below (va_Qi (S := Unit) (fun r1 _ => r1 = res.1) (fun _ t => z_W 1 G ad res.2 t.heap) (z_A 1 ad s.heap.size)) args s 0 0 (z_A 1 ad s.heap.size)) (F0 m 0 ls []) := by
  intro σ  H locs ls S hl  hf
  unfold f_X8_loadLifts at hf
  refine lv_aload_n C.1 C.2.1 dX8_loadLifts_0 rfl (lv_at hl 0 rfl) ?_
  refine lv_iconst (v := 0) C.1 C.2.1 dX8_loadLifts_1 (by decide) ?_
  obtain ⟨σ1, e_2, hf⟩ := stb hf
  refine z_putI C S 8 0 rfl (by decide) cf_8 8 (by decide) (pi_8_8 G ad 0) rfl rfl rfl tw_6_126 dX8_loadLifts_2 (fun H locs S => ?_)
  rw [← e_2] at S
  refine lv_aload_n C.1 C.2.1 dX8_loadLifts_5 rfl (lv_at hl 0 rfl) ?_
  refine z_getR C S 8 0 rfl (by decide) cf_8 0 (by decide) _ (gr_8_0 G ad 0) tw_6_118 dX8_loadLifts_6 ?_
  refine lv_iconst (v := 0) C.1 C.2.1 dX8_loadLifts_9 (by decide) ?_
  refine lv_aload_n C.1 C.2.1 dX8_loadLifts_10 rfl (lv_at hl 0 rfl) ?_
  refine z_getR C S 8 0 rfl (by decide) cf_8 1 (by decide) _ (gr_8_1 G ad 0) tw_6_119 dX8_loadLifts_11 ?_
  refine lv_iconst (v := 0) C.1 C.2.1 dX8_loadLifts_14 (by decide) ?_
  refine lv_sipush (v := 2111) C.1 C.2.1 dX8_loadLifts_15 (by decide) ?_
  obtain ⟨σ2, q_18, hf⟩ := bvb hf
  refine z_callSV C S [.ref (ad 30 0), .int 0, .ref (ad 31 0), .int 0, .int 2111] (m_X8_copies l G ad σ1 30 0 2111 0 31 0 2111 0 2111 σ2 rfl (by decide) (fun _ _ _ _ => rfl) rfl (by decide) (fun _ _ _ _ => rfl) q_18 _) kv_X8_copies tw_6_211 ⟨Nat.le_of_ble_eq_true rfl, Nat.le_of_ble_eq_true rfl⟩ rfl rfl (Nat.le_of_ble_eq_true rfl) hl.1 ⟨Nat.le_of_ble_eq_true rfl, Nat.le_of_ble_eq_true rfl⟩ dX8_loadLifts_18 (fun H locs S => ?_)
  refine lv_aload_n C.1 C.2.1 dX8_loadLifts_21 rfl (lv_at hl 0 rfl) ?_
  obtain ⟨σ3, q_22, hf⟩ := bvb hf
  refine z_callV C S 8 0 rfl (by decide) cf_8 ⟨_, rfl⟩ [] (m_X8_clear l G ad σ2 σ3 q_22 _) kv_X8_clear tw_6_110 ⟨Nat.le_of_ble_eq_true rfl, Nat.le_of_ble_eq_true rfl⟩ rfl rfl (Nat.le_of_ble_eq_true rfl) hl.1 ⟨Nat.le_of_ble_eq_true rfl, Nat.le_of_ble_eq_true rfl⟩ dX8_loadLifts_22 (fun H locs S => ?_)
  refine lv_aload_n C.1 C.2.1 dX8_loadLifts_25 rfl (lv_at hl 0 rfl) ?_
  refine lv_iconst (v := 0) C.1 C.2.1 dX8_loadLifts_26 (by decide) ?_
  obtain ⟨σ4, e_27, hf⟩ := stb hf
  refine z_putI C S 8 0 rfl (by decide) cf_8 13 (by decide) (pi_8_13 G ad 0) rfl rfl rfl tw_6_131 dX8_loadLifts_27 (fun H locs S => ?_)
  rw [← e_27] at S
  refine lv_aload_n C.1 C.2.1 dX8_loadLifts_30 rfl (lv_at hl 0 rfl) ?_
  refine lv_iconst (v := (-1)) C.1 C.2.1 dX8_loadLifts_31 (by decide) ?_
  obtain ⟨σ5, e_32, hf⟩ := stb hf
  refine z_putI C S 8 0 rfl (by decide) cf_8 14 (by decide) (pi_8_14 G ad 0) rfl rfl rfl tw_6_132 dX8_loadLifts_32 (fun H locs S => ?_)
  rw [← e_32] at S
  refine lv_aload_n C.1 C.2.1 dX8_loadLifts_35 rfl (lv_at hl 0 rfl) ?_
  refine lv_iconst (v := 0) C.1 C.2.1 dX8_loadLifts_36 (by decide) ?_
  obtain ⟨σ6, e_37, hf⟩ := stb hf
  refine z_putI C S 8 0 rfl (by decide) cf_8 15 (by decide) (pi_8_15 G ad 0) rfl rfl rfl tw_6_133 dX8_loadLifts_37 (fun H locs S => ?_)
  rw [← e_37] at S
  refine lv_aload_n C.1 C.2.1 dX8_loadLifts_40 rfl (lv_at hl 0 rfl) ?_
  refine lv_iconst (v := 0) C.1 C.2.1 dX8_loadLifts_41 (by decide) ?_
  obtain ⟨σ7, e_42, hf⟩ := stb hf
  refine z_putI C S 8 0 rfl (by decide) cf_8 19 (by decide) (pi_8_19 G ad 0) rfl rfl rfl tw_6_137 dX8_loadLifts_42 (fun H locs S => ?_)
  rw [← e_42] at S
  refine lv_aload_n C.1 C.2.1 dX8_loadLifts_45 rfl (lv_at hl 0 rfl) ?_
  obtain ⟨σ8, q_46, hf⟩ := bvb hf
  refine z_callV C S 8 0 rfl (by decide) cf_8 ⟨_, rfl⟩ [] (m_X8_advanceToken l G ad σ7 σ8 q_46 _) kv_X8_advanceToken tw_6_214 ⟨Nat.le_of_ble_eq_true rfl, Nat.le_of_ble_eq_true rfl⟩ rfl rfl (Nat.le_of_ble_eq_true rfl) hl.1 ⟨Nat.le_of_ble_eq_true rfl, Nat.le_of_ble_eq_true rfl⟩ dX8_loadLifts_46 (fun H locs S => ?_)
  refine lv_aload_n C.1 C.2.1 dX8_loadLifts_49 rfl (lv_at hl 0 rfl) ?_
  obtain ⟨r10, σ9, q_50, hf⟩ := bib hf
  refine z_callI C S 8 0 rfl (by decide) cf_8 ⟨_, rfl⟩ [] (m_X8_readText l G ad σ8 r10 σ9 q_50 _) kv_X8_readText tw_6_222 ⟨Nat.le_of_ble_eq_true rfl, Nat.le_of_ble_eq_true rfl⟩ rfl rfl (Nat.le_of_ble_eq_true rfl) hl.1 ⟨Nat.le_of_ble_eq_true rfl, Nat.le_of_ble_eq_true rfl⟩ dX8_loadLifts_50 (fun H locs S => ?_)
  refine lv_istore_n (lv' := [(1, .int r10), (0, .ref (ad 8 0))]) C.1 C.2.1 dX8_loadLifts_53 rfl hl (by decide) rfl (fun ls hl => ?_)
  refine lv_aload_n C.1 C.2.1 dX8_loadLifts_54 rfl (lv_at hl 1 rfl) ?_
  refine lv_iconst (v := 0) C.1 C.2.1 dX8_loadLifts_55 (by decide) ?_
  obtain ⟨σ11, e_56, hf⟩ := stb hf
  refine z_putI C S 8 0 rfl (by decide) cf_8 10 (by decide) (pi_8_10 G ad 0) rfl rfl rfl tw_6_128 dX8_loadLifts_56 (fun H locs S => ?_)
  rw [← e_56] at S
  refine lv_aload_n C.1 C.2.1 dX8_loadLifts_59 rfl (lv_at hl 1 rfl) ?_
  refine lv_aload_n C.1 C.2.1 dX8_loadLifts_60 rfl (lv_at hl 1 rfl) ?_
  refine z_getI C S 8 0 rfl (by decide) cf_8 13 (by decide) (gi_8_13 G ad 0) tw_6_131 dX8_loadLifts_61 ?_
  obtain ⟨σ12, e_64, hf⟩ := stb hf
  refine z_putI C S 8 0 rfl (by decide) cf_8 11 (by decide) (pi_8_11 G ad 0) rfl rfl rfl tw_6_129 dX8_loadLifts_64 (fun H locs S => ?_)
  rw [← e_64] at S
  refine lv_aload_n C.1 C.2.1 dX8_loadLifts_67 rfl (lv_at hl 1 rfl) ?_
  refine lv_aload_n C.1 C.2.1 dX8_loadLifts_68 rfl (lv_at hl 1 rfl) ?_
  refine z_getI C S 8 0 rfl (by decide) cf_8 14 (by decide) (gi_8_14 G ad 0) tw_6_132 dX8_loadLifts_69 ?_
  obtain ⟨σ13, e_72, hf⟩ := stb hf
  refine z_putI C S 8 0 rfl (by decide) cf_8 12 (by decide) (pi_8_12 G ad 0) rfl rfl rfl tw_6_130 dX8_loadLifts_72 (fun H locs S => ?_)
  rw [← e_72] at S
  refine lv_iload_n C.1 C.2.1 dX8_loadLifts_75 rfl (lv_at hl 0 rfl) ?_
  refine lv_if_ne (tgt := 97) C.1 C.2.1 dX8_loadLifts_76 (by decide) (fun c_76 => ?_) (fun c_76 => ?_)
  · rw [if_neg c_76] at hf
    refine lv_aload_n C.1 C.2.1 dX8_loadLifts_97 rfl (lv_at hl 1 rfl) ?_
    refine lv_iconst (v := 0) C.1 C.2.1 dX8_loadLifts_98 (by decide) ?_
    obtain ⟨σ14, e_99, hf⟩ := stb hf
    refine z_putI C S 8 0 rfl (by decide) cf_8 6 (by decide) (pi_8_6 G ad 0) rfl rfl rfl tw_6_124 dX8_loadLifts_99 (fun H locs S => ?_)
    rw [← e_99] at S
    refine lv_aload_n C.1 C.2.1 dX8_loadLifts_102 rfl (lv_at hl 1 rfl) ?_
    refine lv_iconst (v := 0) C.1 C.2.1 dX8_loadLifts_103 (by decide) ?_
    obtain ⟨σ15, e_104, hf⟩ := stb hf
    refine z_putI C S 8 0 rfl (by decide) cf_8 7 (by decide) (pi_8_7 G ad 0) rfl rfl rfl tw_6_125 dX8_loadLifts_104 (fun H locs S => ?_)
    rw [← e_104] at S
    refine lv_aload_n C.1 C.2.1 dX8_loadLifts_107 rfl (lv_at hl 1 rfl) ?_
    refine z_getR C S 8 0 rfl (by decide) cf_8 0 (by decide) _ (gr_8_0 G ad 0) tw_6_118 dX8_loadLifts_108 ?_
    refine lv_iconst (v := 1) C.1 C.2.1 dX8_loadLifts_111 (by decide) ?_
    refine z_ialdL C S 30 0 rfl (by decide) 2111 (fun _ => rfl) 1 (by decide) (by decide) (by decide) dX8_loadLifts_112 ?_
    exact z_iret C S hf dX8_loadLifts_113
  · rw [if_pos c_76] at hf
    refine lv_aload_n C.1 C.2.1 dX8_loadLifts_79 rfl (lv_at hl 1 rfl) ?_
    refine z_getR C S 8 0 rfl (by decide) cf_8 1 (by decide) _ (gr_8_1 G ad 0) tw_6_119 dX8_loadLifts_80 ?_
    refine lv_iconst (v := 0) C.1 C.2.1 dX8_loadLifts_83 (by decide) ?_
    refine lv_aload_n C.1 C.2.1 dX8_loadLifts_84 rfl (lv_at hl 1 rfl) ?_
    refine z_getR C S 8 0 rfl (by decide) cf_8 0 (by decide) _ (gr_8_0 G ad 0) tw_6_118 dX8_loadLifts_85 ?_
    refine lv_iconst (v := 0) C.1 C.2.1 dX8_loadLifts_88 (by decide) ?_
    refine lv_sipush (v := 2111) C.1 C.2.1 dX8_loadLifts_89 (by decide) ?_
    obtain ⟨σ16, q_92, hf⟩ := bvb hf
    refine z_callSV C S [.ref (ad 31 0), .int 0, .ref (ad 30 0), .int 0, .int 2111] (m_X8_copies l G ad σ13 31 0 2111 0 30 0 2111 0 2111 σ16 rfl (by decide) (fun _ _ _ _ => rfl) rfl (by decide) (fun _ _ _ _ => rfl) q_92 _) kv_X8_copies tw_6_211 ⟨Nat.le_of_ble_eq_true rfl, Nat.le_of_ble_eq_true rfl⟩ rfl rfl (Nat.le_of_ble_eq_true rfl) hl.1 ⟨Nat.le_of_ble_eq_true rfl, Nat.le_of_ble_eq_true rfl⟩ dX8_loadLifts_92 (fun H locs S => ?_)
    refine lv_iconst (v := (-1)) C.1 C.2.1 dX8_loadLifts_95 (by decide) ?_
    exact z_iret C S hf dX8_loadLifts_96
theorem kv_X8_loadLifts : KV yX8_loadLifts cX8_loadLifts 2 (Option.some FieldType.int) 0 := ⟨tw_6_210, tw_6_208, tw_6_209, tw_1_10, by decide, by decide, by decide +kernel⟩
theorem m_X8_loadLifts (l : Launch) (G : Gx) (ad : Ad) (σ : Sg)  (r : Int32) (σ' : Sg)  (hf : f_X8_loadLifts σ  = some (r, σ')) (sz : Nat) : z_MI l yX8_loadLifts cX8_loadLifts 2 (Option.some FieldType.int) 7 162 1 G ad σ sz [.ref (ad 8 0)] r σ' := by
  refine z_begin (by decide +kernel) (Nat.le_of_ble_eq_true rfl) [(0, .ref (ad 8 0))] rfl (fun p e s m args below meth c ls C hz S hl => ?_)
  subst hz
  exact w_X8_loadLifts_0 (res := (r, σ')) C σ  _ _ _ S hl  hf

theorem dX8_errorCode_0 : decode cX8_errorCode 0 = .ok (.aload_n 0, 1) := by decide +kernel
theorem dX8_errorCode_1 : decode cX8_errorCode 1 = .ok (.iconst 0, 1) := by decide +kernel
theorem dX8_errorCode_2 : decode cX8_errorCode 2 = .ok (.putfield 48, 3) := by decide +kernel
theorem dX8_errorCode_5 : decode cX8_errorCode 5 = .ok (.aload_n 0, 1) := by decide +kernel
theorem dX8_errorCode_6 : decode cX8_errorCode 6 = .ok (.getfield 260, 3) := by decide +kernel
theorem dX8_errorCode_9 : decode cX8_errorCode 9 = .ok (.ireturn, 1) := by decide +kernel
/-! BusLiftsModel.errorCode()I -/
noncomputable def f_X8_errorCode  (σ : Sg)  : Option (Int32 × Sg) := st (sup σ 8 0 8 0) fun σ1 => (some ((σ1 8 0 11), σ1))
set_option maxHeartbeats 4000000 in
set_option maxRecDepth 100000 in
theorem w_X8_errorCode_0 {p : Program} {l : Launch} {e : Env} {s : State} {m : MethodId} {args : Array Value} {below : List Frame} {meth : Method} {c : Code} {G : Gx} {ad : Ad} {res : Int32 × Sg} (C : Cx p s m args meth c yX8_errorCode.cls cX8_errorCode 1 (Option.some FieldType.int) G)  : ∀ (σ : Sg)  (H : Heap) (locs : List Loc) (ls : Array Slot), z_S 1 G ad σ (z_A 1 ad s.heap.size) s.heap H locs → lv_has ls 1 [(0, .ref (ad 8 0))] → f_X8_errorCode  σ  = some res → W p l e { frames := 0, cells := 0, slots := 0, locals := 0 } s m args below meth c H locs 0 0 (MQ below (va_Qi (S := Unit) (fun r1 _ => r1 = res.1) (fun _ t => z_W 1 G ad res.2 t.heap) (z_A 1 ad s.heap.size)) args s 0 0 (z_A 1 ad s.heap.size)) (F0 m 0 ls []) := by
  intro σ  H locs ls S hl  hf
  unfold f_X8_errorCode at hf
  refine lv_aload_n C.1 C.2.1 dX8_errorCode_0 rfl (lv_at hl 0 rfl) ?_
  refine lv_iconst (v := 0) C.1 C.2.1 dX8_errorCode_1 (by decide) ?_
  obtain ⟨σ1, e_2, hf⟩ := stb hf
  refine z_putI C S 8 0 rfl (by decide) cf_8 8 (by decide) (pi_8_8 G ad 0) rfl rfl rfl tw_6_126 dX8_errorCode_2 (fun H locs S => ?_)
  rw [← e_2] at S
  refine lv_aload_n C.1 C.2.1 dX8_errorCode_5 rfl (lv_at hl 0 rfl) ?_
  refine z_getI C S 8 0 rfl (by decide) cf_8 11 (by decide) (gi_8_11 G ad 0) tw_6_129 dX8_errorCode_6 ?_
  exact z_iret C S hf dX8_errorCode_9
theorem kv_X8_errorCode : KV yX8_errorCode cX8_errorCode 1 (Option.some FieldType.int) 0 := ⟨tw_7_47, tw_7_45, tw_7_46, tw_1_10, by decide, by decide, by decide +kernel⟩
theorem m_X8_errorCode (l : Launch) (G : Gx) (ad : Ad) (σ : Sg)  (r : Int32) (σ' : Sg)  (hf : f_X8_errorCode σ  = some (r, σ')) (sz : Nat) : z_MI l yX8_errorCode cX8_errorCode 1 (Option.some FieldType.int) 0 0 1 G ad σ sz [.ref (ad 8 0)] r σ' := by
  refine z_begin (by decide +kernel) (Nat.le_of_ble_eq_true rfl) [(0, .ref (ad 8 0))] rfl (fun p e s m args below meth c ls C hz S hl => ?_)
  subst hz
  exact w_X8_errorCode_0 (res := (r, σ')) C σ  _ _ _ S hl  hf

theorem dX8_errorOffset_0 : decode cX8_errorOffset 0 = .ok (.aload_n 0, 1) := by decide +kernel
theorem dX8_errorOffset_1 : decode cX8_errorOffset 1 = .ok (.iconst 0, 1) := by decide +kernel
theorem dX8_errorOffset_2 : decode cX8_errorOffset 2 = .ok (.putfield 48, 3) := by decide +kernel
theorem dX8_errorOffset_5 : decode cX8_errorOffset 5 = .ok (.aload_n 0, 1) := by decide +kernel
theorem dX8_errorOffset_6 : decode cX8_errorOffset 6 = .ok (.getfield 31, 3) := by decide +kernel
theorem dX8_errorOffset_9 : decode cX8_errorOffset 9 = .ok (.ireturn, 1) := by decide +kernel
/-! BusLiftsModel.errorOffset()I -/
noncomputable def f_X8_errorOffset  (σ : Sg)  : Option (Int32 × Sg) := st (sup σ 8 0 8 0) fun σ1 => (some ((σ1 8 0 12), σ1))
set_option maxHeartbeats 4000000 in
set_option maxRecDepth 100000 in
theorem w_X8_errorOffset_0 {p : Program} {l : Launch} {e : Env} {s : State} {m : MethodId} {args : Array Value} {below : List Frame} {meth : Method} {c : Code} {G : Gx} {ad : Ad} {res : Int32 × Sg} (C : Cx p s m args meth c yX8_errorOffset.cls cX8_errorOffset 1 (Option.some FieldType.int) G)  : ∀ (σ : Sg)  (H : Heap) (locs : List Loc) (ls : Array Slot), z_S 1 G ad σ (z_A 1 ad s.heap.size) s.heap H locs → lv_has ls 1 [(0, .ref (ad 8 0))] → f_X8_errorOffset  σ  = some res → W p l e { frames := 0, cells := 0, slots := 0, locals := 0 } s m args below meth c H locs 0 0 (MQ below (va_Qi (S := Unit) (fun r1 _ => r1 = res.1) (fun _ t => z_W 1 G ad res.2 t.heap) (z_A 1 ad s.heap.size)) args s 0 0 (z_A 1 ad s.heap.size)) (F0 m 0 ls []) := by
  intro σ  H locs ls S hl  hf
  unfold f_X8_errorOffset at hf
  refine lv_aload_n C.1 C.2.1 dX8_errorOffset_0 rfl (lv_at hl 0 rfl) ?_
  refine lv_iconst (v := 0) C.1 C.2.1 dX8_errorOffset_1 (by decide) ?_
  obtain ⟨σ1, e_2, hf⟩ := stb hf
  refine z_putI C S 8 0 rfl (by decide) cf_8 8 (by decide) (pi_8_8 G ad 0) rfl rfl rfl tw_6_126 dX8_errorOffset_2 (fun H locs S => ?_)
  rw [← e_2] at S
  refine lv_aload_n C.1 C.2.1 dX8_errorOffset_5 rfl (lv_at hl 0 rfl) ?_
  refine z_getI C S 8 0 rfl (by decide) cf_8 12 (by decide) (gi_8_12 G ad 0) tw_6_130 dX8_errorOffset_6 ?_
  exact z_iret C S hf dX8_errorOffset_9
theorem kv_X8_errorOffset : KV yX8_errorOffset cX8_errorOffset 1 (Option.some FieldType.int) 0 := ⟨tw_7_51, tw_7_49, tw_7_50, tw_1_10, by decide, by decide, by decide +kernel⟩
theorem m_X8_errorOffset (l : Launch) (G : Gx) (ad : Ad) (σ : Sg)  (r : Int32) (σ' : Sg)  (hf : f_X8_errorOffset σ  = some (r, σ')) (sz : Nat) : z_MI l yX8_errorOffset cX8_errorOffset 1 (Option.some FieldType.int) 0 0 1 G ad σ sz [.ref (ad 8 0)] r σ' := by
  refine z_begin (by decide +kernel) (Nat.le_of_ble_eq_true rfl) [(0, .ref (ad 8 0))] rfl (fun p e s m args below meth c ls C hz S hl => ?_)
  subst hz
  exact w_X8_errorOffset_0 (res := (r, σ')) C σ  _ _ _ S hl  hf

theorem dX8_fails_0 : decode cX8_fails 0 = .ok (.iload_n 1, 1) := by decide +kernel
theorem dX8_fails_1 : decode cX8_fails 1 = .ok (.ifCond .eq 8, 3) := by decide +kernel
theorem dX8_fails_4 : decode cX8_fails 4 = .ok (.aload_n 0, 1) := by decide +kernel
theorem dX8_fails_5 : decode cX8_fails 5 = .ok (.iload_n 2, 1) := by decide +kernel
theorem dX8_fails_6 : decode cX8_fails 6 = .ok (.putfield 48, 3) := by decide +kernel
theorem dX8_fails_9 : decode cX8_fails 9 = .ok (.iload_n 1, 1) := by decide +kernel
theorem dX8_fails_10 : decode cX8_fails 10 = .ok (.ireturn, 1) := by decide +kernel
/-! BusLiftsModel.fails(ZI)Z -/
noncomputable def f_X8_fails_9  (σ : Sg) (v1 : Int32) : Option (Int32 × Sg) := if ¬ (v1 = 0 ∨ v1 = 1) then none else (some (v1, σ))
noncomputable def f_X8_fails  (σ : Sg) (v1 : Int32) (v2 : Int32) : Option (Int32 × Sg) := if v1 = 0 then (f_X8_fails_9 σ v1) else (st (sup σ 8 0 8 v2) fun σ1 => (f_X8_fails_9 σ1 v1))
set_option maxHeartbeats 4000000 in
set_option maxRecDepth 100000 in
theorem w_X8_fails_9 {p : Program} {l : Launch} {e : Env} {s : State} {m : MethodId} {args : Array Value} {below : List Frame} {meth : Method} {c : Code} {G : Gx} {ad : Ad} {res : Int32 × Sg} (C : Cx p s m args meth c yX8_fails.cls cX8_fails 3 (Option.some FieldType.boolean) G)  : ∀ (σ : Sg) (v1 : Int32) (H : Heap) (locs : List Loc) (ls : Array Slot), z_S 1 G ad σ (z_A 1 ad s.heap.size) s.heap H locs → lv_has ls 3 [(1, .int v1)] → f_X8_fails_9  σ v1 = some res → W p l e { frames := 0, cells := 0, slots := 0, locals := 0 } s m args below meth c H locs 0 0 (MQ below (va_Qi (S := Unit) (fun r1 _ => r1 = res.1) (fun _ t => z_W 1 G ad res.2 t.heap) (z_A 1 ad s.heap.size)) args s 0 0 (z_A 1 ad s.heap.size)) (F0 m 9 ls []) := by
  intro σ v1 H locs ls S hl  hf
  unfold f_X8_fails_9 at hf
  refine lv_iload_n C.1 C.2.1 dX8_fails_9 rfl (lv_at hl 0 rfl) ?_
  obtain ⟨g_10, hf⟩ := gd hf
  exact z_zret C S (nbz g_10).1 hf dX8_fails_10
set_option maxHeartbeats 4000000 in
set_option maxRecDepth 100000 in
theorem w_X8_fails_0 {p : Program} {l : Launch} {e : Env} {s : State} {m : MethodId} {args : Array Value} {below : List Frame} {meth : Method} {c : Code} {G : Gx} {ad : Ad} {res : Int32 × Sg} (C : Cx p s m args meth c yX8_fails.cls cX8_fails 3 (Option.some FieldType.boolean) G)  : ∀ (σ : Sg) (v1 : Int32) (v2 : Int32) (H : Heap) (locs : List Loc) (ls : Array Slot), z_S 1 G ad σ (z_A 1 ad s.heap.size) s.heap H locs → lv_has ls 3 [(0, .ref (ad 8 0)), (1, .int v1), (2, .int v2)] → f_X8_fails  σ v1 v2 = some res → W p l e { frames := 0, cells := 0, slots := 0, locals := 0 } s m args below meth c H locs 0 0 (MQ below (va_Qi (S := Unit) (fun r1 _ => r1 = res.1) (fun _ t => z_W 1 G ad res.2 t.heap) (z_A 1 ad s.heap.size)) args s 0 0 (z_A 1 ad s.heap.size)) (F0 m 0 ls []) := by
  intro σ v1 v2 H locs ls S hl  hf
  unfold f_X8_fails at hf
  refine lv_iload_n C.1 C.2.1 dX8_fails_0 rfl (lv_at hl 1 rfl) ?_
  refine lv_if_eq (tgt := 9) C.1 C.2.1 dX8_fails_1 (by decide) (fun c_1 => ?_) (fun c_1 => ?_)
  · rw [if_pos c_1] at hf
    exact w_X8_fails_9 C _ v1 _ _ _ S (lv_sub hl [1] rfl) hf
  · rw [if_neg c_1] at hf
    refine lv_aload_n C.1 C.2.1 dX8_fails_4 rfl (lv_at hl 0 rfl) ?_
    refine lv_iload_n C.1 C.2.1 dX8_fails_5 rfl (lv_at hl 2 rfl) ?_
    obtain ⟨σ1, e_6, hf⟩ := stb hf
    refine z_putI C S 8 0 rfl (by decide) cf_8 8 (by decide) (pi_8_8 G ad 0) rfl rfl rfl tw_6_126 dX8_fails_6 (fun H locs S => ?_)
    rw [← e_6] at S
    exact w_X8_fails_9 C _ v1 _ _ _ S (lv_sub hl [1] rfl) hf
theorem kv_X8_fails : KV yX8_fails cX8_fails 3 (Option.some FieldType.boolean) 2 := ⟨tw_7_59, tw_7_58, tw_p_58, tw_1_10, by decide, by decide, by decide +kernel⟩
theorem m_X8_fails (l : Launch) (G : Gx) (ad : Ad) (σ : Sg) (v1 : Int32) (v2 : Int32) (r : Int32) (σ' : Sg)  (hf : f_X8_fails σ v1 v2 = some (r, σ')) (sz : Nat) : z_MI l yX8_fails cX8_fails 3 (Option.some FieldType.boolean) 0 0 1 G ad σ sz [.ref (ad 8 0), .int v1, .int v2] r σ' := by
  refine z_begin (by decide +kernel) (Nat.le_of_ble_eq_true rfl) [(0, .ref (ad 8 0)), (1, .int v1), (2, .int v2)] rfl (fun p e s m args below meth c ls C hz S hl => ?_)
  subst hz
  exact w_X8_fails_0 (res := (r, σ')) C σ v1 v2 _ _ _ S hl  hf

theorem dX8_inState_0 : decode cX8_inState 0 = .ok (.iconst 0, 1) := by decide +kernel
theorem dX8_inState_1 : decode cX8_inState 1 = .ok (.istore_n 2, 1) := by decide +kernel
theorem dX8_inState_2 : decode cX8_inState 2 = .ok (.iconst 0, 1) := by decide +kernel
theorem dX8_inState_3 : decode cX8_inState 3 = .ok (.istore_n 3, 1) := by decide +kernel
theorem dX8_inState_4 : decode cX8_inState 4 = .ok (.iload_n 3, 1) := by decide +kernel
theorem dX8_inState_5 : decode cX8_inState 5 = .ok (.aload_n 0, 1) := by decide +kernel
theorem dX8_inState_6 : decode cX8_inState 6 = .ok (.getfield 7, 3) := by decide +kernel
theorem dX8_inState_9 : decode cX8_inState 9 = .ok (.iconst 2, 1) := by decide +kernel
theorem dX8_inState_10 : decode cX8_inState 10 = .ok (.iaload, 1) := by decide +kernel
theorem dX8_inState_11 : decode cX8_inState 11 = .ok (.if_icmp .ge 30, 3) := by decide +kernel
theorem dX8_inState_14 : decode cX8_inState 14 = .ok (.iload_n 2, 1) := by decide +kernel
theorem dX8_inState_15 : decode cX8_inState 15 = .ok (.aload_n 0, 1) := by decide +kernel
theorem dX8_inState_16 : decode cX8_inState 16 = .ok (.getfield 7, 3) := by decide +kernel
theorem dX8_inState_19 : decode cX8_inState 19 = .ok (.bipush 127, 2) := by decide +kernel
theorem dX8_inState_21 : decode cX8_inState 21 = .ok (.iload_n 3, 1) := by decide +kernel
theorem dX8_inState_22 : decode cX8_inState 22 = .ok (.iadd, 1) := by decide +kernel
theorem dX8_inState_23 : decode cX8_inState 23 = .ok (.iaload, 1) := by decide +kernel
theorem dX8_inState_24 : decode cX8_inState 24 = .ok (.iload_n 1, 1) := by decide +kernel
theorem dX8_inState_25 : decode cX8_inState 25 = .ok (.if_icmp .ne 7, 3) := by decide +kernel
theorem dX8_inState_28 : decode cX8_inState 28 = .ok (.iconst 1, 1) := by decide +kernel
theorem dX8_inState_29 : decode cX8_inState 29 = .ok (.goto 4, 3) := by decide +kernel
theorem dX8_inState_32 : decode cX8_inState 32 = .ok (.iconst 0, 1) := by decide +kernel
theorem dX8_inState_33 : decode cX8_inState 33 = .ok (.iadd, 1) := by decide +kernel
theorem dX8_inState_34 : decode cX8_inState 34 = .ok (.istore_n 2, 1) := by decide +kernel
theorem dX8_inState_35 : decode cX8_inState 35 = .ok (.iinc 3 1, 3) := by decide +kernel
theorem dX8_inState_38 : decode cX8_inState 38 = .ok (.goto (-34), 3) := by decide +kernel
theorem dX8_inState_41 : decode cX8_inState 41 = .ok (.iload_n 2, 1) := by decide +kernel
theorem dX8_inState_42 : decode cX8_inState 42 = .ok (.ireturn, 1) := by decide +kernel
/-! BusLiftsModel.inState(I)I -/
noncomputable def f_X8_inState_41  (σ : Sg) (v2 : Int32) : Option (Int32 × Sg) := some (v2, σ)
noncomputable def f_X8_inState_33 (k4 : Sg → Int32 → Int32 → Int32 → Option (Int32 × Sg)) (σ : Sg) (v1 : Int32) (v3 : Int32) (v100 : Int32) (v101 : Int32) : Option (Int32 × Sg) := k4 σ v1 (v100 + v101) (v3 + 1)
noncomputable def f_X8_inState_4  : Nat → Sg → Int32 → Int32 → Int32 → Option (Int32 × Sg)
  | 0, _, _, _, _ => none
  | n + 1, σ, v1, v2, v3 => if (σ 30 0 2) ≤ v3 then (f_X8_inState_41 σ v2) else (if (127 + v3) < 0 ∨ 2111 ≤ ((127 + v3)).toNatClampNeg then none else (if (σ 30 0 ((127 + v3)).toNatClampNeg) = v1 then (f_X8_inState_33 (f_X8_inState_4 n) σ v1 v3 v2 1) else (f_X8_inState_33 (f_X8_inState_4 n) σ v1 v3 v2 0)))
theorem f_X8_inState_4_s  (n : Nat) (σ : Sg) (v1 : Int32) (v2 : Int32) (v3 : Int32) : f_X8_inState_4  (n + 1) σ v1 v2 v3 = (if (σ 30 0 2) ≤ v3 then (f_X8_inState_41 σ v2) else (if (127 + v3) < 0 ∨ 2111 ≤ ((127 + v3)).toNatClampNeg then none else (if (σ 30 0 ((127 + v3)).toNatClampNeg) = v1 then (f_X8_inState_33 (f_X8_inState_4 n) σ v1 v3 v2 1) else (f_X8_inState_33 (f_X8_inState_4 n) σ v1 v3 v2 0)))) := rfl
noncomputable def f_X8_inState  (σ : Sg) (v1 : Int32) : Option (Int32 × Sg) := f_X8_inState_4 FU σ v1 0 0
set_option maxHeartbeats 4000000 in
set_option maxRecDepth 100000 in
theorem w_X8_inState_41 {p : Program} {l : Launch} {e : Env} {s : State} {m : MethodId} {args : Array Value} {below : List Frame} {meth : Method} {c : Code} {G : Gx} {ad : Ad} {res : Int32 × Sg} (C : Cx p s m args meth c yX8_inState.cls cX8_inState 4 (Option.some FieldType.int) G)  : ∀ (σ : Sg) (v2 : Int32) (H : Heap) (locs : List Loc) (ls : Array Slot), z_S 1 G ad σ (z_A 1 ad s.heap.size) s.heap H locs → lv_has ls 4 [(2, .int v2)] → f_X8_inState_41  σ v2 = some res → W p l e { frames := 0, cells := 0, slots := 0, locals := 0 } s m args below meth c H locs 0 0 (MQ below (va_Qi (S := Unit) (fun r1 _ => r1 = res.1) (fun _ t => z_W 1 G ad res.2 t.heap) (z_A 1 ad s.heap.size)) args s 0 0 (z_A 1 ad s.heap.size)) (F0 m 41 ls []) := by
  intro σ v2 H locs ls S hl  hf
  unfold f_X8_inState_41 at hf
  refine lv_iload_n C.1 C.2.1 dX8_inState_41 rfl (lv_at hl 0 rfl) ?_
  exact z_iret C S hf dX8_inState_42
set_option maxHeartbeats 4000000 in
set_option maxRecDepth 100000 in
theorem w_X8_inState_33 {p : Program} {l : Launch} {e : Env} {s : State} {m : MethodId} {args : Array Value} {below : List Frame} {meth : Method} {c : Code} {G : Gx} {ad : Ad} {res : Int32 × Sg} (C : Cx p s m args meth c yX8_inState.cls cX8_inState 4 (Option.some FieldType.int) G) (k4 : Sg → Int32 → Int32 → Int32 → Option (Int32 × Sg)) (hk4 : ∀ (σ : Sg) (v1 : Int32) (v2 : Int32) (v3 : Int32) (H : Heap) (locs : List Loc) (ls : Array Slot), z_S 1 G ad σ (z_A 1 ad s.heap.size) s.heap H locs → lv_has ls 4 [(0, .ref (ad 8 0)), (1, .int v1), (2, .int v2), (3, .int v3)] → k4 σ v1 v2 v3 = some res → W p l e { frames := 0, cells := 0, slots := 0, locals := 0 } s m args below meth c H locs 0 0 (MQ below (va_Qi (S := Unit) (fun r1 _ => r1 = res.1) (fun _ t => z_W 1 G ad res.2 t.heap) (z_A 1 ad s.heap.size)) args s 0 0 (z_A 1 ad s.heap.size)) (F0 m 4 ls [])) : ∀ (σ : Sg) (v1 : Int32) (v3 : Int32) (v100 : Int32) (v101 : Int32) (H : Heap) (locs : List Loc) (ls : Array Slot), z_S 1 G ad σ (z_A 1 ad s.heap.size) s.heap H locs → lv_has ls 4 [(0, .ref (ad 8 0)), (1, .int v1), (3, .int v3)] → f_X8_inState_33 k4 σ v1 v3 v100 v101 = some res → W p l e { frames := 0, cells := 0, slots := 0, locals := 0 } s m args below meth c H locs 0 0 (MQ below (va_Qi (S := Unit) (fun r1 _ => r1 = res.1) (fun _ t => z_W 1 G ad res.2 t.heap) (z_A 1 ad s.heap.size)) args s 0 0 (z_A 1 ad s.heap.size)) (F0 m 33 ls [.int v101, .int v100]) := by
  intro σ v1 v3 v100 v101 H locs ls S hl  hf
  unfold f_X8_inState_33 at hf
  refine lv_iadd C.1 C.2.1 dX8_inState_33 ?_
  refine lv_istore_n (lv' := [(2, .int (v100 + v101)), (0, .ref (ad 8 0)), (1, .int v1), (3, .int v3)]) C.1 C.2.1 dX8_inState_34 rfl hl (by decide) rfl (fun ls hl => ?_)
  refine lv_iinc (v := (v3 + 1)) (lv' := [(3, .int (v3 + 1)), (2, .int (v100 + v101)), (0, .ref (ad 8 0)), (1, .int v1)]) C.1 C.2.1 dX8_inState_35 hl (k := 3) rfl rfl (by decide) rfl (fun ls hl => ?_)
  refine lv_goto (tgt := 4) C.1 C.2.1 dX8_inState_38 (by decide) ?_
  exact hk4 _ v1 (v100 + v101) (v3 + 1) _ _ _ S (lv_sub hl [2, 3, 1, 0] rfl)  hf
set_option maxHeartbeats 4000000 in
set_option maxRecDepth 100000 in
theorem w_X8_inState_4 {p : Program} {l : Launch} {e : Env} {s : State} {m : MethodId} {args : Array Value} {below : List Frame} {meth : Method} {c : Code} {G : Gx} {ad : Ad} {res : Int32 × Sg} (C : Cx p s m args meth c yX8_inState.cls cX8_inState 4 (Option.some FieldType.int) G)  : ∀ n : Nat, ∀ (σ : Sg) (v1 : Int32) (v2 : Int32) (v3 : Int32) (H : Heap) (locs : List Loc) (ls : Array Slot), z_S 1 G ad σ (z_A 1 ad s.heap.size) s.heap H locs → lv_has ls 4 [(0, .ref (ad 8 0)), (1, .int v1), (2, .int v2), (3, .int v3)] → f_X8_inState_4  n σ v1 v2 v3 = some res → W p l e { frames := 0, cells := 0, slots := 0, locals := 0 } s m args below meth c H locs 0 0 (MQ below (va_Qi (S := Unit) (fun r1 _ => r1 = res.1) (fun _ t => z_W 1 G ad res.2 t.heap) (z_A 1 ad s.heap.size)) args s 0 0 (z_A 1 ad s.heap.size)) (F0 m 4 ls []) := by
  intro n
  induction n with
  | zero => intro σ v1 v2 v3 H locs ls S hl  hf; cases hf
  | succ n ih =>
    intro σ v1 v2 v3 H locs ls S hl  hf
    rw [f_X8_inState_4_s] at hf
    refine lv_iload_n C.1 C.2.1 dX8_inState_4 rfl (lv_at hl 3 rfl) ?_
    refine lv_aload_n C.1 C.2.1 dX8_inState_5 rfl (lv_at hl 0 rfl) ?_
    refine z_getR C S 8 0 rfl (by decide) cf_8 0 (by decide) _ (gr_8_0 G ad 0) tw_6_118 dX8_inState_6 ?_
    refine lv_iconst (v := 2) C.1 C.2.1 dX8_inState_9 (by decide) ?_
    refine z_ialdL C S 30 0 rfl (by decide) 2111 (fun _ => rfl) 2 (by decide) (by decide) (by decide) dX8_inState_10 ?_
    refine lv_icmp_ge (tgt := 41) C.1 C.2.1 dX8_inState_11 (by decide) (fun c_11 => ?_) (fun c_11 => ?_)
    · rw [if_pos c_11] at hf
      exact w_X8_inState_41 C _ v2 _ _ _ S (lv_sub hl [2] rfl) hf
    · rw [if_neg c_11] at hf
      refine lv_iload_n C.1 C.2.1 dX8_inState_14 rfl (lv_at hl 2 rfl) ?_
      refine lv_aload_n C.1 C.2.1 dX8_inState_15 rfl (lv_at hl 0 rfl) ?_
      refine z_getR C S 8 0 rfl (by decide) cf_8 0 (by decide) _ (gr_8_0 G ad 0) tw_6_118 dX8_inState_16 ?_
      refine lv_bipush (v := 127) C.1 C.2.1 dX8_inState_19 (by decide) ?_
      refine lv_iload_n C.1 C.2.1 dX8_inState_21 rfl (lv_at hl 3 rfl) ?_
      refine lv_iadd C.1 C.2.1 dX8_inState_22 ?_
      obtain ⟨g_23, hf⟩ := gd hf
      refine z_iald C S 30 0 rfl (by decide) 2111 (fun _ => rfl) g_23 dX8_inState_23 ?_
      refine lv_iload_n C.1 C.2.1 dX8_inState_24 rfl (lv_at hl 1 rfl) ?_
      refine lv_icmp_ne (tgt := 32) C.1 C.2.1 dX8_inState_25 (by decide) (fun c_25 => ?_) (fun c_25 => ?_)
      · rw [if_neg c_25] at hf
        refine lv_iconst (v := 0) C.1 C.2.1 dX8_inState_32 (by decide) ?_
        exact w_X8_inState_33 C (f_X8_inState_4 n) ih _ v1 v3 v2 0 _ _ _ S (lv_sub hl [0, 1, 3] rfl) hf
      · rw [if_pos c_25] at hf
        refine lv_iconst (v := 1) C.1 C.2.1 dX8_inState_28 (by decide) ?_
        refine lv_goto (tgt := 33) C.1 C.2.1 dX8_inState_29 (by decide) ?_
        exact w_X8_inState_33 C (f_X8_inState_4 n) ih _ v1 v3 v2 1 _ _ _ S (lv_sub hl [0, 1, 3] rfl) hf
set_option maxHeartbeats 4000000 in
set_option maxRecDepth 100000 in
theorem w_X8_inState_0 {p : Program} {l : Launch} {e : Env} {s : State} {m : MethodId} {args : Array Value} {below : List Frame} {meth : Method} {c : Code} {G : Gx} {ad : Ad} {res : Int32 × Sg} (C : Cx p s m args meth c yX8_inState.cls cX8_inState 4 (Option.some FieldType.int) G)  : ∀ (σ : Sg) (v1 : Int32) (H : Heap) (locs : List Loc) (ls : Array Slot), z_S 1 G ad σ (z_A 1 ad s.heap.size) s.heap H locs → lv_has ls 4 [(0, .ref (ad 8 0)), (1, .int v1)] → f_X8_inState  σ v1 = some res → W p l e { frames := 0, cells := 0, slots := 0, locals := 0 } s m args below meth c H locs 0 0 (MQ below (va_Qi (S := Unit) (fun r1 _ => r1 = res.1) (fun _ t => z_W 1 G ad res.2 t.heap) (z_A 1 ad s.heap.size)) args s 0 0 (z_A 1 ad s.heap.size)) (F0 m 0 ls []) := by
  intro σ v1 H locs ls S hl  hf
  unfold f_X8_inState at hf
  refine lv_iconst (v := 0) C.1 C.2.1 dX8_inState_0 (by decide) ?_
  refine lv_istore_n (lv' := [(2, .int 0), (0, .ref (ad 8 0)), (1, .int v1)]) C.1 C.2.1 dX8_inState_1 rfl hl (by decide) rfl (fun ls hl => ?_)
  refine lv_iconst (v := 0) C.1 C.2.1 dX8_inState_2 (by decide) ?_
  refine lv_istore_n (lv' := [(3, .int 0), (2, .int 0), (0, .ref (ad 8 0)), (1, .int v1)]) C.1 C.2.1 dX8_inState_3 rfl hl (by decide) rfl (fun ls hl => ?_)
  exact w_X8_inState_4 C FU _ v1 0 0 _ _ _ S (lv_sub hl [2, 3, 1, 0] rfl) hf
theorem kv_X8_inState : KV yX8_inState cX8_inState 4 (Option.some FieldType.int) 1 := ⟨tw_7_63, tw_7_62, tw_p_59, tw_1_10, by decide, by decide, by decide +kernel⟩
theorem m_X8_inState (l : Launch) (G : Gx) (ad : Ad) (σ : Sg) (v1 : Int32) (r : Int32) (σ' : Sg)  (hf : f_X8_inState σ v1 = some (r, σ')) (sz : Nat) : z_MI l yX8_inState cX8_inState 4 (Option.some FieldType.int) 0 0 1 G ad σ sz [.ref (ad 8 0), .int v1] r σ' := by
  refine z_begin (by decide +kernel) (Nat.le_of_ble_eq_true rfl) [(0, .ref (ad 8 0)), (1, .int v1)] rfl (fun p e s m args below meth c ls C hz S hl => ?_)
  subst hz
  exact w_X8_inState_0 (res := (r, σ')) C σ v1 _ _ _ S hl  hf

theorem dX8_count_0 : decode cX8_count 0 = .ok (.aload_n 0, 1) := by decide +kernel
theorem dX8_count_1 : decode cX8_count 1 = .ok (.iconst 0, 1) := by decide +kernel
theorem dX8_count_2 : decode cX8_count 2 = .ok (.putfield 48, 3) := by decide +kernel
theorem dX8_count_5 : decode cX8_count 5 = .ok (.aload_n 0, 1) := by decide +kernel
theorem dX8_count_6 : decode cX8_count 6 = .ok (.iload_n 1, 1) := by decide +kernel
theorem dX8_count_7 : decode cX8_count 7 = .ok (.iconst 0, 1) := by decide +kernel
theorem dX8_count_8 : decode cX8_count 8 = .ok (.bipush 13, 2) := by decide +kernel
theorem dX8_count_10 : decode cX8_count 10 = .ok (.invokestatic 165, 3) := by decide +kernel
theorem dX8_count_13 : decode cX8_count 13 = .ok (.ifCond .ne 7, 3) := by decide +kernel
theorem dX8_count_16 : decode cX8_count 16 = .ok (.iconst 1, 1) := by decide +kernel
theorem dX8_count_17 : decode cX8_count 17 = .ok (.goto 4, 3) := by decide +kernel
theorem dX8_count_20 : decode cX8_count 20 = .ok (.iconst 0, 1) := by decide +kernel
theorem dX8_count_21 : decode cX8_count 21 = .ok (.iconst 1, 1) := by decide +kernel
theorem dX8_count_22 : decode cX8_count 22 = .ok (.invokevirtual 267, 3) := by decide +kernel
theorem dX8_count_25 : decode cX8_count 25 = .ok (.ifCond .eq 5, 3) := by decide +kernel
theorem dX8_count_28 : decode cX8_count 28 = .ok (.iconst 0, 1) := by decide +kernel
theorem dX8_count_29 : decode cX8_count 29 = .ok (.ireturn, 1) := by decide +kernel
theorem dX8_count_30 : decode cX8_count 30 = .ok (.iload_n 1, 1) := by decide +kernel
theorem dX8_count_31 : decode cX8_count 31 = .ok (.tableswitch 54 10 13 #[29, 35, 41, 49], 29) := by decide +kernel
theorem dX8_count_60 : decode cX8_count 60 = .ok (.aload_n 0, 1) := by decide +kernel
theorem dX8_count_61 : decode cX8_count 61 = .ok (.iconst 1, 1) := by decide +kernel
theorem dX8_count_62 : decode cX8_count 62 = .ok (.invokevirtual 153, 3) := by decide +kernel
theorem dX8_count_65 : decode cX8_count 65 = .ok (.ireturn, 1) := by decide +kernel
theorem dX8_count_66 : decode cX8_count 66 = .ok (.aload_n 0, 1) := by decide +kernel
theorem dX8_count_67 : decode cX8_count 67 = .ok (.iconst 3, 1) := by decide +kernel
theorem dX8_count_68 : decode cX8_count 68 = .ok (.invokevirtual 153, 3) := by decide +kernel
theorem dX8_count_71 : decode cX8_count 71 = .ok (.ireturn, 1) := by decide +kernel
theorem dX8_count_72 : decode cX8_count 72 = .ok (.aload_n 0, 1) := by decide +kernel
theorem dX8_count_73 : decode cX8_count 73 = .ok (.getfield 7, 3) := by decide +kernel
theorem dX8_count_76 : decode cX8_count 76 = .ok (.bipush 10, 2) := by decide +kernel
theorem dX8_count_78 : decode cX8_count 78 = .ok (.iaload, 1) := by decide +kernel
theorem dX8_count_79 : decode cX8_count 79 = .ok (.ireturn, 1) := by decide +kernel
theorem dX8_count_80 : decode cX8_count 80 = .ok (.aload_n 0, 1) := by decide +kernel
theorem dX8_count_81 : decode cX8_count 81 = .ok (.getfield 54, 3) := by decide +kernel
theorem dX8_count_84 : decode cX8_count 84 = .ok (.ireturn, 1) := by decide +kernel
theorem dX8_count_85 : decode cX8_count 85 = .ok (.aload_n 0, 1) := by decide +kernel
theorem dX8_count_86 : decode cX8_count 86 = .ok (.getfield 7, 3) := by decide +kernel
theorem dX8_count_89 : decode cX8_count 89 = .ok (.iload_n 1, 1) := by decide +kernel
theorem dX8_count_90 : decode cX8_count 90 = .ok (.iaload, 1) := by decide +kernel
theorem dX8_count_91 : decode cX8_count 91 = .ok (.ireturn, 1) := by decide +kernel
/-! BusLiftsModel.count(I)I -/
noncomputable def f_X8_count_21  (σ : Sg) (v1 : Int32) (v101 : Int32) : Option (Int32 × Sg) := bi (f_X8_fails σ v101 1) fun r2 σ1 => (if r2 = 0 then (if v1 = 10 then (bi (f_X8_inState σ1 1) fun r4 σ3 => (some (r4, σ3))) else (if v1 = 11 then (bi (f_X8_inState σ1 3) fun r6 σ5 => (some (r6, σ5))) else (if v1 = 12 then (some ((σ1 30 0 10), σ1)) else (if v1 = 13 then (some ((σ1 8 0 6), σ1)) else (if v1 < 0 ∨ 2111 ≤ (v1).toNatClampNeg then none else (some ((σ1 30 0 (v1).toNatClampNeg), σ1))))))) else (some (0, σ1)))
noncomputable def f_X8_count  (σ : Sg) (v1 : Int32) : Option (Int32 × Sg) := st (sup σ 8 0 8 0) fun σ1 => (bi (f_X8_inRange σ1 v1 0 13) fun r3 σ2 => (if r3 = 0 then (f_X8_count_21 σ2 v1 1) else (f_X8_count_21 σ2 v1 0)))
set_option maxHeartbeats 4000000 in
set_option maxRecDepth 100000 in
theorem w_X8_count_21 {p : Program} {l : Launch} {e : Env} {s : State} {m : MethodId} {args : Array Value} {below : List Frame} {meth : Method} {c : Code} {G : Gx} {ad : Ad} {res : Int32 × Sg} (C : Cx p s m args meth c yX8_count.cls cX8_count 2 (Option.some FieldType.int) G)  : ∀ (σ : Sg) (v1 : Int32) (v101 : Int32) (H : Heap) (locs : List Loc) (ls : Array Slot), z_S 1 G ad σ (z_A 1 ad s.heap.size) s.heap H locs → lv_has ls 2 [(0, .ref (ad 8 0)), (1, .int v1)] → f_X8_count_21  σ v1 v101 = some res → W p l e { frames := 1, cells := 0, slots := 0, locals := 23 } s m args below meth c H locs 0 0 (MQ below (va_Qi (S := Unit) (fun r1 _ => r1 = res.1) (fun _ t => z_W 1 G ad res.2 t.heap) (z_A 1 ad s.heap.size)) args s 0 0 (z_A 1 ad s.heap.size)) (F0 m 21 ls [.int v101, .ref (ad 8 0)]) := by
  intro σ v1 v101 H locs ls S hl  hf
  unfold f_X8_count_21 at hf
  refine lv_iconst (v := 1) C.1 C.2.1 dX8_count_21 (by decide) ?_
  obtain ⟨r2, σ1, q_22, hf⟩ := bib hf
  refine z_callI C S 8 0 rfl (by decide) cf_8 ⟨_, rfl⟩ [.int v101, .int 1] (m_X8_fails l G ad σ v101 1 r2 σ1 q_22 _) kv_X8_fails tw_7_56 ⟨Nat.le_of_ble_eq_true rfl, Nat.le_of_ble_eq_true rfl⟩ rfl rfl (Nat.le_of_ble_eq_true rfl) hl.1 ⟨Nat.le_of_ble_eq_true rfl, Nat.le_of_ble_eq_true rfl⟩ dX8_count_22 (fun H locs S => ?_)
  refine lv_if_eq (tgt := 30) C.1 C.2.1 dX8_count_25 (by decide) (fun c_25 => ?_) (fun c_25 => ?_)
  · rw [if_pos c_25] at hf
    refine lv_iload_n C.1 C.2.1 dX8_count_30 rfl (lv_at hl 1 rfl) ?_
    by_cases q_31_0 : v1 = 10
    · rw [if_pos q_31_0] at hf
      refine lv_tableIn (off := 29) (tgt := 60) C.1 C.2.1 dX8_count_31 (by rw [q_31_0]; decide) (by rw [q_31_0]; decide) (by rw [q_31_0]; decide) (by decide) ?_
      refine lv_aload_n C.1 C.2.1 dX8_count_60 rfl (lv_at hl 0 rfl) ?_
      refine lv_iconst (v := 1) C.1 C.2.1 dX8_count_61 (by decide) ?_
      obtain ⟨r4, σ3, q_62, hf⟩ := bib hf
      refine z_callI C S 8 0 rfl (by decide) cf_8 ⟨_, rfl⟩ [.int 1] (m_X8_inState l G ad σ1 1 r4 σ3 q_62 _) kv_X8_inState tw_7_60 ⟨Nat.le_of_ble_eq_true rfl, Nat.le_of_ble_eq_true rfl⟩ rfl rfl (Nat.le_of_ble_eq_true rfl) hl.1 ⟨Nat.le_of_ble_eq_true rfl, Nat.le_of_ble_eq_true rfl⟩ dX8_count_62 (fun H locs S => ?_)
      exact z_iret C S hf dX8_count_65
    · rw [if_neg q_31_0] at hf
      by_cases q_31_1 : v1 = 11
      · rw [if_pos q_31_1] at hf
        refine lv_tableIn (off := 35) (tgt := 66) C.1 C.2.1 dX8_count_31 (by rw [q_31_1]; decide) (by rw [q_31_1]; decide) (by rw [q_31_1]; decide) (by decide) ?_
        refine lv_aload_n C.1 C.2.1 dX8_count_66 rfl (lv_at hl 0 rfl) ?_
        refine lv_iconst (v := 3) C.1 C.2.1 dX8_count_67 (by decide) ?_
        obtain ⟨r6, σ5, q_68, hf⟩ := bib hf
        refine z_callI C S 8 0 rfl (by decide) cf_8 ⟨_, rfl⟩ [.int 3] (m_X8_inState l G ad σ1 3 r6 σ5 q_68 _) kv_X8_inState tw_7_60 ⟨Nat.le_of_ble_eq_true rfl, Nat.le_of_ble_eq_true rfl⟩ rfl rfl (Nat.le_of_ble_eq_true rfl) hl.1 ⟨Nat.le_of_ble_eq_true rfl, Nat.le_of_ble_eq_true rfl⟩ dX8_count_68 (fun H locs S => ?_)
        exact z_iret C S hf dX8_count_71
      · rw [if_neg q_31_1] at hf
        by_cases q_31_2 : v1 = 12
        · rw [if_pos q_31_2] at hf
          refine lv_tableIn (off := 41) (tgt := 72) C.1 C.2.1 dX8_count_31 (by rw [q_31_2]; decide) (by rw [q_31_2]; decide) (by rw [q_31_2]; decide) (by decide) ?_
          refine lv_aload_n C.1 C.2.1 dX8_count_72 rfl (lv_at hl 0 rfl) ?_
          refine z_getR C S 8 0 rfl (by decide) cf_8 0 (by decide) _ (gr_8_0 G ad 0) tw_6_118 dX8_count_73 ?_
          refine lv_bipush (v := 10) C.1 C.2.1 dX8_count_76 (by decide) ?_
          refine z_ialdL C S 30 0 rfl (by decide) 2111 (fun _ => rfl) 10 (by decide) (by decide) (by decide) dX8_count_78 ?_
          exact z_iret C S hf dX8_count_79
        · rw [if_neg q_31_2] at hf
          by_cases q_31_3 : v1 = 13
          · rw [if_pos q_31_3] at hf
            refine lv_tableIn (off := 49) (tgt := 80) C.1 C.2.1 dX8_count_31 (by rw [q_31_3]; decide) (by rw [q_31_3]; decide) (by rw [q_31_3]; decide) (by decide) ?_
            refine lv_aload_n C.1 C.2.1 dX8_count_80 rfl (lv_at hl 0 rfl) ?_
            refine z_getI C S 8 0 rfl (by decide) cf_8 6 (by decide) (gi_8_6 G ad 0) tw_6_124 dX8_count_81 ?_
            exact z_iret C S hf dX8_count_84
          · rw [if_neg q_31_3] at hf
            refine lv_tableOut (tgt := 85) C.1 C.2.1 dX8_count_31 (tsw10_13 q_31_0 q_31_1 q_31_2 q_31_3) (by decide) ?_
            refine lv_aload_n C.1 C.2.1 dX8_count_85 rfl (lv_at hl 0 rfl) ?_
            refine z_getR C S 8 0 rfl (by decide) cf_8 0 (by decide) _ (gr_8_0 G ad 0) tw_6_118 dX8_count_86 ?_
            refine lv_iload_n C.1 C.2.1 dX8_count_89 rfl (lv_at hl 1 rfl) ?_
            obtain ⟨g_90, hf⟩ := gd hf
            refine z_iald C S 30 0 rfl (by decide) 2111 (fun _ => rfl) g_90 dX8_count_90 ?_
            exact z_iret C S hf dX8_count_91
  · rw [if_neg c_25] at hf
    refine lv_iconst (v := 0) C.1 C.2.1 dX8_count_28 (by decide) ?_
    exact z_iret C S hf dX8_count_29
set_option maxHeartbeats 4000000 in
set_option maxRecDepth 100000 in
theorem w_X8_count_0 {p : Program} {l : Launch} {e : Env} {s : State} {m : MethodId} {args : Array Value} {below : List Frame} {meth : Method} {c : Code} {G : Gx} {ad : Ad} {res : Int32 × Sg} (C : Cx p s m args meth c yX8_count.cls cX8_count 2 (Option.some FieldType.int) G)  : ∀ (σ : Sg) (v1 : Int32) (H : Heap) (locs : List Loc) (ls : Array Slot), z_S 1 G ad σ (z_A 1 ad s.heap.size) s.heap H locs → lv_has ls 2 [(0, .ref (ad 8 0)), (1, .int v1)] → f_X8_count  σ v1 = some res → W p l e { frames := 1, cells := 0, slots := 0, locals := 23 } s m args below meth c H locs 0 0 (MQ below (va_Qi (S := Unit) (fun r1 _ => r1 = res.1) (fun _ t => z_W 1 G ad res.2 t.heap) (z_A 1 ad s.heap.size)) args s 0 0 (z_A 1 ad s.heap.size)) (F0 m 0 ls []) := by
  intro σ v1 H locs ls S hl  hf
  unfold f_X8_count at hf
  refine lv_aload_n C.1 C.2.1 dX8_count_0 rfl (lv_at hl 0 rfl) ?_
  refine lv_iconst (v := 0) C.1 C.2.1 dX8_count_1 (by decide) ?_
  obtain ⟨σ1, e_2, hf⟩ := stb hf
  refine z_putI C S 8 0 rfl (by decide) cf_8 8 (by decide) (pi_8_8 G ad 0) rfl rfl rfl tw_6_126 dX8_count_2 (fun H locs S => ?_)
  rw [← e_2] at S
  refine lv_aload_n C.1 C.2.1 dX8_count_5 rfl (lv_at hl 0 rfl) ?_
  refine lv_iload_n C.1 C.2.1 dX8_count_6 rfl (lv_at hl 1 rfl) ?_
  refine lv_iconst (v := 0) C.1 C.2.1 dX8_count_7 (by decide) ?_
  refine lv_bipush (v := 13) C.1 C.2.1 dX8_count_8 (by decide) ?_
  obtain ⟨r3, σ2, q_10, hf⟩ := bib hf
  refine z_callSI C S [.int v1, .int 0, .int 13] (m_X8_inRange l G ad σ1 v1 0 13 r3 σ2 q_10 _) kv_X8_inRange tw_6_204 ⟨Nat.le_of_ble_eq_true rfl, Nat.le_of_ble_eq_true rfl⟩ rfl rfl (Nat.le_of_ble_eq_true rfl) hl.1 ⟨Nat.le_of_ble_eq_true rfl, Nat.le_of_ble_eq_true rfl⟩ dX8_count_10 (fun H locs S => ?_)
  refine lv_if_ne (tgt := 20) C.1 C.2.1 dX8_count_13 (by decide) (fun c_13 => ?_) (fun c_13 => ?_)
  · rw [if_neg c_13] at hf
    refine lv_iconst (v := 0) C.1 C.2.1 dX8_count_20 (by decide) ?_
    exact w_X8_count_21 C _ v1 0 _ _ _ S (lv_sub hl [0, 1] rfl) hf
  · rw [if_pos c_13] at hf
    refine lv_iconst (v := 1) C.1 C.2.1 dX8_count_16 (by decide) ?_
    refine lv_goto (tgt := 21) C.1 C.2.1 dX8_count_17 (by decide) ?_
    exact w_X8_count_21 C _ v1 1 _ _ _ S (lv_sub hl [0, 1] rfl) hf
theorem kv_X8_count : KV yX8_count cX8_count 2 (Option.some FieldType.int) 1 := ⟨tw_7_55, tw_7_53, tw_7_54, tw_1_10, by decide, by decide, by decide +kernel⟩
theorem m_X8_count (l : Launch) (G : Gx) (ad : Ad) (σ : Sg) (v1 : Int32) (r : Int32) (σ' : Sg)  (hf : f_X8_count σ v1 = some (r, σ')) (sz : Nat) : z_MI l yX8_count cX8_count 2 (Option.some FieldType.int) 1 23 1 G ad σ sz [.ref (ad 8 0), .int v1] r σ' := by
  refine z_begin (by decide +kernel) (Nat.le_of_ble_eq_true rfl) [(0, .ref (ad 8 0)), (1, .int v1)] rfl (fun p e s m args below meth c ls C hz S hl => ?_)
  subst hz
  exact w_X8_count_0 (res := (r, σ')) C σ v1 _ _ _ S hl  hf

theorem dX8_noCar_0 : decode cX8_noCar 0 = .ok (.aload_n 0, 1) := by decide +kernel
theorem dX8_noCar_1 : decode cX8_noCar 1 = .ok (.iconst 0, 1) := by decide +kernel
theorem dX8_noCar_2 : decode cX8_noCar 2 = .ok (.putfield 48, 3) := by decide +kernel
theorem dX8_noCar_5 : decode cX8_noCar 5 = .ok (.aload_n 0, 1) := by decide +kernel
theorem dX8_noCar_6 : decode cX8_noCar 6 = .ok (.iload_n 1, 1) := by decide +kernel
theorem dX8_noCar_7 : decode cX8_noCar 7 = .ok (.iconst 0, 1) := by decide +kernel
theorem dX8_noCar_8 : decode cX8_noCar 8 = .ok (.aload_n 0, 1) := by decide +kernel
theorem dX8_noCar_9 : decode cX8_noCar 9 = .ok (.getfield 7, 3) := by decide +kernel
theorem dX8_noCar_12 : decode cX8_noCar 12 = .ok (.iconst 1, 1) := by decide +kernel
theorem dX8_noCar_13 : decode cX8_noCar 13 = .ok (.iaload, 1) := by decide +kernel
theorem dX8_noCar_14 : decode cX8_noCar 14 = .ok (.iconst 1, 1) := by decide +kernel
theorem dX8_noCar_15 : decode cX8_noCar 15 = .ok (.isub, 1) := by decide +kernel
theorem dX8_noCar_16 : decode cX8_noCar 16 = .ok (.invokestatic 165, 3) := by decide +kernel
theorem dX8_noCar_19 : decode cX8_noCar 19 = .ok (.ifCond .ne 7, 3) := by decide +kernel
theorem dX8_noCar_22 : decode cX8_noCar 22 = .ok (.iconst 1, 1) := by decide +kernel
theorem dX8_noCar_23 : decode cX8_noCar 23 = .ok (.goto 4, 3) := by decide +kernel
theorem dX8_noCar_26 : decode cX8_noCar 26 = .ok (.iconst 0, 1) := by decide +kernel
theorem dX8_noCar_27 : decode cX8_noCar 27 = .ok (.iconst 1, 1) := by decide +kernel
theorem dX8_noCar_28 : decode cX8_noCar 28 = .ok (.invokevirtual 267, 3) := by decide +kernel
theorem dX8_noCar_31 : decode cX8_noCar 31 = .ok (.ireturn, 1) := by decide +kernel
/-! BusLiftsModel.noCar(I)Z -/
noncomputable def f_X8_noCar_27  (σ : Sg) (v101 : Int32) : Option (Int32 × Sg) := bi (f_X8_fails σ v101 1) fun r2 σ1 => (if ¬ (r2 = 0 ∨ r2 = 1) then none else (some (r2, σ1)))
noncomputable def f_X8_noCar  (σ : Sg) (v1 : Int32) : Option (Int32 × Sg) := st (sup σ 8 0 8 0) fun σ1 => (bi (f_X8_inRange σ1 v1 0 ((σ1 30 0 1) - 1)) fun r3 σ2 => (if r3 = 0 then (f_X8_noCar_27 σ2 1) else (f_X8_noCar_27 σ2 0)))
set_option maxHeartbeats 4000000 in
set_option maxRecDepth 100000 in
theorem w_X8_noCar_27 {p : Program} {l : Launch} {e : Env} {s : State} {m : MethodId} {args : Array Value} {below : List Frame} {meth : Method} {c : Code} {G : Gx} {ad : Ad} {res : Int32 × Sg} (C : Cx p s m args meth c yX8_noCar.cls cX8_noCar 2 (Option.some FieldType.boolean) G)  : ∀ (σ : Sg) (v101 : Int32) (H : Heap) (locs : List Loc) (ls : Array Slot), z_S 1 G ad σ (z_A 1 ad s.heap.size) s.heap H locs → lv_has ls 2 [] → f_X8_noCar_27  σ v101 = some res → W p l e { frames := 1, cells := 0, slots := 0, locals := 22 } s m args below meth c H locs 0 0 (MQ below (va_Qi (S := Unit) (fun r1 _ => r1 = res.1) (fun _ t => z_W 1 G ad res.2 t.heap) (z_A 1 ad s.heap.size)) args s 0 0 (z_A 1 ad s.heap.size)) (F0 m 27 ls [.int v101, .ref (ad 8 0)]) := by
  intro σ v101 H locs ls S hl  hf
  unfold f_X8_noCar_27 at hf
  refine lv_iconst (v := 1) C.1 C.2.1 dX8_noCar_27 (by decide) ?_
  obtain ⟨r2, σ1, q_28, hf⟩ := bib hf
  refine z_callI C S 8 0 rfl (by decide) cf_8 ⟨_, rfl⟩ [.int v101, .int 1] (m_X8_fails l G ad σ v101 1 r2 σ1 q_28 _) kv_X8_fails tw_7_56 ⟨Nat.le_of_ble_eq_true rfl, Nat.le_of_ble_eq_true rfl⟩ rfl rfl (Nat.le_of_ble_eq_true rfl) hl.1 ⟨Nat.le_of_ble_eq_true rfl, Nat.le_of_ble_eq_true rfl⟩ dX8_noCar_28 (fun H locs S => ?_)
  obtain ⟨g_31, hf⟩ := gd hf
  exact z_zret C S (nbz g_31).1 hf dX8_noCar_31
set_option maxHeartbeats 4000000 in
set_option maxRecDepth 100000 in
theorem w_X8_noCar_0 {p : Program} {l : Launch} {e : Env} {s : State} {m : MethodId} {args : Array Value} {below : List Frame} {meth : Method} {c : Code} {G : Gx} {ad : Ad} {res : Int32 × Sg} (C : Cx p s m args meth c yX8_noCar.cls cX8_noCar 2 (Option.some FieldType.boolean) G)  : ∀ (σ : Sg) (v1 : Int32) (H : Heap) (locs : List Loc) (ls : Array Slot), z_S 1 G ad σ (z_A 1 ad s.heap.size) s.heap H locs → lv_has ls 2 [(0, .ref (ad 8 0)), (1, .int v1)] → f_X8_noCar  σ v1 = some res → W p l e { frames := 1, cells := 0, slots := 0, locals := 22 } s m args below meth c H locs 0 0 (MQ below (va_Qi (S := Unit) (fun r1 _ => r1 = res.1) (fun _ t => z_W 1 G ad res.2 t.heap) (z_A 1 ad s.heap.size)) args s 0 0 (z_A 1 ad s.heap.size)) (F0 m 0 ls []) := by
  intro σ v1 H locs ls S hl  hf
  unfold f_X8_noCar at hf
  refine lv_aload_n C.1 C.2.1 dX8_noCar_0 rfl (lv_at hl 0 rfl) ?_
  refine lv_iconst (v := 0) C.1 C.2.1 dX8_noCar_1 (by decide) ?_
  obtain ⟨σ1, e_2, hf⟩ := stb hf
  refine z_putI C S 8 0 rfl (by decide) cf_8 8 (by decide) (pi_8_8 G ad 0) rfl rfl rfl tw_6_126 dX8_noCar_2 (fun H locs S => ?_)
  rw [← e_2] at S
  refine lv_aload_n C.1 C.2.1 dX8_noCar_5 rfl (lv_at hl 0 rfl) ?_
  refine lv_iload_n C.1 C.2.1 dX8_noCar_6 rfl (lv_at hl 1 rfl) ?_
  refine lv_iconst (v := 0) C.1 C.2.1 dX8_noCar_7 (by decide) ?_
  refine lv_aload_n C.1 C.2.1 dX8_noCar_8 rfl (lv_at hl 0 rfl) ?_
  refine z_getR C S 8 0 rfl (by decide) cf_8 0 (by decide) _ (gr_8_0 G ad 0) tw_6_118 dX8_noCar_9 ?_
  refine lv_iconst (v := 1) C.1 C.2.1 dX8_noCar_12 (by decide) ?_
  refine z_ialdL C S 30 0 rfl (by decide) 2111 (fun _ => rfl) 1 (by decide) (by decide) (by decide) dX8_noCar_13 ?_
  refine lv_iconst (v := 1) C.1 C.2.1 dX8_noCar_14 (by decide) ?_
  refine lv_isub C.1 C.2.1 dX8_noCar_15 ?_
  obtain ⟨r3, σ2, q_16, hf⟩ := bib hf
  refine z_callSI C S [.int v1, .int 0, .int ((σ1 30 0 1) - 1)] (m_X8_inRange l G ad σ1 v1 0 ((σ1 30 0 1) - 1) r3 σ2 q_16 _) kv_X8_inRange tw_6_204 ⟨Nat.le_of_ble_eq_true rfl, Nat.le_of_ble_eq_true rfl⟩ rfl rfl (Nat.le_of_ble_eq_true rfl) hl.1 ⟨Nat.le_of_ble_eq_true rfl, Nat.le_of_ble_eq_true rfl⟩ dX8_noCar_16 (fun H locs S => ?_)
  refine lv_if_ne (tgt := 26) C.1 C.2.1 dX8_noCar_19 (by decide) (fun c_19 => ?_) (fun c_19 => ?_)
  · rw [if_neg c_19] at hf
    refine lv_iconst (v := 0) C.1 C.2.1 dX8_noCar_26 (by decide) ?_
    exact w_X8_noCar_27 C _ 0 _ _ _ S (lv_sub hl [] rfl) hf
  · rw [if_pos c_19] at hf
    refine lv_iconst (v := 1) C.1 C.2.1 dX8_noCar_22 (by decide) ?_
    refine lv_goto (tgt := 27) C.1 C.2.1 dX8_noCar_23 (by decide) ?_
    exact w_X8_noCar_27 C _ 1 _ _ _ S (lv_sub hl [] rfl) hf
theorem kv_X8_noCar : KV yX8_noCar cX8_noCar 2 (Option.some FieldType.boolean) 1 := ⟨tw_7_71, tw_7_70, tw_p_60, tw_1_10, by decide, by decide, by decide +kernel⟩
theorem m_X8_noCar (l : Launch) (G : Gx) (ad : Ad) (σ : Sg) (v1 : Int32) (r : Int32) (σ' : Sg)  (hf : f_X8_noCar σ v1 = some (r, σ')) (sz : Nat) : z_MI l yX8_noCar cX8_noCar 2 (Option.some FieldType.boolean) 1 22 1 G ad σ sz [.ref (ad 8 0), .int v1] r σ' := by
  refine z_begin (by decide +kernel) (Nat.le_of_ble_eq_true rfl) [(0, .ref (ad 8 0)), (1, .int v1)] rfl (fun p e s m args below meth c ls C hz S hl => ?_)
  subst hz
  exact w_X8_noCar_0 (res := (r, σ')) C σ v1 _ _ _ S hl  hf

theorem dX8_of_0 : decode cX8_of 0 = .ok (.iload_n 0, 1) := by decide +kernel
theorem dX8_of_1 : decode cX8_of 1 = .ok (.bipush 24, 2) := by decide +kernel
theorem dX8_of_3 : decode cX8_of 3 = .ok (.iload_n 1, 1) := by decide +kernel
theorem dX8_of_4 : decode cX8_of 4 = .ok (.imul, 1) := by decide +kernel
theorem dX8_of_5 : decode cX8_of 5 = .ok (.iadd, 1) := by decide +kernel
theorem dX8_of_6 : decode cX8_of 6 = .ok (.iload_n 2, 1) := by decide +kernel
theorem dX8_of_7 : decode cX8_of 7 = .ok (.iadd, 1) := by decide +kernel
theorem dX8_of_8 : decode cX8_of 8 = .ok (.ireturn, 1) := by decide +kernel
/-! BusLiftsModel.of(III)I -/
noncomputable def f_X8_of  (σ : Sg) (v0 : Int32) (v1 : Int32) (v2 : Int32) : Option (Int32 × Sg) := some (((v0 + (24 * v1)) + v2), σ)
set_option maxHeartbeats 4000000 in
set_option maxRecDepth 100000 in
theorem w_X8_of_0 {p : Program} {l : Launch} {e : Env} {s : State} {m : MethodId} {args : Array Value} {below : List Frame} {meth : Method} {c : Code} {G : Gx} {ad : Ad} {res : Int32 × Sg} (C : Cx p s m args meth c yX8_of.cls cX8_of 3 (Option.some FieldType.int) G)  : ∀ (σ : Sg) (v0 : Int32) (v1 : Int32) (v2 : Int32) (H : Heap) (locs : List Loc) (ls : Array Slot), z_S 1 G ad σ (z_A 1 ad s.heap.size) s.heap H locs → lv_has ls 3 [(0, .int v0), (1, .int v1), (2, .int v2)] → f_X8_of  σ v0 v1 v2 = some res → W p l e { frames := 0, cells := 0, slots := 0, locals := 0 } s m args below meth c H locs 0 0 (MQ below (va_Qi (S := Unit) (fun r1 _ => r1 = res.1) (fun _ t => z_W 1 G ad res.2 t.heap) (z_A 1 ad s.heap.size)) args s 0 0 (z_A 1 ad s.heap.size)) (F0 m 0 ls []) := by
  intro σ v0 v1 v2 H locs ls S hl  hf
  unfold f_X8_of at hf
  refine lv_iload_n C.1 C.2.1 dX8_of_0 rfl (lv_at hl 0 rfl) ?_
  refine lv_bipush (v := 24) C.1 C.2.1 dX8_of_1 (by decide) ?_
  refine lv_iload_n C.1 C.2.1 dX8_of_3 rfl (lv_at hl 1 rfl) ?_
  refine lv_imul C.1 C.2.1 dX8_of_4 ?_
  refine lv_iadd C.1 C.2.1 dX8_of_5 ?_
  refine lv_iload_n C.1 C.2.1 dX8_of_6 rfl (lv_at hl 2 rfl) ?_
  refine lv_iadd C.1 C.2.1 dX8_of_7 ?_
  exact z_iret C S hf dX8_of_8
theorem kv_X8_of : KS yX8_of cX8_of 3 (Option.some FieldType.int) 3 := ⟨tw_7_78, tw_7_77, tw_1_10, by decide, by decide, by decide +kernel⟩
theorem m_X8_of (l : Launch) (G : Gx) (ad : Ad) (σ : Sg) (v0 : Int32) (v1 : Int32) (v2 : Int32) (r : Int32) (σ' : Sg)  (hf : f_X8_of σ v0 v1 v2 = some (r, σ')) (sz : Nat) : z_MI l yX8_of cX8_of 3 (Option.some FieldType.int) 0 0 1 G ad σ sz [.int v0, .int v1, .int v2] r σ' := by
  refine z_begin (by decide +kernel) (Nat.le_of_ble_eq_true rfl) [(0, .int v0), (1, .int v1), (2, .int v2)] rfl (fun p e s m args below meth c ls C hz S hl => ?_)
  subst hz
  exact w_X8_of_0 (res := (r, σ')) C σ v0 v1 v2 _ _ _ S hl  hf

theorem dX8_heldMany_0 : decode cX8_heldMany 0 = .ok (.iconst 0, 1) := by decide +kernel
theorem dX8_heldMany_1 : decode cX8_heldMany 1 = .ok (.istore_n 2, 1) := by decide +kernel
theorem dX8_heldMany_2 : decode cX8_heldMany 2 = .ok (.iconst 0, 1) := by decide +kernel
theorem dX8_heldMany_3 : decode cX8_heldMany 3 = .ok (.istore_n 3, 1) := by decide +kernel
theorem dX8_heldMany_4 : decode cX8_heldMany 4 = .ok (.iload_n 3, 1) := by decide +kernel
theorem dX8_heldMany_5 : decode cX8_heldMany 5 = .ok (.aload_n 0, 1) := by decide +kernel
theorem dX8_heldMany_6 : decode cX8_heldMany 6 = .ok (.getfield 7, 3) := by decide +kernel
theorem dX8_heldMany_9 : decode cX8_heldMany 9 = .ok (.iconst 2, 1) := by decide +kernel
theorem dX8_heldMany_10 : decode cX8_heldMany 10 = .ok (.iaload, 1) := by decide +kernel
theorem dX8_heldMany_11 : decode cX8_heldMany 11 = .ok (.if_icmp .ge 25, 3) := by decide +kernel
theorem dX8_heldMany_14 : decode cX8_heldMany 14 = .ok (.iload_n 2, 1) := by decide +kernel
theorem dX8_heldMany_15 : decode cX8_heldMany 15 = .ok (.aload_n 0, 1) := by decide +kernel
theorem dX8_heldMany_16 : decode cX8_heldMany 16 = .ok (.getfield 7, 3) := by decide +kernel
theorem dX8_heldMany_19 : decode cX8_heldMany 19 = .ok (.sipush 319, 3) := by decide +kernel
theorem dX8_heldMany_22 : decode cX8_heldMany 22 = .ok (.iload_n 1, 1) := by decide +kernel
theorem dX8_heldMany_23 : decode cX8_heldMany 23 = .ok (.iload_n 3, 1) := by decide +kernel
theorem dX8_heldMany_24 : decode cX8_heldMany 24 = .ok (.invokestatic 65, 3) := by decide +kernel
theorem dX8_heldMany_27 : decode cX8_heldMany 27 = .ok (.iaload, 1) := by decide +kernel
theorem dX8_heldMany_28 : decode cX8_heldMany 28 = .ok (.iadd, 1) := by decide +kernel
theorem dX8_heldMany_29 : decode cX8_heldMany 29 = .ok (.istore_n 2, 1) := by decide +kernel
theorem dX8_heldMany_30 : decode cX8_heldMany 30 = .ok (.iinc 3 1, 3) := by decide +kernel
theorem dX8_heldMany_33 : decode cX8_heldMany 33 = .ok (.goto (-29), 3) := by decide +kernel
theorem dX8_heldMany_36 : decode cX8_heldMany 36 = .ok (.iload_n 2, 1) := by decide +kernel
theorem dX8_heldMany_37 : decode cX8_heldMany 37 = .ok (.ireturn, 1) := by decide +kernel
/-! BusLiftsModel.heldMany(I)I -/
noncomputable def f_X8_heldMany_36  (σ : Sg) (v2 : Int32) : Option (Int32 × Sg) := some (v2, σ)
noncomputable def f_X8_heldMany_4  : Nat → Sg → Int32 → Int32 → Int32 → Option (Int32 × Sg)
  | 0, _, _, _, _ => none
  | n + 1, σ, v1, v2, v3 => if (σ 30 0 2) ≤ v3 then (f_X8_heldMany_36 σ v2) else (bi (f_X8_of σ 319 v1 v3) fun r2 σ1 => (if r2 < 0 ∨ 2111 ≤ (r2).toNatClampNeg then none else (f_X8_heldMany_4  n σ1 v1 (v2 + (σ1 30 0 (r2).toNatClampNeg)) (v3 + 1))))
theorem f_X8_heldMany_4_s  (n : Nat) (σ : Sg) (v1 : Int32) (v2 : Int32) (v3 : Int32) : f_X8_heldMany_4  (n + 1) σ v1 v2 v3 = (if (σ 30 0 2) ≤ v3 then (f_X8_heldMany_36 σ v2) else (bi (f_X8_of σ 319 v1 v3) fun r2 σ1 => (if r2 < 0 ∨ 2111 ≤ (r2).toNatClampNeg then none else (f_X8_heldMany_4  n σ1 v1 (v2 + (σ1 30 0 (r2).toNatClampNeg)) (v3 + 1))))) := rfl
noncomputable def f_X8_heldMany  (σ : Sg) (v1 : Int32) : Option (Int32 × Sg) := f_X8_heldMany_4 FU σ v1 0 0
set_option maxHeartbeats 4000000 in
set_option maxRecDepth 100000 in
theorem w_X8_heldMany_36 {p : Program} {l : Launch} {e : Env} {s : State} {m : MethodId} {args : Array Value} {below : List Frame} {meth : Method} {c : Code} {G : Gx} {ad : Ad} {res : Int32 × Sg} (C : Cx p s m args meth c yX8_heldMany.cls cX8_heldMany 4 (Option.some FieldType.int) G)  : ∀ (σ : Sg) (v2 : Int32) (H : Heap) (locs : List Loc) (ls : Array Slot), z_S 1 G ad σ (z_A 1 ad s.heap.size) s.heap H locs → lv_has ls 4 [(2, .int v2)] → f_X8_heldMany_36  σ v2 = some res → W p l e { frames := 1, cells := 0, slots := 0, locals := 22 } s m args below meth c H locs 0 0 (MQ below (va_Qi (S := Unit) (fun r1 _ => r1 = res.1) (fun _ t => z_W 1 G ad res.2 t.heap) (z_A 1 ad s.heap.size)) args s 0 0 (z_A 1 ad s.heap.size)) (F0 m 36 ls []) := by
  intro σ v2 H locs ls S hl  hf
  unfold f_X8_heldMany_36 at hf
  refine lv_iload_n C.1 C.2.1 dX8_heldMany_36 rfl (lv_at hl 0 rfl) ?_
  exact z_iret C S hf dX8_heldMany_37
set_option maxHeartbeats 4000000 in
set_option maxRecDepth 100000 in
theorem w_X8_heldMany_4 {p : Program} {l : Launch} {e : Env} {s : State} {m : MethodId} {args : Array Value} {below : List Frame} {meth : Method} {c : Code} {G : Gx} {ad : Ad} {res : Int32 × Sg} (C : Cx p s m args meth c yX8_heldMany.cls cX8_heldMany 4 (Option.some FieldType.int) G)  : ∀ n : Nat, ∀ (σ : Sg) (v1 : Int32) (v2 : Int32) (v3 : Int32) (H : Heap) (locs : List Loc) (ls : Array Slot), z_S 1 G ad σ (z_A 1 ad s.heap.size) s.heap H locs → lv_has ls 4 [(0, .ref (ad 8 0)), (1, .int v1), (2, .int v2), (3, .int v3)] → f_X8_heldMany_4  n σ v1 v2 v3 = some res → W p l e { frames := 1, cells := 0, slots := 0, locals := 22 } s m args below meth c H locs 0 0 (MQ below (va_Qi (S := Unit) (fun r1 _ => r1 = res.1) (fun _ t => z_W 1 G ad res.2 t.heap) (z_A 1 ad s.heap.size)) args s 0 0 (z_A 1 ad s.heap.size)) (F0 m 4 ls []) := by
  intro n
  induction n with
  | zero => intro σ v1 v2 v3 H locs ls S hl  hf; cases hf
  | succ n ih =>
    intro σ v1 v2 v3 H locs ls S hl  hf
    rw [f_X8_heldMany_4_s] at hf
    refine lv_iload_n C.1 C.2.1 dX8_heldMany_4 rfl (lv_at hl 3 rfl) ?_
    refine lv_aload_n C.1 C.2.1 dX8_heldMany_5 rfl (lv_at hl 0 rfl) ?_
    refine z_getR C S 8 0 rfl (by decide) cf_8 0 (by decide) _ (gr_8_0 G ad 0) tw_6_118 dX8_heldMany_6 ?_
    refine lv_iconst (v := 2) C.1 C.2.1 dX8_heldMany_9 (by decide) ?_
    refine z_ialdL C S 30 0 rfl (by decide) 2111 (fun _ => rfl) 2 (by decide) (by decide) (by decide) dX8_heldMany_10 ?_
    refine lv_icmp_ge (tgt := 36) C.1 C.2.1 dX8_heldMany_11 (by decide) (fun c_11 => ?_) (fun c_11 => ?_)
    · rw [if_pos c_11] at hf
      exact w_X8_heldMany_36 C _ v2 _ _ _ S (lv_sub hl [2] rfl) hf
    · rw [if_neg c_11] at hf
      refine lv_iload_n C.1 C.2.1 dX8_heldMany_14 rfl (lv_at hl 2 rfl) ?_
      refine lv_aload_n C.1 C.2.1 dX8_heldMany_15 rfl (lv_at hl 0 rfl) ?_
      refine z_getR C S 8 0 rfl (by decide) cf_8 0 (by decide) _ (gr_8_0 G ad 0) tw_6_118 dX8_heldMany_16 ?_
      refine lv_sipush (v := 319) C.1 C.2.1 dX8_heldMany_19 (by decide) ?_
      refine lv_iload_n C.1 C.2.1 dX8_heldMany_22 rfl (lv_at hl 1 rfl) ?_
      refine lv_iload_n C.1 C.2.1 dX8_heldMany_23 rfl (lv_at hl 3 rfl) ?_
      obtain ⟨r2, σ1, q_24, hf⟩ := bib hf
      refine z_callSI C S [.int 319, .int v1, .int v3] (m_X8_of l G ad σ 319 v1 v3 r2 σ1 q_24 _) kv_X8_of tw_7_76 ⟨Nat.le_of_ble_eq_true rfl, Nat.le_of_ble_eq_true rfl⟩ rfl rfl (Nat.le_of_ble_eq_true rfl) hl.1 ⟨Nat.le_of_ble_eq_true rfl, Nat.le_of_ble_eq_true rfl⟩ dX8_heldMany_24 (fun H locs S => ?_)
      obtain ⟨g_27, hf⟩ := gd hf
      refine z_iald C S 30 0 rfl (by decide) 2111 (fun _ => rfl) g_27 dX8_heldMany_27 ?_
      refine lv_iadd C.1 C.2.1 dX8_heldMany_28 ?_
      refine lv_istore_n (lv' := [(2, .int (v2 + (σ1 30 0 (r2).toNatClampNeg))), (0, .ref (ad 8 0)), (1, .int v1), (3, .int v3)]) C.1 C.2.1 dX8_heldMany_29 rfl hl (by decide) rfl (fun ls hl => ?_)
      refine lv_iinc (v := (v3 + 1)) (lv' := [(3, .int (v3 + 1)), (2, .int (v2 + (σ1 30 0 (r2).toNatClampNeg))), (0, .ref (ad 8 0)), (1, .int v1)]) C.1 C.2.1 dX8_heldMany_30 hl (k := 3) rfl rfl (by decide) rfl (fun ls hl => ?_)
      refine lv_goto (tgt := 4) C.1 C.2.1 dX8_heldMany_33 (by decide) ?_
      exact ih _ v1 (v2 + (σ1 30 0 (r2).toNatClampNeg)) (v3 + 1) _ _ _ S (lv_sub hl [2, 3, 1, 0] rfl)  hf
set_option maxHeartbeats 4000000 in
set_option maxRecDepth 100000 in
theorem w_X8_heldMany_0 {p : Program} {l : Launch} {e : Env} {s : State} {m : MethodId} {args : Array Value} {below : List Frame} {meth : Method} {c : Code} {G : Gx} {ad : Ad} {res : Int32 × Sg} (C : Cx p s m args meth c yX8_heldMany.cls cX8_heldMany 4 (Option.some FieldType.int) G)  : ∀ (σ : Sg) (v1 : Int32) (H : Heap) (locs : List Loc) (ls : Array Slot), z_S 1 G ad σ (z_A 1 ad s.heap.size) s.heap H locs → lv_has ls 4 [(0, .ref (ad 8 0)), (1, .int v1)] → f_X8_heldMany  σ v1 = some res → W p l e { frames := 1, cells := 0, slots := 0, locals := 22 } s m args below meth c H locs 0 0 (MQ below (va_Qi (S := Unit) (fun r1 _ => r1 = res.1) (fun _ t => z_W 1 G ad res.2 t.heap) (z_A 1 ad s.heap.size)) args s 0 0 (z_A 1 ad s.heap.size)) (F0 m 0 ls []) := by
  intro σ v1 H locs ls S hl  hf
  unfold f_X8_heldMany at hf
  refine lv_iconst (v := 0) C.1 C.2.1 dX8_heldMany_0 (by decide) ?_
  refine lv_istore_n (lv' := [(2, .int 0), (0, .ref (ad 8 0)), (1, .int v1)]) C.1 C.2.1 dX8_heldMany_1 rfl hl (by decide) rfl (fun ls hl => ?_)
  refine lv_iconst (v := 0) C.1 C.2.1 dX8_heldMany_2 (by decide) ?_
  refine lv_istore_n (lv' := [(3, .int 0), (2, .int 0), (0, .ref (ad 8 0)), (1, .int v1)]) C.1 C.2.1 dX8_heldMany_3 rfl hl (by decide) rfl (fun ls hl => ?_)
  exact w_X8_heldMany_4 C FU _ v1 0 0 _ _ _ S (lv_sub hl [2, 3, 1, 0] rfl) hf
theorem kv_X8_heldMany : KV yX8_heldMany cX8_heldMany 4 (Option.some FieldType.int) 1 := ⟨tw_7_75, tw_7_74, tw_p_61, tw_1_10, by decide, by decide, by decide +kernel⟩
theorem m_X8_heldMany (l : Launch) (G : Gx) (ad : Ad) (σ : Sg) (v1 : Int32) (r : Int32) (σ' : Sg)  (hf : f_X8_heldMany σ v1 = some (r, σ')) (sz : Nat) : z_MI l yX8_heldMany cX8_heldMany 4 (Option.some FieldType.int) 1 22 1 G ad σ sz [.ref (ad 8 0), .int v1] r σ' := by
  refine z_begin (by decide +kernel) (Nat.le_of_ble_eq_true rfl) [(0, .ref (ad 8 0)), (1, .int v1)] rfl (fun p e s m args below meth c ls C hz S hl => ?_)
  subst hz
  exact w_X8_heldMany_0 (res := (r, σ')) C σ v1 _ _ _ S hl  hf

theorem dX8_isAboard_0 : decode cX8_isAboard 0 = .ok (.aload_n 0, 1) := by decide +kernel
theorem dX8_isAboard_1 : decode cX8_isAboard 1 = .ok (.getfield 7, 3) := by decide +kernel
theorem dX8_isAboard_4 : decode cX8_isAboard 4 = .ok (.bipush 127, 2) := by decide +kernel
theorem dX8_isAboard_6 : decode cX8_isAboard 6 = .ok (.iload_n 2, 1) := by decide +kernel
theorem dX8_isAboard_7 : decode cX8_isAboard 7 = .ok (.iadd, 1) := by decide +kernel
theorem dX8_isAboard_8 : decode cX8_isAboard 8 = .ok (.iaload, 1) := by decide +kernel
theorem dX8_isAboard_9 : decode cX8_isAboard 9 = .ok (.iconst 2, 1) := by decide +kernel
theorem dX8_isAboard_10 : decode cX8_isAboard 10 = .ok (.if_icmp .ne 21, 3) := by decide +kernel
theorem dX8_isAboard_13 : decode cX8_isAboard 13 = .ok (.aload_n 0, 1) := by decide +kernel
theorem dX8_isAboard_14 : decode cX8_isAboard 14 = .ok (.getfield 7, 3) := by decide +kernel
theorem dX8_isAboard_17 : decode cX8_isAboard 17 = .ok (.sipush 151, 3) := by decide +kernel
theorem dX8_isAboard_20 : decode cX8_isAboard 20 = .ok (.iload_n 2, 1) := by decide +kernel
theorem dX8_isAboard_21 : decode cX8_isAboard 21 = .ok (.iadd, 1) := by decide +kernel
theorem dX8_isAboard_22 : decode cX8_isAboard 22 = .ok (.iaload, 1) := by decide +kernel
theorem dX8_isAboard_23 : decode cX8_isAboard 23 = .ok (.iload_n 1, 1) := by decide +kernel
theorem dX8_isAboard_24 : decode cX8_isAboard 24 = .ok (.if_icmp .ne 7, 3) := by decide +kernel
theorem dX8_isAboard_27 : decode cX8_isAboard 27 = .ok (.iconst 1, 1) := by decide +kernel
theorem dX8_isAboard_28 : decode cX8_isAboard 28 = .ok (.goto 4, 3) := by decide +kernel
theorem dX8_isAboard_31 : decode cX8_isAboard 31 = .ok (.iconst 0, 1) := by decide +kernel
theorem dX8_isAboard_32 : decode cX8_isAboard 32 = .ok (.ireturn, 1) := by decide +kernel
/-! BusLiftsModel.isAboard(II)Z -/
noncomputable def f_X8_isAboard_32  (σ : Sg) (v100 : Int32) : Option (Int32 × Sg) := if ¬ (v100 = 0 ∨ v100 = 1) then none else (some (v100, σ))
noncomputable def f_X8_isAboard_31  (σ : Sg)  : Option (Int32 × Sg) := f_X8_isAboard_32 σ 0
noncomputable def f_X8_isAboard  (σ : Sg) (v1 : Int32) (v2 : Int32) : Option (Int32 × Sg) := if (127 + v2) < 0 ∨ 2111 ≤ ((127 + v2)).toNatClampNeg then none else (if (σ 30 0 ((127 + v2)).toNatClampNeg) = 2 then (if (151 + v2) < 0 ∨ 2111 ≤ ((151 + v2)).toNatClampNeg then none else (if (σ 30 0 ((151 + v2)).toNatClampNeg) = v1 then (f_X8_isAboard_32 σ 1) else (f_X8_isAboard_31 σ))) else (f_X8_isAboard_31 σ))
set_option maxHeartbeats 4000000 in
set_option maxRecDepth 100000 in
theorem w_X8_isAboard_32 {p : Program} {l : Launch} {e : Env} {s : State} {m : MethodId} {args : Array Value} {below : List Frame} {meth : Method} {c : Code} {G : Gx} {ad : Ad} {res : Int32 × Sg} (C : Cx p s m args meth c yX8_isAboard.cls cX8_isAboard 3 (Option.some FieldType.boolean) G)  : ∀ (σ : Sg) (v100 : Int32) (H : Heap) (locs : List Loc) (ls : Array Slot), z_S 1 G ad σ (z_A 1 ad s.heap.size) s.heap H locs → lv_has ls 3 [] → f_X8_isAboard_32  σ v100 = some res → W p l e { frames := 0, cells := 0, slots := 0, locals := 0 } s m args below meth c H locs 0 0 (MQ below (va_Qi (S := Unit) (fun r1 _ => r1 = res.1) (fun _ t => z_W 1 G ad res.2 t.heap) (z_A 1 ad s.heap.size)) args s 0 0 (z_A 1 ad s.heap.size)) (F0 m 32 ls [.int v100]) := by
  intro σ v100 H locs ls S hl  hf
  unfold f_X8_isAboard_32 at hf
  obtain ⟨g_32, hf⟩ := gd hf
  exact z_zret C S (nbz g_32).1 hf dX8_isAboard_32
set_option maxHeartbeats 4000000 in
set_option maxRecDepth 100000 in
theorem w_X8_isAboard_31 {p : Program} {l : Launch} {e : Env} {s : State} {m : MethodId} {args : Array Value} {below : List Frame} {meth : Method} {c : Code} {G : Gx} {ad : Ad} {res : Int32 × Sg} (C : Cx p s m args meth c yX8_isAboard.cls cX8_isAboard 3 (Option.some FieldType.boolean) G)  : ∀ (σ : Sg)  (H : Heap) (locs : List Loc) (ls : Array Slot), z_S 1 G ad σ (z_A 1 ad s.heap.size) s.heap H locs → lv_has ls 3 [] → f_X8_isAboard_31  σ  = some res → W p l e { frames := 0, cells := 0, slots := 0, locals := 0 } s m args below meth c H locs 0 0 (MQ below (va_Qi (S := Unit) (fun r1 _ => r1 = res.1) (fun _ t => z_W 1 G ad res.2 t.heap) (z_A 1 ad s.heap.size)) args s 0 0 (z_A 1 ad s.heap.size)) (F0 m 31 ls []) := by
  intro σ  H locs ls S hl  hf
  unfold f_X8_isAboard_31 at hf
  refine lv_iconst (v := 0) C.1 C.2.1 dX8_isAboard_31 (by decide) ?_
  exact w_X8_isAboard_32 C _ 0 _ _ _ S (lv_sub hl [] rfl) hf
set_option maxHeartbeats 4000000 in
set_option maxRecDepth 100000 in
theorem w_X8_isAboard_0 {p : Program} {l : Launch} {e : Env} {s : State} {m : MethodId} {args : Array Value} {below : List Frame} {meth : Method} {c : Code} {G : Gx} {ad : Ad} {res : Int32 × Sg} (C : Cx p s m args meth c yX8_isAboard.cls cX8_isAboard 3 (Option.some FieldType.boolean) G)  : ∀ (σ : Sg) (v1 : Int32) (v2 : Int32) (H : Heap) (locs : List Loc) (ls : Array Slot), z_S 1 G ad σ (z_A 1 ad s.heap.size) s.heap H locs → lv_has ls 3 [(0, .ref (ad 8 0)), (1, .int v1), (2, .int v2)] → f_X8_isAboard  σ v1 v2 = some res → W p l e { frames := 0, cells := 0, slots := 0, locals := 0 } s m args below meth c H locs 0 0 (MQ below (va_Qi (S := Unit) (fun r1 _ => r1 = res.1) (fun _ t => z_W 1 G ad res.2 t.heap) (z_A 1 ad s.heap.size)) args s 0 0 (z_A 1 ad s.heap.size)) (F0 m 0 ls []) := by
  intro σ v1 v2 H locs ls S hl  hf
  unfold f_X8_isAboard at hf
  refine lv_aload_n C.1 C.2.1 dX8_isAboard_0 rfl (lv_at hl 0 rfl) ?_
  refine z_getR C S 8 0 rfl (by decide) cf_8 0 (by decide) _ (gr_8_0 G ad 0) tw_6_118 dX8_isAboard_1 ?_
  refine lv_bipush (v := 127) C.1 C.2.1 dX8_isAboard_4 (by decide) ?_
  refine lv_iload_n C.1 C.2.1 dX8_isAboard_6 rfl (lv_at hl 2 rfl) ?_
  refine lv_iadd C.1 C.2.1 dX8_isAboard_7 ?_
  obtain ⟨g_8, hf⟩ := gd hf
  refine z_iald C S 30 0 rfl (by decide) 2111 (fun _ => rfl) g_8 dX8_isAboard_8 ?_
  refine lv_iconst (v := 2) C.1 C.2.1 dX8_isAboard_9 (by decide) ?_
  refine lv_icmp_ne (tgt := 31) C.1 C.2.1 dX8_isAboard_10 (by decide) (fun c_10 => ?_) (fun c_10 => ?_)
  · rw [if_neg c_10] at hf
    exact w_X8_isAboard_31 C _ _ _ _ S (lv_sub hl [] rfl) hf
  · rw [if_pos c_10] at hf
    refine lv_aload_n C.1 C.2.1 dX8_isAboard_13 rfl (lv_at hl 0 rfl) ?_
    refine z_getR C S 8 0 rfl (by decide) cf_8 0 (by decide) _ (gr_8_0 G ad 0) tw_6_118 dX8_isAboard_14 ?_
    refine lv_sipush (v := 151) C.1 C.2.1 dX8_isAboard_17 (by decide) ?_
    refine lv_iload_n C.1 C.2.1 dX8_isAboard_20 rfl (lv_at hl 2 rfl) ?_
    refine lv_iadd C.1 C.2.1 dX8_isAboard_21 ?_
    obtain ⟨g_22, hf⟩ := gd hf
    refine z_iald C S 30 0 rfl (by decide) 2111 (fun _ => rfl) g_22 dX8_isAboard_22 ?_
    refine lv_iload_n C.1 C.2.1 dX8_isAboard_23 rfl (lv_at hl 1 rfl) ?_
    refine lv_icmp_ne (tgt := 31) C.1 C.2.1 dX8_isAboard_24 (by decide) (fun c_24 => ?_) (fun c_24 => ?_)
    · rw [if_neg c_24] at hf
      exact w_X8_isAboard_31 C _ _ _ _ S (lv_sub hl [] rfl) hf
    · rw [if_pos c_24] at hf
      refine lv_iconst (v := 1) C.1 C.2.1 dX8_isAboard_27 (by decide) ?_
      refine lv_goto (tgt := 32) C.1 C.2.1 dX8_isAboard_28 (by decide) ?_
      exact w_X8_isAboard_32 C _ 1 _ _ _ S (lv_sub hl [] rfl) hf
theorem kv_X8_isAboard : KV yX8_isAboard cX8_isAboard 3 (Option.some FieldType.boolean) 2 := ⟨tw_7_86, tw_7_85, tw_p_63, tw_1_10, by decide, by decide, by decide +kernel⟩
theorem m_X8_isAboard (l : Launch) (G : Gx) (ad : Ad) (σ : Sg) (v1 : Int32) (v2 : Int32) (r : Int32) (σ' : Sg)  (hf : f_X8_isAboard σ v1 v2 = some (r, σ')) (sz : Nat) : z_MI l yX8_isAboard cX8_isAboard 3 (Option.some FieldType.boolean) 0 0 1 G ad σ sz [.ref (ad 8 0), .int v1, .int v2] r σ' := by
  refine z_begin (by decide +kernel) (Nat.le_of_ble_eq_true rfl) [(0, .ref (ad 8 0)), (1, .int v1), (2, .int v2)] rfl (fun p e s m args below meth c ls C hz S hl => ?_)
  subst hz
  exact w_X8_isAboard_0 (res := (r, σ')) C σ v1 v2 _ _ _ S hl  hf

theorem dX8_aboardMany_0 : decode cX8_aboardMany 0 = .ok (.iconst 0, 1) := by decide +kernel
theorem dX8_aboardMany_1 : decode cX8_aboardMany 1 = .ok (.istore_n 2, 1) := by decide +kernel
theorem dX8_aboardMany_2 : decode cX8_aboardMany 2 = .ok (.iconst 0, 1) := by decide +kernel
theorem dX8_aboardMany_3 : decode cX8_aboardMany 3 = .ok (.istore_n 3, 1) := by decide +kernel
theorem dX8_aboardMany_4 : decode cX8_aboardMany 4 = .ok (.iload_n 3, 1) := by decide +kernel
theorem dX8_aboardMany_5 : decode cX8_aboardMany 5 = .ok (.aload_n 0, 1) := by decide +kernel
theorem dX8_aboardMany_6 : decode cX8_aboardMany 6 = .ok (.getfield 7, 3) := by decide +kernel
theorem dX8_aboardMany_9 : decode cX8_aboardMany 9 = .ok (.iconst 2, 1) := by decide +kernel
theorem dX8_aboardMany_10 : decode cX8_aboardMany 10 = .ok (.iaload, 1) := by decide +kernel
theorem dX8_aboardMany_11 : decode cX8_aboardMany 11 = .ok (.if_icmp .ge 26, 3) := by decide +kernel
theorem dX8_aboardMany_14 : decode cX8_aboardMany 14 = .ok (.iload_n 2, 1) := by decide +kernel
theorem dX8_aboardMany_15 : decode cX8_aboardMany 15 = .ok (.aload_n 0, 1) := by decide +kernel
theorem dX8_aboardMany_16 : decode cX8_aboardMany 16 = .ok (.iload_n 1, 1) := by decide +kernel
theorem dX8_aboardMany_17 : decode cX8_aboardMany 17 = .ok (.iload_n 3, 1) := by decide +kernel
theorem dX8_aboardMany_18 : decode cX8_aboardMany 18 = .ok (.invokevirtual 68, 3) := by decide +kernel
theorem dX8_aboardMany_21 : decode cX8_aboardMany 21 = .ok (.ifCond .eq 7, 3) := by decide +kernel
theorem dX8_aboardMany_24 : decode cX8_aboardMany 24 = .ok (.iconst 1, 1) := by decide +kernel
theorem dX8_aboardMany_25 : decode cX8_aboardMany 25 = .ok (.goto 4, 3) := by decide +kernel
theorem dX8_aboardMany_28 : decode cX8_aboardMany 28 = .ok (.iconst 0, 1) := by decide +kernel
theorem dX8_aboardMany_29 : decode cX8_aboardMany 29 = .ok (.iadd, 1) := by decide +kernel
theorem dX8_aboardMany_30 : decode cX8_aboardMany 30 = .ok (.istore_n 2, 1) := by decide +kernel
theorem dX8_aboardMany_31 : decode cX8_aboardMany 31 = .ok (.iinc 3 1, 3) := by decide +kernel
theorem dX8_aboardMany_34 : decode cX8_aboardMany 34 = .ok (.goto (-30), 3) := by decide +kernel
theorem dX8_aboardMany_37 : decode cX8_aboardMany 37 = .ok (.iload_n 2, 1) := by decide +kernel
theorem dX8_aboardMany_38 : decode cX8_aboardMany 38 = .ok (.ireturn, 1) := by decide +kernel
/-! BusLiftsModel.aboardMany(I)I -/
noncomputable def f_X8_aboardMany_37  (σ : Sg) (v2 : Int32) : Option (Int32 × Sg) := some (v2, σ)
noncomputable def f_X8_aboardMany_29 (k4 : Sg → Int32 → Int32 → Int32 → Option (Int32 × Sg)) (σ : Sg) (v1 : Int32) (v3 : Int32) (v100 : Int32) (v101 : Int32) : Option (Int32 × Sg) := k4 σ v1 (v100 + v101) (v3 + 1)
noncomputable def f_X8_aboardMany_4  : Nat → Sg → Int32 → Int32 → Int32 → Option (Int32 × Sg)
  | 0, _, _, _, _ => none
  | n + 1, σ, v1, v2, v3 => if (σ 30 0 2) ≤ v3 then (f_X8_aboardMany_37 σ v2) else (bi (f_X8_isAboard σ v1 v3) fun r2 σ1 => (if r2 = 0 then (f_X8_aboardMany_29 (f_X8_aboardMany_4 n) σ1 v1 v3 v2 0) else (f_X8_aboardMany_29 (f_X8_aboardMany_4 n) σ1 v1 v3 v2 1)))
theorem f_X8_aboardMany_4_s  (n : Nat) (σ : Sg) (v1 : Int32) (v2 : Int32) (v3 : Int32) : f_X8_aboardMany_4  (n + 1) σ v1 v2 v3 = (if (σ 30 0 2) ≤ v3 then (f_X8_aboardMany_37 σ v2) else (bi (f_X8_isAboard σ v1 v3) fun r2 σ1 => (if r2 = 0 then (f_X8_aboardMany_29 (f_X8_aboardMany_4 n) σ1 v1 v3 v2 0) else (f_X8_aboardMany_29 (f_X8_aboardMany_4 n) σ1 v1 v3 v2 1)))) := rfl
noncomputable def f_X8_aboardMany  (σ : Sg) (v1 : Int32) : Option (Int32 × Sg) := f_X8_aboardMany_4 FU σ v1 0 0
set_option maxHeartbeats 4000000 in
set_option maxRecDepth 100000 in
theorem w_X8_aboardMany_37 {p : Program} {l : Launch} {e : Env} {s : State} {m : MethodId} {args : Array Value} {below : List Frame} {meth : Method} {c : Code} {G : Gx} {ad : Ad} {res : Int32 × Sg} (C : Cx p s m args meth c yX8_aboardMany.cls cX8_aboardMany 4 (Option.some FieldType.int) G)  : ∀ (σ : Sg) (v2 : Int32) (H : Heap) (locs : List Loc) (ls : Array Slot), z_S 1 G ad σ (z_A 1 ad s.heap.size) s.heap H locs → lv_has ls 4 [(2, .int v2)] → f_X8_aboardMany_37  σ v2 = some res → W p l e { frames := 1, cells := 0, slots := 0, locals := 22 } s m args below meth c H locs 0 0 (MQ below (va_Qi (S := Unit) (fun r1 _ => r1 = res.1) (fun _ t => z_W 1 G ad res.2 t.heap) (z_A 1 ad s.heap.size)) args s 0 0 (z_A 1 ad s.heap.size)) (F0 m 37 ls []) := by
  intro σ v2 H locs ls S hl  hf
  unfold f_X8_aboardMany_37 at hf
  refine lv_iload_n C.1 C.2.1 dX8_aboardMany_37 rfl (lv_at hl 0 rfl) ?_
  exact z_iret C S hf dX8_aboardMany_38
set_option maxHeartbeats 4000000 in
set_option maxRecDepth 100000 in
theorem w_X8_aboardMany_29 {p : Program} {l : Launch} {e : Env} {s : State} {m : MethodId} {args : Array Value} {below : List Frame} {meth : Method} {c : Code} {G : Gx} {ad : Ad} {res : Int32 × Sg} (C : Cx p s m args meth c yX8_aboardMany.cls cX8_aboardMany 4 (Option.some FieldType.int) G) (k4 : Sg → Int32 → Int32 → Int32 → Option (Int32 × Sg)) (hk4 : ∀ (σ : Sg) (v1 : Int32) (v2 : Int32) (v3 : Int32) (H : Heap) (locs : List Loc) (ls : Array Slot), z_S 1 G ad σ (z_A 1 ad s.heap.size) s.heap H locs → lv_has ls 4 [(0, .ref (ad 8 0)), (1, .int v1), (2, .int v2), (3, .int v3)] → k4 σ v1 v2 v3 = some res → W p l e { frames := 1, cells := 0, slots := 0, locals := 22 } s m args below meth c H locs 0 0 (MQ below (va_Qi (S := Unit) (fun r1 _ => r1 = res.1) (fun _ t => z_W 1 G ad res.2 t.heap) (z_A 1 ad s.heap.size)) args s 0 0 (z_A 1 ad s.heap.size)) (F0 m 4 ls [])) : ∀ (σ : Sg) (v1 : Int32) (v3 : Int32) (v100 : Int32) (v101 : Int32) (H : Heap) (locs : List Loc) (ls : Array Slot), z_S 1 G ad σ (z_A 1 ad s.heap.size) s.heap H locs → lv_has ls 4 [(0, .ref (ad 8 0)), (1, .int v1), (3, .int v3)] → f_X8_aboardMany_29 k4 σ v1 v3 v100 v101 = some res → W p l e { frames := 1, cells := 0, slots := 0, locals := 22 } s m args below meth c H locs 0 0 (MQ below (va_Qi (S := Unit) (fun r1 _ => r1 = res.1) (fun _ t => z_W 1 G ad res.2 t.heap) (z_A 1 ad s.heap.size)) args s 0 0 (z_A 1 ad s.heap.size)) (F0 m 29 ls [.int v101, .int v100]) := by
  intro σ v1 v3 v100 v101 H locs ls S hl  hf
  unfold f_X8_aboardMany_29 at hf
  refine lv_iadd C.1 C.2.1 dX8_aboardMany_29 ?_
  refine lv_istore_n (lv' := [(2, .int (v100 + v101)), (0, .ref (ad 8 0)), (1, .int v1), (3, .int v3)]) C.1 C.2.1 dX8_aboardMany_30 rfl hl (by decide) rfl (fun ls hl => ?_)
  refine lv_iinc (v := (v3 + 1)) (lv' := [(3, .int (v3 + 1)), (2, .int (v100 + v101)), (0, .ref (ad 8 0)), (1, .int v1)]) C.1 C.2.1 dX8_aboardMany_31 hl (k := 3) rfl rfl (by decide) rfl (fun ls hl => ?_)
  refine lv_goto (tgt := 4) C.1 C.2.1 dX8_aboardMany_34 (by decide) ?_
  exact hk4 _ v1 (v100 + v101) (v3 + 1) _ _ _ S (lv_sub hl [2, 3, 1, 0] rfl)  hf
set_option maxHeartbeats 4000000 in
set_option maxRecDepth 100000 in
theorem w_X8_aboardMany_4 {p : Program} {l : Launch} {e : Env} {s : State} {m : MethodId} {args : Array Value} {below : List Frame} {meth : Method} {c : Code} {G : Gx} {ad : Ad} {res : Int32 × Sg} (C : Cx p s m args meth c yX8_aboardMany.cls cX8_aboardMany 4 (Option.some FieldType.int) G)  : ∀ n : Nat, ∀ (σ : Sg) (v1 : Int32) (v2 : Int32) (v3 : Int32) (H : Heap) (locs : List Loc) (ls : Array Slot), z_S 1 G ad σ (z_A 1 ad s.heap.size) s.heap H locs → lv_has ls 4 [(0, .ref (ad 8 0)), (1, .int v1), (2, .int v2), (3, .int v3)] → f_X8_aboardMany_4  n σ v1 v2 v3 = some res → W p l e { frames := 1, cells := 0, slots := 0, locals := 22 } s m args below meth c H locs 0 0 (MQ below (va_Qi (S := Unit) (fun r1 _ => r1 = res.1) (fun _ t => z_W 1 G ad res.2 t.heap) (z_A 1 ad s.heap.size)) args s 0 0 (z_A 1 ad s.heap.size)) (F0 m 4 ls []) := by
  intro n
  induction n with
  | zero => intro σ v1 v2 v3 H locs ls S hl  hf; cases hf
  | succ n ih =>
    intro σ v1 v2 v3 H locs ls S hl  hf
    rw [f_X8_aboardMany_4_s] at hf
    refine lv_iload_n C.1 C.2.1 dX8_aboardMany_4 rfl (lv_at hl 3 rfl) ?_
    refine lv_aload_n C.1 C.2.1 dX8_aboardMany_5 rfl (lv_at hl 0 rfl) ?_
    refine z_getR C S 8 0 rfl (by decide) cf_8 0 (by decide) _ (gr_8_0 G ad 0) tw_6_118 dX8_aboardMany_6 ?_
    refine lv_iconst (v := 2) C.1 C.2.1 dX8_aboardMany_9 (by decide) ?_
    refine z_ialdL C S 30 0 rfl (by decide) 2111 (fun _ => rfl) 2 (by decide) (by decide) (by decide) dX8_aboardMany_10 ?_
    refine lv_icmp_ge (tgt := 37) C.1 C.2.1 dX8_aboardMany_11 (by decide) (fun c_11 => ?_) (fun c_11 => ?_)
    · rw [if_pos c_11] at hf
      exact w_X8_aboardMany_37 C _ v2 _ _ _ S (lv_sub hl [2] rfl) hf
    · rw [if_neg c_11] at hf
      refine lv_iload_n C.1 C.2.1 dX8_aboardMany_14 rfl (lv_at hl 2 rfl) ?_
      refine lv_aload_n C.1 C.2.1 dX8_aboardMany_15 rfl (lv_at hl 0 rfl) ?_
      refine lv_iload_n C.1 C.2.1 dX8_aboardMany_16 rfl (lv_at hl 1 rfl) ?_
      refine lv_iload_n C.1 C.2.1 dX8_aboardMany_17 rfl (lv_at hl 3 rfl) ?_
      obtain ⟨r2, σ1, q_18, hf⟩ := bib hf
      refine z_callI C S 8 0 rfl (by decide) cf_8 ⟨_, rfl⟩ [.int v1, .int v3] (m_X8_isAboard l G ad σ v1 v3 r2 σ1 q_18 _) kv_X8_isAboard tw_7_83 ⟨Nat.le_of_ble_eq_true rfl, Nat.le_of_ble_eq_true rfl⟩ rfl rfl (Nat.le_of_ble_eq_true rfl) hl.1 ⟨Nat.le_of_ble_eq_true rfl, Nat.le_of_ble_eq_true rfl⟩ dX8_aboardMany_18 (fun H locs S => ?_)
      refine lv_if_eq (tgt := 28) C.1 C.2.1 dX8_aboardMany_21 (by decide) (fun c_21 => ?_) (fun c_21 => ?_)
      · rw [if_pos c_21] at hf
        refine lv_iconst (v := 0) C.1 C.2.1 dX8_aboardMany_28 (by decide) ?_
        exact w_X8_aboardMany_29 C (f_X8_aboardMany_4 n) ih _ v1 v3 v2 0 _ _ _ S (lv_sub hl [0, 1, 3] rfl) hf
      · rw [if_neg c_21] at hf
        refine lv_iconst (v := 1) C.1 C.2.1 dX8_aboardMany_24 (by decide) ?_
        refine lv_goto (tgt := 29) C.1 C.2.1 dX8_aboardMany_25 (by decide) ?_
        exact w_X8_aboardMany_29 C (f_X8_aboardMany_4 n) ih _ v1 v3 v2 1 _ _ _ S (lv_sub hl [0, 1, 3] rfl) hf
set_option maxHeartbeats 4000000 in
set_option maxRecDepth 100000 in
theorem w_X8_aboardMany_0 {p : Program} {l : Launch} {e : Env} {s : State} {m : MethodId} {args : Array Value} {below : List Frame} {meth : Method} {c : Code} {G : Gx} {ad : Ad} {res : Int32 × Sg} (C : Cx p s m args meth c yX8_aboardMany.cls cX8_aboardMany 4 (Option.some FieldType.int) G)  : ∀ (σ : Sg) (v1 : Int32) (H : Heap) (locs : List Loc) (ls : Array Slot), z_S 1 G ad σ (z_A 1 ad s.heap.size) s.heap H locs → lv_has ls 4 [(0, .ref (ad 8 0)), (1, .int v1)] → f_X8_aboardMany  σ v1 = some res → W p l e { frames := 1, cells := 0, slots := 0, locals := 22 } s m args below meth c H locs 0 0 (MQ below (va_Qi (S := Unit) (fun r1 _ => r1 = res.1) (fun _ t => z_W 1 G ad res.2 t.heap) (z_A 1 ad s.heap.size)) args s 0 0 (z_A 1 ad s.heap.size)) (F0 m 0 ls []) := by
  intro σ v1 H locs ls S hl  hf
  unfold f_X8_aboardMany at hf
  refine lv_iconst (v := 0) C.1 C.2.1 dX8_aboardMany_0 (by decide) ?_
  refine lv_istore_n (lv' := [(2, .int 0), (0, .ref (ad 8 0)), (1, .int v1)]) C.1 C.2.1 dX8_aboardMany_1 rfl hl (by decide) rfl (fun ls hl => ?_)
  refine lv_iconst (v := 0) C.1 C.2.1 dX8_aboardMany_2 (by decide) ?_
  refine lv_istore_n (lv' := [(3, .int 0), (2, .int 0), (0, .ref (ad 8 0)), (1, .int v1)]) C.1 C.2.1 dX8_aboardMany_3 rfl hl (by decide) rfl (fun ls hl => ?_)
  exact w_X8_aboardMany_4 C FU _ v1 0 0 _ _ _ S (lv_sub hl [2, 3, 1, 0] rfl) hf
theorem kv_X8_aboardMany : KV yX8_aboardMany cX8_aboardMany 4 (Option.some FieldType.int) 1 := ⟨tw_7_82, tw_7_81, tw_p_62, tw_1_10, by decide, by decide, by decide +kernel⟩
theorem m_X8_aboardMany (l : Launch) (G : Gx) (ad : Ad) (σ : Sg) (v1 : Int32) (r : Int32) (σ' : Sg)  (hf : f_X8_aboardMany σ v1 = some (r, σ')) (sz : Nat) : z_MI l yX8_aboardMany cX8_aboardMany 4 (Option.some FieldType.int) 1 22 1 G ad σ sz [.ref (ad 8 0), .int v1] r σ' := by
  refine z_begin (by decide +kernel) (Nat.le_of_ble_eq_true rfl) [(0, .ref (ad 8 0)), (1, .int v1)] rfl (fun p e s m args below meth c ls C hz S hl => ?_)
  subst hz
  exact w_X8_aboardMany_0 (res := (r, σ')) C σ v1 _ _ _ S hl  hf

theorem dX8_car_0 : decode cX8_car 0 = .ok (.aload_n 0, 1) := by decide +kernel
theorem dX8_car_1 : decode cX8_car 1 = .ok (.iload_n 1, 1) := by decide +kernel
theorem dX8_car_2 : decode cX8_car 2 = .ok (.invokevirtual 271, 3) := by decide +kernel
theorem dX8_car_5 : decode cX8_car 5 = .ok (.ifCond .ne 26, 3) := by decide +kernel
theorem dX8_car_8 : decode cX8_car 8 = .ok (.aload_n 0, 1) := by decide +kernel
theorem dX8_car_9 : decode cX8_car 9 = .ok (.iload_n 2, 1) := by decide +kernel
theorem dX8_car_10 : decode cX8_car 10 = .ok (.iconst 0, 1) := by decide +kernel
theorem dX8_car_11 : decode cX8_car 11 = .ok (.bipush 9, 2) := by decide +kernel
theorem dX8_car_13 : decode cX8_car 13 = .ok (.invokestatic 165, 3) := by decide +kernel
theorem dX8_car_16 : decode cX8_car 16 = .ok (.ifCond .ne 7, 3) := by decide +kernel
theorem dX8_car_19 : decode cX8_car 19 = .ok (.iconst 1, 1) := by decide +kernel
theorem dX8_car_20 : decode cX8_car 20 = .ok (.goto 4, 3) := by decide +kernel
theorem dX8_car_23 : decode cX8_car 23 = .ok (.iconst 0, 1) := by decide +kernel
theorem dX8_car_24 : decode cX8_car 24 = .ok (.iconst 2, 1) := by decide +kernel
theorem dX8_car_25 : decode cX8_car 25 = .ok (.invokevirtual 267, 3) := by decide +kernel
theorem dX8_car_28 : decode cX8_car 28 = .ok (.ifCond .eq 5, 3) := by decide +kernel
theorem dX8_car_31 : decode cX8_car 31 = .ok (.iconst 0, 1) := by decide +kernel
theorem dX8_car_32 : decode cX8_car 32 = .ok (.ireturn, 1) := by decide +kernel
theorem dX8_car_33 : decode cX8_car 33 = .ok (.iload_n 2, 1) := by decide +kernel
theorem dX8_car_34 : decode cX8_car 34 = .ok (.tableswitch 76 0 4 #[34, 44, 54, 64, 70], 34) := by decide +kernel
theorem dX8_car_68 : decode cX8_car 68 = .ok (.aload_n 0, 1) := by decide +kernel
theorem dX8_car_69 : decode cX8_car 69 = .ok (.getfield 7, 3) := by decide +kernel
theorem dX8_car_72 : decode cX8_car 72 = .ok (.bipush 23, 2) := by decide +kernel
theorem dX8_car_74 : decode cX8_car 74 = .ok (.iload_n 1, 1) := by decide +kernel
theorem dX8_car_75 : decode cX8_car 75 = .ok (.iadd, 1) := by decide +kernel
theorem dX8_car_76 : decode cX8_car 76 = .ok (.iaload, 1) := by decide +kernel
theorem dX8_car_77 : decode cX8_car 77 = .ok (.ireturn, 1) := by decide +kernel
theorem dX8_car_78 : decode cX8_car 78 = .ok (.aload_n 0, 1) := by decide +kernel
theorem dX8_car_79 : decode cX8_car 79 = .ok (.getfield 7, 3) := by decide +kernel
theorem dX8_car_82 : decode cX8_car 82 = .ok (.bipush 27, 2) := by decide +kernel
theorem dX8_car_84 : decode cX8_car 84 = .ok (.iload_n 1, 1) := by decide +kernel
theorem dX8_car_85 : decode cX8_car 85 = .ok (.iadd, 1) := by decide +kernel
theorem dX8_car_86 : decode cX8_car 86 = .ok (.iaload, 1) := by decide +kernel
theorem dX8_car_87 : decode cX8_car 87 = .ok (.ireturn, 1) := by decide +kernel
theorem dX8_car_88 : decode cX8_car 88 = .ok (.aload_n 0, 1) := by decide +kernel
theorem dX8_car_89 : decode cX8_car 89 = .ok (.getfield 7, 3) := by decide +kernel
theorem dX8_car_92 : decode cX8_car 92 = .ok (.bipush 31, 2) := by decide +kernel
theorem dX8_car_94 : decode cX8_car 94 = .ok (.iload_n 1, 1) := by decide +kernel
theorem dX8_car_95 : decode cX8_car 95 = .ok (.iadd, 1) := by decide +kernel
theorem dX8_car_96 : decode cX8_car 96 = .ok (.iaload, 1) := by decide +kernel
theorem dX8_car_97 : decode cX8_car 97 = .ok (.ireturn, 1) := by decide +kernel
theorem dX8_car_98 : decode cX8_car 98 = .ok (.aload_n 0, 1) := by decide +kernel
theorem dX8_car_99 : decode cX8_car 99 = .ok (.iload_n 1, 1) := by decide +kernel
theorem dX8_car_100 : decode cX8_car 100 = .ok (.invokevirtual 76, 3) := by decide +kernel
theorem dX8_car_103 : decode cX8_car 103 = .ok (.ireturn, 1) := by decide +kernel
theorem dX8_car_104 : decode cX8_car 104 = .ok (.aload_n 0, 1) := by decide +kernel
theorem dX8_car_105 : decode cX8_car 105 = .ok (.iload_n 1, 1) := by decide +kernel
theorem dX8_car_106 : decode cX8_car 106 = .ok (.invokevirtual 80, 3) := by decide +kernel
theorem dX8_car_109 : decode cX8_car 109 = .ok (.ireturn, 1) := by decide +kernel
theorem dX8_car_110 : decode cX8_car 110 = .ok (.aload_n 0, 1) := by decide +kernel
theorem dX8_car_111 : decode cX8_car 111 = .ok (.getfield 7, 3) := by decide +kernel
theorem dX8_car_114 : decode cX8_car 114 = .ok (.bipush 35, 2) := by decide +kernel
theorem dX8_car_116 : decode cX8_car 116 = .ok (.iconst 4, 1) := by decide +kernel
theorem dX8_car_117 : decode cX8_car 117 = .ok (.iload_n 2, 1) := by decide +kernel
theorem dX8_car_118 : decode cX8_car 118 = .ok (.iconst 5, 1) := by decide +kernel
theorem dX8_car_119 : decode cX8_car 119 = .ok (.isub, 1) := by decide +kernel
theorem dX8_car_120 : decode cX8_car 120 = .ok (.imul, 1) := by decide +kernel
theorem dX8_car_121 : decode cX8_car 121 = .ok (.iadd, 1) := by decide +kernel
theorem dX8_car_122 : decode cX8_car 122 = .ok (.iload_n 1, 1) := by decide +kernel
theorem dX8_car_123 : decode cX8_car 123 = .ok (.iadd, 1) := by decide +kernel
theorem dX8_car_124 : decode cX8_car 124 = .ok (.iaload, 1) := by decide +kernel
theorem dX8_car_125 : decode cX8_car 125 = .ok (.ireturn, 1) := by decide +kernel
/-! BusLiftsModel.car(II)I -/
noncomputable def f_X8_car_31  (σ : Sg)  : Option (Int32 × Sg) := some (0, σ)
noncomputable def f_X8_car_24  (σ : Sg) (v1 : Int32) (v2 : Int32) (v101 : Int32) : Option (Int32 × Sg) := bi (f_X8_fails σ v101 2) fun r2 σ1 => (if r2 = 0 then (if v2 = 0 then (if (23 + v1) < 0 ∨ 2111 ≤ ((23 + v1)).toNatClampNeg then none else (some ((σ1 30 0 ((23 + v1)).toNatClampNeg), σ1))) else (if v2 = 1 then (if (27 + v1) < 0 ∨ 2111 ≤ ((27 + v1)).toNatClampNeg then none else (some ((σ1 30 0 ((27 + v1)).toNatClampNeg), σ1))) else (if v2 = 2 then (if (31 + v1) < 0 ∨ 2111 ≤ ((31 + v1)).toNatClampNeg then none else (some ((σ1 30 0 ((31 + v1)).toNatClampNeg), σ1))) else (if v2 = 3 then (bi (f_X8_heldMany σ1 v1) fun r4 σ3 => (some (r4, σ3))) else (if v2 = 4 then (bi (f_X8_aboardMany σ1 v1) fun r6 σ5 => (some (r6, σ5))) else (if ((35 + (4 * (v2 - 5))) + v1) < 0 ∨ 2111 ≤ (((35 + (4 * (v2 - 5))) + v1)).toNatClampNeg then none else (some ((σ1 30 0 (((35 + (4 * (v2 - 5))) + v1)).toNatClampNeg), σ1)))))))) else (f_X8_car_31 σ1))
noncomputable def f_X8_car  (σ : Sg) (v1 : Int32) (v2 : Int32) : Option (Int32 × Sg) := bi (f_X8_noCar σ v1) fun r2 σ1 => (if r2 = 0 then (bi (f_X8_inRange σ1 v2 0 9) fun r4 σ3 => (if r4 = 0 then (f_X8_car_24 σ3 v1 v2 1) else (f_X8_car_24 σ3 v1 v2 0))) else (f_X8_car_31 σ1))
set_option maxHeartbeats 4000000 in
set_option maxRecDepth 100000 in
theorem w_X8_car_31 {p : Program} {l : Launch} {e : Env} {s : State} {m : MethodId} {args : Array Value} {below : List Frame} {meth : Method} {c : Code} {G : Gx} {ad : Ad} {res : Int32 × Sg} (C : Cx p s m args meth c yX8_car.cls cX8_car 3 (Option.some FieldType.int) G)  : ∀ (σ : Sg)  (H : Heap) (locs : List Loc) (ls : Array Slot), z_S 1 G ad σ (z_A 1 ad s.heap.size) s.heap H locs → lv_has ls 3 [] → f_X8_car_31  σ  = some res → W p l e { frames := 2, cells := 0, slots := 0, locals := 45 } s m args below meth c H locs 0 0 (MQ below (va_Qi (S := Unit) (fun r1 _ => r1 = res.1) (fun _ t => z_W 1 G ad res.2 t.heap) (z_A 1 ad s.heap.size)) args s 0 0 (z_A 1 ad s.heap.size)) (F0 m 31 ls []) := by
  intro σ  H locs ls S hl  hf
  unfold f_X8_car_31 at hf
  refine lv_iconst (v := 0) C.1 C.2.1 dX8_car_31 (by decide) ?_
  exact z_iret C S hf dX8_car_32
set_option maxHeartbeats 4000000 in
set_option maxRecDepth 100000 in
theorem w_X8_car_24 {p : Program} {l : Launch} {e : Env} {s : State} {m : MethodId} {args : Array Value} {below : List Frame} {meth : Method} {c : Code} {G : Gx} {ad : Ad} {res : Int32 × Sg} (C : Cx p s m args meth c yX8_car.cls cX8_car 3 (Option.some FieldType.int) G)  : ∀ (σ : Sg) (v1 : Int32) (v2 : Int32) (v101 : Int32) (H : Heap) (locs : List Loc) (ls : Array Slot), z_S 1 G ad σ (z_A 1 ad s.heap.size) s.heap H locs → lv_has ls 3 [(0, .ref (ad 8 0)), (1, .int v1), (2, .int v2)] → f_X8_car_24  σ v1 v2 v101 = some res → W p l e { frames := 2, cells := 0, slots := 0, locals := 45 } s m args below meth c H locs 0 0 (MQ below (va_Qi (S := Unit) (fun r1 _ => r1 = res.1) (fun _ t => z_W 1 G ad res.2 t.heap) (z_A 1 ad s.heap.size)) args s 0 0 (z_A 1 ad s.heap.size)) (F0 m 24 ls [.int v101, .ref (ad 8 0)]) := by
  intro σ v1 v2 v101 H locs ls S hl  hf
  unfold f_X8_car_24 at hf
  refine lv_iconst (v := 2) C.1 C.2.1 dX8_car_24 (by decide) ?_
  obtain ⟨r2, σ1, q_25, hf⟩ := bib hf
  refine z_callI C S 8 0 rfl (by decide) cf_8 ⟨_, rfl⟩ [.int v101, .int 2] (m_X8_fails l G ad σ v101 2 r2 σ1 q_25 _) kv_X8_fails tw_7_56 ⟨Nat.le_of_ble_eq_true rfl, Nat.le_of_ble_eq_true rfl⟩ rfl rfl (Nat.le_of_ble_eq_true rfl) hl.1 ⟨Nat.le_of_ble_eq_true rfl, Nat.le_of_ble_eq_true rfl⟩ dX8_car_25 (fun H locs S => ?_)
  refine lv_if_eq (tgt := 33) C.1 C.2.1 dX8_car_28 (by decide) (fun c_28 => ?_) (fun c_28 => ?_)
  · rw [if_pos c_28] at hf
    refine lv_iload_n C.1 C.2.1 dX8_car_33 rfl (lv_at hl 2 rfl) ?_
    by_cases q_34_0 : v2 = 0
    · rw [if_pos q_34_0] at hf
      refine lv_tableIn (off := 34) (tgt := 68) C.1 C.2.1 dX8_car_34 (by rw [q_34_0]; decide) (by rw [q_34_0]; decide) (by rw [q_34_0]; decide) (by decide) ?_
      refine lv_aload_n C.1 C.2.1 dX8_car_68 rfl (lv_at hl 0 rfl) ?_
      refine z_getR C S 8 0 rfl (by decide) cf_8 0 (by decide) _ (gr_8_0 G ad 0) tw_6_118 dX8_car_69 ?_
      refine lv_bipush (v := 23) C.1 C.2.1 dX8_car_72 (by decide) ?_
      refine lv_iload_n C.1 C.2.1 dX8_car_74 rfl (lv_at hl 1 rfl) ?_
      refine lv_iadd C.1 C.2.1 dX8_car_75 ?_
      obtain ⟨g_76, hf⟩ := gd hf
      refine z_iald C S 30 0 rfl (by decide) 2111 (fun _ => rfl) g_76 dX8_car_76 ?_
      exact z_iret C S hf dX8_car_77
    · rw [if_neg q_34_0] at hf
      by_cases q_34_1 : v2 = 1
      · rw [if_pos q_34_1] at hf
        refine lv_tableIn (off := 44) (tgt := 78) C.1 C.2.1 dX8_car_34 (by rw [q_34_1]; decide) (by rw [q_34_1]; decide) (by rw [q_34_1]; decide) (by decide) ?_
        refine lv_aload_n C.1 C.2.1 dX8_car_78 rfl (lv_at hl 0 rfl) ?_
        refine z_getR C S 8 0 rfl (by decide) cf_8 0 (by decide) _ (gr_8_0 G ad 0) tw_6_118 dX8_car_79 ?_
        refine lv_bipush (v := 27) C.1 C.2.1 dX8_car_82 (by decide) ?_
        refine lv_iload_n C.1 C.2.1 dX8_car_84 rfl (lv_at hl 1 rfl) ?_
        refine lv_iadd C.1 C.2.1 dX8_car_85 ?_
        obtain ⟨g_86, hf⟩ := gd hf
        refine z_iald C S 30 0 rfl (by decide) 2111 (fun _ => rfl) g_86 dX8_car_86 ?_
        exact z_iret C S hf dX8_car_87
      · rw [if_neg q_34_1] at hf
        by_cases q_34_2 : v2 = 2
        · rw [if_pos q_34_2] at hf
          refine lv_tableIn (off := 54) (tgt := 88) C.1 C.2.1 dX8_car_34 (by rw [q_34_2]; decide) (by rw [q_34_2]; decide) (by rw [q_34_2]; decide) (by decide) ?_
          refine lv_aload_n C.1 C.2.1 dX8_car_88 rfl (lv_at hl 0 rfl) ?_
          refine z_getR C S 8 0 rfl (by decide) cf_8 0 (by decide) _ (gr_8_0 G ad 0) tw_6_118 dX8_car_89 ?_
          refine lv_bipush (v := 31) C.1 C.2.1 dX8_car_92 (by decide) ?_
          refine lv_iload_n C.1 C.2.1 dX8_car_94 rfl (lv_at hl 1 rfl) ?_
          refine lv_iadd C.1 C.2.1 dX8_car_95 ?_
          obtain ⟨g_96, hf⟩ := gd hf
          refine z_iald C S 30 0 rfl (by decide) 2111 (fun _ => rfl) g_96 dX8_car_96 ?_
          exact z_iret C S hf dX8_car_97
        · rw [if_neg q_34_2] at hf
          by_cases q_34_3 : v2 = 3
          · rw [if_pos q_34_3] at hf
            refine lv_tableIn (off := 64) (tgt := 98) C.1 C.2.1 dX8_car_34 (by rw [q_34_3]; decide) (by rw [q_34_3]; decide) (by rw [q_34_3]; decide) (by decide) ?_
            refine lv_aload_n C.1 C.2.1 dX8_car_98 rfl (lv_at hl 0 rfl) ?_
            refine lv_iload_n C.1 C.2.1 dX8_car_99 rfl (lv_at hl 1 rfl) ?_
            obtain ⟨r4, σ3, q_100, hf⟩ := bib hf
            refine z_callI C S 8 0 rfl (by decide) cf_8 ⟨_, rfl⟩ [.int v1] (m_X8_heldMany l G ad σ1 v1 r4 σ3 q_100 _) kv_X8_heldMany tw_7_72 ⟨Nat.le_of_ble_eq_true rfl, Nat.le_of_ble_eq_true rfl⟩ rfl rfl (Nat.le_of_ble_eq_true rfl) hl.1 ⟨Nat.le_of_ble_eq_true rfl, Nat.le_of_ble_eq_true rfl⟩ dX8_car_100 (fun H locs S => ?_)
            exact z_iret C S hf dX8_car_103
          · rw [if_neg q_34_3] at hf
            by_cases q_34_4 : v2 = 4
            · rw [if_pos q_34_4] at hf
              refine lv_tableIn (off := 70) (tgt := 104) C.1 C.2.1 dX8_car_34 (by rw [q_34_4]; decide) (by rw [q_34_4]; decide) (by rw [q_34_4]; decide) (by decide) ?_
              refine lv_aload_n C.1 C.2.1 dX8_car_104 rfl (lv_at hl 0 rfl) ?_
              refine lv_iload_n C.1 C.2.1 dX8_car_105 rfl (lv_at hl 1 rfl) ?_
              obtain ⟨r6, σ5, q_106, hf⟩ := bib hf
              refine z_callI C S 8 0 rfl (by decide) cf_8 ⟨_, rfl⟩ [.int v1] (m_X8_aboardMany l G ad σ1 v1 r6 σ5 q_106 _) kv_X8_aboardMany tw_7_79 ⟨Nat.le_of_ble_eq_true rfl, Nat.le_of_ble_eq_true rfl⟩ rfl rfl (Nat.le_of_ble_eq_true rfl) hl.1 ⟨Nat.le_of_ble_eq_true rfl, Nat.le_of_ble_eq_true rfl⟩ dX8_car_106 (fun H locs S => ?_)
              exact z_iret C S hf dX8_car_109
            · rw [if_neg q_34_4] at hf
              refine lv_tableOut (tgt := 110) C.1 C.2.1 dX8_car_34 (tsw0_4 q_34_0 q_34_1 q_34_2 q_34_3 q_34_4) (by decide) ?_
              refine lv_aload_n C.1 C.2.1 dX8_car_110 rfl (lv_at hl 0 rfl) ?_
              refine z_getR C S 8 0 rfl (by decide) cf_8 0 (by decide) _ (gr_8_0 G ad 0) tw_6_118 dX8_car_111 ?_
              refine lv_bipush (v := 35) C.1 C.2.1 dX8_car_114 (by decide) ?_
              refine lv_iconst (v := 4) C.1 C.2.1 dX8_car_116 (by decide) ?_
              refine lv_iload_n C.1 C.2.1 dX8_car_117 rfl (lv_at hl 2 rfl) ?_
              refine lv_iconst (v := 5) C.1 C.2.1 dX8_car_118 (by decide) ?_
              refine lv_isub C.1 C.2.1 dX8_car_119 ?_
              refine lv_imul C.1 C.2.1 dX8_car_120 ?_
              refine lv_iadd C.1 C.2.1 dX8_car_121 ?_
              refine lv_iload_n C.1 C.2.1 dX8_car_122 rfl (lv_at hl 1 rfl) ?_
              refine lv_iadd C.1 C.2.1 dX8_car_123 ?_
              obtain ⟨g_124, hf⟩ := gd hf
              refine z_iald C S 30 0 rfl (by decide) 2111 (fun _ => rfl) g_124 dX8_car_124 ?_
              exact z_iret C S hf dX8_car_125
  · rw [if_neg c_28] at hf
    exact w_X8_car_31 C _ _ _ _ S (lv_sub hl [] rfl) hf
set_option maxHeartbeats 4000000 in
set_option maxRecDepth 100000 in
theorem w_X8_car_0 {p : Program} {l : Launch} {e : Env} {s : State} {m : MethodId} {args : Array Value} {below : List Frame} {meth : Method} {c : Code} {G : Gx} {ad : Ad} {res : Int32 × Sg} (C : Cx p s m args meth c yX8_car.cls cX8_car 3 (Option.some FieldType.int) G)  : ∀ (σ : Sg) (v1 : Int32) (v2 : Int32) (H : Heap) (locs : List Loc) (ls : Array Slot), z_S 1 G ad σ (z_A 1 ad s.heap.size) s.heap H locs → lv_has ls 3 [(0, .ref (ad 8 0)), (1, .int v1), (2, .int v2)] → f_X8_car  σ v1 v2 = some res → W p l e { frames := 2, cells := 0, slots := 0, locals := 45 } s m args below meth c H locs 0 0 (MQ below (va_Qi (S := Unit) (fun r1 _ => r1 = res.1) (fun _ t => z_W 1 G ad res.2 t.heap) (z_A 1 ad s.heap.size)) args s 0 0 (z_A 1 ad s.heap.size)) (F0 m 0 ls []) := by
  intro σ v1 v2 H locs ls S hl  hf
  unfold f_X8_car at hf
  refine lv_aload_n C.1 C.2.1 dX8_car_0 rfl (lv_at hl 0 rfl) ?_
  refine lv_iload_n C.1 C.2.1 dX8_car_1 rfl (lv_at hl 1 rfl) ?_
  obtain ⟨r2, σ1, q_2, hf⟩ := bib hf
  refine z_callI C S 8 0 rfl (by decide) cf_8 ⟨_, rfl⟩ [.int v1] (m_X8_noCar l G ad σ v1 r2 σ1 q_2 _) kv_X8_noCar tw_7_68 ⟨Nat.le_of_ble_eq_true rfl, Nat.le_of_ble_eq_true rfl⟩ rfl rfl (Nat.le_of_ble_eq_true rfl) hl.1 ⟨Nat.le_of_ble_eq_true rfl, Nat.le_of_ble_eq_true rfl⟩ dX8_car_2 (fun H locs S => ?_)
  refine lv_if_ne (tgt := 31) C.1 C.2.1 dX8_car_5 (by decide) (fun c_5 => ?_) (fun c_5 => ?_)
  · rw [if_neg c_5] at hf
    exact w_X8_car_31 C _ _ _ _ S (lv_sub hl [] rfl) hf
  · rw [if_pos c_5] at hf
    refine lv_aload_n C.1 C.2.1 dX8_car_8 rfl (lv_at hl 0 rfl) ?_
    refine lv_iload_n C.1 C.2.1 dX8_car_9 rfl (lv_at hl 2 rfl) ?_
    refine lv_iconst (v := 0) C.1 C.2.1 dX8_car_10 (by decide) ?_
    refine lv_bipush (v := 9) C.1 C.2.1 dX8_car_11 (by decide) ?_
    obtain ⟨r4, σ3, q_13, hf⟩ := bib hf
    refine z_callSI C S [.int v2, .int 0, .int 9] (m_X8_inRange l G ad σ1 v2 0 9 r4 σ3 q_13 _) kv_X8_inRange tw_6_204 ⟨Nat.le_of_ble_eq_true rfl, Nat.le_of_ble_eq_true rfl⟩ rfl rfl (Nat.le_of_ble_eq_true rfl) hl.1 ⟨Nat.le_of_ble_eq_true rfl, Nat.le_of_ble_eq_true rfl⟩ dX8_car_13 (fun H locs S => ?_)
    refine lv_if_ne (tgt := 23) C.1 C.2.1 dX8_car_16 (by decide) (fun c_16 => ?_) (fun c_16 => ?_)
    · rw [if_neg c_16] at hf
      refine lv_iconst (v := 0) C.1 C.2.1 dX8_car_23 (by decide) ?_
      exact w_X8_car_24 C _ v1 v2 0 _ _ _ S (lv_sub hl [0, 1, 2] rfl) hf
    · rw [if_pos c_16] at hf
      refine lv_iconst (v := 1) C.1 C.2.1 dX8_car_19 (by decide) ?_
      refine lv_goto (tgt := 24) C.1 C.2.1 dX8_car_20 (by decide) ?_
      exact w_X8_car_24 C _ v1 v2 1 _ _ _ S (lv_sub hl [0, 1, 2] rfl) hf
theorem kv_X8_car : KV yX8_car cX8_car 3 (Option.some FieldType.int) 2 := ⟨tw_7_67, tw_7_65, tw_7_66, tw_1_10, by decide, by decide, by decide +kernel⟩
theorem m_X8_car (l : Launch) (G : Gx) (ad : Ad) (σ : Sg) (v1 : Int32) (v2 : Int32) (r : Int32) (σ' : Sg)  (hf : f_X8_car σ v1 v2 = some (r, σ')) (sz : Nat) : z_MI l yX8_car cX8_car 3 (Option.some FieldType.int) 2 45 1 G ad σ sz [.ref (ad 8 0), .int v1, .int v2] r σ' := by
  refine z_begin (by decide +kernel) (Nat.le_of_ble_eq_true rfl) [(0, .ref (ad 8 0)), (1, .int v1), (2, .int v2)] rfl (fun p e s m args below meth c ls C hz S hl => ?_)
  subst hz
  exact w_X8_car_0 (res := (r, σ')) C σ v1 v2 _ _ _ S hl  hf

theorem dX8_noCall_0 : decode cX8_noCall 0 = .ok (.aload_n 0, 1) := by decide +kernel
theorem dX8_noCall_1 : decode cX8_noCall 1 = .ok (.iconst 0, 1) := by decide +kernel
theorem dX8_noCall_2 : decode cX8_noCall 2 = .ok (.putfield 48, 3) := by decide +kernel
theorem dX8_noCall_5 : decode cX8_noCall 5 = .ok (.aload_n 0, 1) := by decide +kernel
theorem dX8_noCall_6 : decode cX8_noCall 6 = .ok (.iload_n 1, 1) := by decide +kernel
theorem dX8_noCall_7 : decode cX8_noCall 7 = .ok (.iconst 0, 1) := by decide +kernel
theorem dX8_noCall_8 : decode cX8_noCall 8 = .ok (.aload_n 0, 1) := by decide +kernel
theorem dX8_noCall_9 : decode cX8_noCall 9 = .ok (.getfield 7, 3) := by decide +kernel
theorem dX8_noCall_12 : decode cX8_noCall 12 = .ok (.iconst 2, 1) := by decide +kernel
theorem dX8_noCall_13 : decode cX8_noCall 13 = .ok (.iaload, 1) := by decide +kernel
theorem dX8_noCall_14 : decode cX8_noCall 14 = .ok (.iconst 1, 1) := by decide +kernel
theorem dX8_noCall_15 : decode cX8_noCall 15 = .ok (.isub, 1) := by decide +kernel
theorem dX8_noCall_16 : decode cX8_noCall 16 = .ok (.invokestatic 165, 3) := by decide +kernel
theorem dX8_noCall_19 : decode cX8_noCall 19 = .ok (.ifCond .ne 7, 3) := by decide +kernel
theorem dX8_noCall_22 : decode cX8_noCall 22 = .ok (.iconst 1, 1) := by decide +kernel
theorem dX8_noCall_23 : decode cX8_noCall 23 = .ok (.goto 4, 3) := by decide +kernel
theorem dX8_noCall_26 : decode cX8_noCall 26 = .ok (.iconst 0, 1) := by decide +kernel
theorem dX8_noCall_27 : decode cX8_noCall 27 = .ok (.iconst 1, 1) := by decide +kernel
theorem dX8_noCall_28 : decode cX8_noCall 28 = .ok (.invokevirtual 267, 3) := by decide +kernel
theorem dX8_noCall_31 : decode cX8_noCall 31 = .ok (.ireturn, 1) := by decide +kernel
/-! BusLiftsModel.noCall(I)Z -/
noncomputable def f_X8_noCall_27  (σ : Sg) (v101 : Int32) : Option (Int32 × Sg) := bi (f_X8_fails σ v101 1) fun r2 σ1 => (if ¬ (r2 = 0 ∨ r2 = 1) then none else (some (r2, σ1)))
noncomputable def f_X8_noCall  (σ : Sg) (v1 : Int32) : Option (Int32 × Sg) := st (sup σ 8 0 8 0) fun σ1 => (bi (f_X8_inRange σ1 v1 0 ((σ1 30 0 2) - 1)) fun r3 σ2 => (if r3 = 0 then (f_X8_noCall_27 σ2 1) else (f_X8_noCall_27 σ2 0)))
set_option maxHeartbeats 4000000 in
set_option maxRecDepth 100000 in
theorem w_X8_noCall_27 {p : Program} {l : Launch} {e : Env} {s : State} {m : MethodId} {args : Array Value} {below : List Frame} {meth : Method} {c : Code} {G : Gx} {ad : Ad} {res : Int32 × Sg} (C : Cx p s m args meth c yX8_noCall.cls cX8_noCall 2 (Option.some FieldType.boolean) G)  : ∀ (σ : Sg) (v101 : Int32) (H : Heap) (locs : List Loc) (ls : Array Slot), z_S 1 G ad σ (z_A 1 ad s.heap.size) s.heap H locs → lv_has ls 2 [] → f_X8_noCall_27  σ v101 = some res → W p l e { frames := 1, cells := 0, slots := 0, locals := 22 } s m args below meth c H locs 0 0 (MQ below (va_Qi (S := Unit) (fun r1 _ => r1 = res.1) (fun _ t => z_W 1 G ad res.2 t.heap) (z_A 1 ad s.heap.size)) args s 0 0 (z_A 1 ad s.heap.size)) (F0 m 27 ls [.int v101, .ref (ad 8 0)]) := by
  intro σ v101 H locs ls S hl  hf
  unfold f_X8_noCall_27 at hf
  refine lv_iconst (v := 1) C.1 C.2.1 dX8_noCall_27 (by decide) ?_
  obtain ⟨r2, σ1, q_28, hf⟩ := bib hf
  refine z_callI C S 8 0 rfl (by decide) cf_8 ⟨_, rfl⟩ [.int v101, .int 1] (m_X8_fails l G ad σ v101 1 r2 σ1 q_28 _) kv_X8_fails tw_7_56 ⟨Nat.le_of_ble_eq_true rfl, Nat.le_of_ble_eq_true rfl⟩ rfl rfl (Nat.le_of_ble_eq_true rfl) hl.1 ⟨Nat.le_of_ble_eq_true rfl, Nat.le_of_ble_eq_true rfl⟩ dX8_noCall_28 (fun H locs S => ?_)
  obtain ⟨g_31, hf⟩ := gd hf
  exact z_zret C S (nbz g_31).1 hf dX8_noCall_31
set_option maxHeartbeats 4000000 in
set_option maxRecDepth 100000 in
theorem w_X8_noCall_0 {p : Program} {l : Launch} {e : Env} {s : State} {m : MethodId} {args : Array Value} {below : List Frame} {meth : Method} {c : Code} {G : Gx} {ad : Ad} {res : Int32 × Sg} (C : Cx p s m args meth c yX8_noCall.cls cX8_noCall 2 (Option.some FieldType.boolean) G)  : ∀ (σ : Sg) (v1 : Int32) (H : Heap) (locs : List Loc) (ls : Array Slot), z_S 1 G ad σ (z_A 1 ad s.heap.size) s.heap H locs → lv_has ls 2 [(0, .ref (ad 8 0)), (1, .int v1)] → f_X8_noCall  σ v1 = some res → W p l e { frames := 1, cells := 0, slots := 0, locals := 22 } s m args below meth c H locs 0 0 (MQ below (va_Qi (S := Unit) (fun r1 _ => r1 = res.1) (fun _ t => z_W 1 G ad res.2 t.heap) (z_A 1 ad s.heap.size)) args s 0 0 (z_A 1 ad s.heap.size)) (F0 m 0 ls []) := by
  intro σ v1 H locs ls S hl  hf
  unfold f_X8_noCall at hf
  refine lv_aload_n C.1 C.2.1 dX8_noCall_0 rfl (lv_at hl 0 rfl) ?_
  refine lv_iconst (v := 0) C.1 C.2.1 dX8_noCall_1 (by decide) ?_
  obtain ⟨σ1, e_2, hf⟩ := stb hf
  refine z_putI C S 8 0 rfl (by decide) cf_8 8 (by decide) (pi_8_8 G ad 0) rfl rfl rfl tw_6_126 dX8_noCall_2 (fun H locs S => ?_)
  rw [← e_2] at S
  refine lv_aload_n C.1 C.2.1 dX8_noCall_5 rfl (lv_at hl 0 rfl) ?_
  refine lv_iload_n C.1 C.2.1 dX8_noCall_6 rfl (lv_at hl 1 rfl) ?_
  refine lv_iconst (v := 0) C.1 C.2.1 dX8_noCall_7 (by decide) ?_
  refine lv_aload_n C.1 C.2.1 dX8_noCall_8 rfl (lv_at hl 0 rfl) ?_
  refine z_getR C S 8 0 rfl (by decide) cf_8 0 (by decide) _ (gr_8_0 G ad 0) tw_6_118 dX8_noCall_9 ?_
  refine lv_iconst (v := 2) C.1 C.2.1 dX8_noCall_12 (by decide) ?_
  refine z_ialdL C S 30 0 rfl (by decide) 2111 (fun _ => rfl) 2 (by decide) (by decide) (by decide) dX8_noCall_13 ?_
  refine lv_iconst (v := 1) C.1 C.2.1 dX8_noCall_14 (by decide) ?_
  refine lv_isub C.1 C.2.1 dX8_noCall_15 ?_
  obtain ⟨r3, σ2, q_16, hf⟩ := bib hf
  refine z_callSI C S [.int v1, .int 0, .int ((σ1 30 0 2) - 1)] (m_X8_inRange l G ad σ1 v1 0 ((σ1 30 0 2) - 1) r3 σ2 q_16 _) kv_X8_inRange tw_6_204 ⟨Nat.le_of_ble_eq_true rfl, Nat.le_of_ble_eq_true rfl⟩ rfl rfl (Nat.le_of_ble_eq_true rfl) hl.1 ⟨Nat.le_of_ble_eq_true rfl, Nat.le_of_ble_eq_true rfl⟩ dX8_noCall_16 (fun H locs S => ?_)
  refine lv_if_ne (tgt := 26) C.1 C.2.1 dX8_noCall_19 (by decide) (fun c_19 => ?_) (fun c_19 => ?_)
  · rw [if_neg c_19] at hf
    refine lv_iconst (v := 0) C.1 C.2.1 dX8_noCall_26 (by decide) ?_
    exact w_X8_noCall_27 C _ 0 _ _ _ S (lv_sub hl [] rfl) hf
  · rw [if_pos c_19] at hf
    refine lv_iconst (v := 1) C.1 C.2.1 dX8_noCall_22 (by decide) ?_
    refine lv_goto (tgt := 27) C.1 C.2.1 dX8_noCall_23 (by decide) ?_
    exact w_X8_noCall_27 C _ 1 _ _ _ S (lv_sub hl [] rfl) hf
theorem kv_X8_noCall : KV yX8_noCall cX8_noCall 2 (Option.some FieldType.boolean) 1 := ⟨tw_7_94, tw_7_93, tw_p_64, tw_1_10, by decide, by decide, by decide +kernel⟩
theorem m_X8_noCall (l : Launch) (G : Gx) (ad : Ad) (σ : Sg) (v1 : Int32) (r : Int32) (σ' : Sg)  (hf : f_X8_noCall σ v1 = some (r, σ')) (sz : Nat) : z_MI l yX8_noCall cX8_noCall 2 (Option.some FieldType.boolean) 1 22 1 G ad σ sz [.ref (ad 8 0), .int v1] r σ' := by
  refine z_begin (by decide +kernel) (Nat.le_of_ble_eq_true rfl) [(0, .ref (ad 8 0)), (1, .int v1)] rfl (fun p e s m args below meth c ls C hz S hl => ?_)
  subst hz
  exact w_X8_noCall_0 (res := (r, σ')) C σ v1 _ _ _ S hl  hf

theorem dX8_holders_0 : decode cX8_holders 0 = .ok (.iconst 0, 1) := by decide +kernel
theorem dX8_holders_1 : decode cX8_holders 1 = .ok (.istore_n 2, 1) := by decide +kernel
theorem dX8_holders_2 : decode cX8_holders 2 = .ok (.iconst 0, 1) := by decide +kernel
theorem dX8_holders_3 : decode cX8_holders 3 = .ok (.istore_n 3, 1) := by decide +kernel
theorem dX8_holders_4 : decode cX8_holders 4 = .ok (.iload_n 3, 1) := by decide +kernel
theorem dX8_holders_5 : decode cX8_holders 5 = .ok (.aload_n 0, 1) := by decide +kernel
theorem dX8_holders_6 : decode cX8_holders 6 = .ok (.getfield 7, 3) := by decide +kernel
theorem dX8_holders_9 : decode cX8_holders 9 = .ok (.iconst 1, 1) := by decide +kernel
theorem dX8_holders_10 : decode cX8_holders 10 = .ok (.iaload, 1) := by decide +kernel
theorem dX8_holders_11 : decode cX8_holders 11 = .ok (.if_icmp .ge 25, 3) := by decide +kernel
theorem dX8_holders_14 : decode cX8_holders 14 = .ok (.iload_n 2, 1) := by decide +kernel
theorem dX8_holders_15 : decode cX8_holders 15 = .ok (.aload_n 0, 1) := by decide +kernel
theorem dX8_holders_16 : decode cX8_holders 16 = .ok (.getfield 7, 3) := by decide +kernel
theorem dX8_holders_19 : decode cX8_holders 19 = .ok (.sipush 319, 3) := by decide +kernel
theorem dX8_holders_22 : decode cX8_holders 22 = .ok (.iload_n 3, 1) := by decide +kernel
theorem dX8_holders_23 : decode cX8_holders 23 = .ok (.iload_n 1, 1) := by decide +kernel
theorem dX8_holders_24 : decode cX8_holders 24 = .ok (.invokestatic 65, 3) := by decide +kernel
theorem dX8_holders_27 : decode cX8_holders 27 = .ok (.iaload, 1) := by decide +kernel
theorem dX8_holders_28 : decode cX8_holders 28 = .ok (.iadd, 1) := by decide +kernel
theorem dX8_holders_29 : decode cX8_holders 29 = .ok (.istore_n 2, 1) := by decide +kernel
theorem dX8_holders_30 : decode cX8_holders 30 = .ok (.iinc 3 1, 3) := by decide +kernel
theorem dX8_holders_33 : decode cX8_holders 33 = .ok (.goto (-29), 3) := by decide +kernel
theorem dX8_holders_36 : decode cX8_holders 36 = .ok (.iload_n 2, 1) := by decide +kernel
theorem dX8_holders_37 : decode cX8_holders 37 = .ok (.ireturn, 1) := by decide +kernel
/-! BusLiftsModel.holders(I)I -/
noncomputable def f_X8_holders_36  (σ : Sg) (v2 : Int32) : Option (Int32 × Sg) := some (v2, σ)
noncomputable def f_X8_holders_4  : Nat → Sg → Int32 → Int32 → Int32 → Option (Int32 × Sg)
  | 0, _, _, _, _ => none
  | n + 1, σ, v1, v2, v3 => if (σ 30 0 1) ≤ v3 then (f_X8_holders_36 σ v2) else (bi (f_X8_of σ 319 v3 v1) fun r2 σ1 => (if r2 < 0 ∨ 2111 ≤ (r2).toNatClampNeg then none else (f_X8_holders_4  n σ1 v1 (v2 + (σ1 30 0 (r2).toNatClampNeg)) (v3 + 1))))
theorem f_X8_holders_4_s  (n : Nat) (σ : Sg) (v1 : Int32) (v2 : Int32) (v3 : Int32) : f_X8_holders_4  (n + 1) σ v1 v2 v3 = (if (σ 30 0 1) ≤ v3 then (f_X8_holders_36 σ v2) else (bi (f_X8_of σ 319 v3 v1) fun r2 σ1 => (if r2 < 0 ∨ 2111 ≤ (r2).toNatClampNeg then none else (f_X8_holders_4  n σ1 v1 (v2 + (σ1 30 0 (r2).toNatClampNeg)) (v3 + 1))))) := rfl
noncomputable def f_X8_holders  (σ : Sg) (v1 : Int32) : Option (Int32 × Sg) := f_X8_holders_4 FU σ v1 0 0
set_option maxHeartbeats 4000000 in
set_option maxRecDepth 100000 in
theorem w_X8_holders_36 {p : Program} {l : Launch} {e : Env} {s : State} {m : MethodId} {args : Array Value} {below : List Frame} {meth : Method} {c : Code} {G : Gx} {ad : Ad} {res : Int32 × Sg} (C : Cx p s m args meth c yX8_holders.cls cX8_holders 4 (Option.some FieldType.int) G)  : ∀ (σ : Sg) (v2 : Int32) (H : Heap) (locs : List Loc) (ls : Array Slot), z_S 1 G ad σ (z_A 1 ad s.heap.size) s.heap H locs → lv_has ls 4 [(2, .int v2)] → f_X8_holders_36  σ v2 = some res → W p l e { frames := 1, cells := 0, slots := 0, locals := 22 } s m args below meth c H locs 0 0 (MQ below (va_Qi (S := Unit) (fun r1 _ => r1 = res.1) (fun _ t => z_W 1 G ad res.2 t.heap) (z_A 1 ad s.heap.size)) args s 0 0 (z_A 1 ad s.heap.size)) (F0 m 36 ls []) := by
  intro σ v2 H locs ls S hl  hf
  unfold f_X8_holders_36 at hf
  refine lv_iload_n C.1 C.2.1 dX8_holders_36 rfl (lv_at hl 0 rfl) ?_
  exact z_iret C S hf dX8_holders_37
set_option maxHeartbeats 4000000 in
set_option maxRecDepth 100000 in
theorem w_X8_holders_4 {p : Program} {l : Launch} {e : Env} {s : State} {m : MethodId} {args : Array Value} {below : List Frame} {meth : Method} {c : Code} {G : Gx} {ad : Ad} {res : Int32 × Sg} (C : Cx p s m args meth c yX8_holders.cls cX8_holders 4 (Option.some FieldType.int) G)  : ∀ n : Nat, ∀ (σ : Sg) (v1 : Int32) (v2 : Int32) (v3 : Int32) (H : Heap) (locs : List Loc) (ls : Array Slot), z_S 1 G ad σ (z_A 1 ad s.heap.size) s.heap H locs → lv_has ls 4 [(0, .ref (ad 8 0)), (1, .int v1), (2, .int v2), (3, .int v3)] → f_X8_holders_4  n σ v1 v2 v3 = some res → W p l e { frames := 1, cells := 0, slots := 0, locals := 22 } s m args below meth c H locs 0 0 (MQ below (va_Qi (S := Unit) (fun r1 _ => r1 = res.1) (fun _ t => z_W 1 G ad res.2 t.heap) (z_A 1 ad s.heap.size)) args s 0 0 (z_A 1 ad s.heap.size)) (F0 m 4 ls []) := by
  intro n
  induction n with
  | zero => intro σ v1 v2 v3 H locs ls S hl  hf; cases hf
  | succ n ih =>
    intro σ v1 v2 v3 H locs ls S hl  hf
    rw [f_X8_holders_4_s] at hf
    refine lv_iload_n C.1 C.2.1 dX8_holders_4 rfl (lv_at hl 3 rfl) ?_
    refine lv_aload_n C.1 C.2.1 dX8_holders_5 rfl (lv_at hl 0 rfl) ?_
    refine z_getR C S 8 0 rfl (by decide) cf_8 0 (by decide) _ (gr_8_0 G ad 0) tw_6_118 dX8_holders_6 ?_
    refine lv_iconst (v := 1) C.1 C.2.1 dX8_holders_9 (by decide) ?_
    refine z_ialdL C S 30 0 rfl (by decide) 2111 (fun _ => rfl) 1 (by decide) (by decide) (by decide) dX8_holders_10 ?_
    refine lv_icmp_ge (tgt := 36) C.1 C.2.1 dX8_holders_11 (by decide) (fun c_11 => ?_) (fun c_11 => ?_)
    · rw [if_pos c_11] at hf
      exact w_X8_holders_36 C _ v2 _ _ _ S (lv_sub hl [2] rfl) hf
    · rw [if_neg c_11] at hf
      refine lv_iload_n C.1 C.2.1 dX8_holders_14 rfl (lv_at hl 2 rfl) ?_
      refine lv_aload_n C.1 C.2.1 dX8_holders_15 rfl (lv_at hl 0 rfl) ?_
      refine z_getR C S 8 0 rfl (by decide) cf_8 0 (by decide) _ (gr_8_0 G ad 0) tw_6_118 dX8_holders_16 ?_
      refine lv_sipush (v := 319) C.1 C.2.1 dX8_holders_19 (by decide) ?_
      refine lv_iload_n C.1 C.2.1 dX8_holders_22 rfl (lv_at hl 3 rfl) ?_
      refine lv_iload_n C.1 C.2.1 dX8_holders_23 rfl (lv_at hl 1 rfl) ?_
      obtain ⟨r2, σ1, q_24, hf⟩ := bib hf
      refine z_callSI C S [.int 319, .int v3, .int v1] (m_X8_of l G ad σ 319 v3 v1 r2 σ1 q_24 _) kv_X8_of tw_7_76 ⟨Nat.le_of_ble_eq_true rfl, Nat.le_of_ble_eq_true rfl⟩ rfl rfl (Nat.le_of_ble_eq_true rfl) hl.1 ⟨Nat.le_of_ble_eq_true rfl, Nat.le_of_ble_eq_true rfl⟩ dX8_holders_24 (fun H locs S => ?_)
      obtain ⟨g_27, hf⟩ := gd hf
      refine z_iald C S 30 0 rfl (by decide) 2111 (fun _ => rfl) g_27 dX8_holders_27 ?_
      refine lv_iadd C.1 C.2.1 dX8_holders_28 ?_
      refine lv_istore_n (lv' := [(2, .int (v2 + (σ1 30 0 (r2).toNatClampNeg))), (0, .ref (ad 8 0)), (1, .int v1), (3, .int v3)]) C.1 C.2.1 dX8_holders_29 rfl hl (by decide) rfl (fun ls hl => ?_)
      refine lv_iinc (v := (v3 + 1)) (lv' := [(3, .int (v3 + 1)), (2, .int (v2 + (σ1 30 0 (r2).toNatClampNeg))), (0, .ref (ad 8 0)), (1, .int v1)]) C.1 C.2.1 dX8_holders_30 hl (k := 3) rfl rfl (by decide) rfl (fun ls hl => ?_)
      refine lv_goto (tgt := 4) C.1 C.2.1 dX8_holders_33 (by decide) ?_
      exact ih _ v1 (v2 + (σ1 30 0 (r2).toNatClampNeg)) (v3 + 1) _ _ _ S (lv_sub hl [2, 3, 1, 0] rfl)  hf
set_option maxHeartbeats 4000000 in
set_option maxRecDepth 100000 in
theorem w_X8_holders_0 {p : Program} {l : Launch} {e : Env} {s : State} {m : MethodId} {args : Array Value} {below : List Frame} {meth : Method} {c : Code} {G : Gx} {ad : Ad} {res : Int32 × Sg} (C : Cx p s m args meth c yX8_holders.cls cX8_holders 4 (Option.some FieldType.int) G)  : ∀ (σ : Sg) (v1 : Int32) (H : Heap) (locs : List Loc) (ls : Array Slot), z_S 1 G ad σ (z_A 1 ad s.heap.size) s.heap H locs → lv_has ls 4 [(0, .ref (ad 8 0)), (1, .int v1)] → f_X8_holders  σ v1 = some res → W p l e { frames := 1, cells := 0, slots := 0, locals := 22 } s m args below meth c H locs 0 0 (MQ below (va_Qi (S := Unit) (fun r1 _ => r1 = res.1) (fun _ t => z_W 1 G ad res.2 t.heap) (z_A 1 ad s.heap.size)) args s 0 0 (z_A 1 ad s.heap.size)) (F0 m 0 ls []) := by
  intro σ v1 H locs ls S hl  hf
  unfold f_X8_holders at hf
  refine lv_iconst (v := 0) C.1 C.2.1 dX8_holders_0 (by decide) ?_
  refine lv_istore_n (lv' := [(2, .int 0), (0, .ref (ad 8 0)), (1, .int v1)]) C.1 C.2.1 dX8_holders_1 rfl hl (by decide) rfl (fun ls hl => ?_)
  refine lv_iconst (v := 0) C.1 C.2.1 dX8_holders_2 (by decide) ?_
  refine lv_istore_n (lv' := [(3, .int 0), (2, .int 0), (0, .ref (ad 8 0)), (1, .int v1)]) C.1 C.2.1 dX8_holders_3 rfl hl (by decide) rfl (fun ls hl => ?_)
  exact w_X8_holders_4 C FU _ v1 0 0 _ _ _ S (lv_sub hl [2, 3, 1, 0] rfl) hf
theorem kv_X8_holders : KV yX8_holders cX8_holders 4 (Option.some FieldType.int) 1 := ⟨tw_7_98, tw_7_97, tw_p_65, tw_1_10, by decide, by decide, by decide +kernel⟩
theorem m_X8_holders (l : Launch) (G : Gx) (ad : Ad) (σ : Sg) (v1 : Int32) (r : Int32) (σ' : Sg)  (hf : f_X8_holders σ v1 = some (r, σ')) (sz : Nat) : z_MI l yX8_holders cX8_holders 4 (Option.some FieldType.int) 1 22 1 G ad σ sz [.ref (ad 8 0), .int v1] r σ' := by
  refine z_begin (by decide +kernel) (Nat.le_of_ble_eq_true rfl) [(0, .ref (ad 8 0)), (1, .int v1)] rfl (fun p e s m args below meth c ls C hz S hl => ?_)
  subst hz
  exact w_X8_holders_0 (res := (r, σ')) C σ v1 _ _ _ S hl  hf

theorem dX8_call_0 : decode cX8_call 0 = .ok (.aload_n 0, 1) := by decide +kernel
theorem dX8_call_1 : decode cX8_call 1 = .ok (.iload_n 1, 1) := by decide +kernel
theorem dX8_call_2 : decode cX8_call 2 = .ok (.invokevirtual 274, 3) := by decide +kernel
theorem dX8_call_5 : decode cX8_call 5 = .ok (.ifCond .ne 26, 3) := by decide +kernel
theorem dX8_call_8 : decode cX8_call 8 = .ok (.aload_n 0, 1) := by decide +kernel
theorem dX8_call_9 : decode cX8_call 9 = .ok (.iload_n 2, 1) := by decide +kernel
theorem dX8_call_10 : decode cX8_call 10 = .ok (.iconst 0, 1) := by decide +kernel
theorem dX8_call_11 : decode cX8_call 11 = .ok (.bipush 10, 2) := by decide +kernel
theorem dX8_call_13 : decode cX8_call 13 = .ok (.invokestatic 165, 3) := by decide +kernel
theorem dX8_call_16 : decode cX8_call 16 = .ok (.ifCond .ne 7, 3) := by decide +kernel
theorem dX8_call_19 : decode cX8_call 19 = .ok (.iconst 1, 1) := by decide +kernel
theorem dX8_call_20 : decode cX8_call 20 = .ok (.goto 4, 3) := by decide +kernel
theorem dX8_call_23 : decode cX8_call 23 = .ok (.iconst 0, 1) := by decide +kernel
theorem dX8_call_24 : decode cX8_call 24 = .ok (.iconst 2, 1) := by decide +kernel
theorem dX8_call_25 : decode cX8_call 25 = .ok (.invokevirtual 267, 3) := by decide +kernel
theorem dX8_call_28 : decode cX8_call 28 = .ok (.ifCond .eq 5, 3) := by decide +kernel
theorem dX8_call_31 : decode cX8_call 31 = .ok (.iconst 0, 1) := by decide +kernel
theorem dX8_call_32 : decode cX8_call 32 = .ok (.ireturn, 1) := by decide +kernel
theorem dX8_call_33 : decode cX8_call 33 = .ok (.iload_n 2, 1) := by decide +kernel
theorem dX8_call_34 : decode cX8_call 34 = .ok (.bipush 9, 2) := by decide +kernel
theorem dX8_call_36 : decode cX8_call 36 = .ok (.if_icmp .ne 9, 3) := by decide +kernel
theorem dX8_call_39 : decode cX8_call 39 = .ok (.aload_n 0, 1) := by decide +kernel
theorem dX8_call_40 : decode cX8_call 40 = .ok (.iload_n 1, 1) := by decide +kernel
theorem dX8_call_41 : decode cX8_call 41 = .ok (.invokevirtual 277, 3) := by decide +kernel
theorem dX8_call_44 : decode cX8_call 44 = .ok (.ireturn, 1) := by decide +kernel
theorem dX8_call_45 : decode cX8_call 45 = .ok (.iload_n 2, 1) := by decide +kernel
theorem dX8_call_46 : decode cX8_call 46 = .ok (.bipush 10, 2) := by decide +kernel
theorem dX8_call_48 : decode cX8_call 48 = .ok (.if_icmp .ne 16, 3) := by decide +kernel
theorem dX8_call_51 : decode cX8_call 51 = .ok (.aload_n 0, 1) := by decide +kernel
theorem dX8_call_52 : decode cX8_call 52 = .ok (.getfield 7, 3) := by decide +kernel
theorem dX8_call_55 : decode cX8_call 55 = .ok (.sipush 295, 3) := by decide +kernel
theorem dX8_call_58 : decode cX8_call 58 = .ok (.iload_n 1, 1) := by decide +kernel
theorem dX8_call_59 : decode cX8_call 59 = .ok (.iadd, 1) := by decide +kernel
theorem dX8_call_60 : decode cX8_call 60 = .ok (.iaload, 1) := by decide +kernel
theorem dX8_call_61 : decode cX8_call 61 = .ok (.goto 17, 3) := by decide +kernel
theorem dX8_call_64 : decode cX8_call 64 = .ok (.aload_n 0, 1) := by decide +kernel
theorem dX8_call_65 : decode cX8_call 65 = .ok (.getfield 7, 3) := by decide +kernel
theorem dX8_call_68 : decode cX8_call 68 = .ok (.bipush 55, 2) := by decide +kernel
theorem dX8_call_70 : decode cX8_call 70 = .ok (.bipush 24, 2) := by decide +kernel
theorem dX8_call_72 : decode cX8_call 72 = .ok (.iload_n 2, 1) := by decide +kernel
theorem dX8_call_73 : decode cX8_call 73 = .ok (.imul, 1) := by decide +kernel
theorem dX8_call_74 : decode cX8_call 74 = .ok (.iadd, 1) := by decide +kernel
theorem dX8_call_75 : decode cX8_call 75 = .ok (.iload_n 1, 1) := by decide +kernel
theorem dX8_call_76 : decode cX8_call 76 = .ok (.iadd, 1) := by decide +kernel
theorem dX8_call_77 : decode cX8_call 77 = .ok (.iaload, 1) := by decide +kernel
theorem dX8_call_78 : decode cX8_call 78 = .ok (.ireturn, 1) := by decide +kernel
/-! BusLiftsModel.call(II)I -/
noncomputable def f_X8_call_31  (σ : Sg)  : Option (Int32 × Sg) := some (0, σ)
noncomputable def f_X8_call_78  (σ : Sg) (v100 : Int32) : Option (Int32 × Sg) := some (v100, σ)
noncomputable def f_X8_call_24  (σ : Sg) (v1 : Int32) (v2 : Int32) (v101 : Int32) : Option (Int32 × Sg) := bi (f_X8_fails σ v101 2) fun r2 σ1 => (if r2 = 0 then (if v2 = 9 then (bi (f_X8_holders σ1 v1) fun r4 σ3 => (some (r4, σ3))) else (if v2 = 10 then (if (295 + v1) < 0 ∨ 2111 ≤ ((295 + v1)).toNatClampNeg then none else (f_X8_call_78 σ1 (σ1 30 0 ((295 + v1)).toNatClampNeg))) else (if ((55 + (24 * v2)) + v1) < 0 ∨ 2111 ≤ (((55 + (24 * v2)) + v1)).toNatClampNeg then none else (f_X8_call_78 σ1 (σ1 30 0 (((55 + (24 * v2)) + v1)).toNatClampNeg))))) else (f_X8_call_31 σ1))
noncomputable def f_X8_call  (σ : Sg) (v1 : Int32) (v2 : Int32) : Option (Int32 × Sg) := bi (f_X8_noCall σ v1) fun r2 σ1 => (if r2 = 0 then (bi (f_X8_inRange σ1 v2 0 10) fun r4 σ3 => (if r4 = 0 then (f_X8_call_24 σ3 v1 v2 1) else (f_X8_call_24 σ3 v1 v2 0))) else (f_X8_call_31 σ1))
set_option maxHeartbeats 4000000 in
set_option maxRecDepth 100000 in
theorem w_X8_call_31 {p : Program} {l : Launch} {e : Env} {s : State} {m : MethodId} {args : Array Value} {below : List Frame} {meth : Method} {c : Code} {G : Gx} {ad : Ad} {res : Int32 × Sg} (C : Cx p s m args meth c yX8_call.cls cX8_call 3 (Option.some FieldType.int) G)  : ∀ (σ : Sg)  (H : Heap) (locs : List Loc) (ls : Array Slot), z_S 1 G ad σ (z_A 1 ad s.heap.size) s.heap H locs → lv_has ls 3 [] → f_X8_call_31  σ  = some res → W p l e { frames := 2, cells := 0, slots := 0, locals := 45 } s m args below meth c H locs 0 0 (MQ below (va_Qi (S := Unit) (fun r1 _ => r1 = res.1) (fun _ t => z_W 1 G ad res.2 t.heap) (z_A 1 ad s.heap.size)) args s 0 0 (z_A 1 ad s.heap.size)) (F0 m 31 ls []) := by
  intro σ  H locs ls S hl  hf
  unfold f_X8_call_31 at hf
  refine lv_iconst (v := 0) C.1 C.2.1 dX8_call_31 (by decide) ?_
  exact z_iret C S hf dX8_call_32
set_option maxHeartbeats 4000000 in
set_option maxRecDepth 100000 in
theorem w_X8_call_78 {p : Program} {l : Launch} {e : Env} {s : State} {m : MethodId} {args : Array Value} {below : List Frame} {meth : Method} {c : Code} {G : Gx} {ad : Ad} {res : Int32 × Sg} (C : Cx p s m args meth c yX8_call.cls cX8_call 3 (Option.some FieldType.int) G)  : ∀ (σ : Sg) (v100 : Int32) (H : Heap) (locs : List Loc) (ls : Array Slot), z_S 1 G ad σ (z_A 1 ad s.heap.size) s.heap H locs → lv_has ls 3 [] → f_X8_call_78  σ v100 = some res → W p l e { frames := 2, cells := 0, slots := 0, locals := 45 } s m args below meth c H locs 0 0 (MQ below (va_Qi (S := Unit) (fun r1 _ => r1 = res.1) (fun _ t => z_W 1 G ad res.2 t.heap) (z_A 1 ad s.heap.size)) args s 0 0 (z_A 1 ad s.heap.size)) (F0 m 78 ls [.int v100]) := by
  intro σ v100 H locs ls S hl  hf
  unfold f_X8_call_78 at hf
  exact z_iret C S hf dX8_call_78
set_option maxHeartbeats 4000000 in
set_option maxRecDepth 100000 in
theorem w_X8_call_24 {p : Program} {l : Launch} {e : Env} {s : State} {m : MethodId} {args : Array Value} {below : List Frame} {meth : Method} {c : Code} {G : Gx} {ad : Ad} {res : Int32 × Sg} (C : Cx p s m args meth c yX8_call.cls cX8_call 3 (Option.some FieldType.int) G)  : ∀ (σ : Sg) (v1 : Int32) (v2 : Int32) (v101 : Int32) (H : Heap) (locs : List Loc) (ls : Array Slot), z_S 1 G ad σ (z_A 1 ad s.heap.size) s.heap H locs → lv_has ls 3 [(0, .ref (ad 8 0)), (1, .int v1), (2, .int v2)] → f_X8_call_24  σ v1 v2 v101 = some res → W p l e { frames := 2, cells := 0, slots := 0, locals := 45 } s m args below meth c H locs 0 0 (MQ below (va_Qi (S := Unit) (fun r1 _ => r1 = res.1) (fun _ t => z_W 1 G ad res.2 t.heap) (z_A 1 ad s.heap.size)) args s 0 0 (z_A 1 ad s.heap.size)) (F0 m 24 ls [.int v101, .ref (ad 8 0)]) := by
  intro σ v1 v2 v101 H locs ls S hl  hf
  unfold f_X8_call_24 at hf
  refine lv_iconst (v := 2) C.1 C.2.1 dX8_call_24 (by decide) ?_
  obtain ⟨r2, σ1, q_25, hf⟩ := bib hf
  refine z_callI C S 8 0 rfl (by decide) cf_8 ⟨_, rfl⟩ [.int v101, .int 2] (m_X8_fails l G ad σ v101 2 r2 σ1 q_25 _) kv_X8_fails tw_7_56 ⟨Nat.le_of_ble_eq_true rfl, Nat.le_of_ble_eq_true rfl⟩ rfl rfl (Nat.le_of_ble_eq_true rfl) hl.1 ⟨Nat.le_of_ble_eq_true rfl, Nat.le_of_ble_eq_true rfl⟩ dX8_call_25 (fun H locs S => ?_)
  refine lv_if_eq (tgt := 33) C.1 C.2.1 dX8_call_28 (by decide) (fun c_28 => ?_) (fun c_28 => ?_)
  · rw [if_pos c_28] at hf
    refine lv_iload_n C.1 C.2.1 dX8_call_33 rfl (lv_at hl 2 rfl) ?_
    refine lv_bipush (v := 9) C.1 C.2.1 dX8_call_34 (by decide) ?_
    refine lv_icmp_ne (tgt := 45) C.1 C.2.1 dX8_call_36 (by decide) (fun c_36 => ?_) (fun c_36 => ?_)
    · rw [if_neg c_36] at hf
      refine lv_iload_n C.1 C.2.1 dX8_call_45 rfl (lv_at hl 2 rfl) ?_
      refine lv_bipush (v := 10) C.1 C.2.1 dX8_call_46 (by decide) ?_
      refine lv_icmp_ne (tgt := 64) C.1 C.2.1 dX8_call_48 (by decide) (fun c_48 => ?_) (fun c_48 => ?_)
      · rw [if_neg c_48] at hf
        refine lv_aload_n C.1 C.2.1 dX8_call_64 rfl (lv_at hl 0 rfl) ?_
        refine z_getR C S 8 0 rfl (by decide) cf_8 0 (by decide) _ (gr_8_0 G ad 0) tw_6_118 dX8_call_65 ?_
        refine lv_bipush (v := 55) C.1 C.2.1 dX8_call_68 (by decide) ?_
        refine lv_bipush (v := 24) C.1 C.2.1 dX8_call_70 (by decide) ?_
        refine lv_iload_n C.1 C.2.1 dX8_call_72 rfl (lv_at hl 2 rfl) ?_
        refine lv_imul C.1 C.2.1 dX8_call_73 ?_
        refine lv_iadd C.1 C.2.1 dX8_call_74 ?_
        refine lv_iload_n C.1 C.2.1 dX8_call_75 rfl (lv_at hl 1 rfl) ?_
        refine lv_iadd C.1 C.2.1 dX8_call_76 ?_
        obtain ⟨g_77, hf⟩ := gd hf
        refine z_iald C S 30 0 rfl (by decide) 2111 (fun _ => rfl) g_77 dX8_call_77 ?_
        exact w_X8_call_78 C _ (σ1 30 0 (((55 + (24 * v2)) + v1)).toNatClampNeg) _ _ _ S (lv_sub hl [] rfl) hf
      · rw [if_pos c_48] at hf
        refine lv_aload_n C.1 C.2.1 dX8_call_51 rfl (lv_at hl 0 rfl) ?_
        refine z_getR C S 8 0 rfl (by decide) cf_8 0 (by decide) _ (gr_8_0 G ad 0) tw_6_118 dX8_call_52 ?_
        refine lv_sipush (v := 295) C.1 C.2.1 dX8_call_55 (by decide) ?_
        refine lv_iload_n C.1 C.2.1 dX8_call_58 rfl (lv_at hl 1 rfl) ?_
        refine lv_iadd C.1 C.2.1 dX8_call_59 ?_
        obtain ⟨g_60, hf⟩ := gd hf
        refine z_iald C S 30 0 rfl (by decide) 2111 (fun _ => rfl) g_60 dX8_call_60 ?_
        refine lv_goto (tgt := 78) C.1 C.2.1 dX8_call_61 (by decide) ?_
        exact w_X8_call_78 C _ (σ1 30 0 ((295 + v1)).toNatClampNeg) _ _ _ S (lv_sub hl [] rfl) hf
    · rw [if_pos c_36] at hf
      refine lv_aload_n C.1 C.2.1 dX8_call_39 rfl (lv_at hl 0 rfl) ?_
      refine lv_iload_n C.1 C.2.1 dX8_call_40 rfl (lv_at hl 1 rfl) ?_
      obtain ⟨r4, σ3, q_41, hf⟩ := bib hf
      refine z_callI C S 8 0 rfl (by decide) cf_8 ⟨_, rfl⟩ [.int v1] (m_X8_holders l G ad σ1 v1 r4 σ3 q_41 _) kv_X8_holders tw_7_95 ⟨Nat.le_of_ble_eq_true rfl, Nat.le_of_ble_eq_true rfl⟩ rfl rfl (Nat.le_of_ble_eq_true rfl) hl.1 ⟨Nat.le_of_ble_eq_true rfl, Nat.le_of_ble_eq_true rfl⟩ dX8_call_41 (fun H locs S => ?_)
      exact z_iret C S hf dX8_call_44
  · rw [if_neg c_28] at hf
    exact w_X8_call_31 C _ _ _ _ S (lv_sub hl [] rfl) hf
set_option maxHeartbeats 4000000 in
set_option maxRecDepth 100000 in
theorem w_X8_call_0 {p : Program} {l : Launch} {e : Env} {s : State} {m : MethodId} {args : Array Value} {below : List Frame} {meth : Method} {c : Code} {G : Gx} {ad : Ad} {res : Int32 × Sg} (C : Cx p s m args meth c yX8_call.cls cX8_call 3 (Option.some FieldType.int) G)  : ∀ (σ : Sg) (v1 : Int32) (v2 : Int32) (H : Heap) (locs : List Loc) (ls : Array Slot), z_S 1 G ad σ (z_A 1 ad s.heap.size) s.heap H locs → lv_has ls 3 [(0, .ref (ad 8 0)), (1, .int v1), (2, .int v2)] → f_X8_call  σ v1 v2 = some res → W p l e { frames := 2, cells := 0, slots := 0, locals := 45 } s m args below meth c H locs 0 0 (MQ below (va_Qi (S := Unit) (fun r1 _ => r1 = res.1) (fun _ t => z_W 1 G ad res.2 t.heap) (z_A 1 ad s.heap.size)) args s 0 0 (z_A 1 ad s.heap.size)) (F0 m 0 ls []) := by
  intro σ v1 v2 H locs ls S hl  hf
  unfold f_X8_call at hf
  refine lv_aload_n C.1 C.2.1 dX8_call_0 rfl (lv_at hl 0 rfl) ?_
  refine lv_iload_n C.1 C.2.1 dX8_call_1 rfl (lv_at hl 1 rfl) ?_
  obtain ⟨r2, σ1, q_2, hf⟩ := bib hf
  refine z_callI C S 8 0 rfl (by decide) cf_8 ⟨_, rfl⟩ [.int v1] (m_X8_noCall l G ad σ v1 r2 σ1 q_2 _) kv_X8_noCall tw_7_91 ⟨Nat.le_of_ble_eq_true rfl, Nat.le_of_ble_eq_true rfl⟩ rfl rfl (Nat.le_of_ble_eq_true rfl) hl.1 ⟨Nat.le_of_ble_eq_true rfl, Nat.le_of_ble_eq_true rfl⟩ dX8_call_2 (fun H locs S => ?_)
  refine lv_if_ne (tgt := 31) C.1 C.2.1 dX8_call_5 (by decide) (fun c_5 => ?_) (fun c_5 => ?_)
  · rw [if_neg c_5] at hf
    exact w_X8_call_31 C _ _ _ _ S (lv_sub hl [] rfl) hf
  · rw [if_pos c_5] at hf
    refine lv_aload_n C.1 C.2.1 dX8_call_8 rfl (lv_at hl 0 rfl) ?_
    refine lv_iload_n C.1 C.2.1 dX8_call_9 rfl (lv_at hl 2 rfl) ?_
    refine lv_iconst (v := 0) C.1 C.2.1 dX8_call_10 (by decide) ?_
    refine lv_bipush (v := 10) C.1 C.2.1 dX8_call_11 (by decide) ?_
    obtain ⟨r4, σ3, q_13, hf⟩ := bib hf
    refine z_callSI C S [.int v2, .int 0, .int 10] (m_X8_inRange l G ad σ1 v2 0 10 r4 σ3 q_13 _) kv_X8_inRange tw_6_204 ⟨Nat.le_of_ble_eq_true rfl, Nat.le_of_ble_eq_true rfl⟩ rfl rfl (Nat.le_of_ble_eq_true rfl) hl.1 ⟨Nat.le_of_ble_eq_true rfl, Nat.le_of_ble_eq_true rfl⟩ dX8_call_13 (fun H locs S => ?_)
    refine lv_if_ne (tgt := 23) C.1 C.2.1 dX8_call_16 (by decide) (fun c_16 => ?_) (fun c_16 => ?_)
    · rw [if_neg c_16] at hf
      refine lv_iconst (v := 0) C.1 C.2.1 dX8_call_23 (by decide) ?_
      exact w_X8_call_24 C _ v1 v2 0 _ _ _ S (lv_sub hl [0, 1, 2] rfl) hf
    · rw [if_pos c_16] at hf
      refine lv_iconst (v := 1) C.1 C.2.1 dX8_call_19 (by decide) ?_
      refine lv_goto (tgt := 24) C.1 C.2.1 dX8_call_20 (by decide) ?_
      exact w_X8_call_24 C _ v1 v2 1 _ _ _ S (lv_sub hl [0, 1, 2] rfl) hf
theorem kv_X8_call : KV yX8_call cX8_call 3 (Option.some FieldType.int) 2 := ⟨tw_7_90, tw_7_88, tw_7_89, tw_1_10, by decide, by decide, by decide +kernel⟩
theorem m_X8_call (l : Launch) (G : Gx) (ad : Ad) (σ : Sg) (v1 : Int32) (v2 : Int32) (r : Int32) (σ' : Sg)  (hf : f_X8_call σ v1 v2 = some (r, σ')) (sz : Nat) : z_MI l yX8_call cX8_call 3 (Option.some FieldType.int) 2 45 1 G ad σ sz [.ref (ad 8 0), .int v1, .int v2] r σ' := by
  refine z_begin (by decide +kernel) (Nat.le_of_ble_eq_true rfl) [(0, .ref (ad 8 0)), (1, .int v1), (2, .int v2)] rfl (fun p e s m args below meth c ls C hz S hl => ?_)
  subst hz
  exact w_X8_call_0 (res := (r, σ')) C σ v1 v2 _ _ _ S hl  hf

theorem dX8_waitNow_0 : decode cX8_waitNow 0 = .ok (.aload_n 0, 1) := by decide +kernel
theorem dX8_waitNow_1 : decode cX8_waitNow 1 = .ok (.getfield 7, 3) := by decide +kernel
theorem dX8_waitNow_4 : decode cX8_waitNow 4 = .ok (.bipush 127, 2) := by decide +kernel
theorem dX8_waitNow_6 : decode cX8_waitNow 6 = .ok (.iload_n 1, 1) := by decide +kernel
theorem dX8_waitNow_7 : decode cX8_waitNow 7 = .ok (.iadd, 1) := by decide +kernel
theorem dX8_waitNow_8 : decode cX8_waitNow 8 = .ok (.iaload, 1) := by decide +kernel
theorem dX8_waitNow_9 : decode cX8_waitNow 9 = .ok (.ifCond .ne 5, 3) := by decide +kernel
theorem dX8_waitNow_12 : decode cX8_waitNow 12 = .ok (.iconst (-1), 1) := by decide +kernel
theorem dX8_waitNow_13 : decode cX8_waitNow 13 = .ok (.ireturn, 1) := by decide +kernel
theorem dX8_waitNow_14 : decode cX8_waitNow 14 = .ok (.aload_n 0, 1) := by decide +kernel
theorem dX8_waitNow_15 : decode cX8_waitNow 15 = .ok (.getfield 7, 3) := by decide +kernel
theorem dX8_waitNow_18 : decode cX8_waitNow 18 = .ok (.bipush 127, 2) := by decide +kernel
theorem dX8_waitNow_20 : decode cX8_waitNow 20 = .ok (.iload_n 1, 1) := by decide +kernel
theorem dX8_waitNow_21 : decode cX8_waitNow 21 = .ok (.iadd, 1) := by decide +kernel
theorem dX8_waitNow_22 : decode cX8_waitNow 22 = .ok (.iaload, 1) := by decide +kernel
theorem dX8_waitNow_23 : decode cX8_waitNow 23 = .ok (.iconst 1, 1) := by decide +kernel
theorem dX8_waitNow_24 : decode cX8_waitNow 24 = .ok (.if_icmp .ne 12, 3) := by decide +kernel
theorem dX8_waitNow_27 : decode cX8_waitNow 27 = .ok (.aload_n 0, 1) := by decide +kernel
theorem dX8_waitNow_28 : decode cX8_waitNow 28 = .ok (.getfield 7, 3) := by decide +kernel
theorem dX8_waitNow_31 : decode cX8_waitNow 31 = .ok (.iconst 3, 1) := by decide +kernel
theorem dX8_waitNow_32 : decode cX8_waitNow 32 = .ok (.iaload, 1) := by decide +kernel
theorem dX8_waitNow_33 : decode cX8_waitNow 33 = .ok (.goto 13, 3) := by decide +kernel
theorem dX8_waitNow_36 : decode cX8_waitNow 36 = .ok (.aload_n 0, 1) := by decide +kernel
theorem dX8_waitNow_37 : decode cX8_waitNow 37 = .ok (.getfield 7, 3) := by decide +kernel
theorem dX8_waitNow_40 : decode cX8_waitNow 40 = .ok (.sipush 175, 3) := by decide +kernel
theorem dX8_waitNow_43 : decode cX8_waitNow 43 = .ok (.iload_n 1, 1) := by decide +kernel
theorem dX8_waitNow_44 : decode cX8_waitNow 44 = .ok (.iadd, 1) := by decide +kernel
theorem dX8_waitNow_45 : decode cX8_waitNow 45 = .ok (.iaload, 1) := by decide +kernel
theorem dX8_waitNow_46 : decode cX8_waitNow 46 = .ok (.aload_n 0, 1) := by decide +kernel
theorem dX8_waitNow_47 : decode cX8_waitNow 47 = .ok (.getfield 7, 3) := by decide +kernel
theorem dX8_waitNow_50 : decode cX8_waitNow 50 = .ok (.bipush 103, 2) := by decide +kernel
theorem dX8_waitNow_52 : decode cX8_waitNow 52 = .ok (.iload_n 1, 1) := by decide +kernel
theorem dX8_waitNow_53 : decode cX8_waitNow 53 = .ok (.iadd, 1) := by decide +kernel
theorem dX8_waitNow_54 : decode cX8_waitNow 54 = .ok (.iaload, 1) := by decide +kernel
theorem dX8_waitNow_55 : decode cX8_waitNow 55 = .ok (.isub, 1) := by decide +kernel
theorem dX8_waitNow_56 : decode cX8_waitNow 56 = .ok (.ireturn, 1) := by decide +kernel
/-! BusLiftsModel.waitNow(I)I -/
noncomputable def f_X8_waitNow_46  (σ : Sg) (v1 : Int32) (v100 : Int32) : Option (Int32 × Sg) := if (103 + v1) < 0 ∨ 2111 ≤ ((103 + v1)).toNatClampNeg then none else (some ((v100 - (σ 30 0 ((103 + v1)).toNatClampNeg)), σ))
noncomputable def f_X8_waitNow  (σ : Sg) (v1 : Int32) : Option (Int32 × Sg) := if (127 + v1) < 0 ∨ 2111 ≤ ((127 + v1)).toNatClampNeg then none else (if (σ 30 0 ((127 + v1)).toNatClampNeg) = 0 then (some ((-1), σ)) else (if (127 + v1) < 0 ∨ 2111 ≤ ((127 + v1)).toNatClampNeg then none else (if (σ 30 0 ((127 + v1)).toNatClampNeg) = 1 then (f_X8_waitNow_46 σ v1 (σ 30 0 3)) else (if (175 + v1) < 0 ∨ 2111 ≤ ((175 + v1)).toNatClampNeg then none else (f_X8_waitNow_46 σ v1 (σ 30 0 ((175 + v1)).toNatClampNeg))))))
set_option maxHeartbeats 4000000 in
set_option maxRecDepth 100000 in
theorem w_X8_waitNow_46 {p : Program} {l : Launch} {e : Env} {s : State} {m : MethodId} {args : Array Value} {below : List Frame} {meth : Method} {c : Code} {G : Gx} {ad : Ad} {res : Int32 × Sg} (C : Cx p s m args meth c yX8_waitNow.cls cX8_waitNow 2 (Option.some FieldType.int) G)  : ∀ (σ : Sg) (v1 : Int32) (v100 : Int32) (H : Heap) (locs : List Loc) (ls : Array Slot), z_S 1 G ad σ (z_A 1 ad s.heap.size) s.heap H locs → lv_has ls 2 [(0, .ref (ad 8 0)), (1, .int v1)] → f_X8_waitNow_46  σ v1 v100 = some res → W p l e { frames := 0, cells := 0, slots := 0, locals := 0 } s m args below meth c H locs 0 0 (MQ below (va_Qi (S := Unit) (fun r1 _ => r1 = res.1) (fun _ t => z_W 1 G ad res.2 t.heap) (z_A 1 ad s.heap.size)) args s 0 0 (z_A 1 ad s.heap.size)) (F0 m 46 ls [.int v100]) := by
  intro σ v1 v100 H locs ls S hl  hf
  unfold f_X8_waitNow_46 at hf
  refine lv_aload_n C.1 C.2.1 dX8_waitNow_46 rfl (lv_at hl 0 rfl) ?_
  refine z_getR C S 8 0 rfl (by decide) cf_8 0 (by decide) _ (gr_8_0 G ad 0) tw_6_118 dX8_waitNow_47 ?_
  refine lv_bipush (v := 103) C.1 C.2.1 dX8_waitNow_50 (by decide) ?_
  refine lv_iload_n C.1 C.2.1 dX8_waitNow_52 rfl (lv_at hl 1 rfl) ?_
  refine lv_iadd C.1 C.2.1 dX8_waitNow_53 ?_
  obtain ⟨g_54, hf⟩ := gd hf
  refine z_iald C S 30 0 rfl (by decide) 2111 (fun _ => rfl) g_54 dX8_waitNow_54 ?_
  refine lv_isub C.1 C.2.1 dX8_waitNow_55 ?_
  exact z_iret C S hf dX8_waitNow_56
set_option maxHeartbeats 4000000 in
set_option maxRecDepth 100000 in
theorem w_X8_waitNow_0 {p : Program} {l : Launch} {e : Env} {s : State} {m : MethodId} {args : Array Value} {below : List Frame} {meth : Method} {c : Code} {G : Gx} {ad : Ad} {res : Int32 × Sg} (C : Cx p s m args meth c yX8_waitNow.cls cX8_waitNow 2 (Option.some FieldType.int) G)  : ∀ (σ : Sg) (v1 : Int32) (H : Heap) (locs : List Loc) (ls : Array Slot), z_S 1 G ad σ (z_A 1 ad s.heap.size) s.heap H locs → lv_has ls 2 [(0, .ref (ad 8 0)), (1, .int v1)] → f_X8_waitNow  σ v1 = some res → W p l e { frames := 0, cells := 0, slots := 0, locals := 0 } s m args below meth c H locs 0 0 (MQ below (va_Qi (S := Unit) (fun r1 _ => r1 = res.1) (fun _ t => z_W 1 G ad res.2 t.heap) (z_A 1 ad s.heap.size)) args s 0 0 (z_A 1 ad s.heap.size)) (F0 m 0 ls []) := by
  intro σ v1 H locs ls S hl  hf
  unfold f_X8_waitNow at hf
  refine lv_aload_n C.1 C.2.1 dX8_waitNow_0 rfl (lv_at hl 0 rfl) ?_
  refine z_getR C S 8 0 rfl (by decide) cf_8 0 (by decide) _ (gr_8_0 G ad 0) tw_6_118 dX8_waitNow_1 ?_
  refine lv_bipush (v := 127) C.1 C.2.1 dX8_waitNow_4 (by decide) ?_
  refine lv_iload_n C.1 C.2.1 dX8_waitNow_6 rfl (lv_at hl 1 rfl) ?_
  refine lv_iadd C.1 C.2.1 dX8_waitNow_7 ?_
  obtain ⟨g_8, hf⟩ := gd hf
  refine z_iald C S 30 0 rfl (by decide) 2111 (fun _ => rfl) g_8 dX8_waitNow_8 ?_
  refine lv_if_ne (tgt := 14) C.1 C.2.1 dX8_waitNow_9 (by decide) (fun c_9 => ?_) (fun c_9 => ?_)
  · rw [if_neg c_9] at hf
    refine lv_aload_n C.1 C.2.1 dX8_waitNow_14 rfl (lv_at hl 0 rfl) ?_
    refine z_getR C S 8 0 rfl (by decide) cf_8 0 (by decide) _ (gr_8_0 G ad 0) tw_6_118 dX8_waitNow_15 ?_
    refine lv_bipush (v := 127) C.1 C.2.1 dX8_waitNow_18 (by decide) ?_
    refine lv_iload_n C.1 C.2.1 dX8_waitNow_20 rfl (lv_at hl 1 rfl) ?_
    refine lv_iadd C.1 C.2.1 dX8_waitNow_21 ?_
    obtain ⟨g_22, hf⟩ := gd hf
    refine z_iald C S 30 0 rfl (by decide) 2111 (fun _ => rfl) g_22 dX8_waitNow_22 ?_
    refine lv_iconst (v := 1) C.1 C.2.1 dX8_waitNow_23 (by decide) ?_
    refine lv_icmp_ne (tgt := 36) C.1 C.2.1 dX8_waitNow_24 (by decide) (fun c_24 => ?_) (fun c_24 => ?_)
    · rw [if_neg c_24] at hf
      refine lv_aload_n C.1 C.2.1 dX8_waitNow_36 rfl (lv_at hl 0 rfl) ?_
      refine z_getR C S 8 0 rfl (by decide) cf_8 0 (by decide) _ (gr_8_0 G ad 0) tw_6_118 dX8_waitNow_37 ?_
      refine lv_sipush (v := 175) C.1 C.2.1 dX8_waitNow_40 (by decide) ?_
      refine lv_iload_n C.1 C.2.1 dX8_waitNow_43 rfl (lv_at hl 1 rfl) ?_
      refine lv_iadd C.1 C.2.1 dX8_waitNow_44 ?_
      obtain ⟨g_45, hf⟩ := gd hf
      refine z_iald C S 30 0 rfl (by decide) 2111 (fun _ => rfl) g_45 dX8_waitNow_45 ?_
      exact w_X8_waitNow_46 C _ v1 (σ 30 0 ((175 + v1)).toNatClampNeg) _ _ _ S (lv_sub hl [0, 1] rfl) hf
    · rw [if_pos c_24] at hf
      refine lv_aload_n C.1 C.2.1 dX8_waitNow_27 rfl (lv_at hl 0 rfl) ?_
      refine z_getR C S 8 0 rfl (by decide) cf_8 0 (by decide) _ (gr_8_0 G ad 0) tw_6_118 dX8_waitNow_28 ?_
      refine lv_iconst (v := 3) C.1 C.2.1 dX8_waitNow_31 (by decide) ?_
      refine z_ialdL C S 30 0 rfl (by decide) 2111 (fun _ => rfl) 3 (by decide) (by decide) (by decide) dX8_waitNow_32 ?_
      refine lv_goto (tgt := 46) C.1 C.2.1 dX8_waitNow_33 (by decide) ?_
      exact w_X8_waitNow_46 C _ v1 (σ 30 0 3) _ _ _ S (lv_sub hl [0, 1] rfl) hf
  · rw [if_pos c_9] at hf
    refine lv_iconst (v := (-1)) C.1 C.2.1 dX8_waitNow_12 (by decide) ?_
    exact z_iret C S hf dX8_waitNow_13
theorem kv_X8_waitNow : KV yX8_waitNow cX8_waitNow 2 (Option.some FieldType.int) 1 := ⟨tw_7_106, tw_7_105, tw_p_66, tw_1_10, by decide, by decide, by decide +kernel⟩
theorem m_X8_waitNow (l : Launch) (G : Gx) (ad : Ad) (σ : Sg) (v1 : Int32) (r : Int32) (σ' : Sg)  (hf : f_X8_waitNow σ v1 = some (r, σ')) (sz : Nat) : z_MI l yX8_waitNow cX8_waitNow 2 (Option.some FieldType.int) 0 0 1 G ad σ sz [.ref (ad 8 0), .int v1] r σ' := by
  refine z_begin (by decide +kernel) (Nat.le_of_ble_eq_true rfl) [(0, .ref (ad 8 0)), (1, .int v1)] rfl (fun p e s m args below meth c ls C hz S hl => ?_)
  subst hz
  exact w_X8_waitNow_0 (res := (r, σ')) C σ v1 _ _ _ S hl  hf

theorem dX8_waitOf_0 : decode cX8_waitOf 0 = .ok (.aload_n 0, 1) := by decide +kernel
theorem dX8_waitOf_1 : decode cX8_waitOf 1 = .ok (.iload_n 1, 1) := by decide +kernel
theorem dX8_waitOf_2 : decode cX8_waitOf 2 = .ok (.invokevirtual 274, 3) := by decide +kernel
theorem dX8_waitOf_5 : decode cX8_waitOf 5 = .ok (.ifCond .eq 7, 3) := by decide +kernel
theorem dX8_waitOf_8 : decode cX8_waitOf 8 = .ok (.iconst 0, 1) := by decide +kernel
theorem dX8_waitOf_9 : decode cX8_waitOf 9 = .ok (.goto 8, 3) := by decide +kernel
theorem dX8_waitOf_12 : decode cX8_waitOf 12 = .ok (.aload_n 0, 1) := by decide +kernel
theorem dX8_waitOf_13 : decode cX8_waitOf 13 = .ok (.iload_n 1, 1) := by decide +kernel
theorem dX8_waitOf_14 : decode cX8_waitOf 14 = .ok (.invokevirtual 280, 3) := by decide +kernel
theorem dX8_waitOf_17 : decode cX8_waitOf 17 = .ok (.ireturn, 1) := by decide +kernel
/-! BusLiftsModel.waitOf(I)I -/
noncomputable def f_X8_waitOf_17  (σ : Sg) (v100 : Int32) : Option (Int32 × Sg) := some (v100, σ)
noncomputable def f_X8_waitOf  (σ : Sg) (v1 : Int32) : Option (Int32 × Sg) := bi (f_X8_noCall σ v1) fun r2 σ1 => (if r2 = 0 then (bi (f_X8_waitNow σ1 v1) fun r4 σ3 => (f_X8_waitOf_17 σ3 r4)) else (f_X8_waitOf_17 σ1 0))
set_option maxHeartbeats 4000000 in
set_option maxRecDepth 100000 in
theorem w_X8_waitOf_17 {p : Program} {l : Launch} {e : Env} {s : State} {m : MethodId} {args : Array Value} {below : List Frame} {meth : Method} {c : Code} {G : Gx} {ad : Ad} {res : Int32 × Sg} (C : Cx p s m args meth c yX8_waitOf.cls cX8_waitOf 2 (Option.some FieldType.int) G)  : ∀ (σ : Sg) (v100 : Int32) (H : Heap) (locs : List Loc) (ls : Array Slot), z_S 1 G ad σ (z_A 1 ad s.heap.size) s.heap H locs → lv_has ls 2 [] → f_X8_waitOf_17  σ v100 = some res → W p l e { frames := 2, cells := 0, slots := 0, locals := 43 } s m args below meth c H locs 0 0 (MQ below (va_Qi (S := Unit) (fun r1 _ => r1 = res.1) (fun _ t => z_W 1 G ad res.2 t.heap) (z_A 1 ad s.heap.size)) args s 0 0 (z_A 1 ad s.heap.size)) (F0 m 17 ls [.int v100]) := by
  intro σ v100 H locs ls S hl  hf
  unfold f_X8_waitOf_17 at hf
  exact z_iret C S hf dX8_waitOf_17
set_option maxHeartbeats 4000000 in
set_option maxRecDepth 100000 in
theorem w_X8_waitOf_0 {p : Program} {l : Launch} {e : Env} {s : State} {m : MethodId} {args : Array Value} {below : List Frame} {meth : Method} {c : Code} {G : Gx} {ad : Ad} {res : Int32 × Sg} (C : Cx p s m args meth c yX8_waitOf.cls cX8_waitOf 2 (Option.some FieldType.int) G)  : ∀ (σ : Sg) (v1 : Int32) (H : Heap) (locs : List Loc) (ls : Array Slot), z_S 1 G ad σ (z_A 1 ad s.heap.size) s.heap H locs → lv_has ls 2 [(0, .ref (ad 8 0)), (1, .int v1)] → f_X8_waitOf  σ v1 = some res → W p l e { frames := 2, cells := 0, slots := 0, locals := 43 } s m args below meth c H locs 0 0 (MQ below (va_Qi (S := Unit) (fun r1 _ => r1 = res.1) (fun _ t => z_W 1 G ad res.2 t.heap) (z_A 1 ad s.heap.size)) args s 0 0 (z_A 1 ad s.heap.size)) (F0 m 0 ls []) := by
  intro σ v1 H locs ls S hl  hf
  unfold f_X8_waitOf at hf
  refine lv_aload_n C.1 C.2.1 dX8_waitOf_0 rfl (lv_at hl 0 rfl) ?_
  refine lv_iload_n C.1 C.2.1 dX8_waitOf_1 rfl (lv_at hl 1 rfl) ?_
  obtain ⟨r2, σ1, q_2, hf⟩ := bib hf
  refine z_callI C S 8 0 rfl (by decide) cf_8 ⟨_, rfl⟩ [.int v1] (m_X8_noCall l G ad σ v1 r2 σ1 q_2 _) kv_X8_noCall tw_7_91 ⟨Nat.le_of_ble_eq_true rfl, Nat.le_of_ble_eq_true rfl⟩ rfl rfl (Nat.le_of_ble_eq_true rfl) hl.1 ⟨Nat.le_of_ble_eq_true rfl, Nat.le_of_ble_eq_true rfl⟩ dX8_waitOf_2 (fun H locs S => ?_)
  refine lv_if_eq (tgt := 12) C.1 C.2.1 dX8_waitOf_5 (by decide) (fun c_5 => ?_) (fun c_5 => ?_)
  · rw [if_pos c_5] at hf
    refine lv_aload_n C.1 C.2.1 dX8_waitOf_12 rfl (lv_at hl 0 rfl) ?_
    refine lv_iload_n C.1 C.2.1 dX8_waitOf_13 rfl (lv_at hl 1 rfl) ?_
    obtain ⟨r4, σ3, q_14, hf⟩ := bib hf
    refine z_callI C S 8 0 rfl (by decide) cf_8 ⟨_, rfl⟩ [.int v1] (m_X8_waitNow l G ad σ1 v1 r4 σ3 q_14 _) kv_X8_waitNow tw_7_103 ⟨Nat.le_of_ble_eq_true rfl, Nat.le_of_ble_eq_true rfl⟩ rfl rfl (Nat.le_of_ble_eq_true rfl) hl.1 ⟨Nat.le_of_ble_eq_true rfl, Nat.le_of_ble_eq_true rfl⟩ dX8_waitOf_14 (fun H locs S => ?_)
    exact w_X8_waitOf_17 C _ r4 _ _ _ S (lv_sub hl [] rfl) hf
  · rw [if_neg c_5] at hf
    refine lv_iconst (v := 0) C.1 C.2.1 dX8_waitOf_8 (by decide) ?_
    refine lv_goto (tgt := 17) C.1 C.2.1 dX8_waitOf_9 (by decide) ?_
    exact w_X8_waitOf_17 C _ 0 _ _ _ S (lv_sub hl [] rfl) hf
theorem kv_X8_waitOf : KV yX8_waitOf cX8_waitOf 2 (Option.some FieldType.int) 1 := ⟨tw_7_102, tw_7_100, tw_7_101, tw_1_10, by decide, by decide, by decide +kernel⟩
theorem m_X8_waitOf (l : Launch) (G : Gx) (ad : Ad) (σ : Sg) (v1 : Int32) (r : Int32) (σ' : Sg)  (hf : f_X8_waitOf σ v1 = some (r, σ')) (sz : Nat) : z_MI l yX8_waitOf cX8_waitOf 2 (Option.some FieldType.int) 2 43 1 G ad σ sz [.ref (ad 8 0), .int v1] r σ' := by
  refine z_begin (by decide +kernel) (Nat.le_of_ble_eq_true rfl) [(0, .ref (ad 8 0)), (1, .int v1)] rfl (fun p e s m args below meth c ls C hz S hl => ?_)
  subst hz
  exact w_X8_waitOf_0 (res := (r, σ')) C σ v1 _ _ _ S hl  hf

theorem dX8_noPair_0 : decode cX8_noPair 0 = .ok (.aload_n 0, 1) := by decide +kernel
theorem dX8_noPair_1 : decode cX8_noPair 1 = .ok (.iload_n 1, 1) := by decide +kernel
theorem dX8_noPair_2 : decode cX8_noPair 2 = .ok (.invokevirtual 271, 3) := by decide +kernel
theorem dX8_noPair_5 : decode cX8_noPair 5 = .ok (.ifCond .ne 11, 3) := by decide +kernel
theorem dX8_noPair_8 : decode cX8_noPair 8 = .ok (.aload_n 0, 1) := by decide +kernel
theorem dX8_noPair_9 : decode cX8_noPair 9 = .ok (.iload_n 2, 1) := by decide +kernel
theorem dX8_noPair_10 : decode cX8_noPair 10 = .ok (.invokevirtual 274, 3) := by decide +kernel
theorem dX8_noPair_13 : decode cX8_noPair 13 = .ok (.ifCond .eq 7, 3) := by decide +kernel
theorem dX8_noPair_16 : decode cX8_noPair 16 = .ok (.iconst 1, 1) := by decide +kernel
theorem dX8_noPair_17 : decode cX8_noPair 17 = .ok (.goto 4, 3) := by decide +kernel
theorem dX8_noPair_20 : decode cX8_noPair 20 = .ok (.iconst 0, 1) := by decide +kernel
theorem dX8_noPair_21 : decode cX8_noPair 21 = .ok (.ireturn, 1) := by decide +kernel
/-! BusLiftsModel.noPair(II)Z -/
noncomputable def f_X8_noPair_21  (σ : Sg) (v100 : Int32) : Option (Int32 × Sg) := if ¬ (v100 = 0 ∨ v100 = 1) then none else (some (v100, σ))
noncomputable def f_X8_noPair_16  (σ : Sg)  : Option (Int32 × Sg) := f_X8_noPair_21 σ 1
noncomputable def f_X8_noPair  (σ : Sg) (v1 : Int32) (v2 : Int32) : Option (Int32 × Sg) := bi (f_X8_noCar σ v1) fun r2 σ1 => (if r2 = 0 then (bi (f_X8_noCall σ1 v2) fun r4 σ3 => (if r4 = 0 then (f_X8_noPair_21 σ3 0) else (f_X8_noPair_16 σ3))) else (f_X8_noPair_16 σ1))
set_option maxHeartbeats 4000000 in
set_option maxRecDepth 100000 in
theorem w_X8_noPair_21 {p : Program} {l : Launch} {e : Env} {s : State} {m : MethodId} {args : Array Value} {below : List Frame} {meth : Method} {c : Code} {G : Gx} {ad : Ad} {res : Int32 × Sg} (C : Cx p s m args meth c yX8_noPair.cls cX8_noPair 3 (Option.some FieldType.boolean) G)  : ∀ (σ : Sg) (v100 : Int32) (H : Heap) (locs : List Loc) (ls : Array Slot), z_S 1 G ad σ (z_A 1 ad s.heap.size) s.heap H locs → lv_has ls 3 [] → f_X8_noPair_21  σ v100 = some res → W p l e { frames := 2, cells := 0, slots := 0, locals := 43 } s m args below meth c H locs 0 0 (MQ below (va_Qi (S := Unit) (fun r1 _ => r1 = res.1) (fun _ t => z_W 1 G ad res.2 t.heap) (z_A 1 ad s.heap.size)) args s 0 0 (z_A 1 ad s.heap.size)) (F0 m 21 ls [.int v100]) := by
  intro σ v100 H locs ls S hl  hf
  unfold f_X8_noPair_21 at hf
  obtain ⟨g_21, hf⟩ := gd hf
  exact z_zret C S (nbz g_21).1 hf dX8_noPair_21
set_option maxHeartbeats 4000000 in
set_option maxRecDepth 100000 in
theorem w_X8_noPair_16 {p : Program} {l : Launch} {e : Env} {s : State} {m : MethodId} {args : Array Value} {below : List Frame} {meth : Method} {c : Code} {G : Gx} {ad : Ad} {res : Int32 × Sg} (C : Cx p s m args meth c yX8_noPair.cls cX8_noPair 3 (Option.some FieldType.boolean) G)  : ∀ (σ : Sg)  (H : Heap) (locs : List Loc) (ls : Array Slot), z_S 1 G ad σ (z_A 1 ad s.heap.size) s.heap H locs → lv_has ls 3 [] → f_X8_noPair_16  σ  = some res → W p l e { frames := 2, cells := 0, slots := 0, locals := 43 } s m args below meth c H locs 0 0 (MQ below (va_Qi (S := Unit) (fun r1 _ => r1 = res.1) (fun _ t => z_W 1 G ad res.2 t.heap) (z_A 1 ad s.heap.size)) args s 0 0 (z_A 1 ad s.heap.size)) (F0 m 16 ls []) := by
  intro σ  H locs ls S hl  hf
  unfold f_X8_noPair_16 at hf
  refine lv_iconst (v := 1) C.1 C.2.1 dX8_noPair_16 (by decide) ?_
  refine lv_goto (tgt := 21) C.1 C.2.1 dX8_noPair_17 (by decide) ?_
  exact w_X8_noPair_21 C _ 1 _ _ _ S (lv_sub hl [] rfl) hf
set_option maxHeartbeats 4000000 in
set_option maxRecDepth 100000 in
theorem w_X8_noPair_0 {p : Program} {l : Launch} {e : Env} {s : State} {m : MethodId} {args : Array Value} {below : List Frame} {meth : Method} {c : Code} {G : Gx} {ad : Ad} {res : Int32 × Sg} (C : Cx p s m args meth c yX8_noPair.cls cX8_noPair 3 (Option.some FieldType.boolean) G)  : ∀ (σ : Sg) (v1 : Int32) (v2 : Int32) (H : Heap) (locs : List Loc) (ls : Array Slot), z_S 1 G ad σ (z_A 1 ad s.heap.size) s.heap H locs → lv_has ls 3 [(0, .ref (ad 8 0)), (1, .int v1), (2, .int v2)] → f_X8_noPair  σ v1 v2 = some res → W p l e { frames := 2, cells := 0, slots := 0, locals := 43 } s m args below meth c H locs 0 0 (MQ below (va_Qi (S := Unit) (fun r1 _ => r1 = res.1) (fun _ t => z_W 1 G ad res.2 t.heap) (z_A 1 ad s.heap.size)) args s 0 0 (z_A 1 ad s.heap.size)) (F0 m 0 ls []) := by
  intro σ v1 v2 H locs ls S hl  hf
  unfold f_X8_noPair at hf
  refine lv_aload_n C.1 C.2.1 dX8_noPair_0 rfl (lv_at hl 0 rfl) ?_
  refine lv_iload_n C.1 C.2.1 dX8_noPair_1 rfl (lv_at hl 1 rfl) ?_
  obtain ⟨r2, σ1, q_2, hf⟩ := bib hf
  refine z_callI C S 8 0 rfl (by decide) cf_8 ⟨_, rfl⟩ [.int v1] (m_X8_noCar l G ad σ v1 r2 σ1 q_2 _) kv_X8_noCar tw_7_68 ⟨Nat.le_of_ble_eq_true rfl, Nat.le_of_ble_eq_true rfl⟩ rfl rfl (Nat.le_of_ble_eq_true rfl) hl.1 ⟨Nat.le_of_ble_eq_true rfl, Nat.le_of_ble_eq_true rfl⟩ dX8_noPair_2 (fun H locs S => ?_)
  refine lv_if_ne (tgt := 16) C.1 C.2.1 dX8_noPair_5 (by decide) (fun c_5 => ?_) (fun c_5 => ?_)
  · rw [if_neg c_5] at hf
    exact w_X8_noPair_16 C _ _ _ _ S (lv_sub hl [] rfl) hf
  · rw [if_pos c_5] at hf
    refine lv_aload_n C.1 C.2.1 dX8_noPair_8 rfl (lv_at hl 0 rfl) ?_
    refine lv_iload_n C.1 C.2.1 dX8_noPair_9 rfl (lv_at hl 2 rfl) ?_
    obtain ⟨r4, σ3, q_10, hf⟩ := bib hf
    refine z_callI C S 8 0 rfl (by decide) cf_8 ⟨_, rfl⟩ [.int v2] (m_X8_noCall l G ad σ1 v2 r4 σ3 q_10 _) kv_X8_noCall tw_7_91 ⟨Nat.le_of_ble_eq_true rfl, Nat.le_of_ble_eq_true rfl⟩ rfl rfl (Nat.le_of_ble_eq_true rfl) hl.1 ⟨Nat.le_of_ble_eq_true rfl, Nat.le_of_ble_eq_true rfl⟩ dX8_noPair_10 (fun H locs S => ?_)
    refine lv_if_eq (tgt := 20) C.1 C.2.1 dX8_noPair_13 (by decide) (fun c_13 => ?_) (fun c_13 => ?_)
    · rw [if_pos c_13] at hf
      refine lv_iconst (v := 0) C.1 C.2.1 dX8_noPair_20 (by decide) ?_
      exact w_X8_noPair_21 C _ 0 _ _ _ S (lv_sub hl [] rfl) hf
    · rw [if_neg c_13] at hf
      exact w_X8_noPair_16 C _ _ _ _ S (lv_sub hl [] rfl) hf
theorem kv_X8_noPair : KV yX8_noPair cX8_noPair 3 (Option.some FieldType.boolean) 2 := ⟨tw_7_114, tw_7_113, tw_p_67, tw_1_10, by decide, by decide, by decide +kernel⟩
theorem m_X8_noPair (l : Launch) (G : Gx) (ad : Ad) (σ : Sg) (v1 : Int32) (v2 : Int32) (r : Int32) (σ' : Sg)  (hf : f_X8_noPair σ v1 v2 = some (r, σ')) (sz : Nat) : z_MI l yX8_noPair cX8_noPair 3 (Option.some FieldType.boolean) 2 43 1 G ad σ sz [.ref (ad 8 0), .int v1, .int v2] r σ' := by
  refine z_begin (by decide +kernel) (Nat.le_of_ble_eq_true rfl) [(0, .ref (ad 8 0)), (1, .int v1), (2, .int v2)] rfl (fun p e s m args below meth c ls C hz S hl => ?_)
  subst hz
  exact w_X8_noPair_0 (res := (r, σ')) C σ v1 v2 _ _ _ S hl  hf

theorem dX8_doesHold_0 : decode cX8_doesHold 0 = .ok (.aload_n 0, 1) := by decide +kernel
theorem dX8_doesHold_1 : decode cX8_doesHold 1 = .ok (.getfield 7, 3) := by decide +kernel
theorem dX8_doesHold_4 : decode cX8_doesHold 4 = .ok (.sipush 319, 3) := by decide +kernel
theorem dX8_doesHold_7 : decode cX8_doesHold 7 = .ok (.iload_n 1, 1) := by decide +kernel
theorem dX8_doesHold_8 : decode cX8_doesHold 8 = .ok (.iload_n 2, 1) := by decide +kernel
theorem dX8_doesHold_9 : decode cX8_doesHold 9 = .ok (.invokestatic 65, 3) := by decide +kernel
theorem dX8_doesHold_12 : decode cX8_doesHold 12 = .ok (.iaload, 1) := by decide +kernel
theorem dX8_doesHold_13 : decode cX8_doesHold 13 = .ok (.iconst 1, 1) := by decide +kernel
theorem dX8_doesHold_14 : decode cX8_doesHold 14 = .ok (.if_icmp .ne 7, 3) := by decide +kernel
theorem dX8_doesHold_17 : decode cX8_doesHold 17 = .ok (.iconst 1, 1) := by decide +kernel
theorem dX8_doesHold_18 : decode cX8_doesHold 18 = .ok (.goto 4, 3) := by decide +kernel
theorem dX8_doesHold_21 : decode cX8_doesHold 21 = .ok (.iconst 0, 1) := by decide +kernel
theorem dX8_doesHold_22 : decode cX8_doesHold 22 = .ok (.ireturn, 1) := by decide +kernel
/-! BusLiftsModel.doesHold(II)Z -/
noncomputable def f_X8_doesHold_22  (σ : Sg) (v100 : Int32) : Option (Int32 × Sg) := if ¬ (v100 = 0 ∨ v100 = 1) then none else (some (v100, σ))
noncomputable def f_X8_doesHold  (σ : Sg) (v1 : Int32) (v2 : Int32) : Option (Int32 × Sg) := bi (f_X8_of σ 319 v1 v2) fun r2 σ1 => (if r2 < 0 ∨ 2111 ≤ (r2).toNatClampNeg then none else (if (σ1 30 0 (r2).toNatClampNeg) = 1 then (f_X8_doesHold_22 σ1 1) else (f_X8_doesHold_22 σ1 0)))
set_option maxHeartbeats 4000000 in
set_option maxRecDepth 100000 in
theorem w_X8_doesHold_22 {p : Program} {l : Launch} {e : Env} {s : State} {m : MethodId} {args : Array Value} {below : List Frame} {meth : Method} {c : Code} {G : Gx} {ad : Ad} {res : Int32 × Sg} (C : Cx p s m args meth c yX8_doesHold.cls cX8_doesHold 3 (Option.some FieldType.boolean) G)  : ∀ (σ : Sg) (v100 : Int32) (H : Heap) (locs : List Loc) (ls : Array Slot), z_S 1 G ad σ (z_A 1 ad s.heap.size) s.heap H locs → lv_has ls 3 [] → f_X8_doesHold_22  σ v100 = some res → W p l e { frames := 1, cells := 0, slots := 0, locals := 22 } s m args below meth c H locs 0 0 (MQ below (va_Qi (S := Unit) (fun r1 _ => r1 = res.1) (fun _ t => z_W 1 G ad res.2 t.heap) (z_A 1 ad s.heap.size)) args s 0 0 (z_A 1 ad s.heap.size)) (F0 m 22 ls [.int v100]) := by
  intro σ v100 H locs ls S hl  hf
  unfold f_X8_doesHold_22 at hf
  obtain ⟨g_22, hf⟩ := gd hf
  exact z_zret C S (nbz g_22).1 hf dX8_doesHold_22
set_option maxHeartbeats 4000000 in
set_option maxRecDepth 100000 in
theorem w_X8_doesHold_0 {p : Program} {l : Launch} {e : Env} {s : State} {m : MethodId} {args : Array Value} {below : List Frame} {meth : Method} {c : Code} {G : Gx} {ad : Ad} {res : Int32 × Sg} (C : Cx p s m args meth c yX8_doesHold.cls cX8_doesHold 3 (Option.some FieldType.boolean) G)  : ∀ (σ : Sg) (v1 : Int32) (v2 : Int32) (H : Heap) (locs : List Loc) (ls : Array Slot), z_S 1 G ad σ (z_A 1 ad s.heap.size) s.heap H locs → lv_has ls 3 [(0, .ref (ad 8 0)), (1, .int v1), (2, .int v2)] → f_X8_doesHold  σ v1 v2 = some res → W p l e { frames := 1, cells := 0, slots := 0, locals := 22 } s m args below meth c H locs 0 0 (MQ below (va_Qi (S := Unit) (fun r1 _ => r1 = res.1) (fun _ t => z_W 1 G ad res.2 t.heap) (z_A 1 ad s.heap.size)) args s 0 0 (z_A 1 ad s.heap.size)) (F0 m 0 ls []) := by
  intro σ v1 v2 H locs ls S hl  hf
  unfold f_X8_doesHold at hf
  refine lv_aload_n C.1 C.2.1 dX8_doesHold_0 rfl (lv_at hl 0 rfl) ?_
  refine z_getR C S 8 0 rfl (by decide) cf_8 0 (by decide) _ (gr_8_0 G ad 0) tw_6_118 dX8_doesHold_1 ?_
  refine lv_sipush (v := 319) C.1 C.2.1 dX8_doesHold_4 (by decide) ?_
  refine lv_iload_n C.1 C.2.1 dX8_doesHold_7 rfl (lv_at hl 1 rfl) ?_
  refine lv_iload_n C.1 C.2.1 dX8_doesHold_8 rfl (lv_at hl 2 rfl) ?_
  obtain ⟨r2, σ1, q_9, hf⟩ := bib hf
  refine z_callSI C S [.int 319, .int v1, .int v2] (m_X8_of l G ad σ 319 v1 v2 r2 σ1 q_9 _) kv_X8_of tw_7_76 ⟨Nat.le_of_ble_eq_true rfl, Nat.le_of_ble_eq_true rfl⟩ rfl rfl (Nat.le_of_ble_eq_true rfl) hl.1 ⟨Nat.le_of_ble_eq_true rfl, Nat.le_of_ble_eq_true rfl⟩ dX8_doesHold_9 (fun H locs S => ?_)
  obtain ⟨g_12, hf⟩ := gd hf
  refine z_iald C S 30 0 rfl (by decide) 2111 (fun _ => rfl) g_12 dX8_doesHold_12 ?_
  refine lv_iconst (v := 1) C.1 C.2.1 dX8_doesHold_13 (by decide) ?_
  refine lv_icmp_ne (tgt := 21) C.1 C.2.1 dX8_doesHold_14 (by decide) (fun c_14 => ?_) (fun c_14 => ?_)
  · rw [if_neg c_14] at hf
    refine lv_iconst (v := 0) C.1 C.2.1 dX8_doesHold_21 (by decide) ?_
    exact w_X8_doesHold_22 C _ 0 _ _ _ S (lv_sub hl [] rfl) hf
  · rw [if_pos c_14] at hf
    refine lv_iconst (v := 1) C.1 C.2.1 dX8_doesHold_17 (by decide) ?_
    refine lv_goto (tgt := 22) C.1 C.2.1 dX8_doesHold_18 (by decide) ?_
    exact w_X8_doesHold_22 C _ 1 _ _ _ S (lv_sub hl [] rfl) hf
theorem kv_X8_doesHold : KV yX8_doesHold cX8_doesHold 3 (Option.some FieldType.boolean) 2 := ⟨tw_7_118, tw_7_117, tw_p_68, tw_1_10, by decide, by decide, by decide +kernel⟩
theorem m_X8_doesHold (l : Launch) (G : Gx) (ad : Ad) (σ : Sg) (v1 : Int32) (v2 : Int32) (r : Int32) (σ' : Sg)  (hf : f_X8_doesHold σ v1 v2 = some (r, σ')) (sz : Nat) : z_MI l yX8_doesHold cX8_doesHold 3 (Option.some FieldType.boolean) 1 22 1 G ad σ sz [.ref (ad 8 0), .int v1, .int v2] r σ' := by
  refine z_begin (by decide +kernel) (Nat.le_of_ble_eq_true rfl) [(0, .ref (ad 8 0)), (1, .int v1), (2, .int v2)] rfl (fun p e s m args below meth c ls C hz S hl => ?_)
  subst hz
  exact w_X8_doesHold_0 (res := (r, σ')) C σ v1 v2 _ _ _ S hl  hf

theorem dX8_holds_0 : decode cX8_holds 0 = .ok (.aload_n 0, 1) := by decide +kernel
theorem dX8_holds_1 : decode cX8_holds 1 = .ok (.iload_n 1, 1) := by decide +kernel
theorem dX8_holds_2 : decode cX8_holds 2 = .ok (.iload_n 2, 1) := by decide +kernel
theorem dX8_holds_3 : decode cX8_holds 3 = .ok (.invokevirtual 283, 3) := by decide +kernel
theorem dX8_holds_6 : decode cX8_holds 6 = .ok (.ifCond .ne 16, 3) := by decide +kernel
theorem dX8_holds_9 : decode cX8_holds 9 = .ok (.aload_n 0, 1) := by decide +kernel
theorem dX8_holds_10 : decode cX8_holds 10 = .ok (.iload_n 1, 1) := by decide +kernel
theorem dX8_holds_11 : decode cX8_holds 11 = .ok (.iload_n 2, 1) := by decide +kernel
theorem dX8_holds_12 : decode cX8_holds 12 = .ok (.invokevirtual 92, 3) := by decide +kernel
theorem dX8_holds_15 : decode cX8_holds 15 = .ok (.ifCond .eq 7, 3) := by decide +kernel
theorem dX8_holds_18 : decode cX8_holds 18 = .ok (.iconst 1, 1) := by decide +kernel
theorem dX8_holds_19 : decode cX8_holds 19 = .ok (.goto 4, 3) := by decide +kernel
theorem dX8_holds_22 : decode cX8_holds 22 = .ok (.iconst 0, 1) := by decide +kernel
theorem dX8_holds_23 : decode cX8_holds 23 = .ok (.ireturn, 1) := by decide +kernel
/-! BusLiftsModel.holds(II)Z -/
noncomputable def f_X8_holds_23  (σ : Sg) (v100 : Int32) : Option (Int32 × Sg) := if ¬ (v100 = 0 ∨ v100 = 1) then none else (some (v100, σ))
noncomputable def f_X8_holds_22  (σ : Sg)  : Option (Int32 × Sg) := f_X8_holds_23 σ 0
noncomputable def f_X8_holds  (σ : Sg) (v1 : Int32) (v2 : Int32) : Option (Int32 × Sg) := bi (f_X8_noPair σ v1 v2) fun r2 σ1 => (if r2 = 0 then (bi (f_X8_doesHold σ1 v1 v2) fun r4 σ3 => (if r4 = 0 then (f_X8_holds_22 σ3) else (f_X8_holds_23 σ3 1))) else (f_X8_holds_22 σ1))
set_option maxHeartbeats 4000000 in
set_option maxRecDepth 100000 in
theorem w_X8_holds_23 {p : Program} {l : Launch} {e : Env} {s : State} {m : MethodId} {args : Array Value} {below : List Frame} {meth : Method} {c : Code} {G : Gx} {ad : Ad} {res : Int32 × Sg} (C : Cx p s m args meth c yX8_holds.cls cX8_holds 3 (Option.some FieldType.boolean) G)  : ∀ (σ : Sg) (v100 : Int32) (H : Heap) (locs : List Loc) (ls : Array Slot), z_S 1 G ad σ (z_A 1 ad s.heap.size) s.heap H locs → lv_has ls 3 [] → f_X8_holds_23  σ v100 = some res → W p l e { frames := 3, cells := 0, slots := 0, locals := 65 } s m args below meth c H locs 0 0 (MQ below (va_Qi (S := Unit) (fun r1 _ => r1 = res.1) (fun _ t => z_W 1 G ad res.2 t.heap) (z_A 1 ad s.heap.size)) args s 0 0 (z_A 1 ad s.heap.size)) (F0 m 23 ls [.int v100]) := by
  intro σ v100 H locs ls S hl  hf
  unfold f_X8_holds_23 at hf
  obtain ⟨g_23, hf⟩ := gd hf
  exact z_zret C S (nbz g_23).1 hf dX8_holds_23
set_option maxHeartbeats 4000000 in
set_option maxRecDepth 100000 in
theorem w_X8_holds_22 {p : Program} {l : Launch} {e : Env} {s : State} {m : MethodId} {args : Array Value} {below : List Frame} {meth : Method} {c : Code} {G : Gx} {ad : Ad} {res : Int32 × Sg} (C : Cx p s m args meth c yX8_holds.cls cX8_holds 3 (Option.some FieldType.boolean) G)  : ∀ (σ : Sg)  (H : Heap) (locs : List Loc) (ls : Array Slot), z_S 1 G ad σ (z_A 1 ad s.heap.size) s.heap H locs → lv_has ls 3 [] → f_X8_holds_22  σ  = some res → W p l e { frames := 3, cells := 0, slots := 0, locals := 65 } s m args below meth c H locs 0 0 (MQ below (va_Qi (S := Unit) (fun r1 _ => r1 = res.1) (fun _ t => z_W 1 G ad res.2 t.heap) (z_A 1 ad s.heap.size)) args s 0 0 (z_A 1 ad s.heap.size)) (F0 m 22 ls []) := by
  intro σ  H locs ls S hl  hf
  unfold f_X8_holds_22 at hf
  refine lv_iconst (v := 0) C.1 C.2.1 dX8_holds_22 (by decide) ?_
  exact w_X8_holds_23 C _ 0 _ _ _ S (lv_sub hl [] rfl) hf
set_option maxHeartbeats 4000000 in
set_option maxRecDepth 100000 in
theorem w_X8_holds_0 {p : Program} {l : Launch} {e : Env} {s : State} {m : MethodId} {args : Array Value} {below : List Frame} {meth : Method} {c : Code} {G : Gx} {ad : Ad} {res : Int32 × Sg} (C : Cx p s m args meth c yX8_holds.cls cX8_holds 3 (Option.some FieldType.boolean) G)  : ∀ (σ : Sg) (v1 : Int32) (v2 : Int32) (H : Heap) (locs : List Loc) (ls : Array Slot), z_S 1 G ad σ (z_A 1 ad s.heap.size) s.heap H locs → lv_has ls 3 [(0, .ref (ad 8 0)), (1, .int v1), (2, .int v2)] → f_X8_holds  σ v1 v2 = some res → W p l e { frames := 3, cells := 0, slots := 0, locals := 65 } s m args below meth c H locs 0 0 (MQ below (va_Qi (S := Unit) (fun r1 _ => r1 = res.1) (fun _ t => z_W 1 G ad res.2 t.heap) (z_A 1 ad s.heap.size)) args s 0 0 (z_A 1 ad s.heap.size)) (F0 m 0 ls []) := by
  intro σ v1 v2 H locs ls S hl  hf
  unfold f_X8_holds at hf
  refine lv_aload_n C.1 C.2.1 dX8_holds_0 rfl (lv_at hl 0 rfl) ?_
  refine lv_iload_n C.1 C.2.1 dX8_holds_1 rfl (lv_at hl 1 rfl) ?_
  refine lv_iload_n C.1 C.2.1 dX8_holds_2 rfl (lv_at hl 2 rfl) ?_
  obtain ⟨r2, σ1, q_3, hf⟩ := bib hf
  refine z_callI C S 8 0 rfl (by decide) cf_8 ⟨_, rfl⟩ [.int v1, .int v2] (m_X8_noPair l G ad σ v1 v2 r2 σ1 q_3 _) kv_X8_noPair tw_7_111 ⟨Nat.le_of_ble_eq_true rfl, Nat.le_of_ble_eq_true rfl⟩ rfl rfl (Nat.le_of_ble_eq_true rfl) hl.1 ⟨Nat.le_of_ble_eq_true rfl, Nat.le_of_ble_eq_true rfl⟩ dX8_holds_3 (fun H locs S => ?_)
  refine lv_if_ne (tgt := 22) C.1 C.2.1 dX8_holds_6 (by decide) (fun c_6 => ?_) (fun c_6 => ?_)
  · rw [if_neg c_6] at hf
    exact w_X8_holds_22 C _ _ _ _ S (lv_sub hl [] rfl) hf
  · rw [if_pos c_6] at hf
    refine lv_aload_n C.1 C.2.1 dX8_holds_9 rfl (lv_at hl 0 rfl) ?_
    refine lv_iload_n C.1 C.2.1 dX8_holds_10 rfl (lv_at hl 1 rfl) ?_
    refine lv_iload_n C.1 C.2.1 dX8_holds_11 rfl (lv_at hl 2 rfl) ?_
    obtain ⟨r4, σ3, q_12, hf⟩ := bib hf
    refine z_callI C S 8 0 rfl (by decide) cf_8 ⟨_, rfl⟩ [.int v1, .int v2] (m_X8_doesHold l G ad σ1 v1 v2 r4 σ3 q_12 _) kv_X8_doesHold tw_7_115 ⟨Nat.le_of_ble_eq_true rfl, Nat.le_of_ble_eq_true rfl⟩ rfl rfl (Nat.le_of_ble_eq_true rfl) hl.1 ⟨Nat.le_of_ble_eq_true rfl, Nat.le_of_ble_eq_true rfl⟩ dX8_holds_12 (fun H locs S => ?_)
    refine lv_if_eq (tgt := 22) C.1 C.2.1 dX8_holds_15 (by decide) (fun c_15 => ?_) (fun c_15 => ?_)
    · rw [if_pos c_15] at hf
      exact w_X8_holds_22 C _ _ _ _ S (lv_sub hl [] rfl) hf
    · rw [if_neg c_15] at hf
      refine lv_iconst (v := 1) C.1 C.2.1 dX8_holds_18 (by decide) ?_
      refine lv_goto (tgt := 23) C.1 C.2.1 dX8_holds_19 (by decide) ?_
      exact w_X8_holds_23 C _ 1 _ _ _ S (lv_sub hl [] rfl) hf
theorem kv_X8_holds : KV yX8_holds cX8_holds 3 (Option.some FieldType.boolean) 2 := ⟨tw_7_110, tw_7_108, tw_7_109, tw_1_10, by decide, by decide, by decide +kernel⟩
theorem m_X8_holds (l : Launch) (G : Gx) (ad : Ad) (σ : Sg) (v1 : Int32) (v2 : Int32) (r : Int32) (σ' : Sg)  (hf : f_X8_holds σ v1 v2 = some (r, σ')) (sz : Nat) : z_MI l yX8_holds cX8_holds 3 (Option.some FieldType.boolean) 3 65 1 G ad σ sz [.ref (ad 8 0), .int v1, .int v2] r σ' := by
  refine z_begin (by decide +kernel) (Nat.le_of_ble_eq_true rfl) [(0, .ref (ad 8 0)), (1, .int v1), (2, .int v2)] rfl (fun p e s m args below meth c ls C hz S hl => ?_)
  subst hz
  exact w_X8_holds_0 (res := (r, σ')) C σ v1 v2 _ _ _ S hl  hf

theorem dX8_knowsOwn_0 : decode cX8_knowsOwn 0 = .ok (.aload_n 0, 1) := by decide +kernel
theorem dX8_knowsOwn_1 : decode cX8_knowsOwn 1 = .ok (.iload_n 1, 1) := by decide +kernel
theorem dX8_knowsOwn_2 : decode cX8_knowsOwn 2 = .ok (.iload_n 2, 1) := by decide +kernel
theorem dX8_knowsOwn_3 : decode cX8_knowsOwn 3 = .ok (.invokevirtual 92, 3) := by decide +kernel
theorem dX8_knowsOwn_6 : decode cX8_knowsOwn 6 = .ok (.ifCond .ne 20, 3) := by decide +kernel
theorem dX8_knowsOwn_9 : decode cX8_knowsOwn 9 = .ok (.aload_n 0, 1) := by decide +kernel
theorem dX8_knowsOwn_10 : decode cX8_knowsOwn 10 = .ok (.getfield 7, 3) := by decide +kernel
theorem dX8_knowsOwn_13 : decode cX8_knowsOwn 13 = .ok (.sipush 511, 3) := by decide +kernel
theorem dX8_knowsOwn_16 : decode cX8_knowsOwn 16 = .ok (.iload_n 1, 1) := by decide +kernel
theorem dX8_knowsOwn_17 : decode cX8_knowsOwn 17 = .ok (.iload_n 2, 1) := by decide +kernel
theorem dX8_knowsOwn_18 : decode cX8_knowsOwn 18 = .ok (.invokestatic 65, 3) := by decide +kernel
theorem dX8_knowsOwn_21 : decode cX8_knowsOwn 21 = .ok (.iaload, 1) := by decide +kernel
theorem dX8_knowsOwn_22 : decode cX8_knowsOwn 22 = .ok (.iconst (-1), 1) := by decide +kernel
theorem dX8_knowsOwn_23 : decode cX8_knowsOwn 23 = .ok (.if_icmp .eq 7, 3) := by decide +kernel
theorem dX8_knowsOwn_26 : decode cX8_knowsOwn 26 = .ok (.iconst 1, 1) := by decide +kernel
theorem dX8_knowsOwn_27 : decode cX8_knowsOwn 27 = .ok (.goto 4, 3) := by decide +kernel
theorem dX8_knowsOwn_30 : decode cX8_knowsOwn 30 = .ok (.iconst 0, 1) := by decide +kernel
theorem dX8_knowsOwn_31 : decode cX8_knowsOwn 31 = .ok (.ireturn, 1) := by decide +kernel
/-! BusLiftsModel.knowsOwn(II)Z -/
noncomputable def f_X8_knowsOwn_31  (σ : Sg) (v100 : Int32) : Option (Int32 × Sg) := if ¬ (v100 = 0 ∨ v100 = 1) then none else (some (v100, σ))
noncomputable def f_X8_knowsOwn_26  (σ : Sg)  : Option (Int32 × Sg) := f_X8_knowsOwn_31 σ 1
noncomputable def f_X8_knowsOwn  (σ : Sg) (v1 : Int32) (v2 : Int32) : Option (Int32 × Sg) := bi (f_X8_doesHold σ v1 v2) fun r2 σ1 => (if r2 = 0 then (bi (f_X8_of σ1 511 v1 v2) fun r4 σ3 => (if r4 < 0 ∨ 2111 ≤ (r4).toNatClampNeg then none else (if (σ3 30 0 (r4).toNatClampNeg) = (-1) then (f_X8_knowsOwn_31 σ3 0) else (f_X8_knowsOwn_26 σ3)))) else (f_X8_knowsOwn_26 σ1))
set_option maxHeartbeats 4000000 in
set_option maxRecDepth 100000 in
theorem w_X8_knowsOwn_31 {p : Program} {l : Launch} {e : Env} {s : State} {m : MethodId} {args : Array Value} {below : List Frame} {meth : Method} {c : Code} {G : Gx} {ad : Ad} {res : Int32 × Sg} (C : Cx p s m args meth c yX8_knowsOwn.cls cX8_knowsOwn 3 (Option.some FieldType.boolean) G)  : ∀ (σ : Sg) (v100 : Int32) (H : Heap) (locs : List Loc) (ls : Array Slot), z_S 1 G ad σ (z_A 1 ad s.heap.size) s.heap H locs → lv_has ls 3 [] → f_X8_knowsOwn_31  σ v100 = some res → W p l e { frames := 2, cells := 0, slots := 0, locals := 44 } s m args below meth c H locs 0 0 (MQ below (va_Qi (S := Unit) (fun r1 _ => r1 = res.1) (fun _ t => z_W 1 G ad res.2 t.heap) (z_A 1 ad s.heap.size)) args s 0 0 (z_A 1 ad s.heap.size)) (F0 m 31 ls [.int v100]) := by
  intro σ v100 H locs ls S hl  hf
  unfold f_X8_knowsOwn_31 at hf
  obtain ⟨g_31, hf⟩ := gd hf
  exact z_zret C S (nbz g_31).1 hf dX8_knowsOwn_31
set_option maxHeartbeats 4000000 in
set_option maxRecDepth 100000 in
theorem w_X8_knowsOwn_26 {p : Program} {l : Launch} {e : Env} {s : State} {m : MethodId} {args : Array Value} {below : List Frame} {meth : Method} {c : Code} {G : Gx} {ad : Ad} {res : Int32 × Sg} (C : Cx p s m args meth c yX8_knowsOwn.cls cX8_knowsOwn 3 (Option.some FieldType.boolean) G)  : ∀ (σ : Sg)  (H : Heap) (locs : List Loc) (ls : Array Slot), z_S 1 G ad σ (z_A 1 ad s.heap.size) s.heap H locs → lv_has ls 3 [] → f_X8_knowsOwn_26  σ  = some res → W p l e { frames := 2, cells := 0, slots := 0, locals := 44 } s m args below meth c H locs 0 0 (MQ below (va_Qi (S := Unit) (fun r1 _ => r1 = res.1) (fun _ t => z_W 1 G ad res.2 t.heap) (z_A 1 ad s.heap.size)) args s 0 0 (z_A 1 ad s.heap.size)) (F0 m 26 ls []) := by
  intro σ  H locs ls S hl  hf
  unfold f_X8_knowsOwn_26 at hf
  refine lv_iconst (v := 1) C.1 C.2.1 dX8_knowsOwn_26 (by decide) ?_
  refine lv_goto (tgt := 31) C.1 C.2.1 dX8_knowsOwn_27 (by decide) ?_
  exact w_X8_knowsOwn_31 C _ 1 _ _ _ S (lv_sub hl [] rfl) hf
set_option maxHeartbeats 4000000 in
set_option maxRecDepth 100000 in
theorem w_X8_knowsOwn_0 {p : Program} {l : Launch} {e : Env} {s : State} {m : MethodId} {args : Array Value} {below : List Frame} {meth : Method} {c : Code} {G : Gx} {ad : Ad} {res : Int32 × Sg} (C : Cx p s m args meth c yX8_knowsOwn.cls cX8_knowsOwn 3 (Option.some FieldType.boolean) G)  : ∀ (σ : Sg) (v1 : Int32) (v2 : Int32) (H : Heap) (locs : List Loc) (ls : Array Slot), z_S 1 G ad σ (z_A 1 ad s.heap.size) s.heap H locs → lv_has ls 3 [(0, .ref (ad 8 0)), (1, .int v1), (2, .int v2)] → f_X8_knowsOwn  σ v1 v2 = some res → W p l e { frames := 2, cells := 0, slots := 0, locals := 44 } s m args below meth c H locs 0 0 (MQ below (va_Qi (S := Unit) (fun r1 _ => r1 = res.1) (fun _ t => z_W 1 G ad res.2 t.heap) (z_A 1 ad s.heap.size)) args s 0 0 (z_A 1 ad s.heap.size)) (F0 m 0 ls []) := by
  intro σ v1 v2 H locs ls S hl  hf
  unfold f_X8_knowsOwn at hf
  refine lv_aload_n C.1 C.2.1 dX8_knowsOwn_0 rfl (lv_at hl 0 rfl) ?_
  refine lv_iload_n C.1 C.2.1 dX8_knowsOwn_1 rfl (lv_at hl 1 rfl) ?_
  refine lv_iload_n C.1 C.2.1 dX8_knowsOwn_2 rfl (lv_at hl 2 rfl) ?_
  obtain ⟨r2, σ1, q_3, hf⟩ := bib hf
  refine z_callI C S 8 0 rfl (by decide) cf_8 ⟨_, rfl⟩ [.int v1, .int v2] (m_X8_doesHold l G ad σ v1 v2 r2 σ1 q_3 _) kv_X8_doesHold tw_7_115 ⟨Nat.le_of_ble_eq_true rfl, Nat.le_of_ble_eq_true rfl⟩ rfl rfl (Nat.le_of_ble_eq_true rfl) hl.1 ⟨Nat.le_of_ble_eq_true rfl, Nat.le_of_ble_eq_true rfl⟩ dX8_knowsOwn_3 (fun H locs S => ?_)
  refine lv_if_ne (tgt := 26) C.1 C.2.1 dX8_knowsOwn_6 (by decide) (fun c_6 => ?_) (fun c_6 => ?_)
  · rw [if_neg c_6] at hf
    exact w_X8_knowsOwn_26 C _ _ _ _ S (lv_sub hl [] rfl) hf
  · rw [if_pos c_6] at hf
    refine lv_aload_n C.1 C.2.1 dX8_knowsOwn_9 rfl (lv_at hl 0 rfl) ?_
    refine z_getR C S 8 0 rfl (by decide) cf_8 0 (by decide) _ (gr_8_0 G ad 0) tw_6_118 dX8_knowsOwn_10 ?_
    refine lv_sipush (v := 511) C.1 C.2.1 dX8_knowsOwn_13 (by decide) ?_
    refine lv_iload_n C.1 C.2.1 dX8_knowsOwn_16 rfl (lv_at hl 1 rfl) ?_
    refine lv_iload_n C.1 C.2.1 dX8_knowsOwn_17 rfl (lv_at hl 2 rfl) ?_
    obtain ⟨r4, σ3, q_18, hf⟩ := bib hf
    refine z_callSI C S [.int 511, .int v1, .int v2] (m_X8_of l G ad σ1 511 v1 v2 r4 σ3 q_18 _) kv_X8_of tw_7_76 ⟨Nat.le_of_ble_eq_true rfl, Nat.le_of_ble_eq_true rfl⟩ rfl rfl (Nat.le_of_ble_eq_true rfl) hl.1 ⟨Nat.le_of_ble_eq_true rfl, Nat.le_of_ble_eq_true rfl⟩ dX8_knowsOwn_18 (fun H locs S => ?_)
    obtain ⟨g_21, hf⟩ := gd hf
    refine z_iald C S 30 0 rfl (by decide) 2111 (fun _ => rfl) g_21 dX8_knowsOwn_21 ?_
    refine lv_iconst (v := (-1)) C.1 C.2.1 dX8_knowsOwn_22 (by decide) ?_
    refine lv_icmp_eq (tgt := 30) C.1 C.2.1 dX8_knowsOwn_23 (by decide) (fun c_23 => ?_) (fun c_23 => ?_)
    · rw [if_pos c_23] at hf
      refine lv_iconst (v := 0) C.1 C.2.1 dX8_knowsOwn_30 (by decide) ?_
      exact w_X8_knowsOwn_31 C _ 0 _ _ _ S (lv_sub hl [] rfl) hf
    · rw [if_neg c_23] at hf
      exact w_X8_knowsOwn_26 C _ _ _ _ S (lv_sub hl [] rfl) hf
theorem kv_X8_knowsOwn : KV yX8_knowsOwn cX8_knowsOwn 3 (Option.some FieldType.boolean) 2 := ⟨tw_7_126, tw_7_125, tw_p_69, tw_1_10, by decide, by decide, by decide +kernel⟩
theorem m_X8_knowsOwn (l : Launch) (G : Gx) (ad : Ad) (σ : Sg) (v1 : Int32) (v2 : Int32) (r : Int32) (σ' : Sg)  (hf : f_X8_knowsOwn σ v1 v2 = some (r, σ')) (sz : Nat) : z_MI l yX8_knowsOwn cX8_knowsOwn 3 (Option.some FieldType.boolean) 2 44 1 G ad σ sz [.ref (ad 8 0), .int v1, .int v2] r σ' := by
  refine z_begin (by decide +kernel) (Nat.le_of_ble_eq_true rfl) [(0, .ref (ad 8 0)), (1, .int v1), (2, .int v2)] rfl (fun p e s m args below meth c ls C hz S hl => ?_)
  subst hz
  exact w_X8_knowsOwn_0 (res := (r, σ')) C σ v1 v2 _ _ _ S hl  hf

theorem dX8_ownCost_0 : decode cX8_ownCost 0 = .ok (.aload_n 0, 1) := by decide +kernel
theorem dX8_ownCost_1 : decode cX8_ownCost 1 = .ok (.iload_n 1, 1) := by decide +kernel
theorem dX8_ownCost_2 : decode cX8_ownCost 2 = .ok (.iload_n 2, 1) := by decide +kernel
theorem dX8_ownCost_3 : decode cX8_ownCost 3 = .ok (.invokevirtual 283, 3) := by decide +kernel
theorem dX8_ownCost_6 : decode cX8_ownCost 6 = .ok (.ifCond .eq 5, 3) := by decide +kernel
theorem dX8_ownCost_9 : decode cX8_ownCost 9 = .ok (.iconst 0, 1) := by decide +kernel
theorem dX8_ownCost_10 : decode cX8_ownCost 10 = .ok (.ireturn, 1) := by decide +kernel
theorem dX8_ownCost_11 : decode cX8_ownCost 11 = .ok (.aload_n 0, 1) := by decide +kernel
theorem dX8_ownCost_12 : decode cX8_ownCost 12 = .ok (.iload_n 1, 1) := by decide +kernel
theorem dX8_ownCost_13 : decode cX8_ownCost 13 = .ok (.iload_n 2, 1) := by decide +kernel
theorem dX8_ownCost_14 : decode cX8_ownCost 14 = .ok (.invokevirtual 286, 3) := by decide +kernel
theorem dX8_ownCost_17 : decode cX8_ownCost 17 = .ok (.ifCond .eq 19, 3) := by decide +kernel
theorem dX8_ownCost_20 : decode cX8_ownCost 20 = .ok (.aload_n 0, 1) := by decide +kernel
theorem dX8_ownCost_21 : decode cX8_ownCost 21 = .ok (.getfield 7, 3) := by decide +kernel
theorem dX8_ownCost_24 : decode cX8_ownCost 24 = .ok (.sipush 415, 3) := by decide +kernel
theorem dX8_ownCost_27 : decode cX8_ownCost 27 = .ok (.iload_n 1, 1) := by decide +kernel
theorem dX8_ownCost_28 : decode cX8_ownCost 28 = .ok (.iload_n 2, 1) := by decide +kernel
theorem dX8_ownCost_29 : decode cX8_ownCost 29 = .ok (.invokestatic 65, 3) := by decide +kernel
theorem dX8_ownCost_32 : decode cX8_ownCost 32 = .ok (.iaload, 1) := by decide +kernel
theorem dX8_ownCost_33 : decode cX8_ownCost 33 = .ok (.goto 4, 3) := by decide +kernel
theorem dX8_ownCost_36 : decode cX8_ownCost 36 = .ok (.iconst (-1), 1) := by decide +kernel
theorem dX8_ownCost_37 : decode cX8_ownCost 37 = .ok (.ireturn, 1) := by decide +kernel
/-! BusLiftsModel.ownCost(II)I -/
noncomputable def f_X8_ownCost_37  (σ : Sg) (v100 : Int32) : Option (Int32 × Sg) := some (v100, σ)
noncomputable def f_X8_ownCost  (σ : Sg) (v1 : Int32) (v2 : Int32) : Option (Int32 × Sg) := bi (f_X8_noPair σ v1 v2) fun r2 σ1 => (if r2 = 0 then (bi (f_X8_knowsOwn σ1 v1 v2) fun r4 σ3 => (if r4 = 0 then (f_X8_ownCost_37 σ3 (-1)) else (bi (f_X8_of σ3 415 v1 v2) fun r6 σ5 => (if r6 < 0 ∨ 2111 ≤ (r6).toNatClampNeg then none else (f_X8_ownCost_37 σ5 (σ5 30 0 (r6).toNatClampNeg)))))) else (some (0, σ1)))
set_option maxHeartbeats 4000000 in
set_option maxRecDepth 100000 in
theorem w_X8_ownCost_37 {p : Program} {l : Launch} {e : Env} {s : State} {m : MethodId} {args : Array Value} {below : List Frame} {meth : Method} {c : Code} {G : Gx} {ad : Ad} {res : Int32 × Sg} (C : Cx p s m args meth c yX8_ownCost.cls cX8_ownCost 3 (Option.some FieldType.int) G)  : ∀ (σ : Sg) (v100 : Int32) (H : Heap) (locs : List Loc) (ls : Array Slot), z_S 1 G ad σ (z_A 1 ad s.heap.size) s.heap H locs → lv_has ls 3 [] → f_X8_ownCost_37  σ v100 = some res → W p l e { frames := 3, cells := 0, slots := 0, locals := 66 } s m args below meth c H locs 0 0 (MQ below (va_Qi (S := Unit) (fun r1 _ => r1 = res.1) (fun _ t => z_W 1 G ad res.2 t.heap) (z_A 1 ad s.heap.size)) args s 0 0 (z_A 1 ad s.heap.size)) (F0 m 37 ls [.int v100]) := by
  intro σ v100 H locs ls S hl  hf
  unfold f_X8_ownCost_37 at hf
  exact z_iret C S hf dX8_ownCost_37
set_option maxHeartbeats 4000000 in
set_option maxRecDepth 100000 in
theorem w_X8_ownCost_0 {p : Program} {l : Launch} {e : Env} {s : State} {m : MethodId} {args : Array Value} {below : List Frame} {meth : Method} {c : Code} {G : Gx} {ad : Ad} {res : Int32 × Sg} (C : Cx p s m args meth c yX8_ownCost.cls cX8_ownCost 3 (Option.some FieldType.int) G)  : ∀ (σ : Sg) (v1 : Int32) (v2 : Int32) (H : Heap) (locs : List Loc) (ls : Array Slot), z_S 1 G ad σ (z_A 1 ad s.heap.size) s.heap H locs → lv_has ls 3 [(0, .ref (ad 8 0)), (1, .int v1), (2, .int v2)] → f_X8_ownCost  σ v1 v2 = some res → W p l e { frames := 3, cells := 0, slots := 0, locals := 66 } s m args below meth c H locs 0 0 (MQ below (va_Qi (S := Unit) (fun r1 _ => r1 = res.1) (fun _ t => z_W 1 G ad res.2 t.heap) (z_A 1 ad s.heap.size)) args s 0 0 (z_A 1 ad s.heap.size)) (F0 m 0 ls []) := by
  intro σ v1 v2 H locs ls S hl  hf
  unfold f_X8_ownCost at hf
  refine lv_aload_n C.1 C.2.1 dX8_ownCost_0 rfl (lv_at hl 0 rfl) ?_
  refine lv_iload_n C.1 C.2.1 dX8_ownCost_1 rfl (lv_at hl 1 rfl) ?_
  refine lv_iload_n C.1 C.2.1 dX8_ownCost_2 rfl (lv_at hl 2 rfl) ?_
  obtain ⟨r2, σ1, q_3, hf⟩ := bib hf
  refine z_callI C S 8 0 rfl (by decide) cf_8 ⟨_, rfl⟩ [.int v1, .int v2] (m_X8_noPair l G ad σ v1 v2 r2 σ1 q_3 _) kv_X8_noPair tw_7_111 ⟨Nat.le_of_ble_eq_true rfl, Nat.le_of_ble_eq_true rfl⟩ rfl rfl (Nat.le_of_ble_eq_true rfl) hl.1 ⟨Nat.le_of_ble_eq_true rfl, Nat.le_of_ble_eq_true rfl⟩ dX8_ownCost_3 (fun H locs S => ?_)
  refine lv_if_eq (tgt := 11) C.1 C.2.1 dX8_ownCost_6 (by decide) (fun c_6 => ?_) (fun c_6 => ?_)
  · rw [if_pos c_6] at hf
    refine lv_aload_n C.1 C.2.1 dX8_ownCost_11 rfl (lv_at hl 0 rfl) ?_
    refine lv_iload_n C.1 C.2.1 dX8_ownCost_12 rfl (lv_at hl 1 rfl) ?_
    refine lv_iload_n C.1 C.2.1 dX8_ownCost_13 rfl (lv_at hl 2 rfl) ?_
    obtain ⟨r4, σ3, q_14, hf⟩ := bib hf
    refine z_callI C S 8 0 rfl (by decide) cf_8 ⟨_, rfl⟩ [.int v1, .int v2] (m_X8_knowsOwn l G ad σ1 v1 v2 r4 σ3 q_14 _) kv_X8_knowsOwn tw_7_123 ⟨Nat.le_of_ble_eq_true rfl, Nat.le_of_ble_eq_true rfl⟩ rfl rfl (Nat.le_of_ble_eq_true rfl) hl.1 ⟨Nat.le_of_ble_eq_true rfl, Nat.le_of_ble_eq_true rfl⟩ dX8_ownCost_14 (fun H locs S => ?_)
    refine lv_if_eq (tgt := 36) C.1 C.2.1 dX8_ownCost_17 (by decide) (fun c_17 => ?_) (fun c_17 => ?_)
    · rw [if_pos c_17] at hf
      refine lv_iconst (v := (-1)) C.1 C.2.1 dX8_ownCost_36 (by decide) ?_
      exact w_X8_ownCost_37 C _ (-1) _ _ _ S (lv_sub hl [] rfl) hf
    · rw [if_neg c_17] at hf
      refine lv_aload_n C.1 C.2.1 dX8_ownCost_20 rfl (lv_at hl 0 rfl) ?_
      refine z_getR C S 8 0 rfl (by decide) cf_8 0 (by decide) _ (gr_8_0 G ad 0) tw_6_118 dX8_ownCost_21 ?_
      refine lv_sipush (v := 415) C.1 C.2.1 dX8_ownCost_24 (by decide) ?_
      refine lv_iload_n C.1 C.2.1 dX8_ownCost_27 rfl (lv_at hl 1 rfl) ?_
      refine lv_iload_n C.1 C.2.1 dX8_ownCost_28 rfl (lv_at hl 2 rfl) ?_
      obtain ⟨r6, σ5, q_29, hf⟩ := bib hf
      refine z_callSI C S [.int 415, .int v1, .int v2] (m_X8_of l G ad σ3 415 v1 v2 r6 σ5 q_29 _) kv_X8_of tw_7_76 ⟨Nat.le_of_ble_eq_true rfl, Nat.le_of_ble_eq_true rfl⟩ rfl rfl (Nat.le_of_ble_eq_true rfl) hl.1 ⟨Nat.le_of_ble_eq_true rfl, Nat.le_of_ble_eq_true rfl⟩ dX8_ownCost_29 (fun H locs S => ?_)
      obtain ⟨g_32, hf⟩ := gd hf
      refine z_iald C S 30 0 rfl (by decide) 2111 (fun _ => rfl) g_32 dX8_ownCost_32 ?_
      refine lv_goto (tgt := 37) C.1 C.2.1 dX8_ownCost_33 (by decide) ?_
      exact w_X8_ownCost_37 C _ (σ5 30 0 (r6).toNatClampNeg) _ _ _ S (lv_sub hl [] rfl) hf
  · rw [if_neg c_6] at hf
    refine lv_iconst (v := 0) C.1 C.2.1 dX8_ownCost_9 (by decide) ?_
    exact z_iret C S hf dX8_ownCost_10
theorem kv_X8_ownCost : KV yX8_ownCost cX8_ownCost 3 (Option.some FieldType.int) 2 := ⟨tw_7_122, tw_7_120, tw_7_121, tw_1_10, by decide, by decide, by decide +kernel⟩
theorem m_X8_ownCost (l : Launch) (G : Gx) (ad : Ad) (σ : Sg) (v1 : Int32) (v2 : Int32) (r : Int32) (σ' : Sg)  (hf : f_X8_ownCost σ v1 v2 = some (r, σ')) (sz : Nat) : z_MI l yX8_ownCost cX8_ownCost 3 (Option.some FieldType.int) 3 66 1 G ad σ sz [.ref (ad 8 0), .int v1, .int v2] r σ' := by
  refine z_begin (by decide +kernel) (Nat.le_of_ble_eq_true rfl) [(0, .ref (ad 8 0)), (1, .int v1), (2, .int v2)] rfl (fun p e s m args below meth c ls C hz S hl => ?_)
  subst hz
  exact w_X8_ownCost_0 (res := (r, σ')) C σ v1 v2 _ _ _ S hl  hf
