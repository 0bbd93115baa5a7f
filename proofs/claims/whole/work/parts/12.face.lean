theorem dX7_appendFour_0 : decode cX7_appendFour 0 = .ok (.bipush 24, 2) := by decide +kernel
theorem dX7_appendFour_2 : decode cX7_appendFour 2 = .ok (.istore_n 2, 1) := by decide +kernel
theorem dX7_appendFour_3 : decode cX7_appendFour 3 = .ok (.iload_n 2, 1) := by decide +kernel
theorem dX7_appendFour_4 : decode cX7_appendFour 4 = .ok (.ifCond .lt 47, 3) := by decide +kernel
theorem dX7_appendFour_7 : decode cX7_appendFour 7 = .ok (.aload_n 0, 1) := by decide +kernel
theorem dX7_appendFour_8 : decode cX7_appendFour 8 = .ok (.getfield 65, 3) := by decide +kernel
theorem dX7_appendFour_11 : decode cX7_appendFour 11 = .ok (.aload_n 0, 1) := by decide +kernel
theorem dX7_appendFour_12 : decode cX7_appendFour 12 = .ok (.getfield 9, 3) := by decide +kernel
theorem dX7_appendFour_15 : decode cX7_appendFour 15 = .ok (.arraylength, 1) := by decide +kernel
theorem dX7_appendFour_16 : decode cX7_appendFour 16 = .ok (.if_icmp .ge 35, 3) := by decide +kernel
theorem dX7_appendFour_19 : decode cX7_appendFour 19 = .ok (.aload_n 0, 1) := by decide +kernel
theorem dX7_appendFour_20 : decode cX7_appendFour 20 = .ok (.getfield 9, 3) := by decide +kernel
theorem dX7_appendFour_23 : decode cX7_appendFour 23 = .ok (.aload_n 0, 1) := by decide +kernel
theorem dX7_appendFour_24 : decode cX7_appendFour 24 = .ok (.getfield 65, 3) := by decide +kernel
theorem dX7_appendFour_27 : decode cX7_appendFour 27 = .ok (.iload_n 1, 1) := by decide +kernel
theorem dX7_appendFour_28 : decode cX7_appendFour 28 = .ok (.iload_n 2, 1) := by decide +kernel
theorem dX7_appendFour_29 : decode cX7_appendFour 29 = .ok (.iushr, 1) := by decide +kernel
theorem dX7_appendFour_30 : decode cX7_appendFour 30 = .ok (.sipush 255, 3) := by decide +kernel
theorem dX7_appendFour_33 : decode cX7_appendFour 33 = .ok (.iand, 1) := by decide +kernel
theorem dX7_appendFour_34 : decode cX7_appendFour 34 = .ok (.iastore, 1) := by decide +kernel
theorem dX7_appendFour_35 : decode cX7_appendFour 35 = .ok (.aload_n 0, 1) := by decide +kernel
theorem dX7_appendFour_36 : decode cX7_appendFour 36 = .ok (.dup, 1) := by decide +kernel
theorem dX7_appendFour_37 : decode cX7_appendFour 37 = .ok (.getfield 65, 3) := by decide +kernel
theorem dX7_appendFour_40 : decode cX7_appendFour 40 = .ok (.iconst 1, 1) := by decide +kernel
theorem dX7_appendFour_41 : decode cX7_appendFour 41 = .ok (.iadd, 1) := by decide +kernel
theorem dX7_appendFour_42 : decode cX7_appendFour 42 = .ok (.putfield 65, 3) := by decide +kernel
theorem dX7_appendFour_45 : decode cX7_appendFour 45 = .ok (.iinc 2 (-8), 3) := by decide +kernel
theorem dX7_appendFour_48 : decode cX7_appendFour 48 = .ok (.goto (-45), 3) := by decide +kernel
theorem dX7_appendFour_51 : decode cX7_appendFour 51 = .ok (.return_, 1) := by decide +kernel
/-! BusLifts.appendFour(I)V -/
noncomputable def f_X7_appendFour_51  (σ : Sg)  : Option Sg := some σ
noncomputable def f_X7_appendFour_3  : Nat → Sg → Int32 → Int32 → Option Sg
  | 0, _, _, _ => none
  | n + 1, σ, v1, v2 => if v2 < 0 then (f_X7_appendFour_51 σ) else (if 700 ≤ (σ 7 0 1) then (f_X7_appendFour_51 σ) else (if (σ 7 0 1) < 0 ∨ 700 ≤ ((σ 7 0 1)).toNatClampNeg then none else (st (sup σ 10 0 ((σ 7 0 1)).toNatClampNeg ((jush v1 v2) &&& 255)) fun σ1 => (st (sup σ1 7 0 1 ((σ1 7 0 1) + 1)) fun σ2 => (f_X7_appendFour_3  n σ2 v1 (v2 + (-8)))))))
theorem f_X7_appendFour_3_s  (n : Nat) (σ : Sg) (v1 : Int32) (v2 : Int32) : f_X7_appendFour_3  (n + 1) σ v1 v2 = (if v2 < 0 then (f_X7_appendFour_51 σ) else (if 700 ≤ (σ 7 0 1) then (f_X7_appendFour_51 σ) else (if (σ 7 0 1) < 0 ∨ 700 ≤ ((σ 7 0 1)).toNatClampNeg then none else (st (sup σ 10 0 ((σ 7 0 1)).toNatClampNeg ((jush v1 v2) &&& 255)) fun σ1 => (st (sup σ1 7 0 1 ((σ1 7 0 1) + 1)) fun σ2 => (f_X7_appendFour_3  n σ2 v1 (v2 + (-8)))))))) := rfl
noncomputable def f_X7_appendFour  (σ : Sg) (v1 : Int32) : Option Sg := f_X7_appendFour_3 FU σ v1 24
set_option maxHeartbeats 4000000 in
set_option maxRecDepth 100000 in
theorem w_X7_appendFour_51 {p : Program} {l : Launch} {e : Env} {s : State} {m : MethodId} {args : Array Value} {below : List Frame} {meth : Method} {c : Code} {G : Gx} {ad : Ad} {res : Sg} (C : Cx p s m args meth c yX7_appendFour.cls cX7_appendFour 3 none G)  : ∀ (σ : Sg)  (H : Heap) (locs : List Loc) (ls : Array Slot), z_S 0 G ad σ (z_A 0 ad s.heap.size) s.heap H locs → lv_has ls 3 [] → f_X7_appendFour_51  σ  = some res → W p l e { frames := 0, cells := 0, slots := 0, locals := 0 } s m args below meth c H locs 0 0 (MQ below (va_Qv (S := Unit) (fun _ => True) (fun _ t => z_W 0 G ad res t.heap) (z_A 0 ad s.heap.size)) args s 0 0 (z_A 0 ad s.heap.size)) (F0 m 51 ls []) := by
  intro σ  H locs ls S hl  hf
  unfold f_X7_appendFour_51 at hf
  exact z_vret C S hf dX7_appendFour_51
set_option maxHeartbeats 4000000 in
set_option maxRecDepth 100000 in
theorem w_X7_appendFour_3 {p : Program} {l : Launch} {e : Env} {s : State} {m : MethodId} {args : Array Value} {below : List Frame} {meth : Method} {c : Code} {G : Gx} {ad : Ad} {res : Sg} (C : Cx p s m args meth c yX7_appendFour.cls cX7_appendFour 3 none G)  : ∀ n : Nat, ∀ (σ : Sg) (v1 : Int32) (v2 : Int32) (H : Heap) (locs : List Loc) (ls : Array Slot), z_S 0 G ad σ (z_A 0 ad s.heap.size) s.heap H locs → lv_has ls 3 [(0, .ref (ad 7 0)), (1, .int v1), (2, .int v2)] → f_X7_appendFour_3  n σ v1 v2 = some res → W p l e { frames := 0, cells := 0, slots := 0, locals := 0 } s m args below meth c H locs 0 0 (MQ below (va_Qv (S := Unit) (fun _ => True) (fun _ t => z_W 0 G ad res t.heap) (z_A 0 ad s.heap.size)) args s 0 0 (z_A 0 ad s.heap.size)) (F0 m 3 ls []) := by
  intro n
  induction n with
  | zero => intro σ v1 v2 H locs ls S hl  hf; cases hf
  | succ n ih =>
    intro σ v1 v2 H locs ls S hl  hf
    rw [f_X7_appendFour_3_s] at hf
    refine lv_iload_n C.1 C.2.1 dX7_appendFour_3 rfl (lv_at hl 2 rfl) ?_
    refine lv_if_lt (tgt := 51) C.1 C.2.1 dX7_appendFour_4 (by decide) (fun c_4 => ?_) (fun c_4 => ?_)
    · rw [if_pos c_4] at hf
      exact w_X7_appendFour_51 C _ _ _ _ S (lv_sub hl [] rfl) hf
    · rw [if_neg c_4] at hf
      refine lv_aload_n C.1 C.2.1 dX7_appendFour_7 rfl (lv_at hl 0 rfl) ?_
      refine z_getI C S 7 0 rfl (by decide) cf_7 1 (by decide) (gi_7_1 G ad 0) tw_2_129 dX7_appendFour_8 ?_
      refine lv_aload_n C.1 C.2.1 dX7_appendFour_11 rfl (lv_at hl 0 rfl) ?_
      refine z_getR C S 7 0 rfl (by decide) cf_7 0 (by decide) _ (gr_7_0 G ad 0) tw_2_128 dX7_appendFour_12 ?_
      refine z_alen C S 10 0 rfl (by decide) 700 (fun _ => rfl) (v := 700) rfl dX7_appendFour_15 ?_
      refine lv_icmp_ge (tgt := 51) C.1 C.2.1 dX7_appendFour_16 (by decide) (fun c_16 => ?_) (fun c_16 => ?_)
      · rw [if_pos c_16] at hf
        exact w_X7_appendFour_51 C _ _ _ _ S (lv_sub hl [] rfl) hf
      · rw [if_neg c_16] at hf
        refine lv_aload_n C.1 C.2.1 dX7_appendFour_19 rfl (lv_at hl 0 rfl) ?_
        refine z_getR C S 7 0 rfl (by decide) cf_7 0 (by decide) _ (gr_7_0 G ad 0) tw_2_128 dX7_appendFour_20 ?_
        refine lv_aload_n C.1 C.2.1 dX7_appendFour_23 rfl (lv_at hl 0 rfl) ?_
        refine z_getI C S 7 0 rfl (by decide) cf_7 1 (by decide) (gi_7_1 G ad 0) tw_2_129 dX7_appendFour_24 ?_
        refine lv_iload_n C.1 C.2.1 dX7_appendFour_27 rfl (lv_at hl 1 rfl) ?_
        refine lv_iload_n C.1 C.2.1 dX7_appendFour_28 rfl (lv_at hl 2 rfl) ?_
        refine lv_iushr (v := (jush v1 v2)) C.1 C.2.1 dX7_appendFour_29 rfl ?_
        refine lv_sipush (v := 255) C.1 C.2.1 dX7_appendFour_30 (by decide) ?_
        refine lv_iand C.1 C.2.1 dX7_appendFour_33 ?_
        obtain ⟨g_34, hf⟩ := gd hf
        obtain ⟨σ1, e_34, hf⟩ := stb hf
        refine z_iast C S 10 0 rfl (by decide) 700 (fun _ => rfl) g_34 dX7_appendFour_34 (fun H locs S => ?_)
        rw [← e_34] at S
        refine lv_aload_n C.1 C.2.1 dX7_appendFour_35 rfl (lv_at hl 0 rfl) ?_
        refine lv_dup C.1 C.2.1 dX7_appendFour_36 rfl ?_
        refine z_getI C S 7 0 rfl (by decide) cf_7 1 (by decide) (gi_7_1 G ad 0) tw_2_129 dX7_appendFour_37 ?_
        refine lv_iconst (v := 1) C.1 C.2.1 dX7_appendFour_40 (by decide) ?_
        refine lv_iadd C.1 C.2.1 dX7_appendFour_41 ?_
        obtain ⟨σ2, e_42, hf⟩ := stb hf
        refine z_putI C S 7 0 rfl (by decide) cf_7 1 (by decide) (pi_7_1 G ad 0) rfl rfl rfl tw_2_129 dX7_appendFour_42 (fun H locs S => ?_)
        rw [← e_42] at S
        refine lv_iinc (v := (v2 + (-8))) (lv' := [(2, .int (v2 + (-8))), (0, .ref (ad 7 0)), (1, .int v1)]) C.1 C.2.1 dX7_appendFour_45 hl (k := 2) rfl rfl (by decide) rfl (fun ls hl => ?_)
        refine lv_goto (tgt := 3) C.1 C.2.1 dX7_appendFour_48 (by decide) ?_
        exact ih _ v1 (v2 + (-8)) _ _ _ S (lv_sub hl [1, 2, 0] rfl)  hf
set_option maxHeartbeats 4000000 in
set_option maxRecDepth 100000 in
theorem w_X7_appendFour_0 {p : Program} {l : Launch} {e : Env} {s : State} {m : MethodId} {args : Array Value} {below : List Frame} {meth : Method} {c : Code} {G : Gx} {ad : Ad} {res : Sg} (C : Cx p s m args meth c yX7_appendFour.cls cX7_appendFour 3 none G)  : ∀ (σ : Sg) (v1 : Int32) (H : Heap) (locs : List Loc) (ls : Array Slot), z_S 0 G ad σ (z_A 0 ad s.heap.size) s.heap H locs → lv_has ls 3 [(0, .ref (ad 7 0)), (1, .int v1)] → f_X7_appendFour  σ v1 = some res → W p l e { frames := 0, cells := 0, slots := 0, locals := 0 } s m args below meth c H locs 0 0 (MQ below (va_Qv (S := Unit) (fun _ => True) (fun _ t => z_W 0 G ad res t.heap) (z_A 0 ad s.heap.size)) args s 0 0 (z_A 0 ad s.heap.size)) (F0 m 0 ls []) := by
  intro σ v1 H locs ls S hl  hf
  unfold f_X7_appendFour at hf
  refine lv_bipush (v := 24) C.1 C.2.1 dX7_appendFour_0 (by decide) ?_
  refine lv_istore_n (lv' := [(2, .int 24), (0, .ref (ad 7 0)), (1, .int v1)]) C.1 C.2.1 dX7_appendFour_2 rfl hl (by decide) rfl (fun ls hl => ?_)
  exact w_X7_appendFour_3 C FU _ v1 24 _ _ _ S (lv_sub hl [1, 2, 0] rfl) hf
theorem kv_X7_appendFour : KV yX7_appendFour cX7_appendFour 3 none 1 := ⟨tw_2_175, tw_2_174, tw_p_0, tw_1_1, by decide, by decide, by decide +kernel⟩
theorem m_X7_appendFour (l : Launch) (G : Gx) (ad : Ad) (σ : Sg) (v1 : Int32) (σ' : Sg)  (hf : f_X7_appendFour σ v1 = some σ') (sz : Nat) : z_MV l yX7_appendFour cX7_appendFour 3 none 0 0 0 G ad σ sz [.ref (ad 7 0), .int v1] σ' := by
  refine z_begin (by decide +kernel) (Nat.le_of_ble_eq_true rfl) [(0, .ref (ad 7 0)), (1, .int v1)] rfl (fun p e s m args below meth c ls C hz S hl => ?_)
  subst hz
  exact w_X7_appendFour_0 (res := σ') C σ v1 _ _ _ S hl  hf

theorem dX7_appendInput_0 : decode cX7_appendInput 0 = .ok (.aload_n 0, 1) := by decide +kernel
theorem dX7_appendInput_1 : decode cX7_appendInput 1 = .ok (.getfield 65, 3) := by decide +kernel
theorem dX7_appendInput_4 : decode cX7_appendInput 4 = .ok (.sipush 680, 3) := by decide +kernel
theorem dX7_appendInput_7 : decode cX7_appendInput 7 = .ok (.if_icmp .le 5, 3) := by decide +kernel
theorem dX7_appendInput_10 : decode cX7_appendInput 10 = .ok (.iconst (-1), 1) := by decide +kernel
theorem dX7_appendInput_11 : decode cX7_appendInput 11 = .ok (.ireturn, 1) := by decide +kernel
theorem dX7_appendInput_12 : decode cX7_appendInput 12 = .ok (.aload_n 0, 1) := by decide +kernel
theorem dX7_appendInput_13 : decode cX7_appendInput 13 = .ok (.iload_n 1, 1) := by decide +kernel
theorem dX7_appendInput_14 : decode cX7_appendInput 14 = .ok (.invokevirtual 68, 3) := by decide +kernel
theorem dX7_appendInput_17 : decode cX7_appendInput 17 = .ok (.aload_n 0, 1) := by decide +kernel
theorem dX7_appendInput_18 : decode cX7_appendInput 18 = .ok (.iload_n 2, 1) := by decide +kernel
theorem dX7_appendInput_19 : decode cX7_appendInput 19 = .ok (.invokevirtual 68, 3) := by decide +kernel
theorem dX7_appendInput_22 : decode cX7_appendInput 22 = .ok (.aload_n 0, 1) := by decide +kernel
theorem dX7_appendInput_23 : decode cX7_appendInput 23 = .ok (.iload_n 3, 1) := by decide +kernel
theorem dX7_appendInput_24 : decode cX7_appendInput 24 = .ok (.invokevirtual 68, 3) := by decide +kernel
theorem dX7_appendInput_27 : decode cX7_appendInput 27 = .ok (.aload_n 0, 1) := by decide +kernel
theorem dX7_appendInput_28 : decode cX7_appendInput 28 = .ok (.iload 4, 2) := by decide +kernel
theorem dX7_appendInput_30 : decode cX7_appendInput 30 = .ok (.invokevirtual 68, 3) := by decide +kernel
theorem dX7_appendInput_33 : decode cX7_appendInput 33 = .ok (.aload_n 0, 1) := by decide +kernel
theorem dX7_appendInput_34 : decode cX7_appendInput 34 = .ok (.iload 5, 2) := by decide +kernel
theorem dX7_appendInput_36 : decode cX7_appendInput 36 = .ok (.invokevirtual 68, 3) := by decide +kernel
theorem dX7_appendInput_39 : decode cX7_appendInput 39 = .ok (.aload_n 0, 1) := by decide +kernel
theorem dX7_appendInput_40 : decode cX7_appendInput 40 = .ok (.getfield 65, 3) := by decide +kernel
theorem dX7_appendInput_43 : decode cX7_appendInput 43 = .ok (.ireturn, 1) := by decide +kernel
/-! BusLifts.appendInput(IIIII)I -/
noncomputable def f_X7_appendInput  (σ : Sg) (v1 : Int32) (v2 : Int32) (v3 : Int32) (v4 : Int32) (v5 : Int32) : Option (Int32 × Sg) := if (σ 7 0 1) ≤ 680 then (bv (f_X7_appendFour σ v1) fun σ1 => (bv (f_X7_appendFour σ1 v2) fun σ2 => (bv (f_X7_appendFour σ2 v3) fun σ3 => (bv (f_X7_appendFour σ3 v4) fun σ4 => (bv (f_X7_appendFour σ4 v5) fun σ5 => (some ((σ5 7 0 1), σ5))))))) else (some ((-1), σ))
set_option maxHeartbeats 4000000 in
set_option maxRecDepth 100000 in
theorem w_X7_appendInput_0 {p : Program} {l : Launch} {e : Env} {s : State} {m : MethodId} {args : Array Value} {below : List Frame} {meth : Method} {c : Code} {G : Gx} {ad : Ad} {res : Int32 × Sg} (C : Cx p s m args meth c yX7_appendInput.cls cX7_appendInput 6 (Option.some FieldType.int) G)  : ∀ (σ : Sg) (v1 : Int32) (v2 : Int32) (v3 : Int32) (v4 : Int32) (v5 : Int32) (H : Heap) (locs : List Loc) (ls : Array Slot), z_S 0 G ad σ (z_A 0 ad s.heap.size) s.heap H locs → lv_has ls 6 [(0, .ref (ad 7 0)), (1, .int v1), (2, .int v2), (3, .int v3), (4, .int v4), (5, .int v5)] → f_X7_appendInput  σ v1 v2 v3 v4 v5 = some res → W p l e { frames := 1, cells := 0, slots := 0, locals := 22 } s m args below meth c H locs 0 0 (MQ below (va_Qi (S := Unit) (fun r1 _ => r1 = res.1) (fun _ t => z_W 0 G ad res.2 t.heap) (z_A 0 ad s.heap.size)) args s 0 0 (z_A 0 ad s.heap.size)) (F0 m 0 ls []) := by
  intro σ v1 v2 v3 v4 v5 H locs ls S hl  hf
  unfold f_X7_appendInput at hf
  refine lv_aload_n C.1 C.2.1 dX7_appendInput_0 rfl (lv_at hl 0 rfl) ?_
  refine z_getI C S 7 0 rfl (by decide) cf_7 1 (by decide) (gi_7_1 G ad 0) tw_2_129 dX7_appendInput_1 ?_
  refine lv_sipush (v := 680) C.1 C.2.1 dX7_appendInput_4 (by decide) ?_
  refine lv_icmp_le (tgt := 12) C.1 C.2.1 dX7_appendInput_7 (by decide) (fun c_7 => ?_) (fun c_7 => ?_)
  · rw [if_pos c_7] at hf
    refine lv_aload_n C.1 C.2.1 dX7_appendInput_12 rfl (lv_at hl 0 rfl) ?_
    refine lv_iload_n C.1 C.2.1 dX7_appendInput_13 rfl (lv_at hl 1 rfl) ?_
    obtain ⟨σ1, q_14, hf⟩ := bvb hf
    refine z_callV C S 7 0 rfl (by decide) cf_7 ⟨_, rfl⟩ [.int v1] (m_X7_appendFour l G ad σ v1 σ1 q_14 _) kv_X7_appendFour tw_2_172 ⟨Nat.le_of_ble_eq_true rfl, Nat.le_of_ble_eq_true rfl⟩ rfl rfl (Nat.le_of_ble_eq_true rfl) hl.1 ⟨Nat.le_refl _, Nat.le_refl _⟩ dX7_appendInput_14 (fun H locs S => ?_)
    refine lv_aload_n C.1 C.2.1 dX7_appendInput_17 rfl (lv_at hl 0 rfl) ?_
    refine lv_iload_n C.1 C.2.1 dX7_appendInput_18 rfl (lv_at hl 2 rfl) ?_
    obtain ⟨σ2, q_19, hf⟩ := bvb hf
    refine z_callV C S 7 0 rfl (by decide) cf_7 ⟨_, rfl⟩ [.int v2] (m_X7_appendFour l G ad σ1 v2 σ2 q_19 _) kv_X7_appendFour tw_2_172 ⟨Nat.le_of_ble_eq_true rfl, Nat.le_of_ble_eq_true rfl⟩ rfl rfl (Nat.le_of_ble_eq_true rfl) hl.1 ⟨Nat.le_refl _, Nat.le_refl _⟩ dX7_appendInput_19 (fun H locs S => ?_)
    refine lv_aload_n C.1 C.2.1 dX7_appendInput_22 rfl (lv_at hl 0 rfl) ?_
    refine lv_iload_n C.1 C.2.1 dX7_appendInput_23 rfl (lv_at hl 3 rfl) ?_
    obtain ⟨σ3, q_24, hf⟩ := bvb hf
    refine z_callV C S 7 0 rfl (by decide) cf_7 ⟨_, rfl⟩ [.int v3] (m_X7_appendFour l G ad σ2 v3 σ3 q_24 _) kv_X7_appendFour tw_2_172 ⟨Nat.le_of_ble_eq_true rfl, Nat.le_of_ble_eq_true rfl⟩ rfl rfl (Nat.le_of_ble_eq_true rfl) hl.1 ⟨Nat.le_refl _, Nat.le_refl _⟩ dX7_appendInput_24 (fun H locs S => ?_)
    refine lv_aload_n C.1 C.2.1 dX7_appendInput_27 rfl (lv_at hl 0 rfl) ?_
    refine lv_iload C.1 C.2.1 dX7_appendInput_28 (lv_at hl 4 rfl) ?_
    obtain ⟨σ4, q_30, hf⟩ := bvb hf
    refine z_callV C S 7 0 rfl (by decide) cf_7 ⟨_, rfl⟩ [.int v4] (m_X7_appendFour l G ad σ3 v4 σ4 q_30 _) kv_X7_appendFour tw_2_172 ⟨Nat.le_of_ble_eq_true rfl, Nat.le_of_ble_eq_true rfl⟩ rfl rfl (Nat.le_of_ble_eq_true rfl) hl.1 ⟨Nat.le_refl _, Nat.le_refl _⟩ dX7_appendInput_30 (fun H locs S => ?_)
    refine lv_aload_n C.1 C.2.1 dX7_appendInput_33 rfl (lv_at hl 0 rfl) ?_
    refine lv_iload C.1 C.2.1 dX7_appendInput_34 (lv_at hl 5 rfl) ?_
    obtain ⟨σ5, q_36, hf⟩ := bvb hf
    refine z_callV C S 7 0 rfl (by decide) cf_7 ⟨_, rfl⟩ [.int v5] (m_X7_appendFour l G ad σ4 v5 σ5 q_36 _) kv_X7_appendFour tw_2_172 ⟨Nat.le_of_ble_eq_true rfl, Nat.le_of_ble_eq_true rfl⟩ rfl rfl (Nat.le_of_ble_eq_true rfl) hl.1 ⟨Nat.le_refl _, Nat.le_refl _⟩ dX7_appendInput_36 (fun H locs S => ?_)
    refine lv_aload_n C.1 C.2.1 dX7_appendInput_39 rfl (lv_at hl 0 rfl) ?_
    refine z_getI C S 7 0 rfl (by decide) cf_7 1 (by decide) (gi_7_1 G ad 0) tw_2_129 dX7_appendInput_40 ?_
    exact z_iret C S hf dX7_appendInput_43
  · rw [if_neg c_7] at hf
    refine lv_iconst (v := (-1)) C.1 C.2.1 dX7_appendInput_10 (by decide) ?_
    exact z_iret C S hf dX7_appendInput_11
theorem kv_X7_appendInput : KV yX7_appendInput cX7_appendInput 6 (Option.some FieldType.int) 5 := ⟨tw_2_171, tw_2_169, tw_2_170, tw_1_1, by decide, by decide, by decide +kernel⟩
theorem m_X7_appendInput (l : Launch) (G : Gx) (ad : Ad) (σ : Sg) (v1 : Int32) (v2 : Int32) (v3 : Int32) (v4 : Int32) (v5 : Int32) (r : Int32) (σ' : Sg)  (hf : f_X7_appendInput σ v1 v2 v3 v4 v5 = some (r, σ')) (sz : Nat) : z_MI l yX7_appendInput cX7_appendInput 6 (Option.some FieldType.int) 1 22 0 G ad σ sz [.ref (ad 7 0), .int v1, .int v2, .int v3, .int v4, .int v5] r σ' := by
  refine z_begin (by decide +kernel) (Nat.le_of_ble_eq_true rfl) [(0, .ref (ad 7 0)), (1, .int v1), (2, .int v2), (3, .int v3), (4, .int v4), (5, .int v5)] rfl (fun p e s m args below meth c ls C hz S hl => ?_)
  subst hz
  exact w_X7_appendInput_0 (res := (r, σ')) C σ v1 v2 v3 v4 v5 _ _ _ S hl  hf

theorem dX7_truncateInput_0 : decode cX7_truncateInput 0 = .ok (.iload_n 1, 1) := by decide +kernel
theorem dX7_truncateInput_1 : decode cX7_truncateInput 1 = .ok (.ifCond .lt 11, 3) := by decide +kernel
theorem dX7_truncateInput_4 : decode cX7_truncateInput 4 = .ok (.iload_n 1, 1) := by decide +kernel
theorem dX7_truncateInput_5 : decode cX7_truncateInput 5 = .ok (.aload_n 0, 1) := by decide +kernel
theorem dX7_truncateInput_6 : decode cX7_truncateInput 6 = .ok (.getfield 65, 3) := by decide +kernel
theorem dX7_truncateInput_9 : decode cX7_truncateInput 9 = .ok (.if_icmp .le 5, 3) := by decide +kernel
theorem dX7_truncateInput_12 : decode cX7_truncateInput 12 = .ok (.iconst 0, 1) := by decide +kernel
theorem dX7_truncateInput_13 : decode cX7_truncateInput 13 = .ok (.ireturn, 1) := by decide +kernel
theorem dX7_truncateInput_14 : decode cX7_truncateInput 14 = .ok (.aload_n 0, 1) := by decide +kernel
theorem dX7_truncateInput_15 : decode cX7_truncateInput 15 = .ok (.iload_n 1, 1) := by decide +kernel
theorem dX7_truncateInput_16 : decode cX7_truncateInput 16 = .ok (.putfield 65, 3) := by decide +kernel
theorem dX7_truncateInput_19 : decode cX7_truncateInput 19 = .ok (.iconst 1, 1) := by decide +kernel
theorem dX7_truncateInput_20 : decode cX7_truncateInput 20 = .ok (.ireturn, 1) := by decide +kernel
/-! BusLifts.truncateInput(I)Z -/
noncomputable def f_X7_truncateInput_12  (σ : Sg)  : Option (Int32 × Sg) := some (0, σ)
noncomputable def f_X7_truncateInput  (σ : Sg) (v1 : Int32) : Option (Int32 × Sg) := if v1 < 0 then (f_X7_truncateInput_12 σ) else (if v1 ≤ (σ 7 0 1) then (st (sup σ 7 0 1 v1) fun σ1 => (some (1, σ1))) else (f_X7_truncateInput_12 σ))
set_option maxHeartbeats 4000000 in
set_option maxRecDepth 100000 in
theorem w_X7_truncateInput_12 {p : Program} {l : Launch} {e : Env} {s : State} {m : MethodId} {args : Array Value} {below : List Frame} {meth : Method} {c : Code} {G : Gx} {ad : Ad} {res : Int32 × Sg} (C : Cx p s m args meth c yX7_truncateInput.cls cX7_truncateInput 2 (Option.some FieldType.boolean) G)  : ∀ (σ : Sg)  (H : Heap) (locs : List Loc) (ls : Array Slot), z_S 0 G ad σ (z_A 0 ad s.heap.size) s.heap H locs → lv_has ls 2 [] → f_X7_truncateInput_12  σ  = some res → W p l e { frames := 0, cells := 0, slots := 0, locals := 0 } s m args below meth c H locs 0 0 (MQ below (va_Qi (S := Unit) (fun r1 _ => r1 = res.1) (fun _ t => z_W 0 G ad res.2 t.heap) (z_A 0 ad s.heap.size)) args s 0 0 (z_A 0 ad s.heap.size)) (F0 m 12 ls []) := by
  intro σ  H locs ls S hl  hf
  unfold f_X7_truncateInput_12 at hf
  refine lv_iconst (v := 0) C.1 C.2.1 dX7_truncateInput_12 (by decide) ?_
  exact z_zret C S rfl hf dX7_truncateInput_13
set_option maxHeartbeats 4000000 in
set_option maxRecDepth 100000 in
theorem w_X7_truncateInput_0 {p : Program} {l : Launch} {e : Env} {s : State} {m : MethodId} {args : Array Value} {below : List Frame} {meth : Method} {c : Code} {G : Gx} {ad : Ad} {res : Int32 × Sg} (C : Cx p s m args meth c yX7_truncateInput.cls cX7_truncateInput 2 (Option.some FieldType.boolean) G)  : ∀ (σ : Sg) (v1 : Int32) (H : Heap) (locs : List Loc) (ls : Array Slot), z_S 0 G ad σ (z_A 0 ad s.heap.size) s.heap H locs → lv_has ls 2 [(0, .ref (ad 7 0)), (1, .int v1)] → f_X7_truncateInput  σ v1 = some res → W p l e { frames := 0, cells := 0, slots := 0, locals := 0 } s m args below meth c H locs 0 0 (MQ below (va_Qi (S := Unit) (fun r1 _ => r1 = res.1) (fun _ t => z_W 0 G ad res.2 t.heap) (z_A 0 ad s.heap.size)) args s 0 0 (z_A 0 ad s.heap.size)) (F0 m 0 ls []) := by
  intro σ v1 H locs ls S hl  hf
  unfold f_X7_truncateInput at hf
  refine lv_iload_n C.1 C.2.1 dX7_truncateInput_0 rfl (lv_at hl 1 rfl) ?_
  refine lv_if_lt (tgt := 12) C.1 C.2.1 dX7_truncateInput_1 (by decide) (fun c_1 => ?_) (fun c_1 => ?_)
  · rw [if_pos c_1] at hf
    exact w_X7_truncateInput_12 C _ _ _ _ S (lv_sub hl [] rfl) hf
  · rw [if_neg c_1] at hf
    refine lv_iload_n C.1 C.2.1 dX7_truncateInput_4 rfl (lv_at hl 1 rfl) ?_
    refine lv_aload_n C.1 C.2.1 dX7_truncateInput_5 rfl (lv_at hl 0 rfl) ?_
    refine z_getI C S 7 0 rfl (by decide) cf_7 1 (by decide) (gi_7_1 G ad 0) tw_2_129 dX7_truncateInput_6 ?_
    refine lv_icmp_le (tgt := 14) C.1 C.2.1 dX7_truncateInput_9 (by decide) (fun c_9 => ?_) (fun c_9 => ?_)
    · rw [if_pos c_9] at hf
      refine lv_aload_n C.1 C.2.1 dX7_truncateInput_14 rfl (lv_at hl 0 rfl) ?_
      refine lv_iload_n C.1 C.2.1 dX7_truncateInput_15 rfl (lv_at hl 1 rfl) ?_
      obtain ⟨σ1, e_16, hf⟩ := stb hf
      refine z_putI C S 7 0 rfl (by decide) cf_7 1 (by decide) (pi_7_1 G ad 0) rfl rfl rfl tw_2_129 dX7_truncateInput_16 (fun H locs S => ?_)
      rw [← e_16] at S
      refine lv_iconst (v := 1) C.1 C.2.1 dX7_truncateInput_19 (by decide) ?_
      exact z_zret C S rfl hf dX7_truncateInput_20
    · rw [if_neg c_9] at hf
      exact w_X7_truncateInput_12 C _ _ _ _ S (lv_sub hl [] rfl) hf
theorem kv_X7_truncateInput : KV yX7_truncateInput cX7_truncateInput 2 (Option.some FieldType.boolean) 1 := ⟨tw_2_179, tw_2_177, tw_2_178, tw_1_1, by decide, by decide, by decide +kernel⟩
theorem m_X7_truncateInput (l : Launch) (G : Gx) (ad : Ad) (σ : Sg) (v1 : Int32) (r : Int32) (σ' : Sg)  (hf : f_X7_truncateInput σ v1 = some (r, σ')) (sz : Nat) : z_MI l yX7_truncateInput cX7_truncateInput 2 (Option.some FieldType.boolean) 0 0 0 G ad σ sz [.ref (ad 7 0), .int v1] r σ' := by
  refine z_begin (by decide +kernel) (Nat.le_of_ble_eq_true rfl) [(0, .ref (ad 7 0)), (1, .int v1)] rfl (fun p e s m args below meth c ls C hz S hl => ?_)
  subst hz
  exact w_X7_truncateInput_0 (res := (r, σ')) C σ v1 _ _ _ S hl  hf

theorem dX7_errorCode_0 : decode cX7_errorCode 0 = .ok (.aload_n 0, 1) := by decide +kernel
theorem dX7_errorCode_1 : decode cX7_errorCode 1 = .ok (.getfield 13, 3) := by decide +kernel
theorem dX7_errorCode_4 : decode cX7_errorCode 4 = .ok (.ireturn, 1) := by decide +kernel
/-! BusLifts.errorCode()I -/
noncomputable def f_X7_errorCode  (σ : Sg)  : Option (Int32 × Sg) := some ((σ 7 0 2), σ)
set_option maxHeartbeats 4000000 in
set_option maxRecDepth 100000 in
theorem w_X7_errorCode_0 {p : Program} {l : Launch} {e : Env} {s : State} {m : MethodId} {args : Array Value} {below : List Frame} {meth : Method} {c : Code} {G : Gx} {ad : Ad} {res : Int32 × Sg} (C : Cx p s m args meth c yX7_errorCode.cls cX7_errorCode 1 (Option.some FieldType.int) G)  : ∀ (σ : Sg)  (H : Heap) (locs : List Loc) (ls : Array Slot), z_S 0 G ad σ (z_A 0 ad s.heap.size) s.heap H locs → lv_has ls 1 [(0, .ref (ad 7 0))] → f_X7_errorCode  σ  = some res → W p l e { frames := 0, cells := 0, slots := 0, locals := 0 } s m args below meth c H locs 0 0 (MQ below (va_Qi (S := Unit) (fun r1 _ => r1 = res.1) (fun _ t => z_W 0 G ad res.2 t.heap) (z_A 0 ad s.heap.size)) args s 0 0 (z_A 0 ad s.heap.size)) (F0 m 0 ls []) := by
  intro σ  H locs ls S hl  hf
  unfold f_X7_errorCode at hf
  refine lv_aload_n C.1 C.2.1 dX7_errorCode_0 rfl (lv_at hl 0 rfl) ?_
  refine z_getI C S 7 0 rfl (by decide) cf_7 2 (by decide) (gi_7_2 G ad 0) tw_2_130 dX7_errorCode_1 ?_
  exact z_iret C S hf dX7_errorCode_4
theorem kv_X7_errorCode : KV yX7_errorCode cX7_errorCode 1 (Option.some FieldType.int) 0 := ⟨tw_3_112, tw_3_110, tw_3_111, tw_1_1, by decide, by decide, by decide +kernel⟩
theorem m_X7_errorCode (l : Launch) (G : Gx) (ad : Ad) (σ : Sg)  (r : Int32) (σ' : Sg)  (hf : f_X7_errorCode σ  = some (r, σ')) (sz : Nat) : z_MI l yX7_errorCode cX7_errorCode 1 (Option.some FieldType.int) 0 0 0 G ad σ sz [.ref (ad 7 0)] r σ' := by
  refine z_begin (by decide +kernel) (Nat.le_of_ble_eq_true rfl) [(0, .ref (ad 7 0))] rfl (fun p e s m args below meth c ls C hz S hl => ?_)
  subst hz
  exact w_X7_errorCode_0 (res := (r, σ')) C σ  _ _ _ S hl  hf

theorem dX7_errorOffset_0 : decode cX7_errorOffset 0 = .ok (.aload_n 0, 1) := by decide +kernel
theorem dX7_errorOffset_1 : decode cX7_errorOffset 1 = .ok (.getfield 17, 3) := by decide +kernel
theorem dX7_errorOffset_4 : decode cX7_errorOffset 4 = .ok (.ireturn, 1) := by decide +kernel
/-! BusLifts.errorOffset()I -/
noncomputable def f_X7_errorOffset  (σ : Sg)  : Option (Int32 × Sg) := some ((σ 7 0 3), σ)
set_option maxHeartbeats 4000000 in
set_option maxRecDepth 100000 in
theorem w_X7_errorOffset_0 {p : Program} {l : Launch} {e : Env} {s : State} {m : MethodId} {args : Array Value} {below : List Frame} {meth : Method} {c : Code} {G : Gx} {ad : Ad} {res : Int32 × Sg} (C : Cx p s m args meth c yX7_errorOffset.cls cX7_errorOffset 1 (Option.some FieldType.int) G)  : ∀ (σ : Sg)  (H : Heap) (locs : List Loc) (ls : Array Slot), z_S 0 G ad σ (z_A 0 ad s.heap.size) s.heap H locs → lv_has ls 1 [(0, .ref (ad 7 0))] → f_X7_errorOffset  σ  = some res → W p l e { frames := 0, cells := 0, slots := 0, locals := 0 } s m args below meth c H locs 0 0 (MQ below (va_Qi (S := Unit) (fun r1 _ => r1 = res.1) (fun _ t => z_W 0 G ad res.2 t.heap) (z_A 0 ad s.heap.size)) args s 0 0 (z_A 0 ad s.heap.size)) (F0 m 0 ls []) := by
  intro σ  H locs ls S hl  hf
  unfold f_X7_errorOffset at hf
  refine lv_aload_n C.1 C.2.1 dX7_errorOffset_0 rfl (lv_at hl 0 rfl) ?_
  refine z_getI C S 7 0 rfl (by decide) cf_7 3 (by decide) (gi_7_3 G ad 0) tw_2_131 dX7_errorOffset_1 ?_
  exact z_iret C S hf dX7_errorOffset_4
theorem kv_X7_errorOffset : KV yX7_errorOffset cX7_errorOffset 1 (Option.some FieldType.int) 0 := ⟨tw_3_116, tw_3_114, tw_3_115, tw_1_1, by decide, by decide, by decide +kernel⟩
theorem m_X7_errorOffset (l : Launch) (G : Gx) (ad : Ad) (σ : Sg)  (r : Int32) (σ' : Sg)  (hf : f_X7_errorOffset σ  = some (r, σ')) (sz : Nat) : z_MI l yX7_errorOffset cX7_errorOffset 1 (Option.some FieldType.int) 0 0 0 G ad σ sz [.ref (ad 7 0)] r σ' := by
  refine z_begin (by decide +kernel) (Nat.le_of_ble_eq_true rfl) [(0, .ref (ad 7 0))] rfl (fun p e s m args below meth c ls C hz S hl => ?_)
  subst hz
  exact w_X7_errorOffset_0 (res := (r, σ')) C σ  _ _ _ S hl  hf

theorem dX7_longestWait_0 : decode cX7_longestWait 0 = .ok (.aload_n 0, 1) := by decide +kernel
theorem dX7_longestWait_1 : decode cX7_longestWait 1 = .ok (.getfield 26, 3) := by decide +kernel
theorem dX7_longestWait_4 : decode cX7_longestWait 4 = .ok (.invokevirtual 276, 3) := by decide +kernel
theorem dX7_longestWait_7 : decode cX7_longestWait 7 = .ok (.ireturn, 1) := by decide +kernel
/-! BusLifts.longestWait()I -/
noncomputable def f_X7_longestWait  (σ : Sg)  : Option (Int32 × Sg) := bi (f_X4_greatestWait σ 0) fun r2 σ1 => (some (r2, σ1))
set_option maxHeartbeats 4000000 in
set_option maxRecDepth 100000 in
theorem w_X7_longestWait_0 {p : Program} {l : Launch} {e : Env} {s : State} {m : MethodId} {args : Array Value} {below : List Frame} {meth : Method} {c : Code} {G : Gx} {ad : Ad} {res : Int32 × Sg} (C : Cx p s m args meth c yX7_longestWait.cls cX7_longestWait 1 (Option.some FieldType.int) G)  : ∀ (σ : Sg)  (H : Heap) (locs : List Loc) (ls : Array Slot), z_S 0 G ad σ (z_A 0 ad s.heap.size) s.heap H locs → lv_has ls 1 [(0, .ref (ad 7 0))] → f_X7_longestWait  σ  = some res → W p l e { frames := 2, cells := 0, slots := 0, locals := 44 } s m args below meth c H locs 0 0 (MQ below (va_Qi (S := Unit) (fun r1 _ => r1 = res.1) (fun _ t => z_W 0 G ad res.2 t.heap) (z_A 0 ad s.heap.size)) args s 0 0 (z_A 0 ad s.heap.size)) (F0 m 0 ls []) := by
  intro σ  H locs ls S hl  hf
  unfold f_X7_longestWait at hf
  refine lv_aload_n C.1 C.2.1 dX7_longestWait_0 rfl (lv_at hl 0 rfl) ?_
  refine z_getR C S 7 0 rfl (by decide) cf_7 6 (by decide) _ (gr_7_6 G ad 0) tw_2_134 dX7_longestWait_1 ?_
  obtain ⟨r2, σ1, q_4, hf⟩ := bib hf
  refine z_callI C S 4 0 rfl (by decide) cf_4 ⟨_, rfl⟩ [] (m_X4_greatestWait l G ad σ 0 r2 σ1 (by decide) q_4 _) kv_X4_greatestWait tw_3_121 ⟨Nat.le_of_ble_eq_true rfl, Nat.le_of_ble_eq_true rfl⟩ rfl rfl (Nat.le_of_ble_eq_true rfl) hl.1 ⟨Nat.le_refl _, Nat.le_refl _⟩ dX7_longestWait_4 (fun H locs S => ?_)
  exact z_iret C S hf dX7_longestWait_7
theorem kv_X7_longestWait : KV yX7_longestWait cX7_longestWait 1 (Option.some FieldType.int) 0 := ⟨tw_3_120, tw_3_118, tw_3_119, tw_1_1, by decide, by decide, by decide +kernel⟩
theorem m_X7_longestWait (l : Launch) (G : Gx) (ad : Ad) (σ : Sg)  (r : Int32) (σ' : Sg)  (hf : f_X7_longestWait σ  = some (r, σ')) (sz : Nat) : z_MI l yX7_longestWait cX7_longestWait 1 (Option.some FieldType.int) 2 44 0 G ad σ sz [.ref (ad 7 0)] r σ' := by
  refine z_begin (by decide +kernel) (Nat.le_of_ble_eq_true rfl) [(0, .ref (ad 7 0))] rfl (fun p e s m args below meth c ls C hz S hl => ?_)
  subst hz
  exact w_X7_longestWait_0 (res := (r, σ')) C σ  _ _ _ S hl  hf

theorem dX7_doubles_0 : decode cX7_doubles 0 = .ok (.iconst 0, 1) := by decide +kernel
theorem dX7_doubles_1 : decode cX7_doubles 1 = .ok (.istore_n 1, 1) := by decide +kernel
theorem dX7_doubles_2 : decode cX7_doubles 2 = .ok (.iconst 0, 1) := by decide +kernel
theorem dX7_doubles_3 : decode cX7_doubles 3 = .ok (.istore_n 2, 1) := by decide +kernel
theorem dX7_doubles_4 : decode cX7_doubles 4 = .ok (.iload_n 2, 1) := by decide +kernel
theorem dX7_doubles_5 : decode cX7_doubles 5 = .ok (.aload_n 0, 1) := by decide +kernel
theorem dX7_doubles_6 : decode cX7_doubles 6 = .ok (.getfield 26, 3) := by decide +kernel
theorem dX7_doubles_9 : decode cX7_doubles 9 = .ok (.getfield 97, 3) := by decide +kernel
theorem dX7_doubles_12 : decode cX7_doubles 12 = .ok (.if_icmp .ge 27, 3) := by decide +kernel
theorem dX7_doubles_15 : decode cX7_doubles 15 = .ok (.aload_n 0, 1) := by decide +kernel
theorem dX7_doubles_16 : decode cX7_doubles 16 = .ok (.getfield 26, 3) := by decide +kernel
theorem dX7_doubles_19 : decode cX7_doubles 19 = .ok (.iload_n 2, 1) := by decide +kernel
theorem dX7_doubles_20 : decode cX7_doubles 20 = .ok (.invokevirtual 224, 3) := by decide +kernel
theorem dX7_doubles_23 : decode cX7_doubles 23 = .ok (.iconst 1, 1) := by decide +kernel
theorem dX7_doubles_24 : decode cX7_doubles 24 = .ok (.if_icmp .le 9, 3) := by decide +kernel
theorem dX7_doubles_27 : decode cX7_doubles 27 = .ok (.iload_n 1, 1) := by decide +kernel
theorem dX7_doubles_28 : decode cX7_doubles 28 = .ok (.iconst 1, 1) := by decide +kernel
theorem dX7_doubles_29 : decode cX7_doubles 29 = .ok (.iload_n 2, 1) := by decide +kernel
theorem dX7_doubles_30 : decode cX7_doubles 30 = .ok (.ishl, 1) := by decide +kernel
theorem dX7_doubles_31 : decode cX7_doubles 31 = .ok (.ior, 1) := by decide +kernel
theorem dX7_doubles_32 : decode cX7_doubles 32 = .ok (.istore_n 1, 1) := by decide +kernel
theorem dX7_doubles_33 : decode cX7_doubles 33 = .ok (.iinc 2 1, 3) := by decide +kernel
theorem dX7_doubles_36 : decode cX7_doubles 36 = .ok (.goto (-32), 3) := by decide +kernel
theorem dX7_doubles_39 : decode cX7_doubles 39 = .ok (.iload_n 1, 1) := by decide +kernel
theorem dX7_doubles_40 : decode cX7_doubles 40 = .ok (.ireturn, 1) := by decide +kernel
/-! BusLifts.doubles()I -/
noncomputable def f_X7_doubles_39  (σ : Sg) (v1 : Int32) : Option (Int32 × Sg) := some (v1, σ)
noncomputable def f_X7_doubles_33 (k4 : Sg → Int32 → Int32 → Option (Int32 × Sg)) (σ : Sg) (v1 : Int32) (v2 : Int32) : Option (Int32 × Sg) := k4 σ v1 (v2 + 1)
noncomputable def f_X7_doubles_4  : Nat → Sg → Int32 → Int32 → Option (Int32 × Sg)
  | 0, _, _, _ => none
  | n + 1, σ, v1, v2 => if (σ 4 0 2) ≤ v2 then (f_X7_doubles_39 σ v1) else (bi (f_X4_holders σ 0 v2) fun r2 σ1 => (if r2 ≤ 1 then (f_X7_doubles_33 (f_X7_doubles_4 n) σ1 v1 v2) else (f_X7_doubles_33 (f_X7_doubles_4 n) σ1 (v1 ||| (1 <<< (v2 &&& 31))) v2)))
theorem f_X7_doubles_4_s  (n : Nat) (σ : Sg) (v1 : Int32) (v2 : Int32) : f_X7_doubles_4  (n + 1) σ v1 v2 = (if (σ 4 0 2) ≤ v2 then (f_X7_doubles_39 σ v1) else (bi (f_X4_holders σ 0 v2) fun r2 σ1 => (if r2 ≤ 1 then (f_X7_doubles_33 (f_X7_doubles_4 n) σ1 v1 v2) else (f_X7_doubles_33 (f_X7_doubles_4 n) σ1 (v1 ||| (1 <<< (v2 &&& 31))) v2)))) := rfl
noncomputable def f_X7_doubles  (σ : Sg)  : Option (Int32 × Sg) := f_X7_doubles_4 FU σ 0 0
set_option maxHeartbeats 4000000 in
set_option maxRecDepth 100000 in
theorem w_X7_doubles_39 {p : Program} {l : Launch} {e : Env} {s : State} {m : MethodId} {args : Array Value} {below : List Frame} {meth : Method} {c : Code} {G : Gx} {ad : Ad} {res : Int32 × Sg} (C : Cx p s m args meth c yX7_doubles.cls cX7_doubles 3 (Option.some FieldType.int) G)  : ∀ (σ : Sg) (v1 : Int32) (H : Heap) (locs : List Loc) (ls : Array Slot), z_S 0 G ad σ (z_A 0 ad s.heap.size) s.heap H locs → lv_has ls 3 [(1, .int v1)] → f_X7_doubles_39  σ v1 = some res → W p l e { frames := 2, cells := 0, slots := 0, locals := 44 } s m args below meth c H locs 0 0 (MQ below (va_Qi (S := Unit) (fun r1 _ => r1 = res.1) (fun _ t => z_W 0 G ad res.2 t.heap) (z_A 0 ad s.heap.size)) args s 0 0 (z_A 0 ad s.heap.size)) (F0 m 39 ls []) := by
  intro σ v1 H locs ls S hl  hf
  unfold f_X7_doubles_39 at hf
  refine lv_iload_n C.1 C.2.1 dX7_doubles_39 rfl (lv_at hl 0 rfl) ?_
  exact z_iret C S hf dX7_doubles_40
set_option maxHeartbeats 4000000 in
set_option maxRecDepth 100000 in
theorem w_X7_doubles_33 {p : Program} {l : Launch} {e : Env} {s : State} {m : MethodId} {args : Array Value} {below : List Frame} {meth : Method} {c : Code} {G : Gx} {ad : Ad} {res : Int32 × Sg} (C : Cx p s m args meth c yX7_doubles.cls cX7_doubles 3 (Option.some FieldType.int) G) (k4 : Sg → Int32 → Int32 → Option (Int32 × Sg)) (hk4 : ∀ (σ : Sg) (v1 : Int32) (v2 : Int32) (H : Heap) (locs : List Loc) (ls : Array Slot), z_S 0 G ad σ (z_A 0 ad s.heap.size) s.heap H locs → lv_has ls 3 [(0, .ref (ad 7 0)), (1, .int v1), (2, .int v2)] → k4 σ v1 v2 = some res → W p l e { frames := 2, cells := 0, slots := 0, locals := 44 } s m args below meth c H locs 0 0 (MQ below (va_Qi (S := Unit) (fun r1 _ => r1 = res.1) (fun _ t => z_W 0 G ad res.2 t.heap) (z_A 0 ad s.heap.size)) args s 0 0 (z_A 0 ad s.heap.size)) (F0 m 4 ls [])) : ∀ (σ : Sg) (v1 : Int32) (v2 : Int32) (H : Heap) (locs : List Loc) (ls : Array Slot), z_S 0 G ad σ (z_A 0 ad s.heap.size) s.heap H locs → lv_has ls 3 [(0, .ref (ad 7 0)), (1, .int v1), (2, .int v2)] → f_X7_doubles_33 k4 σ v1 v2 = some res → W p l e { frames := 2, cells := 0, slots := 0, locals := 44 } s m args below meth c H locs 0 0 (MQ below (va_Qi (S := Unit) (fun r1 _ => r1 = res.1) (fun _ t => z_W 0 G ad res.2 t.heap) (z_A 0 ad s.heap.size)) args s 0 0 (z_A 0 ad s.heap.size)) (F0 m 33 ls []) := by
  intro σ v1 v2 H locs ls S hl  hf
  unfold f_X7_doubles_33 at hf
  refine lv_iinc (v := (v2 + 1)) (lv' := [(2, .int (v2 + 1)), (0, .ref (ad 7 0)), (1, .int v1)]) C.1 C.2.1 dX7_doubles_33 hl (k := 2) rfl rfl (by decide) rfl (fun ls hl => ?_)
  refine lv_goto (tgt := 4) C.1 C.2.1 dX7_doubles_36 (by decide) ?_
  exact hk4 _ v1 (v2 + 1) _ _ _ S (lv_sub hl [1, 2, 0] rfl)  hf
set_option maxHeartbeats 4000000 in
set_option maxRecDepth 100000 in
theorem w_X7_doubles_4 {p : Program} {l : Launch} {e : Env} {s : State} {m : MethodId} {args : Array Value} {below : List Frame} {meth : Method} {c : Code} {G : Gx} {ad : Ad} {res : Int32 × Sg} (C : Cx p s m args meth c yX7_doubles.cls cX7_doubles 3 (Option.some FieldType.int) G)  : ∀ n : Nat, ∀ (σ : Sg) (v1 : Int32) (v2 : Int32) (H : Heap) (locs : List Loc) (ls : Array Slot), z_S 0 G ad σ (z_A 0 ad s.heap.size) s.heap H locs → lv_has ls 3 [(0, .ref (ad 7 0)), (1, .int v1), (2, .int v2)] → f_X7_doubles_4  n σ v1 v2 = some res → W p l e { frames := 2, cells := 0, slots := 0, locals := 44 } s m args below meth c H locs 0 0 (MQ below (va_Qi (S := Unit) (fun r1 _ => r1 = res.1) (fun _ t => z_W 0 G ad res.2 t.heap) (z_A 0 ad s.heap.size)) args s 0 0 (z_A 0 ad s.heap.size)) (F0 m 4 ls []) := by
  intro n
  induction n with
  | zero => intro σ v1 v2 H locs ls S hl  hf; cases hf
  | succ n ih =>
    intro σ v1 v2 H locs ls S hl  hf
    rw [f_X7_doubles_4_s] at hf
    refine lv_iload_n C.1 C.2.1 dX7_doubles_4 rfl (lv_at hl 2 rfl) ?_
    refine lv_aload_n C.1 C.2.1 dX7_doubles_5 rfl (lv_at hl 0 rfl) ?_
    refine z_getR C S 7 0 rfl (by decide) cf_7 6 (by decide) _ (gr_7_6 G ad 0) tw_2_134 dX7_doubles_6 ?_
    refine z_getI C S 4 0 rfl (by decide) cf_4 2 (by decide) (gi_4_2 G ad 0) tw_1_222 dX7_doubles_9 ?_
    refine lv_icmp_ge (tgt := 39) C.1 C.2.1 dX7_doubles_12 (by decide) (fun c_12 => ?_) (fun c_12 => ?_)
    · rw [if_pos c_12] at hf
      exact w_X7_doubles_39 C _ v1 _ _ _ S (lv_sub hl [1] rfl) hf
    · rw [if_neg c_12] at hf
      refine lv_aload_n C.1 C.2.1 dX7_doubles_15 rfl (lv_at hl 0 rfl) ?_
      refine z_getR C S 7 0 rfl (by decide) cf_7 6 (by decide) _ (gr_7_6 G ad 0) tw_2_134 dX7_doubles_16 ?_
      refine lv_iload_n C.1 C.2.1 dX7_doubles_19 rfl (lv_at hl 2 rfl) ?_
      obtain ⟨r2, σ1, q_20, hf⟩ := bib hf
      refine z_callI C S 4 0 rfl (by decide) cf_4 ⟨_, rfl⟩ [.int v2] (m_X4_holders l G ad σ 0 v2 r2 σ1 (by decide) q_20 _) kv_X4_holders tw_3_151 ⟨Nat.le_of_ble_eq_true rfl, Nat.le_of_ble_eq_true rfl⟩ rfl rfl (Nat.le_of_ble_eq_true rfl) hl.1 ⟨Nat.le_refl _, Nat.le_refl _⟩ dX7_doubles_20 (fun H locs S => ?_)
      refine lv_iconst (v := 1) C.1 C.2.1 dX7_doubles_23 (by decide) ?_
      refine lv_icmp_le (tgt := 33) C.1 C.2.1 dX7_doubles_24 (by decide) (fun c_24 => ?_) (fun c_24 => ?_)
      · rw [if_pos c_24] at hf
        exact w_X7_doubles_33 C (f_X7_doubles_4 n) ih _ v1 v2 _ _ _ S (lv_sub hl [0, 1, 2] rfl) hf
      · rw [if_neg c_24] at hf
        refine lv_iload_n C.1 C.2.1 dX7_doubles_27 rfl (lv_at hl 1 rfl) ?_
        refine lv_iconst (v := 1) C.1 C.2.1 dX7_doubles_28 (by decide) ?_
        refine lv_iload_n C.1 C.2.1 dX7_doubles_29 rfl (lv_at hl 2 rfl) ?_
        refine lv_ishl C.1 C.2.1 dX7_doubles_30 ?_
        refine lv_ior C.1 C.2.1 dX7_doubles_31 ?_
        refine lv_istore_n (lv' := [(1, .int (v1 ||| (1 <<< (v2 &&& 31)))), (0, .ref (ad 7 0)), (2, .int v2)]) C.1 C.2.1 dX7_doubles_32 rfl hl (by decide) rfl (fun ls hl => ?_)
        exact w_X7_doubles_33 C (f_X7_doubles_4 n) ih _ (v1 ||| (1 <<< (v2 &&& 31))) v2 _ _ _ S (lv_sub hl [1, 0, 2] rfl) hf
set_option maxHeartbeats 4000000 in
set_option maxRecDepth 100000 in
theorem w_X7_doubles_0 {p : Program} {l : Launch} {e : Env} {s : State} {m : MethodId} {args : Array Value} {below : List Frame} {meth : Method} {c : Code} {G : Gx} {ad : Ad} {res : Int32 × Sg} (C : Cx p s m args meth c yX7_doubles.cls cX7_doubles 3 (Option.some FieldType.int) G)  : ∀ (σ : Sg)  (H : Heap) (locs : List Loc) (ls : Array Slot), z_S 0 G ad σ (z_A 0 ad s.heap.size) s.heap H locs → lv_has ls 3 [(0, .ref (ad 7 0))] → f_X7_doubles  σ  = some res → W p l e { frames := 2, cells := 0, slots := 0, locals := 44 } s m args below meth c H locs 0 0 (MQ below (va_Qi (S := Unit) (fun r1 _ => r1 = res.1) (fun _ t => z_W 0 G ad res.2 t.heap) (z_A 0 ad s.heap.size)) args s 0 0 (z_A 0 ad s.heap.size)) (F0 m 0 ls []) := by
  intro σ  H locs ls S hl  hf
  unfold f_X7_doubles at hf
  refine lv_iconst (v := 0) C.1 C.2.1 dX7_doubles_0 (by decide) ?_
  refine lv_istore_n (lv' := [(1, .int 0), (0, .ref (ad 7 0))]) C.1 C.2.1 dX7_doubles_1 rfl hl (by decide) rfl (fun ls hl => ?_)
  refine lv_iconst (v := 0) C.1 C.2.1 dX7_doubles_2 (by decide) ?_
  refine lv_istore_n (lv' := [(2, .int 0), (1, .int 0), (0, .ref (ad 7 0))]) C.1 C.2.1 dX7_doubles_3 rfl hl (by decide) rfl (fun ls hl => ?_)
  exact w_X7_doubles_4 C FU _ 0 0 _ _ _ S (lv_sub hl [2, 1, 0] rfl) hf
theorem kv_X7_doubles : KV yX7_doubles cX7_doubles 3 (Option.some FieldType.int) 0 := ⟨tw_3_150, tw_3_148, tw_3_149, tw_1_1, by decide, by decide, by decide +kernel⟩
theorem m_X7_doubles (l : Launch) (G : Gx) (ad : Ad) (σ : Sg)  (r : Int32) (σ' : Sg)  (hf : f_X7_doubles σ  = some (r, σ')) (sz : Nat) : z_MI l yX7_doubles cX7_doubles 3 (Option.some FieldType.int) 2 44 0 G ad σ sz [.ref (ad 7 0)] r σ' := by
  refine z_begin (by decide +kernel) (Nat.le_of_ble_eq_true rfl) [(0, .ref (ad 7 0))] rfl (fun p e s m args below meth c ls C hz S hl => ?_)
  subst hz
  exact w_X7_doubles_0 (res := (r, σ')) C σ  _ _ _ S hl  hf

theorem dX7_orphans_0 : decode cX7_orphans 0 = .ok (.iconst 0, 1) := by decide +kernel
theorem dX7_orphans_1 : decode cX7_orphans 1 = .ok (.istore_n 1, 1) := by decide +kernel
theorem dX7_orphans_2 : decode cX7_orphans 2 = .ok (.iconst 0, 1) := by decide +kernel
theorem dX7_orphans_3 : decode cX7_orphans 3 = .ok (.istore_n 2, 1) := by decide +kernel
theorem dX7_orphans_4 : decode cX7_orphans 4 = .ok (.iload_n 2, 1) := by decide +kernel
theorem dX7_orphans_5 : decode cX7_orphans 5 = .ok (.aload_n 0, 1) := by decide +kernel
theorem dX7_orphans_6 : decode cX7_orphans 6 = .ok (.getfield 26, 3) := by decide +kernel
theorem dX7_orphans_9 : decode cX7_orphans 9 = .ok (.getfield 97, 3) := by decide +kernel
theorem dX7_orphans_12 : decode cX7_orphans 12 = .ok (.if_icmp .ge 42, 3) := by decide +kernel
theorem dX7_orphans_15 : decode cX7_orphans 15 = .ok (.aload_n 0, 1) := by decide +kernel
theorem dX7_orphans_16 : decode cX7_orphans 16 = .ok (.getfield 26, 3) := by decide +kernel
theorem dX7_orphans_19 : decode cX7_orphans 19 = .ok (.getfield 191, 3) := by decide +kernel
theorem dX7_orphans_22 : decode cX7_orphans 22 = .ok (.iload_n 2, 1) := by decide +kernel
theorem dX7_orphans_23 : decode cX7_orphans 23 = .ok (.aaload, 1) := by decide +kernel
theorem dX7_orphans_24 : decode cX7_orphans 24 = .ok (.getfield 206, 3) := by decide +kernel
theorem dX7_orphans_27 : decode cX7_orphans 27 = .ok (.iconst 1, 1) := by decide +kernel
theorem dX7_orphans_28 : decode cX7_orphans 28 = .ok (.if_icmp .ne 20, 3) := by decide +kernel
theorem dX7_orphans_31 : decode cX7_orphans 31 = .ok (.aload_n 0, 1) := by decide +kernel
theorem dX7_orphans_32 : decode cX7_orphans 32 = .ok (.getfield 26, 3) := by decide +kernel
theorem dX7_orphans_35 : decode cX7_orphans 35 = .ok (.iload_n 2, 1) := by decide +kernel
theorem dX7_orphans_36 : decode cX7_orphans 36 = .ok (.invokevirtual 224, 3) := by decide +kernel
theorem dX7_orphans_39 : decode cX7_orphans 39 = .ok (.ifCond .ne 9, 3) := by decide +kernel
theorem dX7_orphans_42 : decode cX7_orphans 42 = .ok (.iload_n 1, 1) := by decide +kernel
theorem dX7_orphans_43 : decode cX7_orphans 43 = .ok (.iconst 1, 1) := by decide +kernel
theorem dX7_orphans_44 : decode cX7_orphans 44 = .ok (.iload_n 2, 1) := by decide +kernel
theorem dX7_orphans_45 : decode cX7_orphans 45 = .ok (.ishl, 1) := by decide +kernel
theorem dX7_orphans_46 : decode cX7_orphans 46 = .ok (.ior, 1) := by decide +kernel
theorem dX7_orphans_47 : decode cX7_orphans 47 = .ok (.istore_n 1, 1) := by decide +kernel
theorem dX7_orphans_48 : decode cX7_orphans 48 = .ok (.iinc 2 1, 3) := by decide +kernel
theorem dX7_orphans_51 : decode cX7_orphans 51 = .ok (.goto (-47), 3) := by decide +kernel
theorem dX7_orphans_54 : decode cX7_orphans 54 = .ok (.iload_n 1, 1) := by decide +kernel
theorem dX7_orphans_55 : decode cX7_orphans 55 = .ok (.ireturn, 1) := by decide +kernel
/-! BusLifts.orphans()I -/
noncomputable def f_X7_orphans_54  (σ : Sg) (v1 : Int32) : Option (Int32 × Sg) := some (v1, σ)
noncomputable def f_X7_orphans_48 (k4 : Sg → Int32 → Int32 → Option (Int32 × Sg)) (σ : Sg) (v1 : Int32) (v2 : Int32) : Option (Int32 × Sg) := k4 σ v1 (v2 + 1)
noncomputable def f_X7_orphans_4  : Nat → Sg → Int32 → Int32 → Option (Int32 × Sg)
  | 0, _, _, _ => none
  | n + 1, σ, v1, v2 => if (σ 4 0 2) ≤ v2 then (f_X7_orphans_54 σ v1) else (if v2 < 0 ∨ 24 ≤ (v2).toNatClampNeg then none else (if (σ 1 (24 * 0 + (v2).toNatClampNeg) 3) = 1 then (bi (f_X4_holders σ 0 v2) fun r2 σ1 => (if r2 = 0 then (f_X7_orphans_48 (f_X7_orphans_4 n) σ1 (v1 ||| (1 <<< (v2 &&& 31))) v2) else (f_X7_orphans_48 (f_X7_orphans_4 n) σ1 v1 v2))) else (f_X7_orphans_48 (f_X7_orphans_4 n) σ v1 v2)))
theorem f_X7_orphans_4_s  (n : Nat) (σ : Sg) (v1 : Int32) (v2 : Int32) : f_X7_orphans_4  (n + 1) σ v1 v2 = (if (σ 4 0 2) ≤ v2 then (f_X7_orphans_54 σ v1) else (if v2 < 0 ∨ 24 ≤ (v2).toNatClampNeg then none else (if (σ 1 (24 * 0 + (v2).toNatClampNeg) 3) = 1 then (bi (f_X4_holders σ 0 v2) fun r2 σ1 => (if r2 = 0 then (f_X7_orphans_48 (f_X7_orphans_4 n) σ1 (v1 ||| (1 <<< (v2 &&& 31))) v2) else (f_X7_orphans_48 (f_X7_orphans_4 n) σ1 v1 v2))) else (f_X7_orphans_48 (f_X7_orphans_4 n) σ v1 v2)))) := rfl
noncomputable def f_X7_orphans  (σ : Sg)  : Option (Int32 × Sg) := f_X7_orphans_4 FU σ 0 0
set_option maxHeartbeats 4000000 in
set_option maxRecDepth 100000 in
theorem w_X7_orphans_54 {p : Program} {l : Launch} {e : Env} {s : State} {m : MethodId} {args : Array Value} {below : List Frame} {meth : Method} {c : Code} {G : Gx} {ad : Ad} {res : Int32 × Sg} (C : Cx p s m args meth c yX7_orphans.cls cX7_orphans 3 (Option.some FieldType.int) G)  : ∀ (σ : Sg) (v1 : Int32) (H : Heap) (locs : List Loc) (ls : Array Slot), z_S 0 G ad σ (z_A 0 ad s.heap.size) s.heap H locs → lv_has ls 3 [(1, .int v1)] → f_X7_orphans_54  σ v1 = some res → W p l e { frames := 2, cells := 0, slots := 0, locals := 44 } s m args below meth c H locs 0 0 (MQ below (va_Qi (S := Unit) (fun r1 _ => r1 = res.1) (fun _ t => z_W 0 G ad res.2 t.heap) (z_A 0 ad s.heap.size)) args s 0 0 (z_A 0 ad s.heap.size)) (F0 m 54 ls []) := by
  intro σ v1 H locs ls S hl  hf
  unfold f_X7_orphans_54 at hf
  refine lv_iload_n C.1 C.2.1 dX7_orphans_54 rfl (lv_at hl 0 rfl) ?_
  exact z_iret C S hf dX7_orphans_55
set_option maxHeartbeats 4000000 in
set_option maxRecDepth 100000 in
theorem w_X7_orphans_48 {p : Program} {l : Launch} {e : Env} {s : State} {m : MethodId} {args : Array Value} {below : List Frame} {meth : Method} {c : Code} {G : Gx} {ad : Ad} {res : Int32 × Sg} (C : Cx p s m args meth c yX7_orphans.cls cX7_orphans 3 (Option.some FieldType.int) G) (k4 : Sg → Int32 → Int32 → Option (Int32 × Sg)) (hk4 : ∀ (σ : Sg) (v1 : Int32) (v2 : Int32) (H : Heap) (locs : List Loc) (ls : Array Slot), z_S 0 G ad σ (z_A 0 ad s.heap.size) s.heap H locs → lv_has ls 3 [(0, .ref (ad 7 0)), (1, .int v1), (2, .int v2)] → k4 σ v1 v2 = some res → W p l e { frames := 2, cells := 0, slots := 0, locals := 44 } s m args below meth c H locs 0 0 (MQ below (va_Qi (S := Unit) (fun r1 _ => r1 = res.1) (fun _ t => z_W 0 G ad res.2 t.heap) (z_A 0 ad s.heap.size)) args s 0 0 (z_A 0 ad s.heap.size)) (F0 m 4 ls [])) : ∀ (σ : Sg) (v1 : Int32) (v2 : Int32) (H : Heap) (locs : List Loc) (ls : Array Slot), z_S 0 G ad σ (z_A 0 ad s.heap.size) s.heap H locs → lv_has ls 3 [(0, .ref (ad 7 0)), (1, .int v1), (2, .int v2)] → f_X7_orphans_48 k4 σ v1 v2 = some res → W p l e { frames := 2, cells := 0, slots := 0, locals := 44 } s m args below meth c H locs 0 0 (MQ below (va_Qi (S := Unit) (fun r1 _ => r1 = res.1) (fun _ t => z_W 0 G ad res.2 t.heap) (z_A 0 ad s.heap.size)) args s 0 0 (z_A 0 ad s.heap.size)) (F0 m 48 ls []) := by
  intro σ v1 v2 H locs ls S hl  hf
  unfold f_X7_orphans_48 at hf
  refine lv_iinc (v := (v2 + 1)) (lv' := [(2, .int (v2 + 1)), (0, .ref (ad 7 0)), (1, .int v1)]) C.1 C.2.1 dX7_orphans_48 hl (k := 2) rfl rfl (by decide) rfl (fun ls hl => ?_)
  refine lv_goto (tgt := 4) C.1 C.2.1 dX7_orphans_51 (by decide) ?_
  exact hk4 _ v1 (v2 + 1) _ _ _ S (lv_sub hl [1, 2, 0] rfl)  hf
set_option maxHeartbeats 4000000 in
set_option maxRecDepth 100000 in
theorem w_X7_orphans_4 {p : Program} {l : Launch} {e : Env} {s : State} {m : MethodId} {args : Array Value} {below : List Frame} {meth : Method} {c : Code} {G : Gx} {ad : Ad} {res : Int32 × Sg} (C : Cx p s m args meth c yX7_orphans.cls cX7_orphans 3 (Option.some FieldType.int) G)  : ∀ n : Nat, ∀ (σ : Sg) (v1 : Int32) (v2 : Int32) (H : Heap) (locs : List Loc) (ls : Array Slot), z_S 0 G ad σ (z_A 0 ad s.heap.size) s.heap H locs → lv_has ls 3 [(0, .ref (ad 7 0)), (1, .int v1), (2, .int v2)] → f_X7_orphans_4  n σ v1 v2 = some res → W p l e { frames := 2, cells := 0, slots := 0, locals := 44 } s m args below meth c H locs 0 0 (MQ below (va_Qi (S := Unit) (fun r1 _ => r1 = res.1) (fun _ t => z_W 0 G ad res.2 t.heap) (z_A 0 ad s.heap.size)) args s 0 0 (z_A 0 ad s.heap.size)) (F0 m 4 ls []) := by
  intro n
  induction n with
  | zero => intro σ v1 v2 H locs ls S hl  hf; cases hf
  | succ n ih =>
    intro σ v1 v2 H locs ls S hl  hf
    rw [f_X7_orphans_4_s] at hf
    refine lv_iload_n C.1 C.2.1 dX7_orphans_4 rfl (lv_at hl 2 rfl) ?_
    refine lv_aload_n C.1 C.2.1 dX7_orphans_5 rfl (lv_at hl 0 rfl) ?_
    refine z_getR C S 7 0 rfl (by decide) cf_7 6 (by decide) _ (gr_7_6 G ad 0) tw_2_134 dX7_orphans_6 ?_
    refine z_getI C S 4 0 rfl (by decide) cf_4 2 (by decide) (gi_4_2 G ad 0) tw_1_222 dX7_orphans_9 ?_
    refine lv_icmp_ge (tgt := 54) C.1 C.2.1 dX7_orphans_12 (by decide) (fun c_12 => ?_) (fun c_12 => ?_)
    · rw [if_pos c_12] at hf
      exact w_X7_orphans_54 C _ v1 _ _ _ S (lv_sub hl [1] rfl) hf
    · rw [if_neg c_12] at hf
      refine lv_aload_n C.1 C.2.1 dX7_orphans_15 rfl (lv_at hl 0 rfl) ?_
      refine z_getR C S 7 0 rfl (by decide) cf_7 6 (by decide) _ (gr_7_6 G ad 0) tw_2_134 dX7_orphans_16 ?_
      refine z_getR C S 4 0 rfl (by decide) cf_4 7 (by decide) _ (gr_4_7 G ad 0) tw_1_238 dX7_orphans_19 ?_
      refine lv_iload_n C.1 C.2.1 dX7_orphans_22 rfl (lv_at hl 2 rfl) ?_
      obtain ⟨g_23, hf⟩ := gd hf
      refine z_aald C S 26 0 rfl (by decide) 24 2 1 (24 * 0) rfl (fun _ => rfl) g_23 dX7_orphans_23 ?_
      refine z_getI C S 1 (24 * 0 + (v2).toNatClampNeg) rfl (oc1 (by decide) g_23) cf_1 3 (by decide) (gi_1_3 G ad (24 * 0 + (v2).toNatClampNeg)) tw_1_166 dX7_orphans_24 ?_
      refine lv_iconst (v := 1) C.1 C.2.1 dX7_orphans_27 (by decide) ?_
      refine lv_icmp_ne (tgt := 48) C.1 C.2.1 dX7_orphans_28 (by decide) (fun c_28 => ?_) (fun c_28 => ?_)
      · rw [if_neg c_28] at hf
        exact w_X7_orphans_48 C (f_X7_orphans_4 n) ih _ v1 v2 _ _ _ S (lv_sub hl [0, 1, 2] rfl) hf
      · rw [if_pos c_28] at hf
        refine lv_aload_n C.1 C.2.1 dX7_orphans_31 rfl (lv_at hl 0 rfl) ?_
        refine z_getR C S 7 0 rfl (by decide) cf_7 6 (by decide) _ (gr_7_6 G ad 0) tw_2_134 dX7_orphans_32 ?_
        refine lv_iload_n C.1 C.2.1 dX7_orphans_35 rfl (lv_at hl 2 rfl) ?_
        obtain ⟨r2, σ1, q_36, hf⟩ := bib hf
        refine z_callI C S 4 0 rfl (by decide) cf_4 ⟨_, rfl⟩ [.int v2] (m_X4_holders l G ad σ 0 v2 r2 σ1 (by decide) q_36 _) kv_X4_holders tw_3_151 ⟨Nat.le_of_ble_eq_true rfl, Nat.le_of_ble_eq_true rfl⟩ rfl rfl (Nat.le_of_ble_eq_true rfl) hl.1 ⟨Nat.le_refl _, Nat.le_refl _⟩ dX7_orphans_36 (fun H locs S => ?_)
        refine lv_if_ne (tgt := 48) C.1 C.2.1 dX7_orphans_39 (by decide) (fun c_39 => ?_) (fun c_39 => ?_)
        · rw [if_neg c_39] at hf
          exact w_X7_orphans_48 C (f_X7_orphans_4 n) ih _ v1 v2 _ _ _ S (lv_sub hl [0, 1, 2] rfl) hf
        · rw [if_pos c_39] at hf
          refine lv_iload_n C.1 C.2.1 dX7_orphans_42 rfl (lv_at hl 1 rfl) ?_
          refine lv_iconst (v := 1) C.1 C.2.1 dX7_orphans_43 (by decide) ?_
          refine lv_iload_n C.1 C.2.1 dX7_orphans_44 rfl (lv_at hl 2 rfl) ?_
          refine lv_ishl C.1 C.2.1 dX7_orphans_45 ?_
          refine lv_ior C.1 C.2.1 dX7_orphans_46 ?_
          refine lv_istore_n (lv' := [(1, .int (v1 ||| (1 <<< (v2 &&& 31)))), (0, .ref (ad 7 0)), (2, .int v2)]) C.1 C.2.1 dX7_orphans_47 rfl hl (by decide) rfl (fun ls hl => ?_)
          exact w_X7_orphans_48 C (f_X7_orphans_4 n) ih _ (v1 ||| (1 <<< (v2 &&& 31))) v2 _ _ _ S (lv_sub hl [1, 0, 2] rfl) hf
set_option maxHeartbeats 4000000 in
set_option maxRecDepth 100000 in
theorem w_X7_orphans_0 {p : Program} {l : Launch} {e : Env} {s : State} {m : MethodId} {args : Array Value} {below : List Frame} {meth : Method} {c : Code} {G : Gx} {ad : Ad} {res : Int32 × Sg} (C : Cx p s m args meth c yX7_orphans.cls cX7_orphans 3 (Option.some FieldType.int) G)  : ∀ (σ : Sg)  (H : Heap) (locs : List Loc) (ls : Array Slot), z_S 0 G ad σ (z_A 0 ad s.heap.size) s.heap H locs → lv_has ls 3 [(0, .ref (ad 7 0))] → f_X7_orphans  σ  = some res → W p l e { frames := 2, cells := 0, slots := 0, locals := 44 } s m args below meth c H locs 0 0 (MQ below (va_Qi (S := Unit) (fun r1 _ => r1 = res.1) (fun _ t => z_W 0 G ad res.2 t.heap) (z_A 0 ad s.heap.size)) args s 0 0 (z_A 0 ad s.heap.size)) (F0 m 0 ls []) := by
  intro σ  H locs ls S hl  hf
  unfold f_X7_orphans at hf
  refine lv_iconst (v := 0) C.1 C.2.1 dX7_orphans_0 (by decide) ?_
  refine lv_istore_n (lv' := [(1, .int 0), (0, .ref (ad 7 0))]) C.1 C.2.1 dX7_orphans_1 rfl hl (by decide) rfl (fun ls hl => ?_)
  refine lv_iconst (v := 0) C.1 C.2.1 dX7_orphans_2 (by decide) ?_
  refine lv_istore_n (lv' := [(2, .int 0), (1, .int 0), (0, .ref (ad 7 0))]) C.1 C.2.1 dX7_orphans_3 rfl hl (by decide) rfl (fun ls hl => ?_)
  exact w_X7_orphans_4 C FU _ 0 0 _ _ _ S (lv_sub hl [2, 1, 0] rfl) hf
theorem kv_X7_orphans : KV yX7_orphans cX7_orphans 3 (Option.some FieldType.int) 0 := ⟨tw_3_162, tw_3_160, tw_3_161, tw_1_1, by decide, by decide, by decide +kernel⟩
theorem m_X7_orphans (l : Launch) (G : Gx) (ad : Ad) (σ : Sg)  (r : Int32) (σ' : Sg)  (hf : f_X7_orphans σ  = some (r, σ')) (sz : Nat) : z_MI l yX7_orphans cX7_orphans 3 (Option.some FieldType.int) 2 44 0 G ad σ sz [.ref (ad 7 0)] r σ' := by
  refine z_begin (by decide +kernel) (Nat.le_of_ble_eq_true rfl) [(0, .ref (ad 7 0))] rfl (fun p e s m args below meth c ls C hz S hl => ?_)
  subst hz
  exact w_X7_orphans_0 (res := (r, σ')) C σ  _ _ _ S hl  hf

theorem dX7_busiest_0 : decode cX7_busiest 0 = .ok (.iconst 0, 1) := by decide +kernel
theorem dX7_busiest_1 : decode cX7_busiest 1 = .ok (.istore_n 1, 1) := by decide +kernel
theorem dX7_busiest_2 : decode cX7_busiest 2 = .ok (.iconst 1, 1) := by decide +kernel
theorem dX7_busiest_3 : decode cX7_busiest 3 = .ok (.istore_n 2, 1) := by decide +kernel
theorem dX7_busiest_4 : decode cX7_busiest 4 = .ok (.iload_n 2, 1) := by decide +kernel
theorem dX7_busiest_5 : decode cX7_busiest 5 = .ok (.aload_n 0, 1) := by decide +kernel
theorem dX7_busiest_6 : decode cX7_busiest 6 = .ok (.getfield 26, 3) := by decide +kernel
theorem dX7_busiest_9 : decode cX7_busiest 9 = .ok (.getfield 87, 3) := by decide +kernel
theorem dX7_busiest_12 : decode cX7_busiest 12 = .ok (.if_icmp .ge 38, 3) := by decide +kernel
theorem dX7_busiest_15 : decode cX7_busiest 15 = .ok (.aload_n 0, 1) := by decide +kernel
theorem dX7_busiest_16 : decode cX7_busiest 16 = .ok (.getfield 26, 3) := by decide +kernel
theorem dX7_busiest_19 : decode cX7_busiest 19 = .ok (.getfield 147, 3) := by decide +kernel
theorem dX7_busiest_22 : decode cX7_busiest 22 = .ok (.iload_n 2, 1) := by decide +kernel
theorem dX7_busiest_23 : decode cX7_busiest 23 = .ok (.aaload, 1) := by decide +kernel
theorem dX7_busiest_24 : decode cX7_busiest 24 = .ok (.getfield 179, 3) := by decide +kernel
theorem dX7_busiest_27 : decode cX7_busiest 27 = .ok (.aload_n 0, 1) := by decide +kernel
theorem dX7_busiest_28 : decode cX7_busiest 28 = .ok (.getfield 26, 3) := by decide +kernel
theorem dX7_busiest_31 : decode cX7_busiest 31 = .ok (.getfield 147, 3) := by decide +kernel
theorem dX7_busiest_34 : decode cX7_busiest 34 = .ok (.iload_n 1, 1) := by decide +kernel
theorem dX7_busiest_35 : decode cX7_busiest 35 = .ok (.aaload, 1) := by decide +kernel
theorem dX7_busiest_36 : decode cX7_busiest 36 = .ok (.getfield 179, 3) := by decide +kernel
theorem dX7_busiest_39 : decode cX7_busiest 39 = .ok (.if_icmp .le 5, 3) := by decide +kernel
theorem dX7_busiest_42 : decode cX7_busiest 42 = .ok (.iload_n 2, 1) := by decide +kernel
theorem dX7_busiest_43 : decode cX7_busiest 43 = .ok (.istore_n 1, 1) := by decide +kernel
theorem dX7_busiest_44 : decode cX7_busiest 44 = .ok (.iinc 2 1, 3) := by decide +kernel
theorem dX7_busiest_47 : decode cX7_busiest 47 = .ok (.goto (-43), 3) := by decide +kernel
theorem dX7_busiest_50 : decode cX7_busiest 50 = .ok (.iload_n 1, 1) := by decide +kernel
theorem dX7_busiest_51 : decode cX7_busiest 51 = .ok (.ireturn, 1) := by decide +kernel
/-! BusLifts.busiest()I -/
noncomputable def f_X7_busiest_50  (σ : Sg) (v1 : Int32) : Option (Int32 × Sg) := some (v1, σ)
noncomputable def f_X7_busiest_44 (k4 : Sg → Int32 → Int32 → Option (Int32 × Sg)) (σ : Sg) (v1 : Int32) (v2 : Int32) : Option (Int32 × Sg) := k4 σ v1 (v2 + 1)
noncomputable def f_X7_busiest_4  : Nat → Sg → Int32 → Int32 → Option (Int32 × Sg)
  | 0, _, _, _ => none
  | n + 1, σ, v1, v2 => if (σ 4 0 1) ≤ v2 then (f_X7_busiest_50 σ v1) else (if v2 < 0 ∨ 4 ≤ (v2).toNatClampNeg then none else (if v1 < 0 ∨ 4 ≤ (v1).toNatClampNeg then none else (if (σ 2 (4 * 0 + (v2).toNatClampNeg) 5) ≤ (σ 2 (4 * 0 + (v1).toNatClampNeg) 5) then (f_X7_busiest_44 (f_X7_busiest_4 n) σ v1 v2) else (f_X7_busiest_44 (f_X7_busiest_4 n) σ v2 v2))))
theorem f_X7_busiest_4_s  (n : Nat) (σ : Sg) (v1 : Int32) (v2 : Int32) : f_X7_busiest_4  (n + 1) σ v1 v2 = (if (σ 4 0 1) ≤ v2 then (f_X7_busiest_50 σ v1) else (if v2 < 0 ∨ 4 ≤ (v2).toNatClampNeg then none else (if v1 < 0 ∨ 4 ≤ (v1).toNatClampNeg then none else (if (σ 2 (4 * 0 + (v2).toNatClampNeg) 5) ≤ (σ 2 (4 * 0 + (v1).toNatClampNeg) 5) then (f_X7_busiest_44 (f_X7_busiest_4 n) σ v1 v2) else (f_X7_busiest_44 (f_X7_busiest_4 n) σ v2 v2))))) := rfl
noncomputable def f_X7_busiest  (σ : Sg)  : Option (Int32 × Sg) := f_X7_busiest_4 FU σ 0 1
set_option maxHeartbeats 4000000 in
set_option maxRecDepth 100000 in
theorem w_X7_busiest_50 {p : Program} {l : Launch} {e : Env} {s : State} {m : MethodId} {args : Array Value} {below : List Frame} {meth : Method} {c : Code} {G : Gx} {ad : Ad} {res : Int32 × Sg} (C : Cx p s m args meth c yX7_busiest.cls cX7_busiest 3 (Option.some FieldType.int) G)  : ∀ (σ : Sg) (v1 : Int32) (H : Heap) (locs : List Loc) (ls : Array Slot), z_S 0 G ad σ (z_A 0 ad s.heap.size) s.heap H locs → lv_has ls 3 [(1, .int v1)] → f_X7_busiest_50  σ v1 = some res → W p l e { frames := 0, cells := 0, slots := 0, locals := 0 } s m args below meth c H locs 0 0 (MQ below (va_Qi (S := Unit) (fun r1 _ => r1 = res.1) (fun _ t => z_W 0 G ad res.2 t.heap) (z_A 0 ad s.heap.size)) args s 0 0 (z_A 0 ad s.heap.size)) (F0 m 50 ls []) := by
  intro σ v1 H locs ls S hl  hf
  unfold f_X7_busiest_50 at hf
  refine lv_iload_n C.1 C.2.1 dX7_busiest_50 rfl (lv_at hl 0 rfl) ?_
  exact z_iret C S hf dX7_busiest_51
set_option maxHeartbeats 4000000 in
set_option maxRecDepth 100000 in
theorem w_X7_busiest_44 {p : Program} {l : Launch} {e : Env} {s : State} {m : MethodId} {args : Array Value} {below : List Frame} {meth : Method} {c : Code} {G : Gx} {ad : Ad} {res : Int32 × Sg} (C : Cx p s m args meth c yX7_busiest.cls cX7_busiest 3 (Option.some FieldType.int) G) (k4 : Sg → Int32 → Int32 → Option (Int32 × Sg)) (hk4 : ∀ (σ : Sg) (v1 : Int32) (v2 : Int32) (H : Heap) (locs : List Loc) (ls : Array Slot), z_S 0 G ad σ (z_A 0 ad s.heap.size) s.heap H locs → lv_has ls 3 [(0, .ref (ad 7 0)), (1, .int v1), (2, .int v2)] → k4 σ v1 v2 = some res → W p l e { frames := 0, cells := 0, slots := 0, locals := 0 } s m args below meth c H locs 0 0 (MQ below (va_Qi (S := Unit) (fun r1 _ => r1 = res.1) (fun _ t => z_W 0 G ad res.2 t.heap) (z_A 0 ad s.heap.size)) args s 0 0 (z_A 0 ad s.heap.size)) (F0 m 4 ls [])) : ∀ (σ : Sg) (v1 : Int32) (v2 : Int32) (H : Heap) (locs : List Loc) (ls : Array Slot), z_S 0 G ad σ (z_A 0 ad s.heap.size) s.heap H locs → lv_has ls 3 [(0, .ref (ad 7 0)), (1, .int v1), (2, .int v2)] → f_X7_busiest_44 k4 σ v1 v2 = some res → W p l e { frames := 0, cells := 0, slots := 0, locals := 0 } s m args below meth c H locs 0 0 (MQ below (va_Qi (S := Unit) (fun r1 _ => r1 = res.1) (fun _ t => z_W 0 G ad res.2 t.heap) (z_A 0 ad s.heap.size)) args s 0 0 (z_A 0 ad s.heap.size)) (F0 m 44 ls []) := by
  intro σ v1 v2 H locs ls S hl  hf
  unfold f_X7_busiest_44 at hf
  refine lv_iinc (v := (v2 + 1)) (lv' := [(2, .int (v2 + 1)), (0, .ref (ad 7 0)), (1, .int v1)]) C.1 C.2.1 dX7_busiest_44 hl (k := 2) rfl rfl (by decide) rfl (fun ls hl => ?_)
  refine lv_goto (tgt := 4) C.1 C.2.1 dX7_busiest_47 (by decide) ?_
  exact hk4 _ v1 (v2 + 1) _ _ _ S (lv_sub hl [1, 2, 0] rfl)  hf
set_option maxHeartbeats 4000000 in
set_option maxRecDepth 100000 in
theorem w_X7_busiest_4 {p : Program} {l : Launch} {e : Env} {s : State} {m : MethodId} {args : Array Value} {below : List Frame} {meth : Method} {c : Code} {G : Gx} {ad : Ad} {res : Int32 × Sg} (C : Cx p s m args meth c yX7_busiest.cls cX7_busiest 3 (Option.some FieldType.int) G)  : ∀ n : Nat, ∀ (σ : Sg) (v1 : Int32) (v2 : Int32) (H : Heap) (locs : List Loc) (ls : Array Slot), z_S 0 G ad σ (z_A 0 ad s.heap.size) s.heap H locs → lv_has ls 3 [(0, .ref (ad 7 0)), (1, .int v1), (2, .int v2)] → f_X7_busiest_4  n σ v1 v2 = some res → W p l e { frames := 0, cells := 0, slots := 0, locals := 0 } s m args below meth c H locs 0 0 (MQ below (va_Qi (S := Unit) (fun r1 _ => r1 = res.1) (fun _ t => z_W 0 G ad res.2 t.heap) (z_A 0 ad s.heap.size)) args s 0 0 (z_A 0 ad s.heap.size)) (F0 m 4 ls []) := by
  intro n
  induction n with
  | zero => intro σ v1 v2 H locs ls S hl  hf; cases hf
  | succ n ih =>
    intro σ v1 v2 H locs ls S hl  hf
    rw [f_X7_busiest_4_s] at hf
    refine lv_iload_n C.1 C.2.1 dX7_busiest_4 rfl (lv_at hl 2 rfl) ?_
    refine lv_aload_n C.1 C.2.1 dX7_busiest_5 rfl (lv_at hl 0 rfl) ?_
    refine z_getR C S 7 0 rfl (by decide) cf_7 6 (by decide) _ (gr_7_6 G ad 0) tw_2_134 dX7_busiest_6 ?_
    refine z_getI C S 4 0 rfl (by decide) cf_4 1 (by decide) (gi_4_1 G ad 0) tw_1_218 dX7_busiest_9 ?_
    refine lv_icmp_ge (tgt := 50) C.1 C.2.1 dX7_busiest_12 (by decide) (fun c_12 => ?_) (fun c_12 => ?_)
    · rw [if_pos c_12] at hf
      exact w_X7_busiest_50 C _ v1 _ _ _ S (lv_sub hl [1] rfl) hf
    · rw [if_neg c_12] at hf
      refine lv_aload_n C.1 C.2.1 dX7_busiest_15 rfl (lv_at hl 0 rfl) ?_
      refine z_getR C S 7 0 rfl (by decide) cf_7 6 (by decide) _ (gr_7_6 G ad 0) tw_2_134 dX7_busiest_16 ?_
      refine z_getR C S 4 0 rfl (by decide) cf_4 6 (by decide) _ (gr_4_6 G ad 0) tw_1_235 dX7_busiest_19 ?_
      refine lv_iload_n C.1 C.2.1 dX7_busiest_22 rfl (lv_at hl 2 rfl) ?_
      obtain ⟨g_23, hf⟩ := gd hf
      refine z_aald C S 25 0 rfl (by decide) 4 1 2 (4 * 0) rfl (fun _ => rfl) g_23 dX7_busiest_23 ?_
      refine z_getI C S 2 (4 * 0 + (v2).toNatClampNeg) rfl (oc2 (by decide) g_23) cf_2 5 (by decide) (gi_2_5 G ad (4 * 0 + (v2).toNatClampNeg)) tw_1_93 dX7_busiest_24 ?_
      refine lv_aload_n C.1 C.2.1 dX7_busiest_27 rfl (lv_at hl 0 rfl) ?_
      refine z_getR C S 7 0 rfl (by decide) cf_7 6 (by decide) _ (gr_7_6 G ad 0) tw_2_134 dX7_busiest_28 ?_
      refine z_getR C S 4 0 rfl (by decide) cf_4 6 (by decide) _ (gr_4_6 G ad 0) tw_1_235 dX7_busiest_31 ?_
      refine lv_iload_n C.1 C.2.1 dX7_busiest_34 rfl (lv_at hl 1 rfl) ?_
      obtain ⟨g_35, hf⟩ := gd hf
      refine z_aald C S 25 0 rfl (by decide) 4 1 2 (4 * 0) rfl (fun _ => rfl) g_35 dX7_busiest_35 ?_
      refine z_getI C S 2 (4 * 0 + (v1).toNatClampNeg) rfl (oc2 (by decide) g_35) cf_2 5 (by decide) (gi_2_5 G ad (4 * 0 + (v1).toNatClampNeg)) tw_1_93 dX7_busiest_36 ?_
      refine lv_icmp_le (tgt := 44) C.1 C.2.1 dX7_busiest_39 (by decide) (fun c_39 => ?_) (fun c_39 => ?_)
      · rw [if_pos c_39] at hf
        exact w_X7_busiest_44 C (f_X7_busiest_4 n) ih _ v1 v2 _ _ _ S (lv_sub hl [0, 1, 2] rfl) hf
      · rw [if_neg c_39] at hf
        refine lv_iload_n C.1 C.2.1 dX7_busiest_42 rfl (lv_at hl 2 rfl) ?_
        refine lv_istore_n (lv' := [(1, .int v2), (0, .ref (ad 7 0)), (2, .int v2)]) C.1 C.2.1 dX7_busiest_43 rfl hl (by decide) rfl (fun ls hl => ?_)
        exact w_X7_busiest_44 C (f_X7_busiest_4 n) ih _ v2 v2 _ _ _ S (lv_sub hl [1, 0, 2] rfl) hf
set_option maxHeartbeats 4000000 in
set_option maxRecDepth 100000 in
theorem w_X7_busiest_0 {p : Program} {l : Launch} {e : Env} {s : State} {m : MethodId} {args : Array Value} {below : List Frame} {meth : Method} {c : Code} {G : Gx} {ad : Ad} {res : Int32 × Sg} (C : Cx p s m args meth c yX7_busiest.cls cX7_busiest 3 (Option.some FieldType.int) G)  : ∀ (σ : Sg)  (H : Heap) (locs : List Loc) (ls : Array Slot), z_S 0 G ad σ (z_A 0 ad s.heap.size) s.heap H locs → lv_has ls 3 [(0, .ref (ad 7 0))] → f_X7_busiest  σ  = some res → W p l e { frames := 0, cells := 0, slots := 0, locals := 0 } s m args below meth c H locs 0 0 (MQ below (va_Qi (S := Unit) (fun r1 _ => r1 = res.1) (fun _ t => z_W 0 G ad res.2 t.heap) (z_A 0 ad s.heap.size)) args s 0 0 (z_A 0 ad s.heap.size)) (F0 m 0 ls []) := by
  intro σ  H locs ls S hl  hf
  unfold f_X7_busiest at hf
  refine lv_iconst (v := 0) C.1 C.2.1 dX7_busiest_0 (by decide) ?_
  refine lv_istore_n (lv' := [(1, .int 0), (0, .ref (ad 7 0))]) C.1 C.2.1 dX7_busiest_1 rfl hl (by decide) rfl (fun ls hl => ?_)
  refine lv_iconst (v := 1) C.1 C.2.1 dX7_busiest_2 (by decide) ?_
  refine lv_istore_n (lv' := [(2, .int 1), (1, .int 0), (0, .ref (ad 7 0))]) C.1 C.2.1 dX7_busiest_3 rfl hl (by decide) rfl (fun ls hl => ?_)
  exact w_X7_busiest_4 C FU _ 0 1 _ _ _ S (lv_sub hl [2, 1, 0] rfl) hf
theorem kv_X7_busiest : KV yX7_busiest cX7_busiest 3 (Option.some FieldType.int) 0 := ⟨tw_3_166, tw_3_164, tw_3_165, tw_1_1, by decide, by decide, by decide +kernel⟩
theorem m_X7_busiest (l : Launch) (G : Gx) (ad : Ad) (σ : Sg)  (r : Int32) (σ' : Sg)  (hf : f_X7_busiest σ  = some (r, σ')) (sz : Nat) : z_MI l yX7_busiest cX7_busiest 3 (Option.some FieldType.int) 0 0 0 G ad σ sz [.ref (ad 7 0)] r σ' := by
  refine z_begin (by decide +kernel) (Nat.le_of_ble_eq_true rfl) [(0, .ref (ad 7 0))] rfl (fun p e s m args below meth c ls C hz S hl => ?_)
  subst hz
  exact w_X7_busiest_0 (res := (r, σ')) C σ  _ _ _ S hl  hf

theorem dX7_fullestFloor_0 : decode cX7_fullestFloor 0 = .ok (.iconst (-1), 1) := by decide +kernel
theorem dX7_fullestFloor_1 : decode cX7_fullestFloor 1 = .ok (.istore_n 1, 1) := by decide +kernel
theorem dX7_fullestFloor_2 : decode cX7_fullestFloor 2 = .ok (.iconst 0, 1) := by decide +kernel
theorem dX7_fullestFloor_3 : decode cX7_fullestFloor 3 = .ok (.istore_n 2, 1) := by decide +kernel
theorem dX7_fullestFloor_4 : decode cX7_fullestFloor 4 = .ok (.iconst 0, 1) := by decide +kernel
theorem dX7_fullestFloor_5 : decode cX7_fullestFloor 5 = .ok (.istore_n 3, 1) := by decide +kernel
theorem dX7_fullestFloor_6 : decode cX7_fullestFloor 6 = .ok (.iload_n 3, 1) := by decide +kernel
theorem dX7_fullestFloor_7 : decode cX7_fullestFloor 7 = .ok (.aload_n 0, 1) := by decide +kernel
theorem dX7_fullestFloor_8 : decode cX7_fullestFloor 8 = .ok (.getfield 26, 3) := by decide +kernel
theorem dX7_fullestFloor_11 : decode cX7_fullestFloor 11 = .ok (.getfield 102, 3) := by decide +kernel
theorem dX7_fullestFloor_14 : decode cX7_fullestFloor 14 = .ok (.if_icmp .ge 30, 3) := by decide +kernel
theorem dX7_fullestFloor_17 : decode cX7_fullestFloor 17 = .ok (.aload_n 0, 1) := by decide +kernel
theorem dX7_fullestFloor_18 : decode cX7_fullestFloor 18 = .ok (.getfield 26, 3) := by decide +kernel
theorem dX7_fullestFloor_21 : decode cX7_fullestFloor 21 = .ok (.iload_n 3, 1) := by decide +kernel
theorem dX7_fullestFloor_22 : decode cX7_fullestFloor 22 = .ok (.invokevirtual 288, 3) := by decide +kernel
theorem dX7_fullestFloor_25 : decode cX7_fullestFloor 25 = .ok (.istore 4, 2) := by decide +kernel
theorem dX7_fullestFloor_27 : decode cX7_fullestFloor 27 = .ok (.iload 4, 2) := by decide +kernel
theorem dX7_fullestFloor_29 : decode cX7_fullestFloor 29 = .ok (.iload_n 2, 1) := by decide +kernel
theorem dX7_fullestFloor_30 : decode cX7_fullestFloor 30 = .ok (.if_icmp .le 8, 3) := by decide +kernel
theorem dX7_fullestFloor_33 : decode cX7_fullestFloor 33 = .ok (.iload_n 3, 1) := by decide +kernel
theorem dX7_fullestFloor_34 : decode cX7_fullestFloor 34 = .ok (.istore_n 1, 1) := by decide +kernel
theorem dX7_fullestFloor_35 : decode cX7_fullestFloor 35 = .ok (.iload 4, 2) := by decide +kernel
theorem dX7_fullestFloor_37 : decode cX7_fullestFloor 37 = .ok (.istore_n 2, 1) := by decide +kernel
theorem dX7_fullestFloor_38 : decode cX7_fullestFloor 38 = .ok (.iinc 3 1, 3) := by decide +kernel
theorem dX7_fullestFloor_41 : decode cX7_fullestFloor 41 = .ok (.goto (-35), 3) := by decide +kernel
theorem dX7_fullestFloor_44 : decode cX7_fullestFloor 44 = .ok (.iload_n 1, 1) := by decide +kernel
theorem dX7_fullestFloor_45 : decode cX7_fullestFloor 45 = .ok (.ireturn, 1) := by decide +kernel
/-! BusLifts.fullestFloor()I -/
noncomputable def f_X7_fullestFloor_44  (σ : Sg) (v1 : Int32) : Option (Int32 × Sg) := some (v1, σ)
noncomputable def f_X7_fullestFloor_38 (k6 : Sg → Int32 → Int32 → Int32 → Option (Int32 × Sg)) (σ : Sg) (v1 : Int32) (v2 : Int32) (v3 : Int32) : Option (Int32 × Sg) := k6 σ v1 v2 (v3 + 1)
noncomputable def f_X7_fullestFloor_6  : Nat → Sg → Int32 → Int32 → Int32 → Option (Int32 × Sg)
  | 0, _, _, _, _ => none
  | n + 1, σ, v1, v2, v3 => if (σ 4 0 0) ≤ v3 then (f_X7_fullestFloor_44 σ v1) else (bi (f_X4_madeFrom σ 0 v3) fun r2 σ1 => (if r2 ≤ v2 then (f_X7_fullestFloor_38 (f_X7_fullestFloor_6 n) σ1 v1 v2 v3) else (f_X7_fullestFloor_38 (f_X7_fullestFloor_6 n) σ1 v3 r2 v3)))
theorem f_X7_fullestFloor_6_s  (n : Nat) (σ : Sg) (v1 : Int32) (v2 : Int32) (v3 : Int32) : f_X7_fullestFloor_6  (n + 1) σ v1 v2 v3 = (if (σ 4 0 0) ≤ v3 then (f_X7_fullestFloor_44 σ v1) else (bi (f_X4_madeFrom σ 0 v3) fun r2 σ1 => (if r2 ≤ v2 then (f_X7_fullestFloor_38 (f_X7_fullestFloor_6 n) σ1 v1 v2 v3) else (f_X7_fullestFloor_38 (f_X7_fullestFloor_6 n) σ1 v3 r2 v3)))) := rfl
noncomputable def f_X7_fullestFloor  (σ : Sg)  : Option (Int32 × Sg) := f_X7_fullestFloor_6 FU σ (-1) 0 0
set_option maxHeartbeats 4000000 in
set_option maxRecDepth 100000 in
theorem w_X7_fullestFloor_44 {p : Program} {l : Launch} {e : Env} {s : State} {m : MethodId} {args : Array Value} {below : List Frame} {meth : Method} {c : Code} {G : Gx} {ad : Ad} {res : Int32 × Sg} (C : Cx p s m args meth c yX7_fullestFloor.cls cX7_fullestFloor 5 (Option.some FieldType.int) G)  : ∀ (σ : Sg) (v1 : Int32) (H : Heap) (locs : List Loc) (ls : Array Slot), z_S 0 G ad σ (z_A 0 ad s.heap.size) s.heap H locs → lv_has ls 5 [(1, .int v1)] → f_X7_fullestFloor_44  σ v1 = some res → W p l e { frames := 1, cells := 0, slots := 0, locals := 23 } s m args below meth c H locs 0 0 (MQ below (va_Qi (S := Unit) (fun r1 _ => r1 = res.1) (fun _ t => z_W 0 G ad res.2 t.heap) (z_A 0 ad s.heap.size)) args s 0 0 (z_A 0 ad s.heap.size)) (F0 m 44 ls []) := by
  intro σ v1 H locs ls S hl  hf
  unfold f_X7_fullestFloor_44 at hf
  refine lv_iload_n C.1 C.2.1 dX7_fullestFloor_44 rfl (lv_at hl 0 rfl) ?_
  exact z_iret C S hf dX7_fullestFloor_45
set_option maxHeartbeats 4000000 in
set_option maxRecDepth 100000 in
theorem w_X7_fullestFloor_38 {p : Program} {l : Launch} {e : Env} {s : State} {m : MethodId} {args : Array Value} {below : List Frame} {meth : Method} {c : Code} {G : Gx} {ad : Ad} {res : Int32 × Sg} (C : Cx p s m args meth c yX7_fullestFloor.cls cX7_fullestFloor 5 (Option.some FieldType.int) G) (k6 : Sg → Int32 → Int32 → Int32 → Option (Int32 × Sg)) (hk6 : ∀ (σ : Sg) (v1 : Int32) (v2 : Int32) (v3 : Int32) (H : Heap) (locs : List Loc) (ls : Array Slot), z_S 0 G ad σ (z_A 0 ad s.heap.size) s.heap H locs → lv_has ls 5 [(0, .ref (ad 7 0)), (1, .int v1), (2, .int v2), (3, .int v3)] → k6 σ v1 v2 v3 = some res → W p l e { frames := 1, cells := 0, slots := 0, locals := 23 } s m args below meth c H locs 0 0 (MQ below (va_Qi (S := Unit) (fun r1 _ => r1 = res.1) (fun _ t => z_W 0 G ad res.2 t.heap) (z_A 0 ad s.heap.size)) args s 0 0 (z_A 0 ad s.heap.size)) (F0 m 6 ls [])) : ∀ (σ : Sg) (v1 : Int32) (v2 : Int32) (v3 : Int32) (H : Heap) (locs : List Loc) (ls : Array Slot), z_S 0 G ad σ (z_A 0 ad s.heap.size) s.heap H locs → lv_has ls 5 [(0, .ref (ad 7 0)), (1, .int v1), (2, .int v2), (3, .int v3)] → f_X7_fullestFloor_38 k6 σ v1 v2 v3 = some res → W p l e { frames := 1, cells := 0, slots := 0, locals := 23 } s m args below meth c H locs 0 0 (MQ below (va_Qi (S := Unit) (fun r1 _ => r1 = res.1) (fun _ t => z_W 0 G ad res.2 t.heap) (z_A 0 ad s.heap.size)) args s 0 0 (z_A 0 ad s.heap.size)) (F0 m 38 ls []) := by
  intro σ v1 v2 v3 H locs ls S hl  hf
  unfold f_X7_fullestFloor_38 at hf
  refine lv_iinc (v := (v3 + 1)) (lv' := [(3, .int (v3 + 1)), (0, .ref (ad 7 0)), (1, .int v1), (2, .int v2)]) C.1 C.2.1 dX7_fullestFloor_38 hl (k := 3) rfl rfl (by decide) rfl (fun ls hl => ?_)
  refine lv_goto (tgt := 6) C.1 C.2.1 dX7_fullestFloor_41 (by decide) ?_
  exact hk6 _ v1 v2 (v3 + 1) _ _ _ S (lv_sub hl [1, 2, 3, 0] rfl)  hf
set_option maxHeartbeats 4000000 in
set_option maxRecDepth 100000 in
theorem w_X7_fullestFloor_6 {p : Program} {l : Launch} {e : Env} {s : State} {m : MethodId} {args : Array Value} {below : List Frame} {meth : Method} {c : Code} {G : Gx} {ad : Ad} {res : Int32 × Sg} (C : Cx p s m args meth c yX7_fullestFloor.cls cX7_fullestFloor 5 (Option.some FieldType.int) G)  : ∀ n : Nat, ∀ (σ : Sg) (v1 : Int32) (v2 : Int32) (v3 : Int32) (H : Heap) (locs : List Loc) (ls : Array Slot), z_S 0 G ad σ (z_A 0 ad s.heap.size) s.heap H locs → lv_has ls 5 [(0, .ref (ad 7 0)), (1, .int v1), (2, .int v2), (3, .int v3)] → f_X7_fullestFloor_6  n σ v1 v2 v3 = some res → W p l e { frames := 1, cells := 0, slots := 0, locals := 23 } s m args below meth c H locs 0 0 (MQ below (va_Qi (S := Unit) (fun r1 _ => r1 = res.1) (fun _ t => z_W 0 G ad res.2 t.heap) (z_A 0 ad s.heap.size)) args s 0 0 (z_A 0 ad s.heap.size)) (F0 m 6 ls []) := by
  intro n
  induction n with
  | zero => intro σ v1 v2 v3 H locs ls S hl  hf; cases hf
  | succ n ih =>
    intro σ v1 v2 v3 H locs ls S hl  hf
    rw [f_X7_fullestFloor_6_s] at hf
    refine lv_iload_n C.1 C.2.1 dX7_fullestFloor_6 rfl (lv_at hl 3 rfl) ?_
    refine lv_aload_n C.1 C.2.1 dX7_fullestFloor_7 rfl (lv_at hl 0 rfl) ?_
    refine z_getR C S 7 0 rfl (by decide) cf_7 6 (by decide) _ (gr_7_6 G ad 0) tw_2_134 dX7_fullestFloor_8 ?_
    refine z_getI C S 4 0 rfl (by decide) cf_4 0 (by decide) (gi_4_0 G ad 0) tw_1_214 dX7_fullestFloor_11 ?_
    refine lv_icmp_ge (tgt := 44) C.1 C.2.1 dX7_fullestFloor_14 (by decide) (fun c_14 => ?_) (fun c_14 => ?_)
    · rw [if_pos c_14] at hf
      exact w_X7_fullestFloor_44 C _ v1 _ _ _ S (lv_sub hl [1] rfl) hf
    · rw [if_neg c_14] at hf
      refine lv_aload_n C.1 C.2.1 dX7_fullestFloor_17 rfl (lv_at hl 0 rfl) ?_
      refine z_getR C S 7 0 rfl (by decide) cf_7 6 (by decide) _ (gr_7_6 G ad 0) tw_2_134 dX7_fullestFloor_18 ?_
      refine lv_iload_n C.1 C.2.1 dX7_fullestFloor_21 rfl (lv_at hl 3 rfl) ?_
      obtain ⟨r2, σ1, q_22, hf⟩ := bib hf
      refine z_callI C S 4 0 rfl (by decide) cf_4 ⟨_, rfl⟩ [.int v3] (m_X4_madeFrom l G ad σ 0 v3 r2 σ1 (by decide) q_22 _) kv_X4_madeFrom tw_3_171 ⟨Nat.le_of_ble_eq_true rfl, Nat.le_of_ble_eq_true rfl⟩ rfl rfl (Nat.le_of_ble_eq_true rfl) hl.1 ⟨Nat.le_refl _, Nat.le_refl _⟩ dX7_fullestFloor_22 (fun H locs S => ?_)
      refine lv_istore (lv' := [(4, .int r2), (0, .ref (ad 7 0)), (1, .int v1), (2, .int v2), (3, .int v3)]) C.1 C.2.1 dX7_fullestFloor_25 hl (by decide) rfl (fun ls hl => ?_)
      refine lv_iload C.1 C.2.1 dX7_fullestFloor_27 (lv_at hl 0 rfl) ?_
      refine lv_iload_n C.1 C.2.1 dX7_fullestFloor_29 rfl (lv_at hl 3 rfl) ?_
      refine lv_icmp_le (tgt := 38) C.1 C.2.1 dX7_fullestFloor_30 (by decide) (fun c_30 => ?_) (fun c_30 => ?_)
      · rw [if_pos c_30] at hf
        exact w_X7_fullestFloor_38 C (f_X7_fullestFloor_6 n) ih _ v1 v2 v3 _ _ _ S (lv_sub hl [1, 2, 3, 4] rfl) hf
      · rw [if_neg c_30] at hf
        refine lv_iload_n C.1 C.2.1 dX7_fullestFloor_33 rfl (lv_at hl 4 rfl) ?_
        refine lv_istore_n (lv' := [(1, .int v3), (4, .int r2), (0, .ref (ad 7 0)), (2, .int v2), (3, .int v3)]) C.1 C.2.1 dX7_fullestFloor_34 rfl hl (by decide) rfl (fun ls hl => ?_)
        refine lv_iload C.1 C.2.1 dX7_fullestFloor_35 (lv_at hl 1 rfl) ?_
        refine lv_istore_n (lv' := [(2, .int r2), (1, .int v3), (4, .int r2), (0, .ref (ad 7 0)), (3, .int v3)]) C.1 C.2.1 dX7_fullestFloor_37 rfl hl (by decide) rfl (fun ls hl => ?_)
        exact w_X7_fullestFloor_38 C (f_X7_fullestFloor_6 n) ih _ v3 r2 v3 _ _ _ S (lv_sub hl [3, 1, 0, 4] rfl) hf
set_option maxHeartbeats 4000000 in
set_option maxRecDepth 100000 in
theorem w_X7_fullestFloor_0 {p : Program} {l : Launch} {e : Env} {s : State} {m : MethodId} {args : Array Value} {below : List Frame} {meth : Method} {c : Code} {G : Gx} {ad : Ad} {res : Int32 × Sg} (C : Cx p s m args meth c yX7_fullestFloor.cls cX7_fullestFloor 5 (Option.some FieldType.int) G)  : ∀ (σ : Sg)  (H : Heap) (locs : List Loc) (ls : Array Slot), z_S 0 G ad σ (z_A 0 ad s.heap.size) s.heap H locs → lv_has ls 5 [(0, .ref (ad 7 0))] → f_X7_fullestFloor  σ  = some res → W p l e { frames := 1, cells := 0, slots := 0, locals := 23 } s m args below meth c H locs 0 0 (MQ below (va_Qi (S := Unit) (fun r1 _ => r1 = res.1) (fun _ t => z_W 0 G ad res.2 t.heap) (z_A 0 ad s.heap.size)) args s 0 0 (z_A 0 ad s.heap.size)) (F0 m 0 ls []) := by
  intro σ  H locs ls S hl  hf
  unfold f_X7_fullestFloor at hf
  refine lv_iconst (v := (-1)) C.1 C.2.1 dX7_fullestFloor_0 (by decide) ?_
  refine lv_istore_n (lv' := [(1, .int (-1)), (0, .ref (ad 7 0))]) C.1 C.2.1 dX7_fullestFloor_1 rfl hl (by decide) rfl (fun ls hl => ?_)
  refine lv_iconst (v := 0) C.1 C.2.1 dX7_fullestFloor_2 (by decide) ?_
  refine lv_istore_n (lv' := [(2, .int 0), (1, .int (-1)), (0, .ref (ad 7 0))]) C.1 C.2.1 dX7_fullestFloor_3 rfl hl (by decide) rfl (fun ls hl => ?_)
  refine lv_iconst (v := 0) C.1 C.2.1 dX7_fullestFloor_4 (by decide) ?_
  refine lv_istore_n (lv' := [(3, .int 0), (2, .int 0), (1, .int (-1)), (0, .ref (ad 7 0))]) C.1 C.2.1 dX7_fullestFloor_5 rfl hl (by decide) rfl (fun ls hl => ?_)
  exact w_X7_fullestFloor_6 C FU _ (-1) 0 0 _ _ _ S (lv_sub hl [3, 2, 1, 0] rfl) hf
theorem kv_X7_fullestFloor : KV yX7_fullestFloor cX7_fullestFloor 5 (Option.some FieldType.int) 0 := ⟨tw_3_170, tw_3_168, tw_3_169, tw_1_1, by decide, by decide, by decide +kernel⟩
theorem m_X7_fullestFloor (l : Launch) (G : Gx) (ad : Ad) (σ : Sg)  (r : Int32) (σ' : Sg)  (hf : f_X7_fullestFloor σ  = some (r, σ')) (sz : Nat) : z_MI l yX7_fullestFloor cX7_fullestFloor 5 (Option.some FieldType.int) 1 23 0 G ad σ sz [.ref (ad 7 0)] r σ' := by
  refine z_begin (by decide +kernel) (Nat.le_of_ble_eq_true rfl) [(0, .ref (ad 7 0))] rfl (fun p e s m args below meth c ls C hz S hl => ?_)
  subst hz
  exact w_X7_fullestFloor_0 (res := (r, σ')) C σ  _ _ _ S hl  hf

theorem dX7_allRounds_0 : decode cX7_allRounds 0 = .ok (.iconst 0, 1) := by decide +kernel
theorem dX7_allRounds_1 : decode cX7_allRounds 1 = .ok (.istore_n 1, 1) := by decide +kernel
theorem dX7_allRounds_2 : decode cX7_allRounds 2 = .ok (.iconst 0, 1) := by decide +kernel
theorem dX7_allRounds_3 : decode cX7_allRounds 3 = .ok (.istore_n 2, 1) := by decide +kernel
theorem dX7_allRounds_4 : decode cX7_allRounds 4 = .ok (.iload_n 2, 1) := by decide +kernel
theorem dX7_allRounds_5 : decode cX7_allRounds 5 = .ok (.aload_n 0, 1) := by decide +kernel
theorem dX7_allRounds_6 : decode cX7_allRounds 6 = .ok (.getfield 26, 3) := by decide +kernel
theorem dX7_allRounds_9 : decode cX7_allRounds 9 = .ok (.getfield 97, 3) := by decide +kernel
theorem dX7_allRounds_12 : decode cX7_allRounds 12 = .ok (.if_icmp .ge 24, 3) := by decide +kernel
theorem dX7_allRounds_15 : decode cX7_allRounds 15 = .ok (.iload_n 1, 1) := by decide +kernel
theorem dX7_allRounds_16 : decode cX7_allRounds 16 = .ok (.aload_n 0, 1) := by decide +kernel
theorem dX7_allRounds_17 : decode cX7_allRounds 17 = .ok (.getfield 26, 3) := by decide +kernel
theorem dX7_allRounds_20 : decode cX7_allRounds 20 = .ok (.getfield 191, 3) := by decide +kernel
theorem dX7_allRounds_23 : decode cX7_allRounds 23 = .ok (.iload_n 2, 1) := by decide +kernel
theorem dX7_allRounds_24 : decode cX7_allRounds 24 = .ok (.aaload, 1) := by decide +kernel
theorem dX7_allRounds_25 : decode cX7_allRounds 25 = .ok (.getfield 218, 3) := by decide +kernel
theorem dX7_allRounds_28 : decode cX7_allRounds 28 = .ok (.iadd, 1) := by decide +kernel
theorem dX7_allRounds_29 : decode cX7_allRounds 29 = .ok (.istore_n 1, 1) := by decide +kernel
theorem dX7_allRounds_30 : decode cX7_allRounds 30 = .ok (.iinc 2 1, 3) := by decide +kernel
theorem dX7_allRounds_33 : decode cX7_allRounds 33 = .ok (.goto (-29), 3) := by decide +kernel
theorem dX7_allRounds_36 : decode cX7_allRounds 36 = .ok (.iload_n 1, 1) := by decide +kernel
theorem dX7_allRounds_37 : decode cX7_allRounds 37 = .ok (.ireturn, 1) := by decide +kernel
/-! BusLifts.allRounds()I -/
noncomputable def f_X7_allRounds_36  (σ : Sg) (v1 : Int32) : Option (Int32 × Sg) := some (v1, σ)
noncomputable def f_X7_allRounds_4  : Nat → Sg → Int32 → Int32 → Option (Int32 × Sg)
  | 0, _, _, _ => none
  | n + 1, σ, v1, v2 => if (σ 4 0 2) ≤ v2 then (f_X7_allRounds_36 σ v1) else (if v2 < 0 ∨ 24 ≤ (v2).toNatClampNeg then none else (f_X7_allRounds_4  n σ (v1 + (σ 1 (24 * 0 + (v2).toNatClampNeg) 7)) (v2 + 1)))
theorem f_X7_allRounds_4_s  (n : Nat) (σ : Sg) (v1 : Int32) (v2 : Int32) : f_X7_allRounds_4  (n + 1) σ v1 v2 = (if (σ 4 0 2) ≤ v2 then (f_X7_allRounds_36 σ v1) else (if v2 < 0 ∨ 24 ≤ (v2).toNatClampNeg then none else (f_X7_allRounds_4  n σ (v1 + (σ 1 (24 * 0 + (v2).toNatClampNeg) 7)) (v2 + 1)))) := rfl
noncomputable def f_X7_allRounds  (σ : Sg)  : Option (Int32 × Sg) := f_X7_allRounds_4 FU σ 0 0
set_option maxHeartbeats 4000000 in
set_option maxRecDepth 100000 in
theorem w_X7_allRounds_36 {p : Program} {l : Launch} {e : Env} {s : State} {m : MethodId} {args : Array Value} {below : List Frame} {meth : Method} {c : Code} {G : Gx} {ad : Ad} {res : Int32 × Sg} (C : Cx p s m args meth c yX7_allRounds.cls cX7_allRounds 3 (Option.some FieldType.int) G)  : ∀ (σ : Sg) (v1 : Int32) (H : Heap) (locs : List Loc) (ls : Array Slot), z_S 0 G ad σ (z_A 0 ad s.heap.size) s.heap H locs → lv_has ls 3 [(1, .int v1)] → f_X7_allRounds_36  σ v1 = some res → W p l e { frames := 0, cells := 0, slots := 0, locals := 0 } s m args below meth c H locs 0 0 (MQ below (va_Qi (S := Unit) (fun r1 _ => r1 = res.1) (fun _ t => z_W 0 G ad res.2 t.heap) (z_A 0 ad s.heap.size)) args s 0 0 (z_A 0 ad s.heap.size)) (F0 m 36 ls []) := by
  intro σ v1 H locs ls S hl  hf
  unfold f_X7_allRounds_36 at hf
  refine lv_iload_n C.1 C.2.1 dX7_allRounds_36 rfl (lv_at hl 0 rfl) ?_
  exact z_iret C S hf dX7_allRounds_37
set_option maxHeartbeats 4000000 in
set_option maxRecDepth 100000 in
theorem w_X7_allRounds_4 {p : Program} {l : Launch} {e : Env} {s : State} {m : MethodId} {args : Array Value} {below : List Frame} {meth : Method} {c : Code} {G : Gx} {ad : Ad} {res : Int32 × Sg} (C : Cx p s m args meth c yX7_allRounds.cls cX7_allRounds 3 (Option.some FieldType.int) G)  : ∀ n : Nat, ∀ (σ : Sg) (v1 : Int32) (v2 : Int32) (H : Heap) (locs : List Loc) (ls : Array Slot), z_S 0 G ad σ (z_A 0 ad s.heap.size) s.heap H locs → lv_has ls 3 [(0, .ref (ad 7 0)), (1, .int v1), (2, .int v2)] → f_X7_allRounds_4  n σ v1 v2 = some res → W p l e { frames := 0, cells := 0, slots := 0, locals := 0 } s m args below meth c H locs 0 0 (MQ below (va_Qi (S := Unit) (fun r1 _ => r1 = res.1) (fun _ t => z_W 0 G ad res.2 t.heap) (z_A 0 ad s.heap.size)) args s 0 0 (z_A 0 ad s.heap.size)) (F0 m 4 ls []) := by
  intro n
  induction n with
  | zero => intro σ v1 v2 H locs ls S hl  hf; cases hf
  | succ n ih =>
    intro σ v1 v2 H locs ls S hl  hf
    rw [f_X7_allRounds_4_s] at hf
    refine lv_iload_n C.1 C.2.1 dX7_allRounds_4 rfl (lv_at hl 2 rfl) ?_
    refine lv_aload_n C.1 C.2.1 dX7_allRounds_5 rfl (lv_at hl 0 rfl) ?_
    refine z_getR C S 7 0 rfl (by decide) cf_7 6 (by decide) _ (gr_7_6 G ad 0) tw_2_134 dX7_allRounds_6 ?_
    refine z_getI C S 4 0 rfl (by decide) cf_4 2 (by decide) (gi_4_2 G ad 0) tw_1_222 dX7_allRounds_9 ?_
    refine lv_icmp_ge (tgt := 36) C.1 C.2.1 dX7_allRounds_12 (by decide) (fun c_12 => ?_) (fun c_12 => ?_)
    · rw [if_pos c_12] at hf
      exact w_X7_allRounds_36 C _ v1 _ _ _ S (lv_sub hl [1] rfl) hf
    · rw [if_neg c_12] at hf
      refine lv_iload_n C.1 C.2.1 dX7_allRounds_15 rfl (lv_at hl 1 rfl) ?_
      refine lv_aload_n C.1 C.2.1 dX7_allRounds_16 rfl (lv_at hl 0 rfl) ?_
      refine z_getR C S 7 0 rfl (by decide) cf_7 6 (by decide) _ (gr_7_6 G ad 0) tw_2_134 dX7_allRounds_17 ?_
      refine z_getR C S 4 0 rfl (by decide) cf_4 7 (by decide) _ (gr_4_7 G ad 0) tw_1_238 dX7_allRounds_20 ?_
      refine lv_iload_n C.1 C.2.1 dX7_allRounds_23 rfl (lv_at hl 2 rfl) ?_
      obtain ⟨g_24, hf⟩ := gd hf
      refine z_aald C S 26 0 rfl (by decide) 24 2 1 (24 * 0) rfl (fun _ => rfl) g_24 dX7_allRounds_24 ?_
      refine z_getI C S 1 (24 * 0 + (v2).toNatClampNeg) rfl (oc1 (by decide) g_24) cf_1 7 (by decide) (gi_1_7 G ad (24 * 0 + (v2).toNatClampNeg)) tw_1_179 dX7_allRounds_25 ?_
      refine lv_iadd C.1 C.2.1 dX7_allRounds_28 ?_
      refine lv_istore_n (lv' := [(1, .int (v1 + (σ 1 (24 * 0 + (v2).toNatClampNeg) 7))), (0, .ref (ad 7 0)), (2, .int v2)]) C.1 C.2.1 dX7_allRounds_29 rfl hl (by decide) rfl (fun ls hl => ?_)
      refine lv_iinc (v := (v2 + 1)) (lv' := [(2, .int (v2 + 1)), (1, .int (v1 + (σ 1 (24 * 0 + (v2).toNatClampNeg) 7))), (0, .ref (ad 7 0))]) C.1 C.2.1 dX7_allRounds_30 hl (k := 2) rfl rfl (by decide) rfl (fun ls hl => ?_)
      refine lv_goto (tgt := 4) C.1 C.2.1 dX7_allRounds_33 (by decide) ?_
      exact ih _ (v1 + (σ 1 (24 * 0 + (v2).toNatClampNeg) 7)) (v2 + 1) _ _ _ S (lv_sub hl [2, 1, 0] rfl)  hf
set_option maxHeartbeats 4000000 in
set_option maxRecDepth 100000 in
theorem w_X7_allRounds_0 {p : Program} {l : Launch} {e : Env} {s : State} {m : MethodId} {args : Array Value} {below : List Frame} {meth : Method} {c : Code} {G : Gx} {ad : Ad} {res : Int32 × Sg} (C : Cx p s m args meth c yX7_allRounds.cls cX7_allRounds 3 (Option.some FieldType.int) G)  : ∀ (σ : Sg)  (H : Heap) (locs : List Loc) (ls : Array Slot), z_S 0 G ad σ (z_A 0 ad s.heap.size) s.heap H locs → lv_has ls 3 [(0, .ref (ad 7 0))] → f_X7_allRounds  σ  = some res → W p l e { frames := 0, cells := 0, slots := 0, locals := 0 } s m args below meth c H locs 0 0 (MQ below (va_Qi (S := Unit) (fun r1 _ => r1 = res.1) (fun _ t => z_W 0 G ad res.2 t.heap) (z_A 0 ad s.heap.size)) args s 0 0 (z_A 0 ad s.heap.size)) (F0 m 0 ls []) := by
  intro σ  H locs ls S hl  hf
  unfold f_X7_allRounds at hf
  refine lv_iconst (v := 0) C.1 C.2.1 dX7_allRounds_0 (by decide) ?_
  refine lv_istore_n (lv' := [(1, .int 0), (0, .ref (ad 7 0))]) C.1 C.2.1 dX7_allRounds_1 rfl hl (by decide) rfl (fun ls hl => ?_)
  refine lv_iconst (v := 0) C.1 C.2.1 dX7_allRounds_2 (by decide) ?_
  refine lv_istore_n (lv' := [(2, .int 0), (1, .int 0), (0, .ref (ad 7 0))]) C.1 C.2.1 dX7_allRounds_3 rfl hl (by decide) rfl (fun ls hl => ?_)
  exact w_X7_allRounds_4 C FU _ 0 0 _ _ _ S (lv_sub hl [2, 1, 0] rfl) hf
theorem kv_X7_allRounds : KV yX7_allRounds cX7_allRounds 3 (Option.some FieldType.int) 0 := ⟨tw_3_182, tw_3_180, tw_3_181, tw_1_1, by decide, by decide, by decide +kernel⟩
theorem m_X7_allRounds (l : Launch) (G : Gx) (ad : Ad) (σ : Sg)  (r : Int32) (σ' : Sg)  (hf : f_X7_allRounds σ  = some (r, σ')) (sz : Nat) : z_MI l yX7_allRounds cX7_allRounds 3 (Option.some FieldType.int) 0 0 0 G ad σ sz [.ref (ad 7 0)] r σ' := by
  refine z_begin (by decide +kernel) (Nat.le_of_ble_eq_true rfl) [(0, .ref (ad 7 0))] rfl (fun p e s m args below meth c ls C hz S hl => ?_)
  subst hz
  exact w_X7_allRounds_0 (res := (r, σ')) C σ  _ _ _ S hl  hf

theorem dX7_waitsWithin_0 : decode cX7_waitsWithin 0 = .ok (.iconst 0, 1) := by decide +kernel
theorem dX7_waitsWithin_1 : decode cX7_waitsWithin 1 = .ok (.istore_n 3, 1) := by decide +kernel
theorem dX7_waitsWithin_2 : decode cX7_waitsWithin 2 = .ok (.iconst 0, 1) := by decide +kernel
theorem dX7_waitsWithin_3 : decode cX7_waitsWithin 3 = .ok (.istore 4, 2) := by decide +kernel
theorem dX7_waitsWithin_5 : decode cX7_waitsWithin 5 = .ok (.iload 4, 2) := by decide +kernel
theorem dX7_waitsWithin_7 : decode cX7_waitsWithin 7 = .ok (.aload_n 0, 1) := by decide +kernel
theorem dX7_waitsWithin_8 : decode cX7_waitsWithin 8 = .ok (.getfield 26, 3) := by decide +kernel
theorem dX7_waitsWithin_11 : decode cX7_waitsWithin 11 = .ok (.getfield 97, 3) := by decide +kernel
theorem dX7_waitsWithin_14 : decode cX7_waitsWithin 14 = .ok (.if_icmp .ge 51, 3) := by decide +kernel
theorem dX7_waitsWithin_17 : decode cX7_waitsWithin 17 = .ok (.aload_n 0, 1) := by decide +kernel
theorem dX7_waitsWithin_18 : decode cX7_waitsWithin 18 = .ok (.getfield 26, 3) := by decide +kernel
theorem dX7_waitsWithin_21 : decode cX7_waitsWithin 21 = .ok (.iload 4, 2) := by decide +kernel
theorem dX7_waitsWithin_23 : decode cX7_waitsWithin 23 = .ok (.invokevirtual 230, 3) := by decide +kernel
theorem dX7_waitsWithin_26 : decode cX7_waitsWithin 26 = .ok (.istore 5, 2) := by decide +kernel
theorem dX7_waitsWithin_28 : decode cX7_waitsWithin 28 = .ok (.aload_n 0, 1) := by decide +kernel
theorem dX7_waitsWithin_29 : decode cX7_waitsWithin 29 = .ok (.getfield 26, 3) := by decide +kernel
theorem dX7_waitsWithin_32 : decode cX7_waitsWithin 32 = .ok (.getfield 191, 3) := by decide +kernel
theorem dX7_waitsWithin_35 : decode cX7_waitsWithin 35 = .ok (.iload 4, 2) := by decide +kernel
theorem dX7_waitsWithin_37 : decode cX7_waitsWithin 37 = .ok (.aaload, 1) := by decide +kernel
theorem dX7_waitsWithin_38 : decode cX7_waitsWithin 38 = .ok (.getfield 206, 3) := by decide +kernel
theorem dX7_waitsWithin_41 : decode cX7_waitsWithin 41 = .ok (.ifCond .eq 18, 3) := by decide +kernel
theorem dX7_waitsWithin_44 : decode cX7_waitsWithin 44 = .ok (.iload 5, 2) := by decide +kernel
theorem dX7_waitsWithin_46 : decode cX7_waitsWithin 46 = .ok (.iload_n 1, 1) := by decide +kernel
theorem dX7_waitsWithin_47 : decode cX7_waitsWithin 47 = .ok (.if_icmp .lt 12, 3) := by decide +kernel
theorem dX7_waitsWithin_50 : decode cX7_waitsWithin 50 = .ok (.iload 5, 2) := by decide +kernel
theorem dX7_waitsWithin_52 : decode cX7_waitsWithin 52 = .ok (.iload_n 2, 1) := by decide +kernel
theorem dX7_waitsWithin_53 : decode cX7_waitsWithin 53 = .ok (.if_icmp .gt 6, 3) := by decide +kernel
theorem dX7_waitsWithin_56 : decode cX7_waitsWithin 56 = .ok (.iinc 3 1, 3) := by decide +kernel
theorem dX7_waitsWithin_59 : decode cX7_waitsWithin 59 = .ok (.iinc 4 1, 3) := by decide +kernel
theorem dX7_waitsWithin_62 : decode cX7_waitsWithin 62 = .ok (.goto (-57), 3) := by decide +kernel
theorem dX7_waitsWithin_65 : decode cX7_waitsWithin 65 = .ok (.iload_n 3, 1) := by decide +kernel
theorem dX7_waitsWithin_66 : decode cX7_waitsWithin 66 = .ok (.ireturn, 1) := by decide +kernel
/-! BusLifts.waitsWithin(II)I -/
noncomputable def f_X7_waitsWithin_65  (σ : Sg) (v3 : Int32) : Option (Int32 × Sg) := some (v3, σ)
noncomputable def f_X7_waitsWithin_59 (k5 : Sg → Int32 → Int32 → Int32 → Int32 → Option (Int32 × Sg)) (σ : Sg) (v1 : Int32) (v2 : Int32) (v3 : Int32) (v4 : Int32) : Option (Int32 × Sg) := k5 σ v1 v2 v3 (v4 + 1)
noncomputable def f_X7_waitsWithin_5  : Nat → Sg → Int32 → Int32 → Int32 → Int32 → Option (Int32 × Sg)
  | 0, _, _, _, _, _ => none
  | n + 1, σ, v1, v2, v3, v4 => if (σ 4 0 2) ≤ v4 then (f_X7_waitsWithin_65 σ v3) else (bi (f_X4_waitTime σ 0 v4) fun r2 σ1 => (if v4 < 0 ∨ 24 ≤ (v4).toNatClampNeg then none else (if (σ1 1 (24 * 0 + (v4).toNatClampNeg) 3) = 0 then (f_X7_waitsWithin_59 (f_X7_waitsWithin_5 n) σ1 v1 v2 v3 v4) else (if r2 < v1 then (f_X7_waitsWithin_59 (f_X7_waitsWithin_5 n) σ1 v1 v2 v3 v4) else (if v2 < r2 then (f_X7_waitsWithin_59 (f_X7_waitsWithin_5 n) σ1 v1 v2 v3 v4) else (f_X7_waitsWithin_59 (f_X7_waitsWithin_5 n) σ1 v1 v2 (v3 + 1) v4))))))
theorem f_X7_waitsWithin_5_s  (n : Nat) (σ : Sg) (v1 : Int32) (v2 : Int32) (v3 : Int32) (v4 : Int32) : f_X7_waitsWithin_5  (n + 1) σ v1 v2 v3 v4 = (if (σ 4 0 2) ≤ v4 then (f_X7_waitsWithin_65 σ v3) else (bi (f_X4_waitTime σ 0 v4) fun r2 σ1 => (if v4 < 0 ∨ 24 ≤ (v4).toNatClampNeg then none else (if (σ1 1 (24 * 0 + (v4).toNatClampNeg) 3) = 0 then (f_X7_waitsWithin_59 (f_X7_waitsWithin_5 n) σ1 v1 v2 v3 v4) else (if r2 < v1 then (f_X7_waitsWithin_59 (f_X7_waitsWithin_5 n) σ1 v1 v2 v3 v4) else (if v2 < r2 then (f_X7_waitsWithin_59 (f_X7_waitsWithin_5 n) σ1 v1 v2 v3 v4) else (f_X7_waitsWithin_59 (f_X7_waitsWithin_5 n) σ1 v1 v2 (v3 + 1) v4))))))) := rfl
noncomputable def f_X7_waitsWithin  (σ : Sg) (v1 : Int32) (v2 : Int32) : Option (Int32 × Sg) := f_X7_waitsWithin_5 FU σ v1 v2 0 0
set_option maxHeartbeats 4000000 in
set_option maxRecDepth 100000 in
theorem w_X7_waitsWithin_65 {p : Program} {l : Launch} {e : Env} {s : State} {m : MethodId} {args : Array Value} {below : List Frame} {meth : Method} {c : Code} {G : Gx} {ad : Ad} {res : Int32 × Sg} (C : Cx p s m args meth c yX7_waitsWithin.cls cX7_waitsWithin 6 (Option.some FieldType.int) G)  : ∀ (σ : Sg) (v3 : Int32) (H : Heap) (locs : List Loc) (ls : Array Slot), z_S 0 G ad σ (z_A 0 ad s.heap.size) s.heap H locs → lv_has ls 6 [(3, .int v3)] → f_X7_waitsWithin_65  σ v3 = some res → W p l e { frames := 1, cells := 0, slots := 0, locals := 22 } s m args below meth c H locs 0 0 (MQ below (va_Qi (S := Unit) (fun r1 _ => r1 = res.1) (fun _ t => z_W 0 G ad res.2 t.heap) (z_A 0 ad s.heap.size)) args s 0 0 (z_A 0 ad s.heap.size)) (F0 m 65 ls []) := by
  intro σ v3 H locs ls S hl  hf
  unfold f_X7_waitsWithin_65 at hf
  refine lv_iload_n C.1 C.2.1 dX7_waitsWithin_65 rfl (lv_at hl 0 rfl) ?_
  exact z_iret C S hf dX7_waitsWithin_66
set_option maxHeartbeats 4000000 in
set_option maxRecDepth 100000 in
theorem w_X7_waitsWithin_59 {p : Program} {l : Launch} {e : Env} {s : State} {m : MethodId} {args : Array Value} {below : List Frame} {meth : Method} {c : Code} {G : Gx} {ad : Ad} {res : Int32 × Sg} (C : Cx p s m args meth c yX7_waitsWithin.cls cX7_waitsWithin 6 (Option.some FieldType.int) G) (k5 : Sg → Int32 → Int32 → Int32 → Int32 → Option (Int32 × Sg)) (hk5 : ∀ (σ : Sg) (v1 : Int32) (v2 : Int32) (v3 : Int32) (v4 : Int32) (H : Heap) (locs : List Loc) (ls : Array Slot), z_S 0 G ad σ (z_A 0 ad s.heap.size) s.heap H locs → lv_has ls 6 [(0, .ref (ad 7 0)), (1, .int v1), (2, .int v2), (3, .int v3), (4, .int v4)] → k5 σ v1 v2 v3 v4 = some res → W p l e { frames := 1, cells := 0, slots := 0, locals := 22 } s m args below meth c H locs 0 0 (MQ below (va_Qi (S := Unit) (fun r1 _ => r1 = res.1) (fun _ t => z_W 0 G ad res.2 t.heap) (z_A 0 ad s.heap.size)) args s 0 0 (z_A 0 ad s.heap.size)) (F0 m 5 ls [])) : ∀ (σ : Sg) (v1 : Int32) (v2 : Int32) (v3 : Int32) (v4 : Int32) (H : Heap) (locs : List Loc) (ls : Array Slot), z_S 0 G ad σ (z_A 0 ad s.heap.size) s.heap H locs → lv_has ls 6 [(0, .ref (ad 7 0)), (1, .int v1), (2, .int v2), (3, .int v3), (4, .int v4)] → f_X7_waitsWithin_59 k5 σ v1 v2 v3 v4 = some res → W p l e { frames := 1, cells := 0, slots := 0, locals := 22 } s m args below meth c H locs 0 0 (MQ below (va_Qi (S := Unit) (fun r1 _ => r1 = res.1) (fun _ t => z_W 0 G ad res.2 t.heap) (z_A 0 ad s.heap.size)) args s 0 0 (z_A 0 ad s.heap.size)) (F0 m 59 ls []) := by
  intro σ v1 v2 v3 v4 H locs ls S hl  hf
  unfold f_X7_waitsWithin_59 at hf
  refine lv_iinc (v := (v4 + 1)) (lv' := [(4, .int (v4 + 1)), (0, .ref (ad 7 0)), (1, .int v1), (2, .int v2), (3, .int v3)]) C.1 C.2.1 dX7_waitsWithin_59 hl (k := 4) rfl rfl (by decide) rfl (fun ls hl => ?_)
  refine lv_goto (tgt := 5) C.1 C.2.1 dX7_waitsWithin_62 (by decide) ?_
  exact hk5 _ v1 v2 v3 (v4 + 1) _ _ _ S (lv_sub hl [1, 2, 3, 4, 0] rfl)  hf
set_option maxHeartbeats 4000000 in
set_option maxRecDepth 100000 in
theorem w_X7_waitsWithin_5 {p : Program} {l : Launch} {e : Env} {s : State} {m : MethodId} {args : Array Value} {below : List Frame} {meth : Method} {c : Code} {G : Gx} {ad : Ad} {res : Int32 × Sg} (C : Cx p s m args meth c yX7_waitsWithin.cls cX7_waitsWithin 6 (Option.some FieldType.int) G)  : ∀ n : Nat, ∀ (σ : Sg) (v1 : Int32) (v2 : Int32) (v3 : Int32) (v4 : Int32) (H : Heap) (locs : List Loc) (ls : Array Slot), z_S 0 G ad σ (z_A 0 ad s.heap.size) s.heap H locs → lv_has ls 6 [(0, .ref (ad 7 0)), (1, .int v1), (2, .int v2), (3, .int v3), (4, .int v4)] → f_X7_waitsWithin_5  n σ v1 v2 v3 v4 = some res → W p l e { frames := 1, cells := 0, slots := 0, locals := 22 } s m args below meth c H locs 0 0 (MQ below (va_Qi (S := Unit) (fun r1 _ => r1 = res.1) (fun _ t => z_W 0 G ad res.2 t.heap) (z_A 0 ad s.heap.size)) args s 0 0 (z_A 0 ad s.heap.size)) (F0 m 5 ls []) := by
  intro n
  induction n with
  | zero => intro σ v1 v2 v3 v4 H locs ls S hl  hf; cases hf
  | succ n ih =>
    intro σ v1 v2 v3 v4 H locs ls S hl  hf
    rw [f_X7_waitsWithin_5_s] at hf
    refine lv_iload C.1 C.2.1 dX7_waitsWithin_5 (lv_at hl 4 rfl) ?_
    refine lv_aload_n C.1 C.2.1 dX7_waitsWithin_7 rfl (lv_at hl 0 rfl) ?_
    refine z_getR C S 7 0 rfl (by decide) cf_7 6 (by decide) _ (gr_7_6 G ad 0) tw_2_134 dX7_waitsWithin_8 ?_
    refine z_getI C S 4 0 rfl (by decide) cf_4 2 (by decide) (gi_4_2 G ad 0) tw_1_222 dX7_waitsWithin_11 ?_
    refine lv_icmp_ge (tgt := 65) C.1 C.2.1 dX7_waitsWithin_14 (by decide) (fun c_14 => ?_) (fun c_14 => ?_)
    · rw [if_pos c_14] at hf
      exact w_X7_waitsWithin_65 C _ v3 _ _ _ S (lv_sub hl [3] rfl) hf
    · rw [if_neg c_14] at hf
      refine lv_aload_n C.1 C.2.1 dX7_waitsWithin_17 rfl (lv_at hl 0 rfl) ?_
      refine z_getR C S 7 0 rfl (by decide) cf_7 6 (by decide) _ (gr_7_6 G ad 0) tw_2_134 dX7_waitsWithin_18 ?_
      refine lv_iload C.1 C.2.1 dX7_waitsWithin_21 (lv_at hl 4 rfl) ?_
      obtain ⟨r2, σ1, q_23, hf⟩ := bib hf
      refine z_callI C S 4 0 rfl (by decide) cf_4 ⟨_, rfl⟩ [.int v4] (m_X4_waitTime l G ad σ 0 v4 r2 σ1 (by decide) q_23 _) kv_X4_waitTime tw_3_134 ⟨Nat.le_of_ble_eq_true rfl, Nat.le_of_ble_eq_true rfl⟩ rfl rfl (Nat.le_of_ble_eq_true rfl) hl.1 ⟨Nat.le_refl _, Nat.le_refl _⟩ dX7_waitsWithin_23 (fun H locs S => ?_)
      refine lv_istore (lv' := [(5, .int r2), (0, .ref (ad 7 0)), (1, .int v1), (2, .int v2), (3, .int v3), (4, .int v4)]) C.1 C.2.1 dX7_waitsWithin_26 hl (by decide) rfl (fun ls hl => ?_)
      refine lv_aload_n C.1 C.2.1 dX7_waitsWithin_28 rfl (lv_at hl 1 rfl) ?_
      refine z_getR C S 7 0 rfl (by decide) cf_7 6 (by decide) _ (gr_7_6 G ad 0) tw_2_134 dX7_waitsWithin_29 ?_
      refine z_getR C S 4 0 rfl (by decide) cf_4 7 (by decide) _ (gr_4_7 G ad 0) tw_1_238 dX7_waitsWithin_32 ?_
      refine lv_iload C.1 C.2.1 dX7_waitsWithin_35 (lv_at hl 5 rfl) ?_
      obtain ⟨g_37, hf⟩ := gd hf
      refine z_aald C S 26 0 rfl (by decide) 24 2 1 (24 * 0) rfl (fun _ => rfl) g_37 dX7_waitsWithin_37 ?_
      refine z_getI C S 1 (24 * 0 + (v4).toNatClampNeg) rfl (oc1 (by decide) g_37) cf_1 3 (by decide) (gi_1_3 G ad (24 * 0 + (v4).toNatClampNeg)) tw_1_166 dX7_waitsWithin_38 ?_
      refine lv_if_eq (tgt := 59) C.1 C.2.1 dX7_waitsWithin_41 (by decide) (fun c_41 => ?_) (fun c_41 => ?_)
      · rw [if_pos c_41] at hf
        exact w_X7_waitsWithin_59 C (f_X7_waitsWithin_5 n) ih _ v1 v2 v3 v4 _ _ _ S (lv_sub hl [1, 2, 3, 4, 5] rfl) hf
      · rw [if_neg c_41] at hf
        refine lv_iload C.1 C.2.1 dX7_waitsWithin_44 (lv_at hl 0 rfl) ?_
        refine lv_iload_n C.1 C.2.1 dX7_waitsWithin_46 rfl (lv_at hl 2 rfl) ?_
        refine lv_icmp_lt (tgt := 59) C.1 C.2.1 dX7_waitsWithin_47 (by decide) (fun c_47 => ?_) (fun c_47 => ?_)
        · rw [if_pos c_47] at hf
          exact w_X7_waitsWithin_59 C (f_X7_waitsWithin_5 n) ih _ v1 v2 v3 v4 _ _ _ S (lv_sub hl [1, 2, 3, 4, 5] rfl) hf
        · rw [if_neg c_47] at hf
          refine lv_iload C.1 C.2.1 dX7_waitsWithin_50 (lv_at hl 0 rfl) ?_
          refine lv_iload_n C.1 C.2.1 dX7_waitsWithin_52 rfl (lv_at hl 3 rfl) ?_
          refine lv_icmp_gt (tgt := 59) C.1 C.2.1 dX7_waitsWithin_53 (by decide) (fun c_53 => ?_) (fun c_53 => ?_)
          · rw [if_pos c_53] at hf
            exact w_X7_waitsWithin_59 C (f_X7_waitsWithin_5 n) ih _ v1 v2 v3 v4 _ _ _ S (lv_sub hl [1, 2, 3, 4, 5] rfl) hf
          · rw [if_neg c_53] at hf
            refine lv_iinc (v := (v3 + 1)) (lv' := [(3, .int (v3 + 1)), (5, .int r2), (0, .ref (ad 7 0)), (1, .int v1), (2, .int v2), (4, .int v4)]) C.1 C.2.1 dX7_waitsWithin_56 hl (k := 4) rfl rfl (by decide) rfl (fun ls hl => ?_)
            exact w_X7_waitsWithin_59 C (f_X7_waitsWithin_5 n) ih _ v1 v2 (v3 + 1) v4 _ _ _ S (lv_sub hl [2, 3, 4, 0, 5] rfl) hf
set_option maxHeartbeats 4000000 in
set_option maxRecDepth 100000 in
theorem w_X7_waitsWithin_0 {p : Program} {l : Launch} {e : Env} {s : State} {m : MethodId} {args : Array Value} {below : List Frame} {meth : Method} {c : Code} {G : Gx} {ad : Ad} {res : Int32 × Sg} (C : Cx p s m args meth c yX7_waitsWithin.cls cX7_waitsWithin 6 (Option.some FieldType.int) G)  : ∀ (σ : Sg) (v1 : Int32) (v2 : Int32) (H : Heap) (locs : List Loc) (ls : Array Slot), z_S 0 G ad σ (z_A 0 ad s.heap.size) s.heap H locs → lv_has ls 6 [(0, .ref (ad 7 0)), (1, .int v1), (2, .int v2)] → f_X7_waitsWithin  σ v1 v2 = some res → W p l e { frames := 1, cells := 0, slots := 0, locals := 22 } s m args below meth c H locs 0 0 (MQ below (va_Qi (S := Unit) (fun r1 _ => r1 = res.1) (fun _ t => z_W 0 G ad res.2 t.heap) (z_A 0 ad s.heap.size)) args s 0 0 (z_A 0 ad s.heap.size)) (F0 m 0 ls []) := by
  intro σ v1 v2 H locs ls S hl  hf
  unfold f_X7_waitsWithin at hf
  refine lv_iconst (v := 0) C.1 C.2.1 dX7_waitsWithin_0 (by decide) ?_
  refine lv_istore_n (lv' := [(3, .int 0), (0, .ref (ad 7 0)), (1, .int v1), (2, .int v2)]) C.1 C.2.1 dX7_waitsWithin_1 rfl hl (by decide) rfl (fun ls hl => ?_)
  refine lv_iconst (v := 0) C.1 C.2.1 dX7_waitsWithin_2 (by decide) ?_
  refine lv_istore (lv' := [(4, .int 0), (3, .int 0), (0, .ref (ad 7 0)), (1, .int v1), (2, .int v2)]) C.1 C.2.1 dX7_waitsWithin_3 hl (by decide) rfl (fun ls hl => ?_)
  exact w_X7_waitsWithin_5 C FU _ v1 v2 0 0 _ _ _ S (lv_sub hl [2, 3, 4, 1, 0] rfl) hf
theorem kv_X7_waitsWithin : KV yX7_waitsWithin cX7_waitsWithin 6 (Option.some FieldType.int) 2 := ⟨tw_3_186, tw_3_184, tw_3_185, tw_1_1, by decide, by decide, by decide +kernel⟩
theorem m_X7_waitsWithin (l : Launch) (G : Gx) (ad : Ad) (σ : Sg) (v1 : Int32) (v2 : Int32) (r : Int32) (σ' : Sg)  (hf : f_X7_waitsWithin σ v1 v2 = some (r, σ')) (sz : Nat) : z_MI l yX7_waitsWithin cX7_waitsWithin 6 (Option.some FieldType.int) 1 22 0 G ad σ sz [.ref (ad 7 0), .int v1, .int v2] r σ' := by
  refine z_begin (by decide +kernel) (Nat.le_of_ble_eq_true rfl) [(0, .ref (ad 7 0)), (1, .int v1), (2, .int v2)] rfl (fun p e s m args below meth c ls C hz S hl => ?_)
  subst hz
  exact w_X7_waitsWithin_0 (res := (r, σ')) C σ v1 v2 _ _ _ S hl  hf

theorem dX7_mostRounds_0 : decode cX7_mostRounds 0 = .ok (.iconst (-1), 1) := by decide +kernel
theorem dX7_mostRounds_1 : decode cX7_mostRounds 1 = .ok (.istore_n 1, 1) := by decide +kernel
theorem dX7_mostRounds_2 : decode cX7_mostRounds 2 = .ok (.iconst 0, 1) := by decide +kernel
theorem dX7_mostRounds_3 : decode cX7_mostRounds 3 = .ok (.istore_n 2, 1) := by decide +kernel
theorem dX7_mostRounds_4 : decode cX7_mostRounds 4 = .ok (.iconst 0, 1) := by decide +kernel
theorem dX7_mostRounds_5 : decode cX7_mostRounds 5 = .ok (.istore_n 3, 1) := by decide +kernel
theorem dX7_mostRounds_6 : decode cX7_mostRounds 6 = .ok (.iload_n 3, 1) := by decide +kernel
theorem dX7_mostRounds_7 : decode cX7_mostRounds 7 = .ok (.aload_n 0, 1) := by decide +kernel
theorem dX7_mostRounds_8 : decode cX7_mostRounds 8 = .ok (.getfield 26, 3) := by decide +kernel
theorem dX7_mostRounds_11 : decode cX7_mostRounds 11 = .ok (.getfield 97, 3) := by decide +kernel
theorem dX7_mostRounds_14 : decode cX7_mostRounds 14 = .ok (.if_icmp .ge 40, 3) := by decide +kernel
theorem dX7_mostRounds_17 : decode cX7_mostRounds 17 = .ok (.aload_n 0, 1) := by decide +kernel
theorem dX7_mostRounds_18 : decode cX7_mostRounds 18 = .ok (.getfield 26, 3) := by decide +kernel
theorem dX7_mostRounds_21 : decode cX7_mostRounds 21 = .ok (.getfield 191, 3) := by decide +kernel
theorem dX7_mostRounds_24 : decode cX7_mostRounds 24 = .ok (.iload_n 3, 1) := by decide +kernel
theorem dX7_mostRounds_25 : decode cX7_mostRounds 25 = .ok (.aaload, 1) := by decide +kernel
theorem dX7_mostRounds_26 : decode cX7_mostRounds 26 = .ok (.getfield 218, 3) := by decide +kernel
theorem dX7_mostRounds_29 : decode cX7_mostRounds 29 = .ok (.iload_n 2, 1) := by decide +kernel
theorem dX7_mostRounds_30 : decode cX7_mostRounds 30 = .ok (.if_icmp .le 18, 3) := by decide +kernel
theorem dX7_mostRounds_33 : decode cX7_mostRounds 33 = .ok (.iload_n 3, 1) := by decide +kernel
theorem dX7_mostRounds_34 : decode cX7_mostRounds 34 = .ok (.istore_n 1, 1) := by decide +kernel
theorem dX7_mostRounds_35 : decode cX7_mostRounds 35 = .ok (.aload_n 0, 1) := by decide +kernel
theorem dX7_mostRounds_36 : decode cX7_mostRounds 36 = .ok (.getfield 26, 3) := by decide +kernel
theorem dX7_mostRounds_39 : decode cX7_mostRounds 39 = .ok (.getfield 191, 3) := by decide +kernel
theorem dX7_mostRounds_42 : decode cX7_mostRounds 42 = .ok (.iload_n 3, 1) := by decide +kernel
theorem dX7_mostRounds_43 : decode cX7_mostRounds 43 = .ok (.aaload, 1) := by decide +kernel
theorem dX7_mostRounds_44 : decode cX7_mostRounds 44 = .ok (.getfield 218, 3) := by decide +kernel
theorem dX7_mostRounds_47 : decode cX7_mostRounds 47 = .ok (.istore_n 2, 1) := by decide +kernel
theorem dX7_mostRounds_48 : decode cX7_mostRounds 48 = .ok (.iinc 3 1, 3) := by decide +kernel
theorem dX7_mostRounds_51 : decode cX7_mostRounds 51 = .ok (.goto (-45), 3) := by decide +kernel
theorem dX7_mostRounds_54 : decode cX7_mostRounds 54 = .ok (.iload_n 1, 1) := by decide +kernel
theorem dX7_mostRounds_55 : decode cX7_mostRounds 55 = .ok (.ireturn, 1) := by decide +kernel
/-! BusLifts.mostRounds()I -/
noncomputable def f_X7_mostRounds_54  (σ : Sg) (v1 : Int32) : Option (Int32 × Sg) := some (v1, σ)
noncomputable def f_X7_mostRounds_48 (k6 : Sg → Int32 → Int32 → Int32 → Option (Int32 × Sg)) (σ : Sg) (v1 : Int32) (v2 : Int32) (v3 : Int32) : Option (Int32 × Sg) := k6 σ v1 v2 (v3 + 1)
noncomputable def f_X7_mostRounds_6  : Nat → Sg → Int32 → Int32 → Int32 → Option (Int32 × Sg)
  | 0, _, _, _, _ => none
  | n + 1, σ, v1, v2, v3 => if (σ 4 0 2) ≤ v3 then (f_X7_mostRounds_54 σ v1) else (if v3 < 0 ∨ 24 ≤ (v3).toNatClampNeg then none else (if (σ 1 (24 * 0 + (v3).toNatClampNeg) 7) ≤ v2 then (f_X7_mostRounds_48 (f_X7_mostRounds_6 n) σ v1 v2 v3) else (if v3 < 0 ∨ 24 ≤ (v3).toNatClampNeg then none else (f_X7_mostRounds_48 (f_X7_mostRounds_6 n) σ v3 (σ 1 (24 * 0 + (v3).toNatClampNeg) 7) v3))))
theorem f_X7_mostRounds_6_s  (n : Nat) (σ : Sg) (v1 : Int32) (v2 : Int32) (v3 : Int32) : f_X7_mostRounds_6  (n + 1) σ v1 v2 v3 = (if (σ 4 0 2) ≤ v3 then (f_X7_mostRounds_54 σ v1) else (if v3 < 0 ∨ 24 ≤ (v3).toNatClampNeg then none else (if (σ 1 (24 * 0 + (v3).toNatClampNeg) 7) ≤ v2 then (f_X7_mostRounds_48 (f_X7_mostRounds_6 n) σ v1 v2 v3) else (if v3 < 0 ∨ 24 ≤ (v3).toNatClampNeg then none else (f_X7_mostRounds_48 (f_X7_mostRounds_6 n) σ v3 (σ 1 (24 * 0 + (v3).toNatClampNeg) 7) v3))))) := rfl
noncomputable def f_X7_mostRounds  (σ : Sg)  : Option (Int32 × Sg) := f_X7_mostRounds_6 FU σ (-1) 0 0
set_option maxHeartbeats 4000000 in
set_option maxRecDepth 100000 in
theorem w_X7_mostRounds_54 {p : Program} {l : Launch} {e : Env} {s : State} {m : MethodId} {args : Array Value} {below : List Frame} {meth : Method} {c : Code} {G : Gx} {ad : Ad} {res : Int32 × Sg} (C : Cx p s m args meth c yX7_mostRounds.cls cX7_mostRounds 4 (Option.some FieldType.int) G)  : ∀ (σ : Sg) (v1 : Int32) (H : Heap) (locs : List Loc) (ls : Array Slot), z_S 0 G ad σ (z_A 0 ad s.heap.size) s.heap H locs → lv_has ls 4 [(1, .int v1)] → f_X7_mostRounds_54  σ v1 = some res → W p l e { frames := 0, cells := 0, slots := 0, locals := 0 } s m args below meth c H locs 0 0 (MQ below (va_Qi (S := Unit) (fun r1 _ => r1 = res.1) (fun _ t => z_W 0 G ad res.2 t.heap) (z_A 0 ad s.heap.size)) args s 0 0 (z_A 0 ad s.heap.size)) (F0 m 54 ls []) := by
  intro σ v1 H locs ls S hl  hf
  unfold f_X7_mostRounds_54 at hf
  refine lv_iload_n C.1 C.2.1 dX7_mostRounds_54 rfl (lv_at hl 0 rfl) ?_
  exact z_iret C S hf dX7_mostRounds_55
set_option maxHeartbeats 4000000 in
set_option maxRecDepth 100000 in
theorem w_X7_mostRounds_48 {p : Program} {l : Launch} {e : Env} {s : State} {m : MethodId} {args : Array Value} {below : List Frame} {meth : Method} {c : Code} {G : Gx} {ad : Ad} {res : Int32 × Sg} (C : Cx p s m args meth c yX7_mostRounds.cls cX7_mostRounds 4 (Option.some FieldType.int) G) (k6 : Sg → Int32 → Int32 → Int32 → Option (Int32 × Sg)) (hk6 : ∀ (σ : Sg) (v1 : Int32) (v2 : Int32) (v3 : Int32) (H : Heap) (locs : List Loc) (ls : Array Slot), z_S 0 G ad σ (z_A 0 ad s.heap.size) s.heap H locs → lv_has ls 4 [(0, .ref (ad 7 0)), (1, .int v1), (2, .int v2), (3, .int v3)] → k6 σ v1 v2 v3 = some res → W p l e { frames := 0, cells := 0, slots := 0, locals := 0 } s m args below meth c H locs 0 0 (MQ below (va_Qi (S := Unit) (fun r1 _ => r1 = res.1) (fun _ t => z_W 0 G ad res.2 t.heap) (z_A 0 ad s.heap.size)) args s 0 0 (z_A 0 ad s.heap.size)) (F0 m 6 ls [])) : ∀ (σ : Sg) (v1 : Int32) (v2 : Int32) (v3 : Int32) (H : Heap) (locs : List Loc) (ls : Array Slot), z_S 0 G ad σ (z_A 0 ad s.heap.size) s.heap H locs → lv_has ls 4 [(0, .ref (ad 7 0)), (1, .int v1), (2, .int v2), (3, .int v3)] → f_X7_mostRounds_48 k6 σ v1 v2 v3 = some res → W p l e { frames := 0, cells := 0, slots := 0, locals := 0 } s m args below meth c H locs 0 0 (MQ below (va_Qi (S := Unit) (fun r1 _ => r1 = res.1) (fun _ t => z_W 0 G ad res.2 t.heap) (z_A 0 ad s.heap.size)) args s 0 0 (z_A 0 ad s.heap.size)) (F0 m 48 ls []) := by
  intro σ v1 v2 v3 H locs ls S hl  hf
  unfold f_X7_mostRounds_48 at hf
  refine lv_iinc (v := (v3 + 1)) (lv' := [(3, .int (v3 + 1)), (0, .ref (ad 7 0)), (1, .int v1), (2, .int v2)]) C.1 C.2.1 dX7_mostRounds_48 hl (k := 3) rfl rfl (by decide) rfl (fun ls hl => ?_)
  refine lv_goto (tgt := 6) C.1 C.2.1 dX7_mostRounds_51 (by decide) ?_
  exact hk6 _ v1 v2 (v3 + 1) _ _ _ S (lv_sub hl [1, 2, 3, 0] rfl)  hf
set_option maxHeartbeats 4000000 in
set_option maxRecDepth 100000 in
theorem w_X7_mostRounds_6 {p : Program} {l : Launch} {e : Env} {s : State} {m : MethodId} {args : Array Value} {below : List Frame} {meth : Method} {c : Code} {G : Gx} {ad : Ad} {res : Int32 × Sg} (C : Cx p s m args meth c yX7_mostRounds.cls cX7_mostRounds 4 (Option.some FieldType.int) G)  : ∀ n : Nat, ∀ (σ : Sg) (v1 : Int32) (v2 : Int32) (v3 : Int32) (H : Heap) (locs : List Loc) (ls : Array Slot), z_S 0 G ad σ (z_A 0 ad s.heap.size) s.heap H locs → lv_has ls 4 [(0, .ref (ad 7 0)), (1, .int v1), (2, .int v2), (3, .int v3)] → f_X7_mostRounds_6  n σ v1 v2 v3 = some res → W p l e { frames := 0, cells := 0, slots := 0, locals := 0 } s m args below meth c H locs 0 0 (MQ below (va_Qi (S := Unit) (fun r1 _ => r1 = res.1) (fun _ t => z_W 0 G ad res.2 t.heap) (z_A 0 ad s.heap.size)) args s 0 0 (z_A 0 ad s.heap.size)) (F0 m 6 ls []) := by
  intro n
  induction n with
  | zero => intro σ v1 v2 v3 H locs ls S hl  hf; cases hf
  | succ n ih =>
    intro σ v1 v2 v3 H locs ls S hl  hf
    rw [f_X7_mostRounds_6_s] at hf
    refine lv_iload_n C.1 C.2.1 dX7_mostRounds_6 rfl (lv_at hl 3 rfl) ?_
    refine lv_aload_n C.1 C.2.1 dX7_mostRounds_7 rfl (lv_at hl 0 rfl) ?_
    refine z_getR C S 7 0 rfl (by decide) cf_7 6 (by decide) _ (gr_7_6 G ad 0) tw_2_134 dX7_mostRounds_8 ?_
    refine z_getI C S 4 0 rfl (by decide) cf_4 2 (by decide) (gi_4_2 G ad 0) tw_1_222 dX7_mostRounds_11 ?_
    refine lv_icmp_ge (tgt := 54) C.1 C.2.1 dX7_mostRounds_14 (by decide) (fun c_14 => ?_) (fun c_14 => ?_)
    · rw [if_pos c_14] at hf
      exact w_X7_mostRounds_54 C _ v1 _ _ _ S (lv_sub hl [1] rfl) hf
    · rw [if_neg c_14] at hf
      refine lv_aload_n C.1 C.2.1 dX7_mostRounds_17 rfl (lv_at hl 0 rfl) ?_
      refine z_getR C S 7 0 rfl (by decide) cf_7 6 (by decide) _ (gr_7_6 G ad 0) tw_2_134 dX7_mostRounds_18 ?_
      refine z_getR C S 4 0 rfl (by decide) cf_4 7 (by decide) _ (gr_4_7 G ad 0) tw_1_238 dX7_mostRounds_21 ?_
      refine lv_iload_n C.1 C.2.1 dX7_mostRounds_24 rfl (lv_at hl 3 rfl) ?_
      obtain ⟨g_25, hf⟩ := gd hf
      refine z_aald C S 26 0 rfl (by decide) 24 2 1 (24 * 0) rfl (fun _ => rfl) g_25 dX7_mostRounds_25 ?_
      refine z_getI C S 1 (24 * 0 + (v3).toNatClampNeg) rfl (oc1 (by decide) g_25) cf_1 7 (by decide) (gi_1_7 G ad (24 * 0 + (v3).toNatClampNeg)) tw_1_179 dX7_mostRounds_26 ?_
      refine lv_iload_n C.1 C.2.1 dX7_mostRounds_29 rfl (lv_at hl 2 rfl) ?_
      refine lv_icmp_le (tgt := 48) C.1 C.2.1 dX7_mostRounds_30 (by decide) (fun c_30 => ?_) (fun c_30 => ?_)
      · rw [if_pos c_30] at hf
        exact w_X7_mostRounds_48 C (f_X7_mostRounds_6 n) ih _ v1 v2 v3 _ _ _ S (lv_sub hl [0, 1, 2, 3] rfl) hf
      · rw [if_neg c_30] at hf
        refine lv_iload_n C.1 C.2.1 dX7_mostRounds_33 rfl (lv_at hl 3 rfl) ?_
        refine lv_istore_n (lv' := [(1, .int v3), (0, .ref (ad 7 0)), (2, .int v2), (3, .int v3)]) C.1 C.2.1 dX7_mostRounds_34 rfl hl (by decide) rfl (fun ls hl => ?_)
        refine lv_aload_n C.1 C.2.1 dX7_mostRounds_35 rfl (lv_at hl 1 rfl) ?_
        refine z_getR C S 7 0 rfl (by decide) cf_7 6 (by decide) _ (gr_7_6 G ad 0) tw_2_134 dX7_mostRounds_36 ?_
        refine z_getR C S 4 0 rfl (by decide) cf_4 7 (by decide) _ (gr_4_7 G ad 0) tw_1_238 dX7_mostRounds_39 ?_
        refine lv_iload_n C.1 C.2.1 dX7_mostRounds_42 rfl (lv_at hl 3 rfl) ?_
        obtain ⟨g_43, hf⟩ := gd hf
        refine z_aald C S 26 0 rfl (by decide) 24 2 1 (24 * 0) rfl (fun _ => rfl) g_43 dX7_mostRounds_43 ?_
        refine z_getI C S 1 (24 * 0 + (v3).toNatClampNeg) rfl (oc1 (by decide) g_43) cf_1 7 (by decide) (gi_1_7 G ad (24 * 0 + (v3).toNatClampNeg)) tw_1_179 dX7_mostRounds_44 ?_
        refine lv_istore_n (lv' := [(2, .int (σ 1 (24 * 0 + (v3).toNatClampNeg) 7)), (1, .int v3), (0, .ref (ad 7 0)), (3, .int v3)]) C.1 C.2.1 dX7_mostRounds_47 rfl hl (by decide) rfl (fun ls hl => ?_)
        exact w_X7_mostRounds_48 C (f_X7_mostRounds_6 n) ih _ v3 (σ 1 (24 * 0 + (v3).toNatClampNeg) 7) v3 _ _ _ S (lv_sub hl [2, 1, 0, 3] rfl) hf
set_option maxHeartbeats 4000000 in
set_option maxRecDepth 100000 in
theorem w_X7_mostRounds_0 {p : Program} {l : Launch} {e : Env} {s : State} {m : MethodId} {args : Array Value} {below : List Frame} {meth : Method} {c : Code} {G : Gx} {ad : Ad} {res : Int32 × Sg} (C : Cx p s m args meth c yX7_mostRounds.cls cX7_mostRounds 4 (Option.some FieldType.int) G)  : ∀ (σ : Sg)  (H : Heap) (locs : List Loc) (ls : Array Slot), z_S 0 G ad σ (z_A 0 ad s.heap.size) s.heap H locs → lv_has ls 4 [(0, .ref (ad 7 0))] → f_X7_mostRounds  σ  = some res → W p l e { frames := 0, cells := 0, slots := 0, locals := 0 } s m args below meth c H locs 0 0 (MQ below (va_Qi (S := Unit) (fun r1 _ => r1 = res.1) (fun _ t => z_W 0 G ad res.2 t.heap) (z_A 0 ad s.heap.size)) args s 0 0 (z_A 0 ad s.heap.size)) (F0 m 0 ls []) := by
  intro σ  H locs ls S hl  hf
  unfold f_X7_mostRounds at hf
  refine lv_iconst (v := (-1)) C.1 C.2.1 dX7_mostRounds_0 (by decide) ?_
  refine lv_istore_n (lv' := [(1, .int (-1)), (0, .ref (ad 7 0))]) C.1 C.2.1 dX7_mostRounds_1 rfl hl (by decide) rfl (fun ls hl => ?_)
  refine lv_iconst (v := 0) C.1 C.2.1 dX7_mostRounds_2 (by decide) ?_
  refine lv_istore_n (lv' := [(2, .int 0), (1, .int (-1)), (0, .ref (ad 7 0))]) C.1 C.2.1 dX7_mostRounds_3 rfl hl (by decide) rfl (fun ls hl => ?_)
  refine lv_iconst (v := 0) C.1 C.2.1 dX7_mostRounds_4 (by decide) ?_
  refine lv_istore_n (lv' := [(3, .int 0), (2, .int 0), (1, .int (-1)), (0, .ref (ad 7 0))]) C.1 C.2.1 dX7_mostRounds_5 rfl hl (by decide) rfl (fun ls hl => ?_)
  exact w_X7_mostRounds_6 C FU _ (-1) 0 0 _ _ _ S (lv_sub hl [3, 2, 1, 0] rfl) hf
theorem kv_X7_mostRounds : KV yX7_mostRounds cX7_mostRounds 4 (Option.some FieldType.int) 0 := ⟨tw_3_190, tw_3_188, tw_3_189, tw_1_1, by decide, by decide, by decide +kernel⟩
theorem m_X7_mostRounds (l : Launch) (G : Gx) (ad : Ad) (σ : Sg)  (r : Int32) (σ' : Sg)  (hf : f_X7_mostRounds σ  = some (r, σ')) (sz : Nat) : z_MI l yX7_mostRounds cX7_mostRounds 4 (Option.some FieldType.int) 0 0 0 G ad σ sz [.ref (ad 7 0)] r σ' := by
  refine z_begin (by decide +kernel) (Nat.le_of_ble_eq_true rfl) [(0, .ref (ad 7 0))] rfl (fun p e s m args below meth c ls C hz S hl => ?_)
  subst hz
  exact w_X7_mostRounds_0 (res := (r, σ')) C σ  _ _ _ S hl  hf

theorem dX7_undo_0 : decode cX7_undo 0 = .ok (.aload_n 0, 1) := by decide +kernel
theorem dX7_undo_1 : decode cX7_undo 1 = .ok (.getfield 39, 3) := by decide +kernel
theorem dX7_undo_4 : decode cX7_undo 4 = .ok (.getfield 140, 3) := by decide +kernel
theorem dX7_undo_7 : decode cX7_undo 7 = .ok (.ifCond .ne 5, 3) := by decide +kernel
theorem dX7_undo_10 : decode cX7_undo 10 = .ok (.iconst (-1), 1) := by decide +kernel
theorem dX7_undo_11 : decode cX7_undo 11 = .ok (.ireturn, 1) := by decide +kernel
theorem dX7_undo_12 : decode cX7_undo 12 = .ok (.aload_n 0, 1) := by decide +kernel
theorem dX7_undo_13 : decode cX7_undo 13 = .ok (.getfield 39, 3) := by decide +kernel
theorem dX7_undo_16 : decode cX7_undo 16 = .ok (.aload_n 0, 1) := by decide +kernel
theorem dX7_undo_17 : decode cX7_undo 17 = .ok (.getfield 26, 3) := by decide +kernel
theorem dX7_undo_20 : decode cX7_undo 20 = .ok (.invokevirtual 333, 3) := by decide +kernel
theorem dX7_undo_23 : decode cX7_undo 23 = .ok (.aload_n 0, 1) := by decide +kernel
theorem dX7_undo_24 : decode cX7_undo 24 = .ok (.getfield 39, 3) := by decide +kernel
theorem dX7_undo_27 : decode cX7_undo 27 = .ok (.getfield 140, 3) := by decide +kernel
theorem dX7_undo_30 : decode cX7_undo 30 = .ok (.ireturn, 1) := by decide +kernel
/-! BusLifts.undo()I -/
noncomputable def f_X7_undo  (σ : Sg)  : Option (Int32 × Sg) := if (σ 3 0 0) = 0 then (some ((-1), σ)) else (bv (f_X3_takeBack σ 0) fun σ1 => (some ((σ1 3 0 0), σ1)))
set_option maxHeartbeats 4000000 in
set_option maxRecDepth 100000 in
theorem w_X7_undo_0 {p : Program} {l : Launch} {e : Env} {s : State} {m : MethodId} {args : Array Value} {below : List Frame} {meth : Method} {c : Code} {G : Gx} {ad : Ad} {res : Int32 × Sg} (C : Cx p s m args meth c yX7_undo.cls cX7_undo 1 (Option.some FieldType.int) G)  : ∀ (σ : Sg)  (H : Heap) (locs : List Loc) (ls : Array Slot), z_S 0 G ad σ (z_A 0 ad s.heap.size) s.heap H locs → lv_has ls 1 [(0, .ref (ad 7 0))] → f_X7_undo  σ  = some res → W p l e { frames := 4, cells := 0, slots := 0, locals := 90 } s m args below meth c H locs 0 0 (MQ below (va_Qi (S := Unit) (fun r1 _ => r1 = res.1) (fun _ t => z_W 0 G ad res.2 t.heap) (z_A 0 ad s.heap.size)) args s 0 0 (z_A 0 ad s.heap.size)) (F0 m 0 ls []) := by
  intro σ  H locs ls S hl  hf
  unfold f_X7_undo at hf
  refine lv_aload_n C.1 C.2.1 dX7_undo_0 rfl (lv_at hl 0 rfl) ?_
  refine z_getR C S 7 0 rfl (by decide) cf_7 10 (by decide) _ (gr_7_10 G ad 0) tw_2_138 dX7_undo_1 ?_
  refine z_getI C S 3 0 rfl (by decide) cf_3 0 (by decide) (gi_3_0 G ad 0) tw_2_45 dX7_undo_4 ?_
  refine lv_if_ne (tgt := 12) C.1 C.2.1 dX7_undo_7 (by decide) (fun c_7 => ?_) (fun c_7 => ?_)
  · rw [if_neg c_7] at hf
    refine lv_aload_n C.1 C.2.1 dX7_undo_12 rfl (lv_at hl 0 rfl) ?_
    refine z_getR C S 7 0 rfl (by decide) cf_7 10 (by decide) _ (gr_7_10 G ad 0) tw_2_138 dX7_undo_13 ?_
    refine lv_aload_n C.1 C.2.1 dX7_undo_16 rfl (lv_at hl 0 rfl) ?_
    refine z_getR C S 7 0 rfl (by decide) cf_7 6 (by decide) _ (gr_7_6 G ad 0) tw_2_134 dX7_undo_17 ?_
    obtain ⟨σ1, q_20, hf⟩ := bvb hf
    refine z_callV C S 3 0 rfl (by decide) cf_3 ⟨_, rfl⟩ [.ref (ad 4 0)] (m_X3_takeBack l G ad σ 0 σ1 (by decide) q_20 _) kv_X3_takeBack tw_3_195 ⟨Nat.le_of_ble_eq_true rfl, Nat.le_of_ble_eq_true rfl⟩ rfl rfl (Nat.le_of_ble_eq_true rfl) hl.1 ⟨Nat.le_refl _, Nat.le_refl _⟩ dX7_undo_20 (fun H locs S => ?_)
    refine lv_aload_n C.1 C.2.1 dX7_undo_23 rfl (lv_at hl 0 rfl) ?_
    refine z_getR C S 7 0 rfl (by decide) cf_7 10 (by decide) _ (gr_7_10 G ad 0) tw_2_138 dX7_undo_24 ?_
    refine z_getI C S 3 0 rfl (by decide) cf_3 0 (by decide) (gi_3_0 G ad 0) tw_2_45 dX7_undo_27 ?_
    exact z_iret C S hf dX7_undo_30
  · rw [if_pos c_7] at hf
    refine lv_iconst (v := (-1)) C.1 C.2.1 dX7_undo_10 (by decide) ?_
    exact z_iret C S hf dX7_undo_11
theorem kv_X7_undo : KV yX7_undo cX7_undo 1 (Option.some FieldType.int) 0 := ⟨tw_3_194, tw_3_192, tw_3_193, tw_1_1, by decide, by decide, by decide +kernel⟩
theorem m_X7_undo (l : Launch) (G : Gx) (ad : Ad) (σ : Sg)  (r : Int32) (σ' : Sg)  (hf : f_X7_undo σ  = some (r, σ')) (sz : Nat) : z_MI l yX7_undo cX7_undo 1 (Option.some FieldType.int) 4 90 0 G ad σ sz [.ref (ad 7 0)] r σ' := by
  refine z_begin (by decide +kernel) (Nat.le_of_ble_eq_true rfl) [(0, .ref (ad 7 0))] rfl (fun p e s m args below meth c ls C hz S hl => ?_)
  subst hz
  exact w_X7_undo_0 (res := (r, σ')) C σ  _ _ _ S hl  hf

theorem dX7_saveState_0 : decode cX7_saveState 0 = .ok (.aload_n 0, 1) := by decide +kernel
theorem dX7_saveState_1 : decode cX7_saveState 1 = .ok (.getfield 33, 3) := by decide +kernel
theorem dX7_saveState_4 : decode cX7_saveState 4 = .ok (.aload_n 0, 1) := by decide +kernel
theorem dX7_saveState_5 : decode cX7_saveState 5 = .ok (.getfield 26, 3) := by decide +kernel
theorem dX7_saveState_8 : decode cX7_saveState 8 = .ok (.invokevirtual 77, 3) := by decide +kernel
theorem dX7_saveState_11 : decode cX7_saveState 11 = .ok (.aload_n 0, 1) := by decide +kernel
theorem dX7_saveState_12 : decode cX7_saveState 12 = .ok (.iconst 1, 1) := by decide +kernel
theorem dX7_saveState_13 : decode cX7_saveState 13 = .ok (.putfield 83, 3) := by decide +kernel
theorem dX7_saveState_16 : decode cX7_saveState 16 = .ok (.aload_n 0, 1) := by decide +kernel
theorem dX7_saveState_17 : decode cX7_saveState 17 = .ok (.getfield 26, 3) := by decide +kernel
theorem dX7_saveState_20 : decode cX7_saveState 20 = .ok (.getfield 121, 3) := by decide +kernel
theorem dX7_saveState_23 : decode cX7_saveState 23 = .ok (.ireturn, 1) := by decide +kernel
/-! BusLifts.saveState()I -/
noncomputable def f_X7_saveState  (σ : Sg)  : Option (Int32 × Sg) := bv (f_X4_copyFrom σ 2 0) fun σ1 => (st (sup σ1 7 0 9 1) fun σ2 => (some ((σ2 4 0 3), σ2)))
set_option maxHeartbeats 4000000 in
set_option maxRecDepth 100000 in
theorem w_X7_saveState_0 {p : Program} {l : Launch} {e : Env} {s : State} {m : MethodId} {args : Array Value} {below : List Frame} {meth : Method} {c : Code} {G : Gx} {ad : Ad} {res : Int32 × Sg} (C : Cx p s m args meth c yX7_saveState.cls cX7_saveState 1 (Option.some FieldType.int) G)  : ∀ (σ : Sg)  (H : Heap) (locs : List Loc) (ls : Array Slot), z_S 0 G ad σ (z_A 0 ad s.heap.size) s.heap H locs → lv_has ls 1 [(0, .ref (ad 7 0))] → f_X7_saveState  σ  = some res → W p l e { frames := 3, cells := 0, slots := 0, locals := 69 } s m args below meth c H locs 0 0 (MQ below (va_Qi (S := Unit) (fun r1 _ => r1 = res.1) (fun _ t => z_W 0 G ad res.2 t.heap) (z_A 0 ad s.heap.size)) args s 0 0 (z_A 0 ad s.heap.size)) (F0 m 0 ls []) := by
  intro σ  H locs ls S hl  hf
  unfold f_X7_saveState at hf
  refine lv_aload_n C.1 C.2.1 dX7_saveState_0 rfl (lv_at hl 0 rfl) ?_
  refine z_getR C S 7 0 rfl (by decide) cf_7 8 (by decide) _ (gr_7_8 G ad 0) tw_2_136 dX7_saveState_1 ?_
  refine lv_aload_n C.1 C.2.1 dX7_saveState_4 rfl (lv_at hl 0 rfl) ?_
  refine z_getR C S 7 0 rfl (by decide) cf_7 6 (by decide) _ (gr_7_6 G ad 0) tw_2_134 dX7_saveState_5 ?_
  obtain ⟨σ1, q_8, hf⟩ := bvb hf
  refine z_callV C S 4 2 rfl (by decide) cf_4 ⟨_, rfl⟩ [.ref (ad 4 0)] (m_X4_copyFrom l G ad σ 2 0 σ1 (by decide) (by decide) q_8 _) kv_X4_copyFrom tw_3_86 ⟨Nat.le_of_ble_eq_true rfl, Nat.le_of_ble_eq_true rfl⟩ rfl rfl (Nat.le_of_ble_eq_true rfl) hl.1 ⟨Nat.le_refl _, Nat.le_refl _⟩ dX7_saveState_8 (fun H locs S => ?_)
  refine lv_aload_n C.1 C.2.1 dX7_saveState_11 rfl (lv_at hl 0 rfl) ?_
  refine lv_iconst (v := 1) C.1 C.2.1 dX7_saveState_12 (by decide) ?_
  obtain ⟨σ2, e_13, hf⟩ := stb hf
  refine z_putI C S 7 0 rfl (by decide) cf_7 9 (by decide) (pi_7_9 G ad 0) rfl rfl rfl tw_2_137 dX7_saveState_13 (fun H locs S => ?_)
  rw [← e_13] at S
  refine lv_aload_n C.1 C.2.1 dX7_saveState_16 rfl (lv_at hl 0 rfl) ?_
  refine z_getR C S 7 0 rfl (by decide) cf_7 6 (by decide) _ (gr_7_6 G ad 0) tw_2_134 dX7_saveState_17 ?_
  refine z_getI C S 4 0 rfl (by decide) cf_4 3 (by decide) (gi_4_3 G ad 0) tw_1_225 dX7_saveState_20 ?_
  exact z_iret C S hf dX7_saveState_23
theorem kv_X7_saveState : KV yX7_saveState cX7_saveState 1 (Option.some FieldType.int) 0 := ⟨tw_3_203, tw_3_201, tw_3_202, tw_1_1, by decide, by decide, by decide +kernel⟩
theorem m_X7_saveState (l : Launch) (G : Gx) (ad : Ad) (σ : Sg)  (r : Int32) (σ' : Sg)  (hf : f_X7_saveState σ  = some (r, σ')) (sz : Nat) : z_MI l yX7_saveState cX7_saveState 1 (Option.some FieldType.int) 3 69 0 G ad σ sz [.ref (ad 7 0)] r σ' := by
  refine z_begin (by decide +kernel) (Nat.le_of_ble_eq_true rfl) [(0, .ref (ad 7 0))] rfl (fun p e s m args below meth c ls C hz S hl => ?_)
  subst hz
  exact w_X7_saveState_0 (res := (r, σ')) C σ  _ _ _ S hl  hf

theorem dX7_outputByte_0 : decode cX7_outputByte 0 = .ok (.iload_n 1, 1) := by decide +kernel
theorem dX7_outputByte_1 : decode cX7_outputByte 1 = .ok (.ifCond .lt 11, 3) := by decide +kernel
theorem dX7_outputByte_4 : decode cX7_outputByte 4 = .ok (.iload_n 1, 1) := by decide +kernel
theorem dX7_outputByte_5 : decode cX7_outputByte 5 = .ok (.aload_n 0, 1) := by decide +kernel
theorem dX7_outputByte_6 : decode cX7_outputByte 6 = .ok (.getfield 358, 3) := by decide +kernel
theorem dX7_outputByte_9 : decode cX7_outputByte 9 = .ok (.if_icmp .lt 5, 3) := by decide +kernel
theorem dX7_outputByte_12 : decode cX7_outputByte 12 = .ok (.iconst (-1), 1) := by decide +kernel
theorem dX7_outputByte_13 : decode cX7_outputByte 13 = .ok (.ireturn, 1) := by decide +kernel
theorem dX7_outputByte_14 : decode cX7_outputByte 14 = .ok (.aload_n 0, 1) := by decide +kernel
theorem dX7_outputByte_15 : decode cX7_outputByte 15 = .ok (.getfield 20, 3) := by decide +kernel
theorem dX7_outputByte_18 : decode cX7_outputByte 18 = .ok (.iload_n 1, 1) := by decide +kernel
theorem dX7_outputByte_19 : decode cX7_outputByte 19 = .ok (.iaload, 1) := by decide +kernel
theorem dX7_outputByte_20 : decode cX7_outputByte 20 = .ok (.ireturn, 1) := by decide +kernel
/-! BusLifts.outputByte(I)I -/
noncomputable def f_X7_outputByte_12  (σ : Sg)  : Option (Int32 × Sg) := some ((-1), σ)
noncomputable def f_X7_outputByte  (σ : Sg) (v1 : Int32) : Option (Int32 × Sg) := if v1 < 0 then (f_X7_outputByte_12 σ) else (if v1 < (σ 7 0 5) then (if v1 < 0 ∨ 30 ≤ (v1).toNatClampNeg then none else (some ((σ 11 0 (v1).toNatClampNeg), σ))) else (f_X7_outputByte_12 σ))
set_option maxHeartbeats 4000000 in
set_option maxRecDepth 100000 in
theorem w_X7_outputByte_12 {p : Program} {l : Launch} {e : Env} {s : State} {m : MethodId} {args : Array Value} {below : List Frame} {meth : Method} {c : Code} {G : Gx} {ad : Ad} {res : Int32 × Sg} (C : Cx p s m args meth c yX7_outputByte.cls cX7_outputByte 2 (Option.some FieldType.int) G)  : ∀ (σ : Sg)  (H : Heap) (locs : List Loc) (ls : Array Slot), z_S 0 G ad σ (z_A 0 ad s.heap.size) s.heap H locs → lv_has ls 2 [] → f_X7_outputByte_12  σ  = some res → W p l e { frames := 0, cells := 0, slots := 0, locals := 0 } s m args below meth c H locs 0 0 (MQ below (va_Qi (S := Unit) (fun r1 _ => r1 = res.1) (fun _ t => z_W 0 G ad res.2 t.heap) (z_A 0 ad s.heap.size)) args s 0 0 (z_A 0 ad s.heap.size)) (F0 m 12 ls []) := by
  intro σ  H locs ls S hl  hf
  unfold f_X7_outputByte_12 at hf
  refine lv_iconst (v := (-1)) C.1 C.2.1 dX7_outputByte_12 (by decide) ?_
  exact z_iret C S hf dX7_outputByte_13
set_option maxHeartbeats 4000000 in
set_option maxRecDepth 100000 in
theorem w_X7_outputByte_0 {p : Program} {l : Launch} {e : Env} {s : State} {m : MethodId} {args : Array Value} {below : List Frame} {meth : Method} {c : Code} {G : Gx} {ad : Ad} {res : Int32 × Sg} (C : Cx p s m args meth c yX7_outputByte.cls cX7_outputByte 2 (Option.some FieldType.int) G)  : ∀ (σ : Sg) (v1 : Int32) (H : Heap) (locs : List Loc) (ls : Array Slot), z_S 0 G ad σ (z_A 0 ad s.heap.size) s.heap H locs → lv_has ls 2 [(0, .ref (ad 7 0)), (1, .int v1)] → f_X7_outputByte  σ v1 = some res → W p l e { frames := 0, cells := 0, slots := 0, locals := 0 } s m args below meth c H locs 0 0 (MQ below (va_Qi (S := Unit) (fun r1 _ => r1 = res.1) (fun _ t => z_W 0 G ad res.2 t.heap) (z_A 0 ad s.heap.size)) args s 0 0 (z_A 0 ad s.heap.size)) (F0 m 0 ls []) := by
  intro σ v1 H locs ls S hl  hf
  unfold f_X7_outputByte at hf
  refine lv_iload_n C.1 C.2.1 dX7_outputByte_0 rfl (lv_at hl 1 rfl) ?_
  refine lv_if_lt (tgt := 12) C.1 C.2.1 dX7_outputByte_1 (by decide) (fun c_1 => ?_) (fun c_1 => ?_)
  · rw [if_pos c_1] at hf
    exact w_X7_outputByte_12 C _ _ _ _ S (lv_sub hl [] rfl) hf
  · rw [if_neg c_1] at hf
    refine lv_iload_n C.1 C.2.1 dX7_outputByte_4 rfl (lv_at hl 1 rfl) ?_
    refine lv_aload_n C.1 C.2.1 dX7_outputByte_5 rfl (lv_at hl 0 rfl) ?_
    refine z_getI C S 7 0 rfl (by decide) cf_7 5 (by decide) (gi_7_5 G ad 0) tw_2_133 dX7_outputByte_6 ?_
    refine lv_icmp_lt (tgt := 14) C.1 C.2.1 dX7_outputByte_9 (by decide) (fun c_9 => ?_) (fun c_9 => ?_)
    · rw [if_pos c_9] at hf
      refine lv_aload_n C.1 C.2.1 dX7_outputByte_14 rfl (lv_at hl 0 rfl) ?_
      refine z_getR C S 7 0 rfl (by decide) cf_7 4 (by decide) _ (gr_7_4 G ad 0) tw_2_132 dX7_outputByte_15 ?_
      refine lv_iload_n C.1 C.2.1 dX7_outputByte_18 rfl (lv_at hl 1 rfl) ?_
      obtain ⟨g_19, hf⟩ := gd hf
      refine z_iald C S 11 0 rfl (by decide) 30 (fun _ => rfl) g_19 dX7_outputByte_19 ?_
      exact z_iret C S hf dX7_outputByte_20
    · rw [if_neg c_9] at hf
      exact w_X7_outputByte_12 C _ _ _ _ S (lv_sub hl [] rfl) hf
theorem kv_X7_outputByte : KV yX7_outputByte cX7_outputByte 2 (Option.some FieldType.int) 1 := ⟨tw_3_207, tw_3_205, tw_3_206, tw_1_1, by decide, by decide, by decide +kernel⟩
theorem m_X7_outputByte (l : Launch) (G : Gx) (ad : Ad) (σ : Sg) (v1 : Int32) (r : Int32) (σ' : Sg)  (hf : f_X7_outputByte σ v1 = some (r, σ')) (sz : Nat) : z_MI l yX7_outputByte cX7_outputByte 2 (Option.some FieldType.int) 0 0 0 G ad σ sz [.ref (ad 7 0), .int v1] r σ' := by
  refine z_begin (by decide +kernel) (Nat.le_of_ble_eq_true rfl) [(0, .ref (ad 7 0)), (1, .int v1)] rfl (fun p e s m args below meth c ls C hz S hl => ?_)
  subst hz
  exact w_X7_outputByte_0 (res := (r, σ')) C σ v1 _ _ _ S hl  hf

theorem dX7_sum_0 : decode cX7_sum 0 = .ok (.iconst 0, 1) := by decide +kernel
theorem dX7_sum_1 : decode cX7_sum 1 = .ok (.istore_n 1, 1) := by decide +kernel
theorem dX7_sum_2 : decode cX7_sum 2 = .ok (.iconst 0, 1) := by decide +kernel
theorem dX7_sum_3 : decode cX7_sum 3 = .ok (.istore_n 2, 1) := by decide +kernel
theorem dX7_sum_4 : decode cX7_sum 4 = .ok (.iload_n 2, 1) := by decide +kernel
theorem dX7_sum_5 : decode cX7_sum 5 = .ok (.aload_n 0, 1) := by decide +kernel
theorem dX7_sum_6 : decode cX7_sum 6 = .ok (.arraylength, 1) := by decide +kernel
theorem dX7_sum_7 : decode cX7_sum 7 = .ok (.if_icmp .ge 15, 3) := by decide +kernel
theorem dX7_sum_10 : decode cX7_sum 10 = .ok (.iload_n 1, 1) := by decide +kernel
theorem dX7_sum_11 : decode cX7_sum 11 = .ok (.aload_n 0, 1) := by decide +kernel
theorem dX7_sum_12 : decode cX7_sum 12 = .ok (.iload_n 2, 1) := by decide +kernel
theorem dX7_sum_13 : decode cX7_sum 13 = .ok (.iaload, 1) := by decide +kernel
theorem dX7_sum_14 : decode cX7_sum 14 = .ok (.iadd, 1) := by decide +kernel
theorem dX7_sum_15 : decode cX7_sum 15 = .ok (.istore_n 1, 1) := by decide +kernel
theorem dX7_sum_16 : decode cX7_sum 16 = .ok (.iinc 2 1, 3) := by decide +kernel
theorem dX7_sum_19 : decode cX7_sum 19 = .ok (.goto (-15), 3) := by decide +kernel
theorem dX7_sum_22 : decode cX7_sum 22 = .ok (.iload_n 1, 1) := by decide +kernel
theorem dX7_sum_23 : decode cX7_sum 23 = .ok (.ireturn, 1) := by decide +kernel
/-! BusLifts.sum([I)I -/
noncomputable def f_X7_sum_22  (σ : Sg) (v1 : Int32) : Option (Int32 × Sg) := some (v1, σ)
noncomputable def f_X7_sum_4  : Nat → Sg → Nat → Nat → Nat → Int32 → Int32 → Option (Int32 × Sg)
  | 0, _, _, _, _, _, _ => none
  | n + 1, σ, ka0, oa0, na0, v1, v2 => if (Int32.ofNat na0) ≤ v2 then (f_X7_sum_22 σ v1) else (if v2 < 0 ∨ na0 ≤ (v2).toNatClampNeg then none else (f_X7_sum_4  n σ ka0 oa0 na0 (v1 + (σ ka0 oa0 (v2).toNatClampNeg)) (v2 + 1)))
theorem f_X7_sum_4_s  (n : Nat) (σ : Sg) (ka0 oa0 na0 : Nat) (v1 : Int32) (v2 : Int32) : f_X7_sum_4  (n + 1) σ ka0 oa0 na0 v1 v2 = (if (Int32.ofNat na0) ≤ v2 then (f_X7_sum_22 σ v1) else (if v2 < 0 ∨ na0 ≤ (v2).toNatClampNeg then none else (f_X7_sum_4  n σ ka0 oa0 na0 (v1 + (σ ka0 oa0 (v2).toNatClampNeg)) (v2 + 1)))) := rfl
noncomputable def f_X7_sum  (σ : Sg) (ka0 oa0 na0 : Nat) : Option (Int32 × Sg) := f_X7_sum_4 FU σ ka0 oa0 na0 0 0
set_option maxHeartbeats 4000000 in
set_option maxRecDepth 100000 in
theorem w_X7_sum_22 {p : Program} {l : Launch} {e : Env} {s : State} {m : MethodId} {args : Array Value} {below : List Frame} {meth : Method} {c : Code} {G : Gx} {ad : Ad} {res : Int32 × Sg} (C : Cx p s m args meth c yX7_sum.cls cX7_sum 3 (Option.some FieldType.int) G)  : ∀ (σ : Sg) (v1 : Int32) (H : Heap) (locs : List Loc) (ls : Array Slot), z_S 0 G ad σ (z_A 0 ad s.heap.size) s.heap H locs → lv_has ls 3 [(1, .int v1)] → f_X7_sum_22  σ v1 = some res → W p l e { frames := 0, cells := 0, slots := 0, locals := 0 } s m args below meth c H locs 0 0 (MQ below (va_Qi (S := Unit) (fun r1 _ => r1 = res.1) (fun _ t => z_W 0 G ad res.2 t.heap) (z_A 0 ad s.heap.size)) args s 0 0 (z_A 0 ad s.heap.size)) (F0 m 22 ls []) := by
  intro σ v1 H locs ls S hl  hf
  unfold f_X7_sum_22 at hf
  refine lv_iload_n C.1 C.2.1 dX7_sum_22 rfl (lv_at hl 0 rfl) ?_
  exact z_iret C S hf dX7_sum_23
set_option maxHeartbeats 4000000 in
set_option maxRecDepth 100000 in
theorem w_X7_sum_4 {p : Program} {l : Launch} {e : Env} {s : State} {m : MethodId} {args : Array Value} {below : List Frame} {meth : Method} {c : Code} {G : Gx} {ad : Ad} {res : Int32 × Sg} (C : Cx p s m args meth c yX7_sum.cls cX7_sum 3 (Option.some FieldType.int) G)  : ∀ n : Nat, ∀ (σ : Sg) (ka0 oa0 na0 : Nat) (v1 : Int32) (v2 : Int32) (H : Heap) (locs : List Loc) (ls : Array Slot), z_S 0 G ad σ (z_A 0 ad s.heap.size) s.heap H locs → lv_has ls 3 [(0, .ref (ad ka0 oa0)), (1, .int v1), (2, .int v2)] → (z_side ka0 = 0) → (oa0 < z_cnt ka0) → (∀ (G : Gx) (ad : Ad) (o : Nat) (a : Nat → Int32), z_cel G ad ka0 o a = .inl (G.2.1 0, na0, .inl a)) → f_X7_sum_4  n σ ka0 oa0 na0 v1 v2 = some res → W p l e { frames := 0, cells := 0, slots := 0, locals := 0 } s m args below meth c H locs 0 0 (MQ below (va_Qi (S := Unit) (fun r1 _ => r1 = res.1) (fun _ t => z_W 0 G ad res.2 t.heap) (z_A 0 ad s.heap.size)) args s 0 0 (z_A 0 ad s.heap.size)) (F0 m 4 ls []) := by
  intro n
  induction n with
  | zero => intro σ ka0 oa0 na0 v1 v2 H locs ls S hl hs0 ho0 hc0 hf; cases hf
  | succ n ih =>
    intro σ ka0 oa0 na0 v1 v2 H locs ls S hl hs0 ho0 hc0 hf
    rw [f_X7_sum_4_s] at hf
    refine lv_iload_n C.1 C.2.1 dX7_sum_4 rfl (lv_at hl 2 rfl) ?_
    refine lv_aload_n C.1 C.2.1 dX7_sum_5 rfl (lv_at hl 0 rfl) ?_
    refine z_alen C S ka0 oa0 hs0 ho0 na0 (hc0 _ _ _) (v := (Int32.ofNat na0)) rfl dX7_sum_6 ?_
    refine lv_icmp_ge (tgt := 22) C.1 C.2.1 dX7_sum_7 (by decide) (fun c_7 => ?_) (fun c_7 => ?_)
    · rw [if_pos c_7] at hf
      exact w_X7_sum_22 C _ v1 _ _ _ S (lv_sub hl [1] rfl) hf
    · rw [if_neg c_7] at hf
      refine lv_iload_n C.1 C.2.1 dX7_sum_10 rfl (lv_at hl 1 rfl) ?_
      refine lv_aload_n C.1 C.2.1 dX7_sum_11 rfl (lv_at hl 0 rfl) ?_
      refine lv_iload_n C.1 C.2.1 dX7_sum_12 rfl (lv_at hl 2 rfl) ?_
      obtain ⟨g_13, hf⟩ := gd hf
      refine z_iald C S ka0 oa0 hs0 ho0 na0 (hc0 _ _ _) g_13 dX7_sum_13 ?_
      refine lv_iadd C.1 C.2.1 dX7_sum_14 ?_
      refine lv_istore_n (lv' := [(1, .int (v1 + (σ ka0 oa0 (v2).toNatClampNeg))), (0, .ref (ad ka0 oa0)), (2, .int v2)]) C.1 C.2.1 dX7_sum_15 rfl hl (by decide) rfl (fun ls hl => ?_)
      refine lv_iinc (v := (v2 + 1)) (lv' := [(2, .int (v2 + 1)), (1, .int (v1 + (σ ka0 oa0 (v2).toNatClampNeg))), (0, .ref (ad ka0 oa0))]) C.1 C.2.1 dX7_sum_16 hl (k := 2) rfl rfl (by decide) rfl (fun ls hl => ?_)
      refine lv_goto (tgt := 4) C.1 C.2.1 dX7_sum_19 (by decide) ?_
      exact ih _ ka0 oa0 na0 (v1 + (σ ka0 oa0 (v2).toNatClampNeg)) (v2 + 1) _ _ _ S (lv_sub hl [2, 1, 0] rfl) hs0 ho0 hc0 hf
set_option maxHeartbeats 4000000 in
set_option maxRecDepth 100000 in
theorem w_X7_sum_0 {p : Program} {l : Launch} {e : Env} {s : State} {m : MethodId} {args : Array Value} {below : List Frame} {meth : Method} {c : Code} {G : Gx} {ad : Ad} {res : Int32 × Sg} (C : Cx p s m args meth c yX7_sum.cls cX7_sum 3 (Option.some FieldType.int) G)  : ∀ (σ : Sg) (ka0 oa0 na0 : Nat) (H : Heap) (locs : List Loc) (ls : Array Slot), z_S 0 G ad σ (z_A 0 ad s.heap.size) s.heap H locs → lv_has ls 3 [(0, .ref (ad ka0 oa0))] → (z_side ka0 = 0) → (oa0 < z_cnt ka0) → (∀ (G : Gx) (ad : Ad) (o : Nat) (a : Nat → Int32), z_cel G ad ka0 o a = .inl (G.2.1 0, na0, .inl a)) → f_X7_sum  σ ka0 oa0 na0 = some res → W p l e { frames := 0, cells := 0, slots := 0, locals := 0 } s m args below meth c H locs 0 0 (MQ below (va_Qi (S := Unit) (fun r1 _ => r1 = res.1) (fun _ t => z_W 0 G ad res.2 t.heap) (z_A 0 ad s.heap.size)) args s 0 0 (z_A 0 ad s.heap.size)) (F0 m 0 ls []) := by
  intro σ ka0 oa0 na0 H locs ls S hl hs0 ho0 hc0 hf
  unfold f_X7_sum at hf
  refine lv_iconst (v := 0) C.1 C.2.1 dX7_sum_0 (by decide) ?_
  refine lv_istore_n (lv' := [(1, .int 0), (0, .ref (ad ka0 oa0))]) C.1 C.2.1 dX7_sum_1 rfl hl (by decide) rfl (fun ls hl => ?_)
  refine lv_iconst (v := 0) C.1 C.2.1 dX7_sum_2 (by decide) ?_
  refine lv_istore_n (lv' := [(2, .int 0), (1, .int 0), (0, .ref (ad ka0 oa0))]) C.1 C.2.1 dX7_sum_3 rfl hl (by decide) rfl (fun ls hl => ?_)
  exact w_X7_sum_4 C FU _ ka0 oa0 na0 0 0 _ _ _ S (lv_sub hl [2, 1, 0] rfl) hs0 ho0 hc0 hf
theorem kv_X7_sum : KS yX7_sum cX7_sum 3 (Option.some FieldType.int) 1 := ⟨tw_4_209, tw_4_208, tw_1_1, by decide, by decide, by decide +kernel⟩
theorem m_X7_sum (l : Launch) (G : Gx) (ad : Ad) (σ : Sg) (ka0 oa0 na0 : Nat) (r : Int32) (σ' : Sg) (hs0 : z_side ka0 = 0) (ho0 : oa0 < z_cnt ka0) (hc0 : ∀ (G : Gx) (ad : Ad) (o : Nat) (a : Nat → Int32), z_cel G ad ka0 o a = .inl (G.2.1 0, na0, .inl a)) (hf : f_X7_sum σ ka0 oa0 na0 = some (r, σ')) (sz : Nat) : z_MI l yX7_sum cX7_sum 3 (Option.some FieldType.int) 0 0 0 G ad σ sz [.ref (ad ka0 oa0)] r σ' := by
  refine z_begin (by decide +kernel) (Nat.le_of_ble_eq_true rfl) [(0, .ref (ad ka0 oa0))] rfl (fun p e s m args below meth c ls C hz S hl => ?_)
  subst hz
  exact w_X7_sum_0 (res := (r, σ')) C σ ka0 oa0 na0 _ _ _ S hl hs0 ho0 hc0 hf

theorem dX7_ticksUntilAboard_0 : decode cX7_ticksUntilAboard 0 = .ok (.iconst 0, 1) := by decide +kernel
theorem dX7_ticksUntilAboard_1 : decode cX7_ticksUntilAboard 1 = .ok (.istore_n 3, 1) := by decide +kernel
theorem dX7_ticksUntilAboard_2 : decode cX7_ticksUntilAboard 2 = .ok (.iload_n 3, 1) := by decide +kernel
theorem dX7_ticksUntilAboard_3 : decode cX7_ticksUntilAboard 3 = .ok (.iload_n 2, 1) := by decide +kernel
theorem dX7_ticksUntilAboard_4 : decode cX7_ticksUntilAboard 4 = .ok (.if_icmp .ge 38, 3) := by decide +kernel
theorem dX7_ticksUntilAboard_7 : decode cX7_ticksUntilAboard 7 = .ok (.aload_n 0, 1) := by decide +kernel
theorem dX7_ticksUntilAboard_8 : decode cX7_ticksUntilAboard 8 = .ok (.getfield 30, 3) := by decide +kernel
theorem dX7_ticksUntilAboard_11 : decode cX7_ticksUntilAboard 11 = .ok (.getfield 191, 3) := by decide +kernel
theorem dX7_ticksUntilAboard_14 : decode cX7_ticksUntilAboard 14 = .ok (.iload_n 1, 1) := by decide +kernel
theorem dX7_ticksUntilAboard_15 : decode cX7_ticksUntilAboard 15 = .ok (.aaload, 1) := by decide +kernel
theorem dX7_ticksUntilAboard_16 : decode cX7_ticksUntilAboard 16 = .ok (.getfield 206, 3) := by decide +kernel
theorem dX7_ticksUntilAboard_19 : decode cX7_ticksUntilAboard 19 = .ok (.iconst 2, 1) := by decide +kernel
theorem dX7_ticksUntilAboard_20 : decode cX7_ticksUntilAboard 20 = .ok (.if_icmp .lt 5, 3) := by decide +kernel
theorem dX7_ticksUntilAboard_23 : decode cX7_ticksUntilAboard 23 = .ok (.iload_n 3, 1) := by decide +kernel
theorem dX7_ticksUntilAboard_24 : decode cX7_ticksUntilAboard 24 = .ok (.ireturn, 1) := by decide +kernel
theorem dX7_ticksUntilAboard_25 : decode cX7_ticksUntilAboard 25 = .ok (.aload_n 0, 1) := by decide +kernel
theorem dX7_ticksUntilAboard_26 : decode cX7_ticksUntilAboard 26 = .ok (.getfield 46, 3) := by decide +kernel
theorem dX7_ticksUntilAboard_29 : decode cX7_ticksUntilAboard 29 = .ok (.aload_n 0, 1) := by decide +kernel
theorem dX7_ticksUntilAboard_30 : decode cX7_ticksUntilAboard 30 = .ok (.getfield 30, 3) := by decide +kernel
theorem dX7_ticksUntilAboard_33 : decode cX7_ticksUntilAboard 33 = .ok (.invokevirtual 341, 3) := by decide +kernel
theorem dX7_ticksUntilAboard_36 : decode cX7_ticksUntilAboard 36 = .ok (.iinc 3 1, 3) := by decide +kernel
theorem dX7_ticksUntilAboard_39 : decode cX7_ticksUntilAboard 39 = .ok (.goto (-37), 3) := by decide +kernel
theorem dX7_ticksUntilAboard_42 : decode cX7_ticksUntilAboard 42 = .ok (.aload_n 0, 1) := by decide +kernel
theorem dX7_ticksUntilAboard_43 : decode cX7_ticksUntilAboard 43 = .ok (.getfield 30, 3) := by decide +kernel
theorem dX7_ticksUntilAboard_46 : decode cX7_ticksUntilAboard 46 = .ok (.getfield 191, 3) := by decide +kernel
theorem dX7_ticksUntilAboard_49 : decode cX7_ticksUntilAboard 49 = .ok (.iload_n 1, 1) := by decide +kernel
theorem dX7_ticksUntilAboard_50 : decode cX7_ticksUntilAboard 50 = .ok (.aaload, 1) := by decide +kernel
theorem dX7_ticksUntilAboard_51 : decode cX7_ticksUntilAboard 51 = .ok (.getfield 206, 3) := by decide +kernel
theorem dX7_ticksUntilAboard_54 : decode cX7_ticksUntilAboard 54 = .ok (.iconst 2, 1) := by decide +kernel
theorem dX7_ticksUntilAboard_55 : decode cX7_ticksUntilAboard 55 = .ok (.if_icmp .lt 7, 3) := by decide +kernel
theorem dX7_ticksUntilAboard_58 : decode cX7_ticksUntilAboard 58 = .ok (.iload_n 2, 1) := by decide +kernel
theorem dX7_ticksUntilAboard_59 : decode cX7_ticksUntilAboard 59 = .ok (.goto 4, 3) := by decide +kernel
theorem dX7_ticksUntilAboard_62 : decode cX7_ticksUntilAboard 62 = .ok (.iconst (-1), 1) := by decide +kernel
theorem dX7_ticksUntilAboard_63 : decode cX7_ticksUntilAboard 63 = .ok (.ireturn, 1) := by decide +kernel
/-! BusLifts.ticksUntilAboard(II)I -/
noncomputable def f_X7_ticksUntilAboard_63  (σ : Sg) (v100 : Int32) : Option (Int32 × Sg) := some (v100, σ)
noncomputable def f_X7_ticksUntilAboard_42  (σ : Sg) (v1 : Int32) (v2 : Int32) : Option (Int32 × Sg) := if v1 < 0 ∨ 24 ≤ (v1).toNatClampNeg then none else (if (σ 1 (24 * 1 + (v1).toNatClampNeg) 3) < 2 then (f_X7_ticksUntilAboard_63 σ (-1)) else (f_X7_ticksUntilAboard_63 σ v2))
noncomputable def f_X7_ticksUntilAboard_23  (σ : Sg) (v3 : Int32) : Option (Int32 × Sg) := some (v3, σ)
noncomputable def f_X7_ticksUntilAboard_2  : Nat → Sg → Int32 → Int32 → Int32 → Option (Int32 × Sg)
  | 0, _, _, _, _ => none
  | n + 1, σ, v1, v2, v3 => if v2 ≤ v3 then (f_X7_ticksUntilAboard_42 σ v1 v2) else (if v1 < 0 ∨ 24 ≤ (v1).toNatClampNeg then none else (if (σ 1 (24 * 1 + (v1).toNatClampNeg) 3) < 2 then (bv (f_X0_tick σ 1) fun σ1 => (f_X7_ticksUntilAboard_2  n σ1 v1 v2 (v3 + 1))) else (f_X7_ticksUntilAboard_23 σ v3)))
theorem f_X7_ticksUntilAboard_2_s  (n : Nat) (σ : Sg) (v1 : Int32) (v2 : Int32) (v3 : Int32) : f_X7_ticksUntilAboard_2  (n + 1) σ v1 v2 v3 = (if v2 ≤ v3 then (f_X7_ticksUntilAboard_42 σ v1 v2) else (if v1 < 0 ∨ 24 ≤ (v1).toNatClampNeg then none else (if (σ 1 (24 * 1 + (v1).toNatClampNeg) 3) < 2 then (bv (f_X0_tick σ 1) fun σ1 => (f_X7_ticksUntilAboard_2  n σ1 v1 v2 (v3 + 1))) else (f_X7_ticksUntilAboard_23 σ v3)))) := rfl
noncomputable def f_X7_ticksUntilAboard  (σ : Sg) (v1 : Int32) (v2 : Int32) : Option (Int32 × Sg) := f_X7_ticksUntilAboard_2 FU σ v1 v2 0
set_option maxHeartbeats 4000000 in
set_option maxRecDepth 100000 in
theorem w_X7_ticksUntilAboard_63 {p : Program} {l : Launch} {e : Env} {s : State} {m : MethodId} {args : Array Value} {below : List Frame} {meth : Method} {c : Code} {G : Gx} {ad : Ad} {res : Int32 × Sg} (C : Cx p s m args meth c yX7_ticksUntilAboard.cls cX7_ticksUntilAboard 4 (Option.some FieldType.int) G)  : ∀ (σ : Sg) (v100 : Int32) (H : Heap) (locs : List Loc) (ls : Array Slot), z_S 0 G ad σ (z_A 0 ad s.heap.size) s.heap H locs → lv_has ls 4 [] → f_X7_ticksUntilAboard_63  σ v100 = some res → W p l e { frames := 6, cells := 0, slots := 0, locals := 143 } s m args below meth c H locs 0 0 (MQ below (va_Qi (S := Unit) (fun r1 _ => r1 = res.1) (fun _ t => z_W 0 G ad res.2 t.heap) (z_A 0 ad s.heap.size)) args s 0 0 (z_A 0 ad s.heap.size)) (F0 m 63 ls [.int v100]) := by
  intro σ v100 H locs ls S hl  hf
  unfold f_X7_ticksUntilAboard_63 at hf
  exact z_iret C S hf dX7_ticksUntilAboard_63
set_option maxHeartbeats 4000000 in
set_option maxRecDepth 100000 in
theorem w_X7_ticksUntilAboard_42 {p : Program} {l : Launch} {e : Env} {s : State} {m : MethodId} {args : Array Value} {below : List Frame} {meth : Method} {c : Code} {G : Gx} {ad : Ad} {res : Int32 × Sg} (C : Cx p s m args meth c yX7_ticksUntilAboard.cls cX7_ticksUntilAboard 4 (Option.some FieldType.int) G)  : ∀ (σ : Sg) (v1 : Int32) (v2 : Int32) (H : Heap) (locs : List Loc) (ls : Array Slot), z_S 0 G ad σ (z_A 0 ad s.heap.size) s.heap H locs → lv_has ls 4 [(0, .ref (ad 7 0)), (1, .int v1), (2, .int v2)] → f_X7_ticksUntilAboard_42  σ v1 v2 = some res → W p l e { frames := 6, cells := 0, slots := 0, locals := 143 } s m args below meth c H locs 0 0 (MQ below (va_Qi (S := Unit) (fun r1 _ => r1 = res.1) (fun _ t => z_W 0 G ad res.2 t.heap) (z_A 0 ad s.heap.size)) args s 0 0 (z_A 0 ad s.heap.size)) (F0 m 42 ls []) := by
  intro σ v1 v2 H locs ls S hl  hf
  unfold f_X7_ticksUntilAboard_42 at hf
  refine lv_aload_n C.1 C.2.1 dX7_ticksUntilAboard_42 rfl (lv_at hl 0 rfl) ?_
  refine z_getR C S 7 0 rfl (by decide) cf_7 7 (by decide) _ (gr_7_7 G ad 0) tw_2_135 dX7_ticksUntilAboard_43 ?_
  refine z_getR C S 4 1 rfl (by decide) cf_4 7 (by decide) _ (gr_4_7 G ad 1) tw_1_238 dX7_ticksUntilAboard_46 ?_
  refine lv_iload_n C.1 C.2.1 dX7_ticksUntilAboard_49 rfl (lv_at hl 1 rfl) ?_
  obtain ⟨g_50, hf⟩ := gd hf
  refine z_aald C S 26 1 rfl (by decide) 24 2 1 (24 * 1) rfl (fun _ => rfl) g_50 dX7_ticksUntilAboard_50 ?_
  refine z_getI C S 1 (24 * 1 + (v1).toNatClampNeg) rfl (oc1 (by decide) g_50) cf_1 3 (by decide) (gi_1_3 G ad (24 * 1 + (v1).toNatClampNeg)) tw_1_166 dX7_ticksUntilAboard_51 ?_
  refine lv_iconst (v := 2) C.1 C.2.1 dX7_ticksUntilAboard_54 (by decide) ?_
  refine lv_icmp_lt (tgt := 62) C.1 C.2.1 dX7_ticksUntilAboard_55 (by decide) (fun c_55 => ?_) (fun c_55 => ?_)
  · rw [if_pos c_55] at hf
    refine lv_iconst (v := (-1)) C.1 C.2.1 dX7_ticksUntilAboard_62 (by decide) ?_
    exact w_X7_ticksUntilAboard_63 C _ (-1) _ _ _ S (lv_sub hl [] rfl) hf
  · rw [if_neg c_55] at hf
    refine lv_iload_n C.1 C.2.1 dX7_ticksUntilAboard_58 rfl (lv_at hl 2 rfl) ?_
    refine lv_goto (tgt := 63) C.1 C.2.1 dX7_ticksUntilAboard_59 (by decide) ?_
    exact w_X7_ticksUntilAboard_63 C _ v2 _ _ _ S (lv_sub hl [] rfl) hf
set_option maxHeartbeats 4000000 in
set_option maxRecDepth 100000 in
theorem w_X7_ticksUntilAboard_23 {p : Program} {l : Launch} {e : Env} {s : State} {m : MethodId} {args : Array Value} {below : List Frame} {meth : Method} {c : Code} {G : Gx} {ad : Ad} {res : Int32 × Sg} (C : Cx p s m args meth c yX7_ticksUntilAboard.cls cX7_ticksUntilAboard 4 (Option.some FieldType.int) G)  : ∀ (σ : Sg) (v3 : Int32) (H : Heap) (locs : List Loc) (ls : Array Slot), z_S 0 G ad σ (z_A 0 ad s.heap.size) s.heap H locs → lv_has ls 4 [(3, .int v3)] → f_X7_ticksUntilAboard_23  σ v3 = some res → W p l e { frames := 6, cells := 0, slots := 0, locals := 143 } s m args below meth c H locs 0 0 (MQ below (va_Qi (S := Unit) (fun r1 _ => r1 = res.1) (fun _ t => z_W 0 G ad res.2 t.heap) (z_A 0 ad s.heap.size)) args s 0 0 (z_A 0 ad s.heap.size)) (F0 m 23 ls []) := by
  intro σ v3 H locs ls S hl  hf
  unfold f_X7_ticksUntilAboard_23 at hf
  refine lv_iload_n C.1 C.2.1 dX7_ticksUntilAboard_23 rfl (lv_at hl 0 rfl) ?_
  exact z_iret C S hf dX7_ticksUntilAboard_24
set_option maxHeartbeats 4000000 in
set_option maxRecDepth 100000 in
theorem w_X7_ticksUntilAboard_2 {p : Program} {l : Launch} {e : Env} {s : State} {m : MethodId} {args : Array Value} {below : List Frame} {meth : Method} {c : Code} {G : Gx} {ad : Ad} {res : Int32 × Sg} (C : Cx p s m args meth c yX7_ticksUntilAboard.cls cX7_ticksUntilAboard 4 (Option.some FieldType.int) G)  : ∀ n : Nat, ∀ (σ : Sg) (v1 : Int32) (v2 : Int32) (v3 : Int32) (H : Heap) (locs : List Loc) (ls : Array Slot), z_S 0 G ad σ (z_A 0 ad s.heap.size) s.heap H locs → lv_has ls 4 [(0, .ref (ad 7 0)), (1, .int v1), (2, .int v2), (3, .int v3)] → f_X7_ticksUntilAboard_2  n σ v1 v2 v3 = some res → W p l e { frames := 6, cells := 0, slots := 0, locals := 143 } s m args below meth c H locs 0 0 (MQ below (va_Qi (S := Unit) (fun r1 _ => r1 = res.1) (fun _ t => z_W 0 G ad res.2 t.heap) (z_A 0 ad s.heap.size)) args s 0 0 (z_A 0 ad s.heap.size)) (F0 m 2 ls []) := by
  intro n
  induction n with
  | zero => intro σ v1 v2 v3 H locs ls S hl  hf; cases hf
  | succ n ih =>
    intro σ v1 v2 v3 H locs ls S hl  hf
    rw [f_X7_ticksUntilAboard_2_s] at hf
    refine lv_iload_n C.1 C.2.1 dX7_ticksUntilAboard_2 rfl (lv_at hl 3 rfl) ?_
    refine lv_iload_n C.1 C.2.1 dX7_ticksUntilAboard_3 rfl (lv_at hl 2 rfl) ?_
    refine lv_icmp_ge (tgt := 42) C.1 C.2.1 dX7_ticksUntilAboard_4 (by decide) (fun c_4 => ?_) (fun c_4 => ?_)
    · rw [if_pos c_4] at hf
      exact w_X7_ticksUntilAboard_42 C _ v1 v2 _ _ _ S (lv_sub hl [0, 1, 2] rfl) hf
    · rw [if_neg c_4] at hf
      refine lv_aload_n C.1 C.2.1 dX7_ticksUntilAboard_7 rfl (lv_at hl 0 rfl) ?_
      refine z_getR C S 7 0 rfl (by decide) cf_7 7 (by decide) _ (gr_7_7 G ad 0) tw_2_135 dX7_ticksUntilAboard_8 ?_
      refine z_getR C S 4 1 rfl (by decide) cf_4 7 (by decide) _ (gr_4_7 G ad 1) tw_1_238 dX7_ticksUntilAboard_11 ?_
      refine lv_iload_n C.1 C.2.1 dX7_ticksUntilAboard_14 rfl (lv_at hl 1 rfl) ?_
      obtain ⟨g_15, hf⟩ := gd hf
      refine z_aald C S 26 1 rfl (by decide) 24 2 1 (24 * 1) rfl (fun _ => rfl) g_15 dX7_ticksUntilAboard_15 ?_
      refine z_getI C S 1 (24 * 1 + (v1).toNatClampNeg) rfl (oc1 (by decide) g_15) cf_1 3 (by decide) (gi_1_3 G ad (24 * 1 + (v1).toNatClampNeg)) tw_1_166 dX7_ticksUntilAboard_16 ?_
      refine lv_iconst (v := 2) C.1 C.2.1 dX7_ticksUntilAboard_19 (by decide) ?_
      refine lv_icmp_lt (tgt := 25) C.1 C.2.1 dX7_ticksUntilAboard_20 (by decide) (fun c_20 => ?_) (fun c_20 => ?_)
      · rw [if_pos c_20] at hf
        refine lv_aload_n C.1 C.2.1 dX7_ticksUntilAboard_25 rfl (lv_at hl 0 rfl) ?_
        refine z_getR C S 7 0 rfl (by decide) cf_7 11 (by decide) _ (gr_7_11 G ad 0) tw_2_139 dX7_ticksUntilAboard_26 ?_
        refine lv_aload_n C.1 C.2.1 dX7_ticksUntilAboard_29 rfl (lv_at hl 0 rfl) ?_
        refine z_getR C S 7 0 rfl (by decide) cf_7 7 (by decide) _ (gr_7_7 G ad 0) tw_2_135 dX7_ticksUntilAboard_30 ?_
        obtain ⟨σ1, q_33, hf⟩ := bvb hf
        refine z_callV C S 0 0 rfl (by decide) cf_0 ⟨_, rfl⟩ [.ref (ad 4 1)] (m_X0_tick l G ad σ 1 σ1 (by decide) q_33 _) kv_X0_tick tw_6_34 ⟨Nat.le_of_ble_eq_true rfl, Nat.le_of_ble_eq_true rfl⟩ rfl rfl (Nat.le_of_ble_eq_true rfl) hl.1 ⟨Nat.le_refl _, Nat.le_refl _⟩ dX7_ticksUntilAboard_33 (fun H locs S => ?_)
        refine lv_iinc (v := (v3 + 1)) (lv' := [(3, .int (v3 + 1)), (0, .ref (ad 7 0)), (1, .int v1), (2, .int v2)]) C.1 C.2.1 dX7_ticksUntilAboard_36 hl (k := 3) rfl rfl (by decide) rfl (fun ls hl => ?_)
        refine lv_goto (tgt := 2) C.1 C.2.1 dX7_ticksUntilAboard_39 (by decide) ?_
        exact ih _ v1 v2 (v3 + 1) _ _ _ S (lv_sub hl [1, 2, 3, 0] rfl)  hf
      · rw [if_neg c_20] at hf
        exact w_X7_ticksUntilAboard_23 C _ v3 _ _ _ S (lv_sub hl [3] rfl) hf
set_option maxHeartbeats 4000000 in
set_option maxRecDepth 100000 in
theorem w_X7_ticksUntilAboard_0 {p : Program} {l : Launch} {e : Env} {s : State} {m : MethodId} {args : Array Value} {below : List Frame} {meth : Method} {c : Code} {G : Gx} {ad : Ad} {res : Int32 × Sg} (C : Cx p s m args meth c yX7_ticksUntilAboard.cls cX7_ticksUntilAboard 4 (Option.some FieldType.int) G)  : ∀ (σ : Sg) (v1 : Int32) (v2 : Int32) (H : Heap) (locs : List Loc) (ls : Array Slot), z_S 0 G ad σ (z_A 0 ad s.heap.size) s.heap H locs → lv_has ls 4 [(0, .ref (ad 7 0)), (1, .int v1), (2, .int v2)] → f_X7_ticksUntilAboard  σ v1 v2 = some res → W p l e { frames := 6, cells := 0, slots := 0, locals := 143 } s m args below meth c H locs 0 0 (MQ below (va_Qi (S := Unit) (fun r1 _ => r1 = res.1) (fun _ t => z_W 0 G ad res.2 t.heap) (z_A 0 ad s.heap.size)) args s 0 0 (z_A 0 ad s.heap.size)) (F0 m 0 ls []) := by
  intro σ v1 v2 H locs ls S hl  hf
  unfold f_X7_ticksUntilAboard at hf
  refine lv_iconst (v := 0) C.1 C.2.1 dX7_ticksUntilAboard_0 (by decide) ?_
  refine lv_istore_n (lv' := [(3, .int 0), (0, .ref (ad 7 0)), (1, .int v1), (2, .int v2)]) C.1 C.2.1 dX7_ticksUntilAboard_1 rfl hl (by decide) rfl (fun ls hl => ?_)
  exact w_X7_ticksUntilAboard_2 C FU _ v1 v2 0 _ _ _ S (lv_sub hl [1, 2, 3, 0] rfl) hf
theorem kv_X7_ticksUntilAboard : KV yX7_ticksUntilAboard cX7_ticksUntilAboard 4 (Option.some FieldType.int) 2 := ⟨tw_6_33, tw_6_32, tw_p_38, tw_1_1, by decide, by decide, by decide +kernel⟩
theorem m_X7_ticksUntilAboard (l : Launch) (G : Gx) (ad : Ad) (σ : Sg) (v1 : Int32) (v2 : Int32) (r : Int32) (σ' : Sg)  (hf : f_X7_ticksUntilAboard σ v1 v2 = some (r, σ')) (sz : Nat) : z_MI l yX7_ticksUntilAboard cX7_ticksUntilAboard 4 (Option.some FieldType.int) 6 143 0 G ad σ sz [.ref (ad 7 0), .int v1, .int v2] r σ' := by
  refine z_begin (by decide +kernel) (Nat.le_of_ble_eq_true rfl) [(0, .ref (ad 7 0)), (1, .int v1), (2, .int v2)] rfl (fun p e s m args below meth c ls C hz S hl => ?_)
  subst hz
  exact w_X7_ticksUntilAboard_0 (res := (r, σ')) C σ v1 v2 _ _ _ S hl  hf

theorem dX7_ticksUntilDone_0 : decode cX7_ticksUntilDone 0 = .ok (.iconst 0, 1) := by decide +kernel
theorem dX7_ticksUntilDone_1 : decode cX7_ticksUntilDone 1 = .ok (.istore_n 2, 1) := by decide +kernel
theorem dX7_ticksUntilDone_2 : decode cX7_ticksUntilDone 2 = .ok (.iload_n 2, 1) := by decide +kernel
theorem dX7_ticksUntilDone_3 : decode cX7_ticksUntilDone 3 = .ok (.iload_n 1, 1) := by decide +kernel
theorem dX7_ticksUntilDone_4 : decode cX7_ticksUntilDone 4 = .ok (.if_icmp .ge 32, 3) := by decide +kernel
theorem dX7_ticksUntilDone_7 : decode cX7_ticksUntilDone 7 = .ok (.aload_n 0, 1) := by decide +kernel
theorem dX7_ticksUntilDone_8 : decode cX7_ticksUntilDone 8 = .ok (.getfield 30, 3) := by decide +kernel
theorem dX7_ticksUntilDone_11 : decode cX7_ticksUntilDone 11 = .ok (.invokevirtual 347, 3) := by decide +kernel
theorem dX7_ticksUntilDone_14 : decode cX7_ticksUntilDone 14 = .ok (.ifCond .eq 5, 3) := by decide +kernel
theorem dX7_ticksUntilDone_17 : decode cX7_ticksUntilDone 17 = .ok (.iload_n 2, 1) := by decide +kernel
theorem dX7_ticksUntilDone_18 : decode cX7_ticksUntilDone 18 = .ok (.ireturn, 1) := by decide +kernel
theorem dX7_ticksUntilDone_19 : decode cX7_ticksUntilDone 19 = .ok (.aload_n 0, 1) := by decide +kernel
theorem dX7_ticksUntilDone_20 : decode cX7_ticksUntilDone 20 = .ok (.getfield 46, 3) := by decide +kernel
theorem dX7_ticksUntilDone_23 : decode cX7_ticksUntilDone 23 = .ok (.aload_n 0, 1) := by decide +kernel
theorem dX7_ticksUntilDone_24 : decode cX7_ticksUntilDone 24 = .ok (.getfield 30, 3) := by decide +kernel
theorem dX7_ticksUntilDone_27 : decode cX7_ticksUntilDone 27 = .ok (.invokevirtual 341, 3) := by decide +kernel
theorem dX7_ticksUntilDone_30 : decode cX7_ticksUntilDone 30 = .ok (.iinc 2 1, 3) := by decide +kernel
theorem dX7_ticksUntilDone_33 : decode cX7_ticksUntilDone 33 = .ok (.goto (-31), 3) := by decide +kernel
theorem dX7_ticksUntilDone_36 : decode cX7_ticksUntilDone 36 = .ok (.aload_n 0, 1) := by decide +kernel
theorem dX7_ticksUntilDone_37 : decode cX7_ticksUntilDone 37 = .ok (.getfield 30, 3) := by decide +kernel
theorem dX7_ticksUntilDone_40 : decode cX7_ticksUntilDone 40 = .ok (.invokevirtual 347, 3) := by decide +kernel
theorem dX7_ticksUntilDone_43 : decode cX7_ticksUntilDone 43 = .ok (.ifCond .eq 7, 3) := by decide +kernel
theorem dX7_ticksUntilDone_46 : decode cX7_ticksUntilDone 46 = .ok (.iload_n 1, 1) := by decide +kernel
theorem dX7_ticksUntilDone_47 : decode cX7_ticksUntilDone 47 = .ok (.goto 4, 3) := by decide +kernel
theorem dX7_ticksUntilDone_50 : decode cX7_ticksUntilDone 50 = .ok (.iconst (-1), 1) := by decide +kernel
theorem dX7_ticksUntilDone_51 : decode cX7_ticksUntilDone 51 = .ok (.ireturn, 1) := by decide +kernel
/-! BusLifts.ticksUntilDone(I)I -/
noncomputable def f_X7_ticksUntilDone_51  (σ : Sg) (v100 : Int32) : Option (Int32 × Sg) := some (v100, σ)
noncomputable def f_X7_ticksUntilDone_36  (σ : Sg) (v1 : Int32) : Option (Int32 × Sg) := bi (f_X4_isAllDone σ 1) fun r2 σ1 => (if r2 = 0 then (f_X7_ticksUntilDone_51 σ1 (-1)) else (f_X7_ticksUntilDone_51 σ1 v1))
noncomputable def f_X7_ticksUntilDone_17  (σ : Sg) (v2 : Int32) : Option (Int32 × Sg) := some (v2, σ)
noncomputable def f_X7_ticksUntilDone_2  : Nat → Sg → Int32 → Int32 → Option (Int32 × Sg)
  | 0, _, _, _ => none
  | n + 1, σ, v1, v2 => if v1 ≤ v2 then (f_X7_ticksUntilDone_36 σ v1) else (bi (f_X4_isAllDone σ 1) fun r2 σ1 => (if r2 = 0 then (bv (f_X0_tick σ1 1) fun σ3 => (f_X7_ticksUntilDone_2  n σ3 v1 (v2 + 1))) else (f_X7_ticksUntilDone_17 σ1 v2)))
theorem f_X7_ticksUntilDone_2_s  (n : Nat) (σ : Sg) (v1 : Int32) (v2 : Int32) : f_X7_ticksUntilDone_2  (n + 1) σ v1 v2 = (if v1 ≤ v2 then (f_X7_ticksUntilDone_36 σ v1) else (bi (f_X4_isAllDone σ 1) fun r2 σ1 => (if r2 = 0 then (bv (f_X0_tick σ1 1) fun σ3 => (f_X7_ticksUntilDone_2  n σ3 v1 (v2 + 1))) else (f_X7_ticksUntilDone_17 σ1 v2)))) := rfl
noncomputable def f_X7_ticksUntilDone  (σ : Sg) (v1 : Int32) : Option (Int32 × Sg) := f_X7_ticksUntilDone_2 FU σ v1 0
set_option maxHeartbeats 4000000 in
set_option maxRecDepth 100000 in
theorem w_X7_ticksUntilDone_51 {p : Program} {l : Launch} {e : Env} {s : State} {m : MethodId} {args : Array Value} {below : List Frame} {meth : Method} {c : Code} {G : Gx} {ad : Ad} {res : Int32 × Sg} (C : Cx p s m args meth c yX7_ticksUntilDone.cls cX7_ticksUntilDone 3 (Option.some FieldType.int) G)  : ∀ (σ : Sg) (v100 : Int32) (H : Heap) (locs : List Loc) (ls : Array Slot), z_S 0 G ad σ (z_A 0 ad s.heap.size) s.heap H locs → lv_has ls 3 [] → f_X7_ticksUntilDone_51  σ v100 = some res → W p l e { frames := 6, cells := 0, slots := 0, locals := 143 } s m args below meth c H locs 0 0 (MQ below (va_Qi (S := Unit) (fun r1 _ => r1 = res.1) (fun _ t => z_W 0 G ad res.2 t.heap) (z_A 0 ad s.heap.size)) args s 0 0 (z_A 0 ad s.heap.size)) (F0 m 51 ls [.int v100]) := by
  intro σ v100 H locs ls S hl  hf
  unfold f_X7_ticksUntilDone_51 at hf
  exact z_iret C S hf dX7_ticksUntilDone_51
set_option maxHeartbeats 4000000 in
set_option maxRecDepth 100000 in
theorem w_X7_ticksUntilDone_36 {p : Program} {l : Launch} {e : Env} {s : State} {m : MethodId} {args : Array Value} {below : List Frame} {meth : Method} {c : Code} {G : Gx} {ad : Ad} {res : Int32 × Sg} (C : Cx p s m args meth c yX7_ticksUntilDone.cls cX7_ticksUntilDone 3 (Option.some FieldType.int) G)  : ∀ (σ : Sg) (v1 : Int32) (H : Heap) (locs : List Loc) (ls : Array Slot), z_S 0 G ad σ (z_A 0 ad s.heap.size) s.heap H locs → lv_has ls 3 [(0, .ref (ad 7 0)), (1, .int v1)] → f_X7_ticksUntilDone_36  σ v1 = some res → W p l e { frames := 6, cells := 0, slots := 0, locals := 143 } s m args below meth c H locs 0 0 (MQ below (va_Qi (S := Unit) (fun r1 _ => r1 = res.1) (fun _ t => z_W 0 G ad res.2 t.heap) (z_A 0 ad s.heap.size)) args s 0 0 (z_A 0 ad s.heap.size)) (F0 m 36 ls []) := by
  intro σ v1 H locs ls S hl  hf
  unfold f_X7_ticksUntilDone_36 at hf
  refine lv_aload_n C.1 C.2.1 dX7_ticksUntilDone_36 rfl (lv_at hl 0 rfl) ?_
  refine z_getR C S 7 0 rfl (by decide) cf_7 7 (by decide) _ (gr_7_7 G ad 0) tw_2_135 dX7_ticksUntilDone_37 ?_
  obtain ⟨r2, σ1, q_40, hf⟩ := bib hf
  refine z_callI C S 4 1 rfl (by decide) cf_4 ⟨_, rfl⟩ [] (m_X4_isAllDone l G ad σ 1 r2 σ1 (by decide) q_40 _) kv_X4_isAllDone tw_6_46 ⟨Nat.le_of_ble_eq_true rfl, Nat.le_of_ble_eq_true rfl⟩ rfl rfl (Nat.le_of_ble_eq_true rfl) hl.1 ⟨Nat.le_refl _, Nat.le_refl _⟩ dX7_ticksUntilDone_40 (fun H locs S => ?_)
  refine lv_if_eq (tgt := 50) C.1 C.2.1 dX7_ticksUntilDone_43 (by decide) (fun c_43 => ?_) (fun c_43 => ?_)
  · rw [if_pos c_43] at hf
    refine lv_iconst (v := (-1)) C.1 C.2.1 dX7_ticksUntilDone_50 (by decide) ?_
    exact w_X7_ticksUntilDone_51 C _ (-1) _ _ _ S (lv_sub hl [] rfl) hf
  · rw [if_neg c_43] at hf
    refine lv_iload_n C.1 C.2.1 dX7_ticksUntilDone_46 rfl (lv_at hl 1 rfl) ?_
    refine lv_goto (tgt := 51) C.1 C.2.1 dX7_ticksUntilDone_47 (by decide) ?_
    exact w_X7_ticksUntilDone_51 C _ v1 _ _ _ S (lv_sub hl [] rfl) hf
set_option maxHeartbeats 4000000 in
set_option maxRecDepth 100000 in
theorem w_X7_ticksUntilDone_17 {p : Program} {l : Launch} {e : Env} {s : State} {m : MethodId} {args : Array Value} {below : List Frame} {meth : Method} {c : Code} {G : Gx} {ad : Ad} {res : Int32 × Sg} (C : Cx p s m args meth c yX7_ticksUntilDone.cls cX7_ticksUntilDone 3 (Option.some FieldType.int) G)  : ∀ (σ : Sg) (v2 : Int32) (H : Heap) (locs : List Loc) (ls : Array Slot), z_S 0 G ad σ (z_A 0 ad s.heap.size) s.heap H locs → lv_has ls 3 [(2, .int v2)] → f_X7_ticksUntilDone_17  σ v2 = some res → W p l e { frames := 6, cells := 0, slots := 0, locals := 143 } s m args below meth c H locs 0 0 (MQ below (va_Qi (S := Unit) (fun r1 _ => r1 = res.1) (fun _ t => z_W 0 G ad res.2 t.heap) (z_A 0 ad s.heap.size)) args s 0 0 (z_A 0 ad s.heap.size)) (F0 m 17 ls []) := by
  intro σ v2 H locs ls S hl  hf
  unfold f_X7_ticksUntilDone_17 at hf
  refine lv_iload_n C.1 C.2.1 dX7_ticksUntilDone_17 rfl (lv_at hl 0 rfl) ?_
  exact z_iret C S hf dX7_ticksUntilDone_18
set_option maxHeartbeats 4000000 in
set_option maxRecDepth 100000 in
theorem w_X7_ticksUntilDone_2 {p : Program} {l : Launch} {e : Env} {s : State} {m : MethodId} {args : Array Value} {below : List Frame} {meth : Method} {c : Code} {G : Gx} {ad : Ad} {res : Int32 × Sg} (C : Cx p s m args meth c yX7_ticksUntilDone.cls cX7_ticksUntilDone 3 (Option.some FieldType.int) G)  : ∀ n : Nat, ∀ (σ : Sg) (v1 : Int32) (v2 : Int32) (H : Heap) (locs : List Loc) (ls : Array Slot), z_S 0 G ad σ (z_A 0 ad s.heap.size) s.heap H locs → lv_has ls 3 [(0, .ref (ad 7 0)), (1, .int v1), (2, .int v2)] → f_X7_ticksUntilDone_2  n σ v1 v2 = some res → W p l e { frames := 6, cells := 0, slots := 0, locals := 143 } s m args below meth c H locs 0 0 (MQ below (va_Qi (S := Unit) (fun r1 _ => r1 = res.1) (fun _ t => z_W 0 G ad res.2 t.heap) (z_A 0 ad s.heap.size)) args s 0 0 (z_A 0 ad s.heap.size)) (F0 m 2 ls []) := by
  intro n
  induction n with
  | zero => intro σ v1 v2 H locs ls S hl  hf; cases hf
  | succ n ih =>
    intro σ v1 v2 H locs ls S hl  hf
    rw [f_X7_ticksUntilDone_2_s] at hf
    refine lv_iload_n C.1 C.2.1 dX7_ticksUntilDone_2 rfl (lv_at hl 2 rfl) ?_
    refine lv_iload_n C.1 C.2.1 dX7_ticksUntilDone_3 rfl (lv_at hl 1 rfl) ?_
    refine lv_icmp_ge (tgt := 36) C.1 C.2.1 dX7_ticksUntilDone_4 (by decide) (fun c_4 => ?_) (fun c_4 => ?_)
    · rw [if_pos c_4] at hf
      exact w_X7_ticksUntilDone_36 C _ v1 _ _ _ S (lv_sub hl [0, 1] rfl) hf
    · rw [if_neg c_4] at hf
      refine lv_aload_n C.1 C.2.1 dX7_ticksUntilDone_7 rfl (lv_at hl 0 rfl) ?_
      refine z_getR C S 7 0 rfl (by decide) cf_7 7 (by decide) _ (gr_7_7 G ad 0) tw_2_135 dX7_ticksUntilDone_8 ?_
      obtain ⟨r2, σ1, q_11, hf⟩ := bib hf
      refine z_callI C S 4 1 rfl (by decide) cf_4 ⟨_, rfl⟩ [] (m_X4_isAllDone l G ad σ 1 r2 σ1 (by decide) q_11 _) kv_X4_isAllDone tw_6_46 ⟨Nat.le_of_ble_eq_true rfl, Nat.le_of_ble_eq_true rfl⟩ rfl rfl (Nat.le_of_ble_eq_true rfl) hl.1 ⟨Nat.le_refl _, Nat.le_refl _⟩ dX7_ticksUntilDone_11 (fun H locs S => ?_)
      refine lv_if_eq (tgt := 19) C.1 C.2.1 dX7_ticksUntilDone_14 (by decide) (fun c_14 => ?_) (fun c_14 => ?_)
      · rw [if_pos c_14] at hf
        refine lv_aload_n C.1 C.2.1 dX7_ticksUntilDone_19 rfl (lv_at hl 0 rfl) ?_
        refine z_getR C S 7 0 rfl (by decide) cf_7 11 (by decide) _ (gr_7_11 G ad 0) tw_2_139 dX7_ticksUntilDone_20 ?_
        refine lv_aload_n C.1 C.2.1 dX7_ticksUntilDone_23 rfl (lv_at hl 0 rfl) ?_
        refine z_getR C S 7 0 rfl (by decide) cf_7 7 (by decide) _ (gr_7_7 G ad 0) tw_2_135 dX7_ticksUntilDone_24 ?_
        obtain ⟨σ3, q_27, hf⟩ := bvb hf
        refine z_callV C S 0 0 rfl (by decide) cf_0 ⟨_, rfl⟩ [.ref (ad 4 1)] (m_X0_tick l G ad σ1 1 σ3 (by decide) q_27 _) kv_X0_tick tw_6_34 ⟨Nat.le_of_ble_eq_true rfl, Nat.le_of_ble_eq_true rfl⟩ rfl rfl (Nat.le_of_ble_eq_true rfl) hl.1 ⟨Nat.le_refl _, Nat.le_refl _⟩ dX7_ticksUntilDone_27 (fun H locs S => ?_)
        refine lv_iinc (v := (v2 + 1)) (lv' := [(2, .int (v2 + 1)), (0, .ref (ad 7 0)), (1, .int v1)]) C.1 C.2.1 dX7_ticksUntilDone_30 hl (k := 2) rfl rfl (by decide) rfl (fun ls hl => ?_)
        refine lv_goto (tgt := 2) C.1 C.2.1 dX7_ticksUntilDone_33 (by decide) ?_
        exact ih _ v1 (v2 + 1) _ _ _ S (lv_sub hl [1, 2, 0] rfl)  hf
      · rw [if_neg c_14] at hf
        exact w_X7_ticksUntilDone_17 C _ v2 _ _ _ S (lv_sub hl [2] rfl) hf
set_option maxHeartbeats 4000000 in
set_option maxRecDepth 100000 in
theorem w_X7_ticksUntilDone_0 {p : Program} {l : Launch} {e : Env} {s : State} {m : MethodId} {args : Array Value} {below : List Frame} {meth : Method} {c : Code} {G : Gx} {ad : Ad} {res : Int32 × Sg} (C : Cx p s m args meth c yX7_ticksUntilDone.cls cX7_ticksUntilDone 3 (Option.some FieldType.int) G)  : ∀ (σ : Sg) (v1 : Int32) (H : Heap) (locs : List Loc) (ls : Array Slot), z_S 0 G ad σ (z_A 0 ad s.heap.size) s.heap H locs → lv_has ls 3 [(0, .ref (ad 7 0)), (1, .int v1)] → f_X7_ticksUntilDone  σ v1 = some res → W p l e { frames := 6, cells := 0, slots := 0, locals := 143 } s m args below meth c H locs 0 0 (MQ below (va_Qi (S := Unit) (fun r1 _ => r1 = res.1) (fun _ t => z_W 0 G ad res.2 t.heap) (z_A 0 ad s.heap.size)) args s 0 0 (z_A 0 ad s.heap.size)) (F0 m 0 ls []) := by
  intro σ v1 H locs ls S hl  hf
  unfold f_X7_ticksUntilDone at hf
  refine lv_iconst (v := 0) C.1 C.2.1 dX7_ticksUntilDone_0 (by decide) ?_
  refine lv_istore_n (lv' := [(2, .int 0), (0, .ref (ad 7 0)), (1, .int v1)]) C.1 C.2.1 dX7_ticksUntilDone_1 rfl hl (by decide) rfl (fun ls hl => ?_)
  exact w_X7_ticksUntilDone_2 C FU _ v1 0 _ _ _ S (lv_sub hl [1, 2, 0] rfl) hf
theorem kv_X7_ticksUntilDone : KV yX7_ticksUntilDone cX7_ticksUntilDone 3 (Option.some FieldType.int) 1 := ⟨tw_6_45, tw_6_44, tw_p_39, tw_1_1, by decide, by decide, by decide +kernel⟩
theorem m_X7_ticksUntilDone (l : Launch) (G : Gx) (ad : Ad) (σ : Sg) (v1 : Int32) (r : Int32) (σ' : Sg)  (hf : f_X7_ticksUntilDone σ v1 = some (r, σ')) (sz : Nat) : z_MI l yX7_ticksUntilDone cX7_ticksUntilDone 3 (Option.some FieldType.int) 6 143 0 G ad σ sz [.ref (ad 7 0), .int v1] r σ' := by
  refine z_begin (by decide +kernel) (Nat.le_of_ble_eq_true rfl) [(0, .ref (ad 7 0)), (1, .int v1)] rfl (fun p e s m args below meth c ls C hz S hl => ?_)
  subst hz
  exact w_X7_ticksUntilDone_0 (res := (r, σ')) C σ v1 _ _ _ S hl  hf

theorem dX7_longestBehind_0 : decode cX7_longestBehind 0 = .ok (.aload_n 0, 1) := by decide +kernel
theorem dX7_longestBehind_1 : decode cX7_longestBehind 1 = .ok (.getfield 30, 3) := by decide +kernel
theorem dX7_longestBehind_4 : decode cX7_longestBehind 4 = .ok (.invokevirtual 276, 3) := by decide +kernel
theorem dX7_longestBehind_7 : decode cX7_longestBehind 7 = .ok (.istore_n 3, 1) := by decide +kernel
theorem dX7_longestBehind_8 : decode cX7_longestBehind 8 = .ok (.iconst 0, 1) := by decide +kernel
theorem dX7_longestBehind_9 : decode cX7_longestBehind 9 = .ok (.istore 4, 2) := by decide +kernel
theorem dX7_longestBehind_11 : decode cX7_longestBehind 11 = .ok (.iload 4, 2) := by decide +kernel
theorem dX7_longestBehind_13 : decode cX7_longestBehind 13 = .ok (.iload_n 1, 1) := by decide +kernel
theorem dX7_longestBehind_14 : decode cX7_longestBehind 14 = .ok (.if_icmp .ge 43, 3) := by decide +kernel
theorem dX7_longestBehind_17 : decode cX7_longestBehind 17 = .ok (.iload_n 3, 1) := by decide +kernel
theorem dX7_longestBehind_18 : decode cX7_longestBehind 18 = .ok (.iload_n 2, 1) := by decide +kernel
theorem dX7_longestBehind_19 : decode cX7_longestBehind 19 = .ok (.if_icmp .ge 38, 3) := by decide +kernel
theorem dX7_longestBehind_22 : decode cX7_longestBehind 22 = .ok (.aload_n 0, 1) := by decide +kernel
theorem dX7_longestBehind_23 : decode cX7_longestBehind 23 = .ok (.getfield 30, 3) := by decide +kernel
theorem dX7_longestBehind_26 : decode cX7_longestBehind 26 = .ok (.invokevirtual 347, 3) := by decide +kernel
theorem dX7_longestBehind_29 : decode cX7_longestBehind 29 = .ok (.ifCond .ne 28, 3) := by decide +kernel
theorem dX7_longestBehind_32 : decode cX7_longestBehind 32 = .ok (.aload_n 0, 1) := by decide +kernel
theorem dX7_longestBehind_33 : decode cX7_longestBehind 33 = .ok (.getfield 46, 3) := by decide +kernel
theorem dX7_longestBehind_36 : decode cX7_longestBehind 36 = .ok (.aload_n 0, 1) := by decide +kernel
theorem dX7_longestBehind_37 : decode cX7_longestBehind 37 = .ok (.getfield 30, 3) := by decide +kernel
theorem dX7_longestBehind_40 : decode cX7_longestBehind 40 = .ok (.invokevirtual 341, 3) := by decide +kernel
theorem dX7_longestBehind_43 : decode cX7_longestBehind 43 = .ok (.aload_n 0, 1) := by decide +kernel
theorem dX7_longestBehind_44 : decode cX7_longestBehind 44 = .ok (.getfield 30, 3) := by decide +kernel
theorem dX7_longestBehind_47 : decode cX7_longestBehind 47 = .ok (.invokevirtual 276, 3) := by decide +kernel
theorem dX7_longestBehind_50 : decode cX7_longestBehind 50 = .ok (.istore_n 3, 1) := by decide +kernel
theorem dX7_longestBehind_51 : decode cX7_longestBehind 51 = .ok (.iinc 4 1, 3) := by decide +kernel
theorem dX7_longestBehind_54 : decode cX7_longestBehind 54 = .ok (.goto (-43), 3) := by decide +kernel
theorem dX7_longestBehind_57 : decode cX7_longestBehind 57 = .ok (.iload_n 3, 1) := by decide +kernel
theorem dX7_longestBehind_58 : decode cX7_longestBehind 58 = .ok (.ireturn, 1) := by decide +kernel
/-! BusLifts.longestBehind(II)I -/
noncomputable def f_X7_longestBehind_57  (σ : Sg) (v3 : Int32) : Option (Int32 × Sg) := some (v3, σ)
noncomputable def f_X7_longestBehind_11  : Nat → Sg → Int32 → Int32 → Int32 → Int32 → Option (Int32 × Sg)
  | 0, _, _, _, _, _ => none
  | n + 1, σ, v1, v2, v3, v4 => if v1 ≤ v4 then (f_X7_longestBehind_57 σ v3) else (if v2 ≤ v3 then (f_X7_longestBehind_57 σ v3) else (bi (f_X4_isAllDone σ 1) fun r2 σ1 => (if r2 = 0 then (bv (f_X0_tick σ1 1) fun σ3 => (bi (f_X4_greatestWait σ3 1) fun r5 σ4 => (f_X7_longestBehind_11  n σ4 v1 v2 r5 (v4 + 1)))) else (f_X7_longestBehind_57 σ1 v3))))
theorem f_X7_longestBehind_11_s  (n : Nat) (σ : Sg) (v1 : Int32) (v2 : Int32) (v3 : Int32) (v4 : Int32) : f_X7_longestBehind_11  (n + 1) σ v1 v2 v3 v4 = (if v1 ≤ v4 then (f_X7_longestBehind_57 σ v3) else (if v2 ≤ v3 then (f_X7_longestBehind_57 σ v3) else (bi (f_X4_isAllDone σ 1) fun r2 σ1 => (if r2 = 0 then (bv (f_X0_tick σ1 1) fun σ3 => (bi (f_X4_greatestWait σ3 1) fun r5 σ4 => (f_X7_longestBehind_11  n σ4 v1 v2 r5 (v4 + 1)))) else (f_X7_longestBehind_57 σ1 v3))))) := rfl
noncomputable def f_X7_longestBehind  (σ : Sg) (v1 : Int32) (v2 : Int32) : Option (Int32 × Sg) := bi (f_X4_greatestWait σ 1) fun r2 σ1 => (f_X7_longestBehind_11 FU σ1 v1 v2 r2 0)
set_option maxHeartbeats 4000000 in
set_option maxRecDepth 100000 in
theorem w_X7_longestBehind_57 {p : Program} {l : Launch} {e : Env} {s : State} {m : MethodId} {args : Array Value} {below : List Frame} {meth : Method} {c : Code} {G : Gx} {ad : Ad} {res : Int32 × Sg} (C : Cx p s m args meth c yX7_longestBehind.cls cX7_longestBehind 5 (Option.some FieldType.int) G)  : ∀ (σ : Sg) (v3 : Int32) (H : Heap) (locs : List Loc) (ls : Array Slot), z_S 0 G ad σ (z_A 0 ad s.heap.size) s.heap H locs → lv_has ls 5 [(3, .int v3)] → f_X7_longestBehind_57  σ v3 = some res → W p l e { frames := 6, cells := 0, slots := 0, locals := 143 } s m args below meth c H locs 0 0 (MQ below (va_Qi (S := Unit) (fun r1 _ => r1 = res.1) (fun _ t => z_W 0 G ad res.2 t.heap) (z_A 0 ad s.heap.size)) args s 0 0 (z_A 0 ad s.heap.size)) (F0 m 57 ls []) := by
  intro σ v3 H locs ls S hl  hf
  unfold f_X7_longestBehind_57 at hf
  refine lv_iload_n C.1 C.2.1 dX7_longestBehind_57 rfl (lv_at hl 0 rfl) ?_
  exact z_iret C S hf dX7_longestBehind_58
set_option maxHeartbeats 4000000 in
set_option maxRecDepth 100000 in
theorem w_X7_longestBehind_11 {p : Program} {l : Launch} {e : Env} {s : State} {m : MethodId} {args : Array Value} {below : List Frame} {meth : Method} {c : Code} {G : Gx} {ad : Ad} {res : Int32 × Sg} (C : Cx p s m args meth c yX7_longestBehind.cls cX7_longestBehind 5 (Option.some FieldType.int) G)  : ∀ n : Nat, ∀ (σ : Sg) (v1 : Int32) (v2 : Int32) (v3 : Int32) (v4 : Int32) (H : Heap) (locs : List Loc) (ls : Array Slot), z_S 0 G ad σ (z_A 0 ad s.heap.size) s.heap H locs → lv_has ls 5 [(0, .ref (ad 7 0)), (1, .int v1), (2, .int v2), (3, .int v3), (4, .int v4)] → f_X7_longestBehind_11  n σ v1 v2 v3 v4 = some res → W p l e { frames := 6, cells := 0, slots := 0, locals := 143 } s m args below meth c H locs 0 0 (MQ below (va_Qi (S := Unit) (fun r1 _ => r1 = res.1) (fun _ t => z_W 0 G ad res.2 t.heap) (z_A 0 ad s.heap.size)) args s 0 0 (z_A 0 ad s.heap.size)) (F0 m 11 ls []) := by
  intro n
  induction n with
  | zero => intro σ v1 v2 v3 v4 H locs ls S hl  hf; cases hf
  | succ n ih =>
    intro σ v1 v2 v3 v4 H locs ls S hl  hf
    rw [f_X7_longestBehind_11_s] at hf
    refine lv_iload C.1 C.2.1 dX7_longestBehind_11 (lv_at hl 4 rfl) ?_
    refine lv_iload_n C.1 C.2.1 dX7_longestBehind_13 rfl (lv_at hl 1 rfl) ?_
    refine lv_icmp_ge (tgt := 57) C.1 C.2.1 dX7_longestBehind_14 (by decide) (fun c_14 => ?_) (fun c_14 => ?_)
    · rw [if_pos c_14] at hf
      exact w_X7_longestBehind_57 C _ v3 _ _ _ S (lv_sub hl [3] rfl) hf
    · rw [if_neg c_14] at hf
      refine lv_iload_n C.1 C.2.1 dX7_longestBehind_17 rfl (lv_at hl 3 rfl) ?_
      refine lv_iload_n C.1 C.2.1 dX7_longestBehind_18 rfl (lv_at hl 2 rfl) ?_
      refine lv_icmp_ge (tgt := 57) C.1 C.2.1 dX7_longestBehind_19 (by decide) (fun c_19 => ?_) (fun c_19 => ?_)
      · rw [if_pos c_19] at hf
        exact w_X7_longestBehind_57 C _ v3 _ _ _ S (lv_sub hl [3] rfl) hf
      · rw [if_neg c_19] at hf
        refine lv_aload_n C.1 C.2.1 dX7_longestBehind_22 rfl (lv_at hl 0 rfl) ?_
        refine z_getR C S 7 0 rfl (by decide) cf_7 7 (by decide) _ (gr_7_7 G ad 0) tw_2_135 dX7_longestBehind_23 ?_
        obtain ⟨r2, σ1, q_26, hf⟩ := bib hf
        refine z_callI C S 4 1 rfl (by decide) cf_4 ⟨_, rfl⟩ [] (m_X4_isAllDone l G ad σ 1 r2 σ1 (by decide) q_26 _) kv_X4_isAllDone tw_6_46 ⟨Nat.le_of_ble_eq_true rfl, Nat.le_of_ble_eq_true rfl⟩ rfl rfl (Nat.le_of_ble_eq_true rfl) hl.1 ⟨Nat.le_refl _, Nat.le_refl _⟩ dX7_longestBehind_26 (fun H locs S => ?_)
        refine lv_if_ne (tgt := 57) C.1 C.2.1 dX7_longestBehind_29 (by decide) (fun c_29 => ?_) (fun c_29 => ?_)
        · rw [if_neg c_29] at hf
          exact w_X7_longestBehind_57 C _ v3 _ _ _ S (lv_sub hl [3] rfl) hf
        · rw [if_pos c_29] at hf
          refine lv_aload_n C.1 C.2.1 dX7_longestBehind_32 rfl (lv_at hl 0 rfl) ?_
          refine z_getR C S 7 0 rfl (by decide) cf_7 11 (by decide) _ (gr_7_11 G ad 0) tw_2_139 dX7_longestBehind_33 ?_
          refine lv_aload_n C.1 C.2.1 dX7_longestBehind_36 rfl (lv_at hl 0 rfl) ?_
          refine z_getR C S 7 0 rfl (by decide) cf_7 7 (by decide) _ (gr_7_7 G ad 0) tw_2_135 dX7_longestBehind_37 ?_
          obtain ⟨σ3, q_40, hf⟩ := bvb hf
          refine z_callV C S 0 0 rfl (by decide) cf_0 ⟨_, rfl⟩ [.ref (ad 4 1)] (m_X0_tick l G ad σ1 1 σ3 (by decide) q_40 _) kv_X0_tick tw_6_34 ⟨Nat.le_of_ble_eq_true rfl, Nat.le_of_ble_eq_true rfl⟩ rfl rfl (Nat.le_of_ble_eq_true rfl) hl.1 ⟨Nat.le_refl _, Nat.le_refl _⟩ dX7_longestBehind_40 (fun H locs S => ?_)
          refine lv_aload_n C.1 C.2.1 dX7_longestBehind_43 rfl (lv_at hl 0 rfl) ?_
          refine z_getR C S 7 0 rfl (by decide) cf_7 7 (by decide) _ (gr_7_7 G ad 0) tw_2_135 dX7_longestBehind_44 ?_
          obtain ⟨r5, σ4, q_47, hf⟩ := bib hf
          refine z_callI C S 4 1 rfl (by decide) cf_4 ⟨_, rfl⟩ [] (m_X4_greatestWait l G ad σ3 1 r5 σ4 (by decide) q_47 _) kv_X4_greatestWait tw_3_121 ⟨Nat.le_of_ble_eq_true rfl, Nat.le_of_ble_eq_true rfl⟩ rfl rfl (Nat.le_of_ble_eq_true rfl) hl.1 ⟨Nat.le_refl _, Nat.le_refl _⟩ dX7_longestBehind_47 (fun H locs S => ?_)
          refine lv_istore_n (lv' := [(3, .int r5), (0, .ref (ad 7 0)), (1, .int v1), (2, .int v2), (4, .int v4)]) C.1 C.2.1 dX7_longestBehind_50 rfl hl (by decide) rfl (fun ls hl => ?_)
          refine lv_iinc (v := (v4 + 1)) (lv' := [(4, .int (v4 + 1)), (3, .int r5), (0, .ref (ad 7 0)), (1, .int v1), (2, .int v2)]) C.1 C.2.1 dX7_longestBehind_51 hl (k := 4) rfl rfl (by decide) rfl (fun ls hl => ?_)
          refine lv_goto (tgt := 11) C.1 C.2.1 dX7_longestBehind_54 (by decide) ?_
          exact ih _ v1 v2 r5 (v4 + 1) _ _ _ S (lv_sub hl [2, 3, 4, 1, 0] rfl)  hf
set_option maxHeartbeats 4000000 in
set_option maxRecDepth 100000 in
theorem w_X7_longestBehind_0 {p : Program} {l : Launch} {e : Env} {s : State} {m : MethodId} {args : Array Value} {below : List Frame} {meth : Method} {c : Code} {G : Gx} {ad : Ad} {res : Int32 × Sg} (C : Cx p s m args meth c yX7_longestBehind.cls cX7_longestBehind 5 (Option.some FieldType.int) G)  : ∀ (σ : Sg) (v1 : Int32) (v2 : Int32) (H : Heap) (locs : List Loc) (ls : Array Slot), z_S 0 G ad σ (z_A 0 ad s.heap.size) s.heap H locs → lv_has ls 5 [(0, .ref (ad 7 0)), (1, .int v1), (2, .int v2)] → f_X7_longestBehind  σ v1 v2 = some res → W p l e { frames := 6, cells := 0, slots := 0, locals := 143 } s m args below meth c H locs 0 0 (MQ below (va_Qi (S := Unit) (fun r1 _ => r1 = res.1) (fun _ t => z_W 0 G ad res.2 t.heap) (z_A 0 ad s.heap.size)) args s 0 0 (z_A 0 ad s.heap.size)) (F0 m 0 ls []) := by
  intro σ v1 v2 H locs ls S hl  hf
  unfold f_X7_longestBehind at hf
  refine lv_aload_n C.1 C.2.1 dX7_longestBehind_0 rfl (lv_at hl 0 rfl) ?_
  refine z_getR C S 7 0 rfl (by decide) cf_7 7 (by decide) _ (gr_7_7 G ad 0) tw_2_135 dX7_longestBehind_1 ?_
  obtain ⟨r2, σ1, q_4, hf⟩ := bib hf
  refine z_callI C S 4 1 rfl (by decide) cf_4 ⟨_, rfl⟩ [] (m_X4_greatestWait l G ad σ 1 r2 σ1 (by decide) q_4 _) kv_X4_greatestWait tw_3_121 ⟨Nat.le_of_ble_eq_true rfl, Nat.le_of_ble_eq_true rfl⟩ rfl rfl (Nat.le_of_ble_eq_true rfl) hl.1 ⟨Nat.le_refl _, Nat.le_refl _⟩ dX7_longestBehind_4 (fun H locs S => ?_)
  refine lv_istore_n (lv' := [(3, .int r2), (0, .ref (ad 7 0)), (1, .int v1), (2, .int v2)]) C.1 C.2.1 dX7_longestBehind_7 rfl hl (by decide) rfl (fun ls hl => ?_)
  refine lv_iconst (v := 0) C.1 C.2.1 dX7_longestBehind_8 (by decide) ?_
  refine lv_istore (lv' := [(4, .int 0), (3, .int r2), (0, .ref (ad 7 0)), (1, .int v1), (2, .int v2)]) C.1 C.2.1 dX7_longestBehind_9 hl (by decide) rfl (fun ls hl => ?_)
  exact w_X7_longestBehind_11 C FU _ v1 v2 r2 0 _ _ _ S (lv_sub hl [2, 3, 4, 1, 0] rfl) hf
theorem kv_X7_longestBehind : KV yX7_longestBehind cX7_longestBehind 5 (Option.some FieldType.int) 2 := ⟨tw_6_83, tw_6_82, tw_p_40, tw_1_1, by decide, by decide, by decide +kernel⟩
theorem m_X7_longestBehind (l : Launch) (G : Gx) (ad : Ad) (σ : Sg) (v1 : Int32) (v2 : Int32) (r : Int32) (σ' : Sg)  (hf : f_X7_longestBehind σ v1 v2 = some (r, σ')) (sz : Nat) : z_MI l yX7_longestBehind cX7_longestBehind 5 (Option.some FieldType.int) 6 143 0 G ad σ sz [.ref (ad 7 0), .int v1, .int v2] r σ' := by
  refine z_begin (by decide +kernel) (Nat.le_of_ble_eq_true rfl) [(0, .ref (ad 7 0)), (1, .int v1), (2, .int v2)] rfl (fun p e s m args below meth c ls C hz S hl => ?_)
  subst hz
  exact w_X7_longestBehind_0 (res := (r, σ')) C σ v1 v2 _ _ _ S hl  hf

theorem dX6_isBlank_0 : decode cX6_isBlank 0 = .ok (.iload_n 0, 1) := by decide +kernel
theorem dX6_isBlank_1 : decode cX6_isBlank 1 = .ok (.bipush 32, 2) := by decide +kernel
theorem dX6_isBlank_3 : decode cX6_isBlank 3 = .ok (.if_icmp .eq 9, 3) := by decide +kernel
theorem dX6_isBlank_6 : decode cX6_isBlank 6 = .ok (.iload_n 0, 1) := by decide +kernel
theorem dX6_isBlank_7 : decode cX6_isBlank 7 = .ok (.bipush 10, 2) := by decide +kernel
theorem dX6_isBlank_9 : decode cX6_isBlank 9 = .ok (.if_icmp .ne 7, 3) := by decide +kernel
theorem dX6_isBlank_12 : decode cX6_isBlank 12 = .ok (.iconst 1, 1) := by decide +kernel
theorem dX6_isBlank_13 : decode cX6_isBlank 13 = .ok (.goto 4, 3) := by decide +kernel
theorem dX6_isBlank_16 : decode cX6_isBlank 16 = .ok (.iconst 0, 1) := by decide +kernel
theorem dX6_isBlank_17 : decode cX6_isBlank 17 = .ok (.ireturn, 1) := by decide +kernel
/-! BusLifts$SetupReader.isBlank(I)Z -/
noncomputable def f_X6_isBlank_17  (σ : Sg) (v100 : Int32) : Option (Int32 × Sg) := if ¬ (v100 = 0 ∨ v100 = 1) then none else (some (v100, σ))
noncomputable def f_X6_isBlank_12  (σ : Sg)  : Option (Int32 × Sg) := f_X6_isBlank_17 σ 1
noncomputable def f_X6_isBlank  (σ : Sg) (v0 : Int32) : Option (Int32 × Sg) := if v0 = 32 then (f_X6_isBlank_12 σ) else (if v0 = 10 then (f_X6_isBlank_12 σ) else (f_X6_isBlank_17 σ 0))
set_option maxHeartbeats 4000000 in
set_option maxRecDepth 100000 in
theorem w_X6_isBlank_17 {p : Program} {l : Launch} {e : Env} {s : State} {m : MethodId} {args : Array Value} {below : List Frame} {meth : Method} {c : Code} {G : Gx} {ad : Ad} {res : Int32 × Sg} (C : Cx p s m args meth c yX6_isBlank.cls cX6_isBlank 1 (Option.some FieldType.boolean) G)  : ∀ (σ : Sg) (v100 : Int32) (H : Heap) (locs : List Loc) (ls : Array Slot), z_S 0 G ad σ (z_A 0 ad s.heap.size) s.heap H locs → lv_has ls 1 [] → f_X6_isBlank_17  σ v100 = some res → W p l e { frames := 0, cells := 0, slots := 0, locals := 0 } s m args below meth c H locs 0 0 (MQ below (va_Qi (S := Unit) (fun r1 _ => r1 = res.1) (fun _ t => z_W 0 G ad res.2 t.heap) (z_A 0 ad s.heap.size)) args s 0 0 (z_A 0 ad s.heap.size)) (F0 m 17 ls [.int v100]) := by
  intro σ v100 H locs ls S hl  hf
  unfold f_X6_isBlank_17 at hf
  obtain ⟨g_17, hf⟩ := gd hf
  exact z_zret C S (nbz g_17).1 hf dX6_isBlank_17
set_option maxHeartbeats 4000000 in
set_option maxRecDepth 100000 in
theorem w_X6_isBlank_12 {p : Program} {l : Launch} {e : Env} {s : State} {m : MethodId} {args : Array Value} {below : List Frame} {meth : Method} {c : Code} {G : Gx} {ad : Ad} {res : Int32 × Sg} (C : Cx p s m args meth c yX6_isBlank.cls cX6_isBlank 1 (Option.some FieldType.boolean) G)  : ∀ (σ : Sg)  (H : Heap) (locs : List Loc) (ls : Array Slot), z_S 0 G ad σ (z_A 0 ad s.heap.size) s.heap H locs → lv_has ls 1 [] → f_X6_isBlank_12  σ  = some res → W p l e { frames := 0, cells := 0, slots := 0, locals := 0 } s m args below meth c H locs 0 0 (MQ below (va_Qi (S := Unit) (fun r1 _ => r1 = res.1) (fun _ t => z_W 0 G ad res.2 t.heap) (z_A 0 ad s.heap.size)) args s 0 0 (z_A 0 ad s.heap.size)) (F0 m 12 ls []) := by
  intro σ  H locs ls S hl  hf
  unfold f_X6_isBlank_12 at hf
  refine lv_iconst (v := 1) C.1 C.2.1 dX6_isBlank_12 (by decide) ?_
  refine lv_goto (tgt := 17) C.1 C.2.1 dX6_isBlank_13 (by decide) ?_
  exact w_X6_isBlank_17 C _ 1 _ _ _ S (lv_sub hl [] rfl) hf
set_option maxHeartbeats 4000000 in
set_option maxRecDepth 100000 in
theorem w_X6_isBlank_0 {p : Program} {l : Launch} {e : Env} {s : State} {m : MethodId} {args : Array Value} {below : List Frame} {meth : Method} {c : Code} {G : Gx} {ad : Ad} {res : Int32 × Sg} (C : Cx p s m args meth c yX6_isBlank.cls cX6_isBlank 1 (Option.some FieldType.boolean) G)  : ∀ (σ : Sg) (v0 : Int32) (H : Heap) (locs : List Loc) (ls : Array Slot), z_S 0 G ad σ (z_A 0 ad s.heap.size) s.heap H locs → lv_has ls 1 [(0, .int v0)] → f_X6_isBlank  σ v0 = some res → W p l e { frames := 0, cells := 0, slots := 0, locals := 0 } s m args below meth c H locs 0 0 (MQ below (va_Qi (S := Unit) (fun r1 _ => r1 = res.1) (fun _ t => z_W 0 G ad res.2 t.heap) (z_A 0 ad s.heap.size)) args s 0 0 (z_A 0 ad s.heap.size)) (F0 m 0 ls []) := by
  intro σ v0 H locs ls S hl  hf
  unfold f_X6_isBlank at hf
  refine lv_iload_n C.1 C.2.1 dX6_isBlank_0 rfl (lv_at hl 0 rfl) ?_
  refine lv_bipush (v := 32) C.1 C.2.1 dX6_isBlank_1 (by decide) ?_
  refine lv_icmp_eq (tgt := 12) C.1 C.2.1 dX6_isBlank_3 (by decide) (fun c_3 => ?_) (fun c_3 => ?_)
  · rw [if_pos c_3] at hf
    exact w_X6_isBlank_12 C _ _ _ _ S (lv_sub hl [] rfl) hf
  · rw [if_neg c_3] at hf
    refine lv_iload_n C.1 C.2.1 dX6_isBlank_6 rfl (lv_at hl 0 rfl) ?_
    refine lv_bipush (v := 10) C.1 C.2.1 dX6_isBlank_7 (by decide) ?_
    refine lv_icmp_ne (tgt := 16) C.1 C.2.1 dX6_isBlank_9 (by decide) (fun c_9 => ?_) (fun c_9 => ?_)
    · rw [if_neg c_9] at hf
      refine lv_iconst (v := 0) C.1 C.2.1 dX6_isBlank_16 (by decide) ?_
      exact w_X6_isBlank_17 C _ 0 _ _ _ S (lv_sub hl [] rfl) hf
    · rw [if_pos c_9] at hf
      exact w_X6_isBlank_12 C _ _ _ _ S (lv_sub hl [] rfl) hf
theorem kv_X6_isBlank : KS yX6_isBlank cX6_isBlank 1 (Option.some FieldType.boolean) 1 := ⟨tw_2_204, tw_2_203, tw_1_8, by decide, by decide, by decide +kernel⟩
theorem m_X6_isBlank (l : Launch) (G : Gx) (ad : Ad) (σ : Sg) (v0 : Int32) (r : Int32) (σ' : Sg)  (hf : f_X6_isBlank σ v0 = some (r, σ')) (sz : Nat) : z_MI l yX6_isBlank cX6_isBlank 1 (Option.some FieldType.boolean) 0 0 0 G ad σ sz [.int v0] r σ' := by
  refine z_begin (by decide +kernel) (Nat.le_of_ble_eq_true rfl) [(0, .int v0)] rfl (fun p e s m args below meth c ls C hz S hl => ?_)
  subst hz
  exact w_X6_isBlank_0 (res := (r, σ')) C σ v0 _ _ _ S hl  hf

theorem dX6_isLetter_0 : decode cX6_isLetter 0 = .ok (.iload_n 0, 1) := by decide +kernel
theorem dX6_isLetter_1 : decode cX6_isLetter 1 = .ok (.bipush 97, 2) := by decide +kernel
theorem dX6_isLetter_3 : decode cX6_isLetter 3 = .ok (.if_icmp .lt 13, 3) := by decide +kernel
theorem dX6_isLetter_6 : decode cX6_isLetter 6 = .ok (.iload_n 0, 1) := by decide +kernel
theorem dX6_isLetter_7 : decode cX6_isLetter 7 = .ok (.bipush 122, 2) := by decide +kernel
theorem dX6_isLetter_9 : decode cX6_isLetter 9 = .ok (.if_icmp .gt 7, 3) := by decide +kernel
theorem dX6_isLetter_12 : decode cX6_isLetter 12 = .ok (.iconst 1, 1) := by decide +kernel
theorem dX6_isLetter_13 : decode cX6_isLetter 13 = .ok (.goto 4, 3) := by decide +kernel
theorem dX6_isLetter_16 : decode cX6_isLetter 16 = .ok (.iconst 0, 1) := by decide +kernel
theorem dX6_isLetter_17 : decode cX6_isLetter 17 = .ok (.ireturn, 1) := by decide +kernel
/-! BusLifts$SetupReader.isLetter(I)Z -/
noncomputable def f_X6_isLetter_17  (σ : Sg) (v100 : Int32) : Option (Int32 × Sg) := if ¬ (v100 = 0 ∨ v100 = 1) then none else (some (v100, σ))
noncomputable def f_X6_isLetter_16  (σ : Sg)  : Option (Int32 × Sg) := f_X6_isLetter_17 σ 0
noncomputable def f_X6_isLetter  (σ : Sg) (v0 : Int32) : Option (Int32 × Sg) := if v0 < 97 then (f_X6_isLetter_16 σ) else (if 122 < v0 then (f_X6_isLetter_16 σ) else (f_X6_isLetter_17 σ 1))
set_option maxHeartbeats 4000000 in
set_option maxRecDepth 100000 in
theorem w_X6_isLetter_17 {p : Program} {l : Launch} {e : Env} {s : State} {m : MethodId} {args : Array Value} {below : List Frame} {meth : Method} {c : Code} {G : Gx} {ad : Ad} {res : Int32 × Sg} (C : Cx p s m args meth c yX6_isLetter.cls cX6_isLetter 1 (Option.some FieldType.boolean) G)  : ∀ (σ : Sg) (v100 : Int32) (H : Heap) (locs : List Loc) (ls : Array Slot), z_S 0 G ad σ (z_A 0 ad s.heap.size) s.heap H locs → lv_has ls 1 [] → f_X6_isLetter_17  σ v100 = some res → W p l e { frames := 0, cells := 0, slots := 0, locals := 0 } s m args below meth c H locs 0 0 (MQ below (va_Qi (S := Unit) (fun r1 _ => r1 = res.1) (fun _ t => z_W 0 G ad res.2 t.heap) (z_A 0 ad s.heap.size)) args s 0 0 (z_A 0 ad s.heap.size)) (F0 m 17 ls [.int v100]) := by
  intro σ v100 H locs ls S hl  hf
  unfold f_X6_isLetter_17 at hf
  obtain ⟨g_17, hf⟩ := gd hf
  exact z_zret C S (nbz g_17).1 hf dX6_isLetter_17
set_option maxHeartbeats 4000000 in
set_option maxRecDepth 100000 in
theorem w_X6_isLetter_16 {p : Program} {l : Launch} {e : Env} {s : State} {m : MethodId} {args : Array Value} {below : List Frame} {meth : Method} {c : Code} {G : Gx} {ad : Ad} {res : Int32 × Sg} (C : Cx p s m args meth c yX6_isLetter.cls cX6_isLetter 1 (Option.some FieldType.boolean) G)  : ∀ (σ : Sg)  (H : Heap) (locs : List Loc) (ls : Array Slot), z_S 0 G ad σ (z_A 0 ad s.heap.size) s.heap H locs → lv_has ls 1 [] → f_X6_isLetter_16  σ  = some res → W p l e { frames := 0, cells := 0, slots := 0, locals := 0 } s m args below meth c H locs 0 0 (MQ below (va_Qi (S := Unit) (fun r1 _ => r1 = res.1) (fun _ t => z_W 0 G ad res.2 t.heap) (z_A 0 ad s.heap.size)) args s 0 0 (z_A 0 ad s.heap.size)) (F0 m 16 ls []) := by
  intro σ  H locs ls S hl  hf
  unfold f_X6_isLetter_16 at hf
  refine lv_iconst (v := 0) C.1 C.2.1 dX6_isLetter_16 (by decide) ?_
  exact w_X6_isLetter_17 C _ 0 _ _ _ S (lv_sub hl [] rfl) hf
set_option maxHeartbeats 4000000 in
set_option maxRecDepth 100000 in
theorem w_X6_isLetter_0 {p : Program} {l : Launch} {e : Env} {s : State} {m : MethodId} {args : Array Value} {below : List Frame} {meth : Method} {c : Code} {G : Gx} {ad : Ad} {res : Int32 × Sg} (C : Cx p s m args meth c yX6_isLetter.cls cX6_isLetter 1 (Option.some FieldType.boolean) G)  : ∀ (σ : Sg) (v0 : Int32) (H : Heap) (locs : List Loc) (ls : Array Slot), z_S 0 G ad σ (z_A 0 ad s.heap.size) s.heap H locs → lv_has ls 1 [(0, .int v0)] → f_X6_isLetter  σ v0 = some res → W p l e { frames := 0, cells := 0, slots := 0, locals := 0 } s m args below meth c H locs 0 0 (MQ below (va_Qi (S := Unit) (fun r1 _ => r1 = res.1) (fun _ t => z_W 0 G ad res.2 t.heap) (z_A 0 ad s.heap.size)) args s 0 0 (z_A 0 ad s.heap.size)) (F0 m 0 ls []) := by
  intro σ v0 H locs ls S hl  hf
  unfold f_X6_isLetter at hf
  refine lv_iload_n C.1 C.2.1 dX6_isLetter_0 rfl (lv_at hl 0 rfl) ?_
  refine lv_bipush (v := 97) C.1 C.2.1 dX6_isLetter_1 (by decide) ?_
  refine lv_icmp_lt (tgt := 16) C.1 C.2.1 dX6_isLetter_3 (by decide) (fun c_3 => ?_) (fun c_3 => ?_)
  · rw [if_pos c_3] at hf
    exact w_X6_isLetter_16 C _ _ _ _ S (lv_sub hl [] rfl) hf
  · rw [if_neg c_3] at hf
    refine lv_iload_n C.1 C.2.1 dX6_isLetter_6 rfl (lv_at hl 0 rfl) ?_
    refine lv_bipush (v := 122) C.1 C.2.1 dX6_isLetter_7 (by decide) ?_
    refine lv_icmp_gt (tgt := 16) C.1 C.2.1 dX6_isLetter_9 (by decide) (fun c_9 => ?_) (fun c_9 => ?_)
    · rw [if_pos c_9] at hf
      exact w_X6_isLetter_16 C _ _ _ _ S (lv_sub hl [] rfl) hf
    · rw [if_neg c_9] at hf
      refine lv_iconst (v := 1) C.1 C.2.1 dX6_isLetter_12 (by decide) ?_
      refine lv_goto (tgt := 17) C.1 C.2.1 dX6_isLetter_13 (by decide) ?_
      exact w_X6_isLetter_17 C _ 1 _ _ _ S (lv_sub hl [] rfl) hf
theorem kv_X6_isLetter : KS yX6_isLetter cX6_isLetter 1 (Option.some FieldType.boolean) 1 := ⟨tw_2_207, tw_2_206, tw_1_8, by decide, by decide, by decide +kernel⟩
theorem m_X6_isLetter (l : Launch) (G : Gx) (ad : Ad) (σ : Sg) (v0 : Int32) (r : Int32) (σ' : Sg)  (hf : f_X6_isLetter σ v0 = some (r, σ')) (sz : Nat) : z_MI l yX6_isLetter cX6_isLetter 1 (Option.some FieldType.boolean) 0 0 0 G ad σ sz [.int v0] r σ' := by
  refine z_begin (by decide +kernel) (Nat.le_of_ble_eq_true rfl) [(0, .int v0)] rfl (fun p e s m args below meth c ls C hz S hl => ?_)
  subst hz
  exact w_X6_isLetter_0 (res := (r, σ')) C σ v0 _ _ _ S hl  hf

theorem dX6_skipLetters_0 : decode cX6_skipLetters 0 = .ok (.aload_n 0, 1) := by decide +kernel
theorem dX6_skipLetters_1 : decode cX6_skipLetters 1 = .ok (.iconst 1, 1) := by decide +kernel
theorem dX6_skipLetters_2 : decode cX6_skipLetters 2 = .ok (.putfield 47, 3) := by decide +kernel
theorem dX6_skipLetters_5 : decode cX6_skipLetters 5 = .ok (.aload_n 0, 1) := by decide +kernel
theorem dX6_skipLetters_6 : decode cX6_skipLetters 6 = .ok (.getfield 28, 3) := by decide +kernel
theorem dX6_skipLetters_9 : decode cX6_skipLetters 9 = .ok (.aload_n 0, 1) := by decide +kernel
theorem dX6_skipLetters_10 : decode cX6_skipLetters 10 = .ok (.getfield 24, 3) := by decide +kernel
theorem dX6_skipLetters_13 : decode cX6_skipLetters 13 = .ok (.if_icmp .ge 31, 3) := by decide +kernel
theorem dX6_skipLetters_16 : decode cX6_skipLetters 16 = .ok (.aload_n 0, 1) := by decide +kernel
theorem dX6_skipLetters_17 : decode cX6_skipLetters 17 = .ok (.getfield 9, 3) := by decide +kernel
theorem dX6_skipLetters_20 : decode cX6_skipLetters 20 = .ok (.aload_n 0, 1) := by decide +kernel
theorem dX6_skipLetters_21 : decode cX6_skipLetters 21 = .ok (.getfield 28, 3) := by decide +kernel
theorem dX6_skipLetters_24 : decode cX6_skipLetters 24 = .ok (.iaload, 1) := by decide +kernel
theorem dX6_skipLetters_25 : decode cX6_skipLetters 25 = .ok (.invokestatic 151, 3) := by decide +kernel
theorem dX6_skipLetters_28 : decode cX6_skipLetters 28 = .ok (.ifCond .eq 16, 3) := by decide +kernel
theorem dX6_skipLetters_31 : decode cX6_skipLetters 31 = .ok (.aload_n 0, 1) := by decide +kernel
theorem dX6_skipLetters_32 : decode cX6_skipLetters 32 = .ok (.dup, 1) := by decide +kernel
theorem dX6_skipLetters_33 : decode cX6_skipLetters 33 = .ok (.getfield 28, 3) := by decide +kernel
theorem dX6_skipLetters_36 : decode cX6_skipLetters 36 = .ok (.iconst 1, 1) := by decide +kernel
theorem dX6_skipLetters_37 : decode cX6_skipLetters 37 = .ok (.iadd, 1) := by decide +kernel
theorem dX6_skipLetters_38 : decode cX6_skipLetters 38 = .ok (.putfield 28, 3) := by decide +kernel
theorem dX6_skipLetters_41 : decode cX6_skipLetters 41 = .ok (.goto (-36), 3) := by decide +kernel
theorem dX6_skipLetters_44 : decode cX6_skipLetters 44 = .ok (.return_, 1) := by decide +kernel
/-! BusLifts$SetupReader.skipLetters()V -/
noncomputable def f_X6_skipLetters_44  (σ : Sg)  : Option Sg := some σ
noncomputable def f_X6_skipLetters_5  : Nat → Sg → Option Sg
  | 0, _ => none
  | n + 1, σ => if (σ 6 0 3) ≤ (σ 6 0 4) then (f_X6_skipLetters_44 σ) else (if σ 6 0 2 = 0 then none else (if (σ 6 0 4) < 0 ∨ 700 ≤ ((σ 6 0 4)).toNatClampNeg then none else (bi (f_X6_isLetter σ (σ 10 0 ((σ 6 0 4)).toNatClampNeg)) fun r2 σ1 => (if r2 = 0 then (f_X6_skipLetters_44 σ1) else (st (sup σ1 6 0 4 ((σ1 6 0 4) + 1)) fun σ3 => (f_X6_skipLetters_5  n σ3))))))
theorem f_X6_skipLetters_5_s  (n : Nat) (σ : Sg)  : f_X6_skipLetters_5  (n + 1) σ  = (if (σ 6 0 3) ≤ (σ 6 0 4) then (f_X6_skipLetters_44 σ) else (if σ 6 0 2 = 0 then none else (if (σ 6 0 4) < 0 ∨ 700 ≤ ((σ 6 0 4)).toNatClampNeg then none else (bi (f_X6_isLetter σ (σ 10 0 ((σ 6 0 4)).toNatClampNeg)) fun r2 σ1 => (if r2 = 0 then (f_X6_skipLetters_44 σ1) else (st (sup σ1 6 0 4 ((σ1 6 0 4) + 1)) fun σ3 => (f_X6_skipLetters_5  n σ3))))))) := rfl
noncomputable def f_X6_skipLetters  (σ : Sg)  : Option Sg := st (sup σ 6 0 5 1) fun σ1 => (f_X6_skipLetters_5 FU σ1)
set_option maxHeartbeats 4000000 in
set_option maxRecDepth 100000 in
theorem w_X6_skipLetters_44 {p : Program} {l : Launch} {e : Env} {s : State} {m : MethodId} {args : Array Value} {below : List Frame} {meth : Method} {c : Code} {G : Gx} {ad : Ad} {res : Sg} (C : Cx p s m args meth c yX6_skipLetters.cls cX6_skipLetters 1 none G)  : ∀ (σ : Sg)  (H : Heap) (locs : List Loc) (ls : Array Slot), z_S 0 G ad σ (z_A 0 ad s.heap.size) s.heap H locs → lv_has ls 1 [] → f_X6_skipLetters_44  σ  = some res → W p l e { frames := 1, cells := 0, slots := 0, locals := 20 } s m args below meth c H locs 0 0 (MQ below (va_Qv (S := Unit) (fun _ => True) (fun _ t => z_W 0 G ad res t.heap) (z_A 0 ad s.heap.size)) args s 0 0 (z_A 0 ad s.heap.size)) (F0 m 44 ls []) := by
  intro σ  H locs ls S hl  hf
  unfold f_X6_skipLetters_44 at hf
  exact z_vret C S hf dX6_skipLetters_44
set_option maxHeartbeats 4000000 in
set_option maxRecDepth 100000 in
theorem w_X6_skipLetters_5 {p : Program} {l : Launch} {e : Env} {s : State} {m : MethodId} {args : Array Value} {below : List Frame} {meth : Method} {c : Code} {G : Gx} {ad : Ad} {res : Sg} (C : Cx p s m args meth c yX6_skipLetters.cls cX6_skipLetters 1 none G)  : ∀ n : Nat, ∀ (σ : Sg)  (H : Heap) (locs : List Loc) (ls : Array Slot), z_S 0 G ad σ (z_A 0 ad s.heap.size) s.heap H locs → lv_has ls 1 [(0, .ref (ad 6 0))] → f_X6_skipLetters_5  n σ  = some res → W p l e { frames := 1, cells := 0, slots := 0, locals := 20 } s m args below meth c H locs 0 0 (MQ below (va_Qv (S := Unit) (fun _ => True) (fun _ t => z_W 0 G ad res t.heap) (z_A 0 ad s.heap.size)) args s 0 0 (z_A 0 ad s.heap.size)) (F0 m 5 ls []) := by
  intro n
  induction n with
  | zero => intro σ  H locs ls S hl  hf; cases hf
  | succ n ih =>
    intro σ  H locs ls S hl  hf
    rw [f_X6_skipLetters_5_s] at hf
    refine lv_aload_n C.1 C.2.1 dX6_skipLetters_5 rfl (lv_at hl 0 rfl) ?_
    refine z_getI C S 6 0 rfl (by decide) cf_6 4 (by decide) (gi_6_4 G ad 0) tw_2_79 dX6_skipLetters_6 ?_
    refine lv_aload_n C.1 C.2.1 dX6_skipLetters_9 rfl (lv_at hl 0 rfl) ?_
    refine z_getI C S 6 0 rfl (by decide) cf_6 3 (by decide) (gi_6_3 G ad 0) tw_2_78 dX6_skipLetters_10 ?_
    refine lv_icmp_ge (tgt := 44) C.1 C.2.1 dX6_skipLetters_13 (by decide) (fun c_13 => ?_) (fun c_13 => ?_)
    · rw [if_pos c_13] at hf
      exact w_X6_skipLetters_44 C _ _ _ _ S (lv_sub hl [] rfl) hf
    · rw [if_neg c_13] at hf
      refine lv_aload_n C.1 C.2.1 dX6_skipLetters_16 rfl (lv_at hl 0 rfl) ?_
      obtain ⟨g_17, hf⟩ := gd hf
      refine z_getT C S 0 rfl (by decide) cf_6 g_17 tw_2_77 dX6_skipLetters_17 ?_
      refine lv_aload_n C.1 C.2.1 dX6_skipLetters_20 rfl (lv_at hl 0 rfl) ?_
      refine z_getI C S 6 0 rfl (by decide) cf_6 4 (by decide) (gi_6_4 G ad 0) tw_2_79 dX6_skipLetters_21 ?_
      obtain ⟨g_24, hf⟩ := gd hf
      refine z_iald C S 10 0 rfl (by decide) 700 (fun _ => rfl) g_24 dX6_skipLetters_24 ?_
      obtain ⟨r2, σ1, q_25, hf⟩ := bib hf
      refine z_callSI C S [.int (σ 10 0 ((σ 6 0 4)).toNatClampNeg)] (m_X6_isLetter l G ad σ (σ 10 0 ((σ 6 0 4)).toNatClampNeg) r2 σ1 q_25 _) kv_X6_isLetter tw_2_205 ⟨Nat.le_of_ble_eq_true rfl, Nat.le_of_ble_eq_true rfl⟩ rfl rfl (Nat.le_of_ble_eq_true rfl) hl.1 ⟨Nat.le_refl _, Nat.le_refl _⟩ dX6_skipLetters_25 (fun H locs S => ?_)
      refine lv_if_eq (tgt := 44) C.1 C.2.1 dX6_skipLetters_28 (by decide) (fun c_28 => ?_) (fun c_28 => ?_)
      · rw [if_pos c_28] at hf
        exact w_X6_skipLetters_44 C _ _ _ _ S (lv_sub hl [] rfl) hf
      · rw [if_neg c_28] at hf
        refine lv_aload_n C.1 C.2.1 dX6_skipLetters_31 rfl (lv_at hl 0 rfl) ?_
        refine lv_dup C.1 C.2.1 dX6_skipLetters_32 rfl ?_
        refine z_getI C S 6 0 rfl (by decide) cf_6 4 (by decide) (gi_6_4 G ad 0) tw_2_79 dX6_skipLetters_33 ?_
        refine lv_iconst (v := 1) C.1 C.2.1 dX6_skipLetters_36 (by decide) ?_
        refine lv_iadd C.1 C.2.1 dX6_skipLetters_37 ?_
        obtain ⟨σ3, e_38, hf⟩ := stb hf
        refine z_putI C S 6 0 rfl (by decide) cf_6 4 (by decide) (pi_6_4 G ad 0) rfl rfl rfl tw_2_79 dX6_skipLetters_38 (fun H locs S => ?_)
        rw [← e_38] at S
        refine lv_goto (tgt := 5) C.1 C.2.1 dX6_skipLetters_41 (by decide) ?_
        exact ih _  _ _ _ S (lv_sub hl [0] rfl)  hf
set_option maxHeartbeats 4000000 in
set_option maxRecDepth 100000 in
theorem w_X6_skipLetters_0 {p : Program} {l : Launch} {e : Env} {s : State} {m : MethodId} {args : Array Value} {below : List Frame} {meth : Method} {c : Code} {G : Gx} {ad : Ad} {res : Sg} (C : Cx p s m args meth c yX6_skipLetters.cls cX6_skipLetters 1 none G)  : ∀ (σ : Sg)  (H : Heap) (locs : List Loc) (ls : Array Slot), z_S 0 G ad σ (z_A 0 ad s.heap.size) s.heap H locs → lv_has ls 1 [(0, .ref (ad 6 0))] → f_X6_skipLetters  σ  = some res → W p l e { frames := 1, cells := 0, slots := 0, locals := 20 } s m args below meth c H locs 0 0 (MQ below (va_Qv (S := Unit) (fun _ => True) (fun _ t => z_W 0 G ad res t.heap) (z_A 0 ad s.heap.size)) args s 0 0 (z_A 0 ad s.heap.size)) (F0 m 0 ls []) := by
  intro σ  H locs ls S hl  hf
  unfold f_X6_skipLetters at hf
  refine lv_aload_n C.1 C.2.1 dX6_skipLetters_0 rfl (lv_at hl 0 rfl) ?_
  refine lv_iconst (v := 1) C.1 C.2.1 dX6_skipLetters_1 (by decide) ?_
  obtain ⟨σ1, e_2, hf⟩ := stb hf
  refine z_putI C S 6 0 rfl (by decide) cf_6 5 (by decide) (pi_6_5 G ad 0) rfl rfl rfl tw_2_80 dX6_skipLetters_2 (fun H locs S => ?_)
  rw [← e_2] at S
  exact w_X6_skipLetters_5 C FU _ _ _ _ S (lv_sub hl [0] rfl) hf
theorem kv_X6_skipLetters : KV yX6_skipLetters cX6_skipLetters 1 none 0 := ⟨tw_2_211, tw_2_210, tw_p_3, tw_1_8, by decide, by decide, by decide +kernel⟩
theorem m_X6_skipLetters (l : Launch) (G : Gx) (ad : Ad) (σ : Sg)  (σ' : Sg)  (hf : f_X6_skipLetters σ  = some σ') (sz : Nat) : z_MV l yX6_skipLetters cX6_skipLetters 1 none 1 20 0 G ad σ sz [.ref (ad 6 0)] σ' := by
  refine z_begin (by decide +kernel) (Nat.le_of_ble_eq_true rfl) [(0, .ref (ad 6 0))] rfl (fun p e s m args below meth c ls C hz S hl => ?_)
  subst hz
  exact w_X6_skipLetters_0 (res := σ') C σ  _ _ _ S hl  hf

theorem dX6_isDigit_0 : decode cX6_isDigit 0 = .ok (.iload_n 0, 1) := by decide +kernel
theorem dX6_isDigit_1 : decode cX6_isDigit 1 = .ok (.bipush 48, 2) := by decide +kernel
theorem dX6_isDigit_3 : decode cX6_isDigit 3 = .ok (.if_icmp .lt 13, 3) := by decide +kernel
theorem dX6_isDigit_6 : decode cX6_isDigit 6 = .ok (.iload_n 0, 1) := by decide +kernel
theorem dX6_isDigit_7 : decode cX6_isDigit 7 = .ok (.bipush 57, 2) := by decide +kernel
theorem dX6_isDigit_9 : decode cX6_isDigit 9 = .ok (.if_icmp .gt 7, 3) := by decide +kernel
theorem dX6_isDigit_12 : decode cX6_isDigit 12 = .ok (.iconst 1, 1) := by decide +kernel
theorem dX6_isDigit_13 : decode cX6_isDigit 13 = .ok (.goto 4, 3) := by decide +kernel
theorem dX6_isDigit_16 : decode cX6_isDigit 16 = .ok (.iconst 0, 1) := by decide +kernel
theorem dX6_isDigit_17 : decode cX6_isDigit 17 = .ok (.ireturn, 1) := by decide +kernel
/-! BusLifts$SetupReader.isDigit(I)Z -/
noncomputable def f_X6_isDigit_17  (σ : Sg) (v100 : Int32) : Option (Int32 × Sg) := if ¬ (v100 = 0 ∨ v100 = 1) then none else (some (v100, σ))
noncomputable def f_X6_isDigit_16  (σ : Sg)  : Option (Int32 × Sg) := f_X6_isDigit_17 σ 0
noncomputable def f_X6_isDigit  (σ : Sg) (v0 : Int32) : Option (Int32 × Sg) := if v0 < 48 then (f_X6_isDigit_16 σ) else (if 57 < v0 then (f_X6_isDigit_16 σ) else (f_X6_isDigit_17 σ 1))
set_option maxHeartbeats 4000000 in
set_option maxRecDepth 100000 in
theorem w_X6_isDigit_17 {p : Program} {l : Launch} {e : Env} {s : State} {m : MethodId} {args : Array Value} {below : List Frame} {meth : Method} {c : Code} {G : Gx} {ad : Ad} {res : Int32 × Sg} (C : Cx p s m args meth c yX6_isDigit.cls cX6_isDigit 1 (Option.some FieldType.boolean) G)  : ∀ (σ : Sg) (v100 : Int32) (H : Heap) (locs : List Loc) (ls : Array Slot), z_S 0 G ad σ (z_A 0 ad s.heap.size) s.heap H locs → lv_has ls 1 [] → f_X6_isDigit_17  σ v100 = some res → W p l e { frames := 0, cells := 0, slots := 0, locals := 0 } s m args below meth c H locs 0 0 (MQ below (va_Qi (S := Unit) (fun r1 _ => r1 = res.1) (fun _ t => z_W 0 G ad res.2 t.heap) (z_A 0 ad s.heap.size)) args s 0 0 (z_A 0 ad s.heap.size)) (F0 m 17 ls [.int v100]) := by
  intro σ v100 H locs ls S hl  hf
  unfold f_X6_isDigit_17 at hf
  obtain ⟨g_17, hf⟩ := gd hf
  exact z_zret C S (nbz g_17).1 hf dX6_isDigit_17
set_option maxHeartbeats 4000000 in
set_option maxRecDepth 100000 in
theorem w_X6_isDigit_16 {p : Program} {l : Launch} {e : Env} {s : State} {m : MethodId} {args : Array Value} {below : List Frame} {meth : Method} {c : Code} {G : Gx} {ad : Ad} {res : Int32 × Sg} (C : Cx p s m args meth c yX6_isDigit.cls cX6_isDigit 1 (Option.some FieldType.boolean) G)  : ∀ (σ : Sg)  (H : Heap) (locs : List Loc) (ls : Array Slot), z_S 0 G ad σ (z_A 0 ad s.heap.size) s.heap H locs → lv_has ls 1 [] → f_X6_isDigit_16  σ  = some res → W p l e { frames := 0, cells := 0, slots := 0, locals := 0 } s m args below meth c H locs 0 0 (MQ below (va_Qi (S := Unit) (fun r1 _ => r1 = res.1) (fun _ t => z_W 0 G ad res.2 t.heap) (z_A 0 ad s.heap.size)) args s 0 0 (z_A 0 ad s.heap.size)) (F0 m 16 ls []) := by
  intro σ  H locs ls S hl  hf
  unfold f_X6_isDigit_16 at hf
  refine lv_iconst (v := 0) C.1 C.2.1 dX6_isDigit_16 (by decide) ?_
  exact w_X6_isDigit_17 C _ 0 _ _ _ S (lv_sub hl [] rfl) hf
set_option maxHeartbeats 4000000 in
set_option maxRecDepth 100000 in
theorem w_X6_isDigit_0 {p : Program} {l : Launch} {e : Env} {s : State} {m : MethodId} {args : Array Value} {below : List Frame} {meth : Method} {c : Code} {G : Gx} {ad : Ad} {res : Int32 × Sg} (C : Cx p s m args meth c yX6_isDigit.cls cX6_isDigit 1 (Option.some FieldType.boolean) G)  : ∀ (σ : Sg) (v0 : Int32) (H : Heap) (locs : List Loc) (ls : Array Slot), z_S 0 G ad σ (z_A 0 ad s.heap.size) s.heap H locs → lv_has ls 1 [(0, .int v0)] → f_X6_isDigit  σ v0 = some res → W p l e { frames := 0, cells := 0, slots := 0, locals := 0 } s m args below meth c H locs 0 0 (MQ below (va_Qi (S := Unit) (fun r1 _ => r1 = res.1) (fun _ t => z_W 0 G ad res.2 t.heap) (z_A 0 ad s.heap.size)) args s 0 0 (z_A 0 ad s.heap.size)) (F0 m 0 ls []) := by
  intro σ v0 H locs ls S hl  hf
  unfold f_X6_isDigit at hf
  refine lv_iload_n C.1 C.2.1 dX6_isDigit_0 rfl (lv_at hl 0 rfl) ?_
  refine lv_bipush (v := 48) C.1 C.2.1 dX6_isDigit_1 (by decide) ?_
  refine lv_icmp_lt (tgt := 16) C.1 C.2.1 dX6_isDigit_3 (by decide) (fun c_3 => ?_) (fun c_3 => ?_)
  · rw [if_pos c_3] at hf
    exact w_X6_isDigit_16 C _ _ _ _ S (lv_sub hl [] rfl) hf
  · rw [if_neg c_3] at hf
    refine lv_iload_n C.1 C.2.1 dX6_isDigit_6 rfl (lv_at hl 0 rfl) ?_
    refine lv_bipush (v := 57) C.1 C.2.1 dX6_isDigit_7 (by decide) ?_
    refine lv_icmp_gt (tgt := 16) C.1 C.2.1 dX6_isDigit_9 (by decide) (fun c_9 => ?_) (fun c_9 => ?_)
    · rw [if_pos c_9] at hf
      exact w_X6_isDigit_16 C _ _ _ _ S (lv_sub hl [] rfl) hf
    · rw [if_neg c_9] at hf
      refine lv_iconst (v := 1) C.1 C.2.1 dX6_isDigit_12 (by decide) ?_
      refine lv_goto (tgt := 17) C.1 C.2.1 dX6_isDigit_13 (by decide) ?_
      exact w_X6_isDigit_17 C _ 1 _ _ _ S (lv_sub hl [] rfl) hf
theorem kv_X6_isDigit : KS yX6_isDigit cX6_isDigit 1 (Option.some FieldType.boolean) 1 := ⟨tw_2_214, tw_2_213, tw_1_8, by decide, by decide, by decide +kernel⟩
theorem m_X6_isDigit (l : Launch) (G : Gx) (ad : Ad) (σ : Sg) (v0 : Int32) (r : Int32) (σ' : Sg)  (hf : f_X6_isDigit σ v0 = some (r, σ')) (sz : Nat) : z_MI l yX6_isDigit cX6_isDigit 1 (Option.some FieldType.boolean) 0 0 0 G ad σ sz [.int v0] r σ' := by
  refine z_begin (by decide +kernel) (Nat.le_of_ble_eq_true rfl) [(0, .int v0)] rfl (fun p e s m args below meth c ls C hz S hl => ?_)
  subst hz
  exact w_X6_isDigit_0 (res := (r, σ')) C σ v0 _ _ _ S hl  hf

theorem dX6_skipDigits_0 : decode cX6_skipDigits 0 = .ok (.aload_n 0, 1) := by decide +kernel
theorem dX6_skipDigits_1 : decode cX6_skipDigits 1 = .ok (.iconst 0, 1) := by decide +kernel
theorem dX6_skipDigits_2 : decode cX6_skipDigits 2 = .ok (.putfield 72, 3) := by decide +kernel
theorem dX6_skipDigits_5 : decode cX6_skipDigits 5 = .ok (.aload_n 0, 1) := by decide +kernel
theorem dX6_skipDigits_6 : decode cX6_skipDigits 6 = .ok (.getfield 28, 3) := by decide +kernel
theorem dX6_skipDigits_9 : decode cX6_skipDigits 9 = .ok (.aload_n 0, 1) := by decide +kernel
theorem dX6_skipDigits_10 : decode cX6_skipDigits 10 = .ok (.getfield 24, 3) := by decide +kernel
theorem dX6_skipDigits_13 : decode cX6_skipDigits 13 = .ok (.if_icmp .ge 68, 3) := by decide +kernel
theorem dX6_skipDigits_16 : decode cX6_skipDigits 16 = .ok (.aload_n 0, 1) := by decide +kernel
theorem dX6_skipDigits_17 : decode cX6_skipDigits 17 = .ok (.getfield 9, 3) := by decide +kernel
theorem dX6_skipDigits_20 : decode cX6_skipDigits 20 = .ok (.aload_n 0, 1) := by decide +kernel
theorem dX6_skipDigits_21 : decode cX6_skipDigits 21 = .ok (.getfield 28, 3) := by decide +kernel
theorem dX6_skipDigits_24 : decode cX6_skipDigits 24 = .ok (.iaload, 1) := by decide +kernel
theorem dX6_skipDigits_25 : decode cX6_skipDigits 25 = .ok (.invokestatic 157, 3) := by decide +kernel
theorem dX6_skipDigits_28 : decode cX6_skipDigits 28 = .ok (.ifCond .eq 53, 3) := by decide +kernel
theorem dX6_skipDigits_31 : decode cX6_skipDigits 31 = .ok (.aload_n 0, 1) := by decide +kernel
theorem dX6_skipDigits_32 : decode cX6_skipDigits 32 = .ok (.getfield 28, 3) := by decide +kernel
theorem dX6_skipDigits_35 : decode cX6_skipDigits 35 = .ok (.aload_n 0, 1) := by decide +kernel
theorem dX6_skipDigits_36 : decode cX6_skipDigits 36 = .ok (.getfield 137, 3) := by decide +kernel
theorem dX6_skipDigits_39 : decode cX6_skipDigits 39 = .ok (.isub, 1) := by decide +kernel
theorem dX6_skipDigits_40 : decode cX6_skipDigits 40 = .ok (.iconst 4, 1) := by decide +kernel
theorem dX6_skipDigits_41 : decode cX6_skipDigits 41 = .ok (.if_icmp .ge 27, 3) := by decide +kernel
theorem dX6_skipDigits_44 : decode cX6_skipDigits 44 = .ok (.aload_n 0, 1) := by decide +kernel
theorem dX6_skipDigits_45 : decode cX6_skipDigits 45 = .ok (.bipush 10, 2) := by decide +kernel
theorem dX6_skipDigits_47 : decode cX6_skipDigits 47 = .ok (.aload_n 0, 1) := by decide +kernel
theorem dX6_skipDigits_48 : decode cX6_skipDigits 48 = .ok (.getfield 72, 3) := by decide +kernel
theorem dX6_skipDigits_51 : decode cX6_skipDigits 51 = .ok (.imul, 1) := by decide +kernel
theorem dX6_skipDigits_52 : decode cX6_skipDigits 52 = .ok (.aload_n 0, 1) := by decide +kernel
theorem dX6_skipDigits_53 : decode cX6_skipDigits 53 = .ok (.getfield 9, 3) := by decide +kernel
theorem dX6_skipDigits_56 : decode cX6_skipDigits 56 = .ok (.aload_n 0, 1) := by decide +kernel
theorem dX6_skipDigits_57 : decode cX6_skipDigits 57 = .ok (.getfield 28, 3) := by decide +kernel
theorem dX6_skipDigits_60 : decode cX6_skipDigits 60 = .ok (.iaload, 1) := by decide +kernel
theorem dX6_skipDigits_61 : decode cX6_skipDigits 61 = .ok (.iadd, 1) := by decide +kernel
theorem dX6_skipDigits_62 : decode cX6_skipDigits 62 = .ok (.bipush 48, 2) := by decide +kernel
theorem dX6_skipDigits_64 : decode cX6_skipDigits 64 = .ok (.isub, 1) := by decide +kernel
theorem dX6_skipDigits_65 : decode cX6_skipDigits 65 = .ok (.putfield 72, 3) := by decide +kernel
theorem dX6_skipDigits_68 : decode cX6_skipDigits 68 = .ok (.aload_n 0, 1) := by decide +kernel
theorem dX6_skipDigits_69 : decode cX6_skipDigits 69 = .ok (.dup, 1) := by decide +kernel
theorem dX6_skipDigits_70 : decode cX6_skipDigits 70 = .ok (.getfield 28, 3) := by decide +kernel
theorem dX6_skipDigits_73 : decode cX6_skipDigits 73 = .ok (.iconst 1, 1) := by decide +kernel
theorem dX6_skipDigits_74 : decode cX6_skipDigits 74 = .ok (.iadd, 1) := by decide +kernel
theorem dX6_skipDigits_75 : decode cX6_skipDigits 75 = .ok (.putfield 28, 3) := by decide +kernel
theorem dX6_skipDigits_78 : decode cX6_skipDigits 78 = .ok (.goto (-73), 3) := by decide +kernel
theorem dX6_skipDigits_81 : decode cX6_skipDigits 81 = .ok (.aload_n 0, 1) := by decide +kernel
theorem dX6_skipDigits_82 : decode cX6_skipDigits 82 = .ok (.aload_n 0, 1) := by decide +kernel
theorem dX6_skipDigits_83 : decode cX6_skipDigits 83 = .ok (.getfield 28, 3) := by decide +kernel
theorem dX6_skipDigits_86 : decode cX6_skipDigits 86 = .ok (.aload_n 0, 1) := by decide +kernel
theorem dX6_skipDigits_87 : decode cX6_skipDigits 87 = .ok (.getfield 137, 3) := by decide +kernel
theorem dX6_skipDigits_90 : decode cX6_skipDigits 90 = .ok (.isub, 1) := by decide +kernel
theorem dX6_skipDigits_91 : decode cX6_skipDigits 91 = .ok (.iconst 4, 1) := by decide +kernel
theorem dX6_skipDigits_92 : decode cX6_skipDigits 92 = .ok (.if_icmp .gt 7, 3) := by decide +kernel
theorem dX6_skipDigits_95 : decode cX6_skipDigits 95 = .ok (.iconst 2, 1) := by decide +kernel
theorem dX6_skipDigits_96 : decode cX6_skipDigits 96 = .ok (.goto 4, 3) := by decide +kernel
theorem dX6_skipDigits_99 : decode cX6_skipDigits 99 = .ok (.iconst 4, 1) := by decide +kernel
theorem dX6_skipDigits_100 : decode cX6_skipDigits 100 = .ok (.putfield 47, 3) := by decide +kernel
theorem dX6_skipDigits_103 : decode cX6_skipDigits 103 = .ok (.return_, 1) := by decide +kernel
/-! BusLifts$SetupReader.skipDigits()V -/
noncomputable def f_X6_skipDigits_100  (σ : Sg) (v101 : Int32) : Option Sg := st (sup σ 6 0 5 v101) fun σ1 => (some σ1)
noncomputable def f_X6_skipDigits_81  (σ : Sg)  : Option Sg := if 4 < ((σ 6 0 4) - (σ 6 0 6)) then (f_X6_skipDigits_100 σ 4) else (f_X6_skipDigits_100 σ 2)
noncomputable def f_X6_skipDigits_68 (k5 : Sg → Option Sg) (σ : Sg)  : Option Sg := st (sup σ 6 0 4 ((σ 6 0 4) + 1)) fun σ1 => (k5 σ1)
noncomputable def f_X6_skipDigits_5  : Nat → Sg → Option Sg
  | 0, _ => none
  | n + 1, σ => if (σ 6 0 3) ≤ (σ 6 0 4) then (f_X6_skipDigits_81 σ) else (if σ 6 0 2 = 0 then none else (if (σ 6 0 4) < 0 ∨ 700 ≤ ((σ 6 0 4)).toNatClampNeg then none else (bi (f_X6_isDigit σ (σ 10 0 ((σ 6 0 4)).toNatClampNeg)) fun r2 σ1 => (if r2 = 0 then (f_X6_skipDigits_81 σ1) else (if 4 ≤ ((σ1 6 0 4) - (σ1 6 0 6)) then (f_X6_skipDigits_68 (f_X6_skipDigits_5 n) σ1) else (if σ1 6 0 2 = 0 then none else (if (σ1 6 0 4) < 0 ∨ 700 ≤ ((σ1 6 0 4)).toNatClampNeg then none else (st (sup σ1 6 0 7 (((10 * (σ1 6 0 7)) + (σ1 10 0 ((σ1 6 0 4)).toNatClampNeg)) - 48)) fun σ3 => (f_X6_skipDigits_68 (f_X6_skipDigits_5 n) σ3)))))))))
theorem f_X6_skipDigits_5_s  (n : Nat) (σ : Sg)  : f_X6_skipDigits_5  (n + 1) σ  = (if (σ 6 0 3) ≤ (σ 6 0 4) then (f_X6_skipDigits_81 σ) else (if σ 6 0 2 = 0 then none else (if (σ 6 0 4) < 0 ∨ 700 ≤ ((σ 6 0 4)).toNatClampNeg then none else (bi (f_X6_isDigit σ (σ 10 0 ((σ 6 0 4)).toNatClampNeg)) fun r2 σ1 => (if r2 = 0 then (f_X6_skipDigits_81 σ1) else (if 4 ≤ ((σ1 6 0 4) - (σ1 6 0 6)) then (f_X6_skipDigits_68 (f_X6_skipDigits_5 n) σ1) else (if σ1 6 0 2 = 0 then none else (if (σ1 6 0 4) < 0 ∨ 700 ≤ ((σ1 6 0 4)).toNatClampNeg then none else (st (sup σ1 6 0 7 (((10 * (σ1 6 0 7)) + (σ1 10 0 ((σ1 6 0 4)).toNatClampNeg)) - 48)) fun σ3 => (f_X6_skipDigits_68 (f_X6_skipDigits_5 n) σ3)))))))))) := rfl
noncomputable def f_X6_skipDigits  (σ : Sg)  : Option Sg := st (sup σ 6 0 7 0) fun σ1 => (f_X6_skipDigits_5 FU σ1)
set_option maxHeartbeats 4000000 in
set_option maxRecDepth 100000 in
theorem w_X6_skipDigits_100 {p : Program} {l : Launch} {e : Env} {s : State} {m : MethodId} {args : Array Value} {below : List Frame} {meth : Method} {c : Code} {G : Gx} {ad : Ad} {res : Sg} (C : Cx p s m args meth c yX6_skipDigits.cls cX6_skipDigits 1 none G)  : ∀ (σ : Sg) (v101 : Int32) (H : Heap) (locs : List Loc) (ls : Array Slot), z_S 0 G ad σ (z_A 0 ad s.heap.size) s.heap H locs → lv_has ls 1 [] → f_X6_skipDigits_100  σ v101 = some res → W p l e { frames := 1, cells := 0, slots := 0, locals := 20 } s m args below meth c H locs 0 0 (MQ below (va_Qv (S := Unit) (fun _ => True) (fun _ t => z_W 0 G ad res t.heap) (z_A 0 ad s.heap.size)) args s 0 0 (z_A 0 ad s.heap.size)) (F0 m 100 ls [.int v101, .ref (ad 6 0)]) := by
  intro σ v101 H locs ls S hl  hf
  unfold f_X6_skipDigits_100 at hf
  obtain ⟨σ1, e_100, hf⟩ := stb hf
  refine z_putI C S 6 0 rfl (by decide) cf_6 5 (by decide) (pi_6_5 G ad 0) rfl rfl rfl tw_2_80 dX6_skipDigits_100 (fun H locs S => ?_)
  rw [← e_100] at S
  exact z_vret C S hf dX6_skipDigits_103
set_option maxHeartbeats 4000000 in
set_option maxRecDepth 100000 in
theorem w_X6_skipDigits_81 {p : Program} {l : Launch} {e : Env} {s : State} {m : MethodId} {args : Array Value} {below : List Frame} {meth : Method} {c : Code} {G : Gx} {ad : Ad} {res : Sg} (C : Cx p s m args meth c yX6_skipDigits.cls cX6_skipDigits 1 none G)  : ∀ (σ : Sg)  (H : Heap) (locs : List Loc) (ls : Array Slot), z_S 0 G ad σ (z_A 0 ad s.heap.size) s.heap H locs → lv_has ls 1 [(0, .ref (ad 6 0))] → f_X6_skipDigits_81  σ  = some res → W p l e { frames := 1, cells := 0, slots := 0, locals := 20 } s m args below meth c H locs 0 0 (MQ below (va_Qv (S := Unit) (fun _ => True) (fun _ t => z_W 0 G ad res t.heap) (z_A 0 ad s.heap.size)) args s 0 0 (z_A 0 ad s.heap.size)) (F0 m 81 ls []) := by
  intro σ  H locs ls S hl  hf
  unfold f_X6_skipDigits_81 at hf
  refine lv_aload_n C.1 C.2.1 dX6_skipDigits_81 rfl (lv_at hl 0 rfl) ?_
  refine lv_aload_n C.1 C.2.1 dX6_skipDigits_82 rfl (lv_at hl 0 rfl) ?_
  refine z_getI C S 6 0 rfl (by decide) cf_6 4 (by decide) (gi_6_4 G ad 0) tw_2_79 dX6_skipDigits_83 ?_
  refine lv_aload_n C.1 C.2.1 dX6_skipDigits_86 rfl (lv_at hl 0 rfl) ?_
  refine z_getI C S 6 0 rfl (by decide) cf_6 6 (by decide) (gi_6_6 G ad 0) tw_2_81 dX6_skipDigits_87 ?_
  refine lv_isub C.1 C.2.1 dX6_skipDigits_90 ?_
  refine lv_iconst (v := 4) C.1 C.2.1 dX6_skipDigits_91 (by decide) ?_
  refine lv_icmp_gt (tgt := 99) C.1 C.2.1 dX6_skipDigits_92 (by decide) (fun c_92 => ?_) (fun c_92 => ?_)
  · rw [if_pos c_92] at hf
    refine lv_iconst (v := 4) C.1 C.2.1 dX6_skipDigits_99 (by decide) ?_
    exact w_X6_skipDigits_100 C _ 4 _ _ _ S (lv_sub hl [] rfl) hf
  · rw [if_neg c_92] at hf
    refine lv_iconst (v := 2) C.1 C.2.1 dX6_skipDigits_95 (by decide) ?_
    refine lv_goto (tgt := 100) C.1 C.2.1 dX6_skipDigits_96 (by decide) ?_
    exact w_X6_skipDigits_100 C _ 2 _ _ _ S (lv_sub hl [] rfl) hf
set_option maxHeartbeats 4000000 in
set_option maxRecDepth 100000 in
theorem w_X6_skipDigits_68 {p : Program} {l : Launch} {e : Env} {s : State} {m : MethodId} {args : Array Value} {below : List Frame} {meth : Method} {c : Code} {G : Gx} {ad : Ad} {res : Sg} (C : Cx p s m args meth c yX6_skipDigits.cls cX6_skipDigits 1 none G) (k5 : Sg → Option Sg) (hk5 : ∀ (σ : Sg)  (H : Heap) (locs : List Loc) (ls : Array Slot), z_S 0 G ad σ (z_A 0 ad s.heap.size) s.heap H locs → lv_has ls 1 [(0, .ref (ad 6 0))] → k5 σ  = some res → W p l e { frames := 1, cells := 0, slots := 0, locals := 20 } s m args below meth c H locs 0 0 (MQ below (va_Qv (S := Unit) (fun _ => True) (fun _ t => z_W 0 G ad res t.heap) (z_A 0 ad s.heap.size)) args s 0 0 (z_A 0 ad s.heap.size)) (F0 m 5 ls [])) : ∀ (σ : Sg)  (H : Heap) (locs : List Loc) (ls : Array Slot), z_S 0 G ad σ (z_A 0 ad s.heap.size) s.heap H locs → lv_has ls 1 [(0, .ref (ad 6 0))] → f_X6_skipDigits_68 k5 σ  = some res → W p l e { frames := 1, cells := 0, slots := 0, locals := 20 } s m args below meth c H locs 0 0 (MQ below (va_Qv (S := Unit) (fun _ => True) (fun _ t => z_W 0 G ad res t.heap) (z_A 0 ad s.heap.size)) args s 0 0 (z_A 0 ad s.heap.size)) (F0 m 68 ls []) := by
  intro σ  H locs ls S hl  hf
  unfold f_X6_skipDigits_68 at hf
  refine lv_aload_n C.1 C.2.1 dX6_skipDigits_68 rfl (lv_at hl 0 rfl) ?_
  refine lv_dup C.1 C.2.1 dX6_skipDigits_69 rfl ?_
  refine z_getI C S 6 0 rfl (by decide) cf_6 4 (by decide) (gi_6_4 G ad 0) tw_2_79 dX6_skipDigits_70 ?_
  refine lv_iconst (v := 1) C.1 C.2.1 dX6_skipDigits_73 (by decide) ?_
  refine lv_iadd C.1 C.2.1 dX6_skipDigits_74 ?_
  obtain ⟨σ1, e_75, hf⟩ := stb hf
  refine z_putI C S 6 0 rfl (by decide) cf_6 4 (by decide) (pi_6_4 G ad 0) rfl rfl rfl tw_2_79 dX6_skipDigits_75 (fun H locs S => ?_)
  rw [← e_75] at S
  refine lv_goto (tgt := 5) C.1 C.2.1 dX6_skipDigits_78 (by decide) ?_
  exact hk5 _  _ _ _ S (lv_sub hl [0] rfl)  hf
set_option maxHeartbeats 4000000 in
set_option maxRecDepth 100000 in
theorem w_X6_skipDigits_5 {p : Program} {l : Launch} {e : Env} {s : State} {m : MethodId} {args : Array Value} {below : List Frame} {meth : Method} {c : Code} {G : Gx} {ad : Ad} {res : Sg} (C : Cx p s m args meth c yX6_skipDigits.cls cX6_skipDigits 1 none G)  : ∀ n : Nat, ∀ (σ : Sg)  (H : Heap) (locs : List Loc) (ls : Array Slot), z_S 0 G ad σ (z_A 0 ad s.heap.size) s.heap H locs → lv_has ls 1 [(0, .ref (ad 6 0))] → f_X6_skipDigits_5  n σ  = some res → W p l e { frames := 1, cells := 0, slots := 0, locals := 20 } s m args below meth c H locs 0 0 (MQ below (va_Qv (S := Unit) (fun _ => True) (fun _ t => z_W 0 G ad res t.heap) (z_A 0 ad s.heap.size)) args s 0 0 (z_A 0 ad s.heap.size)) (F0 m 5 ls []) := by
  intro n
  induction n with
  | zero => intro σ  H locs ls S hl  hf; cases hf
  | succ n ih =>
    intro σ  H locs ls S hl  hf
    rw [f_X6_skipDigits_5_s] at hf
    refine lv_aload_n C.1 C.2.1 dX6_skipDigits_5 rfl (lv_at hl 0 rfl) ?_
    refine z_getI C S 6 0 rfl (by decide) cf_6 4 (by decide) (gi_6_4 G ad 0) tw_2_79 dX6_skipDigits_6 ?_
    refine lv_aload_n C.1 C.2.1 dX6_skipDigits_9 rfl (lv_at hl 0 rfl) ?_
    refine z_getI C S 6 0 rfl (by decide) cf_6 3 (by decide) (gi_6_3 G ad 0) tw_2_78 dX6_skipDigits_10 ?_
    refine lv_icmp_ge (tgt := 81) C.1 C.2.1 dX6_skipDigits_13 (by decide) (fun c_13 => ?_) (fun c_13 => ?_)
    · rw [if_pos c_13] at hf
      exact w_X6_skipDigits_81 C _ _ _ _ S (lv_sub hl [0] rfl) hf
    · rw [if_neg c_13] at hf
      refine lv_aload_n C.1 C.2.1 dX6_skipDigits_16 rfl (lv_at hl 0 rfl) ?_
      obtain ⟨g_17, hf⟩ := gd hf
      refine z_getT C S 0 rfl (by decide) cf_6 g_17 tw_2_77 dX6_skipDigits_17 ?_
      refine lv_aload_n C.1 C.2.1 dX6_skipDigits_20 rfl (lv_at hl 0 rfl) ?_
      refine z_getI C S 6 0 rfl (by decide) cf_6 4 (by decide) (gi_6_4 G ad 0) tw_2_79 dX6_skipDigits_21 ?_
      obtain ⟨g_24, hf⟩ := gd hf
      refine z_iald C S 10 0 rfl (by decide) 700 (fun _ => rfl) g_24 dX6_skipDigits_24 ?_
      obtain ⟨r2, σ1, q_25, hf⟩ := bib hf
      refine z_callSI C S [.int (σ 10 0 ((σ 6 0 4)).toNatClampNeg)] (m_X6_isDigit l G ad σ (σ 10 0 ((σ 6 0 4)).toNatClampNeg) r2 σ1 q_25 _) kv_X6_isDigit tw_2_212 ⟨Nat.le_of_ble_eq_true rfl, Nat.le_of_ble_eq_true rfl⟩ rfl rfl (Nat.le_of_ble_eq_true rfl) hl.1 ⟨Nat.le_refl _, Nat.le_refl _⟩ dX6_skipDigits_25 (fun H locs S => ?_)
      refine lv_if_eq (tgt := 81) C.1 C.2.1 dX6_skipDigits_28 (by decide) (fun c_28 => ?_) (fun c_28 => ?_)
      · rw [if_pos c_28] at hf
        exact w_X6_skipDigits_81 C _ _ _ _ S (lv_sub hl [0] rfl) hf
      · rw [if_neg c_28] at hf
        refine lv_aload_n C.1 C.2.1 dX6_skipDigits_31 rfl (lv_at hl 0 rfl) ?_
        refine z_getI C S 6 0 rfl (by decide) cf_6 4 (by decide) (gi_6_4 G ad 0) tw_2_79 dX6_skipDigits_32 ?_
        refine lv_aload_n C.1 C.2.1 dX6_skipDigits_35 rfl (lv_at hl 0 rfl) ?_
        refine z_getI C S 6 0 rfl (by decide) cf_6 6 (by decide) (gi_6_6 G ad 0) tw_2_81 dX6_skipDigits_36 ?_
        refine lv_isub C.1 C.2.1 dX6_skipDigits_39 ?_
        refine lv_iconst (v := 4) C.1 C.2.1 dX6_skipDigits_40 (by decide) ?_
        refine lv_icmp_ge (tgt := 68) C.1 C.2.1 dX6_skipDigits_41 (by decide) (fun c_41 => ?_) (fun c_41 => ?_)
        · rw [if_pos c_41] at hf
          exact w_X6_skipDigits_68 C (f_X6_skipDigits_5 n) ih _ _ _ _ S (lv_sub hl [0] rfl) hf
        · rw [if_neg c_41] at hf
          refine lv_aload_n C.1 C.2.1 dX6_skipDigits_44 rfl (lv_at hl 0 rfl) ?_
          refine lv_bipush (v := 10) C.1 C.2.1 dX6_skipDigits_45 (by decide) ?_
          refine lv_aload_n C.1 C.2.1 dX6_skipDigits_47 rfl (lv_at hl 0 rfl) ?_
          refine z_getI C S 6 0 rfl (by decide) cf_6 7 (by decide) (gi_6_7 G ad 0) tw_2_82 dX6_skipDigits_48 ?_
          refine lv_imul C.1 C.2.1 dX6_skipDigits_51 ?_
          refine lv_aload_n C.1 C.2.1 dX6_skipDigits_52 rfl (lv_at hl 0 rfl) ?_
          obtain ⟨g_53, hf⟩ := gd hf
          refine z_getT C S 0 rfl (by decide) cf_6 g_53 tw_2_77 dX6_skipDigits_53 ?_
          refine lv_aload_n C.1 C.2.1 dX6_skipDigits_56 rfl (lv_at hl 0 rfl) ?_
          refine z_getI C S 6 0 rfl (by decide) cf_6 4 (by decide) (gi_6_4 G ad 0) tw_2_79 dX6_skipDigits_57 ?_
          obtain ⟨g_60, hf⟩ := gd hf
          refine z_iald C S 10 0 rfl (by decide) 700 (fun _ => rfl) g_60 dX6_skipDigits_60 ?_
          refine lv_iadd C.1 C.2.1 dX6_skipDigits_61 ?_
          refine lv_bipush (v := 48) C.1 C.2.1 dX6_skipDigits_62 (by decide) ?_
          refine lv_isub C.1 C.2.1 dX6_skipDigits_64 ?_
          obtain ⟨σ3, e_65, hf⟩ := stb hf
          refine z_putI C S 6 0 rfl (by decide) cf_6 7 (by decide) (pi_6_7 G ad 0) rfl rfl rfl tw_2_82 dX6_skipDigits_65 (fun H locs S => ?_)
          rw [← e_65] at S
          exact w_X6_skipDigits_68 C (f_X6_skipDigits_5 n) ih _ _ _ _ S (lv_sub hl [0] rfl) hf
set_option maxHeartbeats 4000000 in
set_option maxRecDepth 100000 in
theorem w_X6_skipDigits_0 {p : Program} {l : Launch} {e : Env} {s : State} {m : MethodId} {args : Array Value} {below : List Frame} {meth : Method} {c : Code} {G : Gx} {ad : Ad} {res : Sg} (C : Cx p s m args meth c yX6_skipDigits.cls cX6_skipDigits 1 none G)  : ∀ (σ : Sg)  (H : Heap) (locs : List Loc) (ls : Array Slot), z_S 0 G ad σ (z_A 0 ad s.heap.size) s.heap H locs → lv_has ls 1 [(0, .ref (ad 6 0))] → f_X6_skipDigits  σ  = some res → W p l e { frames := 1, cells := 0, slots := 0, locals := 20 } s m args below meth c H locs 0 0 (MQ below (va_Qv (S := Unit) (fun _ => True) (fun _ t => z_W 0 G ad res t.heap) (z_A 0 ad s.heap.size)) args s 0 0 (z_A 0 ad s.heap.size)) (F0 m 0 ls []) := by
  intro σ  H locs ls S hl  hf
  unfold f_X6_skipDigits at hf
  refine lv_aload_n C.1 C.2.1 dX6_skipDigits_0 rfl (lv_at hl 0 rfl) ?_
  refine lv_iconst (v := 0) C.1 C.2.1 dX6_skipDigits_1 (by decide) ?_
  obtain ⟨σ1, e_2, hf⟩ := stb hf
  refine z_putI C S 6 0 rfl (by decide) cf_6 7 (by decide) (pi_6_7 G ad 0) rfl rfl rfl tw_2_82 dX6_skipDigits_2 (fun H locs S => ?_)
  rw [← e_2] at S
  exact w_X6_skipDigits_5 C FU _ _ _ _ S (lv_sub hl [0] rfl) hf
theorem kv_X6_skipDigits : KV yX6_skipDigits cX6_skipDigits 1 none 0 := ⟨tw_2_218, tw_2_217, tw_p_4, tw_1_8, by decide, by decide, by decide +kernel⟩
theorem m_X6_skipDigits (l : Launch) (G : Gx) (ad : Ad) (σ : Sg)  (σ' : Sg)  (hf : f_X6_skipDigits σ  = some σ') (sz : Nat) : z_MV l yX6_skipDigits cX6_skipDigits 1 none 1 20 0 G ad σ sz [.ref (ad 6 0)] σ' := by
  refine z_begin (by decide +kernel) (Nat.le_of_ble_eq_true rfl) [(0, .ref (ad 6 0))] rfl (fun p e s m args below meth c ls C hz S hl => ?_)
  subst hz
  exact w_X6_skipDigits_0 (res := σ') C σ  _ _ _ S hl  hf

theorem dX6_nextToken_0 : decode cX6_nextToken 0 = .ok (.aload_n 0, 1) := by decide +kernel
theorem dX6_nextToken_1 : decode cX6_nextToken 1 = .ok (.getfield 28, 3) := by decide +kernel
theorem dX6_nextToken_4 : decode cX6_nextToken 4 = .ok (.aload_n 0, 1) := by decide +kernel
theorem dX6_nextToken_5 : decode cX6_nextToken 5 = .ok (.getfield 24, 3) := by decide +kernel
theorem dX6_nextToken_8 : decode cX6_nextToken 8 = .ok (.if_icmp .ge 31, 3) := by decide +kernel
theorem dX6_nextToken_11 : decode cX6_nextToken 11 = .ok (.aload_n 0, 1) := by decide +kernel
theorem dX6_nextToken_12 : decode cX6_nextToken 12 = .ok (.getfield 9, 3) := by decide +kernel
theorem dX6_nextToken_15 : decode cX6_nextToken 15 = .ok (.aload_n 0, 1) := by decide +kernel
theorem dX6_nextToken_16 : decode cX6_nextToken 16 = .ok (.getfield 28, 3) := by decide +kernel
theorem dX6_nextToken_19 : decode cX6_nextToken 19 = .ok (.iaload, 1) := by decide +kernel
theorem dX6_nextToken_20 : decode cX6_nextToken 20 = .ok (.invokestatic 148, 3) := by decide +kernel
theorem dX6_nextToken_23 : decode cX6_nextToken 23 = .ok (.ifCond .eq 16, 3) := by decide +kernel
theorem dX6_nextToken_26 : decode cX6_nextToken 26 = .ok (.aload_n 0, 1) := by decide +kernel
theorem dX6_nextToken_27 : decode cX6_nextToken 27 = .ok (.dup, 1) := by decide +kernel
theorem dX6_nextToken_28 : decode cX6_nextToken 28 = .ok (.getfield 28, 3) := by decide +kernel
theorem dX6_nextToken_31 : decode cX6_nextToken 31 = .ok (.iconst 1, 1) := by decide +kernel
theorem dX6_nextToken_32 : decode cX6_nextToken 32 = .ok (.iadd, 1) := by decide +kernel
theorem dX6_nextToken_33 : decode cX6_nextToken 33 = .ok (.putfield 28, 3) := by decide +kernel
theorem dX6_nextToken_36 : decode cX6_nextToken 36 = .ok (.goto (-36), 3) := by decide +kernel
theorem dX6_nextToken_39 : decode cX6_nextToken 39 = .ok (.aload_n 0, 1) := by decide +kernel
theorem dX6_nextToken_40 : decode cX6_nextToken 40 = .ok (.aload_n 0, 1) := by decide +kernel
theorem dX6_nextToken_41 : decode cX6_nextToken 41 = .ok (.getfield 28, 3) := by decide +kernel
theorem dX6_nextToken_44 : decode cX6_nextToken 44 = .ok (.putfield 137, 3) := by decide +kernel
theorem dX6_nextToken_47 : decode cX6_nextToken 47 = .ok (.aload_n 0, 1) := by decide +kernel
theorem dX6_nextToken_48 : decode cX6_nextToken 48 = .ok (.getfield 28, 3) := by decide +kernel
theorem dX6_nextToken_51 : decode cX6_nextToken 51 = .ok (.aload_n 0, 1) := by decide +kernel
theorem dX6_nextToken_52 : decode cX6_nextToken 52 = .ok (.getfield 24, 3) := by decide +kernel
theorem dX6_nextToken_55 : decode cX6_nextToken 55 = .ok (.if_icmp .lt 11, 3) := by decide +kernel
theorem dX6_nextToken_58 : decode cX6_nextToken 58 = .ok (.aload_n 0, 1) := by decide +kernel
theorem dX6_nextToken_59 : decode cX6_nextToken 59 = .ok (.iconst 0, 1) := by decide +kernel
theorem dX6_nextToken_60 : decode cX6_nextToken 60 = .ok (.putfield 47, 3) := by decide +kernel
theorem dX6_nextToken_63 : decode cX6_nextToken 63 = .ok (.goto 80, 3) := by decide +kernel
theorem dX6_nextToken_66 : decode cX6_nextToken 66 = .ok (.aload_n 0, 1) := by decide +kernel
theorem dX6_nextToken_67 : decode cX6_nextToken 67 = .ok (.getfield 9, 3) := by decide +kernel
theorem dX6_nextToken_70 : decode cX6_nextToken 70 = .ok (.aload_n 0, 1) := by decide +kernel
theorem dX6_nextToken_71 : decode cX6_nextToken 71 = .ok (.getfield 28, 3) := by decide +kernel
theorem dX6_nextToken_74 : decode cX6_nextToken 74 = .ok (.iaload, 1) := by decide +kernel
theorem dX6_nextToken_75 : decode cX6_nextToken 75 = .ok (.invokestatic 151, 3) := by decide +kernel
theorem dX6_nextToken_78 : decode cX6_nextToken 78 = .ok (.ifCond .eq 10, 3) := by decide +kernel
theorem dX6_nextToken_81 : decode cX6_nextToken 81 = .ok (.aload_n 0, 1) := by decide +kernel
theorem dX6_nextToken_82 : decode cX6_nextToken 82 = .ok (.invokevirtual 154, 3) := by decide +kernel
theorem dX6_nextToken_85 : decode cX6_nextToken 85 = .ok (.goto 58, 3) := by decide +kernel
theorem dX6_nextToken_88 : decode cX6_nextToken 88 = .ok (.aload_n 0, 1) := by decide +kernel
theorem dX6_nextToken_89 : decode cX6_nextToken 89 = .ok (.getfield 9, 3) := by decide +kernel
theorem dX6_nextToken_92 : decode cX6_nextToken 92 = .ok (.aload_n 0, 1) := by decide +kernel
theorem dX6_nextToken_93 : decode cX6_nextToken 93 = .ok (.getfield 28, 3) := by decide +kernel
theorem dX6_nextToken_96 : decode cX6_nextToken 96 = .ok (.iaload, 1) := by decide +kernel
theorem dX6_nextToken_97 : decode cX6_nextToken 97 = .ok (.invokestatic 157, 3) := by decide +kernel
theorem dX6_nextToken_100 : decode cX6_nextToken 100 = .ok (.ifCond .eq 10, 3) := by decide +kernel
theorem dX6_nextToken_103 : decode cX6_nextToken 103 = .ok (.aload_n 0, 1) := by decide +kernel
theorem dX6_nextToken_104 : decode cX6_nextToken 104 = .ok (.invokevirtual 160, 3) := by decide +kernel
theorem dX6_nextToken_107 : decode cX6_nextToken 107 = .ok (.goto 36, 3) := by decide +kernel
theorem dX6_nextToken_110 : decode cX6_nextToken 110 = .ok (.aload_n 0, 1) := by decide +kernel
theorem dX6_nextToken_111 : decode cX6_nextToken 111 = .ok (.aload_n 0, 1) := by decide +kernel
theorem dX6_nextToken_112 : decode cX6_nextToken 112 = .ok (.getfield 9, 3) := by decide +kernel
theorem dX6_nextToken_115 : decode cX6_nextToken 115 = .ok (.aload_n 0, 1) := by decide +kernel
theorem dX6_nextToken_116 : decode cX6_nextToken 116 = .ok (.getfield 28, 3) := by decide +kernel
theorem dX6_nextToken_119 : decode cX6_nextToken 119 = .ok (.iaload, 1) := by decide +kernel
theorem dX6_nextToken_120 : decode cX6_nextToken 120 = .ok (.bipush 59, 2) := by decide +kernel
theorem dX6_nextToken_122 : decode cX6_nextToken 122 = .ok (.if_icmp .ne 7, 3) := by decide +kernel
theorem dX6_nextToken_125 : decode cX6_nextToken 125 = .ok (.iconst 3, 1) := by decide +kernel
theorem dX6_nextToken_126 : decode cX6_nextToken 126 = .ok (.goto 4, 3) := by decide +kernel
theorem dX6_nextToken_129 : decode cX6_nextToken 129 = .ok (.iconst 4, 1) := by decide +kernel
theorem dX6_nextToken_130 : decode cX6_nextToken 130 = .ok (.putfield 47, 3) := by decide +kernel
theorem dX6_nextToken_133 : decode cX6_nextToken 133 = .ok (.aload_n 0, 1) := by decide +kernel
theorem dX6_nextToken_134 : decode cX6_nextToken 134 = .ok (.dup, 1) := by decide +kernel
theorem dX6_nextToken_135 : decode cX6_nextToken 135 = .ok (.getfield 28, 3) := by decide +kernel
theorem dX6_nextToken_138 : decode cX6_nextToken 138 = .ok (.iconst 1, 1) := by decide +kernel
theorem dX6_nextToken_139 : decode cX6_nextToken 139 = .ok (.iadd, 1) := by decide +kernel
theorem dX6_nextToken_140 : decode cX6_nextToken 140 = .ok (.putfield 28, 3) := by decide +kernel
theorem dX6_nextToken_143 : decode cX6_nextToken 143 = .ok (.return_, 1) := by decide +kernel
/-! BusLifts$SetupReader.nextToken()V -/
noncomputable def f_X6_nextToken_143  (σ : Sg)  : Option Sg := some σ
noncomputable def f_X6_nextToken_130  (σ : Sg) (v101 : Int32) : Option Sg := st (sup σ 6 0 5 v101) fun σ1 => (st (sup σ1 6 0 4 ((σ1 6 0 4) + 1)) fun σ2 => (f_X6_nextToken_143 σ2))
noncomputable def f_X6_nextToken_39  (σ : Sg)  : Option Sg := st (sup σ 6 0 6 (σ 6 0 4)) fun σ1 => (if (σ1 6 0 4) < (σ1 6 0 3) then (if σ1 6 0 2 = 0 then none else (if (σ1 6 0 4) < 0 ∨ 700 ≤ ((σ1 6 0 4)).toNatClampNeg then none else (bi (f_X6_isLetter σ1 (σ1 10 0 ((σ1 6 0 4)).toNatClampNeg)) fun r3 σ2 => (if r3 = 0 then (if σ2 6 0 2 = 0 then none else (if (σ2 6 0 4) < 0 ∨ 700 ≤ ((σ2 6 0 4)).toNatClampNeg then none else (bi (f_X6_isDigit σ2 (σ2 10 0 ((σ2 6 0 4)).toNatClampNeg)) fun r5 σ4 => (if r5 = 0 then (if σ4 6 0 2 = 0 then none else (if (σ4 6 0 4) < 0 ∨ 700 ≤ ((σ4 6 0 4)).toNatClampNeg then none else (if (σ4 10 0 ((σ4 6 0 4)).toNatClampNeg) = 59 then (f_X6_nextToken_130 σ4 3) else (f_X6_nextToken_130 σ4 4)))) else (bv (f_X6_skipDigits σ4) fun σ6 => (f_X6_nextToken_143 σ6)))))) else (bv (f_X6_skipLetters σ2) fun σ7 => (f_X6_nextToken_143 σ7)))))) else (st (sup σ1 6 0 5 0) fun σ8 => (f_X6_nextToken_143 σ8)))
noncomputable def f_X6_nextToken_0  : Nat → Sg → Option Sg
  | 0, _ => none
  | n + 1, σ => if (σ 6 0 3) ≤ (σ 6 0 4) then (f_X6_nextToken_39 σ) else (if σ 6 0 2 = 0 then none else (if (σ 6 0 4) < 0 ∨ 700 ≤ ((σ 6 0 4)).toNatClampNeg then none else (bi (f_X6_isBlank σ (σ 10 0 ((σ 6 0 4)).toNatClampNeg)) fun r2 σ1 => (if r2 = 0 then (f_X6_nextToken_39 σ1) else (st (sup σ1 6 0 4 ((σ1 6 0 4) + 1)) fun σ3 => (f_X6_nextToken_0  n σ3))))))
theorem f_X6_nextToken_0_s  (n : Nat) (σ : Sg)  : f_X6_nextToken_0  (n + 1) σ  = (if (σ 6 0 3) ≤ (σ 6 0 4) then (f_X6_nextToken_39 σ) else (if σ 6 0 2 = 0 then none else (if (σ 6 0 4) < 0 ∨ 700 ≤ ((σ 6 0 4)).toNatClampNeg then none else (bi (f_X6_isBlank σ (σ 10 0 ((σ 6 0 4)).toNatClampNeg)) fun r2 σ1 => (if r2 = 0 then (f_X6_nextToken_39 σ1) else (st (sup σ1 6 0 4 ((σ1 6 0 4) + 1)) fun σ3 => (f_X6_nextToken_0  n σ3))))))) := rfl
set_option maxHeartbeats 4000000 in
set_option maxRecDepth 100000 in
theorem w_X6_nextToken_143 {p : Program} {l : Launch} {e : Env} {s : State} {m : MethodId} {args : Array Value} {below : List Frame} {meth : Method} {c : Code} {G : Gx} {ad : Ad} {res : Sg} (C : Cx p s m args meth c yX6_nextToken.cls cX6_nextToken 1 none G)  : ∀ (σ : Sg)  (H : Heap) (locs : List Loc) (ls : Array Slot), z_S 0 G ad σ (z_A 0 ad s.heap.size) s.heap H locs → lv_has ls 1 [] → f_X6_nextToken_143  σ  = some res → W p l e { frames := 2, cells := 0, slots := 0, locals := 40 } s m args below meth c H locs 0 0 (MQ below (va_Qv (S := Unit) (fun _ => True) (fun _ t => z_W 0 G ad res t.heap) (z_A 0 ad s.heap.size)) args s 0 0 (z_A 0 ad s.heap.size)) (F0 m 143 ls []) := by
  intro σ  H locs ls S hl  hf
  unfold f_X6_nextToken_143 at hf
  exact z_vret C S hf dX6_nextToken_143
set_option maxHeartbeats 4000000 in
set_option maxRecDepth 100000 in
theorem w_X6_nextToken_130 {p : Program} {l : Launch} {e : Env} {s : State} {m : MethodId} {args : Array Value} {below : List Frame} {meth : Method} {c : Code} {G : Gx} {ad : Ad} {res : Sg} (C : Cx p s m args meth c yX6_nextToken.cls cX6_nextToken 1 none G)  : ∀ (σ : Sg) (v101 : Int32) (H : Heap) (locs : List Loc) (ls : Array Slot), z_S 0 G ad σ (z_A 0 ad s.heap.size) s.heap H locs → lv_has ls 1 [(0, .ref (ad 6 0))] → f_X6_nextToken_130  σ v101 = some res → W p l e { frames := 2, cells := 0, slots := 0, locals := 40 } s m args below meth c H locs 0 0 (MQ below (va_Qv (S := Unit) (fun _ => True) (fun _ t => z_W 0 G ad res t.heap) (z_A 0 ad s.heap.size)) args s 0 0 (z_A 0 ad s.heap.size)) (F0 m 130 ls [.int v101, .ref (ad 6 0)]) := by
  intro σ v101 H locs ls S hl  hf
  unfold f_X6_nextToken_130 at hf
  obtain ⟨σ1, e_130, hf⟩ := stb hf
  refine z_putI C S 6 0 rfl (by decide) cf_6 5 (by decide) (pi_6_5 G ad 0) rfl rfl rfl tw_2_80 dX6_nextToken_130 (fun H locs S => ?_)
  rw [← e_130] at S
  refine lv_aload_n C.1 C.2.1 dX6_nextToken_133 rfl (lv_at hl 0 rfl) ?_
  refine lv_dup C.1 C.2.1 dX6_nextToken_134 rfl ?_
  refine z_getI C S 6 0 rfl (by decide) cf_6 4 (by decide) (gi_6_4 G ad 0) tw_2_79 dX6_nextToken_135 ?_
  refine lv_iconst (v := 1) C.1 C.2.1 dX6_nextToken_138 (by decide) ?_
  refine lv_iadd C.1 C.2.1 dX6_nextToken_139 ?_
  obtain ⟨σ2, e_140, hf⟩ := stb hf
  refine z_putI C S 6 0 rfl (by decide) cf_6 4 (by decide) (pi_6_4 G ad 0) rfl rfl rfl tw_2_79 dX6_nextToken_140 (fun H locs S => ?_)
  rw [← e_140] at S
  exact w_X6_nextToken_143 C _ _ _ _ S (lv_sub hl [] rfl) hf
set_option maxHeartbeats 4000000 in
set_option maxRecDepth 100000 in
theorem w_X6_nextToken_39 {p : Program} {l : Launch} {e : Env} {s : State} {m : MethodId} {args : Array Value} {below : List Frame} {meth : Method} {c : Code} {G : Gx} {ad : Ad} {res : Sg} (C : Cx p s m args meth c yX6_nextToken.cls cX6_nextToken 1 none G)  : ∀ (σ : Sg)  (H : Heap) (locs : List Loc) (ls : Array Slot), z_S 0 G ad σ (z_A 0 ad s.heap.size) s.heap H locs → lv_has ls 1 [(0, .ref (ad 6 0))] → f_X6_nextToken_39  σ  = some res → W p l e { frames := 2, cells := 0, slots := 0, locals := 40 } s m args below meth c H locs 0 0 (MQ below (va_Qv (S := Unit) (fun _ => True) (fun _ t => z_W 0 G ad res t.heap) (z_A 0 ad s.heap.size)) args s 0 0 (z_A 0 ad s.heap.size)) (F0 m 39 ls []) := by
  intro σ  H locs ls S hl  hf
  unfold f_X6_nextToken_39 at hf
  refine lv_aload_n C.1 C.2.1 dX6_nextToken_39 rfl (lv_at hl 0 rfl) ?_
  refine lv_aload_n C.1 C.2.1 dX6_nextToken_40 rfl (lv_at hl 0 rfl) ?_
  refine z_getI C S 6 0 rfl (by decide) cf_6 4 (by decide) (gi_6_4 G ad 0) tw_2_79 dX6_nextToken_41 ?_
  obtain ⟨σ1, e_44, hf⟩ := stb hf
  refine z_putI C S 6 0 rfl (by decide) cf_6 6 (by decide) (pi_6_6 G ad 0) rfl rfl rfl tw_2_81 dX6_nextToken_44 (fun H locs S => ?_)
  rw [← e_44] at S
  refine lv_aload_n C.1 C.2.1 dX6_nextToken_47 rfl (lv_at hl 0 rfl) ?_
  refine z_getI C S 6 0 rfl (by decide) cf_6 4 (by decide) (gi_6_4 G ad 0) tw_2_79 dX6_nextToken_48 ?_
  refine lv_aload_n C.1 C.2.1 dX6_nextToken_51 rfl (lv_at hl 0 rfl) ?_
  refine z_getI C S 6 0 rfl (by decide) cf_6 3 (by decide) (gi_6_3 G ad 0) tw_2_78 dX6_nextToken_52 ?_
  refine lv_icmp_lt (tgt := 66) C.1 C.2.1 dX6_nextToken_55 (by decide) (fun c_55 => ?_) (fun c_55 => ?_)
  · rw [if_pos c_55] at hf
    refine lv_aload_n C.1 C.2.1 dX6_nextToken_66 rfl (lv_at hl 0 rfl) ?_
    obtain ⟨g_67, hf⟩ := gd hf
    refine z_getT C S 0 rfl (by decide) cf_6 g_67 tw_2_77 dX6_nextToken_67 ?_
    refine lv_aload_n C.1 C.2.1 dX6_nextToken_70 rfl (lv_at hl 0 rfl) ?_
    refine z_getI C S 6 0 rfl (by decide) cf_6 4 (by decide) (gi_6_4 G ad 0) tw_2_79 dX6_nextToken_71 ?_
    obtain ⟨g_74, hf⟩ := gd hf
    refine z_iald C S 10 0 rfl (by decide) 700 (fun _ => rfl) g_74 dX6_nextToken_74 ?_
    obtain ⟨r3, σ2, q_75, hf⟩ := bib hf
    refine z_callSI C S [.int (σ1 10 0 ((σ1 6 0 4)).toNatClampNeg)] (m_X6_isLetter l G ad σ1 (σ1 10 0 ((σ1 6 0 4)).toNatClampNeg) r3 σ2 q_75 _) kv_X6_isLetter tw_2_205 ⟨Nat.le_of_ble_eq_true rfl, Nat.le_of_ble_eq_true rfl⟩ rfl rfl (Nat.le_of_ble_eq_true rfl) hl.1 ⟨Nat.le_refl _, Nat.le_refl _⟩ dX6_nextToken_75 (fun H locs S => ?_)
    refine lv_if_eq (tgt := 88) C.1 C.2.1 dX6_nextToken_78 (by decide) (fun c_78 => ?_) (fun c_78 => ?_)
    · rw [if_pos c_78] at hf
      refine lv_aload_n C.1 C.2.1 dX6_nextToken_88 rfl (lv_at hl 0 rfl) ?_
      obtain ⟨g_89, hf⟩ := gd hf
      refine z_getT C S 0 rfl (by decide) cf_6 g_89 tw_2_77 dX6_nextToken_89 ?_
      refine lv_aload_n C.1 C.2.1 dX6_nextToken_92 rfl (lv_at hl 0 rfl) ?_
      refine z_getI C S 6 0 rfl (by decide) cf_6 4 (by decide) (gi_6_4 G ad 0) tw_2_79 dX6_nextToken_93 ?_
      obtain ⟨g_96, hf⟩ := gd hf
      refine z_iald C S 10 0 rfl (by decide) 700 (fun _ => rfl) g_96 dX6_nextToken_96 ?_
      obtain ⟨r5, σ4, q_97, hf⟩ := bib hf
      refine z_callSI C S [.int (σ2 10 0 ((σ2 6 0 4)).toNatClampNeg)] (m_X6_isDigit l G ad σ2 (σ2 10 0 ((σ2 6 0 4)).toNatClampNeg) r5 σ4 q_97 _) kv_X6_isDigit tw_2_212 ⟨Nat.le_of_ble_eq_true rfl, Nat.le_of_ble_eq_true rfl⟩ rfl rfl (Nat.le_of_ble_eq_true rfl) hl.1 ⟨Nat.le_refl _, Nat.le_refl _⟩ dX6_nextToken_97 (fun H locs S => ?_)
      refine lv_if_eq (tgt := 110) C.1 C.2.1 dX6_nextToken_100 (by decide) (fun c_100 => ?_) (fun c_100 => ?_)
      · rw [if_pos c_100] at hf
        refine lv_aload_n C.1 C.2.1 dX6_nextToken_110 rfl (lv_at hl 0 rfl) ?_
        refine lv_aload_n C.1 C.2.1 dX6_nextToken_111 rfl (lv_at hl 0 rfl) ?_
        obtain ⟨g_112, hf⟩ := gd hf
        refine z_getT C S 0 rfl (by decide) cf_6 g_112 tw_2_77 dX6_nextToken_112 ?_
        refine lv_aload_n C.1 C.2.1 dX6_nextToken_115 rfl (lv_at hl 0 rfl) ?_
        refine z_getI C S 6 0 rfl (by decide) cf_6 4 (by decide) (gi_6_4 G ad 0) tw_2_79 dX6_nextToken_116 ?_
        obtain ⟨g_119, hf⟩ := gd hf
        refine z_iald C S 10 0 rfl (by decide) 700 (fun _ => rfl) g_119 dX6_nextToken_119 ?_
        refine lv_bipush (v := 59) C.1 C.2.1 dX6_nextToken_120 (by decide) ?_
        refine lv_icmp_ne (tgt := 129) C.1 C.2.1 dX6_nextToken_122 (by decide) (fun c_122 => ?_) (fun c_122 => ?_)
        · rw [if_neg c_122] at hf
          refine lv_iconst (v := 4) C.1 C.2.1 dX6_nextToken_129 (by decide) ?_
          exact w_X6_nextToken_130 C _ 4 _ _ _ S (lv_sub hl [0] rfl) hf
        · rw [if_pos c_122] at hf
          refine lv_iconst (v := 3) C.1 C.2.1 dX6_nextToken_125 (by decide) ?_
          refine lv_goto (tgt := 130) C.1 C.2.1 dX6_nextToken_126 (by decide) ?_
          exact w_X6_nextToken_130 C _ 3 _ _ _ S (lv_sub hl [0] rfl) hf
      · rw [if_neg c_100] at hf
        refine lv_aload_n C.1 C.2.1 dX6_nextToken_103 rfl (lv_at hl 0 rfl) ?_
        obtain ⟨σ6, q_104, hf⟩ := bvb hf
        refine z_callV C S 6 0 rfl (by decide) cf_6 ⟨_, rfl⟩ [] (m_X6_skipDigits l G ad σ4 σ6 q_104 _) kv_X6_skipDigits tw_2_215 ⟨Nat.le_of_ble_eq_true rfl, Nat.le_of_ble_eq_true rfl⟩ rfl rfl (Nat.le_of_ble_eq_true rfl) hl.1 ⟨Nat.le_refl _, Nat.le_refl _⟩ dX6_nextToken_104 (fun H locs S => ?_)
        refine lv_goto (tgt := 143) C.1 C.2.1 dX6_nextToken_107 (by decide) ?_
        exact w_X6_nextToken_143 C _ _ _ _ S (lv_sub hl [] rfl) hf
    · rw [if_neg c_78] at hf
      refine lv_aload_n C.1 C.2.1 dX6_nextToken_81 rfl (lv_at hl 0 rfl) ?_
      obtain ⟨σ7, q_82, hf⟩ := bvb hf
      refine z_callV C S 6 0 rfl (by decide) cf_6 ⟨_, rfl⟩ [] (m_X6_skipLetters l G ad σ2 σ7 q_82 _) kv_X6_skipLetters tw_2_208 ⟨Nat.le_of_ble_eq_true rfl, Nat.le_of_ble_eq_true rfl⟩ rfl rfl (Nat.le_of_ble_eq_true rfl) hl.1 ⟨Nat.le_refl _, Nat.le_refl _⟩ dX6_nextToken_82 (fun H locs S => ?_)
      refine lv_goto (tgt := 143) C.1 C.2.1 dX6_nextToken_85 (by decide) ?_
      exact w_X6_nextToken_143 C _ _ _ _ S (lv_sub hl [] rfl) hf
  · rw [if_neg c_55] at hf
    refine lv_aload_n C.1 C.2.1 dX6_nextToken_58 rfl (lv_at hl 0 rfl) ?_
    refine lv_iconst (v := 0) C.1 C.2.1 dX6_nextToken_59 (by decide) ?_
    obtain ⟨σ8, e_60, hf⟩ := stb hf
    refine z_putI C S 6 0 rfl (by decide) cf_6 5 (by decide) (pi_6_5 G ad 0) rfl rfl rfl tw_2_80 dX6_nextToken_60 (fun H locs S => ?_)
    rw [← e_60] at S
    refine lv_goto (tgt := 143) C.1 C.2.1 dX6_nextToken_63 (by decide) ?_
    exact w_X6_nextToken_143 C _ _ _ _ S (lv_sub hl [] rfl) hf
set_option maxHeartbeats 4000000 in
set_option maxRecDepth 100000 in
theorem w_X6_nextToken_0 {p : Program} {l : Launch} {e : Env} {s : State} {m : MethodId} {args : Array Value} {below : List Frame} {meth : Method} {c : Code} {G : Gx} {ad : Ad} {res : Sg} (C : Cx p s m args meth c yX6_nextToken.cls cX6_nextToken 1 none G)  : ∀ n : Nat, ∀ (σ : Sg)  (H : Heap) (locs : List Loc) (ls : Array Slot), z_S 0 G ad σ (z_A 0 ad s.heap.size) s.heap H locs → lv_has ls 1 [(0, .ref (ad 6 0))] → f_X6_nextToken_0  n σ  = some res → W p l e { frames := 2, cells := 0, slots := 0, locals := 40 } s m args below meth c H locs 0 0 (MQ below (va_Qv (S := Unit) (fun _ => True) (fun _ t => z_W 0 G ad res t.heap) (z_A 0 ad s.heap.size)) args s 0 0 (z_A 0 ad s.heap.size)) (F0 m 0 ls []) := by
  intro n
  induction n with
  | zero => intro σ  H locs ls S hl  hf; cases hf
  | succ n ih =>
    intro σ  H locs ls S hl  hf
    rw [f_X6_nextToken_0_s] at hf
    refine lv_aload_n C.1 C.2.1 dX6_nextToken_0 rfl (lv_at hl 0 rfl) ?_
    refine z_getI C S 6 0 rfl (by decide) cf_6 4 (by decide) (gi_6_4 G ad 0) tw_2_79 dX6_nextToken_1 ?_
    refine lv_aload_n C.1 C.2.1 dX6_nextToken_4 rfl (lv_at hl 0 rfl) ?_
    refine z_getI C S 6 0 rfl (by decide) cf_6 3 (by decide) (gi_6_3 G ad 0) tw_2_78 dX6_nextToken_5 ?_
    refine lv_icmp_ge (tgt := 39) C.1 C.2.1 dX6_nextToken_8 (by decide) (fun c_8 => ?_) (fun c_8 => ?_)
    · rw [if_pos c_8] at hf
      exact w_X6_nextToken_39 C _ _ _ _ S (lv_sub hl [0] rfl) hf
    · rw [if_neg c_8] at hf
      refine lv_aload_n C.1 C.2.1 dX6_nextToken_11 rfl (lv_at hl 0 rfl) ?_
      obtain ⟨g_12, hf⟩ := gd hf
      refine z_getT C S 0 rfl (by decide) cf_6 g_12 tw_2_77 dX6_nextToken_12 ?_
      refine lv_aload_n C.1 C.2.1 dX6_nextToken_15 rfl (lv_at hl 0 rfl) ?_
      refine z_getI C S 6 0 rfl (by decide) cf_6 4 (by decide) (gi_6_4 G ad 0) tw_2_79 dX6_nextToken_16 ?_
      obtain ⟨g_19, hf⟩ := gd hf
      refine z_iald C S 10 0 rfl (by decide) 700 (fun _ => rfl) g_19 dX6_nextToken_19 ?_
      obtain ⟨r2, σ1, q_20, hf⟩ := bib hf
      refine z_callSI C S [.int (σ 10 0 ((σ 6 0 4)).toNatClampNeg)] (m_X6_isBlank l G ad σ (σ 10 0 ((σ 6 0 4)).toNatClampNeg) r2 σ1 q_20 _) kv_X6_isBlank tw_2_202 ⟨Nat.le_of_ble_eq_true rfl, Nat.le_of_ble_eq_true rfl⟩ rfl rfl (Nat.le_of_ble_eq_true rfl) hl.1 ⟨Nat.le_refl _, Nat.le_refl _⟩ dX6_nextToken_20 (fun H locs S => ?_)
      refine lv_if_eq (tgt := 39) C.1 C.2.1 dX6_nextToken_23 (by decide) (fun c_23 => ?_) (fun c_23 => ?_)
      · rw [if_pos c_23] at hf
        exact w_X6_nextToken_39 C _ _ _ _ S (lv_sub hl [0] rfl) hf
      · rw [if_neg c_23] at hf
        refine lv_aload_n C.1 C.2.1 dX6_nextToken_26 rfl (lv_at hl 0 rfl) ?_
        refine lv_dup C.1 C.2.1 dX6_nextToken_27 rfl ?_
        refine z_getI C S 6 0 rfl (by decide) cf_6 4 (by decide) (gi_6_4 G ad 0) tw_2_79 dX6_nextToken_28 ?_
        refine lv_iconst (v := 1) C.1 C.2.1 dX6_nextToken_31 (by decide) ?_
        refine lv_iadd C.1 C.2.1 dX6_nextToken_32 ?_
        obtain ⟨σ3, e_33, hf⟩ := stb hf
        refine z_putI C S 6 0 rfl (by decide) cf_6 4 (by decide) (pi_6_4 G ad 0) rfl rfl rfl tw_2_79 dX6_nextToken_33 (fun H locs S => ?_)
        rw [← e_33] at S
        refine lv_goto (tgt := 0) C.1 C.2.1 dX6_nextToken_36 (by decide) ?_
        exact ih _  _ _ _ S (lv_sub hl [0] rfl)  hf
theorem kv_X6_nextToken : KV yX6_nextToken cX6_nextToken 1 none 0 := ⟨tw_2_201, tw_2_200, tw_p_2, tw_1_8, by decide, by decide, by decide +kernel⟩
noncomputable def f_X6_nextToken (σ : Sg)  : Option Sg := f_X6_nextToken_0 FU σ 
theorem m_X6_nextToken (l : Launch) (G : Gx) (ad : Ad) (σ : Sg)  (σ' : Sg)  (hf : f_X6_nextToken σ  = some σ') (sz : Nat) : z_MV l yX6_nextToken cX6_nextToken 1 none 2 40 0 G ad σ sz [.ref (ad 6 0)] σ' := by
  refine z_begin (by decide +kernel) (Nat.le_of_ble_eq_true rfl) [(0, .ref (ad 6 0))] rfl (fun p e s m args below meth c ls C hz S hl => ?_)
  subst hz
  exact w_X6_nextToken_0 (res := σ') C FU σ  _ _ _ S hl  hf

theorem dX6_fail_0 : decode cX6_fail 0 = .ok (.aload_n 0, 1) := by decide +kernel
theorem dX6_fail_1 : decode cX6_fail 1 = .ok (.iload_n 1, 1) := by decide +kernel
theorem dX6_fail_2 : decode cX6_fail 2 = .ok (.putfield 34, 3) := by decide +kernel
theorem dX6_fail_5 : decode cX6_fail 5 = .ok (.aload_n 0, 1) := by decide +kernel
theorem dX6_fail_6 : decode cX6_fail 6 = .ok (.aload_n 0, 1) := by decide +kernel
theorem dX6_fail_7 : decode cX6_fail 7 = .ok (.getfield 137, 3) := by decide +kernel
theorem dX6_fail_10 : decode cX6_fail 10 = .ok (.putfield 37, 3) := by decide +kernel
theorem dX6_fail_13 : decode cX6_fail 13 = .ok (.iconst 0, 1) := by decide +kernel
theorem dX6_fail_14 : decode cX6_fail 14 = .ok (.ireturn, 1) := by decide +kernel
/-! BusLifts$SetupReader.fail(I)Z -/
noncomputable def f_X6_fail  (σ : Sg) (v1 : Int32) : Option (Int32 × Sg) := st (sup σ 6 0 0 v1) fun σ1 => (st (sup σ1 6 0 1 (σ1 6 0 6)) fun σ2 => (some (0, σ2)))
set_option maxHeartbeats 4000000 in
set_option maxRecDepth 100000 in
theorem w_X6_fail_0 {p : Program} {l : Launch} {e : Env} {s : State} {m : MethodId} {args : Array Value} {below : List Frame} {meth : Method} {c : Code} {G : Gx} {ad : Ad} {res : Int32 × Sg} (C : Cx p s m args meth c yX6_fail.cls cX6_fail 2 (Option.some FieldType.boolean) G)  : ∀ (σ : Sg) (v1 : Int32) (H : Heap) (locs : List Loc) (ls : Array Slot), z_S 0 G ad σ (z_A 0 ad s.heap.size) s.heap H locs → lv_has ls 2 [(0, .ref (ad 6 0)), (1, .int v1)] → f_X6_fail  σ v1 = some res → W p l e { frames := 0, cells := 0, slots := 0, locals := 0 } s m args below meth c H locs 0 0 (MQ below (va_Qi (S := Unit) (fun r1 _ => r1 = res.1) (fun _ t => z_W 0 G ad res.2 t.heap) (z_A 0 ad s.heap.size)) args s 0 0 (z_A 0 ad s.heap.size)) (F0 m 0 ls []) := by
  intro σ v1 H locs ls S hl  hf
  unfold f_X6_fail at hf
  refine lv_aload_n C.1 C.2.1 dX6_fail_0 rfl (lv_at hl 0 rfl) ?_
  refine lv_iload_n C.1 C.2.1 dX6_fail_1 rfl (lv_at hl 1 rfl) ?_
  obtain ⟨σ1, e_2, hf⟩ := stb hf
  refine z_putI C S 6 0 rfl (by decide) cf_6 0 (by decide) (pi_6_0 G ad 0) rfl rfl rfl tw_2_73 dX6_fail_2 (fun H locs S => ?_)
  rw [← e_2] at S
  refine lv_aload_n C.1 C.2.1 dX6_fail_5 rfl (lv_at hl 0 rfl) ?_
  refine lv_aload_n C.1 C.2.1 dX6_fail_6 rfl (lv_at hl 0 rfl) ?_
  refine z_getI C S 6 0 rfl (by decide) cf_6 6 (by decide) (gi_6_6 G ad 0) tw_2_81 dX6_fail_7 ?_
  obtain ⟨σ2, e_10, hf⟩ := stb hf
  refine z_putI C S 6 0 rfl (by decide) cf_6 1 (by decide) (pi_6_1 G ad 0) rfl rfl rfl tw_2_75 dX6_fail_10 (fun H locs S => ?_)
  rw [← e_10] at S
  refine lv_iconst (v := 0) C.1 C.2.1 dX6_fail_13 (by decide) ?_
  exact z_zret C S rfl hf dX6_fail_14
theorem kv_X6_fail : KV yX6_fail cX6_fail 2 (Option.some FieldType.boolean) 1 := ⟨tw_3_35, tw_3_34, tw_p_6, tw_1_8, by decide, by decide, by decide +kernel⟩
theorem m_X6_fail (l : Launch) (G : Gx) (ad : Ad) (σ : Sg) (v1 : Int32) (r : Int32) (σ' : Sg)  (hf : f_X6_fail σ v1 = some (r, σ')) (sz : Nat) : z_MI l yX6_fail cX6_fail 2 (Option.some FieldType.boolean) 0 0 0 G ad σ sz [.ref (ad 6 0), .int v1] r σ' := by
  refine z_begin (by decide +kernel) (Nat.le_of_ble_eq_true rfl) [(0, .ref (ad 6 0)), (1, .int v1)] rfl (fun p e s m args below meth c ls C hz S hl => ?_)
  subst hz
  exact w_X6_fail_0 (res := (r, σ')) C σ v1 _ _ _ S hl  hf

theorem dX6_readNumber_0 : decode cX6_readNumber 0 = .ok (.aload_n 0, 1) := by decide +kernel
theorem dX6_readNumber_1 : decode cX6_readNumber 1 = .ok (.invokevirtual 44, 3) := by decide +kernel
theorem dX6_readNumber_4 : decode cX6_readNumber 4 = .ok (.aload_n 0, 1) := by decide +kernel
theorem dX6_readNumber_5 : decode cX6_readNumber 5 = .ok (.getfield 47, 3) := by decide +kernel
theorem dX6_readNumber_8 : decode cX6_readNumber 8 = .ok (.iconst 2, 1) := by decide +kernel
theorem dX6_readNumber_9 : decode cX6_readNumber 9 = .ok (.if_icmp .eq 9, 3) := by decide +kernel
theorem dX6_readNumber_12 : decode cX6_readNumber 12 = .ok (.aload_n 0, 1) := by decide +kernel
theorem dX6_readNumber_13 : decode cX6_readNumber 13 = .ok (.iconst 1, 1) := by decide +kernel
theorem dX6_readNumber_14 : decode cX6_readNumber 14 = .ok (.invokevirtual 55, 3) := by decide +kernel
theorem dX6_readNumber_17 : decode cX6_readNumber 17 = .ok (.ireturn, 1) := by decide +kernel
theorem dX6_readNumber_18 : decode cX6_readNumber 18 = .ok (.aload_n 0, 1) := by decide +kernel
theorem dX6_readNumber_19 : decode cX6_readNumber 19 = .ok (.getfield 72, 3) := by decide +kernel
theorem dX6_readNumber_22 : decode cX6_readNumber 22 = .ok (.iload_n 1, 1) := by decide +kernel
theorem dX6_readNumber_23 : decode cX6_readNumber 23 = .ok (.if_icmp .lt 11, 3) := by decide +kernel
theorem dX6_readNumber_26 : decode cX6_readNumber 26 = .ok (.aload_n 0, 1) := by decide +kernel
theorem dX6_readNumber_27 : decode cX6_readNumber 27 = .ok (.getfield 72, 3) := by decide +kernel
theorem dX6_readNumber_30 : decode cX6_readNumber 30 = .ok (.iload_n 2, 1) := by decide +kernel
theorem dX6_readNumber_31 : decode cX6_readNumber 31 = .ok (.if_icmp .le 9, 3) := by decide +kernel
theorem dX6_readNumber_34 : decode cX6_readNumber 34 = .ok (.aload_n 0, 1) := by decide +kernel
theorem dX6_readNumber_35 : decode cX6_readNumber 35 = .ok (.iconst 2, 1) := by decide +kernel
theorem dX6_readNumber_36 : decode cX6_readNumber 36 = .ok (.invokevirtual 55, 3) := by decide +kernel
theorem dX6_readNumber_39 : decode cX6_readNumber 39 = .ok (.ireturn, 1) := by decide +kernel
theorem dX6_readNumber_40 : decode cX6_readNumber 40 = .ok (.iconst 1, 1) := by decide +kernel
theorem dX6_readNumber_41 : decode cX6_readNumber 41 = .ok (.ireturn, 1) := by decide +kernel
/-! BusLifts$SetupReader.readNumber(II)Z -/
noncomputable def f_X6_readNumber_34  (σ : Sg)  : Option (Int32 × Sg) := bi (f_X6_fail σ 2) fun r2 σ1 => (if ¬ (r2 = 0 ∨ r2 = 1) then none else (some (r2, σ1)))
noncomputable def f_X6_readNumber  (σ : Sg) (v1 : Int32) (v2 : Int32) : Option (Int32 × Sg) := bv (f_X6_nextToken σ) fun σ1 => (if (σ1 6 0 5) = 2 then (if (σ1 6 0 7) < v1 then (f_X6_readNumber_34 σ1) else (if (σ1 6 0 7) ≤ v2 then (some (1, σ1)) else (f_X6_readNumber_34 σ1))) else (bi (f_X6_fail σ1 1) fun r3 σ2 => (if ¬ (r3 = 0 ∨ r3 = 1) then none else (some (r3, σ2)))))
set_option maxHeartbeats 4000000 in
set_option maxRecDepth 100000 in
theorem w_X6_readNumber_34 {p : Program} {l : Launch} {e : Env} {s : State} {m : MethodId} {args : Array Value} {below : List Frame} {meth : Method} {c : Code} {G : Gx} {ad : Ad} {res : Int32 × Sg} (C : Cx p s m args meth c yX6_readNumber.cls cX6_readNumber 3 (Option.some FieldType.boolean) G)  : ∀ (σ : Sg)  (H : Heap) (locs : List Loc) (ls : Array Slot), z_S 0 G ad σ (z_A 0 ad s.heap.size) s.heap H locs → lv_has ls 3 [(0, .ref (ad 6 0))] → f_X6_readNumber_34  σ  = some res → W p l e { frames := 3, cells := 0, slots := 0, locals := 60 } s m args below meth c H locs 0 0 (MQ below (va_Qi (S := Unit) (fun r1 _ => r1 = res.1) (fun _ t => z_W 0 G ad res.2 t.heap) (z_A 0 ad s.heap.size)) args s 0 0 (z_A 0 ad s.heap.size)) (F0 m 34 ls []) := by
  intro σ  H locs ls S hl  hf
  unfold f_X6_readNumber_34 at hf
  refine lv_aload_n C.1 C.2.1 dX6_readNumber_34 rfl (lv_at hl 0 rfl) ?_
  refine lv_iconst (v := 2) C.1 C.2.1 dX6_readNumber_35 (by decide) ?_
  obtain ⟨r2, σ1, q_36, hf⟩ := bib hf
  refine z_callI C S 6 0 rfl (by decide) cf_6 ⟨_, rfl⟩ [.int 2] (m_X6_fail l G ad σ 2 r2 σ1 q_36 _) kv_X6_fail tw_3_32 ⟨Nat.le_of_ble_eq_true rfl, Nat.le_of_ble_eq_true rfl⟩ rfl rfl (Nat.le_of_ble_eq_true rfl) hl.1 ⟨Nat.le_refl _, Nat.le_refl _⟩ dX6_readNumber_36 (fun H locs S => ?_)
  obtain ⟨g_39, hf⟩ := gd hf
  exact z_zret C S (nbz g_39).1 hf dX6_readNumber_39
set_option maxHeartbeats 4000000 in
set_option maxRecDepth 100000 in
theorem w_X6_readNumber_0 {p : Program} {l : Launch} {e : Env} {s : State} {m : MethodId} {args : Array Value} {below : List Frame} {meth : Method} {c : Code} {G : Gx} {ad : Ad} {res : Int32 × Sg} (C : Cx p s m args meth c yX6_readNumber.cls cX6_readNumber 3 (Option.some FieldType.boolean) G)  : ∀ (σ : Sg) (v1 : Int32) (v2 : Int32) (H : Heap) (locs : List Loc) (ls : Array Slot), z_S 0 G ad σ (z_A 0 ad s.heap.size) s.heap H locs → lv_has ls 3 [(0, .ref (ad 6 0)), (1, .int v1), (2, .int v2)] → f_X6_readNumber  σ v1 v2 = some res → W p l e { frames := 3, cells := 0, slots := 0, locals := 60 } s m args below meth c H locs 0 0 (MQ below (va_Qi (S := Unit) (fun r1 _ => r1 = res.1) (fun _ t => z_W 0 G ad res.2 t.heap) (z_A 0 ad s.heap.size)) args s 0 0 (z_A 0 ad s.heap.size)) (F0 m 0 ls []) := by
  intro σ v1 v2 H locs ls S hl  hf
  unfold f_X6_readNumber at hf
  refine lv_aload_n C.1 C.2.1 dX6_readNumber_0 rfl (lv_at hl 0 rfl) ?_
  obtain ⟨σ1, q_1, hf⟩ := bvb hf
  refine z_callV C S 6 0 rfl (by decide) cf_6 ⟨_, rfl⟩ [] (m_X6_nextToken l G ad σ σ1 q_1 _) kv_X6_nextToken tw_2_198 ⟨Nat.le_of_ble_eq_true rfl, Nat.le_of_ble_eq_true rfl⟩ rfl rfl (Nat.le_of_ble_eq_true rfl) hl.1 ⟨Nat.le_refl _, Nat.le_refl _⟩ dX6_readNumber_1 (fun H locs S => ?_)
  refine lv_aload_n C.1 C.2.1 dX6_readNumber_4 rfl (lv_at hl 0 rfl) ?_
  refine z_getI C S 6 0 rfl (by decide) cf_6 5 (by decide) (gi_6_5 G ad 0) tw_2_80 dX6_readNumber_5 ?_
  refine lv_iconst (v := 2) C.1 C.2.1 dX6_readNumber_8 (by decide) ?_
  refine lv_icmp_eq (tgt := 18) C.1 C.2.1 dX6_readNumber_9 (by decide) (fun c_9 => ?_) (fun c_9 => ?_)
  · rw [if_pos c_9] at hf
    refine lv_aload_n C.1 C.2.1 dX6_readNumber_18 rfl (lv_at hl 0 rfl) ?_
    refine z_getI C S 6 0 rfl (by decide) cf_6 7 (by decide) (gi_6_7 G ad 0) tw_2_82 dX6_readNumber_19 ?_
    refine lv_iload_n C.1 C.2.1 dX6_readNumber_22 rfl (lv_at hl 1 rfl) ?_
    refine lv_icmp_lt (tgt := 34) C.1 C.2.1 dX6_readNumber_23 (by decide) (fun c_23 => ?_) (fun c_23 => ?_)
    · rw [if_pos c_23] at hf
      exact w_X6_readNumber_34 C _ _ _ _ S (lv_sub hl [0] rfl) hf
    · rw [if_neg c_23] at hf
      refine lv_aload_n C.1 C.2.1 dX6_readNumber_26 rfl (lv_at hl 0 rfl) ?_
      refine z_getI C S 6 0 rfl (by decide) cf_6 7 (by decide) (gi_6_7 G ad 0) tw_2_82 dX6_readNumber_27 ?_
      refine lv_iload_n C.1 C.2.1 dX6_readNumber_30 rfl (lv_at hl 2 rfl) ?_
      refine lv_icmp_le (tgt := 40) C.1 C.2.1 dX6_readNumber_31 (by decide) (fun c_31 => ?_) (fun c_31 => ?_)
      · rw [if_pos c_31] at hf
        refine lv_iconst (v := 1) C.1 C.2.1 dX6_readNumber_40 (by decide) ?_
        exact z_zret C S rfl hf dX6_readNumber_41
      · rw [if_neg c_31] at hf
        exact w_X6_readNumber_34 C _ _ _ _ S (lv_sub hl [0] rfl) hf
  · rw [if_neg c_9] at hf
    refine lv_aload_n C.1 C.2.1 dX6_readNumber_12 rfl (lv_at hl 0 rfl) ?_
    refine lv_iconst (v := 1) C.1 C.2.1 dX6_readNumber_13 (by decide) ?_
    obtain ⟨r3, σ2, q_14, hf⟩ := bib hf
    refine z_callI C S 6 0 rfl (by decide) cf_6 ⟨_, rfl⟩ [.int 1] (m_X6_fail l G ad σ1 1 r3 σ2 q_14 _) kv_X6_fail tw_3_32 ⟨Nat.le_of_ble_eq_true rfl, Nat.le_of_ble_eq_true rfl⟩ rfl rfl (Nat.le_of_ble_eq_true rfl) hl.1 ⟨Nat.le_refl _, Nat.le_refl _⟩ dX6_readNumber_14 (fun H locs S => ?_)
    obtain ⟨g_17, hf⟩ := gd hf
    exact z_zret C S (nbz g_17).1 hf dX6_readNumber_17
theorem kv_X6_readNumber : KV yX6_readNumber cX6_readNumber 3 (Option.some FieldType.boolean) 2 := ⟨tw_3_39, tw_3_38, tw_p_7, tw_1_8, by decide, by decide, by decide +kernel⟩
theorem m_X6_readNumber (l : Launch) (G : Gx) (ad : Ad) (σ : Sg) (v1 : Int32) (v2 : Int32) (r : Int32) (σ' : Sg)  (hf : f_X6_readNumber σ v1 v2 = some (r, σ')) (sz : Nat) : z_MI l yX6_readNumber cX6_readNumber 3 (Option.some FieldType.boolean) 3 60 0 G ad σ sz [.ref (ad 6 0), .int v1, .int v2] r σ' := by
  refine z_begin (by decide +kernel) (Nat.le_of_ble_eq_true rfl) [(0, .ref (ad 6 0)), (1, .int v1), (2, .int v2)] rfl (fun p e s m args below meth c ls C hz S hl => ?_)
  subst hz
  exact w_X6_readNumber_0 (res := (r, σ')) C σ v1 v2 _ _ _ S hl  hf

theorem dX6_readSemicolon_0 : decode cX6_readSemicolon 0 = .ok (.aload_n 0, 1) := by decide +kernel
theorem dX6_readSemicolon_1 : decode cX6_readSemicolon 1 = .ok (.invokevirtual 44, 3) := by decide +kernel
theorem dX6_readSemicolon_4 : decode cX6_readSemicolon 4 = .ok (.aload_n 0, 1) := by decide +kernel
theorem dX6_readSemicolon_5 : decode cX6_readSemicolon 5 = .ok (.getfield 47, 3) := by decide +kernel
theorem dX6_readSemicolon_8 : decode cX6_readSemicolon 8 = .ok (.iconst 3, 1) := by decide +kernel
theorem dX6_readSemicolon_9 : decode cX6_readSemicolon 9 = .ok (.if_icmp .eq 11, 3) := by decide +kernel
theorem dX6_readSemicolon_12 : decode cX6_readSemicolon 12 = .ok (.aload_n 0, 1) := by decide +kernel
theorem dX6_readSemicolon_13 : decode cX6_readSemicolon 13 = .ok (.iconst 1, 1) := by decide +kernel
theorem dX6_readSemicolon_14 : decode cX6_readSemicolon 14 = .ok (.invokevirtual 55, 3) := by decide +kernel
theorem dX6_readSemicolon_17 : decode cX6_readSemicolon 17 = .ok (.ifCond .eq 7, 3) := by decide +kernel
theorem dX6_readSemicolon_20 : decode cX6_readSemicolon 20 = .ok (.iconst 1, 1) := by decide +kernel
theorem dX6_readSemicolon_21 : decode cX6_readSemicolon 21 = .ok (.goto 4, 3) := by decide +kernel
theorem dX6_readSemicolon_24 : decode cX6_readSemicolon 24 = .ok (.iconst 0, 1) := by decide +kernel
theorem dX6_readSemicolon_25 : decode cX6_readSemicolon 25 = .ok (.ireturn, 1) := by decide +kernel
/-! BusLifts$SetupReader.readSemicolon()Z -/
noncomputable def f_X6_readSemicolon_25  (σ : Sg) (v100 : Int32) : Option (Int32 × Sg) := if ¬ (v100 = 0 ∨ v100 = 1) then none else (some (v100, σ))
noncomputable def f_X6_readSemicolon_20  (σ : Sg)  : Option (Int32 × Sg) := f_X6_readSemicolon_25 σ 1
noncomputable def f_X6_readSemicolon  (σ : Sg)  : Option (Int32 × Sg) := bv (f_X6_nextToken σ) fun σ1 => (if (σ1 6 0 5) = 3 then (f_X6_readSemicolon_20 σ1) else (bi (f_X6_fail σ1 1) fun r3 σ2 => (if r3 = 0 then (f_X6_readSemicolon_25 σ2 0) else (f_X6_readSemicolon_20 σ2))))
set_option maxHeartbeats 4000000 in
set_option maxRecDepth 100000 in
theorem w_X6_readSemicolon_25 {p : Program} {l : Launch} {e : Env} {s : State} {m : MethodId} {args : Array Value} {below : List Frame} {meth : Method} {c : Code} {G : Gx} {ad : Ad} {res : Int32 × Sg} (C : Cx p s m args meth c yX6_readSemicolon.cls cX6_readSemicolon 1 (Option.some FieldType.boolean) G)  : ∀ (σ : Sg) (v100 : Int32) (H : Heap) (locs : List Loc) (ls : Array Slot), z_S 0 G ad σ (z_A 0 ad s.heap.size) s.heap H locs → lv_has ls 1 [] → f_X6_readSemicolon_25  σ v100 = some res → W p l e { frames := 3, cells := 0, slots := 0, locals := 60 } s m args below meth c H locs 0 0 (MQ below (va_Qi (S := Unit) (fun r1 _ => r1 = res.1) (fun _ t => z_W 0 G ad res.2 t.heap) (z_A 0 ad s.heap.size)) args s 0 0 (z_A 0 ad s.heap.size)) (F0 m 25 ls [.int v100]) := by
  intro σ v100 H locs ls S hl  hf
  unfold f_X6_readSemicolon_25 at hf
  obtain ⟨g_25, hf⟩ := gd hf
  exact z_zret C S (nbz g_25).1 hf dX6_readSemicolon_25
set_option maxHeartbeats 4000000 in
set_option maxRecDepth 100000 in
theorem w_X6_readSemicolon_20 {p : Program} {l : Launch} {e : Env} {s : State} {m : MethodId} {args : Array Value} {below : List Frame} {meth : Method} {c : Code} {G : Gx} {ad : Ad} {res : Int32 × Sg} (C : Cx p s m args meth c yX6_readSemicolon.cls cX6_readSemicolon 1 (Option.some FieldType.boolean) G)  : ∀ (σ : Sg)  (H : Heap) (locs : List Loc) (ls : Array Slot), z_S 0 G ad σ (z_A 0 ad s.heap.size) s.heap H locs → lv_has ls 1 [] → f_X6_readSemicolon_20  σ  = some res → W p l e { frames := 3, cells := 0, slots := 0, locals := 60 } s m args below meth c H locs 0 0 (MQ below (va_Qi (S := Unit) (fun r1 _ => r1 = res.1) (fun _ t => z_W 0 G ad res.2 t.heap) (z_A 0 ad s.heap.size)) args s 0 0 (z_A 0 ad s.heap.size)) (F0 m 20 ls []) := by
  intro σ  H locs ls S hl  hf
  unfold f_X6_readSemicolon_20 at hf
  refine lv_iconst (v := 1) C.1 C.2.1 dX6_readSemicolon_20 (by decide) ?_
  refine lv_goto (tgt := 25) C.1 C.2.1 dX6_readSemicolon_21 (by decide) ?_
  exact w_X6_readSemicolon_25 C _ 1 _ _ _ S (lv_sub hl [] rfl) hf
set_option maxHeartbeats 4000000 in
set_option maxRecDepth 100000 in
theorem w_X6_readSemicolon_0 {p : Program} {l : Launch} {e : Env} {s : State} {m : MethodId} {args : Array Value} {below : List Frame} {meth : Method} {c : Code} {G : Gx} {ad : Ad} {res : Int32 × Sg} (C : Cx p s m args meth c yX6_readSemicolon.cls cX6_readSemicolon 1 (Option.some FieldType.boolean) G)  : ∀ (σ : Sg)  (H : Heap) (locs : List Loc) (ls : Array Slot), z_S 0 G ad σ (z_A 0 ad s.heap.size) s.heap H locs → lv_has ls 1 [(0, .ref (ad 6 0))] → f_X6_readSemicolon  σ  = some res → W p l e { frames := 3, cells := 0, slots := 0, locals := 60 } s m args below meth c H locs 0 0 (MQ below (va_Qi (S := Unit) (fun r1 _ => r1 = res.1) (fun _ t => z_W 0 G ad res.2 t.heap) (z_A 0 ad s.heap.size)) args s 0 0 (z_A 0 ad s.heap.size)) (F0 m 0 ls []) := by
  intro σ  H locs ls S hl  hf
  unfold f_X6_readSemicolon at hf
  refine lv_aload_n C.1 C.2.1 dX6_readSemicolon_0 rfl (lv_at hl 0 rfl) ?_
  obtain ⟨σ1, q_1, hf⟩ := bvb hf
  refine z_callV C S 6 0 rfl (by decide) cf_6 ⟨_, rfl⟩ [] (m_X6_nextToken l G ad σ σ1 q_1 _) kv_X6_nextToken tw_2_198 ⟨Nat.le_of_ble_eq_true rfl, Nat.le_of_ble_eq_true rfl⟩ rfl rfl (Nat.le_of_ble_eq_true rfl) hl.1 ⟨Nat.le_refl _, Nat.le_refl _⟩ dX6_readSemicolon_1 (fun H locs S => ?_)
  refine lv_aload_n C.1 C.2.1 dX6_readSemicolon_4 rfl (lv_at hl 0 rfl) ?_
  refine z_getI C S 6 0 rfl (by decide) cf_6 5 (by decide) (gi_6_5 G ad 0) tw_2_80 dX6_readSemicolon_5 ?_
  refine lv_iconst (v := 3) C.1 C.2.1 dX6_readSemicolon_8 (by decide) ?_
  refine lv_icmp_eq (tgt := 20) C.1 C.2.1 dX6_readSemicolon_9 (by decide) (fun c_9 => ?_) (fun c_9 => ?_)
  · rw [if_pos c_9] at hf
    exact w_X6_readSemicolon_20 C _ _ _ _ S (lv_sub hl [] rfl) hf
  · rw [if_neg c_9] at hf
    refine lv_aload_n C.1 C.2.1 dX6_readSemicolon_12 rfl (lv_at hl 0 rfl) ?_
    refine lv_iconst (v := 1) C.1 C.2.1 dX6_readSemicolon_13 (by decide) ?_
    obtain ⟨r3, σ2, q_14, hf⟩ := bib hf
    refine z_callI C S 6 0 rfl (by decide) cf_6 ⟨_, rfl⟩ [.int 1] (m_X6_fail l G ad σ1 1 r3 σ2 q_14 _) kv_X6_fail tw_3_32 ⟨Nat.le_of_ble_eq_true rfl, Nat.le_of_ble_eq_true rfl⟩ rfl rfl (Nat.le_of_ble_eq_true rfl) hl.1 ⟨Nat.le_refl _, Nat.le_refl _⟩ dX6_readSemicolon_14 (fun H locs S => ?_)
    refine lv_if_eq (tgt := 24) C.1 C.2.1 dX6_readSemicolon_17 (by decide) (fun c_17 => ?_) (fun c_17 => ?_)
    · rw [if_pos c_17] at hf
      refine lv_iconst (v := 0) C.1 C.2.1 dX6_readSemicolon_24 (by decide) ?_
      exact w_X6_readSemicolon_25 C _ 0 _ _ _ S (lv_sub hl [] rfl) hf
    · rw [if_neg c_17] at hf
      exact w_X6_readSemicolon_20 C _ _ _ _ S (lv_sub hl [] rfl) hf
theorem kv_X6_readSemicolon : KV yX6_readSemicolon cX6_readSemicolon 1 (Option.some FieldType.boolean) 0 := ⟨tw_3_44, tw_3_43, tw_p_8, tw_1_8, by decide, by decide, by decide +kernel⟩
theorem m_X6_readSemicolon (l : Launch) (G : Gx) (ad : Ad) (σ : Sg)  (r : Int32) (σ' : Sg)  (hf : f_X6_readSemicolon σ  = some (r, σ')) (sz : Nat) : z_MI l yX6_readSemicolon cX6_readSemicolon 1 (Option.some FieldType.boolean) 3 60 0 G ad σ sz [.ref (ad 6 0)] r σ' := by
  refine z_begin (by decide +kernel) (Nat.le_of_ble_eq_true rfl) [(0, .ref (ad 6 0))] rfl (fun p e s m args below meth c ls C hz S hl => ?_)
  subst hz
  exact w_X6_readSemicolon_0 (res := (r, σ')) C σ  _ _ _ S hl  hf

theorem dX6_readCar_0 : decode cX6_readCar 0 = .ok (.aload_n 1, 1) := by decide +kernel
theorem dX6_readCar_1 : decode cX6_readCar 1 = .ok (.getfield 50, 3) := by decide +kernel
theorem dX6_readCar_4 : decode cX6_readCar 4 = .ok (.iconst 4, 1) := by decide +kernel
theorem dX6_readCar_5 : decode cX6_readCar 5 = .ok (.if_icmp .lt 9, 3) := by decide +kernel
theorem dX6_readCar_8 : decode cX6_readCar 8 = .ok (.aload_n 0, 1) := by decide +kernel
theorem dX6_readCar_9 : decode cX6_readCar 9 = .ok (.iconst 3, 1) := by decide +kernel
theorem dX6_readCar_10 : decode cX6_readCar 10 = .ok (.invokevirtual 55, 3) := by decide +kernel
theorem dX6_readCar_13 : decode cX6_readCar 13 = .ok (.ireturn, 1) := by decide +kernel
theorem dX6_readCar_14 : decode cX6_readCar 14 = .ok (.aload_n 0, 1) := by decide +kernel
theorem dX6_readCar_15 : decode cX6_readCar 15 = .ok (.iconst 0, 1) := by decide +kernel
theorem dX6_readCar_16 : decode cX6_readCar 16 = .ok (.aload_n 1, 1) := by decide +kernel
theorem dX6_readCar_17 : decode cX6_readCar 17 = .ok (.getfield 101, 3) := by decide +kernel
theorem dX6_readCar_20 : decode cX6_readCar 20 = .ok (.iconst 1, 1) := by decide +kernel
theorem dX6_readCar_21 : decode cX6_readCar 21 = .ok (.isub, 1) := by decide +kernel
theorem dX6_readCar_22 : decode cX6_readCar 22 = .ok (.invokevirtual 68, 3) := by decide +kernel
theorem dX6_readCar_25 : decode cX6_readCar 25 = .ok (.ifCond .ne 5, 3) := by decide +kernel
theorem dX6_readCar_28 : decode cX6_readCar 28 = .ok (.iconst 0, 1) := by decide +kernel
theorem dX6_readCar_29 : decode cX6_readCar 29 = .ok (.ireturn, 1) := by decide +kernel
theorem dX6_readCar_30 : decode cX6_readCar 30 = .ok (.aload_n 0, 1) := by decide +kernel
theorem dX6_readCar_31 : decode cX6_readCar 31 = .ok (.getfield 72, 3) := by decide +kernel
theorem dX6_readCar_34 : decode cX6_readCar 34 = .ok (.istore_n 2, 1) := by decide +kernel
theorem dX6_readCar_35 : decode cX6_readCar 35 = .ok (.aload_n 0, 1) := by decide +kernel
theorem dX6_readCar_36 : decode cX6_readCar 36 = .ok (.iconst 1, 1) := by decide +kernel
theorem dX6_readCar_37 : decode cX6_readCar 37 = .ok (.bipush 8, 2) := by decide +kernel
theorem dX6_readCar_39 : decode cX6_readCar 39 = .ok (.invokevirtual 68, 3) := by decide +kernel
theorem dX6_readCar_42 : decode cX6_readCar 42 = .ok (.ifCond .ne 5, 3) := by decide +kernel
theorem dX6_readCar_45 : decode cX6_readCar 45 = .ok (.iconst 0, 1) := by decide +kernel
theorem dX6_readCar_46 : decode cX6_readCar 46 = .ok (.ireturn, 1) := by decide +kernel
theorem dX6_readCar_47 : decode cX6_readCar 47 = .ok (.aload_n 1, 1) := by decide +kernel
theorem dX6_readCar_48 : decode cX6_readCar 48 = .ok (.iload_n 2, 1) := by decide +kernel
theorem dX6_readCar_49 : decode cX6_readCar 49 = .ok (.aload_n 0, 1) := by decide +kernel
theorem dX6_readCar_50 : decode cX6_readCar 50 = .ok (.getfield 72, 3) := by decide +kernel
theorem dX6_readCar_53 : decode cX6_readCar 53 = .ok (.invokevirtual 103, 3) := by decide +kernel
theorem dX6_readCar_56 : decode cX6_readCar 56 = .ok (.aload_n 0, 1) := by decide +kernel
theorem dX6_readCar_57 : decode cX6_readCar 57 = .ok (.invokevirtual 79, 3) := by decide +kernel
theorem dX6_readCar_60 : decode cX6_readCar 60 = .ok (.ireturn, 1) := by decide +kernel
/-! BusLifts$SetupReader.readCar(LBusLifts$Lifts;)Z -/
noncomputable def f_X6_readCar  (σ : Sg) (o1 : Nat) : Option (Int32 × Sg) := if (σ 4 o1 1) < 4 then (bi (f_X6_readNumber σ 0 ((σ 4 o1 0) - 1)) fun r2 σ1 => (if r2 = 0 then (some (0, σ1)) else (bi (f_X6_readNumber σ1 1 8) fun r4 σ3 => (if r4 = 0 then (some (0, σ3)) else (bv (f_X4_addCar σ3 o1 (σ1 6 0 7) (σ3 6 0 7)) fun σ5 => (bi (f_X6_readSemicolon σ5) fun r7 σ6 => (if ¬ (r7 = 0 ∨ r7 = 1) then none else (some (r7, σ6))))))))) else (bi (f_X6_fail σ 3) fun r9 σ8 => (if ¬ (r9 = 0 ∨ r9 = 1) then none else (some (r9, σ8))))
set_option maxHeartbeats 4000000 in
set_option maxRecDepth 100000 in
theorem w_X6_readCar_0 {p : Program} {l : Launch} {e : Env} {s : State} {m : MethodId} {args : Array Value} {below : List Frame} {meth : Method} {c : Code} {G : Gx} {ad : Ad} {res : Int32 × Sg} (C : Cx p s m args meth c yX6_readCar.cls cX6_readCar 3 (Option.some FieldType.boolean) G)  : ∀ (σ : Sg) (o1 : Nat) (H : Heap) (locs : List Loc) (ls : Array Slot), z_S 0 G ad σ (z_A 0 ad s.heap.size) s.heap H locs → lv_has ls 3 [(0, .ref (ad 6 0)), (1, .ref (ad 4 o1))] → (o1 < z_cnt 4) → f_X6_readCar  σ o1 = some res → W p l e { frames := 4, cells := 0, slots := 0, locals := 90 } s m args below meth c H locs 0 0 (MQ below (va_Qi (S := Unit) (fun r1 _ => r1 = res.1) (fun _ t => z_W 0 G ad res.2 t.heap) (z_A 0 ad s.heap.size)) args s 0 0 (z_A 0 ad s.heap.size)) (F0 m 0 ls []) := by
  intro σ o1 H locs ls S hl ho1 hf
  unfold f_X6_readCar at hf
  refine lv_aload_n C.1 C.2.1 dX6_readCar_0 rfl (lv_at hl 1 rfl) ?_
  refine z_getI C S 4 o1 rfl ho1 cf_4 1 (by decide) (gi_4_1 G ad o1) tw_1_216 dX6_readCar_1 ?_
  refine lv_iconst (v := 4) C.1 C.2.1 dX6_readCar_4 (by decide) ?_
  refine lv_icmp_lt (tgt := 14) C.1 C.2.1 dX6_readCar_5 (by decide) (fun c_5 => ?_) (fun c_5 => ?_)
  · rw [if_pos c_5] at hf
    refine lv_aload_n C.1 C.2.1 dX6_readCar_14 rfl (lv_at hl 0 rfl) ?_
    refine lv_iconst (v := 0) C.1 C.2.1 dX6_readCar_15 (by decide) ?_
    refine lv_aload_n C.1 C.2.1 dX6_readCar_16 rfl (lv_at hl 1 rfl) ?_
    refine z_getI C S 4 o1 rfl ho1 cf_4 0 (by decide) (gi_4_0 G ad o1) tw_1_213 dX6_readCar_17 ?_
    refine lv_iconst (v := 1) C.1 C.2.1 dX6_readCar_20 (by decide) ?_
    refine lv_isub C.1 C.2.1 dX6_readCar_21 ?_
    obtain ⟨r2, σ1, q_22, hf⟩ := bib hf
    refine z_callI C S 6 0 rfl (by decide) cf_6 ⟨_, rfl⟩ [.int 0, .int ((σ 4 o1 0) - 1)] (m_X6_readNumber l G ad σ 0 ((σ 4 o1 0) - 1) r2 σ1 q_22 _) kv_X6_readNumber tw_3_36 ⟨Nat.le_of_ble_eq_true rfl, Nat.le_of_ble_eq_true rfl⟩ rfl rfl (Nat.le_of_ble_eq_true rfl) hl.1 ⟨Nat.le_refl _, Nat.le_refl _⟩ dX6_readCar_22 (fun H locs S => ?_)
    refine lv_if_ne (tgt := 30) C.1 C.2.1 dX6_readCar_25 (by decide) (fun c_25 => ?_) (fun c_25 => ?_)
    · rw [if_neg c_25] at hf
      refine lv_aload_n C.1 C.2.1 dX6_readCar_30 rfl (lv_at hl 0 rfl) ?_
      refine z_getI C S 6 0 rfl (by decide) cf_6 7 (by decide) (gi_6_7 G ad 0) tw_2_82 dX6_readCar_31 ?_
      refine lv_istore_n (lv' := [(2, .int (σ1 6 0 7)), (0, .ref (ad 6 0)), (1, .ref (ad 4 o1))]) C.1 C.2.1 dX6_readCar_34 rfl hl (by decide) rfl (fun ls hl => ?_)
      refine lv_aload_n C.1 C.2.1 dX6_readCar_35 rfl (lv_at hl 1 rfl) ?_
      refine lv_iconst (v := 1) C.1 C.2.1 dX6_readCar_36 (by decide) ?_
      refine lv_bipush (v := 8) C.1 C.2.1 dX6_readCar_37 (by decide) ?_
      obtain ⟨r4, σ3, q_39, hf⟩ := bib hf
      refine z_callI C S 6 0 rfl (by decide) cf_6 ⟨_, rfl⟩ [.int 1, .int 8] (m_X6_readNumber l G ad σ1 1 8 r4 σ3 q_39 _) kv_X6_readNumber tw_3_36 ⟨Nat.le_of_ble_eq_true rfl, Nat.le_of_ble_eq_true rfl⟩ rfl rfl (Nat.le_of_ble_eq_true rfl) hl.1 ⟨Nat.le_refl _, Nat.le_refl _⟩ dX6_readCar_39 (fun H locs S => ?_)
      refine lv_if_ne (tgt := 47) C.1 C.2.1 dX6_readCar_42 (by decide) (fun c_42 => ?_) (fun c_42 => ?_)
      · rw [if_neg c_42] at hf
        refine lv_aload_n C.1 C.2.1 dX6_readCar_47 rfl (lv_at hl 2 rfl) ?_
        refine lv_iload_n C.1 C.2.1 dX6_readCar_48 rfl (lv_at hl 0 rfl) ?_
        refine lv_aload_n C.1 C.2.1 dX6_readCar_49 rfl (lv_at hl 1 rfl) ?_
        refine z_getI C S 6 0 rfl (by decide) cf_6 7 (by decide) (gi_6_7 G ad 0) tw_2_82 dX6_readCar_50 ?_
        obtain ⟨σ5, q_53, hf⟩ := bvb hf
        refine z_callV C S 4 o1 rfl ho1 cf_4 ⟨_, rfl⟩ [.int (σ1 6 0 7), .int (σ3 6 0 7)] (m_X4_addCar l G ad σ3 o1 (σ1 6 0 7) (σ3 6 0 7) σ5 ho1 q_53 _) kv_X4_addCar tw_3_54 ⟨Nat.le_of_ble_eq_true rfl, Nat.le_of_ble_eq_true rfl⟩ rfl rfl (Nat.le_of_ble_eq_true rfl) hl.1 ⟨Nat.le_refl _, Nat.le_refl _⟩ dX6_readCar_53 (fun H locs S => ?_)
        refine lv_aload_n C.1 C.2.1 dX6_readCar_56 rfl (lv_at hl 1 rfl) ?_
        obtain ⟨r7, σ6, q_57, hf⟩ := bib hf
        refine z_callI C S 6 0 rfl (by decide) cf_6 ⟨_, rfl⟩ [] (m_X6_readSemicolon l G ad σ5 r7 σ6 q_57 _) kv_X6_readSemicolon tw_3_41 ⟨Nat.le_of_ble_eq_true rfl, Nat.le_of_ble_eq_true rfl⟩ rfl rfl (Nat.le_of_ble_eq_true rfl) hl.1 ⟨Nat.le_refl _, Nat.le_refl _⟩ dX6_readCar_57 (fun H locs S => ?_)
        obtain ⟨g_60, hf⟩ := gd hf
        exact z_zret C S (nbz g_60).1 hf dX6_readCar_60
      · rw [if_pos c_42] at hf
        refine lv_iconst (v := 0) C.1 C.2.1 dX6_readCar_45 (by decide) ?_
        exact z_zret C S rfl hf dX6_readCar_46
    · rw [if_pos c_25] at hf
      refine lv_iconst (v := 0) C.1 C.2.1 dX6_readCar_28 (by decide) ?_
      exact z_zret C S rfl hf dX6_readCar_29
  · rw [if_neg c_5] at hf
    refine lv_aload_n C.1 C.2.1 dX6_readCar_8 rfl (lv_at hl 0 rfl) ?_
    refine lv_iconst (v := 3) C.1 C.2.1 dX6_readCar_9 (by decide) ?_
    obtain ⟨r9, σ8, q_10, hf⟩ := bib hf
    refine z_callI C S 6 0 rfl (by decide) cf_6 ⟨_, rfl⟩ [.int 3] (m_X6_fail l G ad σ 3 r9 σ8 q_10 _) kv_X6_fail tw_3_32 ⟨Nat.le_of_ble_eq_true rfl, Nat.le_of_ble_eq_true rfl⟩ rfl rfl (Nat.le_of_ble_eq_true rfl) hl.1 ⟨Nat.le_refl _, Nat.le_refl _⟩ dX6_readCar_10 (fun H locs S => ?_)
    obtain ⟨g_13, hf⟩ := gd hf
    exact z_zret C S (nbz g_13).1 hf dX6_readCar_13
theorem kv_X6_readCar : KV yX6_readCar cX6_readCar 3 (Option.some FieldType.boolean) 1 := ⟨tw_3_53, tw_3_52, tw_p_10, tw_1_8, by decide, by decide, by decide +kernel⟩
theorem m_X6_readCar (l : Launch) (G : Gx) (ad : Ad) (σ : Sg) (o1 : Nat) (r : Int32) (σ' : Sg) (ho1 : o1 < z_cnt 4) (hf : f_X6_readCar σ o1 = some (r, σ')) (sz : Nat) : z_MI l yX6_readCar cX6_readCar 3 (Option.some FieldType.boolean) 4 90 0 G ad σ sz [.ref (ad 6 0), .ref (ad 4 o1)] r σ' := by
  refine z_begin (by decide +kernel) (Nat.le_of_ble_eq_true rfl) [(0, .ref (ad 6 0)), (1, .ref (ad 4 o1))] rfl (fun p e s m args below meth c ls C hz S hl => ?_)
  subst hz
  exact w_X6_readCar_0 (res := (r, σ')) C σ o1 _ _ _ S hl ho1 hf

theorem dX6_readCall_0 : decode cX6_readCall 0 = .ok (.aload_n 1, 1) := by decide +kernel
theorem dX6_readCall_1 : decode cX6_readCall 1 = .ok (.getfield 107, 3) := by decide +kernel
theorem dX6_readCall_4 : decode cX6_readCall 4 = .ok (.bipush 24, 2) := by decide +kernel
theorem dX6_readCall_6 : decode cX6_readCall 6 = .ok (.if_icmp .lt 9, 3) := by decide +kernel
theorem dX6_readCall_9 : decode cX6_readCall 9 = .ok (.aload_n 0, 1) := by decide +kernel
theorem dX6_readCall_10 : decode cX6_readCall 10 = .ok (.iconst 3, 1) := by decide +kernel
theorem dX6_readCall_11 : decode cX6_readCall 11 = .ok (.invokevirtual 55, 3) := by decide +kernel
theorem dX6_readCall_14 : decode cX6_readCall 14 = .ok (.ireturn, 1) := by decide +kernel
theorem dX6_readCall_15 : decode cX6_readCall 15 = .ok (.aload_n 0, 1) := by decide +kernel
theorem dX6_readCall_16 : decode cX6_readCall 16 = .ok (.iconst 0, 1) := by decide +kernel
theorem dX6_readCall_17 : decode cX6_readCall 17 = .ok (.sipush 999, 3) := by decide +kernel
theorem dX6_readCall_20 : decode cX6_readCall 20 = .ok (.invokevirtual 68, 3) := by decide +kernel
theorem dX6_readCall_23 : decode cX6_readCall 23 = .ok (.ifCond .ne 5, 3) := by decide +kernel
theorem dX6_readCall_26 : decode cX6_readCall 26 = .ok (.iconst 0, 1) := by decide +kernel
theorem dX6_readCall_27 : decode cX6_readCall 27 = .ok (.ireturn, 1) := by decide +kernel
theorem dX6_readCall_28 : decode cX6_readCall 28 = .ok (.aload_n 0, 1) := by decide +kernel
theorem dX6_readCall_29 : decode cX6_readCall 29 = .ok (.getfield 72, 3) := by decide +kernel
theorem dX6_readCall_32 : decode cX6_readCall 32 = .ok (.istore_n 2, 1) := by decide +kernel
theorem dX6_readCall_33 : decode cX6_readCall 33 = .ok (.aload_n 0, 1) := by decide +kernel
theorem dX6_readCall_34 : decode cX6_readCall 34 = .ok (.iconst 0, 1) := by decide +kernel
theorem dX6_readCall_35 : decode cX6_readCall 35 = .ok (.aload_n 1, 1) := by decide +kernel
theorem dX6_readCall_36 : decode cX6_readCall 36 = .ok (.getfield 101, 3) := by decide +kernel
theorem dX6_readCall_39 : decode cX6_readCall 39 = .ok (.iconst 1, 1) := by decide +kernel
theorem dX6_readCall_40 : decode cX6_readCall 40 = .ok (.isub, 1) := by decide +kernel
theorem dX6_readCall_41 : decode cX6_readCall 41 = .ok (.invokevirtual 68, 3) := by decide +kernel
theorem dX6_readCall_44 : decode cX6_readCall 44 = .ok (.ifCond .ne 5, 3) := by decide +kernel
theorem dX6_readCall_47 : decode cX6_readCall 47 = .ok (.iconst 0, 1) := by decide +kernel
theorem dX6_readCall_48 : decode cX6_readCall 48 = .ok (.ireturn, 1) := by decide +kernel
theorem dX6_readCall_49 : decode cX6_readCall 49 = .ok (.aload_n 0, 1) := by decide +kernel
theorem dX6_readCall_50 : decode cX6_readCall 50 = .ok (.getfield 72, 3) := by decide +kernel
theorem dX6_readCall_53 : decode cX6_readCall 53 = .ok (.istore_n 3, 1) := by decide +kernel
theorem dX6_readCall_54 : decode cX6_readCall 54 = .ok (.aload_n 0, 1) := by decide +kernel
theorem dX6_readCall_55 : decode cX6_readCall 55 = .ok (.iconst 0, 1) := by decide +kernel
theorem dX6_readCall_56 : decode cX6_readCall 56 = .ok (.aload_n 1, 1) := by decide +kernel
theorem dX6_readCall_57 : decode cX6_readCall 57 = .ok (.getfield 101, 3) := by decide +kernel
theorem dX6_readCall_60 : decode cX6_readCall 60 = .ok (.iconst 1, 1) := by decide +kernel
theorem dX6_readCall_61 : decode cX6_readCall 61 = .ok (.isub, 1) := by decide +kernel
theorem dX6_readCall_62 : decode cX6_readCall 62 = .ok (.invokevirtual 68, 3) := by decide +kernel
theorem dX6_readCall_65 : decode cX6_readCall 65 = .ok (.ifCond .ne 5, 3) := by decide +kernel
theorem dX6_readCall_68 : decode cX6_readCall 68 = .ok (.iconst 0, 1) := by decide +kernel
theorem dX6_readCall_69 : decode cX6_readCall 69 = .ok (.ireturn, 1) := by decide +kernel
theorem dX6_readCall_70 : decode cX6_readCall 70 = .ok (.aload_n 0, 1) := by decide +kernel
theorem dX6_readCall_71 : decode cX6_readCall 71 = .ok (.getfield 72, 3) := by decide +kernel
theorem dX6_readCall_74 : decode cX6_readCall 74 = .ok (.iload_n 3, 1) := by decide +kernel
theorem dX6_readCall_75 : decode cX6_readCall 75 = .ok (.if_icmp .ne 9, 3) := by decide +kernel
theorem dX6_readCall_78 : decode cX6_readCall 78 = .ok (.aload_n 0, 1) := by decide +kernel
theorem dX6_readCall_79 : decode cX6_readCall 79 = .ok (.iconst 2, 1) := by decide +kernel
theorem dX6_readCall_80 : decode cX6_readCall 80 = .ok (.invokevirtual 55, 3) := by decide +kernel
theorem dX6_readCall_83 : decode cX6_readCall 83 = .ok (.ireturn, 1) := by decide +kernel
theorem dX6_readCall_84 : decode cX6_readCall 84 = .ok (.aload_n 1, 1) := by decide +kernel
theorem dX6_readCall_85 : decode cX6_readCall 85 = .ok (.iload_n 2, 1) := by decide +kernel
theorem dX6_readCall_86 : decode cX6_readCall 86 = .ok (.iload_n 3, 1) := by decide +kernel
theorem dX6_readCall_87 : decode cX6_readCall 87 = .ok (.aload_n 0, 1) := by decide +kernel
theorem dX6_readCall_88 : decode cX6_readCall 88 = .ok (.getfield 72, 3) := by decide +kernel
theorem dX6_readCall_91 : decode cX6_readCall 91 = .ok (.invokevirtual 110, 3) := by decide +kernel
theorem dX6_readCall_94 : decode cX6_readCall 94 = .ok (.pop, 1) := by decide +kernel
theorem dX6_readCall_95 : decode cX6_readCall 95 = .ok (.aload_n 0, 1) := by decide +kernel
theorem dX6_readCall_96 : decode cX6_readCall 96 = .ok (.invokevirtual 79, 3) := by decide +kernel
theorem dX6_readCall_99 : decode cX6_readCall 99 = .ok (.ireturn, 1) := by decide +kernel
/-! BusLifts$SetupReader.readCall(LBusLifts$Lifts;)Z -/
noncomputable def f_X6_readCall  (σ : Sg) (o1 : Nat) : Option (Int32 × Sg) := if (σ 4 o1 2) < 24 then (bi (f_X6_readNumber σ 0 999) fun r2 σ1 => (if r2 = 0 then (some (0, σ1)) else (bi (f_X6_readNumber σ1 0 ((σ1 4 o1 0) - 1)) fun r4 σ3 => (if r4 = 0 then (some (0, σ3)) else (bi (f_X6_readNumber σ3 0 ((σ3 4 o1 0) - 1)) fun r6 σ5 => (if r6 = 0 then (some (0, σ5)) else (if (σ5 6 0 7) = (σ3 6 0 7) then (bi (f_X6_fail σ5 2) fun r12 σ11 => (if ¬ (r12 = 0 ∨ r12 = 1) then none else (some (r12, σ11)))) else (bi (f_X4_addCall σ5 o1 (σ1 6 0 7) (σ3 6 0 7) (σ5 6 0 7)) fun r8 σ7 => (bi (f_X6_readSemicolon σ7) fun r10 σ9 => (if ¬ (r10 = 0 ∨ r10 = 1) then none else (some (r10, σ9)))))))))))) else (bi (f_X6_fail σ 3) fun r14 σ13 => (if ¬ (r14 = 0 ∨ r14 = 1) then none else (some (r14, σ13))))
set_option maxHeartbeats 4000000 in
set_option maxRecDepth 100000 in
theorem w_X6_readCall_0 {p : Program} {l : Launch} {e : Env} {s : State} {m : MethodId} {args : Array Value} {below : List Frame} {meth : Method} {c : Code} {G : Gx} {ad : Ad} {res : Int32 × Sg} (C : Cx p s m args meth c yX6_readCall.cls cX6_readCall 4 (Option.some FieldType.boolean) G)  : ∀ (σ : Sg) (o1 : Nat) (H : Heap) (locs : List Loc) (ls : Array Slot), z_S 0 G ad σ (z_A 0 ad s.heap.size) s.heap H locs → lv_has ls 4 [(0, .ref (ad 6 0)), (1, .ref (ad 4 o1))] → (o1 < z_cnt 4) → f_X6_readCall  σ o1 = some res → W p l e { frames := 4, cells := 0, slots := 0, locals := 82 } s m args below meth c H locs 0 0 (MQ below (va_Qi (S := Unit) (fun r1 _ => r1 = res.1) (fun _ t => z_W 0 G ad res.2 t.heap) (z_A 0 ad s.heap.size)) args s 0 0 (z_A 0 ad s.heap.size)) (F0 m 0 ls []) := by
  intro σ o1 H locs ls S hl ho1 hf
  unfold f_X6_readCall at hf
  refine lv_aload_n C.1 C.2.1 dX6_readCall_0 rfl (lv_at hl 1 rfl) ?_
  refine z_getI C S 4 o1 rfl ho1 cf_4 2 (by decide) (gi_4_2 G ad o1) tw_1_221 dX6_readCall_1 ?_
  refine lv_bipush (v := 24) C.1 C.2.1 dX6_readCall_4 (by decide) ?_
  refine lv_icmp_lt (tgt := 15) C.1 C.2.1 dX6_readCall_6 (by decide) (fun c_6 => ?_) (fun c_6 => ?_)
  · rw [if_pos c_6] at hf
    refine lv_aload_n C.1 C.2.1 dX6_readCall_15 rfl (lv_at hl 0 rfl) ?_
    refine lv_iconst (v := 0) C.1 C.2.1 dX6_readCall_16 (by decide) ?_
    refine lv_sipush (v := 999) C.1 C.2.1 dX6_readCall_17 (by decide) ?_
    obtain ⟨r2, σ1, q_20, hf⟩ := bib hf
    refine z_callI C S 6 0 rfl (by decide) cf_6 ⟨_, rfl⟩ [.int 0, .int 999] (m_X6_readNumber l G ad σ 0 999 r2 σ1 q_20 _) kv_X6_readNumber tw_3_36 ⟨Nat.le_of_ble_eq_true rfl, Nat.le_of_ble_eq_true rfl⟩ rfl rfl (Nat.le_of_ble_eq_true rfl) hl.1 ⟨Nat.le_refl _, Nat.le_refl _⟩ dX6_readCall_20 (fun H locs S => ?_)
    refine lv_if_ne (tgt := 28) C.1 C.2.1 dX6_readCall_23 (by decide) (fun c_23 => ?_) (fun c_23 => ?_)
    · rw [if_neg c_23] at hf
      refine lv_aload_n C.1 C.2.1 dX6_readCall_28 rfl (lv_at hl 0 rfl) ?_
      refine z_getI C S 6 0 rfl (by decide) cf_6 7 (by decide) (gi_6_7 G ad 0) tw_2_82 dX6_readCall_29 ?_
      refine lv_istore_n (lv' := [(2, .int (σ1 6 0 7)), (0, .ref (ad 6 0)), (1, .ref (ad 4 o1))]) C.1 C.2.1 dX6_readCall_32 rfl hl (by decide) rfl (fun ls hl => ?_)
      refine lv_aload_n C.1 C.2.1 dX6_readCall_33 rfl (lv_at hl 1 rfl) ?_
      refine lv_iconst (v := 0) C.1 C.2.1 dX6_readCall_34 (by decide) ?_
      refine lv_aload_n C.1 C.2.1 dX6_readCall_35 rfl (lv_at hl 2 rfl) ?_
      refine z_getI C S 4 o1 rfl ho1 cf_4 0 (by decide) (gi_4_0 G ad o1) tw_1_213 dX6_readCall_36 ?_
      refine lv_iconst (v := 1) C.1 C.2.1 dX6_readCall_39 (by decide) ?_
      refine lv_isub C.1 C.2.1 dX6_readCall_40 ?_
      obtain ⟨r4, σ3, q_41, hf⟩ := bib hf
      refine z_callI C S 6 0 rfl (by decide) cf_6 ⟨_, rfl⟩ [.int 0, .int ((σ1 4 o1 0) - 1)] (m_X6_readNumber l G ad σ1 0 ((σ1 4 o1 0) - 1) r4 σ3 q_41 _) kv_X6_readNumber tw_3_36 ⟨Nat.le_of_ble_eq_true rfl, Nat.le_of_ble_eq_true rfl⟩ rfl rfl (Nat.le_of_ble_eq_true rfl) hl.1 ⟨Nat.le_refl _, Nat.le_refl _⟩ dX6_readCall_41 (fun H locs S => ?_)
      refine lv_if_ne (tgt := 49) C.1 C.2.1 dX6_readCall_44 (by decide) (fun c_44 => ?_) (fun c_44 => ?_)
      · rw [if_neg c_44] at hf
        refine lv_aload_n C.1 C.2.1 dX6_readCall_49 rfl (lv_at hl 1 rfl) ?_
        refine z_getI C S 6 0 rfl (by decide) cf_6 7 (by decide) (gi_6_7 G ad 0) tw_2_82 dX6_readCall_50 ?_
        refine lv_istore_n (lv' := [(3, .int (σ3 6 0 7)), (2, .int (σ1 6 0 7)), (0, .ref (ad 6 0)), (1, .ref (ad 4 o1))]) C.1 C.2.1 dX6_readCall_53 rfl hl (by decide) rfl (fun ls hl => ?_)
        refine lv_aload_n C.1 C.2.1 dX6_readCall_54 rfl (lv_at hl 2 rfl) ?_
        refine lv_iconst (v := 0) C.1 C.2.1 dX6_readCall_55 (by decide) ?_
        refine lv_aload_n C.1 C.2.1 dX6_readCall_56 rfl (lv_at hl 3 rfl) ?_
        refine z_getI C S 4 o1 rfl ho1 cf_4 0 (by decide) (gi_4_0 G ad o1) tw_1_213 dX6_readCall_57 ?_
        refine lv_iconst (v := 1) C.1 C.2.1 dX6_readCall_60 (by decide) ?_
        refine lv_isub C.1 C.2.1 dX6_readCall_61 ?_
        obtain ⟨r6, σ5, q_62, hf⟩ := bib hf
        refine z_callI C S 6 0 rfl (by decide) cf_6 ⟨_, rfl⟩ [.int 0, .int ((σ3 4 o1 0) - 1)] (m_X6_readNumber l G ad σ3 0 ((σ3 4 o1 0) - 1) r6 σ5 q_62 _) kv_X6_readNumber tw_3_36 ⟨Nat.le_of_ble_eq_true rfl, Nat.le_of_ble_eq_true rfl⟩ rfl rfl (Nat.le_of_ble_eq_true rfl) hl.1 ⟨Nat.le_refl _, Nat.le_refl _⟩ dX6_readCall_62 (fun H locs S => ?_)
        refine lv_if_ne (tgt := 70) C.1 C.2.1 dX6_readCall_65 (by decide) (fun c_65 => ?_) (fun c_65 => ?_)
        · rw [if_neg c_65] at hf
          refine lv_aload_n C.1 C.2.1 dX6_readCall_70 rfl (lv_at hl 2 rfl) ?_
          refine z_getI C S 6 0 rfl (by decide) cf_6 7 (by decide) (gi_6_7 G ad 0) tw_2_82 dX6_readCall_71 ?_
          refine lv_iload_n C.1 C.2.1 dX6_readCall_74 rfl (lv_at hl 0 rfl) ?_
          refine lv_icmp_ne (tgt := 84) C.1 C.2.1 dX6_readCall_75 (by decide) (fun c_75 => ?_) (fun c_75 => ?_)
          · rw [if_neg c_75] at hf
            refine lv_aload_n C.1 C.2.1 dX6_readCall_84 rfl (lv_at hl 3 rfl) ?_
            refine lv_iload_n C.1 C.2.1 dX6_readCall_85 rfl (lv_at hl 1 rfl) ?_
            refine lv_iload_n C.1 C.2.1 dX6_readCall_86 rfl (lv_at hl 0 rfl) ?_
            refine lv_aload_n C.1 C.2.1 dX6_readCall_87 rfl (lv_at hl 2 rfl) ?_
            refine z_getI C S 6 0 rfl (by decide) cf_6 7 (by decide) (gi_6_7 G ad 0) tw_2_82 dX6_readCall_88 ?_
            obtain ⟨r8, σ7, q_91, hf⟩ := bib hf
            refine z_callI C S 4 o1 rfl ho1 cf_4 ⟨_, rfl⟩ [.int (σ1 6 0 7), .int (σ3 6 0 7), .int (σ5 6 0 7)] (m_X4_addCall l G ad σ5 o1 (σ1 6 0 7) (σ3 6 0 7) (σ5 6 0 7) r8 σ7 ho1 q_91 _) kv_X4_addCall tw_3_60 ⟨Nat.le_of_ble_eq_true rfl, Nat.le_of_ble_eq_true rfl⟩ rfl rfl (Nat.le_of_ble_eq_true rfl) hl.1 ⟨Nat.le_refl _, Nat.le_refl _⟩ dX6_readCall_91 (fun H locs S => ?_)
            refine lv_pop C.1 C.2.1 dX6_readCall_94 rfl ?_
            refine lv_aload_n C.1 C.2.1 dX6_readCall_95 rfl (lv_at hl 2 rfl) ?_
            obtain ⟨r10, σ9, q_96, hf⟩ := bib hf
            refine z_callI C S 6 0 rfl (by decide) cf_6 ⟨_, rfl⟩ [] (m_X6_readSemicolon l G ad σ7 r10 σ9 q_96 _) kv_X6_readSemicolon tw_3_41 ⟨Nat.le_of_ble_eq_true rfl, Nat.le_of_ble_eq_true rfl⟩ rfl rfl (Nat.le_of_ble_eq_true rfl) hl.1 ⟨Nat.le_refl _, Nat.le_refl _⟩ dX6_readCall_96 (fun H locs S => ?_)
            obtain ⟨g_99, hf⟩ := gd hf
            exact z_zret C S (nbz g_99).1 hf dX6_readCall_99
          · rw [if_pos c_75] at hf
            refine lv_aload_n C.1 C.2.1 dX6_readCall_78 rfl (lv_at hl 2 rfl) ?_
            refine lv_iconst (v := 2) C.1 C.2.1 dX6_readCall_79 (by decide) ?_
            obtain ⟨r12, σ11, q_80, hf⟩ := bib hf
            refine z_callI C S 6 0 rfl (by decide) cf_6 ⟨_, rfl⟩ [.int 2] (m_X6_fail l G ad σ5 2 r12 σ11 q_80 _) kv_X6_fail tw_3_32 ⟨Nat.le_of_ble_eq_true rfl, Nat.le_of_ble_eq_true rfl⟩ rfl rfl (Nat.le_of_ble_eq_true rfl) hl.1 ⟨Nat.le_refl _, Nat.le_refl _⟩ dX6_readCall_80 (fun H locs S => ?_)
            obtain ⟨g_83, hf⟩ := gd hf
            exact z_zret C S (nbz g_83).1 hf dX6_readCall_83
        · rw [if_pos c_65] at hf
          refine lv_iconst (v := 0) C.1 C.2.1 dX6_readCall_68 (by decide) ?_
          exact z_zret C S rfl hf dX6_readCall_69
      · rw [if_pos c_44] at hf
        refine lv_iconst (v := 0) C.1 C.2.1 dX6_readCall_47 (by decide) ?_
        exact z_zret C S rfl hf dX6_readCall_48
    · rw [if_pos c_23] at hf
      refine lv_iconst (v := 0) C.1 C.2.1 dX6_readCall_26 (by decide) ?_
      exact z_zret C S rfl hf dX6_readCall_27
  · rw [if_neg c_6] at hf
    refine lv_aload_n C.1 C.2.1 dX6_readCall_9 rfl (lv_at hl 0 rfl) ?_
    refine lv_iconst (v := 3) C.1 C.2.1 dX6_readCall_10 (by decide) ?_
    obtain ⟨r14, σ13, q_11, hf⟩ := bib hf
    refine z_callI C S 6 0 rfl (by decide) cf_6 ⟨_, rfl⟩ [.int 3] (m_X6_fail l G ad σ 3 r14 σ13 q_11 _) kv_X6_fail tw_3_32 ⟨Nat.le_of_ble_eq_true rfl, Nat.le_of_ble_eq_true rfl⟩ rfl rfl (Nat.le_of_ble_eq_true rfl) hl.1 ⟨Nat.le_refl _, Nat.le_refl _⟩ dX6_readCall_11 (fun H locs S => ?_)
    obtain ⟨g_14, hf⟩ := gd hf
    exact z_zret C S (nbz g_14).1 hf dX6_readCall_14
theorem kv_X6_readCall : KV yX6_readCall cX6_readCall 4 (Option.some FieldType.boolean) 1 := ⟨tw_3_59, tw_3_58, tw_p_11, tw_1_8, by decide, by decide, by decide +kernel⟩
theorem m_X6_readCall (l : Launch) (G : Gx) (ad : Ad) (σ : Sg) (o1 : Nat) (r : Int32) (σ' : Sg) (ho1 : o1 < z_cnt 4) (hf : f_X6_readCall σ o1 = some (r, σ')) (sz : Nat) : z_MI l yX6_readCall cX6_readCall 4 (Option.some FieldType.boolean) 4 82 0 G ad σ sz [.ref (ad 6 0), .ref (ad 4 o1)] r σ' := by
  refine z_begin (by decide +kernel) (Nat.le_of_ble_eq_true rfl) [(0, .ref (ad 6 0)), (1, .ref (ad 4 o1))] rfl (fun p e s m args below meth c ls C hz S hl => ?_)
  subst hz
  exact w_X6_readCall_0 (res := (r, σ')) C σ o1 _ _ _ S hl ho1 hf

theorem dX6_readSetting_0 : decode cX6_readSetting 0 = .ok (.aload_n 0, 1) := by decide +kernel
theorem dX6_readSetting_1 : decode cX6_readSetting 1 = .ok (.getfield 31, 3) := by decide +kernel
theorem dX6_readSetting_4 : decode cX6_readSetting 4 = .ok (.iload_n 2, 1) := by decide +kernel
theorem dX6_readSetting_5 : decode cX6_readSetting 5 = .ok (.iushr, 1) := by decide +kernel
theorem dX6_readSetting_6 : decode cX6_readSetting 6 = .ok (.iconst 1, 1) := by decide +kernel
theorem dX6_readSetting_7 : decode cX6_readSetting 7 = .ok (.iand, 1) := by decide +kernel
theorem dX6_readSetting_8 : decode cX6_readSetting 8 = .ok (.ifCond .eq 9, 3) := by decide +kernel
theorem dX6_readSetting_11 : decode cX6_readSetting 11 = .ok (.aload_n 0, 1) := by decide +kernel
theorem dX6_readSetting_12 : decode cX6_readSetting 12 = .ok (.iconst 3, 1) := by decide +kernel
theorem dX6_readSetting_13 : decode cX6_readSetting 13 = .ok (.invokevirtual 55, 3) := by decide +kernel
theorem dX6_readSetting_16 : decode cX6_readSetting 16 = .ok (.ireturn, 1) := by decide +kernel
theorem dX6_readSetting_17 : decode cX6_readSetting 17 = .ok (.aload_n 0, 1) := by decide +kernel
theorem dX6_readSetting_18 : decode cX6_readSetting 18 = .ok (.dup, 1) := by decide +kernel
theorem dX6_readSetting_19 : decode cX6_readSetting 19 = .ok (.getfield 31, 3) := by decide +kernel
theorem dX6_readSetting_22 : decode cX6_readSetting 22 = .ok (.iconst 1, 1) := by decide +kernel
theorem dX6_readSetting_23 : decode cX6_readSetting 23 = .ok (.iload_n 2, 1) := by decide +kernel
theorem dX6_readSetting_24 : decode cX6_readSetting 24 = .ok (.ishl, 1) := by decide +kernel
theorem dX6_readSetting_25 : decode cX6_readSetting 25 = .ok (.ior, 1) := by decide +kernel
theorem dX6_readSetting_26 : decode cX6_readSetting 26 = .ok (.putfield 31, 3) := by decide +kernel
theorem dX6_readSetting_29 : decode cX6_readSetting 29 = .ok (.iload_n 2, 1) := by decide +kernel
theorem dX6_readSetting_30 : decode cX6_readSetting 30 = .ok (.iconst 5, 1) := by decide +kernel
theorem dX6_readSetting_31 : decode cX6_readSetting 31 = .ok (.if_icmp .ne 27, 3) := by decide +kernel
theorem dX6_readSetting_34 : decode cX6_readSetting 34 = .ok (.aload_n 0, 1) := by decide +kernel
theorem dX6_readSetting_35 : decode cX6_readSetting 35 = .ok (.iconst 0, 1) := by decide +kernel
theorem dX6_readSetting_36 : decode cX6_readSetting 36 = .ok (.sipush 9999, 3) := by decide +kernel
theorem dX6_readSetting_39 : decode cX6_readSetting 39 = .ok (.invokevirtual 68, 3) := by decide +kernel
theorem dX6_readSetting_42 : decode cX6_readSetting 42 = .ok (.ifCond .ne 5, 3) := by decide +kernel
theorem dX6_readSetting_45 : decode cX6_readSetting 45 = .ok (.iconst 0, 1) := by decide +kernel
theorem dX6_readSetting_46 : decode cX6_readSetting 46 = .ok (.ireturn, 1) := by decide +kernel
theorem dX6_readSetting_47 : decode cX6_readSetting 47 = .ok (.aload_n 1, 1) := by decide +kernel
theorem dX6_readSetting_48 : decode cX6_readSetting 48 = .ok (.aload_n 0, 1) := by decide +kernel
theorem dX6_readSetting_49 : decode cX6_readSetting 49 = .ok (.getfield 72, 3) := by decide +kernel
theorem dX6_readSetting_52 : decode cX6_readSetting 52 = .ok (.putfield 114, 3) := by decide +kernel
theorem dX6_readSetting_55 : decode cX6_readSetting 55 = .ok (.goto 32, 3) := by decide +kernel
theorem dX6_readSetting_58 : decode cX6_readSetting 58 = .ok (.aload_n 0, 1) := by decide +kernel
theorem dX6_readSetting_59 : decode cX6_readSetting 59 = .ok (.getstatic 117, 3) := by decide +kernel
theorem dX6_readSetting_62 : decode cX6_readSetting 62 = .ok (.iload_n 2, 1) := by decide +kernel
theorem dX6_readSetting_63 : decode cX6_readSetting 63 = .ok (.iaload, 1) := by decide +kernel
theorem dX6_readSetting_64 : decode cX6_readSetting 64 = .ok (.getstatic 120, 3) := by decide +kernel
theorem dX6_readSetting_67 : decode cX6_readSetting 67 = .ok (.iload_n 2, 1) := by decide +kernel
theorem dX6_readSetting_68 : decode cX6_readSetting 68 = .ok (.iaload, 1) := by decide +kernel
theorem dX6_readSetting_69 : decode cX6_readSetting 69 = .ok (.invokevirtual 68, 3) := by decide +kernel
theorem dX6_readSetting_72 : decode cX6_readSetting 72 = .ok (.ifCond .ne 5, 3) := by decide +kernel
theorem dX6_readSetting_75 : decode cX6_readSetting 75 = .ok (.iconst 0, 1) := by decide +kernel
theorem dX6_readSetting_76 : decode cX6_readSetting 76 = .ok (.ireturn, 1) := by decide +kernel
theorem dX6_readSetting_77 : decode cX6_readSetting 77 = .ok (.aload_n 1, 1) := by decide +kernel
theorem dX6_readSetting_78 : decode cX6_readSetting 78 = .ok (.getfield 123, 3) := by decide +kernel
theorem dX6_readSetting_81 : decode cX6_readSetting 81 = .ok (.iload_n 2, 1) := by decide +kernel
theorem dX6_readSetting_82 : decode cX6_readSetting 82 = .ok (.aload_n 0, 1) := by decide +kernel
theorem dX6_readSetting_83 : decode cX6_readSetting 83 = .ok (.getfield 72, 3) := by decide +kernel
theorem dX6_readSetting_86 : decode cX6_readSetting 86 = .ok (.iastore, 1) := by decide +kernel
theorem dX6_readSetting_87 : decode cX6_readSetting 87 = .ok (.aload_n 0, 1) := by decide +kernel
theorem dX6_readSetting_88 : decode cX6_readSetting 88 = .ok (.invokevirtual 79, 3) := by decide +kernel
theorem dX6_readSetting_91 : decode cX6_readSetting 91 = .ok (.ireturn, 1) := by decide +kernel
/-! BusLifts$SetupReader.readSetting(LBusLifts$Lifts;I)Z -/
noncomputable def f_X6_readSetting_87  (σ : Sg)  : Option (Int32 × Sg) := bi (f_X6_readSemicolon σ) fun r2 σ1 => (if ¬ (r2 = 0 ∨ r2 = 1) then none else (some (r2, σ1)))
noncomputable def f_X6_readSetting  (σ : Sg) (o1 : Nat) (v2 : Int32) : Option (Int32 × Sg) := if ((jush (σ 6 0 8) v2) &&& 1) = 0 then (st (sup σ 6 0 8 ((σ 6 0 8) ||| (1 <<< (v2 &&& 31)))) fun σ1 => (if v2 = 5 then (bi (f_X6_readNumber σ1 0 9999) fun r6 σ5 => (if r6 = 0 then (some (0, σ5)) else (st (sup σ5 4 o1 4 (σ5 6 0 7)) fun σ7 => (f_X6_readSetting_87 σ7)))) else (if v2 < 0 ∨ 5 ≤ (v2).toNatClampNeg then none else (if v2 < 0 ∨ 5 ≤ (v2).toNatClampNeg then none else (bi (f_X6_readNumber σ1 (stab 0 (v2).toNatClampNeg) (stab 1 (v2).toNatClampNeg)) fun r3 σ2 => (if r3 = 0 then (some (0, σ2)) else (if v2 < 0 ∨ 5 ≤ (v2).toNatClampNeg then none else (st (sup σ2 12 o1 (v2).toNatClampNeg (σ2 6 0 7)) fun σ4 => (f_X6_readSetting_87 σ4))))))))) else (bi (f_X6_fail σ 3) fun r9 σ8 => (if ¬ (r9 = 0 ∨ r9 = 1) then none else (some (r9, σ8))))
set_option maxHeartbeats 4000000 in
set_option maxRecDepth 100000 in
theorem w_X6_readSetting_87 {p : Program} {l : Launch} {e : Env} {s : State} {m : MethodId} {args : Array Value} {below : List Frame} {meth : Method} {c : Code} {G : Gx} {ad : Ad} {res : Int32 × Sg} (C : Cx p s m args meth c yX6_readSetting.cls cX6_readSetting 3 (Option.some FieldType.boolean) G)  : ∀ (σ : Sg)  (H : Heap) (locs : List Loc) (ls : Array Slot), z_S 0 G ad σ (z_A 0 ad s.heap.size) s.heap H locs → lv_has ls 3 [(0, .ref (ad 6 0))] → f_X6_readSetting_87  σ  = some res → W p l e { frames := 4, cells := 0, slots := 0, locals := 82 } s m args below meth c H locs 0 0 (MQ below (va_Qi (S := Unit) (fun r1 _ => r1 = res.1) (fun _ t => z_W 0 G ad res.2 t.heap) (z_A 0 ad s.heap.size)) args s 0 0 (z_A 0 ad s.heap.size)) (F0 m 87 ls []) := by
  intro σ  H locs ls S hl  hf
  unfold f_X6_readSetting_87 at hf
  refine lv_aload_n C.1 C.2.1 dX6_readSetting_87 rfl (lv_at hl 0 rfl) ?_
  obtain ⟨r2, σ1, q_88, hf⟩ := bib hf
  refine z_callI C S 6 0 rfl (by decide) cf_6 ⟨_, rfl⟩ [] (m_X6_readSemicolon l G ad σ r2 σ1 q_88 _) kv_X6_readSemicolon tw_3_41 ⟨Nat.le_of_ble_eq_true rfl, Nat.le_of_ble_eq_true rfl⟩ rfl rfl (Nat.le_of_ble_eq_true rfl) hl.1 ⟨Nat.le_refl _, Nat.le_refl _⟩ dX6_readSetting_88 (fun H locs S => ?_)
  obtain ⟨g_91, hf⟩ := gd hf
  exact z_zret C S (nbz g_91).1 hf dX6_readSetting_91
set_option maxHeartbeats 4000000 in
set_option maxRecDepth 100000 in
theorem w_X6_readSetting_0 {p : Program} {l : Launch} {e : Env} {s : State} {m : MethodId} {args : Array Value} {below : List Frame} {meth : Method} {c : Code} {G : Gx} {ad : Ad} {res : Int32 × Sg} (C : Cx p s m args meth c yX6_readSetting.cls cX6_readSetting 3 (Option.some FieldType.boolean) G)  : ∀ (σ : Sg) (o1 : Nat) (v2 : Int32) (H : Heap) (locs : List Loc) (ls : Array Slot), z_S 0 G ad σ (z_A 0 ad s.heap.size) s.heap H locs → lv_has ls 3 [(0, .ref (ad 6 0)), (1, .ref (ad 4 o1)), (2, .int v2)] → (o1 < z_cnt 4) → f_X6_readSetting  σ o1 v2 = some res → W p l e { frames := 4, cells := 0, slots := 0, locals := 82 } s m args below meth c H locs 0 0 (MQ below (va_Qi (S := Unit) (fun r1 _ => r1 = res.1) (fun _ t => z_W 0 G ad res.2 t.heap) (z_A 0 ad s.heap.size)) args s 0 0 (z_A 0 ad s.heap.size)) (F0 m 0 ls []) := by
  intro σ o1 v2 H locs ls S hl ho1 hf
  unfold f_X6_readSetting at hf
  refine lv_aload_n C.1 C.2.1 dX6_readSetting_0 rfl (lv_at hl 0 rfl) ?_
  refine z_getI C S 6 0 rfl (by decide) cf_6 8 (by decide) (gi_6_8 G ad 0) tw_2_83 dX6_readSetting_1 ?_
  refine lv_iload_n C.1 C.2.1 dX6_readSetting_4 rfl (lv_at hl 2 rfl) ?_
  refine lv_iushr (v := (jush (σ 6 0 8) v2)) C.1 C.2.1 dX6_readSetting_5 rfl ?_
  refine lv_iconst (v := 1) C.1 C.2.1 dX6_readSetting_6 (by decide) ?_
  refine lv_iand C.1 C.2.1 dX6_readSetting_7 ?_
  refine lv_if_eq (tgt := 17) C.1 C.2.1 dX6_readSetting_8 (by decide) (fun c_8 => ?_) (fun c_8 => ?_)
  · rw [if_pos c_8] at hf
    refine lv_aload_n C.1 C.2.1 dX6_readSetting_17 rfl (lv_at hl 0 rfl) ?_
    refine lv_dup C.1 C.2.1 dX6_readSetting_18 rfl ?_
    refine z_getI C S 6 0 rfl (by decide) cf_6 8 (by decide) (gi_6_8 G ad 0) tw_2_83 dX6_readSetting_19 ?_
    refine lv_iconst (v := 1) C.1 C.2.1 dX6_readSetting_22 (by decide) ?_
    refine lv_iload_n C.1 C.2.1 dX6_readSetting_23 rfl (lv_at hl 2 rfl) ?_
    refine lv_ishl C.1 C.2.1 dX6_readSetting_24 ?_
    refine lv_ior C.1 C.2.1 dX6_readSetting_25 ?_
    obtain ⟨σ1, e_26, hf⟩ := stb hf
    refine z_putI C S 6 0 rfl (by decide) cf_6 8 (by decide) (pi_6_8 G ad 0) rfl rfl rfl tw_2_83 dX6_readSetting_26 (fun H locs S => ?_)
    rw [← e_26] at S
    refine lv_iload_n C.1 C.2.1 dX6_readSetting_29 rfl (lv_at hl 2 rfl) ?_
    refine lv_iconst (v := 5) C.1 C.2.1 dX6_readSetting_30 (by decide) ?_
    refine lv_icmp_ne (tgt := 58) C.1 C.2.1 dX6_readSetting_31 (by decide) (fun c_31 => ?_) (fun c_31 => ?_)
    · rw [if_neg c_31] at hf
      refine lv_aload_n C.1 C.2.1 dX6_readSetting_58 rfl (lv_at hl 0 rfl) ?_
      refine z_getsN C S "LEAST_SETTING" 0 _ (List.mem_of_getElem? (i := 0) rfl) (List.mem_of_getElem? (i := 7) rfl) dX6_readSetting_59 ?_
      refine lv_iload_n C.1 C.2.1 dX6_readSetting_62 rfl (lv_at hl 2 rfl) ?_
      obtain ⟨g_63, hf⟩ := gd hf
      refine z_tld C S 0 (by decide) g_63 dX6_readSetting_63 ?_
      refine z_getsN C S "MOST_SETTING" 1 _ (List.mem_of_getElem? (i := 1) rfl) (List.mem_of_getElem? (i := 8) rfl) dX6_readSetting_64 ?_
      refine lv_iload_n C.1 C.2.1 dX6_readSetting_67 rfl (lv_at hl 2 rfl) ?_
      obtain ⟨g_68, hf⟩ := gd hf
      refine z_tld C S 1 (by decide) g_68 dX6_readSetting_68 ?_
      obtain ⟨r3, σ2, q_69, hf⟩ := bib hf
      refine z_callI C S 6 0 rfl (by decide) cf_6 ⟨_, rfl⟩ [.int (stab 0 (v2).toNatClampNeg), .int (stab 1 (v2).toNatClampNeg)] (m_X6_readNumber l G ad σ1 (stab 0 (v2).toNatClampNeg) (stab 1 (v2).toNatClampNeg) r3 σ2 q_69 _) kv_X6_readNumber tw_3_36 ⟨Nat.le_of_ble_eq_true rfl, Nat.le_of_ble_eq_true rfl⟩ rfl rfl (Nat.le_of_ble_eq_true rfl) hl.1 ⟨Nat.le_refl _, Nat.le_refl _⟩ dX6_readSetting_69 (fun H locs S => ?_)
      refine lv_if_ne (tgt := 77) C.1 C.2.1 dX6_readSetting_72 (by decide) (fun c_72 => ?_) (fun c_72 => ?_)
      · rw [if_neg c_72] at hf
        refine lv_aload_n C.1 C.2.1 dX6_readSetting_77 rfl (lv_at hl 1 rfl) ?_
        refine z_getR C S 4 o1 rfl ho1 cf_4 5 (by decide) _ (gr_4_5 G ad o1) tw_1_230 dX6_readSetting_78 ?_
        refine lv_iload_n C.1 C.2.1 dX6_readSetting_81 rfl (lv_at hl 2 rfl) ?_
        refine lv_aload_n C.1 C.2.1 dX6_readSetting_82 rfl (lv_at hl 0 rfl) ?_
        refine z_getI C S 6 0 rfl (by decide) cf_6 7 (by decide) (gi_6_7 G ad 0) tw_2_82 dX6_readSetting_83 ?_
        obtain ⟨g_86, hf⟩ := gd hf
        obtain ⟨σ4, e_86, hf⟩ := stb hf
        refine z_iast C S 12 o1 rfl ho1 5 (fun _ => rfl) g_86 dX6_readSetting_86 (fun H locs S => ?_)
        rw [← e_86] at S
        exact w_X6_readSetting_87 C _ _ _ _ S (lv_sub hl [0] rfl) hf
      · rw [if_pos c_72] at hf
        refine lv_iconst (v := 0) C.1 C.2.1 dX6_readSetting_75 (by decide) ?_
        exact z_zret C S rfl hf dX6_readSetting_76
    · rw [if_pos c_31] at hf
      refine lv_aload_n C.1 C.2.1 dX6_readSetting_34 rfl (lv_at hl 0 rfl) ?_
      refine lv_iconst (v := 0) C.1 C.2.1 dX6_readSetting_35 (by decide) ?_
      refine lv_sipush (v := 9999) C.1 C.2.1 dX6_readSetting_36 (by decide) ?_
      obtain ⟨r6, σ5, q_39, hf⟩ := bib hf
      refine z_callI C S 6 0 rfl (by decide) cf_6 ⟨_, rfl⟩ [.int 0, .int 9999] (m_X6_readNumber l G ad σ1 0 9999 r6 σ5 q_39 _) kv_X6_readNumber tw_3_36 ⟨Nat.le_of_ble_eq_true rfl, Nat.le_of_ble_eq_true rfl⟩ rfl rfl (Nat.le_of_ble_eq_true rfl) hl.1 ⟨Nat.le_refl _, Nat.le_refl _⟩ dX6_readSetting_39 (fun H locs S => ?_)
      refine lv_if_ne (tgt := 47) C.1 C.2.1 dX6_readSetting_42 (by decide) (fun c_42 => ?_) (fun c_42 => ?_)
      · rw [if_neg c_42] at hf
        refine lv_aload_n C.1 C.2.1 dX6_readSetting_47 rfl (lv_at hl 1 rfl) ?_
        refine lv_aload_n C.1 C.2.1 dX6_readSetting_48 rfl (lv_at hl 0 rfl) ?_
        refine z_getI C S 6 0 rfl (by decide) cf_6 7 (by decide) (gi_6_7 G ad 0) tw_2_82 dX6_readSetting_49 ?_
        obtain ⟨σ7, e_52, hf⟩ := stb hf
        refine z_putI C S 4 o1 rfl ho1 cf_4 4 (by decide) (pi_4_4 G ad o1) rfl rfl rfl tw_1_227 dX6_readSetting_52 (fun H locs S => ?_)
        rw [← e_52] at S
        refine lv_goto (tgt := 87) C.1 C.2.1 dX6_readSetting_55 (by decide) ?_
        exact w_X6_readSetting_87 C _ _ _ _ S (lv_sub hl [0] rfl) hf
      · rw [if_pos c_42] at hf
        refine lv_iconst (v := 0) C.1 C.2.1 dX6_readSetting_45 (by decide) ?_
        exact z_zret C S rfl hf dX6_readSetting_46
  · rw [if_neg c_8] at hf
    refine lv_aload_n C.1 C.2.1 dX6_readSetting_11 rfl (lv_at hl 0 rfl) ?_
    refine lv_iconst (v := 3) C.1 C.2.1 dX6_readSetting_12 (by decide) ?_
    obtain ⟨r9, σ8, q_13, hf⟩ := bib hf
    refine z_callI C S 6 0 rfl (by decide) cf_6 ⟨_, rfl⟩ [.int 3] (m_X6_fail l G ad σ 3 r9 σ8 q_13 _) kv_X6_fail tw_3_32 ⟨Nat.le_of_ble_eq_true rfl, Nat.le_of_ble_eq_true rfl⟩ rfl rfl (Nat.le_of_ble_eq_true rfl) hl.1 ⟨Nat.le_refl _, Nat.le_refl _⟩ dX6_readSetting_13 (fun H locs S => ?_)
    obtain ⟨g_16, hf⟩ := gd hf
    exact z_zret C S (nbz g_16).1 hf dX6_readSetting_16
theorem kv_X6_readSetting : KV yX6_readSetting cX6_readSetting 3 (Option.some FieldType.boolean) 2 := ⟨tw_3_81, tw_3_80, tw_p_13, tw_1_8, by decide, by decide, by decide +kernel⟩
theorem m_X6_readSetting (l : Launch) (G : Gx) (ad : Ad) (σ : Sg) (o1 : Nat) (v2 : Int32) (r : Int32) (σ' : Sg) (ho1 : o1 < z_cnt 4) (hf : f_X6_readSetting σ o1 v2 = some (r, σ')) (sz : Nat) : z_MI l yX6_readSetting cX6_readSetting 3 (Option.some FieldType.boolean) 4 82 0 G ad σ sz [.ref (ad 6 0), .ref (ad 4 o1), .int v2] r σ' := by
  refine z_begin (by decide +kernel) (Nat.le_of_ble_eq_true rfl) [(0, .ref (ad 6 0)), (1, .ref (ad 4 o1)), (2, .int v2)] rfl (fun p e s m args below meth c ls C hz S hl => ?_)
  subst hz
  exact w_X6_readSetting_0 (res := (r, σ')) C σ o1 v2 _ _ _ S hl ho1 hf
