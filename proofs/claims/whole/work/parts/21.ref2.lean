theorem dX8_decides__0 : decode cX8_decides_ 0 = .ok (.aload_n 0, 1) := by decide +kernel
theorem dX8_decides__1 : decode cX8_decides_ 1 = .ok (.iload_n 1, 1) := by decide +kernel
theorem dX8_decides__2 : decode cX8_decides_ 2 = .ok (.iload_n 2, 1) := by decide +kernel
theorem dX8_decides__3 : decode cX8_decides_ 3 = .ok (.invokevirtual 283, 3) := by decide +kernel
theorem dX8_decides__6 : decode cX8_decides_ 6 = .ok (.ifCond .eq 7, 3) := by decide +kernel
theorem dX8_decides__9 : decode cX8_decides_ 9 = .ok (.iconst 0, 1) := by decide +kernel
theorem dX8_decides__10 : decode cX8_decides_ 10 = .ok (.goto 16, 3) := by decide +kernel
theorem dX8_decides__13 : decode cX8_decides_ 13 = .ok (.aload_n 0, 1) := by decide +kernel
theorem dX8_decides__14 : decode cX8_decides_ 14 = .ok (.getfield 7, 3) := by decide +kernel
theorem dX8_decides__17 : decode cX8_decides_ 17 = .ok (.sipush 511, 3) := by decide +kernel
theorem dX8_decides__20 : decode cX8_decides_ 20 = .ok (.iload_n 1, 1) := by decide +kernel
theorem dX8_decides__21 : decode cX8_decides_ 21 = .ok (.iload_n 2, 1) := by decide +kernel
theorem dX8_decides__22 : decode cX8_decides_ 22 = .ok (.invokestatic 65, 3) := by decide +kernel
theorem dX8_decides__25 : decode cX8_decides_ 25 = .ok (.iaload, 1) := by decide +kernel
theorem dX8_decides__26 : decode cX8_decides_ 26 = .ok (.ireturn, 1) := by decide +kernel
/-! BusLiftsModel.decides(II)I -/
noncomputable def f_X8_decides__26  (σ : Sg) (v100 : Int32) : Option (Int32 × Sg) := some (v100, σ)
noncomputable def f_X8_decides_  (σ : Sg) (v1 : Int32) (v2 : Int32) : Option (Int32 × Sg) := bi (f_X8_noPair σ v1 v2) fun r2 σ1 => (if r2 = 0 then (bi (f_X8_of σ1 511 v1 v2) fun r4 σ3 => (if r4 < 0 ∨ 2111 ≤ (r4).toNatClampNeg then none else (f_X8_decides__26 σ3 (σ3 30 0 (r4).toNatClampNeg)))) else (f_X8_decides__26 σ1 0))
set_option maxHeartbeats 4000000 in
set_option maxRecDepth 100000 in
theorem w_X8_decides__26 {p : Program} {l : Launch} {e : Env} {s : State} {m : MethodId} {args : Array Value} {below : List Frame} {meth : Method} {c : Code} {G : Gx} {ad : Ad} {res : Int32 × Sg} (C : Cx p s m args meth c yX8_decides_.cls cX8_decides_ 3 (Option.some FieldType.int) G)  : ∀ (σ : Sg) (v100 : Int32) (H : Heap) (locs : List Loc) (ls : Array Slot), z_S 1 G ad σ (z_A 1 ad s.heap.size) s.heap H locs → lv_has ls 3 [] → f_X8_decides__26  σ v100 = some res → W p l e { frames := 3, cells := 0, slots := 0, locals := 65 } s m args below meth c H locs 0 0 (MQ below (va_Qi (S := Unit) (fun r1 _ => r1 = res.1) (fun _ t => z_W 1 G ad res.2 t.heap) (z_A 1 ad s.heap.size)) args s 0 0 (z_A 1 ad s.heap.size)) (F0 m 26 ls [.int v100]) := by
  intro σ v100 H locs ls S hl  hf
  unfold f_X8_decides__26 at hf
  exact z_iret C S hf dX8_decides__26
set_option maxHeartbeats 4000000 in
set_option maxRecDepth 100000 in
theorem w_X8_decides__0 {p : Program} {l : Launch} {e : Env} {s : State} {m : MethodId} {args : Array Value} {below : List Frame} {meth : Method} {c : Code} {G : Gx} {ad : Ad} {res : Int32 × Sg} (C : Cx p s m args meth c yX8_decides_.cls cX8_decides_ 3 (Option.some FieldType.int) G)  : ∀ (σ : Sg) (v1 : Int32) (v2 : Int32) (H : Heap) (locs : List Loc) (ls : Array Slot), z_S 1 G ad σ (z_A 1 ad s.heap.size) s.heap H locs → lv_has ls 3 [(0, .ref (ad 8 0)), (1, .int v1), (2, .int v2)] → f_X8_decides_  σ v1 v2 = some res → W p l e { frames := 3, cells := 0, slots := 0, locals := 65 } s m args below meth c H locs 0 0 (MQ below (va_Qi (S := Unit) (fun r1 _ => r1 = res.1) (fun _ t => z_W 1 G ad res.2 t.heap) (z_A 1 ad s.heap.size)) args s 0 0 (z_A 1 ad s.heap.size)) (F0 m 0 ls []) := by
  intro σ v1 v2 H locs ls S hl  hf
  unfold f_X8_decides_ at hf
  refine lv_aload_n C.1 C.2.1 dX8_decides__0 rfl (lv_at hl 0 rfl) ?_
  refine lv_iload_n C.1 C.2.1 dX8_decides__1 rfl (lv_at hl 1 rfl) ?_
  refine lv_iload_n C.1 C.2.1 dX8_decides__2 rfl (lv_at hl 2 rfl) ?_
  obtain ⟨r2, σ1, q_3, hf⟩ := bib hf
  refine z_callI C S 8 0 rfl (by decide) cf_8 ⟨_, rfl⟩ [.int v1, .int v2] (m_X8_noPair l G ad σ v1 v2 r2 σ1 q_3 _) kv_X8_noPair tw_7_111 ⟨Nat.le_of_ble_eq_true rfl, Nat.le_of_ble_eq_true rfl⟩ rfl rfl (Nat.le_of_ble_eq_true rfl) hl.1 ⟨Nat.le_of_ble_eq_true rfl, Nat.le_of_ble_eq_true rfl⟩ dX8_decides__3 (fun H locs S => ?_)
  refine lv_if_eq (tgt := 13) C.1 C.2.1 dX8_decides__6 (by decide) (fun c_6 => ?_) (fun c_6 => ?_)
  · rw [if_pos c_6] at hf
    refine lv_aload_n C.1 C.2.1 dX8_decides__13 rfl (lv_at hl 0 rfl) ?_
    refine z_getR C S 8 0 rfl (by decide) cf_8 0 (by decide) _ (gr_8_0 G ad 0) tw_6_118 dX8_decides__14 ?_
    refine lv_sipush (v := 511) C.1 C.2.1 dX8_decides__17 (by decide) ?_
    refine lv_iload_n C.1 C.2.1 dX8_decides__20 rfl (lv_at hl 1 rfl) ?_
    refine lv_iload_n C.1 C.2.1 dX8_decides__21 rfl (lv_at hl 2 rfl) ?_
    obtain ⟨r4, σ3, q_22, hf⟩ := bib hf
    refine z_callSI C S [.int 511, .int v1, .int v2] (m_X8_of l G ad σ1 511 v1 v2 r4 σ3 q_22 _) kv_X8_of tw_7_76 ⟨Nat.le_of_ble_eq_true rfl, Nat.le_of_ble_eq_true rfl⟩ rfl rfl (Nat.le_of_ble_eq_true rfl) hl.1 ⟨Nat.le_of_ble_eq_true rfl, Nat.le_of_ble_eq_true rfl⟩ dX8_decides__22 (fun H locs S => ?_)
    obtain ⟨g_25, hf⟩ := gd hf
    refine z_iald C S 30 0 rfl (by decide) 2111 (fun _ => rfl) g_25 dX8_decides__25 ?_
    exact w_X8_decides__26 C _ (σ3 30 0 (r4).toNatClampNeg) _ _ _ S (lv_sub hl [] rfl) hf
  · rw [if_neg c_6] at hf
    refine lv_iconst (v := 0) C.1 C.2.1 dX8_decides__9 (by decide) ?_
    refine lv_goto (tgt := 26) C.1 C.2.1 dX8_decides__10 (by decide) ?_
    exact w_X8_decides__26 C _ 0 _ _ _ S (lv_sub hl [] rfl) hf
theorem kv_X8_decides_ : KV yX8_decides_ cX8_decides_ 3 (Option.some FieldType.int) 2 := ⟨tw_7_130, tw_7_128, tw_7_129, tw_1_10, by decide, by decide, by decide +kernel⟩
theorem m_X8_decides_ (l : Launch) (G : Gx) (ad : Ad) (σ : Sg) (v1 : Int32) (v2 : Int32) (r : Int32) (σ' : Sg)  (hf : f_X8_decides_ σ v1 v2 = some (r, σ')) (sz : Nat) : z_MI l yX8_decides_ cX8_decides_ 3 (Option.some FieldType.int) 3 65 1 G ad σ sz [.ref (ad 8 0), .int v1, .int v2] r σ' := by
  refine z_begin (by decide +kernel) (Nat.le_of_ble_eq_true rfl) [(0, .ref (ad 8 0)), (1, .int v1), (2, .int v2)] rfl (fun p e s m args below meth c ls C hz S hl => ?_)
  subst hz
  exact w_X8_decides__0 (res := (r, σ')) C σ v1 v2 _ _ _ S hl  hf

theorem dX8_noted_0 : decode cX8_noted 0 = .ok (.aload_n 0, 1) := by decide +kernel
theorem dX8_noted_1 : decode cX8_noted 1 = .ok (.iload_n 1, 1) := by decide +kernel
theorem dX8_noted_2 : decode cX8_noted 2 = .ok (.iload_n 2, 1) := by decide +kernel
theorem dX8_noted_3 : decode cX8_noted 3 = .ok (.invokevirtual 283, 3) := by decide +kernel
theorem dX8_noted_6 : decode cX8_noted 6 = .ok (.ifCond .ne 11, 3) := by decide +kernel
theorem dX8_noted_9 : decode cX8_noted 9 = .ok (.aload_n 0, 1) := by decide +kernel
theorem dX8_noted_10 : decode cX8_noted 10 = .ok (.iload_n 3, 1) := by decide +kernel
theorem dX8_noted_11 : decode cX8_noted 11 = .ok (.invokevirtual 271, 3) := by decide +kernel
theorem dX8_noted_14 : decode cX8_noted 14 = .ok (.ifCond .eq 7, 3) := by decide +kernel
theorem dX8_noted_17 : decode cX8_noted 17 = .ok (.iconst 0, 1) := by decide +kernel
theorem dX8_noted_18 : decode cX8_noted 18 = .ok (.goto 14, 3) := by decide +kernel
theorem dX8_noted_21 : decode cX8_noted 21 = .ok (.aload_n 0, 1) := by decide +kernel
theorem dX8_noted_22 : decode cX8_noted 22 = .ok (.getfield 7, 3) := by decide +kernel
theorem dX8_noted_25 : decode cX8_noted 25 = .ok (.iload_n 1, 1) := by decide +kernel
theorem dX8_noted_26 : decode cX8_noted 26 = .ok (.iload_n 2, 1) := by decide +kernel
theorem dX8_noted_27 : decode cX8_noted 27 = .ok (.iload_n 3, 1) := by decide +kernel
theorem dX8_noted_28 : decode cX8_noted 28 = .ok (.invokestatic 61, 3) := by decide +kernel
theorem dX8_noted_31 : decode cX8_noted 31 = .ok (.iaload, 1) := by decide +kernel
theorem dX8_noted_32 : decode cX8_noted 32 = .ok (.ireturn, 1) := by decide +kernel
/-! BusLiftsModel.noted(III)I -/
noncomputable def f_X8_noted_32  (σ : Sg) (v100 : Int32) : Option (Int32 × Sg) := some (v100, σ)
noncomputable def f_X8_noted_17  (σ : Sg)  : Option (Int32 × Sg) := f_X8_noted_32 σ 0
noncomputable def f_X8_noted  (σ : Sg) (v1 : Int32) (v2 : Int32) (v3 : Int32) : Option (Int32 × Sg) := bi (f_X8_noPair σ v1 v2) fun r2 σ1 => (if r2 = 0 then (bi (f_X8_noCar σ1 v3) fun r4 σ3 => (if r4 = 0 then (bi (f_X8_notedAt σ3 v1 v2 v3) fun r6 σ5 => (if r6 < 0 ∨ 2111 ≤ (r6).toNatClampNeg then none else (f_X8_noted_32 σ5 (σ5 30 0 (r6).toNatClampNeg)))) else (f_X8_noted_17 σ3))) else (f_X8_noted_17 σ1))
set_option maxHeartbeats 4000000 in
set_option maxRecDepth 100000 in
theorem w_X8_noted_32 {p : Program} {l : Launch} {e : Env} {s : State} {m : MethodId} {args : Array Value} {below : List Frame} {meth : Method} {c : Code} {G : Gx} {ad : Ad} {res : Int32 × Sg} (C : Cx p s m args meth c yX8_noted.cls cX8_noted 4 (Option.some FieldType.int) G)  : ∀ (σ : Sg) (v100 : Int32) (H : Heap) (locs : List Loc) (ls : Array Slot), z_S 1 G ad σ (z_A 1 ad s.heap.size) s.heap H locs → lv_has ls 4 [] → f_X8_noted_32  σ v100 = some res → W p l e { frames := 3, cells := 0, slots := 0, locals := 65 } s m args below meth c H locs 0 0 (MQ below (va_Qi (S := Unit) (fun r1 _ => r1 = res.1) (fun _ t => z_W 1 G ad res.2 t.heap) (z_A 1 ad s.heap.size)) args s 0 0 (z_A 1 ad s.heap.size)) (F0 m 32 ls [.int v100]) := by
  intro σ v100 H locs ls S hl  hf
  unfold f_X8_noted_32 at hf
  exact z_iret C S hf dX8_noted_32
set_option maxHeartbeats 4000000 in
set_option maxRecDepth 100000 in
theorem w_X8_noted_17 {p : Program} {l : Launch} {e : Env} {s : State} {m : MethodId} {args : Array Value} {below : List Frame} {meth : Method} {c : Code} {G : Gx} {ad : Ad} {res : Int32 × Sg} (C : Cx p s m args meth c yX8_noted.cls cX8_noted 4 (Option.some FieldType.int) G)  : ∀ (σ : Sg)  (H : Heap) (locs : List Loc) (ls : Array Slot), z_S 1 G ad σ (z_A 1 ad s.heap.size) s.heap H locs → lv_has ls 4 [] → f_X8_noted_17  σ  = some res → W p l e { frames := 3, cells := 0, slots := 0, locals := 65 } s m args below meth c H locs 0 0 (MQ below (va_Qi (S := Unit) (fun r1 _ => r1 = res.1) (fun _ t => z_W 1 G ad res.2 t.heap) (z_A 1 ad s.heap.size)) args s 0 0 (z_A 1 ad s.heap.size)) (F0 m 17 ls []) := by
  intro σ  H locs ls S hl  hf
  unfold f_X8_noted_17 at hf
  refine lv_iconst (v := 0) C.1 C.2.1 dX8_noted_17 (by decide) ?_
  refine lv_goto (tgt := 32) C.1 C.2.1 dX8_noted_18 (by decide) ?_
  exact w_X8_noted_32 C _ 0 _ _ _ S (lv_sub hl [] rfl) hf
set_option maxHeartbeats 4000000 in
set_option maxRecDepth 100000 in
theorem w_X8_noted_0 {p : Program} {l : Launch} {e : Env} {s : State} {m : MethodId} {args : Array Value} {below : List Frame} {meth : Method} {c : Code} {G : Gx} {ad : Ad} {res : Int32 × Sg} (C : Cx p s m args meth c yX8_noted.cls cX8_noted 4 (Option.some FieldType.int) G)  : ∀ (σ : Sg) (v1 : Int32) (v2 : Int32) (v3 : Int32) (H : Heap) (locs : List Loc) (ls : Array Slot), z_S 1 G ad σ (z_A 1 ad s.heap.size) s.heap H locs → lv_has ls 4 [(0, .ref (ad 8 0)), (1, .int v1), (2, .int v2), (3, .int v3)] → f_X8_noted  σ v1 v2 v3 = some res → W p l e { frames := 3, cells := 0, slots := 0, locals := 65 } s m args below meth c H locs 0 0 (MQ below (va_Qi (S := Unit) (fun r1 _ => r1 = res.1) (fun _ t => z_W 1 G ad res.2 t.heap) (z_A 1 ad s.heap.size)) args s 0 0 (z_A 1 ad s.heap.size)) (F0 m 0 ls []) := by
  intro σ v1 v2 v3 H locs ls S hl  hf
  unfold f_X8_noted at hf
  refine lv_aload_n C.1 C.2.1 dX8_noted_0 rfl (lv_at hl 0 rfl) ?_
  refine lv_iload_n C.1 C.2.1 dX8_noted_1 rfl (lv_at hl 1 rfl) ?_
  refine lv_iload_n C.1 C.2.1 dX8_noted_2 rfl (lv_at hl 2 rfl) ?_
  obtain ⟨r2, σ1, q_3, hf⟩ := bib hf
  refine z_callI C S 8 0 rfl (by decide) cf_8 ⟨_, rfl⟩ [.int v1, .int v2] (m_X8_noPair l G ad σ v1 v2 r2 σ1 q_3 _) kv_X8_noPair tw_7_111 ⟨Nat.le_of_ble_eq_true rfl, Nat.le_of_ble_eq_true rfl⟩ rfl rfl (Nat.le_of_ble_eq_true rfl) hl.1 ⟨Nat.le_of_ble_eq_true rfl, Nat.le_of_ble_eq_true rfl⟩ dX8_noted_3 (fun H locs S => ?_)
  refine lv_if_ne (tgt := 17) C.1 C.2.1 dX8_noted_6 (by decide) (fun c_6 => ?_) (fun c_6 => ?_)
  · rw [if_neg c_6] at hf
    exact w_X8_noted_17 C _ _ _ _ S (lv_sub hl [] rfl) hf
  · rw [if_pos c_6] at hf
    refine lv_aload_n C.1 C.2.1 dX8_noted_9 rfl (lv_at hl 0 rfl) ?_
    refine lv_iload_n C.1 C.2.1 dX8_noted_10 rfl (lv_at hl 3 rfl) ?_
    obtain ⟨r4, σ3, q_11, hf⟩ := bib hf
    refine z_callI C S 8 0 rfl (by decide) cf_8 ⟨_, rfl⟩ [.int v3] (m_X8_noCar l G ad σ1 v3 r4 σ3 q_11 _) kv_X8_noCar tw_7_68 ⟨Nat.le_of_ble_eq_true rfl, Nat.le_of_ble_eq_true rfl⟩ rfl rfl (Nat.le_of_ble_eq_true rfl) hl.1 ⟨Nat.le_of_ble_eq_true rfl, Nat.le_of_ble_eq_true rfl⟩ dX8_noted_11 (fun H locs S => ?_)
    refine lv_if_eq (tgt := 21) C.1 C.2.1 dX8_noted_14 (by decide) (fun c_14 => ?_) (fun c_14 => ?_)
    · rw [if_pos c_14] at hf
      refine lv_aload_n C.1 C.2.1 dX8_noted_21 rfl (lv_at hl 0 rfl) ?_
      refine z_getR C S 8 0 rfl (by decide) cf_8 0 (by decide) _ (gr_8_0 G ad 0) tw_6_118 dX8_noted_22 ?_
      refine lv_iload_n C.1 C.2.1 dX8_noted_25 rfl (lv_at hl 1 rfl) ?_
      refine lv_iload_n C.1 C.2.1 dX8_noted_26 rfl (lv_at hl 2 rfl) ?_
      refine lv_iload_n C.1 C.2.1 dX8_noted_27 rfl (lv_at hl 3 rfl) ?_
      obtain ⟨r6, σ5, q_28, hf⟩ := bib hf
      refine z_callSI C S [.int v1, .int v2, .int v3] (m_X8_notedAt l G ad σ3 v1 v2 v3 r6 σ5 q_28 _) kv_X8_notedAt tw_7_31 ⟨Nat.le_of_ble_eq_true rfl, Nat.le_of_ble_eq_true rfl⟩ rfl rfl (Nat.le_of_ble_eq_true rfl) hl.1 ⟨Nat.le_of_ble_eq_true rfl, Nat.le_of_ble_eq_true rfl⟩ dX8_noted_28 (fun H locs S => ?_)
      obtain ⟨g_31, hf⟩ := gd hf
      refine z_iald C S 30 0 rfl (by decide) 2111 (fun _ => rfl) g_31 dX8_noted_31 ?_
      exact w_X8_noted_32 C _ (σ5 30 0 (r6).toNatClampNeg) _ _ _ S (lv_sub hl [] rfl) hf
    · rw [if_neg c_14] at hf
      exact w_X8_noted_17 C _ _ _ _ S (lv_sub hl [] rfl) hf
theorem kv_X8_noted : KV yX8_noted cX8_noted 4 (Option.some FieldType.int) 3 := ⟨tw_7_134, tw_7_132, tw_7_133, tw_1_10, by decide, by decide, by decide +kernel⟩
theorem m_X8_noted (l : Launch) (G : Gx) (ad : Ad) (σ : Sg) (v1 : Int32) (v2 : Int32) (v3 : Int32) (r : Int32) (σ' : Sg)  (hf : f_X8_noted σ v1 v2 v3 = some (r, σ')) (sz : Nat) : z_MI l yX8_noted cX8_noted 4 (Option.some FieldType.int) 3 65 1 G ad σ sz [.ref (ad 8 0), .int v1, .int v2, .int v3] r σ' := by
  refine z_begin (by decide +kernel) (Nat.le_of_ble_eq_true rfl) [(0, .ref (ad 8 0)), (1, .int v1), (2, .int v2), (3, .int v3)] rfl (fun p e s m args below meth c ls C hz S hl => ?_)
  subst hz
  exact w_X8_noted_0 (res := (r, σ')) C σ v1 v2 v3 _ _ _ S hl  hf

theorem dX8_apart_0 : decode cX8_apart 0 = .ok (.iload_n 0, 1) := by decide +kernel
theorem dX8_apart_1 : decode cX8_apart 1 = .ok (.iload_n 1, 1) := by decide +kernel
theorem dX8_apart_2 : decode cX8_apart 2 = .ok (.if_icmp .ge 9, 3) := by decide +kernel
theorem dX8_apart_5 : decode cX8_apart 5 = .ok (.iload_n 1, 1) := by decide +kernel
theorem dX8_apart_6 : decode cX8_apart 6 = .ok (.iload_n 0, 1) := by decide +kernel
theorem dX8_apart_7 : decode cX8_apart 7 = .ok (.isub, 1) := by decide +kernel
theorem dX8_apart_8 : decode cX8_apart 8 = .ok (.goto 6, 3) := by decide +kernel
theorem dX8_apart_11 : decode cX8_apart 11 = .ok (.iload_n 0, 1) := by decide +kernel
theorem dX8_apart_12 : decode cX8_apart 12 = .ok (.iload_n 1, 1) := by decide +kernel
theorem dX8_apart_13 : decode cX8_apart 13 = .ok (.isub, 1) := by decide +kernel
theorem dX8_apart_14 : decode cX8_apart 14 = .ok (.ireturn, 1) := by decide +kernel
/-! BusLiftsModel.apart(II)I -/
noncomputable def f_X8_apart_14  (σ : Sg) (v100 : Int32) : Option (Int32 × Sg) := some (v100, σ)
noncomputable def f_X8_apart  (σ : Sg) (v0 : Int32) (v1 : Int32) : Option (Int32 × Sg) := if v1 ≤ v0 then (f_X8_apart_14 σ (v0 - v1)) else (f_X8_apart_14 σ (v1 - v0))
set_option maxHeartbeats 4000000 in
set_option maxRecDepth 100000 in
theorem w_X8_apart_14 {p : Program} {l : Launch} {e : Env} {s : State} {m : MethodId} {args : Array Value} {below : List Frame} {meth : Method} {c : Code} {G : Gx} {ad : Ad} {res : Int32 × Sg} (C : Cx p s m args meth c yX8_apart.cls cX8_apart 2 (Option.some FieldType.int) G)  : ∀ (σ : Sg) (v100 : Int32) (H : Heap) (locs : List Loc) (ls : Array Slot), z_S 1 G ad σ (z_A 1 ad s.heap.size) s.heap H locs → lv_has ls 2 [] → f_X8_apart_14  σ v100 = some res → W p l e { frames := 0, cells := 0, slots := 0, locals := 0 } s m args below meth c H locs 0 0 (MQ below (va_Qi (S := Unit) (fun r1 _ => r1 = res.1) (fun _ t => z_W 1 G ad res.2 t.heap) (z_A 1 ad s.heap.size)) args s 0 0 (z_A 1 ad s.heap.size)) (F0 m 14 ls [.int v100]) := by
  intro σ v100 H locs ls S hl  hf
  unfold f_X8_apart_14 at hf
  exact z_iret C S hf dX8_apart_14
set_option maxHeartbeats 4000000 in
set_option maxRecDepth 100000 in
theorem w_X8_apart_0 {p : Program} {l : Launch} {e : Env} {s : State} {m : MethodId} {args : Array Value} {below : List Frame} {meth : Method} {c : Code} {G : Gx} {ad : Ad} {res : Int32 × Sg} (C : Cx p s m args meth c yX8_apart.cls cX8_apart 2 (Option.some FieldType.int) G)  : ∀ (σ : Sg) (v0 : Int32) (v1 : Int32) (H : Heap) (locs : List Loc) (ls : Array Slot), z_S 1 G ad σ (z_A 1 ad s.heap.size) s.heap H locs → lv_has ls 2 [(0, .int v0), (1, .int v1)] → f_X8_apart  σ v0 v1 = some res → W p l e { frames := 0, cells := 0, slots := 0, locals := 0 } s m args below meth c H locs 0 0 (MQ below (va_Qi (S := Unit) (fun r1 _ => r1 = res.1) (fun _ t => z_W 1 G ad res.2 t.heap) (z_A 1 ad s.heap.size)) args s 0 0 (z_A 1 ad s.heap.size)) (F0 m 0 ls []) := by
  intro σ v0 v1 H locs ls S hl  hf
  unfold f_X8_apart at hf
  refine lv_iload_n C.1 C.2.1 dX8_apart_0 rfl (lv_at hl 0 rfl) ?_
  refine lv_iload_n C.1 C.2.1 dX8_apart_1 rfl (lv_at hl 1 rfl) ?_
  refine lv_icmp_ge (tgt := 11) C.1 C.2.1 dX8_apart_2 (by decide) (fun c_2 => ?_) (fun c_2 => ?_)
  · rw [if_pos c_2] at hf
    refine lv_iload_n C.1 C.2.1 dX8_apart_11 rfl (lv_at hl 0 rfl) ?_
    refine lv_iload_n C.1 C.2.1 dX8_apart_12 rfl (lv_at hl 1 rfl) ?_
    refine lv_isub C.1 C.2.1 dX8_apart_13 ?_
    exact w_X8_apart_14 C _ (v0 - v1) _ _ _ S (lv_sub hl [] rfl) hf
  · rw [if_neg c_2] at hf
    refine lv_iload_n C.1 C.2.1 dX8_apart_5 rfl (lv_at hl 1 rfl) ?_
    refine lv_iload_n C.1 C.2.1 dX8_apart_6 rfl (lv_at hl 0 rfl) ?_
    refine lv_isub C.1 C.2.1 dX8_apart_7 ?_
    refine lv_goto (tgt := 14) C.1 C.2.1 dX8_apart_8 (by decide) ?_
    exact w_X8_apart_14 C _ (v1 - v0) _ _ _ S (lv_sub hl [] rfl) hf
theorem kv_X8_apart : KS yX8_apart cX8_apart 2 (Option.some FieldType.int) 2 := ⟨tw_7_145, tw_7_144, tw_1_10, by decide, by decide, by decide +kernel⟩
theorem m_X8_apart (l : Launch) (G : Gx) (ad : Ad) (σ : Sg) (v0 : Int32) (v1 : Int32) (r : Int32) (σ' : Sg)  (hf : f_X8_apart σ v0 v1 = some (r, σ')) (sz : Nat) : z_MI l yX8_apart cX8_apart 2 (Option.some FieldType.int) 0 0 1 G ad σ sz [.int v0, .int v1] r σ' := by
  refine z_begin (by decide +kernel) (Nat.le_of_ble_eq_true rfl) [(0, .int v0), (1, .int v1)] rfl (fun p e s m args below meth c ls C hz S hl => ?_)
  subst hz
  exact w_X8_apart_0 (res := (r, σ')) C σ v0 v1 _ _ _ S hl  hf

theorem dX8_costFrom_0 : decode cX8_costFrom 0 = .ok (.aload_n 0, 1) := by decide +kernel
theorem dX8_costFrom_1 : decode cX8_costFrom 1 = .ok (.getfield 7, 3) := by decide +kernel
theorem dX8_costFrom_4 : decode cX8_costFrom 4 = .ok (.bipush 23, 2) := by decide +kernel
theorem dX8_costFrom_6 : decode cX8_costFrom 6 = .ok (.iload_n 1, 1) := by decide +kernel
theorem dX8_costFrom_7 : decode cX8_costFrom 7 = .ok (.iadd, 1) := by decide +kernel
theorem dX8_costFrom_8 : decode cX8_costFrom 8 = .ok (.iaload, 1) := by decide +kernel
theorem dX8_costFrom_9 : decode cX8_costFrom 9 = .ok (.iload_n 2, 1) := by decide +kernel
theorem dX8_costFrom_10 : decode cX8_costFrom 10 = .ok (.invokestatic 72, 3) := by decide +kernel
theorem dX8_costFrom_13 : decode cX8_costFrom 13 = .ok (.aload_n 0, 1) := by decide +kernel
theorem dX8_costFrom_14 : decode cX8_costFrom 14 = .ok (.getfield 7, 3) := by decide +kernel
theorem dX8_costFrom_17 : decode cX8_costFrom 17 = .ok (.bipush 6, 2) := by decide +kernel
theorem dX8_costFrom_19 : decode cX8_costFrom 19 = .ok (.iaload, 1) := by decide +kernel
theorem dX8_costFrom_20 : decode cX8_costFrom 20 = .ok (.aload_n 0, 1) := by decide +kernel
theorem dX8_costFrom_21 : decode cX8_costFrom 21 = .ok (.iload_n 1, 1) := by decide +kernel
theorem dX8_costFrom_22 : decode cX8_costFrom 22 = .ok (.invokevirtual 76, 3) := by decide +kernel
theorem dX8_costFrom_25 : decode cX8_costFrom 25 = .ok (.aload_n 0, 1) := by decide +kernel
theorem dX8_costFrom_26 : decode cX8_costFrom 26 = .ok (.iload_n 1, 1) := by decide +kernel
theorem dX8_costFrom_27 : decode cX8_costFrom 27 = .ok (.invokevirtual 80, 3) := by decide +kernel
theorem dX8_costFrom_30 : decode cX8_costFrom 30 = .ok (.iadd, 1) := by decide +kernel
theorem dX8_costFrom_31 : decode cX8_costFrom 31 = .ok (.imul, 1) := by decide +kernel
theorem dX8_costFrom_32 : decode cX8_costFrom 32 = .ok (.iadd, 1) := by decide +kernel
theorem dX8_costFrom_33 : decode cX8_costFrom 33 = .ok (.ireturn, 1) := by decide +kernel
/-! BusLiftsModel.costFrom(II)I -/
noncomputable def f_X8_costFrom  (σ : Sg) (v1 : Int32) (v2 : Int32) : Option (Int32 × Sg) := if (23 + v1) < 0 ∨ 2111 ≤ ((23 + v1)).toNatClampNeg then none else (bi (f_X8_apart σ (σ 30 0 ((23 + v1)).toNatClampNeg) v2) fun r2 σ1 => (bi (f_X8_heldMany σ1 v1) fun r4 σ3 => (bi (f_X8_aboardMany σ3 v1) fun r6 σ5 => (some ((r2 + ((σ1 30 0 6) * (r4 + r6))), σ5)))))
set_option maxHeartbeats 4000000 in
set_option maxRecDepth 100000 in
theorem w_X8_costFrom_0 {p : Program} {l : Launch} {e : Env} {s : State} {m : MethodId} {args : Array Value} {below : List Frame} {meth : Method} {c : Code} {G : Gx} {ad : Ad} {res : Int32 × Sg} (C : Cx p s m args meth c yX8_costFrom.cls cX8_costFrom 3 (Option.some FieldType.int) G)  : ∀ (σ : Sg) (v1 : Int32) (v2 : Int32) (H : Heap) (locs : List Loc) (ls : Array Slot), z_S 1 G ad σ (z_A 1 ad s.heap.size) s.heap H locs → lv_has ls 3 [(0, .ref (ad 8 0)), (1, .int v1), (2, .int v2)] → f_X8_costFrom  σ v1 v2 = some res → W p l e { frames := 2, cells := 0, slots := 0, locals := 45 } s m args below meth c H locs 0 0 (MQ below (va_Qi (S := Unit) (fun r1 _ => r1 = res.1) (fun _ t => z_W 1 G ad res.2 t.heap) (z_A 1 ad s.heap.size)) args s 0 0 (z_A 1 ad s.heap.size)) (F0 m 0 ls []) := by
  intro σ v1 v2 H locs ls S hl  hf
  unfold f_X8_costFrom at hf
  refine lv_aload_n C.1 C.2.1 dX8_costFrom_0 rfl (lv_at hl 0 rfl) ?_
  refine z_getR C S 8 0 rfl (by decide) cf_8 0 (by decide) _ (gr_8_0 G ad 0) tw_6_118 dX8_costFrom_1 ?_
  refine lv_bipush (v := 23) C.1 C.2.1 dX8_costFrom_4 (by decide) ?_
  refine lv_iload_n C.1 C.2.1 dX8_costFrom_6 rfl (lv_at hl 1 rfl) ?_
  refine lv_iadd C.1 C.2.1 dX8_costFrom_7 ?_
  obtain ⟨g_8, hf⟩ := gd hf
  refine z_iald C S 30 0 rfl (by decide) 2111 (fun _ => rfl) g_8 dX8_costFrom_8 ?_
  refine lv_iload_n C.1 C.2.1 dX8_costFrom_9 rfl (lv_at hl 2 rfl) ?_
  obtain ⟨r2, σ1, q_10, hf⟩ := bib hf
  refine z_callSI C S [.int (σ 30 0 ((23 + v1)).toNatClampNeg), .int v2] (m_X8_apart l G ad σ (σ 30 0 ((23 + v1)).toNatClampNeg) v2 r2 σ1 q_10 _) kv_X8_apart tw_7_143 ⟨Nat.le_of_ble_eq_true rfl, Nat.le_of_ble_eq_true rfl⟩ rfl rfl (Nat.le_of_ble_eq_true rfl) hl.1 ⟨Nat.le_of_ble_eq_true rfl, Nat.le_of_ble_eq_true rfl⟩ dX8_costFrom_10 (fun H locs S => ?_)
  refine lv_aload_n C.1 C.2.1 dX8_costFrom_13 rfl (lv_at hl 0 rfl) ?_
  refine z_getR C S 8 0 rfl (by decide) cf_8 0 (by decide) _ (gr_8_0 G ad 0) tw_6_118 dX8_costFrom_14 ?_
  refine lv_bipush (v := 6) C.1 C.2.1 dX8_costFrom_17 (by decide) ?_
  refine z_ialdL C S 30 0 rfl (by decide) 2111 (fun _ => rfl) 6 (by decide) (by decide) (by decide) dX8_costFrom_19 ?_
  refine lv_aload_n C.1 C.2.1 dX8_costFrom_20 rfl (lv_at hl 0 rfl) ?_
  refine lv_iload_n C.1 C.2.1 dX8_costFrom_21 rfl (lv_at hl 1 rfl) ?_
  obtain ⟨r4, σ3, q_22, hf⟩ := bib hf
  refine z_callI C S 8 0 rfl (by decide) cf_8 ⟨_, rfl⟩ [.int v1] (m_X8_heldMany l G ad σ1 v1 r4 σ3 q_22 _) kv_X8_heldMany tw_7_72 ⟨Nat.le_of_ble_eq_true rfl, Nat.le_of_ble_eq_true rfl⟩ rfl rfl (Nat.le_of_ble_eq_true rfl) hl.1 ⟨Nat.le_of_ble_eq_true rfl, Nat.le_of_ble_eq_true rfl⟩ dX8_costFrom_22 (fun H locs S => ?_)
  refine lv_aload_n C.1 C.2.1 dX8_costFrom_25 rfl (lv_at hl 0 rfl) ?_
  refine lv_iload_n C.1 C.2.1 dX8_costFrom_26 rfl (lv_at hl 1 rfl) ?_
  obtain ⟨r6, σ5, q_27, hf⟩ := bib hf
  refine z_callI C S 8 0 rfl (by decide) cf_8 ⟨_, rfl⟩ [.int v1] (m_X8_aboardMany l G ad σ3 v1 r6 σ5 q_27 _) kv_X8_aboardMany tw_7_79 ⟨Nat.le_of_ble_eq_true rfl, Nat.le_of_ble_eq_true rfl⟩ rfl rfl (Nat.le_of_ble_eq_true rfl) hl.1 ⟨Nat.le_of_ble_eq_true rfl, Nat.le_of_ble_eq_true rfl⟩ dX8_costFrom_27 (fun H locs S => ?_)
  refine lv_iadd C.1 C.2.1 dX8_costFrom_30 ?_
  refine lv_imul C.1 C.2.1 dX8_costFrom_31 ?_
  refine lv_iadd C.1 C.2.1 dX8_costFrom_32 ?_
  exact z_iret C S hf dX8_costFrom_33
theorem kv_X8_costFrom : KV yX8_costFrom cX8_costFrom 3 (Option.some FieldType.int) 2 := ⟨tw_7_142, tw_7_141, tw_p_70, tw_1_10, by decide, by decide, by decide +kernel⟩
theorem m_X8_costFrom (l : Launch) (G : Gx) (ad : Ad) (σ : Sg) (v1 : Int32) (v2 : Int32) (r : Int32) (σ' : Sg)  (hf : f_X8_costFrom σ v1 v2 = some (r, σ')) (sz : Nat) : z_MI l yX8_costFrom cX8_costFrom 3 (Option.some FieldType.int) 2 45 1 G ad σ sz [.ref (ad 8 0), .int v1, .int v2] r σ' := by
  refine z_begin (by decide +kernel) (Nat.le_of_ble_eq_true rfl) [(0, .ref (ad 8 0)), (1, .int v1), (2, .int v2)] rfl (fun p e s m args below meth c ls C hz S hl => ?_)
  subst hz
  exact w_X8_costFrom_0 (res := (r, σ')) C σ v1 v2 _ _ _ S hl  hf

theorem dX8_costNow_0 : decode cX8_costNow 0 = .ok (.aload_n 0, 1) := by decide +kernel
theorem dX8_costNow_1 : decode cX8_costNow 1 = .ok (.iload_n 1, 1) := by decide +kernel
theorem dX8_costNow_2 : decode cX8_costNow 2 = .ok (.iload_n 2, 1) := by decide +kernel
theorem dX8_costNow_3 : decode cX8_costNow 3 = .ok (.invokevirtual 283, 3) := by decide +kernel
theorem dX8_costNow_6 : decode cX8_costNow 6 = .ok (.ifCond .eq 7, 3) := by decide +kernel
theorem dX8_costNow_9 : decode cX8_costNow 9 = .ok (.iconst 0, 1) := by decide +kernel
theorem dX8_costNow_10 : decode cX8_costNow 10 = .ok (.goto 17, 3) := by decide +kernel
theorem dX8_costNow_13 : decode cX8_costNow 13 = .ok (.aload_n 0, 1) := by decide +kernel
theorem dX8_costNow_14 : decode cX8_costNow 14 = .ok (.iload_n 1, 1) := by decide +kernel
theorem dX8_costNow_15 : decode cX8_costNow 15 = .ok (.aload_n 0, 1) := by decide +kernel
theorem dX8_costNow_16 : decode cX8_costNow 16 = .ok (.getfield 7, 3) := by decide +kernel
theorem dX8_costNow_19 : decode cX8_costNow 19 = .ok (.bipush 55, 2) := by decide +kernel
theorem dX8_costNow_21 : decode cX8_costNow 21 = .ok (.iload_n 2, 1) := by decide +kernel
theorem dX8_costNow_22 : decode cX8_costNow 22 = .ok (.iadd, 1) := by decide +kernel
theorem dX8_costNow_23 : decode cX8_costNow 23 = .ok (.iaload, 1) := by decide +kernel
theorem dX8_costNow_24 : decode cX8_costNow 24 = .ok (.invokevirtual 99, 3) := by decide +kernel
theorem dX8_costNow_27 : decode cX8_costNow 27 = .ok (.ireturn, 1) := by decide +kernel
/-! BusLiftsModel.costNow(II)I -/
noncomputable def f_X8_costNow_27  (σ : Sg) (v100 : Int32) : Option (Int32 × Sg) := some (v100, σ)
noncomputable def f_X8_costNow  (σ : Sg) (v1 : Int32) (v2 : Int32) : Option (Int32 × Sg) := bi (f_X8_noPair σ v1 v2) fun r2 σ1 => (if r2 = 0 then (if (55 + v2) < 0 ∨ 2111 ≤ ((55 + v2)).toNatClampNeg then none else (bi (f_X8_costFrom σ1 v1 (σ1 30 0 ((55 + v2)).toNatClampNeg)) fun r4 σ3 => (f_X8_costNow_27 σ3 r4))) else (f_X8_costNow_27 σ1 0))
set_option maxHeartbeats 4000000 in
set_option maxRecDepth 100000 in
theorem w_X8_costNow_27 {p : Program} {l : Launch} {e : Env} {s : State} {m : MethodId} {args : Array Value} {below : List Frame} {meth : Method} {c : Code} {G : Gx} {ad : Ad} {res : Int32 × Sg} (C : Cx p s m args meth c yX8_costNow.cls cX8_costNow 3 (Option.some FieldType.int) G)  : ∀ (σ : Sg) (v100 : Int32) (H : Heap) (locs : List Loc) (ls : Array Slot), z_S 1 G ad σ (z_A 1 ad s.heap.size) s.heap H locs → lv_has ls 3 [] → f_X8_costNow_27  σ v100 = some res → W p l e { frames := 3, cells := 0, slots := 0, locals := 67 } s m args below meth c H locs 0 0 (MQ below (va_Qi (S := Unit) (fun r1 _ => r1 = res.1) (fun _ t => z_W 1 G ad res.2 t.heap) (z_A 1 ad s.heap.size)) args s 0 0 (z_A 1 ad s.heap.size)) (F0 m 27 ls [.int v100]) := by
  intro σ v100 H locs ls S hl  hf
  unfold f_X8_costNow_27 at hf
  exact z_iret C S hf dX8_costNow_27
set_option maxHeartbeats 4000000 in
set_option maxRecDepth 100000 in
theorem w_X8_costNow_0 {p : Program} {l : Launch} {e : Env} {s : State} {m : MethodId} {args : Array Value} {below : List Frame} {meth : Method} {c : Code} {G : Gx} {ad : Ad} {res : Int32 × Sg} (C : Cx p s m args meth c yX8_costNow.cls cX8_costNow 3 (Option.some FieldType.int) G)  : ∀ (σ : Sg) (v1 : Int32) (v2 : Int32) (H : Heap) (locs : List Loc) (ls : Array Slot), z_S 1 G ad σ (z_A 1 ad s.heap.size) s.heap H locs → lv_has ls 3 [(0, .ref (ad 8 0)), (1, .int v1), (2, .int v2)] → f_X8_costNow  σ v1 v2 = some res → W p l e { frames := 3, cells := 0, slots := 0, locals := 67 } s m args below meth c H locs 0 0 (MQ below (va_Qi (S := Unit) (fun r1 _ => r1 = res.1) (fun _ t => z_W 1 G ad res.2 t.heap) (z_A 1 ad s.heap.size)) args s 0 0 (z_A 1 ad s.heap.size)) (F0 m 0 ls []) := by
  intro σ v1 v2 H locs ls S hl  hf
  unfold f_X8_costNow at hf
  refine lv_aload_n C.1 C.2.1 dX8_costNow_0 rfl (lv_at hl 0 rfl) ?_
  refine lv_iload_n C.1 C.2.1 dX8_costNow_1 rfl (lv_at hl 1 rfl) ?_
  refine lv_iload_n C.1 C.2.1 dX8_costNow_2 rfl (lv_at hl 2 rfl) ?_
  obtain ⟨r2, σ1, q_3, hf⟩ := bib hf
  refine z_callI C S 8 0 rfl (by decide) cf_8 ⟨_, rfl⟩ [.int v1, .int v2] (m_X8_noPair l G ad σ v1 v2 r2 σ1 q_3 _) kv_X8_noPair tw_7_111 ⟨Nat.le_of_ble_eq_true rfl, Nat.le_of_ble_eq_true rfl⟩ rfl rfl (Nat.le_of_ble_eq_true rfl) hl.1 ⟨Nat.le_of_ble_eq_true rfl, Nat.le_of_ble_eq_true rfl⟩ dX8_costNow_3 (fun H locs S => ?_)
  refine lv_if_eq (tgt := 13) C.1 C.2.1 dX8_costNow_6 (by decide) (fun c_6 => ?_) (fun c_6 => ?_)
  · rw [if_pos c_6] at hf
    refine lv_aload_n C.1 C.2.1 dX8_costNow_13 rfl (lv_at hl 0 rfl) ?_
    refine lv_iload_n C.1 C.2.1 dX8_costNow_14 rfl (lv_at hl 1 rfl) ?_
    refine lv_aload_n C.1 C.2.1 dX8_costNow_15 rfl (lv_at hl 0 rfl) ?_
    refine z_getR C S 8 0 rfl (by decide) cf_8 0 (by decide) _ (gr_8_0 G ad 0) tw_6_118 dX8_costNow_16 ?_
    refine lv_bipush (v := 55) C.1 C.2.1 dX8_costNow_19 (by decide) ?_
    refine lv_iload_n C.1 C.2.1 dX8_costNow_21 rfl (lv_at hl 2 rfl) ?_
    refine lv_iadd C.1 C.2.1 dX8_costNow_22 ?_
    obtain ⟨g_23, hf⟩ := gd hf
    refine z_iald C S 30 0 rfl (by decide) 2111 (fun _ => rfl) g_23 dX8_costNow_23 ?_
    obtain ⟨r4, σ3, q_24, hf⟩ := bib hf
    refine z_callI C S 8 0 rfl (by decide) cf_8 ⟨_, rfl⟩ [.int v1, .int (σ1 30 0 ((55 + v2)).toNatClampNeg)] (m_X8_costFrom l G ad σ1 v1 (σ1 30 0 ((55 + v2)).toNatClampNeg) r4 σ3 q_24 _) kv_X8_costFrom tw_7_139 ⟨Nat.le_of_ble_eq_true rfl, Nat.le_of_ble_eq_true rfl⟩ rfl rfl (Nat.le_of_ble_eq_true rfl) hl.1 ⟨Nat.le_of_ble_eq_true rfl, Nat.le_of_ble_eq_true rfl⟩ dX8_costNow_24 (fun H locs S => ?_)
    exact w_X8_costNow_27 C _ r4 _ _ _ S (lv_sub hl [] rfl) hf
  · rw [if_neg c_6] at hf
    refine lv_iconst (v := 0) C.1 C.2.1 dX8_costNow_9 (by decide) ?_
    refine lv_goto (tgt := 27) C.1 C.2.1 dX8_costNow_10 (by decide) ?_
    exact w_X8_costNow_27 C _ 0 _ _ _ S (lv_sub hl [] rfl) hf
theorem kv_X8_costNow : KV yX8_costNow cX8_costNow 3 (Option.some FieldType.int) 2 := ⟨tw_7_138, tw_7_136, tw_7_137, tw_1_10, by decide, by decide, by decide +kernel⟩
theorem m_X8_costNow (l : Launch) (G : Gx) (ad : Ad) (σ : Sg) (v1 : Int32) (v2 : Int32) (r : Int32) (σ' : Sg)  (hf : f_X8_costNow σ v1 v2 = some (r, σ')) (sz : Nat) : z_MI l yX8_costNow cX8_costNow 3 (Option.some FieldType.int) 3 67 1 G ad σ sz [.ref (ad 8 0), .int v1, .int v2] r σ' := by
  refine z_begin (by decide +kernel) (Nat.le_of_ble_eq_true rfl) [(0, .ref (ad 8 0)), (1, .int v1), (2, .int v2)] rfl (fun p e s m args below meth c ls C hz S hl => ?_)
  subst hz
  exact w_X8_costNow_0 (res := (r, σ')) C σ v1 v2 _ _ _ S hl  hf

theorem dX8_held_0 : decode cX8_held 0 = .ok (.aload_n 0, 1) := by decide +kernel
theorem dX8_held_1 : decode cX8_held 1 = .ok (.iload_n 1, 1) := by decide +kernel
theorem dX8_held_2 : decode cX8_held 2 = .ok (.invokevirtual 271, 3) := by decide +kernel
theorem dX8_held_5 : decode cX8_held 5 = .ok (.ifCond .eq 5, 3) := by decide +kernel
theorem dX8_held_8 : decode cX8_held 8 = .ok (.iconst 0, 1) := by decide +kernel
theorem dX8_held_9 : decode cX8_held 9 = .ok (.ireturn, 1) := by decide +kernel
theorem dX8_held_10 : decode cX8_held 10 = .ok (.iload_n 2, 1) := by decide +kernel
theorem dX8_held_11 : decode cX8_held 11 = .ok (.istore_n 3, 1) := by decide +kernel
theorem dX8_held_12 : decode cX8_held 12 = .ok (.iconst 0, 1) := by decide +kernel
theorem dX8_held_13 : decode cX8_held 13 = .ok (.istore 4, 2) := by decide +kernel
theorem dX8_held_15 : decode cX8_held 15 = .ok (.iload 4, 2) := by decide +kernel
theorem dX8_held_17 : decode cX8_held 17 = .ok (.aload_n 0, 1) := by decide +kernel
theorem dX8_held_18 : decode cX8_held 18 = .ok (.getfield 7, 3) := by decide +kernel
theorem dX8_held_21 : decode cX8_held 21 = .ok (.iconst 2, 1) := by decide +kernel
theorem dX8_held_22 : decode cX8_held 22 = .ok (.iaload, 1) := by decide +kernel
theorem dX8_held_23 : decode cX8_held 23 = .ok (.if_icmp .ge 36, 3) := by decide +kernel
theorem dX8_held_26 : decode cX8_held 26 = .ok (.iload_n 3, 1) := by decide +kernel
theorem dX8_held_27 : decode cX8_held 27 = .ok (.ifCond .lt 32, 3) := by decide +kernel
theorem dX8_held_30 : decode cX8_held 30 = .ok (.aload_n 0, 1) := by decide +kernel
theorem dX8_held_31 : decode cX8_held 31 = .ok (.iload_n 1, 1) := by decide +kernel
theorem dX8_held_32 : decode cX8_held 32 = .ok (.iload 4, 2) := by decide +kernel
theorem dX8_held_34 : decode cX8_held 34 = .ok (.invokevirtual 92, 3) := by decide +kernel
theorem dX8_held_37 : decode cX8_held 37 = .ok (.ifCond .ne 6, 3) := by decide +kernel
theorem dX8_held_40 : decode cX8_held 40 = .ok (.goto 13, 3) := by decide +kernel
theorem dX8_held_43 : decode cX8_held 43 = .ok (.iload_n 3, 1) := by decide +kernel
theorem dX8_held_44 : decode cX8_held 44 = .ok (.ifCond .ne 6, 3) := by decide +kernel
theorem dX8_held_47 : decode cX8_held 47 = .ok (.iload 4, 2) := by decide +kernel
theorem dX8_held_49 : decode cX8_held 49 = .ok (.ireturn, 1) := by decide +kernel
theorem dX8_held_50 : decode cX8_held 50 = .ok (.iinc 3 (-1), 3) := by decide +kernel
theorem dX8_held_53 : decode cX8_held 53 = .ok (.iinc 4 1, 3) := by decide +kernel
theorem dX8_held_56 : decode cX8_held 56 = .ok (.goto (-41), 3) := by decide +kernel
theorem dX8_held_59 : decode cX8_held 59 = .ok (.aload_n 0, 1) := by decide +kernel
theorem dX8_held_60 : decode cX8_held 60 = .ok (.iconst 2, 1) := by decide +kernel
theorem dX8_held_61 : decode cX8_held 61 = .ok (.putfield 48, 3) := by decide +kernel
theorem dX8_held_64 : decode cX8_held 64 = .ok (.iconst 0, 1) := by decide +kernel
theorem dX8_held_65 : decode cX8_held 65 = .ok (.ireturn, 1) := by decide +kernel
/-! BusLiftsModel.held(II)I -/
noncomputable def f_X8_held_59  (σ : Sg)  : Option (Int32 × Sg) := st (sup σ 8 0 8 2) fun σ1 => (some (0, σ1))
noncomputable def f_X8_held_53 (k15 : Sg → Int32 → Int32 → Int32 → Option (Int32 × Sg)) (σ : Sg) (v1 : Int32) (v3 : Int32) (v4 : Int32) : Option (Int32 × Sg) := k15 σ v1 v3 (v4 + 1)
noncomputable def f_X8_held_47  (σ : Sg) (v4 : Int32) : Option (Int32 × Sg) := some (v4, σ)
noncomputable def f_X8_held_15  : Nat → Sg → Int32 → Int32 → Int32 → Option (Int32 × Sg)
  | 0, _, _, _, _ => none
  | n + 1, σ, v1, v3, v4 => if (σ 30 0 2) ≤ v4 then (f_X8_held_59 σ) else (if v3 < 0 then (f_X8_held_59 σ) else (bi (f_X8_doesHold σ v1 v4) fun r2 σ1 => (if r2 = 0 then (f_X8_held_53 (f_X8_held_15 n) σ1 v1 v3 v4) else (if v3 = 0 then (f_X8_held_47 σ1 v4) else (f_X8_held_53 (f_X8_held_15 n) σ1 v1 (v3 + (-1)) v4)))))
theorem f_X8_held_15_s  (n : Nat) (σ : Sg) (v1 : Int32) (v3 : Int32) (v4 : Int32) : f_X8_held_15  (n + 1) σ v1 v3 v4 = (if (σ 30 0 2) ≤ v4 then (f_X8_held_59 σ) else (if v3 < 0 then (f_X8_held_59 σ) else (bi (f_X8_doesHold σ v1 v4) fun r2 σ1 => (if r2 = 0 then (f_X8_held_53 (f_X8_held_15 n) σ1 v1 v3 v4) else (if v3 = 0 then (f_X8_held_47 σ1 v4) else (f_X8_held_53 (f_X8_held_15 n) σ1 v1 (v3 + (-1)) v4)))))) := rfl
noncomputable def f_X8_held  (σ : Sg) (v1 : Int32) (v2 : Int32) : Option (Int32 × Sg) := bi (f_X8_noCar σ v1) fun r2 σ1 => (if r2 = 0 then (f_X8_held_15 FU σ1 v1 v2 0) else (some (0, σ1)))
set_option maxHeartbeats 4000000 in
set_option maxRecDepth 100000 in
theorem w_X8_held_59 {p : Program} {l : Launch} {e : Env} {s : State} {m : MethodId} {args : Array Value} {below : List Frame} {meth : Method} {c : Code} {G : Gx} {ad : Ad} {res : Int32 × Sg} (C : Cx p s m args meth c yX8_held.cls cX8_held 5 (Option.some FieldType.int) G)  : ∀ (σ : Sg)  (H : Heap) (locs : List Loc) (ls : Array Slot), z_S 1 G ad σ (z_A 1 ad s.heap.size) s.heap H locs → lv_has ls 5 [(0, .ref (ad 8 0))] → f_X8_held_59  σ  = some res → W p l e { frames := 2, cells := 0, slots := 0, locals := 44 } s m args below meth c H locs 0 0 (MQ below (va_Qi (S := Unit) (fun r1 _ => r1 = res.1) (fun _ t => z_W 1 G ad res.2 t.heap) (z_A 1 ad s.heap.size)) args s 0 0 (z_A 1 ad s.heap.size)) (F0 m 59 ls []) := by
  intro σ  H locs ls S hl  hf
  unfold f_X8_held_59 at hf
  refine lv_aload_n C.1 C.2.1 dX8_held_59 rfl (lv_at hl 0 rfl) ?_
  refine lv_iconst (v := 2) C.1 C.2.1 dX8_held_60 (by decide) ?_
  obtain ⟨σ1, e_61, hf⟩ := stb hf
  refine z_putI C S 8 0 rfl (by decide) cf_8 8 (by decide) (pi_8_8 G ad 0) rfl rfl rfl tw_6_126 dX8_held_61 (fun H locs S => ?_)
  rw [← e_61] at S
  refine lv_iconst (v := 0) C.1 C.2.1 dX8_held_64 (by decide) ?_
  exact z_iret C S hf dX8_held_65
set_option maxHeartbeats 4000000 in
set_option maxRecDepth 100000 in
theorem w_X8_held_53 {p : Program} {l : Launch} {e : Env} {s : State} {m : MethodId} {args : Array Value} {below : List Frame} {meth : Method} {c : Code} {G : Gx} {ad : Ad} {res : Int32 × Sg} (C : Cx p s m args meth c yX8_held.cls cX8_held 5 (Option.some FieldType.int) G) (k15 : Sg → Int32 → Int32 → Int32 → Option (Int32 × Sg)) (hk15 : ∀ (σ : Sg) (v1 : Int32) (v3 : Int32) (v4 : Int32) (H : Heap) (locs : List Loc) (ls : Array Slot), z_S 1 G ad σ (z_A 1 ad s.heap.size) s.heap H locs → lv_has ls 5 [(0, .ref (ad 8 0)), (1, .int v1), (3, .int v3), (4, .int v4)] → k15 σ v1 v3 v4 = some res → W p l e { frames := 2, cells := 0, slots := 0, locals := 44 } s m args below meth c H locs 0 0 (MQ below (va_Qi (S := Unit) (fun r1 _ => r1 = res.1) (fun _ t => z_W 1 G ad res.2 t.heap) (z_A 1 ad s.heap.size)) args s 0 0 (z_A 1 ad s.heap.size)) (F0 m 15 ls [])) : ∀ (σ : Sg) (v1 : Int32) (v3 : Int32) (v4 : Int32) (H : Heap) (locs : List Loc) (ls : Array Slot), z_S 1 G ad σ (z_A 1 ad s.heap.size) s.heap H locs → lv_has ls 5 [(0, .ref (ad 8 0)), (1, .int v1), (3, .int v3), (4, .int v4)] → f_X8_held_53 k15 σ v1 v3 v4 = some res → W p l e { frames := 2, cells := 0, slots := 0, locals := 44 } s m args below meth c H locs 0 0 (MQ below (va_Qi (S := Unit) (fun r1 _ => r1 = res.1) (fun _ t => z_W 1 G ad res.2 t.heap) (z_A 1 ad s.heap.size)) args s 0 0 (z_A 1 ad s.heap.size)) (F0 m 53 ls []) := by
  intro σ v1 v3 v4 H locs ls S hl  hf
  unfold f_X8_held_53 at hf
  refine lv_iinc (v := (v4 + 1)) (lv' := [(4, .int (v4 + 1)), (0, .ref (ad 8 0)), (1, .int v1), (3, .int v3)]) C.1 C.2.1 dX8_held_53 hl (k := 3) rfl rfl (by decide) rfl (fun ls hl => ?_)
  refine lv_goto (tgt := 15) C.1 C.2.1 dX8_held_56 (by decide) ?_
  exact hk15 _ v1 v3 (v4 + 1) _ _ _ S (lv_sub hl [1, 2, 3, 0] rfl)  hf
set_option maxHeartbeats 4000000 in
set_option maxRecDepth 100000 in
theorem w_X8_held_47 {p : Program} {l : Launch} {e : Env} {s : State} {m : MethodId} {args : Array Value} {below : List Frame} {meth : Method} {c : Code} {G : Gx} {ad : Ad} {res : Int32 × Sg} (C : Cx p s m args meth c yX8_held.cls cX8_held 5 (Option.some FieldType.int) G)  : ∀ (σ : Sg) (v4 : Int32) (H : Heap) (locs : List Loc) (ls : Array Slot), z_S 1 G ad σ (z_A 1 ad s.heap.size) s.heap H locs → lv_has ls 5 [(4, .int v4)] → f_X8_held_47  σ v4 = some res → W p l e { frames := 2, cells := 0, slots := 0, locals := 44 } s m args below meth c H locs 0 0 (MQ below (va_Qi (S := Unit) (fun r1 _ => r1 = res.1) (fun _ t => z_W 1 G ad res.2 t.heap) (z_A 1 ad s.heap.size)) args s 0 0 (z_A 1 ad s.heap.size)) (F0 m 47 ls []) := by
  intro σ v4 H locs ls S hl  hf
  unfold f_X8_held_47 at hf
  refine lv_iload C.1 C.2.1 dX8_held_47 (lv_at hl 0 rfl) ?_
  exact z_iret C S hf dX8_held_49
set_option maxHeartbeats 4000000 in
set_option maxRecDepth 100000 in
theorem w_X8_held_15 {p : Program} {l : Launch} {e : Env} {s : State} {m : MethodId} {args : Array Value} {below : List Frame} {meth : Method} {c : Code} {G : Gx} {ad : Ad} {res : Int32 × Sg} (C : Cx p s m args meth c yX8_held.cls cX8_held 5 (Option.some FieldType.int) G)  : ∀ n : Nat, ∀ (σ : Sg) (v1 : Int32) (v3 : Int32) (v4 : Int32) (H : Heap) (locs : List Loc) (ls : Array Slot), z_S 1 G ad σ (z_A 1 ad s.heap.size) s.heap H locs → lv_has ls 5 [(0, .ref (ad 8 0)), (1, .int v1), (3, .int v3), (4, .int v4)] → f_X8_held_15  n σ v1 v3 v4 = some res → W p l e { frames := 2, cells := 0, slots := 0, locals := 44 } s m args below meth c H locs 0 0 (MQ below (va_Qi (S := Unit) (fun r1 _ => r1 = res.1) (fun _ t => z_W 1 G ad res.2 t.heap) (z_A 1 ad s.heap.size)) args s 0 0 (z_A 1 ad s.heap.size)) (F0 m 15 ls []) := by
  intro n
  induction n with
  | zero => intro σ v1 v3 v4 H locs ls S hl  hf; cases hf
  | succ n ih =>
    intro σ v1 v3 v4 H locs ls S hl  hf
    rw [f_X8_held_15_s] at hf
    refine lv_iload C.1 C.2.1 dX8_held_15 (lv_at hl 3 rfl) ?_
    refine lv_aload_n C.1 C.2.1 dX8_held_17 rfl (lv_at hl 0 rfl) ?_
    refine z_getR C S 8 0 rfl (by decide) cf_8 0 (by decide) _ (gr_8_0 G ad 0) tw_6_118 dX8_held_18 ?_
    refine lv_iconst (v := 2) C.1 C.2.1 dX8_held_21 (by decide) ?_
    refine z_ialdL C S 30 0 rfl (by decide) 2111 (fun _ => rfl) 2 (by decide) (by decide) (by decide) dX8_held_22 ?_
    refine lv_icmp_ge (tgt := 59) C.1 C.2.1 dX8_held_23 (by decide) (fun c_23 => ?_) (fun c_23 => ?_)
    · rw [if_pos c_23] at hf
      exact w_X8_held_59 C _ _ _ _ S (lv_sub hl [0] rfl) hf
    · rw [if_neg c_23] at hf
      refine lv_iload_n C.1 C.2.1 dX8_held_26 rfl (lv_at hl 2 rfl) ?_
      refine lv_if_lt (tgt := 59) C.1 C.2.1 dX8_held_27 (by decide) (fun c_27 => ?_) (fun c_27 => ?_)
      · rw [if_pos c_27] at hf
        exact w_X8_held_59 C _ _ _ _ S (lv_sub hl [0] rfl) hf
      · rw [if_neg c_27] at hf
        refine lv_aload_n C.1 C.2.1 dX8_held_30 rfl (lv_at hl 0 rfl) ?_
        refine lv_iload_n C.1 C.2.1 dX8_held_31 rfl (lv_at hl 1 rfl) ?_
        refine lv_iload C.1 C.2.1 dX8_held_32 (lv_at hl 3 rfl) ?_
        obtain ⟨r2, σ1, q_34, hf⟩ := bib hf
        refine z_callI C S 8 0 rfl (by decide) cf_8 ⟨_, rfl⟩ [.int v1, .int v4] (m_X8_doesHold l G ad σ v1 v4 r2 σ1 q_34 _) kv_X8_doesHold tw_7_115 ⟨Nat.le_of_ble_eq_true rfl, Nat.le_of_ble_eq_true rfl⟩ rfl rfl (Nat.le_of_ble_eq_true rfl) hl.1 ⟨Nat.le_of_ble_eq_true rfl, Nat.le_of_ble_eq_true rfl⟩ dX8_held_34 (fun H locs S => ?_)
        refine lv_if_ne (tgt := 43) C.1 C.2.1 dX8_held_37 (by decide) (fun c_37 => ?_) (fun c_37 => ?_)
        · rw [if_neg c_37] at hf
          refine lv_iload_n C.1 C.2.1 dX8_held_43 rfl (lv_at hl 2 rfl) ?_
          refine lv_if_ne (tgt := 50) C.1 C.2.1 dX8_held_44 (by decide) (fun c_44 => ?_) (fun c_44 => ?_)
          · rw [if_neg c_44] at hf
            refine lv_iinc (v := (v3 + (-1))) (lv' := [(3, .int (v3 + (-1))), (0, .ref (ad 8 0)), (1, .int v1), (4, .int v4)]) C.1 C.2.1 dX8_held_50 hl (k := 2) rfl rfl (by decide) rfl (fun ls hl => ?_)
            exact w_X8_held_53 C (f_X8_held_15 n) ih _ v1 (v3 + (-1)) v4 _ _ _ S (lv_sub hl [1, 2, 0, 3] rfl) hf
          · rw [if_pos c_44] at hf
            exact w_X8_held_47 C _ v4 _ _ _ S (lv_sub hl [3] rfl) hf
        · rw [if_pos c_37] at hf
          refine lv_goto (tgt := 53) C.1 C.2.1 dX8_held_40 (by decide) ?_
          exact w_X8_held_53 C (f_X8_held_15 n) ih _ v1 v3 v4 _ _ _ S (lv_sub hl [0, 1, 2, 3] rfl) hf
set_option maxHeartbeats 4000000 in
set_option maxRecDepth 100000 in
theorem w_X8_held_0 {p : Program} {l : Launch} {e : Env} {s : State} {m : MethodId} {args : Array Value} {below : List Frame} {meth : Method} {c : Code} {G : Gx} {ad : Ad} {res : Int32 × Sg} (C : Cx p s m args meth c yX8_held.cls cX8_held 5 (Option.some FieldType.int) G)  : ∀ (σ : Sg) (v1 : Int32) (v2 : Int32) (H : Heap) (locs : List Loc) (ls : Array Slot), z_S 1 G ad σ (z_A 1 ad s.heap.size) s.heap H locs → lv_has ls 5 [(0, .ref (ad 8 0)), (1, .int v1), (2, .int v2)] → f_X8_held  σ v1 v2 = some res → W p l e { frames := 2, cells := 0, slots := 0, locals := 44 } s m args below meth c H locs 0 0 (MQ below (va_Qi (S := Unit) (fun r1 _ => r1 = res.1) (fun _ t => z_W 1 G ad res.2 t.heap) (z_A 1 ad s.heap.size)) args s 0 0 (z_A 1 ad s.heap.size)) (F0 m 0 ls []) := by
  intro σ v1 v2 H locs ls S hl  hf
  unfold f_X8_held at hf
  refine lv_aload_n C.1 C.2.1 dX8_held_0 rfl (lv_at hl 0 rfl) ?_
  refine lv_iload_n C.1 C.2.1 dX8_held_1 rfl (lv_at hl 1 rfl) ?_
  obtain ⟨r2, σ1, q_2, hf⟩ := bib hf
  refine z_callI C S 8 0 rfl (by decide) cf_8 ⟨_, rfl⟩ [.int v1] (m_X8_noCar l G ad σ v1 r2 σ1 q_2 _) kv_X8_noCar tw_7_68 ⟨Nat.le_of_ble_eq_true rfl, Nat.le_of_ble_eq_true rfl⟩ rfl rfl (Nat.le_of_ble_eq_true rfl) hl.1 ⟨Nat.le_of_ble_eq_true rfl, Nat.le_of_ble_eq_true rfl⟩ dX8_held_2 (fun H locs S => ?_)
  refine lv_if_eq (tgt := 10) C.1 C.2.1 dX8_held_5 (by decide) (fun c_5 => ?_) (fun c_5 => ?_)
  · rw [if_pos c_5] at hf
    refine lv_iload_n C.1 C.2.1 dX8_held_10 rfl (lv_at hl 2 rfl) ?_
    refine lv_istore_n (lv' := [(3, .int v2), (0, .ref (ad 8 0)), (1, .int v1), (2, .int v2)]) C.1 C.2.1 dX8_held_11 rfl hl (by decide) rfl (fun ls hl => ?_)
    refine lv_iconst (v := 0) C.1 C.2.1 dX8_held_12 (by decide) ?_
    refine lv_istore (lv' := [(4, .int 0), (3, .int v2), (0, .ref (ad 8 0)), (1, .int v1), (2, .int v2)]) C.1 C.2.1 dX8_held_13 hl (by decide) rfl (fun ls hl => ?_)
    exact w_X8_held_15 C FU _ v1 v2 0 _ _ _ S (lv_sub hl [2, 3, 1, 0] rfl) hf
  · rw [if_neg c_5] at hf
    refine lv_iconst (v := 0) C.1 C.2.1 dX8_held_8 (by decide) ?_
    exact z_iret C S hf dX8_held_9
theorem kv_X8_held : KV yX8_held cX8_held 5 (Option.some FieldType.int) 2 := ⟨tw_7_149, tw_7_147, tw_7_148, tw_1_10, by decide, by decide, by decide +kernel⟩
theorem m_X8_held (l : Launch) (G : Gx) (ad : Ad) (σ : Sg) (v1 : Int32) (v2 : Int32) (r : Int32) (σ' : Sg)  (hf : f_X8_held σ v1 v2 = some (r, σ')) (sz : Nat) : z_MI l yX8_held cX8_held 5 (Option.some FieldType.int) 2 44 1 G ad σ sz [.ref (ad 8 0), .int v1, .int v2] r σ' := by
  refine z_begin (by decide +kernel) (Nat.le_of_ble_eq_true rfl) [(0, .ref (ad 8 0)), (1, .int v1), (2, .int v2)] rfl (fun p e s m args below meth c ls C hz S hl => ?_)
  subst hz
  exact w_X8_held_0 (res := (r, σ')) C σ v1 v2 _ _ _ S hl  hf

theorem dX8_goalOf_0 : decode cX8_goalOf 0 = .ok (.aload_n 0, 1) := by decide +kernel
theorem dX8_goalOf_1 : decode cX8_goalOf 1 = .ok (.iload_n 1, 1) := by decide +kernel
theorem dX8_goalOf_2 : decode cX8_goalOf 2 = .ok (.invokevirtual 80, 3) := by decide +kernel
theorem dX8_goalOf_5 : decode cX8_goalOf 5 = .ok (.aload_n 0, 1) := by decide +kernel
theorem dX8_goalOf_6 : decode cX8_goalOf 6 = .ok (.getfield 7, 3) := by decide +kernel
theorem dX8_goalOf_9 : decode cX8_goalOf 9 = .ok (.bipush 27, 2) := by decide +kernel
theorem dX8_goalOf_11 : decode cX8_goalOf 11 = .ok (.iload_n 1, 1) := by decide +kernel
theorem dX8_goalOf_12 : decode cX8_goalOf 12 = .ok (.iadd, 1) := by decide +kernel
theorem dX8_goalOf_13 : decode cX8_goalOf 13 = .ok (.iaload, 1) := by decide +kernel
theorem dX8_goalOf_14 : decode cX8_goalOf 14 = .ok (.if_icmp .ge 7, 3) := by decide +kernel
theorem dX8_goalOf_17 : decode cX8_goalOf 17 = .ok (.iconst 1, 1) := by decide +kernel
theorem dX8_goalOf_18 : decode cX8_goalOf 18 = .ok (.goto 4, 3) := by decide +kernel
theorem dX8_goalOf_21 : decode cX8_goalOf 21 = .ok (.iconst 0, 1) := by decide +kernel
theorem dX8_goalOf_22 : decode cX8_goalOf 22 = .ok (.istore_n 2, 1) := by decide +kernel
theorem dX8_goalOf_23 : decode cX8_goalOf 23 = .ok (.iconst (-1), 1) := by decide +kernel
theorem dX8_goalOf_24 : decode cX8_goalOf 24 = .ok (.istore_n 3, 1) := by decide +kernel
theorem dX8_goalOf_25 : decode cX8_goalOf 25 = .ok (.iconst 0, 1) := by decide +kernel
theorem dX8_goalOf_26 : decode cX8_goalOf 26 = .ok (.istore 4, 2) := by decide +kernel
theorem dX8_goalOf_28 : decode cX8_goalOf 28 = .ok (.iload 4, 2) := by decide +kernel
theorem dX8_goalOf_30 : decode cX8_goalOf 30 = .ok (.aload_n 0, 1) := by decide +kernel
theorem dX8_goalOf_31 : decode cX8_goalOf 31 = .ok (.getfield 7, 3) := by decide +kernel
theorem dX8_goalOf_34 : decode cX8_goalOf 34 = .ok (.iconst 0, 1) := by decide +kernel
theorem dX8_goalOf_35 : decode cX8_goalOf 35 = .ok (.iaload, 1) := by decide +kernel
theorem dX8_goalOf_36 : decode cX8_goalOf 36 = .ok (.if_icmp .ge 141, 3) := by decide +kernel
theorem dX8_goalOf_39 : decode cX8_goalOf 39 = .ok (.iconst 0, 1) := by decide +kernel
theorem dX8_goalOf_40 : decode cX8_goalOf 40 = .ok (.istore 5, 2) := by decide +kernel
theorem dX8_goalOf_42 : decode cX8_goalOf 42 = .ok (.iconst 0, 1) := by decide +kernel
theorem dX8_goalOf_43 : decode cX8_goalOf 43 = .ok (.istore 6, 2) := by decide +kernel
theorem dX8_goalOf_45 : decode cX8_goalOf 45 = .ok (.iload 6, 2) := by decide +kernel
theorem dX8_goalOf_47 : decode cX8_goalOf 47 = .ok (.aload_n 0, 1) := by decide +kernel
theorem dX8_goalOf_48 : decode cX8_goalOf 48 = .ok (.getfield 7, 3) := by decide +kernel
theorem dX8_goalOf_51 : decode cX8_goalOf 51 = .ok (.iconst 2, 1) := by decide +kernel
theorem dX8_goalOf_52 : decode cX8_goalOf 52 = .ok (.iaload, 1) := by decide +kernel
theorem dX8_goalOf_53 : decode cX8_goalOf 53 = .ok (.if_icmp .ge 75, 3) := by decide +kernel
theorem dX8_goalOf_56 : decode cX8_goalOf 56 = .ok (.iload 5, 2) := by decide +kernel
theorem dX8_goalOf_58 : decode cX8_goalOf 58 = .ok (.ifCond .ne 57, 3) := by decide +kernel
theorem dX8_goalOf_61 : decode cX8_goalOf 61 = .ok (.aload_n 0, 1) := by decide +kernel
theorem dX8_goalOf_62 : decode cX8_goalOf 62 = .ok (.iload_n 1, 1) := by decide +kernel
theorem dX8_goalOf_63 : decode cX8_goalOf 63 = .ok (.iload 6, 2) := by decide +kernel
theorem dX8_goalOf_65 : decode cX8_goalOf 65 = .ok (.invokevirtual 68, 3) := by decide +kernel
theorem dX8_goalOf_68 : decode cX8_goalOf 68 = .ok (.ifCond .eq 18, 3) := by decide +kernel
theorem dX8_goalOf_71 : decode cX8_goalOf 71 = .ok (.aload_n 0, 1) := by decide +kernel
theorem dX8_goalOf_72 : decode cX8_goalOf 72 = .ok (.getfield 7, 3) := by decide +kernel
theorem dX8_goalOf_75 : decode cX8_goalOf 75 = .ok (.bipush 79, 2) := by decide +kernel
theorem dX8_goalOf_77 : decode cX8_goalOf 77 = .ok (.iload 6, 2) := by decide +kernel
theorem dX8_goalOf_79 : decode cX8_goalOf 79 = .ok (.iadd, 1) := by decide +kernel
theorem dX8_goalOf_80 : decode cX8_goalOf 80 = .ok (.iaload, 1) := by decide +kernel
theorem dX8_goalOf_81 : decode cX8_goalOf 81 = .ok (.iload 4, 2) := by decide +kernel
theorem dX8_goalOf_83 : decode cX8_goalOf 83 = .ok (.if_icmp .eq 32, 3) := by decide +kernel
theorem dX8_goalOf_86 : decode cX8_goalOf 86 = .ok (.iload_n 2, 1) := by decide +kernel
theorem dX8_goalOf_87 : decode cX8_goalOf 87 = .ok (.ifCond .eq 32, 3) := by decide +kernel
theorem dX8_goalOf_90 : decode cX8_goalOf 90 = .ok (.aload_n 0, 1) := by decide +kernel
theorem dX8_goalOf_91 : decode cX8_goalOf 91 = .ok (.iload_n 1, 1) := by decide +kernel
theorem dX8_goalOf_92 : decode cX8_goalOf 92 = .ok (.iload 6, 2) := by decide +kernel
theorem dX8_goalOf_94 : decode cX8_goalOf 94 = .ok (.invokevirtual 92, 3) := by decide +kernel
theorem dX8_goalOf_97 : decode cX8_goalOf 97 = .ok (.ifCond .eq 22, 3) := by decide +kernel
theorem dX8_goalOf_100 : decode cX8_goalOf 100 = .ok (.aload_n 0, 1) := by decide +kernel
theorem dX8_goalOf_101 : decode cX8_goalOf 101 = .ok (.getfield 7, 3) := by decide +kernel
theorem dX8_goalOf_104 : decode cX8_goalOf 104 = .ok (.bipush 55, 2) := by decide +kernel
theorem dX8_goalOf_106 : decode cX8_goalOf 106 = .ok (.iload 6, 2) := by decide +kernel
theorem dX8_goalOf_108 : decode cX8_goalOf 108 = .ok (.iadd, 1) := by decide +kernel
theorem dX8_goalOf_109 : decode cX8_goalOf 109 = .ok (.iaload, 1) := by decide +kernel
theorem dX8_goalOf_110 : decode cX8_goalOf 110 = .ok (.iload 4, 2) := by decide +kernel
theorem dX8_goalOf_112 : decode cX8_goalOf 112 = .ok (.if_icmp .ne 7, 3) := by decide +kernel
theorem dX8_goalOf_115 : decode cX8_goalOf 115 = .ok (.iconst 1, 1) := by decide +kernel
theorem dX8_goalOf_116 : decode cX8_goalOf 116 = .ok (.goto 4, 3) := by decide +kernel
theorem dX8_goalOf_119 : decode cX8_goalOf 119 = .ok (.iconst 0, 1) := by decide +kernel
theorem dX8_goalOf_120 : decode cX8_goalOf 120 = .ok (.istore 5, 2) := by decide +kernel
theorem dX8_goalOf_122 : decode cX8_goalOf 122 = .ok (.iinc 6 1, 3) := by decide +kernel
theorem dX8_goalOf_125 : decode cX8_goalOf 125 = .ok (.goto (-80), 3) := by decide +kernel
theorem dX8_goalOf_128 : decode cX8_goalOf 128 = .ok (.iload 5, 2) := by decide +kernel
theorem dX8_goalOf_130 : decode cX8_goalOf 130 = .ok (.ifCond .eq 41, 3) := by decide +kernel
theorem dX8_goalOf_133 : decode cX8_goalOf 133 = .ok (.iload_n 3, 1) := by decide +kernel
theorem dX8_goalOf_134 : decode cX8_goalOf 134 = .ok (.iconst (-1), 1) := by decide +kernel
theorem dX8_goalOf_135 : decode cX8_goalOf 135 = .ok (.if_icmp .eq 33, 3) := by decide +kernel
theorem dX8_goalOf_138 : decode cX8_goalOf 138 = .ok (.iload 4, 2) := by decide +kernel
theorem dX8_goalOf_140 : decode cX8_goalOf 140 = .ok (.aload_n 0, 1) := by decide +kernel
theorem dX8_goalOf_141 : decode cX8_goalOf 141 = .ok (.getfield 7, 3) := by decide +kernel
theorem dX8_goalOf_144 : decode cX8_goalOf 144 = .ok (.bipush 23, 2) := by decide +kernel
theorem dX8_goalOf_146 : decode cX8_goalOf 146 = .ok (.iload_n 1, 1) := by decide +kernel
theorem dX8_goalOf_147 : decode cX8_goalOf 147 = .ok (.iadd, 1) := by decide +kernel
theorem dX8_goalOf_148 : decode cX8_goalOf 148 = .ok (.iaload, 1) := by decide +kernel
theorem dX8_goalOf_149 : decode cX8_goalOf 149 = .ok (.invokestatic 72, 3) := by decide +kernel
theorem dX8_goalOf_152 : decode cX8_goalOf 152 = .ok (.iload_n 3, 1) := by decide +kernel
theorem dX8_goalOf_153 : decode cX8_goalOf 153 = .ok (.aload_n 0, 1) := by decide +kernel
theorem dX8_goalOf_154 : decode cX8_goalOf 154 = .ok (.getfield 7, 3) := by decide +kernel
theorem dX8_goalOf_157 : decode cX8_goalOf 157 = .ok (.bipush 23, 2) := by decide +kernel
theorem dX8_goalOf_159 : decode cX8_goalOf 159 = .ok (.iload_n 1, 1) := by decide +kernel
theorem dX8_goalOf_160 : decode cX8_goalOf 160 = .ok (.iadd, 1) := by decide +kernel
theorem dX8_goalOf_161 : decode cX8_goalOf 161 = .ok (.iaload, 1) := by decide +kernel
theorem dX8_goalOf_162 : decode cX8_goalOf 162 = .ok (.invokestatic 72, 3) := by decide +kernel
theorem dX8_goalOf_165 : decode cX8_goalOf 165 = .ok (.if_icmp .ge 6, 3) := by decide +kernel
theorem dX8_goalOf_168 : decode cX8_goalOf 168 = .ok (.iload 4, 2) := by decide +kernel
theorem dX8_goalOf_170 : decode cX8_goalOf 170 = .ok (.istore_n 3, 1) := by decide +kernel
theorem dX8_goalOf_171 : decode cX8_goalOf 171 = .ok (.iinc 4 1, 3) := by decide +kernel
theorem dX8_goalOf_174 : decode cX8_goalOf 174 = .ok (.goto (-146), 3) := by decide +kernel
theorem dX8_goalOf_177 : decode cX8_goalOf 177 = .ok (.iload_n 3, 1) := by decide +kernel
theorem dX8_goalOf_178 : decode cX8_goalOf 178 = .ok (.ireturn, 1) := by decide +kernel
/-! BusLiftsModel.goalOf(I)I -/
noncomputable def f_X8_goalOf_177  (σ : Sg) (v3 : Int32) : Option (Int32 × Sg) := some (v3, σ)
noncomputable def f_X8_goalOf_171 (k28 : Sg → Int32 → Int32 → Int32 → Int32 → Option (Int32 × Sg)) (σ : Sg) (v1 : Int32) (v2 : Int32) (v3 : Int32) (v4 : Int32) : Option (Int32 × Sg) := k28 σ v1 v2 v3 (v4 + 1)
noncomputable def f_X8_goalOf_168 (k28 : Sg → Int32 → Int32 → Int32 → Int32 → Option (Int32 × Sg)) (σ : Sg) (v1 : Int32) (v2 : Int32) (v4 : Int32) : Option (Int32 × Sg) := f_X8_goalOf_171 k28 σ v1 v2 v4 v4
noncomputable def f_X8_goalOf_128 (k28 : Sg → Int32 → Int32 → Int32 → Int32 → Option (Int32 × Sg)) (σ : Sg) (v1 : Int32) (v2 : Int32) (v3 : Int32) (v4 : Int32) (v5 : Int32) : Option (Int32 × Sg) := if v5 = 0 then (f_X8_goalOf_171 k28 σ v1 v2 v3 v4) else (if v3 = (-1) then (f_X8_goalOf_168 k28 σ v1 v2 v4) else (if (23 + v1) < 0 ∨ 2111 ≤ ((23 + v1)).toNatClampNeg then none else (bi (f_X8_apart σ v4 (σ 30 0 ((23 + v1)).toNatClampNeg)) fun r2 σ1 => (if (23 + v1) < 0 ∨ 2111 ≤ ((23 + v1)).toNatClampNeg then none else (bi (f_X8_apart σ1 v3 (σ1 30 0 ((23 + v1)).toNatClampNeg)) fun r4 σ3 => (if r4 ≤ r2 then (f_X8_goalOf_171 k28 σ3 v1 v2 v3 v4) else (f_X8_goalOf_168 k28 σ3 v1 v2 v4)))))))
noncomputable def f_X8_goalOf_120 (k28 : Sg → Int32 → Int32 → Int32 → Int32 → Option (Int32 × Sg)) (k45 : Sg → Int32 → Int32 → Int32 → Int32 → Int32 → Int32 → Option (Int32 × Sg)) (σ : Sg) (v1 : Int32) (v2 : Int32) (v3 : Int32) (v4 : Int32) (v6 : Int32) (v100 : Int32) : Option (Int32 × Sg) := k45 σ v1 v2 v3 v4 v100 (v6 + 1)
noncomputable def f_X8_goalOf_115 (k28 : Sg → Int32 → Int32 → Int32 → Int32 → Option (Int32 × Sg)) (k45 : Sg → Int32 → Int32 → Int32 → Int32 → Int32 → Int32 → Option (Int32 × Sg)) (σ : Sg) (v1 : Int32) (v2 : Int32) (v3 : Int32) (v4 : Int32) (v6 : Int32) : Option (Int32 × Sg) := f_X8_goalOf_120 k28 k45 σ v1 v2 v3 v4 v6 1
noncomputable def f_X8_goalOf_119 (k28 : Sg → Int32 → Int32 → Int32 → Int32 → Option (Int32 × Sg)) (k45 : Sg → Int32 → Int32 → Int32 → Int32 → Int32 → Int32 → Option (Int32 × Sg)) (σ : Sg) (v1 : Int32) (v2 : Int32) (v3 : Int32) (v4 : Int32) (v6 : Int32) : Option (Int32 × Sg) := f_X8_goalOf_120 k28 k45 σ v1 v2 v3 v4 v6 0
noncomputable def f_X8_goalOf_86 (k28 : Sg → Int32 → Int32 → Int32 → Int32 → Option (Int32 × Sg)) (k45 : Sg → Int32 → Int32 → Int32 → Int32 → Int32 → Int32 → Option (Int32 × Sg)) (σ : Sg) (v1 : Int32) (v2 : Int32) (v3 : Int32) (v4 : Int32) (v6 : Int32) : Option (Int32 × Sg) := if v2 = 0 then (f_X8_goalOf_119 k28 k45 σ v1 v2 v3 v4 v6) else (bi (f_X8_doesHold σ v1 v6) fun r2 σ1 => (if r2 = 0 then (f_X8_goalOf_119 k28 k45 σ1 v1 v2 v3 v4 v6) else (if (55 + v6) < 0 ∨ 2111 ≤ ((55 + v6)).toNatClampNeg then none else (if (σ1 30 0 ((55 + v6)).toNatClampNeg) = v4 then (f_X8_goalOf_115 k28 k45 σ1 v1 v2 v3 v4 v6) else (f_X8_goalOf_119 k28 k45 σ1 v1 v2 v3 v4 v6)))))
noncomputable def f_X8_goalOf_45 (k28 : Sg → Int32 → Int32 → Int32 → Int32 → Option (Int32 × Sg)) : Nat → Sg → Int32 → Int32 → Int32 → Int32 → Int32 → Int32 → Option (Int32 × Sg)
  | 0, _, _, _, _, _, _, _ => none
  | n + 1, σ, v1, v2, v3, v4, v5, v6 => if (σ 30 0 2) ≤ v6 then (f_X8_goalOf_128 k28 σ v1 v2 v3 v4 v5) else (if v5 = 0 then (bi (f_X8_isAboard σ v1 v6) fun r2 σ1 => (if r2 = 0 then (f_X8_goalOf_86 k28 (f_X8_goalOf_45 k28 n) σ1 v1 v2 v3 v4 v6) else (if (79 + v6) < 0 ∨ 2111 ≤ ((79 + v6)).toNatClampNeg then none else (if (σ1 30 0 ((79 + v6)).toNatClampNeg) = v4 then (f_X8_goalOf_115 k28 (f_X8_goalOf_45 k28 n) σ1 v1 v2 v3 v4 v6) else (f_X8_goalOf_86 k28 (f_X8_goalOf_45 k28 n) σ1 v1 v2 v3 v4 v6))))) else (f_X8_goalOf_115 k28 (f_X8_goalOf_45 k28 n) σ v1 v2 v3 v4 v6))
theorem f_X8_goalOf_45_s (k28 : Sg → Int32 → Int32 → Int32 → Int32 → Option (Int32 × Sg)) (n : Nat) (σ : Sg) (v1 : Int32) (v2 : Int32) (v3 : Int32) (v4 : Int32) (v5 : Int32) (v6 : Int32) : f_X8_goalOf_45 k28 (n + 1) σ v1 v2 v3 v4 v5 v6 = (if (σ 30 0 2) ≤ v6 then (f_X8_goalOf_128 k28 σ v1 v2 v3 v4 v5) else (if v5 = 0 then (bi (f_X8_isAboard σ v1 v6) fun r2 σ1 => (if r2 = 0 then (f_X8_goalOf_86 k28 (f_X8_goalOf_45 k28 n) σ1 v1 v2 v3 v4 v6) else (if (79 + v6) < 0 ∨ 2111 ≤ ((79 + v6)).toNatClampNeg then none else (if (σ1 30 0 ((79 + v6)).toNatClampNeg) = v4 then (f_X8_goalOf_115 k28 (f_X8_goalOf_45 k28 n) σ1 v1 v2 v3 v4 v6) else (f_X8_goalOf_86 k28 (f_X8_goalOf_45 k28 n) σ1 v1 v2 v3 v4 v6))))) else (f_X8_goalOf_115 k28 (f_X8_goalOf_45 k28 n) σ v1 v2 v3 v4 v6))) := rfl
noncomputable def f_X8_goalOf_28  : Nat → Sg → Int32 → Int32 → Int32 → Int32 → Option (Int32 × Sg)
  | 0, _, _, _, _, _ => none
  | n + 1, σ, v1, v2, v3, v4 => if (σ 30 0 0) ≤ v4 then (f_X8_goalOf_177 σ v3) else (f_X8_goalOf_45 (f_X8_goalOf_28 n) FU σ v1 v2 v3 v4 0 0)
theorem f_X8_goalOf_28_s  (n : Nat) (σ : Sg) (v1 : Int32) (v2 : Int32) (v3 : Int32) (v4 : Int32) : f_X8_goalOf_28  (n + 1) σ v1 v2 v3 v4 = (if (σ 30 0 0) ≤ v4 then (f_X8_goalOf_177 σ v3) else (f_X8_goalOf_45 (f_X8_goalOf_28 n) FU σ v1 v2 v3 v4 0 0)) := rfl
noncomputable def f_X8_goalOf_22  (σ : Sg) (v1 : Int32) (v100 : Int32) : Option (Int32 × Sg) := f_X8_goalOf_28 FU σ v1 v100 (-1) 0
noncomputable def f_X8_goalOf  (σ : Sg) (v1 : Int32) : Option (Int32 × Sg) := bi (f_X8_aboardMany σ v1) fun r2 σ1 => (if (27 + v1) < 0 ∨ 2111 ≤ ((27 + v1)).toNatClampNeg then none else (if (σ1 30 0 ((27 + v1)).toNatClampNeg) ≤ r2 then (f_X8_goalOf_22 σ1 v1 0) else (f_X8_goalOf_22 σ1 v1 1)))
set_option maxHeartbeats 4000000 in
set_option maxRecDepth 100000 in
theorem w_X8_goalOf_177 {p : Program} {l : Launch} {e : Env} {s : State} {m : MethodId} {args : Array Value} {below : List Frame} {meth : Method} {c : Code} {G : Gx} {ad : Ad} {res : Int32 × Sg} (C : Cx p s m args meth c yX8_goalOf.cls cX8_goalOf 7 (Option.some FieldType.int) G)  : ∀ (σ : Sg) (v3 : Int32) (H : Heap) (locs : List Loc) (ls : Array Slot), z_S 1 G ad σ (z_A 1 ad s.heap.size) s.heap H locs → lv_has ls 7 [(3, .int v3)] → f_X8_goalOf_177  σ v3 = some res → W p l e { frames := 2, cells := 0, slots := 0, locals := 45 } s m args below meth c H locs 0 0 (MQ below (va_Qi (S := Unit) (fun r1 _ => r1 = res.1) (fun _ t => z_W 1 G ad res.2 t.heap) (z_A 1 ad s.heap.size)) args s 0 0 (z_A 1 ad s.heap.size)) (F0 m 177 ls []) := by
  intro σ v3 H locs ls S hl  hf
  unfold f_X8_goalOf_177 at hf
  refine lv_iload_n C.1 C.2.1 dX8_goalOf_177 rfl (lv_at hl 0 rfl) ?_
  exact z_iret C S hf dX8_goalOf_178
set_option maxHeartbeats 4000000 in
set_option maxRecDepth 100000 in
theorem w_X8_goalOf_171 {p : Program} {l : Launch} {e : Env} {s : State} {m : MethodId} {args : Array Value} {below : List Frame} {meth : Method} {c : Code} {G : Gx} {ad : Ad} {res : Int32 × Sg} (C : Cx p s m args meth c yX8_goalOf.cls cX8_goalOf 7 (Option.some FieldType.int) G) (k28 : Sg → Int32 → Int32 → Int32 → Int32 → Option (Int32 × Sg)) (hk28 : ∀ (σ : Sg) (v1 : Int32) (v2 : Int32) (v3 : Int32) (v4 : Int32) (H : Heap) (locs : List Loc) (ls : Array Slot), z_S 1 G ad σ (z_A 1 ad s.heap.size) s.heap H locs → lv_has ls 7 [(0, .ref (ad 8 0)), (1, .int v1), (2, .int v2), (3, .int v3), (4, .int v4)] → k28 σ v1 v2 v3 v4 = some res → W p l e { frames := 2, cells := 0, slots := 0, locals := 45 } s m args below meth c H locs 0 0 (MQ below (va_Qi (S := Unit) (fun r1 _ => r1 = res.1) (fun _ t => z_W 1 G ad res.2 t.heap) (z_A 1 ad s.heap.size)) args s 0 0 (z_A 1 ad s.heap.size)) (F0 m 28 ls [])) : ∀ (σ : Sg) (v1 : Int32) (v2 : Int32) (v3 : Int32) (v4 : Int32) (H : Heap) (locs : List Loc) (ls : Array Slot), z_S 1 G ad σ (z_A 1 ad s.heap.size) s.heap H locs → lv_has ls 7 [(0, .ref (ad 8 0)), (1, .int v1), (2, .int v2), (3, .int v3), (4, .int v4)] → f_X8_goalOf_171 k28 σ v1 v2 v3 v4 = some res → W p l e { frames := 2, cells := 0, slots := 0, locals := 45 } s m args below meth c H locs 0 0 (MQ below (va_Qi (S := Unit) (fun r1 _ => r1 = res.1) (fun _ t => z_W 1 G ad res.2 t.heap) (z_A 1 ad s.heap.size)) args s 0 0 (z_A 1 ad s.heap.size)) (F0 m 171 ls []) := by
  intro σ v1 v2 v3 v4 H locs ls S hl  hf
  unfold f_X8_goalOf_171 at hf
  refine lv_iinc (v := (v4 + 1)) (lv' := [(4, .int (v4 + 1)), (0, .ref (ad 8 0)), (1, .int v1), (2, .int v2), (3, .int v3)]) C.1 C.2.1 dX8_goalOf_171 hl (k := 4) rfl rfl (by decide) rfl (fun ls hl => ?_)
  refine lv_goto (tgt := 28) C.1 C.2.1 dX8_goalOf_174 (by decide) ?_
  exact hk28 _ v1 v2 v3 (v4 + 1) _ _ _ S (lv_sub hl [1, 2, 3, 4, 0] rfl)  hf
set_option maxHeartbeats 4000000 in
set_option maxRecDepth 100000 in
theorem w_X8_goalOf_168 {p : Program} {l : Launch} {e : Env} {s : State} {m : MethodId} {args : Array Value} {below : List Frame} {meth : Method} {c : Code} {G : Gx} {ad : Ad} {res : Int32 × Sg} (C : Cx p s m args meth c yX8_goalOf.cls cX8_goalOf 7 (Option.some FieldType.int) G) (k28 : Sg → Int32 → Int32 → Int32 → Int32 → Option (Int32 × Sg)) (hk28 : ∀ (σ : Sg) (v1 : Int32) (v2 : Int32) (v3 : Int32) (v4 : Int32) (H : Heap) (locs : List Loc) (ls : Array Slot), z_S 1 G ad σ (z_A 1 ad s.heap.size) s.heap H locs → lv_has ls 7 [(0, .ref (ad 8 0)), (1, .int v1), (2, .int v2), (3, .int v3), (4, .int v4)] → k28 σ v1 v2 v3 v4 = some res → W p l e { frames := 2, cells := 0, slots := 0, locals := 45 } s m args below meth c H locs 0 0 (MQ below (va_Qi (S := Unit) (fun r1 _ => r1 = res.1) (fun _ t => z_W 1 G ad res.2 t.heap) (z_A 1 ad s.heap.size)) args s 0 0 (z_A 1 ad s.heap.size)) (F0 m 28 ls [])) : ∀ (σ : Sg) (v1 : Int32) (v2 : Int32) (v4 : Int32) (H : Heap) (locs : List Loc) (ls : Array Slot), z_S 1 G ad σ (z_A 1 ad s.heap.size) s.heap H locs → lv_has ls 7 [(0, .ref (ad 8 0)), (1, .int v1), (2, .int v2), (4, .int v4)] → f_X8_goalOf_168 k28 σ v1 v2 v4 = some res → W p l e { frames := 2, cells := 0, slots := 0, locals := 45 } s m args below meth c H locs 0 0 (MQ below (va_Qi (S := Unit) (fun r1 _ => r1 = res.1) (fun _ t => z_W 1 G ad res.2 t.heap) (z_A 1 ad s.heap.size)) args s 0 0 (z_A 1 ad s.heap.size)) (F0 m 168 ls []) := by
  intro σ v1 v2 v4 H locs ls S hl  hf
  unfold f_X8_goalOf_168 at hf
  refine lv_iload C.1 C.2.1 dX8_goalOf_168 (lv_at hl 3 rfl) ?_
  refine lv_istore_n (lv' := [(3, .int v4), (0, .ref (ad 8 0)), (1, .int v1), (2, .int v2), (4, .int v4)]) C.1 C.2.1 dX8_goalOf_170 rfl hl (by decide) rfl (fun ls hl => ?_)
  exact w_X8_goalOf_171 C k28 hk28 _ v1 v2 v4 v4 _ _ _ S (lv_sub hl [1, 2, 3, 0, 4] rfl) hf
set_option maxHeartbeats 4000000 in
set_option maxRecDepth 100000 in
theorem w_X8_goalOf_128 {p : Program} {l : Launch} {e : Env} {s : State} {m : MethodId} {args : Array Value} {below : List Frame} {meth : Method} {c : Code} {G : Gx} {ad : Ad} {res : Int32 × Sg} (C : Cx p s m args meth c yX8_goalOf.cls cX8_goalOf 7 (Option.some FieldType.int) G) (k28 : Sg → Int32 → Int32 → Int32 → Int32 → Option (Int32 × Sg)) (hk28 : ∀ (σ : Sg) (v1 : Int32) (v2 : Int32) (v3 : Int32) (v4 : Int32) (H : Heap) (locs : List Loc) (ls : Array Slot), z_S 1 G ad σ (z_A 1 ad s.heap.size) s.heap H locs → lv_has ls 7 [(0, .ref (ad 8 0)), (1, .int v1), (2, .int v2), (3, .int v3), (4, .int v4)] → k28 σ v1 v2 v3 v4 = some res → W p l e { frames := 2, cells := 0, slots := 0, locals := 45 } s m args below meth c H locs 0 0 (MQ below (va_Qi (S := Unit) (fun r1 _ => r1 = res.1) (fun _ t => z_W 1 G ad res.2 t.heap) (z_A 1 ad s.heap.size)) args s 0 0 (z_A 1 ad s.heap.size)) (F0 m 28 ls [])) : ∀ (σ : Sg) (v1 : Int32) (v2 : Int32) (v3 : Int32) (v4 : Int32) (v5 : Int32) (H : Heap) (locs : List Loc) (ls : Array Slot), z_S 1 G ad σ (z_A 1 ad s.heap.size) s.heap H locs → lv_has ls 7 [(0, .ref (ad 8 0)), (1, .int v1), (2, .int v2), (3, .int v3), (4, .int v4), (5, .int v5)] → f_X8_goalOf_128 k28 σ v1 v2 v3 v4 v5 = some res → W p l e { frames := 2, cells := 0, slots := 0, locals := 45 } s m args below meth c H locs 0 0 (MQ below (va_Qi (S := Unit) (fun r1 _ => r1 = res.1) (fun _ t => z_W 1 G ad res.2 t.heap) (z_A 1 ad s.heap.size)) args s 0 0 (z_A 1 ad s.heap.size)) (F0 m 128 ls []) := by
  intro σ v1 v2 v3 v4 v5 H locs ls S hl  hf
  unfold f_X8_goalOf_128 at hf
  refine lv_iload C.1 C.2.1 dX8_goalOf_128 (lv_at hl 5 rfl) ?_
  refine lv_if_eq (tgt := 171) C.1 C.2.1 dX8_goalOf_130 (by decide) (fun c_130 => ?_) (fun c_130 => ?_)
  · rw [if_pos c_130] at hf
    exact w_X8_goalOf_171 C k28 hk28 _ v1 v2 v3 v4 _ _ _ S (lv_sub hl [0, 1, 2, 3, 4] rfl) hf
  · rw [if_neg c_130] at hf
    refine lv_iload_n C.1 C.2.1 dX8_goalOf_133 rfl (lv_at hl 3 rfl) ?_
    refine lv_iconst (v := (-1)) C.1 C.2.1 dX8_goalOf_134 (by decide) ?_
    refine lv_icmp_eq (tgt := 168) C.1 C.2.1 dX8_goalOf_135 (by decide) (fun c_135 => ?_) (fun c_135 => ?_)
    · rw [if_pos c_135] at hf
      exact w_X8_goalOf_168 C k28 hk28 _ v1 v2 v4 _ _ _ S (lv_sub hl [0, 1, 2, 4] rfl) hf
    · rw [if_neg c_135] at hf
      refine lv_iload C.1 C.2.1 dX8_goalOf_138 (lv_at hl 4 rfl) ?_
      refine lv_aload_n C.1 C.2.1 dX8_goalOf_140 rfl (lv_at hl 0 rfl) ?_
      refine z_getR C S 8 0 rfl (by decide) cf_8 0 (by decide) _ (gr_8_0 G ad 0) tw_6_118 dX8_goalOf_141 ?_
      refine lv_bipush (v := 23) C.1 C.2.1 dX8_goalOf_144 (by decide) ?_
      refine lv_iload_n C.1 C.2.1 dX8_goalOf_146 rfl (lv_at hl 1 rfl) ?_
      refine lv_iadd C.1 C.2.1 dX8_goalOf_147 ?_
      obtain ⟨g_148, hf⟩ := gd hf
      refine z_iald C S 30 0 rfl (by decide) 2111 (fun _ => rfl) g_148 dX8_goalOf_148 ?_
      obtain ⟨r2, σ1, q_149, hf⟩ := bib hf
      refine z_callSI C S [.int v4, .int (σ 30 0 ((23 + v1)).toNatClampNeg)] (m_X8_apart l G ad σ v4 (σ 30 0 ((23 + v1)).toNatClampNeg) r2 σ1 q_149 _) kv_X8_apart tw_7_143 ⟨Nat.le_of_ble_eq_true rfl, Nat.le_of_ble_eq_true rfl⟩ rfl rfl (Nat.le_of_ble_eq_true rfl) hl.1 ⟨Nat.le_of_ble_eq_true rfl, Nat.le_of_ble_eq_true rfl⟩ dX8_goalOf_149 (fun H locs S => ?_)
      refine lv_iload_n C.1 C.2.1 dX8_goalOf_152 rfl (lv_at hl 3 rfl) ?_
      refine lv_aload_n C.1 C.2.1 dX8_goalOf_153 rfl (lv_at hl 0 rfl) ?_
      refine z_getR C S 8 0 rfl (by decide) cf_8 0 (by decide) _ (gr_8_0 G ad 0) tw_6_118 dX8_goalOf_154 ?_
      refine lv_bipush (v := 23) C.1 C.2.1 dX8_goalOf_157 (by decide) ?_
      refine lv_iload_n C.1 C.2.1 dX8_goalOf_159 rfl (lv_at hl 1 rfl) ?_
      refine lv_iadd C.1 C.2.1 dX8_goalOf_160 ?_
      obtain ⟨g_161, hf⟩ := gd hf
      refine z_iald C S 30 0 rfl (by decide) 2111 (fun _ => rfl) g_161 dX8_goalOf_161 ?_
      obtain ⟨r4, σ3, q_162, hf⟩ := bib hf
      refine z_callSI C S [.int v3, .int (σ1 30 0 ((23 + v1)).toNatClampNeg)] (m_X8_apart l G ad σ1 v3 (σ1 30 0 ((23 + v1)).toNatClampNeg) r4 σ3 q_162 _) kv_X8_apart tw_7_143 ⟨Nat.le_of_ble_eq_true rfl, Nat.le_of_ble_eq_true rfl⟩ rfl rfl (Nat.le_of_ble_eq_true rfl) hl.1 ⟨Nat.le_of_ble_eq_true rfl, Nat.le_of_ble_eq_true rfl⟩ dX8_goalOf_162 (fun H locs S => ?_)
      refine lv_icmp_ge (tgt := 171) C.1 C.2.1 dX8_goalOf_165 (by decide) (fun c_165 => ?_) (fun c_165 => ?_)
      · rw [if_pos c_165] at hf
        exact w_X8_goalOf_171 C k28 hk28 _ v1 v2 v3 v4 _ _ _ S (lv_sub hl [0, 1, 2, 3, 4] rfl) hf
      · rw [if_neg c_165] at hf
        exact w_X8_goalOf_168 C k28 hk28 _ v1 v2 v4 _ _ _ S (lv_sub hl [0, 1, 2, 4] rfl) hf
set_option maxHeartbeats 4000000 in
set_option maxRecDepth 100000 in
theorem w_X8_goalOf_120 {p : Program} {l : Launch} {e : Env} {s : State} {m : MethodId} {args : Array Value} {below : List Frame} {meth : Method} {c : Code} {G : Gx} {ad : Ad} {res : Int32 × Sg} (C : Cx p s m args meth c yX8_goalOf.cls cX8_goalOf 7 (Option.some FieldType.int) G) (k28 : Sg → Int32 → Int32 → Int32 → Int32 → Option (Int32 × Sg)) (hk28 : ∀ (σ : Sg) (v1 : Int32) (v2 : Int32) (v3 : Int32) (v4 : Int32) (H : Heap) (locs : List Loc) (ls : Array Slot), z_S 1 G ad σ (z_A 1 ad s.heap.size) s.heap H locs → lv_has ls 7 [(0, .ref (ad 8 0)), (1, .int v1), (2, .int v2), (3, .int v3), (4, .int v4)] → k28 σ v1 v2 v3 v4 = some res → W p l e { frames := 2, cells := 0, slots := 0, locals := 45 } s m args below meth c H locs 0 0 (MQ below (va_Qi (S := Unit) (fun r1 _ => r1 = res.1) (fun _ t => z_W 1 G ad res.2 t.heap) (z_A 1 ad s.heap.size)) args s 0 0 (z_A 1 ad s.heap.size)) (F0 m 28 ls [])) (k45 : Sg → Int32 → Int32 → Int32 → Int32 → Int32 → Int32 → Option (Int32 × Sg)) (hk45 : ∀ (σ : Sg) (v1 : Int32) (v2 : Int32) (v3 : Int32) (v4 : Int32) (v5 : Int32) (v6 : Int32) (H : Heap) (locs : List Loc) (ls : Array Slot), z_S 1 G ad σ (z_A 1 ad s.heap.size) s.heap H locs → lv_has ls 7 [(0, .ref (ad 8 0)), (1, .int v1), (2, .int v2), (3, .int v3), (4, .int v4), (5, .int v5), (6, .int v6)] → k45 σ v1 v2 v3 v4 v5 v6 = some res → W p l e { frames := 2, cells := 0, slots := 0, locals := 45 } s m args below meth c H locs 0 0 (MQ below (va_Qi (S := Unit) (fun r1 _ => r1 = res.1) (fun _ t => z_W 1 G ad res.2 t.heap) (z_A 1 ad s.heap.size)) args s 0 0 (z_A 1 ad s.heap.size)) (F0 m 45 ls [])) : ∀ (σ : Sg) (v1 : Int32) (v2 : Int32) (v3 : Int32) (v4 : Int32) (v6 : Int32) (v100 : Int32) (H : Heap) (locs : List Loc) (ls : Array Slot), z_S 1 G ad σ (z_A 1 ad s.heap.size) s.heap H locs → lv_has ls 7 [(0, .ref (ad 8 0)), (1, .int v1), (2, .int v2), (3, .int v3), (4, .int v4), (6, .int v6)] → f_X8_goalOf_120 k28 k45 σ v1 v2 v3 v4 v6 v100 = some res → W p l e { frames := 2, cells := 0, slots := 0, locals := 45 } s m args below meth c H locs 0 0 (MQ below (va_Qi (S := Unit) (fun r1 _ => r1 = res.1) (fun _ t => z_W 1 G ad res.2 t.heap) (z_A 1 ad s.heap.size)) args s 0 0 (z_A 1 ad s.heap.size)) (F0 m 120 ls [.int v100]) := by
  intro σ v1 v2 v3 v4 v6 v100 H locs ls S hl  hf
  unfold f_X8_goalOf_120 at hf
  refine lv_istore (lv' := [(5, .int v100), (0, .ref (ad 8 0)), (1, .int v1), (2, .int v2), (3, .int v3), (4, .int v4), (6, .int v6)]) C.1 C.2.1 dX8_goalOf_120 hl (by decide) rfl (fun ls hl => ?_)
  refine lv_iinc (v := (v6 + 1)) (lv' := [(6, .int (v6 + 1)), (5, .int v100), (0, .ref (ad 8 0)), (1, .int v1), (2, .int v2), (3, .int v3), (4, .int v4)]) C.1 C.2.1 dX8_goalOf_122 hl (k := 6) rfl rfl (by decide) rfl (fun ls hl => ?_)
  refine lv_goto (tgt := 45) C.1 C.2.1 dX8_goalOf_125 (by decide) ?_
  exact hk45 _ v1 v2 v3 v4 v100 (v6 + 1) _ _ _ S (lv_sub hl [2, 3, 4, 5, 6, 1, 0] rfl)  hf
set_option maxHeartbeats 4000000 in
set_option maxRecDepth 100000 in
theorem w_X8_goalOf_115 {p : Program} {l : Launch} {e : Env} {s : State} {m : MethodId} {args : Array Value} {below : List Frame} {meth : Method} {c : Code} {G : Gx} {ad : Ad} {res : Int32 × Sg} (C : Cx p s m args meth c yX8_goalOf.cls cX8_goalOf 7 (Option.some FieldType.int) G) (k28 : Sg → Int32 → Int32 → Int32 → Int32 → Option (Int32 × Sg)) (hk28 : ∀ (σ : Sg) (v1 : Int32) (v2 : Int32) (v3 : Int32) (v4 : Int32) (H : Heap) (locs : List Loc) (ls : Array Slot), z_S 1 G ad σ (z_A 1 ad s.heap.size) s.heap H locs → lv_has ls 7 [(0, .ref (ad 8 0)), (1, .int v1), (2, .int v2), (3, .int v3), (4, .int v4)] → k28 σ v1 v2 v3 v4 = some res → W p l e { frames := 2, cells := 0, slots := 0, locals := 45 } s m args below meth c H locs 0 0 (MQ below (va_Qi (S := Unit) (fun r1 _ => r1 = res.1) (fun _ t => z_W 1 G ad res.2 t.heap) (z_A 1 ad s.heap.size)) args s 0 0 (z_A 1 ad s.heap.size)) (F0 m 28 ls [])) (k45 : Sg → Int32 → Int32 → Int32 → Int32 → Int32 → Int32 → Option (Int32 × Sg)) (hk45 : ∀ (σ : Sg) (v1 : Int32) (v2 : Int32) (v3 : Int32) (v4 : Int32) (v5 : Int32) (v6 : Int32) (H : Heap) (locs : List Loc) (ls : Array Slot), z_S 1 G ad σ (z_A 1 ad s.heap.size) s.heap H locs → lv_has ls 7 [(0, .ref (ad 8 0)), (1, .int v1), (2, .int v2), (3, .int v3), (4, .int v4), (5, .int v5), (6, .int v6)] → k45 σ v1 v2 v3 v4 v5 v6 = some res → W p l e { frames := 2, cells := 0, slots := 0, locals := 45 } s m args below meth c H locs 0 0 (MQ below (va_Qi (S := Unit) (fun r1 _ => r1 = res.1) (fun _ t => z_W 1 G ad res.2 t.heap) (z_A 1 ad s.heap.size)) args s 0 0 (z_A 1 ad s.heap.size)) (F0 m 45 ls [])) : ∀ (σ : Sg) (v1 : Int32) (v2 : Int32) (v3 : Int32) (v4 : Int32) (v6 : Int32) (H : Heap) (locs : List Loc) (ls : Array Slot), z_S 1 G ad σ (z_A 1 ad s.heap.size) s.heap H locs → lv_has ls 7 [(0, .ref (ad 8 0)), (1, .int v1), (2, .int v2), (3, .int v3), (4, .int v4), (6, .int v6)] → f_X8_goalOf_115 k28 k45 σ v1 v2 v3 v4 v6 = some res → W p l e { frames := 2, cells := 0, slots := 0, locals := 45 } s m args below meth c H locs 0 0 (MQ below (va_Qi (S := Unit) (fun r1 _ => r1 = res.1) (fun _ t => z_W 1 G ad res.2 t.heap) (z_A 1 ad s.heap.size)) args s 0 0 (z_A 1 ad s.heap.size)) (F0 m 115 ls []) := by
  intro σ v1 v2 v3 v4 v6 H locs ls S hl  hf
  unfold f_X8_goalOf_115 at hf
  refine lv_iconst (v := 1) C.1 C.2.1 dX8_goalOf_115 (by decide) ?_
  refine lv_goto (tgt := 120) C.1 C.2.1 dX8_goalOf_116 (by decide) ?_
  exact w_X8_goalOf_120 C k28 hk28 k45 hk45 _ v1 v2 v3 v4 v6 1 _ _ _ S (lv_sub hl [0, 1, 2, 3, 4, 5] rfl) hf
set_option maxHeartbeats 4000000 in
set_option maxRecDepth 100000 in
theorem w_X8_goalOf_119 {p : Program} {l : Launch} {e : Env} {s : State} {m : MethodId} {args : Array Value} {below : List Frame} {meth : Method} {c : Code} {G : Gx} {ad : Ad} {res : Int32 × Sg} (C : Cx p s m args meth c yX8_goalOf.cls cX8_goalOf 7 (Option.some FieldType.int) G) (k28 : Sg → Int32 → Int32 → Int32 → Int32 → Option (Int32 × Sg)) (hk28 : ∀ (σ : Sg) (v1 : Int32) (v2 : Int32) (v3 : Int32) (v4 : Int32) (H : Heap) (locs : List Loc) (ls : Array Slot), z_S 1 G ad σ (z_A 1 ad s.heap.size) s.heap H locs → lv_has ls 7 [(0, .ref (ad 8 0)), (1, .int v1), (2, .int v2), (3, .int v3), (4, .int v4)] → k28 σ v1 v2 v3 v4 = some res → W p l e { frames := 2, cells := 0, slots := 0, locals := 45 } s m args below meth c H locs 0 0 (MQ below (va_Qi (S := Unit) (fun r1 _ => r1 = res.1) (fun _ t => z_W 1 G ad res.2 t.heap) (z_A 1 ad s.heap.size)) args s 0 0 (z_A 1 ad s.heap.size)) (F0 m 28 ls [])) (k45 : Sg → Int32 → Int32 → Int32 → Int32 → Int32 → Int32 → Option (Int32 × Sg)) (hk45 : ∀ (σ : Sg) (v1 : Int32) (v2 : Int32) (v3 : Int32) (v4 : Int32) (v5 : Int32) (v6 : Int32) (H : Heap) (locs : List Loc) (ls : Array Slot), z_S 1 G ad σ (z_A 1 ad s.heap.size) s.heap H locs → lv_has ls 7 [(0, .ref (ad 8 0)), (1, .int v1), (2, .int v2), (3, .int v3), (4, .int v4), (5, .int v5), (6, .int v6)] → k45 σ v1 v2 v3 v4 v5 v6 = some res → W p l e { frames := 2, cells := 0, slots := 0, locals := 45 } s m args below meth c H locs 0 0 (MQ below (va_Qi (S := Unit) (fun r1 _ => r1 = res.1) (fun _ t => z_W 1 G ad res.2 t.heap) (z_A 1 ad s.heap.size)) args s 0 0 (z_A 1 ad s.heap.size)) (F0 m 45 ls [])) : ∀ (σ : Sg) (v1 : Int32) (v2 : Int32) (v3 : Int32) (v4 : Int32) (v6 : Int32) (H : Heap) (locs : List Loc) (ls : Array Slot), z_S 1 G ad σ (z_A 1 ad s.heap.size) s.heap H locs → lv_has ls 7 [(0, .ref (ad 8 0)), (1, .int v1), (2, .int v2), (3, .int v3), (4, .int v4), (6, .int v6)] → f_X8_goalOf_119 k28 k45 σ v1 v2 v3 v4 v6 = some res → W p l e { frames := 2, cells := 0, slots := 0, locals := 45 } s m args below meth c H locs 0 0 (MQ below (va_Qi (S := Unit) (fun r1 _ => r1 = res.1) (fun _ t => z_W 1 G ad res.2 t.heap) (z_A 1 ad s.heap.size)) args s 0 0 (z_A 1 ad s.heap.size)) (F0 m 119 ls []) := by
  intro σ v1 v2 v3 v4 v6 H locs ls S hl  hf
  unfold f_X8_goalOf_119 at hf
  refine lv_iconst (v := 0) C.1 C.2.1 dX8_goalOf_119 (by decide) ?_
  exact w_X8_goalOf_120 C k28 hk28 k45 hk45 _ v1 v2 v3 v4 v6 0 _ _ _ S (lv_sub hl [0, 1, 2, 3, 4, 5] rfl) hf
set_option maxHeartbeats 4000000 in
set_option maxRecDepth 100000 in
theorem w_X8_goalOf_86 {p : Program} {l : Launch} {e : Env} {s : State} {m : MethodId} {args : Array Value} {below : List Frame} {meth : Method} {c : Code} {G : Gx} {ad : Ad} {res : Int32 × Sg} (C : Cx p s m args meth c yX8_goalOf.cls cX8_goalOf 7 (Option.some FieldType.int) G) (k28 : Sg → Int32 → Int32 → Int32 → Int32 → Option (Int32 × Sg)) (hk28 : ∀ (σ : Sg) (v1 : Int32) (v2 : Int32) (v3 : Int32) (v4 : Int32) (H : Heap) (locs : List Loc) (ls : Array Slot), z_S 1 G ad σ (z_A 1 ad s.heap.size) s.heap H locs → lv_has ls 7 [(0, .ref (ad 8 0)), (1, .int v1), (2, .int v2), (3, .int v3), (4, .int v4)] → k28 σ v1 v2 v3 v4 = some res → W p l e { frames := 2, cells := 0, slots := 0, locals := 45 } s m args below meth c H locs 0 0 (MQ below (va_Qi (S := Unit) (fun r1 _ => r1 = res.1) (fun _ t => z_W 1 G ad res.2 t.heap) (z_A 1 ad s.heap.size)) args s 0 0 (z_A 1 ad s.heap.size)) (F0 m 28 ls [])) (k45 : Sg → Int32 → Int32 → Int32 → Int32 → Int32 → Int32 → Option (Int32 × Sg)) (hk45 : ∀ (σ : Sg) (v1 : Int32) (v2 : Int32) (v3 : Int32) (v4 : Int32) (v5 : Int32) (v6 : Int32) (H : Heap) (locs : List Loc) (ls : Array Slot), z_S 1 G ad σ (z_A 1 ad s.heap.size) s.heap H locs → lv_has ls 7 [(0, .ref (ad 8 0)), (1, .int v1), (2, .int v2), (3, .int v3), (4, .int v4), (5, .int v5), (6, .int v6)] → k45 σ v1 v2 v3 v4 v5 v6 = some res → W p l e { frames := 2, cells := 0, slots := 0, locals := 45 } s m args below meth c H locs 0 0 (MQ below (va_Qi (S := Unit) (fun r1 _ => r1 = res.1) (fun _ t => z_W 1 G ad res.2 t.heap) (z_A 1 ad s.heap.size)) args s 0 0 (z_A 1 ad s.heap.size)) (F0 m 45 ls [])) : ∀ (σ : Sg) (v1 : Int32) (v2 : Int32) (v3 : Int32) (v4 : Int32) (v6 : Int32) (H : Heap) (locs : List Loc) (ls : Array Slot), z_S 1 G ad σ (z_A 1 ad s.heap.size) s.heap H locs → lv_has ls 7 [(0, .ref (ad 8 0)), (1, .int v1), (2, .int v2), (3, .int v3), (4, .int v4), (6, .int v6)] → f_X8_goalOf_86 k28 k45 σ v1 v2 v3 v4 v6 = some res → W p l e { frames := 2, cells := 0, slots := 0, locals := 45 } s m args below meth c H locs 0 0 (MQ below (va_Qi (S := Unit) (fun r1 _ => r1 = res.1) (fun _ t => z_W 1 G ad res.2 t.heap) (z_A 1 ad s.heap.size)) args s 0 0 (z_A 1 ad s.heap.size)) (F0 m 86 ls []) := by
  intro σ v1 v2 v3 v4 v6 H locs ls S hl  hf
  unfold f_X8_goalOf_86 at hf
  refine lv_iload_n C.1 C.2.1 dX8_goalOf_86 rfl (lv_at hl 2 rfl) ?_
  refine lv_if_eq (tgt := 119) C.1 C.2.1 dX8_goalOf_87 (by decide) (fun c_87 => ?_) (fun c_87 => ?_)
  · rw [if_pos c_87] at hf
    exact w_X8_goalOf_119 C k28 hk28 k45 hk45 _ v1 v2 v3 v4 v6 _ _ _ S (lv_sub hl [0, 1, 2, 3, 4, 5] rfl) hf
  · rw [if_neg c_87] at hf
    refine lv_aload_n C.1 C.2.1 dX8_goalOf_90 rfl (lv_at hl 0 rfl) ?_
    refine lv_iload_n C.1 C.2.1 dX8_goalOf_91 rfl (lv_at hl 1 rfl) ?_
    refine lv_iload C.1 C.2.1 dX8_goalOf_92 (lv_at hl 5 rfl) ?_
    obtain ⟨r2, σ1, q_94, hf⟩ := bib hf
    refine z_callI C S 8 0 rfl (by decide) cf_8 ⟨_, rfl⟩ [.int v1, .int v6] (m_X8_doesHold l G ad σ v1 v6 r2 σ1 q_94 _) kv_X8_doesHold tw_7_115 ⟨Nat.le_of_ble_eq_true rfl, Nat.le_of_ble_eq_true rfl⟩ rfl rfl (Nat.le_of_ble_eq_true rfl) hl.1 ⟨Nat.le_of_ble_eq_true rfl, Nat.le_of_ble_eq_true rfl⟩ dX8_goalOf_94 (fun H locs S => ?_)
    refine lv_if_eq (tgt := 119) C.1 C.2.1 dX8_goalOf_97 (by decide) (fun c_97 => ?_) (fun c_97 => ?_)
    · rw [if_pos c_97] at hf
      exact w_X8_goalOf_119 C k28 hk28 k45 hk45 _ v1 v2 v3 v4 v6 _ _ _ S (lv_sub hl [0, 1, 2, 3, 4, 5] rfl) hf
    · rw [if_neg c_97] at hf
      refine lv_aload_n C.1 C.2.1 dX8_goalOf_100 rfl (lv_at hl 0 rfl) ?_
      refine z_getR C S 8 0 rfl (by decide) cf_8 0 (by decide) _ (gr_8_0 G ad 0) tw_6_118 dX8_goalOf_101 ?_
      refine lv_bipush (v := 55) C.1 C.2.1 dX8_goalOf_104 (by decide) ?_
      refine lv_iload C.1 C.2.1 dX8_goalOf_106 (lv_at hl 5 rfl) ?_
      refine lv_iadd C.1 C.2.1 dX8_goalOf_108 ?_
      obtain ⟨g_109, hf⟩ := gd hf
      refine z_iald C S 30 0 rfl (by decide) 2111 (fun _ => rfl) g_109 dX8_goalOf_109 ?_
      refine lv_iload C.1 C.2.1 dX8_goalOf_110 (lv_at hl 4 rfl) ?_
      refine lv_icmp_ne (tgt := 119) C.1 C.2.1 dX8_goalOf_112 (by decide) (fun c_112 => ?_) (fun c_112 => ?_)
      · rw [if_neg c_112] at hf
        exact w_X8_goalOf_119 C k28 hk28 k45 hk45 _ v1 v2 v3 v4 v6 _ _ _ S (lv_sub hl [0, 1, 2, 3, 4, 5] rfl) hf
      · rw [if_pos c_112] at hf
        exact w_X8_goalOf_115 C k28 hk28 k45 hk45 _ v1 v2 v3 v4 v6 _ _ _ S (lv_sub hl [0, 1, 2, 3, 4, 5] rfl) hf
set_option maxHeartbeats 4000000 in
set_option maxRecDepth 100000 in
theorem w_X8_goalOf_45 {p : Program} {l : Launch} {e : Env} {s : State} {m : MethodId} {args : Array Value} {below : List Frame} {meth : Method} {c : Code} {G : Gx} {ad : Ad} {res : Int32 × Sg} (C : Cx p s m args meth c yX8_goalOf.cls cX8_goalOf 7 (Option.some FieldType.int) G) (k28 : Sg → Int32 → Int32 → Int32 → Int32 → Option (Int32 × Sg)) (hk28 : ∀ (σ : Sg) (v1 : Int32) (v2 : Int32) (v3 : Int32) (v4 : Int32) (H : Heap) (locs : List Loc) (ls : Array Slot), z_S 1 G ad σ (z_A 1 ad s.heap.size) s.heap H locs → lv_has ls 7 [(0, .ref (ad 8 0)), (1, .int v1), (2, .int v2), (3, .int v3), (4, .int v4)] → k28 σ v1 v2 v3 v4 = some res → W p l e { frames := 2, cells := 0, slots := 0, locals := 45 } s m args below meth c H locs 0 0 (MQ below (va_Qi (S := Unit) (fun r1 _ => r1 = res.1) (fun _ t => z_W 1 G ad res.2 t.heap) (z_A 1 ad s.heap.size)) args s 0 0 (z_A 1 ad s.heap.size)) (F0 m 28 ls [])) : ∀ n : Nat, ∀ (σ : Sg) (v1 : Int32) (v2 : Int32) (v3 : Int32) (v4 : Int32) (v5 : Int32) (v6 : Int32) (H : Heap) (locs : List Loc) (ls : Array Slot), z_S 1 G ad σ (z_A 1 ad s.heap.size) s.heap H locs → lv_has ls 7 [(0, .ref (ad 8 0)), (1, .int v1), (2, .int v2), (3, .int v3), (4, .int v4), (5, .int v5), (6, .int v6)] → f_X8_goalOf_45 k28 n σ v1 v2 v3 v4 v5 v6 = some res → W p l e { frames := 2, cells := 0, slots := 0, locals := 45 } s m args below meth c H locs 0 0 (MQ below (va_Qi (S := Unit) (fun r1 _ => r1 = res.1) (fun _ t => z_W 1 G ad res.2 t.heap) (z_A 1 ad s.heap.size)) args s 0 0 (z_A 1 ad s.heap.size)) (F0 m 45 ls []) := by
  intro n
  induction n with
  | zero => intro σ v1 v2 v3 v4 v5 v6 H locs ls S hl  hf; cases hf
  | succ n ih =>
    intro σ v1 v2 v3 v4 v5 v6 H locs ls S hl  hf
    rw [f_X8_goalOf_45_s] at hf
    refine lv_iload C.1 C.2.1 dX8_goalOf_45 (lv_at hl 6 rfl) ?_
    refine lv_aload_n C.1 C.2.1 dX8_goalOf_47 rfl (lv_at hl 0 rfl) ?_
    refine z_getR C S 8 0 rfl (by decide) cf_8 0 (by decide) _ (gr_8_0 G ad 0) tw_6_118 dX8_goalOf_48 ?_
    refine lv_iconst (v := 2) C.1 C.2.1 dX8_goalOf_51 (by decide) ?_
    refine z_ialdL C S 30 0 rfl (by decide) 2111 (fun _ => rfl) 2 (by decide) (by decide) (by decide) dX8_goalOf_52 ?_
    refine lv_icmp_ge (tgt := 128) C.1 C.2.1 dX8_goalOf_53 (by decide) (fun c_53 => ?_) (fun c_53 => ?_)
    · rw [if_pos c_53] at hf
      exact w_X8_goalOf_128 C k28 hk28 _ v1 v2 v3 v4 v5 _ _ _ S (lv_sub hl [0, 1, 2, 3, 4, 5] rfl) hf
    · rw [if_neg c_53] at hf
      refine lv_iload C.1 C.2.1 dX8_goalOf_56 (lv_at hl 5 rfl) ?_
      refine lv_if_ne (tgt := 115) C.1 C.2.1 dX8_goalOf_58 (by decide) (fun c_58 => ?_) (fun c_58 => ?_)
      · rw [if_neg c_58] at hf
        exact w_X8_goalOf_115 C k28 hk28 (f_X8_goalOf_45 k28 n) ih _ v1 v2 v3 v4 v6 _ _ _ S (lv_sub hl [0, 1, 2, 3, 4, 6] rfl) hf
      · rw [if_pos c_58] at hf
        refine lv_aload_n C.1 C.2.1 dX8_goalOf_61 rfl (lv_at hl 0 rfl) ?_
        refine lv_iload_n C.1 C.2.1 dX8_goalOf_62 rfl (lv_at hl 1 rfl) ?_
        refine lv_iload C.1 C.2.1 dX8_goalOf_63 (lv_at hl 6 rfl) ?_
        obtain ⟨r2, σ1, q_65, hf⟩ := bib hf
        refine z_callI C S 8 0 rfl (by decide) cf_8 ⟨_, rfl⟩ [.int v1, .int v6] (m_X8_isAboard l G ad σ v1 v6 r2 σ1 q_65 _) kv_X8_isAboard tw_7_83 ⟨Nat.le_of_ble_eq_true rfl, Nat.le_of_ble_eq_true rfl⟩ rfl rfl (Nat.le_of_ble_eq_true rfl) hl.1 ⟨Nat.le_of_ble_eq_true rfl, Nat.le_of_ble_eq_true rfl⟩ dX8_goalOf_65 (fun H locs S => ?_)
        refine lv_if_eq (tgt := 86) C.1 C.2.1 dX8_goalOf_68 (by decide) (fun c_68 => ?_) (fun c_68 => ?_)
        · rw [if_pos c_68] at hf
          exact w_X8_goalOf_86 C k28 hk28 (f_X8_goalOf_45 k28 n) ih _ v1 v2 v3 v4 v6 _ _ _ S (lv_sub hl [0, 1, 2, 3, 4, 6] rfl) hf
        · rw [if_neg c_68] at hf
          refine lv_aload_n C.1 C.2.1 dX8_goalOf_71 rfl (lv_at hl 0 rfl) ?_
          refine z_getR C S 8 0 rfl (by decide) cf_8 0 (by decide) _ (gr_8_0 G ad 0) tw_6_118 dX8_goalOf_72 ?_
          refine lv_bipush (v := 79) C.1 C.2.1 dX8_goalOf_75 (by decide) ?_
          refine lv_iload C.1 C.2.1 dX8_goalOf_77 (lv_at hl 6 rfl) ?_
          refine lv_iadd C.1 C.2.1 dX8_goalOf_79 ?_
          obtain ⟨g_80, hf⟩ := gd hf
          refine z_iald C S 30 0 rfl (by decide) 2111 (fun _ => rfl) g_80 dX8_goalOf_80 ?_
          refine lv_iload C.1 C.2.1 dX8_goalOf_81 (lv_at hl 4 rfl) ?_
          refine lv_icmp_eq (tgt := 115) C.1 C.2.1 dX8_goalOf_83 (by decide) (fun c_83 => ?_) (fun c_83 => ?_)
          · rw [if_pos c_83] at hf
            exact w_X8_goalOf_115 C k28 hk28 (f_X8_goalOf_45 k28 n) ih _ v1 v2 v3 v4 v6 _ _ _ S (lv_sub hl [0, 1, 2, 3, 4, 6] rfl) hf
          · rw [if_neg c_83] at hf
            exact w_X8_goalOf_86 C k28 hk28 (f_X8_goalOf_45 k28 n) ih _ v1 v2 v3 v4 v6 _ _ _ S (lv_sub hl [0, 1, 2, 3, 4, 6] rfl) hf
set_option maxHeartbeats 4000000 in
set_option maxRecDepth 100000 in
theorem w_X8_goalOf_28 {p : Program} {l : Launch} {e : Env} {s : State} {m : MethodId} {args : Array Value} {below : List Frame} {meth : Method} {c : Code} {G : Gx} {ad : Ad} {res : Int32 × Sg} (C : Cx p s m args meth c yX8_goalOf.cls cX8_goalOf 7 (Option.some FieldType.int) G)  : ∀ n : Nat, ∀ (σ : Sg) (v1 : Int32) (v2 : Int32) (v3 : Int32) (v4 : Int32) (H : Heap) (locs : List Loc) (ls : Array Slot), z_S 1 G ad σ (z_A 1 ad s.heap.size) s.heap H locs → lv_has ls 7 [(0, .ref (ad 8 0)), (1, .int v1), (2, .int v2), (3, .int v3), (4, .int v4)] → f_X8_goalOf_28  n σ v1 v2 v3 v4 = some res → W p l e { frames := 2, cells := 0, slots := 0, locals := 45 } s m args below meth c H locs 0 0 (MQ below (va_Qi (S := Unit) (fun r1 _ => r1 = res.1) (fun _ t => z_W 1 G ad res.2 t.heap) (z_A 1 ad s.heap.size)) args s 0 0 (z_A 1 ad s.heap.size)) (F0 m 28 ls []) := by
  intro n
  induction n with
  | zero => intro σ v1 v2 v3 v4 H locs ls S hl  hf; cases hf
  | succ n ih =>
    intro σ v1 v2 v3 v4 H locs ls S hl  hf
    rw [f_X8_goalOf_28_s] at hf
    refine lv_iload C.1 C.2.1 dX8_goalOf_28 (lv_at hl 4 rfl) ?_
    refine lv_aload_n C.1 C.2.1 dX8_goalOf_30 rfl (lv_at hl 0 rfl) ?_
    refine z_getR C S 8 0 rfl (by decide) cf_8 0 (by decide) _ (gr_8_0 G ad 0) tw_6_118 dX8_goalOf_31 ?_
    refine lv_iconst (v := 0) C.1 C.2.1 dX8_goalOf_34 (by decide) ?_
    refine z_ialdL C S 30 0 rfl (by decide) 2111 (fun _ => rfl) 0 (by decide) (by decide) (by decide) dX8_goalOf_35 ?_
    refine lv_icmp_ge (tgt := 177) C.1 C.2.1 dX8_goalOf_36 (by decide) (fun c_36 => ?_) (fun c_36 => ?_)
    · rw [if_pos c_36] at hf
      exact w_X8_goalOf_177 C _ v3 _ _ _ S (lv_sub hl [3] rfl) hf
    · rw [if_neg c_36] at hf
      refine lv_iconst (v := 0) C.1 C.2.1 dX8_goalOf_39 (by decide) ?_
      refine lv_istore (lv' := [(5, .int 0), (0, .ref (ad 8 0)), (1, .int v1), (2, .int v2), (3, .int v3), (4, .int v4)]) C.1 C.2.1 dX8_goalOf_40 hl (by decide) rfl (fun ls hl => ?_)
      refine lv_iconst (v := 0) C.1 C.2.1 dX8_goalOf_42 (by decide) ?_
      refine lv_istore (lv' := [(6, .int 0), (5, .int 0), (0, .ref (ad 8 0)), (1, .int v1), (2, .int v2), (3, .int v3), (4, .int v4)]) C.1 C.2.1 dX8_goalOf_43 hl (by decide) rfl (fun ls hl => ?_)
      exact w_X8_goalOf_45 C (f_X8_goalOf_28 n) ih FU _ v1 v2 v3 v4 0 0 _ _ _ S (lv_sub hl [2, 3, 4, 5, 6, 1, 0] rfl) hf
set_option maxHeartbeats 4000000 in
set_option maxRecDepth 100000 in
theorem w_X8_goalOf_22 {p : Program} {l : Launch} {e : Env} {s : State} {m : MethodId} {args : Array Value} {below : List Frame} {meth : Method} {c : Code} {G : Gx} {ad : Ad} {res : Int32 × Sg} (C : Cx p s m args meth c yX8_goalOf.cls cX8_goalOf 7 (Option.some FieldType.int) G)  : ∀ (σ : Sg) (v1 : Int32) (v100 : Int32) (H : Heap) (locs : List Loc) (ls : Array Slot), z_S 1 G ad σ (z_A 1 ad s.heap.size) s.heap H locs → lv_has ls 7 [(0, .ref (ad 8 0)), (1, .int v1)] → f_X8_goalOf_22  σ v1 v100 = some res → W p l e { frames := 2, cells := 0, slots := 0, locals := 45 } s m args below meth c H locs 0 0 (MQ below (va_Qi (S := Unit) (fun r1 _ => r1 = res.1) (fun _ t => z_W 1 G ad res.2 t.heap) (z_A 1 ad s.heap.size)) args s 0 0 (z_A 1 ad s.heap.size)) (F0 m 22 ls [.int v100]) := by
  intro σ v1 v100 H locs ls S hl  hf
  unfold f_X8_goalOf_22 at hf
  refine lv_istore_n (lv' := [(2, .int v100), (0, .ref (ad 8 0)), (1, .int v1)]) C.1 C.2.1 dX8_goalOf_22 rfl hl (by decide) rfl (fun ls hl => ?_)
  refine lv_iconst (v := (-1)) C.1 C.2.1 dX8_goalOf_23 (by decide) ?_
  refine lv_istore_n (lv' := [(3, .int (-1)), (2, .int v100), (0, .ref (ad 8 0)), (1, .int v1)]) C.1 C.2.1 dX8_goalOf_24 rfl hl (by decide) rfl (fun ls hl => ?_)
  refine lv_iconst (v := 0) C.1 C.2.1 dX8_goalOf_25 (by decide) ?_
  refine lv_istore (lv' := [(4, .int 0), (3, .int (-1)), (2, .int v100), (0, .ref (ad 8 0)), (1, .int v1)]) C.1 C.2.1 dX8_goalOf_26 hl (by decide) rfl (fun ls hl => ?_)
  exact w_X8_goalOf_28 C FU _ v1 v100 (-1) 0 _ _ _ S (lv_sub hl [3, 4, 2, 1, 0] rfl) hf
set_option maxHeartbeats 4000000 in
set_option maxRecDepth 100000 in
theorem w_X8_goalOf_0 {p : Program} {l : Launch} {e : Env} {s : State} {m : MethodId} {args : Array Value} {below : List Frame} {meth : Method} {c : Code} {G : Gx} {ad : Ad} {res : Int32 × Sg} (C : Cx p s m args meth c yX8_goalOf.cls cX8_goalOf 7 (Option.some FieldType.int) G)  : ∀ (σ : Sg) (v1 : Int32) (H : Heap) (locs : List Loc) (ls : Array Slot), z_S 1 G ad σ (z_A 1 ad s.heap.size) s.heap H locs → lv_has ls 7 [(0, .ref (ad 8 0)), (1, .int v1)] → f_X8_goalOf  σ v1 = some res → W p l e { frames := 2, cells := 0, slots := 0, locals := 45 } s m args below meth c H locs 0 0 (MQ below (va_Qi (S := Unit) (fun r1 _ => r1 = res.1) (fun _ t => z_W 1 G ad res.2 t.heap) (z_A 1 ad s.heap.size)) args s 0 0 (z_A 1 ad s.heap.size)) (F0 m 0 ls []) := by
  intro σ v1 H locs ls S hl  hf
  unfold f_X8_goalOf at hf
  refine lv_aload_n C.1 C.2.1 dX8_goalOf_0 rfl (lv_at hl 0 rfl) ?_
  refine lv_iload_n C.1 C.2.1 dX8_goalOf_1 rfl (lv_at hl 1 rfl) ?_
  obtain ⟨r2, σ1, q_2, hf⟩ := bib hf
  refine z_callI C S 8 0 rfl (by decide) cf_8 ⟨_, rfl⟩ [.int v1] (m_X8_aboardMany l G ad σ v1 r2 σ1 q_2 _) kv_X8_aboardMany tw_7_79 ⟨Nat.le_of_ble_eq_true rfl, Nat.le_of_ble_eq_true rfl⟩ rfl rfl (Nat.le_of_ble_eq_true rfl) hl.1 ⟨Nat.le_of_ble_eq_true rfl, Nat.le_of_ble_eq_true rfl⟩ dX8_goalOf_2 (fun H locs S => ?_)
  refine lv_aload_n C.1 C.2.1 dX8_goalOf_5 rfl (lv_at hl 0 rfl) ?_
  refine z_getR C S 8 0 rfl (by decide) cf_8 0 (by decide) _ (gr_8_0 G ad 0) tw_6_118 dX8_goalOf_6 ?_
  refine lv_bipush (v := 27) C.1 C.2.1 dX8_goalOf_9 (by decide) ?_
  refine lv_iload_n C.1 C.2.1 dX8_goalOf_11 rfl (lv_at hl 1 rfl) ?_
  refine lv_iadd C.1 C.2.1 dX8_goalOf_12 ?_
  obtain ⟨g_13, hf⟩ := gd hf
  refine z_iald C S 30 0 rfl (by decide) 2111 (fun _ => rfl) g_13 dX8_goalOf_13 ?_
  refine lv_icmp_ge (tgt := 21) C.1 C.2.1 dX8_goalOf_14 (by decide) (fun c_14 => ?_) (fun c_14 => ?_)
  · rw [if_pos c_14] at hf
    refine lv_iconst (v := 0) C.1 C.2.1 dX8_goalOf_21 (by decide) ?_
    exact w_X8_goalOf_22 C _ v1 0 _ _ _ S (lv_sub hl [0, 1] rfl) hf
  · rw [if_neg c_14] at hf
    refine lv_iconst (v := 1) C.1 C.2.1 dX8_goalOf_17 (by decide) ?_
    refine lv_goto (tgt := 22) C.1 C.2.1 dX8_goalOf_18 (by decide) ?_
    exact w_X8_goalOf_22 C _ v1 1 _ _ _ S (lv_sub hl [0, 1] rfl) hf
theorem kv_X8_goalOf : KV yX8_goalOf cX8_goalOf 7 (Option.some FieldType.int) 1 := ⟨tw_7_157, tw_7_156, tw_p_71, tw_1_10, by decide, by decide, by decide +kernel⟩
theorem m_X8_goalOf (l : Launch) (G : Gx) (ad : Ad) (σ : Sg) (v1 : Int32) (r : Int32) (σ' : Sg)  (hf : f_X8_goalOf σ v1 = some (r, σ')) (sz : Nat) : z_MI l yX8_goalOf cX8_goalOf 7 (Option.some FieldType.int) 2 45 1 G ad σ sz [.ref (ad 8 0), .int v1] r σ' := by
  refine z_begin (by decide +kernel) (Nat.le_of_ble_eq_true rfl) [(0, .ref (ad 8 0)), (1, .int v1)] rfl (fun p e s m args below meth c ls C hz S hl => ?_)
  subst hz
  exact w_X8_goalOf_0 (res := (r, σ')) C σ v1 _ _ _ S hl  hf

theorem dX8_goal_0 : decode cX8_goal 0 = .ok (.aload_n 0, 1) := by decide +kernel
theorem dX8_goal_1 : decode cX8_goal 1 = .ok (.iload_n 1, 1) := by decide +kernel
theorem dX8_goal_2 : decode cX8_goal 2 = .ok (.invokevirtual 271, 3) := by decide +kernel
theorem dX8_goal_5 : decode cX8_goal 5 = .ok (.ifCond .eq 7, 3) := by decide +kernel
theorem dX8_goal_8 : decode cX8_goal 8 = .ok (.iconst 0, 1) := by decide +kernel
theorem dX8_goal_9 : decode cX8_goal 9 = .ok (.goto 8, 3) := by decide +kernel
theorem dX8_goal_12 : decode cX8_goal 12 = .ok (.aload_n 0, 1) := by decide +kernel
theorem dX8_goal_13 : decode cX8_goal 13 = .ok (.iload_n 1, 1) := by decide +kernel
theorem dX8_goal_14 : decode cX8_goal 14 = .ok (.invokevirtual 135, 3) := by decide +kernel
theorem dX8_goal_17 : decode cX8_goal 17 = .ok (.ireturn, 1) := by decide +kernel
/-! BusLiftsModel.goal(I)I -/
noncomputable def f_X8_goal_17  (σ : Sg) (v100 : Int32) : Option (Int32 × Sg) := some (v100, σ)
noncomputable def f_X8_goal  (σ : Sg) (v1 : Int32) : Option (Int32 × Sg) := bi (f_X8_noCar σ v1) fun r2 σ1 => (if r2 = 0 then (bi (f_X8_goalOf σ1 v1) fun r4 σ3 => (f_X8_goal_17 σ3 r4)) else (f_X8_goal_17 σ1 0))
set_option maxHeartbeats 4000000 in
set_option maxRecDepth 100000 in
theorem w_X8_goal_17 {p : Program} {l : Launch} {e : Env} {s : State} {m : MethodId} {args : Array Value} {below : List Frame} {meth : Method} {c : Code} {G : Gx} {ad : Ad} {res : Int32 × Sg} (C : Cx p s m args meth c yX8_goal.cls cX8_goal 2 (Option.some FieldType.int) G)  : ∀ (σ : Sg) (v100 : Int32) (H : Heap) (locs : List Loc) (ls : Array Slot), z_S 1 G ad σ (z_A 1 ad s.heap.size) s.heap H locs → lv_has ls 2 [] → f_X8_goal_17  σ v100 = some res → W p l e { frames := 3, cells := 0, slots := 0, locals := 71 } s m args below meth c H locs 0 0 (MQ below (va_Qi (S := Unit) (fun r1 _ => r1 = res.1) (fun _ t => z_W 1 G ad res.2 t.heap) (z_A 1 ad s.heap.size)) args s 0 0 (z_A 1 ad s.heap.size)) (F0 m 17 ls [.int v100]) := by
  intro σ v100 H locs ls S hl  hf
  unfold f_X8_goal_17 at hf
  exact z_iret C S hf dX8_goal_17
set_option maxHeartbeats 4000000 in
set_option maxRecDepth 100000 in
theorem w_X8_goal_0 {p : Program} {l : Launch} {e : Env} {s : State} {m : MethodId} {args : Array Value} {below : List Frame} {meth : Method} {c : Code} {G : Gx} {ad : Ad} {res : Int32 × Sg} (C : Cx p s m args meth c yX8_goal.cls cX8_goal 2 (Option.some FieldType.int) G)  : ∀ (σ : Sg) (v1 : Int32) (H : Heap) (locs : List Loc) (ls : Array Slot), z_S 1 G ad σ (z_A 1 ad s.heap.size) s.heap H locs → lv_has ls 2 [(0, .ref (ad 8 0)), (1, .int v1)] → f_X8_goal  σ v1 = some res → W p l e { frames := 3, cells := 0, slots := 0, locals := 71 } s m args below meth c H locs 0 0 (MQ below (va_Qi (S := Unit) (fun r1 _ => r1 = res.1) (fun _ t => z_W 1 G ad res.2 t.heap) (z_A 1 ad s.heap.size)) args s 0 0 (z_A 1 ad s.heap.size)) (F0 m 0 ls []) := by
  intro σ v1 H locs ls S hl  hf
  unfold f_X8_goal at hf
  refine lv_aload_n C.1 C.2.1 dX8_goal_0 rfl (lv_at hl 0 rfl) ?_
  refine lv_iload_n C.1 C.2.1 dX8_goal_1 rfl (lv_at hl 1 rfl) ?_
  obtain ⟨r2, σ1, q_2, hf⟩ := bib hf
  refine z_callI C S 8 0 rfl (by decide) cf_8 ⟨_, rfl⟩ [.int v1] (m_X8_noCar l G ad σ v1 r2 σ1 q_2 _) kv_X8_noCar tw_7_68 ⟨Nat.le_of_ble_eq_true rfl, Nat.le_of_ble_eq_true rfl⟩ rfl rfl (Nat.le_of_ble_eq_true rfl) hl.1 ⟨Nat.le_of_ble_eq_true rfl, Nat.le_of_ble_eq_true rfl⟩ dX8_goal_2 (fun H locs S => ?_)
  refine lv_if_eq (tgt := 12) C.1 C.2.1 dX8_goal_5 (by decide) (fun c_5 => ?_) (fun c_5 => ?_)
  · rw [if_pos c_5] at hf
    refine lv_aload_n C.1 C.2.1 dX8_goal_12 rfl (lv_at hl 0 rfl) ?_
    refine lv_iload_n C.1 C.2.1 dX8_goal_13 rfl (lv_at hl 1 rfl) ?_
    obtain ⟨r4, σ3, q_14, hf⟩ := bib hf
    refine z_callI C S 8 0 rfl (by decide) cf_8 ⟨_, rfl⟩ [.int v1] (m_X8_goalOf l G ad σ1 v1 r4 σ3 q_14 _) kv_X8_goalOf tw_7_154 ⟨Nat.le_of_ble_eq_true rfl, Nat.le_of_ble_eq_true rfl⟩ rfl rfl (Nat.le_of_ble_eq_true rfl) hl.1 ⟨Nat.le_of_ble_eq_true rfl, Nat.le_of_ble_eq_true rfl⟩ dX8_goal_14 (fun H locs S => ?_)
    exact w_X8_goal_17 C _ r4 _ _ _ S (lv_sub hl [] rfl) hf
  · rw [if_neg c_5] at hf
    refine lv_iconst (v := 0) C.1 C.2.1 dX8_goal_8 (by decide) ?_
    refine lv_goto (tgt := 17) C.1 C.2.1 dX8_goal_9 (by decide) ?_
    exact w_X8_goal_17 C _ 0 _ _ _ S (lv_sub hl [] rfl) hf
theorem kv_X8_goal : KV yX8_goal cX8_goal 2 (Option.some FieldType.int) 1 := ⟨tw_7_153, tw_7_151, tw_7_152, tw_1_10, by decide, by decide, by decide +kernel⟩
theorem m_X8_goal (l : Launch) (G : Gx) (ad : Ad) (σ : Sg) (v1 : Int32) (r : Int32) (σ' : Sg)  (hf : f_X8_goal σ v1 = some (r, σ')) (sz : Nat) : z_MI l yX8_goal cX8_goal 2 (Option.some FieldType.int) 3 71 1 G ad σ sz [.ref (ad 8 0), .int v1] r σ' := by
  refine z_begin (by decide +kernel) (Nat.le_of_ble_eq_true rfl) [(0, .ref (ad 8 0)), (1, .int v1)] rfl (fun p e s m args below meth c ls C hz S hl => ?_)
  subst hz
  exact w_X8_goal_0 (res := (r, σ')) C σ v1 _ _ _ S hl  hf

theorem dX8_messages_0 : decode cX8_messages 0 = .ok (.aload_n 0, 1) := by decide +kernel
theorem dX8_messages_1 : decode cX8_messages 1 = .ok (.iconst 0, 1) := by decide +kernel
theorem dX8_messages_2 : decode cX8_messages 2 = .ok (.putfield 48, 3) := by decide +kernel
theorem dX8_messages_5 : decode cX8_messages 5 = .ok (.aload_n 0, 1) := by decide +kernel
theorem dX8_messages_6 : decode cX8_messages 6 = .ok (.iload_n 1, 1) := by decide +kernel
theorem dX8_messages_7 : decode cX8_messages 7 = .ok (.iconst (-1), 1) := by decide +kernel
theorem dX8_messages_8 : decode cX8_messages 8 = .ok (.iconst 3, 1) := by decide +kernel
theorem dX8_messages_9 : decode cX8_messages 9 = .ok (.invokestatic 165, 3) := by decide +kernel
theorem dX8_messages_12 : decode cX8_messages 12 = .ok (.ifCond .ne 7, 3) := by decide +kernel
theorem dX8_messages_15 : decode cX8_messages 15 = .ok (.iconst 1, 1) := by decide +kernel
theorem dX8_messages_16 : decode cX8_messages 16 = .ok (.goto 4, 3) := by decide +kernel
theorem dX8_messages_19 : decode cX8_messages 19 = .ok (.iconst 0, 1) := by decide +kernel
theorem dX8_messages_20 : decode cX8_messages 20 = .ok (.iconst 1, 1) := by decide +kernel
theorem dX8_messages_21 : decode cX8_messages 21 = .ok (.invokevirtual 267, 3) := by decide +kernel
theorem dX8_messages_24 : decode cX8_messages 24 = .ok (.ifCond .eq 5, 3) := by decide +kernel
theorem dX8_messages_27 : decode cX8_messages 27 = .ok (.iconst 0, 1) := by decide +kernel
theorem dX8_messages_28 : decode cX8_messages 28 = .ok (.ireturn, 1) := by decide +kernel
theorem dX8_messages_29 : decode cX8_messages 29 = .ok (.iconst 0, 1) := by decide +kernel
theorem dX8_messages_30 : decode cX8_messages 30 = .ok (.istore_n 3, 1) := by decide +kernel
theorem dX8_messages_31 : decode cX8_messages 31 = .ok (.iconst 0, 1) := by decide +kernel
theorem dX8_messages_32 : decode cX8_messages 32 = .ok (.istore 4, 2) := by decide +kernel
theorem dX8_messages_34 : decode cX8_messages 34 = .ok (.iload 4, 2) := by decide +kernel
theorem dX8_messages_36 : decode cX8_messages 36 = .ok (.iconst 4, 1) := by decide +kernel
theorem dX8_messages_37 : decode cX8_messages 37 = .ok (.if_icmp .ge 46, 3) := by decide +kernel
theorem dX8_messages_40 : decode cX8_messages 40 = .ok (.iload_n 3, 1) := by decide +kernel
theorem dX8_messages_41 : decode cX8_messages 41 = .ok (.iload_n 1, 1) := by decide +kernel
theorem dX8_messages_42 : decode cX8_messages 42 = .ok (.iconst (-1), 1) := by decide +kernel
theorem dX8_messages_43 : decode cX8_messages 43 = .ok (.if_icmp .eq 9, 3) := by decide +kernel
theorem dX8_messages_46 : decode cX8_messages 46 = .ok (.iload_n 1, 1) := by decide +kernel
theorem dX8_messages_47 : decode cX8_messages 47 = .ok (.iload 4, 2) := by decide +kernel
theorem dX8_messages_49 : decode cX8_messages 49 = .ok (.if_icmp .ne 25, 3) := by decide +kernel
theorem dX8_messages_52 : decode cX8_messages 52 = .ok (.aload_n 0, 1) := by decide +kernel
theorem dX8_messages_53 : decode cX8_messages 53 = .ok (.getfield 7, 3) := by decide +kernel
theorem dX8_messages_56 : decode cX8_messages 56 = .ok (.iload_n 2, 1) := by decide +kernel
theorem dX8_messages_57 : decode cX8_messages 57 = .ok (.ifCond .eq 8, 3) := by decide +kernel
theorem dX8_messages_60 : decode cX8_messages 60 = .ok (.bipush 15, 2) := by decide +kernel
theorem dX8_messages_62 : decode cX8_messages 62 = .ok (.goto 5, 3) := by decide +kernel
theorem dX8_messages_65 : decode cX8_messages 65 = .ok (.bipush 11, 2) := by decide +kernel
theorem dX8_messages_67 : decode cX8_messages 67 = .ok (.iload 4, 2) := by decide +kernel
theorem dX8_messages_69 : decode cX8_messages 69 = .ok (.iadd, 1) := by decide +kernel
theorem dX8_messages_70 : decode cX8_messages 70 = .ok (.iaload, 1) := by decide +kernel
theorem dX8_messages_71 : decode cX8_messages 71 = .ok (.goto 4, 3) := by decide +kernel
theorem dX8_messages_74 : decode cX8_messages 74 = .ok (.iconst 0, 1) := by decide +kernel
theorem dX8_messages_75 : decode cX8_messages 75 = .ok (.iadd, 1) := by decide +kernel
theorem dX8_messages_76 : decode cX8_messages 76 = .ok (.istore_n 3, 1) := by decide +kernel
theorem dX8_messages_77 : decode cX8_messages 77 = .ok (.iinc 4 1, 3) := by decide +kernel
theorem dX8_messages_80 : decode cX8_messages 80 = .ok (.goto (-46), 3) := by decide +kernel
theorem dX8_messages_83 : decode cX8_messages 83 = .ok (.iload_n 3, 1) := by decide +kernel
theorem dX8_messages_84 : decode cX8_messages 84 = .ok (.ireturn, 1) := by decide +kernel
/-! BusLiftsModel.messages(IZ)I -/
noncomputable def f_X8_messages_83  (σ : Sg) (v3 : Int32) : Option (Int32 × Sg) := some (v3, σ)
noncomputable def f_X8_messages_75 (k34 : Sg → Int32 → Int32 → Int32 → Int32 → Option (Int32 × Sg)) (σ : Sg) (v1 : Int32) (v2 : Int32) (v4 : Int32) (v100 : Int32) (v101 : Int32) : Option (Int32 × Sg) := k34 σ v1 v2 (v100 + v101) (v4 + 1)
noncomputable def f_X8_messages_67 (k34 : Sg → Int32 → Int32 → Int32 → Int32 → Option (Int32 × Sg)) (σ : Sg) (v1 : Int32) (v2 : Int32) (v4 : Int32) (v100 : Int32) (v102 : Int32) : Option (Int32 × Sg) := if (v102 + v4) < 0 ∨ 2111 ≤ ((v102 + v4)).toNatClampNeg then none else (f_X8_messages_75 k34 σ v1 v2 v4 v100 (σ 30 0 ((v102 + v4)).toNatClampNeg))
noncomputable def f_X8_messages_52 (k34 : Sg → Int32 → Int32 → Int32 → Int32 → Option (Int32 × Sg)) (σ : Sg) (v1 : Int32) (v2 : Int32) (v4 : Int32) (v100 : Int32) : Option (Int32 × Sg) := if v2 = 0 then (f_X8_messages_67 k34 σ v1 v2 v4 v100 11) else (f_X8_messages_67 k34 σ v1 v2 v4 v100 15)
noncomputable def f_X8_messages_34  : Nat → Sg → Int32 → Int32 → Int32 → Int32 → Option (Int32 × Sg)
  | 0, _, _, _, _, _ => none
  | n + 1, σ, v1, v2, v3, v4 => if 4 ≤ v4 then (f_X8_messages_83 σ v3) else (if v1 = (-1) then (f_X8_messages_52 (f_X8_messages_34 n) σ v1 v2 v4 v3) else (if v1 = v4 then (f_X8_messages_52 (f_X8_messages_34 n) σ v1 v2 v4 v3) else (f_X8_messages_75 (f_X8_messages_34 n) σ v1 v2 v4 v3 0)))
theorem f_X8_messages_34_s  (n : Nat) (σ : Sg) (v1 : Int32) (v2 : Int32) (v3 : Int32) (v4 : Int32) : f_X8_messages_34  (n + 1) σ v1 v2 v3 v4 = (if 4 ≤ v4 then (f_X8_messages_83 σ v3) else (if v1 = (-1) then (f_X8_messages_52 (f_X8_messages_34 n) σ v1 v2 v4 v3) else (if v1 = v4 then (f_X8_messages_52 (f_X8_messages_34 n) σ v1 v2 v4 v3) else (f_X8_messages_75 (f_X8_messages_34 n) σ v1 v2 v4 v3 0)))) := rfl
noncomputable def f_X8_messages_20  (σ : Sg) (v1 : Int32) (v2 : Int32) (v101 : Int32) : Option (Int32 × Sg) := bi (f_X8_fails σ v101 1) fun r2 σ1 => (if r2 = 0 then (f_X8_messages_34 FU σ1 v1 v2 0 0) else (some (0, σ1)))
noncomputable def f_X8_messages  (σ : Sg) (v1 : Int32) (v2 : Int32) : Option (Int32 × Sg) := st (sup σ 8 0 8 0) fun σ1 => (bi (f_X8_inRange σ1 v1 (-1) 3) fun r3 σ2 => (if r3 = 0 then (f_X8_messages_20 σ2 v1 v2 1) else (f_X8_messages_20 σ2 v1 v2 0)))
set_option maxHeartbeats 4000000 in
set_option maxRecDepth 100000 in
theorem w_X8_messages_83 {p : Program} {l : Launch} {e : Env} {s : State} {m : MethodId} {args : Array Value} {below : List Frame} {meth : Method} {c : Code} {G : Gx} {ad : Ad} {res : Int32 × Sg} (C : Cx p s m args meth c yX8_messages.cls cX8_messages 5 (Option.some FieldType.int) G)  : ∀ (σ : Sg) (v3 : Int32) (H : Heap) (locs : List Loc) (ls : Array Slot), z_S 1 G ad σ (z_A 1 ad s.heap.size) s.heap H locs → lv_has ls 5 [(3, .int v3)] → f_X8_messages_83  σ v3 = some res → W p l e { frames := 1, cells := 0, slots := 0, locals := 22 } s m args below meth c H locs 0 0 (MQ below (va_Qi (S := Unit) (fun r1 _ => r1 = res.1) (fun _ t => z_W 1 G ad res.2 t.heap) (z_A 1 ad s.heap.size)) args s 0 0 (z_A 1 ad s.heap.size)) (F0 m 83 ls []) := by
  intro σ v3 H locs ls S hl  hf
  unfold f_X8_messages_83 at hf
  refine lv_iload_n C.1 C.2.1 dX8_messages_83 rfl (lv_at hl 0 rfl) ?_
  exact z_iret C S hf dX8_messages_84
set_option maxHeartbeats 4000000 in
set_option maxRecDepth 100000 in
theorem w_X8_messages_75 {p : Program} {l : Launch} {e : Env} {s : State} {m : MethodId} {args : Array Value} {below : List Frame} {meth : Method} {c : Code} {G : Gx} {ad : Ad} {res : Int32 × Sg} (C : Cx p s m args meth c yX8_messages.cls cX8_messages 5 (Option.some FieldType.int) G) (k34 : Sg → Int32 → Int32 → Int32 → Int32 → Option (Int32 × Sg)) (hk34 : ∀ (σ : Sg) (v1 : Int32) (v2 : Int32) (v3 : Int32) (v4 : Int32) (H : Heap) (locs : List Loc) (ls : Array Slot), z_S 1 G ad σ (z_A 1 ad s.heap.size) s.heap H locs → lv_has ls 5 [(0, .ref (ad 8 0)), (1, .int v1), (2, .int v2), (3, .int v3), (4, .int v4)] → k34 σ v1 v2 v3 v4 = some res → W p l e { frames := 1, cells := 0, slots := 0, locals := 22 } s m args below meth c H locs 0 0 (MQ below (va_Qi (S := Unit) (fun r1 _ => r1 = res.1) (fun _ t => z_W 1 G ad res.2 t.heap) (z_A 1 ad s.heap.size)) args s 0 0 (z_A 1 ad s.heap.size)) (F0 m 34 ls [])) : ∀ (σ : Sg) (v1 : Int32) (v2 : Int32) (v4 : Int32) (v100 : Int32) (v101 : Int32) (H : Heap) (locs : List Loc) (ls : Array Slot), z_S 1 G ad σ (z_A 1 ad s.heap.size) s.heap H locs → lv_has ls 5 [(0, .ref (ad 8 0)), (1, .int v1), (2, .int v2), (4, .int v4)] → f_X8_messages_75 k34 σ v1 v2 v4 v100 v101 = some res → W p l e { frames := 1, cells := 0, slots := 0, locals := 22 } s m args below meth c H locs 0 0 (MQ below (va_Qi (S := Unit) (fun r1 _ => r1 = res.1) (fun _ t => z_W 1 G ad res.2 t.heap) (z_A 1 ad s.heap.size)) args s 0 0 (z_A 1 ad s.heap.size)) (F0 m 75 ls [.int v101, .int v100]) := by
  intro σ v1 v2 v4 v100 v101 H locs ls S hl  hf
  unfold f_X8_messages_75 at hf
  refine lv_iadd C.1 C.2.1 dX8_messages_75 ?_
  refine lv_istore_n (lv' := [(3, .int (v100 + v101)), (0, .ref (ad 8 0)), (1, .int v1), (2, .int v2), (4, .int v4)]) C.1 C.2.1 dX8_messages_76 rfl hl (by decide) rfl (fun ls hl => ?_)
  refine lv_iinc (v := (v4 + 1)) (lv' := [(4, .int (v4 + 1)), (3, .int (v100 + v101)), (0, .ref (ad 8 0)), (1, .int v1), (2, .int v2)]) C.1 C.2.1 dX8_messages_77 hl (k := 4) rfl rfl (by decide) rfl (fun ls hl => ?_)
  refine lv_goto (tgt := 34) C.1 C.2.1 dX8_messages_80 (by decide) ?_
  exact hk34 _ v1 v2 (v100 + v101) (v4 + 1) _ _ _ S (lv_sub hl [2, 3, 4, 1, 0] rfl)  hf
set_option maxHeartbeats 4000000 in
set_option maxRecDepth 100000 in
theorem w_X8_messages_67 {p : Program} {l : Launch} {e : Env} {s : State} {m : MethodId} {args : Array Value} {below : List Frame} {meth : Method} {c : Code} {G : Gx} {ad : Ad} {res : Int32 × Sg} (C : Cx p s m args meth c yX8_messages.cls cX8_messages 5 (Option.some FieldType.int) G) (k34 : Sg → Int32 → Int32 → Int32 → Int32 → Option (Int32 × Sg)) (hk34 : ∀ (σ : Sg) (v1 : Int32) (v2 : Int32) (v3 : Int32) (v4 : Int32) (H : Heap) (locs : List Loc) (ls : Array Slot), z_S 1 G ad σ (z_A 1 ad s.heap.size) s.heap H locs → lv_has ls 5 [(0, .ref (ad 8 0)), (1, .int v1), (2, .int v2), (3, .int v3), (4, .int v4)] → k34 σ v1 v2 v3 v4 = some res → W p l e { frames := 1, cells := 0, slots := 0, locals := 22 } s m args below meth c H locs 0 0 (MQ below (va_Qi (S := Unit) (fun r1 _ => r1 = res.1) (fun _ t => z_W 1 G ad res.2 t.heap) (z_A 1 ad s.heap.size)) args s 0 0 (z_A 1 ad s.heap.size)) (F0 m 34 ls [])) : ∀ (σ : Sg) (v1 : Int32) (v2 : Int32) (v4 : Int32) (v100 : Int32) (v102 : Int32) (H : Heap) (locs : List Loc) (ls : Array Slot), z_S 1 G ad σ (z_A 1 ad s.heap.size) s.heap H locs → lv_has ls 5 [(0, .ref (ad 8 0)), (1, .int v1), (2, .int v2), (4, .int v4)] → f_X8_messages_67 k34 σ v1 v2 v4 v100 v102 = some res → W p l e { frames := 1, cells := 0, slots := 0, locals := 22 } s m args below meth c H locs 0 0 (MQ below (va_Qi (S := Unit) (fun r1 _ => r1 = res.1) (fun _ t => z_W 1 G ad res.2 t.heap) (z_A 1 ad s.heap.size)) args s 0 0 (z_A 1 ad s.heap.size)) (F0 m 67 ls [.int v102, .ref (ad 30 0), .int v100]) := by
  intro σ v1 v2 v4 v100 v102 H locs ls S hl  hf
  unfold f_X8_messages_67 at hf
  refine lv_iload C.1 C.2.1 dX8_messages_67 (lv_at hl 3 rfl) ?_
  refine lv_iadd C.1 C.2.1 dX8_messages_69 ?_
  obtain ⟨g_70, hf⟩ := gd hf
  refine z_iald C S 30 0 rfl (by decide) 2111 (fun _ => rfl) g_70 dX8_messages_70 ?_
  refine lv_goto (tgt := 75) C.1 C.2.1 dX8_messages_71 (by decide) ?_
  exact w_X8_messages_75 C k34 hk34 _ v1 v2 v4 v100 (σ 30 0 ((v102 + v4)).toNatClampNeg) _ _ _ S (lv_sub hl [0, 1, 2, 3] rfl) hf
set_option maxHeartbeats 4000000 in
set_option maxRecDepth 100000 in
theorem w_X8_messages_52 {p : Program} {l : Launch} {e : Env} {s : State} {m : MethodId} {args : Array Value} {below : List Frame} {meth : Method} {c : Code} {G : Gx} {ad : Ad} {res : Int32 × Sg} (C : Cx p s m args meth c yX8_messages.cls cX8_messages 5 (Option.some FieldType.int) G) (k34 : Sg → Int32 → Int32 → Int32 → Int32 → Option (Int32 × Sg)) (hk34 : ∀ (σ : Sg) (v1 : Int32) (v2 : Int32) (v3 : Int32) (v4 : Int32) (H : Heap) (locs : List Loc) (ls : Array Slot), z_S 1 G ad σ (z_A 1 ad s.heap.size) s.heap H locs → lv_has ls 5 [(0, .ref (ad 8 0)), (1, .int v1), (2, .int v2), (3, .int v3), (4, .int v4)] → k34 σ v1 v2 v3 v4 = some res → W p l e { frames := 1, cells := 0, slots := 0, locals := 22 } s m args below meth c H locs 0 0 (MQ below (va_Qi (S := Unit) (fun r1 _ => r1 = res.1) (fun _ t => z_W 1 G ad res.2 t.heap) (z_A 1 ad s.heap.size)) args s 0 0 (z_A 1 ad s.heap.size)) (F0 m 34 ls [])) : ∀ (σ : Sg) (v1 : Int32) (v2 : Int32) (v4 : Int32) (v100 : Int32) (H : Heap) (locs : List Loc) (ls : Array Slot), z_S 1 G ad σ (z_A 1 ad s.heap.size) s.heap H locs → lv_has ls 5 [(0, .ref (ad 8 0)), (1, .int v1), (2, .int v2), (4, .int v4)] → f_X8_messages_52 k34 σ v1 v2 v4 v100 = some res → W p l e { frames := 1, cells := 0, slots := 0, locals := 22 } s m args below meth c H locs 0 0 (MQ below (va_Qi (S := Unit) (fun r1 _ => r1 = res.1) (fun _ t => z_W 1 G ad res.2 t.heap) (z_A 1 ad s.heap.size)) args s 0 0 (z_A 1 ad s.heap.size)) (F0 m 52 ls [.int v100]) := by
  intro σ v1 v2 v4 v100 H locs ls S hl  hf
  unfold f_X8_messages_52 at hf
  refine lv_aload_n C.1 C.2.1 dX8_messages_52 rfl (lv_at hl 0 rfl) ?_
  refine z_getR C S 8 0 rfl (by decide) cf_8 0 (by decide) _ (gr_8_0 G ad 0) tw_6_118 dX8_messages_53 ?_
  refine lv_iload_n C.1 C.2.1 dX8_messages_56 rfl (lv_at hl 2 rfl) ?_
  refine lv_if_eq (tgt := 65) C.1 C.2.1 dX8_messages_57 (by decide) (fun c_57 => ?_) (fun c_57 => ?_)
  · rw [if_pos c_57] at hf
    refine lv_bipush (v := 11) C.1 C.2.1 dX8_messages_65 (by decide) ?_
    exact w_X8_messages_67 C k34 hk34 _ v1 v2 v4 v100 11 _ _ _ S (lv_sub hl [0, 1, 2, 3] rfl) hf
  · rw [if_neg c_57] at hf
    refine lv_bipush (v := 15) C.1 C.2.1 dX8_messages_60 (by decide) ?_
    refine lv_goto (tgt := 67) C.1 C.2.1 dX8_messages_62 (by decide) ?_
    exact w_X8_messages_67 C k34 hk34 _ v1 v2 v4 v100 15 _ _ _ S (lv_sub hl [0, 1, 2, 3] rfl) hf
set_option maxHeartbeats 4000000 in
set_option maxRecDepth 100000 in
theorem w_X8_messages_34 {p : Program} {l : Launch} {e : Env} {s : State} {m : MethodId} {args : Array Value} {below : List Frame} {meth : Method} {c : Code} {G : Gx} {ad : Ad} {res : Int32 × Sg} (C : Cx p s m args meth c yX8_messages.cls cX8_messages 5 (Option.some FieldType.int) G)  : ∀ n : Nat, ∀ (σ : Sg) (v1 : Int32) (v2 : Int32) (v3 : Int32) (v4 : Int32) (H : Heap) (locs : List Loc) (ls : Array Slot), z_S 1 G ad σ (z_A 1 ad s.heap.size) s.heap H locs → lv_has ls 5 [(0, .ref (ad 8 0)), (1, .int v1), (2, .int v2), (3, .int v3), (4, .int v4)] → f_X8_messages_34  n σ v1 v2 v3 v4 = some res → W p l e { frames := 1, cells := 0, slots := 0, locals := 22 } s m args below meth c H locs 0 0 (MQ below (va_Qi (S := Unit) (fun r1 _ => r1 = res.1) (fun _ t => z_W 1 G ad res.2 t.heap) (z_A 1 ad s.heap.size)) args s 0 0 (z_A 1 ad s.heap.size)) (F0 m 34 ls []) := by
  intro n
  induction n with
  | zero => intro σ v1 v2 v3 v4 H locs ls S hl  hf; cases hf
  | succ n ih =>
    intro σ v1 v2 v3 v4 H locs ls S hl  hf
    rw [f_X8_messages_34_s] at hf
    refine lv_iload C.1 C.2.1 dX8_messages_34 (lv_at hl 4 rfl) ?_
    refine lv_iconst (v := 4) C.1 C.2.1 dX8_messages_36 (by decide) ?_
    refine lv_icmp_ge (tgt := 83) C.1 C.2.1 dX8_messages_37 (by decide) (fun c_37 => ?_) (fun c_37 => ?_)
    · rw [if_pos c_37] at hf
      exact w_X8_messages_83 C _ v3 _ _ _ S (lv_sub hl [3] rfl) hf
    · rw [if_neg c_37] at hf
      refine lv_iload_n C.1 C.2.1 dX8_messages_40 rfl (lv_at hl 3 rfl) ?_
      refine lv_iload_n C.1 C.2.1 dX8_messages_41 rfl (lv_at hl 1 rfl) ?_
      refine lv_iconst (v := (-1)) C.1 C.2.1 dX8_messages_42 (by decide) ?_
      refine lv_icmp_eq (tgt := 52) C.1 C.2.1 dX8_messages_43 (by decide) (fun c_43 => ?_) (fun c_43 => ?_)
      · rw [if_pos c_43] at hf
        exact w_X8_messages_52 C (f_X8_messages_34 n) ih _ v1 v2 v4 v3 _ _ _ S (lv_sub hl [0, 1, 2, 4] rfl) hf
      · rw [if_neg c_43] at hf
        refine lv_iload_n C.1 C.2.1 dX8_messages_46 rfl (lv_at hl 1 rfl) ?_
        refine lv_iload C.1 C.2.1 dX8_messages_47 (lv_at hl 4 rfl) ?_
        refine lv_icmp_ne (tgt := 74) C.1 C.2.1 dX8_messages_49 (by decide) (fun c_49 => ?_) (fun c_49 => ?_)
        · rw [if_neg c_49] at hf
          refine lv_iconst (v := 0) C.1 C.2.1 dX8_messages_74 (by decide) ?_
          exact w_X8_messages_75 C (f_X8_messages_34 n) ih _ v1 v2 v4 v3 0 _ _ _ S (lv_sub hl [0, 1, 2, 4] rfl) hf
        · rw [if_pos c_49] at hf
          exact w_X8_messages_52 C (f_X8_messages_34 n) ih _ v1 v2 v4 v3 _ _ _ S (lv_sub hl [0, 1, 2, 4] rfl) hf
set_option maxHeartbeats 4000000 in
set_option maxRecDepth 100000 in
theorem w_X8_messages_20 {p : Program} {l : Launch} {e : Env} {s : State} {m : MethodId} {args : Array Value} {below : List Frame} {meth : Method} {c : Code} {G : Gx} {ad : Ad} {res : Int32 × Sg} (C : Cx p s m args meth c yX8_messages.cls cX8_messages 5 (Option.some FieldType.int) G)  : ∀ (σ : Sg) (v1 : Int32) (v2 : Int32) (v101 : Int32) (H : Heap) (locs : List Loc) (ls : Array Slot), z_S 1 G ad σ (z_A 1 ad s.heap.size) s.heap H locs → lv_has ls 5 [(0, .ref (ad 8 0)), (1, .int v1), (2, .int v2)] → f_X8_messages_20  σ v1 v2 v101 = some res → W p l e { frames := 1, cells := 0, slots := 0, locals := 22 } s m args below meth c H locs 0 0 (MQ below (va_Qi (S := Unit) (fun r1 _ => r1 = res.1) (fun _ t => z_W 1 G ad res.2 t.heap) (z_A 1 ad s.heap.size)) args s 0 0 (z_A 1 ad s.heap.size)) (F0 m 20 ls [.int v101, .ref (ad 8 0)]) := by
  intro σ v1 v2 v101 H locs ls S hl  hf
  unfold f_X8_messages_20 at hf
  refine lv_iconst (v := 1) C.1 C.2.1 dX8_messages_20 (by decide) ?_
  obtain ⟨r2, σ1, q_21, hf⟩ := bib hf
  refine z_callI C S 8 0 rfl (by decide) cf_8 ⟨_, rfl⟩ [.int v101, .int 1] (m_X8_fails l G ad σ v101 1 r2 σ1 q_21 _) kv_X8_fails tw_7_56 ⟨Nat.le_of_ble_eq_true rfl, Nat.le_of_ble_eq_true rfl⟩ rfl rfl (Nat.le_of_ble_eq_true rfl) hl.1 ⟨Nat.le_of_ble_eq_true rfl, Nat.le_of_ble_eq_true rfl⟩ dX8_messages_21 (fun H locs S => ?_)
  refine lv_if_eq (tgt := 29) C.1 C.2.1 dX8_messages_24 (by decide) (fun c_24 => ?_) (fun c_24 => ?_)
  · rw [if_pos c_24] at hf
    refine lv_iconst (v := 0) C.1 C.2.1 dX8_messages_29 (by decide) ?_
    refine lv_istore_n (lv' := [(3, .int 0), (0, .ref (ad 8 0)), (1, .int v1), (2, .int v2)]) C.1 C.2.1 dX8_messages_30 rfl hl (by decide) rfl (fun ls hl => ?_)
    refine lv_iconst (v := 0) C.1 C.2.1 dX8_messages_31 (by decide) ?_
    refine lv_istore (lv' := [(4, .int 0), (3, .int 0), (0, .ref (ad 8 0)), (1, .int v1), (2, .int v2)]) C.1 C.2.1 dX8_messages_32 hl (by decide) rfl (fun ls hl => ?_)
    exact w_X8_messages_34 C FU _ v1 v2 0 0 _ _ _ S (lv_sub hl [2, 3, 4, 1, 0] rfl) hf
  · rw [if_neg c_24] at hf
    refine lv_iconst (v := 0) C.1 C.2.1 dX8_messages_27 (by decide) ?_
    exact z_iret C S hf dX8_messages_28
set_option maxHeartbeats 4000000 in
set_option maxRecDepth 100000 in
theorem w_X8_messages_0 {p : Program} {l : Launch} {e : Env} {s : State} {m : MethodId} {args : Array Value} {below : List Frame} {meth : Method} {c : Code} {G : Gx} {ad : Ad} {res : Int32 × Sg} (C : Cx p s m args meth c yX8_messages.cls cX8_messages 5 (Option.some FieldType.int) G)  : ∀ (σ : Sg) (v1 : Int32) (v2 : Int32) (H : Heap) (locs : List Loc) (ls : Array Slot), z_S 1 G ad σ (z_A 1 ad s.heap.size) s.heap H locs → lv_has ls 5 [(0, .ref (ad 8 0)), (1, .int v1), (2, .int v2)] → f_X8_messages  σ v1 v2 = some res → W p l e { frames := 1, cells := 0, slots := 0, locals := 22 } s m args below meth c H locs 0 0 (MQ below (va_Qi (S := Unit) (fun r1 _ => r1 = res.1) (fun _ t => z_W 1 G ad res.2 t.heap) (z_A 1 ad s.heap.size)) args s 0 0 (z_A 1 ad s.heap.size)) (F0 m 0 ls []) := by
  intro σ v1 v2 H locs ls S hl  hf
  unfold f_X8_messages at hf
  refine lv_aload_n C.1 C.2.1 dX8_messages_0 rfl (lv_at hl 0 rfl) ?_
  refine lv_iconst (v := 0) C.1 C.2.1 dX8_messages_1 (by decide) ?_
  obtain ⟨σ1, e_2, hf⟩ := stb hf
  refine z_putI C S 8 0 rfl (by decide) cf_8 8 (by decide) (pi_8_8 G ad 0) rfl rfl rfl tw_6_126 dX8_messages_2 (fun H locs S => ?_)
  rw [← e_2] at S
  refine lv_aload_n C.1 C.2.1 dX8_messages_5 rfl (lv_at hl 0 rfl) ?_
  refine lv_iload_n C.1 C.2.1 dX8_messages_6 rfl (lv_at hl 1 rfl) ?_
  refine lv_iconst (v := (-1)) C.1 C.2.1 dX8_messages_7 (by decide) ?_
  refine lv_iconst (v := 3) C.1 C.2.1 dX8_messages_8 (by decide) ?_
  obtain ⟨r3, σ2, q_9, hf⟩ := bib hf
  refine z_callSI C S [.int v1, .int (-1), .int 3] (m_X8_inRange l G ad σ1 v1 (-1) 3 r3 σ2 q_9 _) kv_X8_inRange tw_6_204 ⟨Nat.le_of_ble_eq_true rfl, Nat.le_of_ble_eq_true rfl⟩ rfl rfl (Nat.le_of_ble_eq_true rfl) hl.1 ⟨Nat.le_of_ble_eq_true rfl, Nat.le_of_ble_eq_true rfl⟩ dX8_messages_9 (fun H locs S => ?_)
  refine lv_if_ne (tgt := 19) C.1 C.2.1 dX8_messages_12 (by decide) (fun c_12 => ?_) (fun c_12 => ?_)
  · rw [if_neg c_12] at hf
    refine lv_iconst (v := 0) C.1 C.2.1 dX8_messages_19 (by decide) ?_
    exact w_X8_messages_20 C _ v1 v2 0 _ _ _ S (lv_sub hl [0, 1, 2] rfl) hf
  · rw [if_pos c_12] at hf
    refine lv_iconst (v := 1) C.1 C.2.1 dX8_messages_15 (by decide) ?_
    refine lv_goto (tgt := 20) C.1 C.2.1 dX8_messages_16 (by decide) ?_
    exact w_X8_messages_20 C _ v1 v2 1 _ _ _ S (lv_sub hl [0, 1, 2] rfl) hf
theorem kv_X8_messages : KV yX8_messages cX8_messages 5 (Option.some FieldType.int) 2 := ⟨tw_7_161, tw_7_159, tw_7_160, tw_1_10, by decide, by decide, by decide +kernel⟩
theorem m_X8_messages (l : Launch) (G : Gx) (ad : Ad) (σ : Sg) (v1 : Int32) (v2 : Int32) (r : Int32) (σ' : Sg)  (hf : f_X8_messages σ v1 v2 = some (r, σ')) (sz : Nat) : z_MI l yX8_messages cX8_messages 5 (Option.some FieldType.int) 1 22 1 G ad σ sz [.ref (ad 8 0), .int v1, .int v2] r σ' := by
  refine z_begin (by decide +kernel) (Nat.le_of_ble_eq_true rfl) [(0, .ref (ad 8 0)), (1, .int v1), (2, .int v2)] rfl (fun p e s m args below meth c ls C hz S hl => ?_)
  subst hz
  exact w_X8_messages_0 (res := (r, σ')) C σ v1 v2 _ _ _ S hl  hf

theorem dX8_hasLost_0 : decode cX8_hasLost 0 = .ok (.aload_n 0, 1) := by decide +kernel
theorem dX8_hasLost_1 : decode cX8_hasLost 1 = .ok (.iload_n 1, 1) := by decide +kernel
theorem dX8_hasLost_2 : decode cX8_hasLost 2 = .ok (.iload_n 2, 1) := by decide +kernel
theorem dX8_hasLost_3 : decode cX8_hasLost 3 = .ok (.invokevirtual 283, 3) := by decide +kernel
theorem dX8_hasLost_6 : decode cX8_hasLost 6 = .ok (.ifCond .ne 25, 3) := by decide +kernel
theorem dX8_hasLost_9 : decode cX8_hasLost 9 = .ok (.aload_n 0, 1) := by decide +kernel
theorem dX8_hasLost_10 : decode cX8_hasLost 10 = .ok (.iload_n 3, 1) := by decide +kernel
theorem dX8_hasLost_11 : decode cX8_hasLost 11 = .ok (.iconst 0, 1) := by decide +kernel
theorem dX8_hasLost_12 : decode cX8_hasLost 12 = .ok (.iconst 3, 1) := by decide +kernel
theorem dX8_hasLost_13 : decode cX8_hasLost 13 = .ok (.invokestatic 165, 3) := by decide +kernel
theorem dX8_hasLost_16 : decode cX8_hasLost 16 = .ok (.ifCond .ne 7, 3) := by decide +kernel
theorem dX8_hasLost_19 : decode cX8_hasLost 19 = .ok (.iconst 1, 1) := by decide +kernel
theorem dX8_hasLost_20 : decode cX8_hasLost 20 = .ok (.goto 4, 3) := by decide +kernel
theorem dX8_hasLost_23 : decode cX8_hasLost 23 = .ok (.iconst 0, 1) := by decide +kernel
theorem dX8_hasLost_24 : decode cX8_hasLost 24 = .ok (.iconst 2, 1) := by decide +kernel
theorem dX8_hasLost_25 : decode cX8_hasLost 25 = .ok (.invokevirtual 267, 3) := by decide +kernel
theorem dX8_hasLost_28 : decode cX8_hasLost 28 = .ok (.ifCond .eq 5, 3) := by decide +kernel
theorem dX8_hasLost_31 : decode cX8_hasLost 31 = .ok (.iconst 0, 1) := by decide +kernel
theorem dX8_hasLost_32 : decode cX8_hasLost 32 = .ok (.ireturn, 1) := by decide +kernel
theorem dX8_hasLost_33 : decode cX8_hasLost 33 = .ok (.aload_n 0, 1) := by decide +kernel
theorem dX8_hasLost_34 : decode cX8_hasLost 34 = .ok (.getfield 7, 3) := by decide +kernel
theorem dX8_hasLost_37 : decode cX8_hasLost 37 = .ok (.sipush 607, 3) := by decide +kernel
theorem dX8_hasLost_40 : decode cX8_hasLost 40 = .ok (.iload_n 1, 1) := by decide +kernel
theorem dX8_hasLost_41 : decode cX8_hasLost 41 = .ok (.iload_n 2, 1) := by decide +kernel
theorem dX8_hasLost_42 : decode cX8_hasLost 42 = .ok (.invokestatic 65, 3) := by decide +kernel
theorem dX8_hasLost_45 : decode cX8_hasLost 45 = .ok (.iaload, 1) := by decide +kernel
theorem dX8_hasLost_46 : decode cX8_hasLost 46 = .ok (.iload_n 3, 1) := by decide +kernel
theorem dX8_hasLost_47 : decode cX8_hasLost 47 = .ok (.ishr, 1) := by decide +kernel
theorem dX8_hasLost_48 : decode cX8_hasLost 48 = .ok (.iconst 1, 1) := by decide +kernel
theorem dX8_hasLost_49 : decode cX8_hasLost 49 = .ok (.iand, 1) := by decide +kernel
theorem dX8_hasLost_50 : decode cX8_hasLost 50 = .ok (.iconst 1, 1) := by decide +kernel
theorem dX8_hasLost_51 : decode cX8_hasLost 51 = .ok (.if_icmp .ne 7, 3) := by decide +kernel
theorem dX8_hasLost_54 : decode cX8_hasLost 54 = .ok (.iconst 1, 1) := by decide +kernel
theorem dX8_hasLost_55 : decode cX8_hasLost 55 = .ok (.goto 4, 3) := by decide +kernel
theorem dX8_hasLost_58 : decode cX8_hasLost 58 = .ok (.iconst 0, 1) := by decide +kernel
theorem dX8_hasLost_59 : decode cX8_hasLost 59 = .ok (.ireturn, 1) := by decide +kernel
/-! BusLiftsModel.hasLost(III)Z -/
noncomputable def f_X8_hasLost_31  (σ : Sg)  : Option (Int32 × Sg) := some (0, σ)
noncomputable def f_X8_hasLost_59  (σ : Sg) (v100 : Int32) : Option (Int32 × Sg) := if ¬ (v100 = 0 ∨ v100 = 1) then none else (some (v100, σ))
noncomputable def f_X8_hasLost_24  (σ : Sg) (v1 : Int32) (v2 : Int32) (v3 : Int32) (v101 : Int32) : Option (Int32 × Sg) := bi (f_X8_fails σ v101 2) fun r2 σ1 => (if r2 = 0 then (bi (f_X8_of σ1 607 v1 v2) fun r4 σ3 => (if r4 < 0 ∨ 2111 ≤ (r4).toNatClampNeg then none else (if (((σ3 30 0 (r4).toNatClampNeg) >>> (v3 &&& 31)) &&& 1) = 1 then (f_X8_hasLost_59 σ3 1) else (f_X8_hasLost_59 σ3 0)))) else (f_X8_hasLost_31 σ1))
noncomputable def f_X8_hasLost  (σ : Sg) (v1 : Int32) (v2 : Int32) (v3 : Int32) : Option (Int32 × Sg) := bi (f_X8_noPair σ v1 v2) fun r2 σ1 => (if r2 = 0 then (bi (f_X8_inRange σ1 v3 0 3) fun r4 σ3 => (if r4 = 0 then (f_X8_hasLost_24 σ3 v1 v2 v3 1) else (f_X8_hasLost_24 σ3 v1 v2 v3 0))) else (f_X8_hasLost_31 σ1))
set_option maxHeartbeats 4000000 in
set_option maxRecDepth 100000 in
theorem w_X8_hasLost_31 {p : Program} {l : Launch} {e : Env} {s : State} {m : MethodId} {args : Array Value} {below : List Frame} {meth : Method} {c : Code} {G : Gx} {ad : Ad} {res : Int32 × Sg} (C : Cx p s m args meth c yX8_hasLost.cls cX8_hasLost 4 (Option.some FieldType.boolean) G)  : ∀ (σ : Sg)  (H : Heap) (locs : List Loc) (ls : Array Slot), z_S 1 G ad σ (z_A 1 ad s.heap.size) s.heap H locs → lv_has ls 4 [] → f_X8_hasLost_31  σ  = some res → W p l e { frames := 3, cells := 0, slots := 0, locals := 65 } s m args below meth c H locs 0 0 (MQ below (va_Qi (S := Unit) (fun r1 _ => r1 = res.1) (fun _ t => z_W 1 G ad res.2 t.heap) (z_A 1 ad s.heap.size)) args s 0 0 (z_A 1 ad s.heap.size)) (F0 m 31 ls []) := by
  intro σ  H locs ls S hl  hf
  unfold f_X8_hasLost_31 at hf
  refine lv_iconst (v := 0) C.1 C.2.1 dX8_hasLost_31 (by decide) ?_
  exact z_zret C S rfl hf dX8_hasLost_32
set_option maxHeartbeats 4000000 in
set_option maxRecDepth 100000 in
theorem w_X8_hasLost_59 {p : Program} {l : Launch} {e : Env} {s : State} {m : MethodId} {args : Array Value} {below : List Frame} {meth : Method} {c : Code} {G : Gx} {ad : Ad} {res : Int32 × Sg} (C : Cx p s m args meth c yX8_hasLost.cls cX8_hasLost 4 (Option.some FieldType.boolean) G)  : ∀ (σ : Sg) (v100 : Int32) (H : Heap) (locs : List Loc) (ls : Array Slot), z_S 1 G ad σ (z_A 1 ad s.heap.size) s.heap H locs → lv_has ls 4 [] → f_X8_hasLost_59  σ v100 = some res → W p l e { frames := 3, cells := 0, slots := 0, locals := 65 } s m args below meth c H locs 0 0 (MQ below (va_Qi (S := Unit) (fun r1 _ => r1 = res.1) (fun _ t => z_W 1 G ad res.2 t.heap) (z_A 1 ad s.heap.size)) args s 0 0 (z_A 1 ad s.heap.size)) (F0 m 59 ls [.int v100]) := by
  intro σ v100 H locs ls S hl  hf
  unfold f_X8_hasLost_59 at hf
  obtain ⟨g_59, hf⟩ := gd hf
  exact z_zret C S (nbz g_59).1 hf dX8_hasLost_59
set_option maxHeartbeats 4000000 in
set_option maxRecDepth 100000 in
theorem w_X8_hasLost_24 {p : Program} {l : Launch} {e : Env} {s : State} {m : MethodId} {args : Array Value} {below : List Frame} {meth : Method} {c : Code} {G : Gx} {ad : Ad} {res : Int32 × Sg} (C : Cx p s m args meth c yX8_hasLost.cls cX8_hasLost 4 (Option.some FieldType.boolean) G)  : ∀ (σ : Sg) (v1 : Int32) (v2 : Int32) (v3 : Int32) (v101 : Int32) (H : Heap) (locs : List Loc) (ls : Array Slot), z_S 1 G ad σ (z_A 1 ad s.heap.size) s.heap H locs → lv_has ls 4 [(0, .ref (ad 8 0)), (1, .int v1), (2, .int v2), (3, .int v3)] → f_X8_hasLost_24  σ v1 v2 v3 v101 = some res → W p l e { frames := 3, cells := 0, slots := 0, locals := 65 } s m args below meth c H locs 0 0 (MQ below (va_Qi (S := Unit) (fun r1 _ => r1 = res.1) (fun _ t => z_W 1 G ad res.2 t.heap) (z_A 1 ad s.heap.size)) args s 0 0 (z_A 1 ad s.heap.size)) (F0 m 24 ls [.int v101, .ref (ad 8 0)]) := by
  intro σ v1 v2 v3 v101 H locs ls S hl  hf
  unfold f_X8_hasLost_24 at hf
  refine lv_iconst (v := 2) C.1 C.2.1 dX8_hasLost_24 (by decide) ?_
  obtain ⟨r2, σ1, q_25, hf⟩ := bib hf
  refine z_callI C S 8 0 rfl (by decide) cf_8 ⟨_, rfl⟩ [.int v101, .int 2] (m_X8_fails l G ad σ v101 2 r2 σ1 q_25 _) kv_X8_fails tw_7_56 ⟨Nat.le_of_ble_eq_true rfl, Nat.le_of_ble_eq_true rfl⟩ rfl rfl (Nat.le_of_ble_eq_true rfl) hl.1 ⟨Nat.le_of_ble_eq_true rfl, Nat.le_of_ble_eq_true rfl⟩ dX8_hasLost_25 (fun H locs S => ?_)
  refine lv_if_eq (tgt := 33) C.1 C.2.1 dX8_hasLost_28 (by decide) (fun c_28 => ?_) (fun c_28 => ?_)
  · rw [if_pos c_28] at hf
    refine lv_aload_n C.1 C.2.1 dX8_hasLost_33 rfl (lv_at hl 0 rfl) ?_
    refine z_getR C S 8 0 rfl (by decide) cf_8 0 (by decide) _ (gr_8_0 G ad 0) tw_6_118 dX8_hasLost_34 ?_
    refine lv_sipush (v := 607) C.1 C.2.1 dX8_hasLost_37 (by decide) ?_
    refine lv_iload_n C.1 C.2.1 dX8_hasLost_40 rfl (lv_at hl 1 rfl) ?_
    refine lv_iload_n C.1 C.2.1 dX8_hasLost_41 rfl (lv_at hl 2 rfl) ?_
    obtain ⟨r4, σ3, q_42, hf⟩ := bib hf
    refine z_callSI C S [.int 607, .int v1, .int v2] (m_X8_of l G ad σ1 607 v1 v2 r4 σ3 q_42 _) kv_X8_of tw_7_76 ⟨Nat.le_of_ble_eq_true rfl, Nat.le_of_ble_eq_true rfl⟩ rfl rfl (Nat.le_of_ble_eq_true rfl) hl.1 ⟨Nat.le_of_ble_eq_true rfl, Nat.le_of_ble_eq_true rfl⟩ dX8_hasLost_42 (fun H locs S => ?_)
    obtain ⟨g_45, hf⟩ := gd hf
    refine z_iald C S 30 0 rfl (by decide) 2111 (fun _ => rfl) g_45 dX8_hasLost_45 ?_
    refine lv_iload_n C.1 C.2.1 dX8_hasLost_46 rfl (lv_at hl 3 rfl) ?_
    refine lv_ishr C.1 C.2.1 dX8_hasLost_47 ?_
    refine lv_iconst (v := 1) C.1 C.2.1 dX8_hasLost_48 (by decide) ?_
    refine lv_iand C.1 C.2.1 dX8_hasLost_49 ?_
    refine lv_iconst (v := 1) C.1 C.2.1 dX8_hasLost_50 (by decide) ?_
    refine lv_icmp_ne (tgt := 58) C.1 C.2.1 dX8_hasLost_51 (by decide) (fun c_51 => ?_) (fun c_51 => ?_)
    · rw [if_neg c_51] at hf
      refine lv_iconst (v := 0) C.1 C.2.1 dX8_hasLost_58 (by decide) ?_
      exact w_X8_hasLost_59 C _ 0 _ _ _ S (lv_sub hl [] rfl) hf
    · rw [if_pos c_51] at hf
      refine lv_iconst (v := 1) C.1 C.2.1 dX8_hasLost_54 (by decide) ?_
      refine lv_goto (tgt := 59) C.1 C.2.1 dX8_hasLost_55 (by decide) ?_
      exact w_X8_hasLost_59 C _ 1 _ _ _ S (lv_sub hl [] rfl) hf
  · rw [if_neg c_28] at hf
    exact w_X8_hasLost_31 C _ _ _ _ S (lv_sub hl [] rfl) hf
set_option maxHeartbeats 4000000 in
set_option maxRecDepth 100000 in
theorem w_X8_hasLost_0 {p : Program} {l : Launch} {e : Env} {s : State} {m : MethodId} {args : Array Value} {below : List Frame} {meth : Method} {c : Code} {G : Gx} {ad : Ad} {res : Int32 × Sg} (C : Cx p s m args meth c yX8_hasLost.cls cX8_hasLost 4 (Option.some FieldType.boolean) G)  : ∀ (σ : Sg) (v1 : Int32) (v2 : Int32) (v3 : Int32) (H : Heap) (locs : List Loc) (ls : Array Slot), z_S 1 G ad σ (z_A 1 ad s.heap.size) s.heap H locs → lv_has ls 4 [(0, .ref (ad 8 0)), (1, .int v1), (2, .int v2), (3, .int v3)] → f_X8_hasLost  σ v1 v2 v3 = some res → W p l e { frames := 3, cells := 0, slots := 0, locals := 65 } s m args below meth c H locs 0 0 (MQ below (va_Qi (S := Unit) (fun r1 _ => r1 = res.1) (fun _ t => z_W 1 G ad res.2 t.heap) (z_A 1 ad s.heap.size)) args s 0 0 (z_A 1 ad s.heap.size)) (F0 m 0 ls []) := by
  intro σ v1 v2 v3 H locs ls S hl  hf
  unfold f_X8_hasLost at hf
  refine lv_aload_n C.1 C.2.1 dX8_hasLost_0 rfl (lv_at hl 0 rfl) ?_
  refine lv_iload_n C.1 C.2.1 dX8_hasLost_1 rfl (lv_at hl 1 rfl) ?_
  refine lv_iload_n C.1 C.2.1 dX8_hasLost_2 rfl (lv_at hl 2 rfl) ?_
  obtain ⟨r2, σ1, q_3, hf⟩ := bib hf
  refine z_callI C S 8 0 rfl (by decide) cf_8 ⟨_, rfl⟩ [.int v1, .int v2] (m_X8_noPair l G ad σ v1 v2 r2 σ1 q_3 _) kv_X8_noPair tw_7_111 ⟨Nat.le_of_ble_eq_true rfl, Nat.le_of_ble_eq_true rfl⟩ rfl rfl (Nat.le_of_ble_eq_true rfl) hl.1 ⟨Nat.le_of_ble_eq_true rfl, Nat.le_of_ble_eq_true rfl⟩ dX8_hasLost_3 (fun H locs S => ?_)
  refine lv_if_ne (tgt := 31) C.1 C.2.1 dX8_hasLost_6 (by decide) (fun c_6 => ?_) (fun c_6 => ?_)
  · rw [if_neg c_6] at hf
    exact w_X8_hasLost_31 C _ _ _ _ S (lv_sub hl [] rfl) hf
  · rw [if_pos c_6] at hf
    refine lv_aload_n C.1 C.2.1 dX8_hasLost_9 rfl (lv_at hl 0 rfl) ?_
    refine lv_iload_n C.1 C.2.1 dX8_hasLost_10 rfl (lv_at hl 3 rfl) ?_
    refine lv_iconst (v := 0) C.1 C.2.1 dX8_hasLost_11 (by decide) ?_
    refine lv_iconst (v := 3) C.1 C.2.1 dX8_hasLost_12 (by decide) ?_
    obtain ⟨r4, σ3, q_13, hf⟩ := bib hf
    refine z_callSI C S [.int v3, .int 0, .int 3] (m_X8_inRange l G ad σ1 v3 0 3 r4 σ3 q_13 _) kv_X8_inRange tw_6_204 ⟨Nat.le_of_ble_eq_true rfl, Nat.le_of_ble_eq_true rfl⟩ rfl rfl (Nat.le_of_ble_eq_true rfl) hl.1 ⟨Nat.le_of_ble_eq_true rfl, Nat.le_of_ble_eq_true rfl⟩ dX8_hasLost_13 (fun H locs S => ?_)
    refine lv_if_ne (tgt := 23) C.1 C.2.1 dX8_hasLost_16 (by decide) (fun c_16 => ?_) (fun c_16 => ?_)
    · rw [if_neg c_16] at hf
      refine lv_iconst (v := 0) C.1 C.2.1 dX8_hasLost_23 (by decide) ?_
      exact w_X8_hasLost_24 C _ v1 v2 v3 0 _ _ _ S (lv_sub hl [0, 1, 2, 3] rfl) hf
    · rw [if_pos c_16] at hf
      refine lv_iconst (v := 1) C.1 C.2.1 dX8_hasLost_19 (by decide) ?_
      refine lv_goto (tgt := 24) C.1 C.2.1 dX8_hasLost_20 (by decide) ?_
      exact w_X8_hasLost_24 C _ v1 v2 v3 1 _ _ _ S (lv_sub hl [0, 1, 2, 3] rfl) hf
theorem kv_X8_hasLost : KV yX8_hasLost cX8_hasLost 4 (Option.some FieldType.boolean) 3 := ⟨tw_7_165, tw_7_163, tw_7_164, tw_1_10, by decide, by decide, by decide +kernel⟩
theorem m_X8_hasLost (l : Launch) (G : Gx) (ad : Ad) (σ : Sg) (v1 : Int32) (v2 : Int32) (v3 : Int32) (r : Int32) (σ' : Sg)  (hf : f_X8_hasLost σ v1 v2 v3 = some (r, σ')) (sz : Nat) : z_MI l yX8_hasLost cX8_hasLost 4 (Option.some FieldType.boolean) 3 65 1 G ad σ sz [.ref (ad 8 0), .int v1, .int v2, .int v3] r σ' := by
  refine z_begin (by decide +kernel) (Nat.le_of_ble_eq_true rfl) [(0, .ref (ad 8 0)), (1, .int v1), (2, .int v2), (3, .int v3)] rfl (fun p e s m args below meth c ls C hz S hl => ?_)
  subst hz
  exact w_X8_hasLost_0 (res := (r, σ')) C σ v1 v2 v3 _ _ _ S hl  hf

theorem dX8_nobody_0 : decode cX8_nobody 0 = .ok (.aload_n 0, 1) := by decide +kernel
theorem dX8_nobody_1 : decode cX8_nobody 1 = .ok (.iconst 0, 1) := by decide +kernel
theorem dX8_nobody_2 : decode cX8_nobody 2 = .ok (.putfield 48, 3) := by decide +kernel
theorem dX8_nobody_5 : decode cX8_nobody 5 = .ok (.aload_n 0, 1) := by decide +kernel
theorem dX8_nobody_6 : decode cX8_nobody 6 = .ok (.iload_n 1, 1) := by decide +kernel
theorem dX8_nobody_7 : decode cX8_nobody 7 = .ok (.iconst 1, 1) := by decide +kernel
theorem dX8_nobody_8 : decode cX8_nobody 8 = .ok (.iconst 4, 1) := by decide +kernel
theorem dX8_nobody_9 : decode cX8_nobody 9 = .ok (.invokestatic 165, 3) := by decide +kernel
theorem dX8_nobody_12 : decode cX8_nobody 12 = .ok (.ifCond .ne 7, 3) := by decide +kernel
theorem dX8_nobody_15 : decode cX8_nobody 15 = .ok (.iconst 1, 1) := by decide +kernel
theorem dX8_nobody_16 : decode cX8_nobody 16 = .ok (.goto 4, 3) := by decide +kernel
theorem dX8_nobody_19 : decode cX8_nobody 19 = .ok (.iconst 0, 1) := by decide +kernel
theorem dX8_nobody_20 : decode cX8_nobody 20 = .ok (.iconst 1, 1) := by decide +kernel
theorem dX8_nobody_21 : decode cX8_nobody 21 = .ok (.invokevirtual 267, 3) := by decide +kernel
theorem dX8_nobody_24 : decode cX8_nobody 24 = .ok (.ifCond .eq 7, 3) := by decide +kernel
theorem dX8_nobody_27 : decode cX8_nobody 27 = .ok (.iconst 0, 1) := by decide +kernel
theorem dX8_nobody_28 : decode cX8_nobody 28 = .ok (.goto 14, 3) := by decide +kernel
theorem dX8_nobody_31 : decode cX8_nobody 31 = .ok (.aload_n 0, 1) := by decide +kernel
theorem dX8_nobody_32 : decode cX8_nobody 32 = .ok (.getfield 7, 3) := by decide +kernel
theorem dX8_nobody_35 : decode cX8_nobody 35 = .ok (.bipush 19, 2) := by decide +kernel
theorem dX8_nobody_37 : decode cX8_nobody 37 = .ok (.iload_n 1, 1) := by decide +kernel
theorem dX8_nobody_38 : decode cX8_nobody 38 = .ok (.iadd, 1) := by decide +kernel
theorem dX8_nobody_39 : decode cX8_nobody 39 = .ok (.iconst 1, 1) := by decide +kernel
theorem dX8_nobody_40 : decode cX8_nobody 40 = .ok (.isub, 1) := by decide +kernel
theorem dX8_nobody_41 : decode cX8_nobody 41 = .ok (.iaload, 1) := by decide +kernel
theorem dX8_nobody_42 : decode cX8_nobody 42 = .ok (.ireturn, 1) := by decide +kernel
/-! BusLiftsModel.nobody(I)I -/
noncomputable def f_X8_nobody_42  (σ : Sg) (v100 : Int32) : Option (Int32 × Sg) := some (v100, σ)
noncomputable def f_X8_nobody_20  (σ : Sg) (v1 : Int32) (v101 : Int32) : Option (Int32 × Sg) := bi (f_X8_fails σ v101 1) fun r2 σ1 => (if r2 = 0 then (if ((19 + v1) - 1) < 0 ∨ 2111 ≤ (((19 + v1) - 1)).toNatClampNeg then none else (f_X8_nobody_42 σ1 (σ1 30 0 (((19 + v1) - 1)).toNatClampNeg))) else (f_X8_nobody_42 σ1 0))
noncomputable def f_X8_nobody  (σ : Sg) (v1 : Int32) : Option (Int32 × Sg) := st (sup σ 8 0 8 0) fun σ1 => (bi (f_X8_inRange σ1 v1 1 4) fun r3 σ2 => (if r3 = 0 then (f_X8_nobody_20 σ2 v1 1) else (f_X8_nobody_20 σ2 v1 0)))
set_option maxHeartbeats 4000000 in
set_option maxRecDepth 100000 in
theorem w_X8_nobody_42 {p : Program} {l : Launch} {e : Env} {s : State} {m : MethodId} {args : Array Value} {below : List Frame} {meth : Method} {c : Code} {G : Gx} {ad : Ad} {res : Int32 × Sg} (C : Cx p s m args meth c yX8_nobody.cls cX8_nobody 2 (Option.some FieldType.int) G)  : ∀ (σ : Sg) (v100 : Int32) (H : Heap) (locs : List Loc) (ls : Array Slot), z_S 1 G ad σ (z_A 1 ad s.heap.size) s.heap H locs → lv_has ls 2 [] → f_X8_nobody_42  σ v100 = some res → W p l e { frames := 1, cells := 0, slots := 0, locals := 22 } s m args below meth c H locs 0 0 (MQ below (va_Qi (S := Unit) (fun r1 _ => r1 = res.1) (fun _ t => z_W 1 G ad res.2 t.heap) (z_A 1 ad s.heap.size)) args s 0 0 (z_A 1 ad s.heap.size)) (F0 m 42 ls [.int v100]) := by
  intro σ v100 H locs ls S hl  hf
  unfold f_X8_nobody_42 at hf
  exact z_iret C S hf dX8_nobody_42
set_option maxHeartbeats 4000000 in
set_option maxRecDepth 100000 in
theorem w_X8_nobody_20 {p : Program} {l : Launch} {e : Env} {s : State} {m : MethodId} {args : Array Value} {below : List Frame} {meth : Method} {c : Code} {G : Gx} {ad : Ad} {res : Int32 × Sg} (C : Cx p s m args meth c yX8_nobody.cls cX8_nobody 2 (Option.some FieldType.int) G)  : ∀ (σ : Sg) (v1 : Int32) (v101 : Int32) (H : Heap) (locs : List Loc) (ls : Array Slot), z_S 1 G ad σ (z_A 1 ad s.heap.size) s.heap H locs → lv_has ls 2 [(0, .ref (ad 8 0)), (1, .int v1)] → f_X8_nobody_20  σ v1 v101 = some res → W p l e { frames := 1, cells := 0, slots := 0, locals := 22 } s m args below meth c H locs 0 0 (MQ below (va_Qi (S := Unit) (fun r1 _ => r1 = res.1) (fun _ t => z_W 1 G ad res.2 t.heap) (z_A 1 ad s.heap.size)) args s 0 0 (z_A 1 ad s.heap.size)) (F0 m 20 ls [.int v101, .ref (ad 8 0)]) := by
  intro σ v1 v101 H locs ls S hl  hf
  unfold f_X8_nobody_20 at hf
  refine lv_iconst (v := 1) C.1 C.2.1 dX8_nobody_20 (by decide) ?_
  obtain ⟨r2, σ1, q_21, hf⟩ := bib hf
  refine z_callI C S 8 0 rfl (by decide) cf_8 ⟨_, rfl⟩ [.int v101, .int 1] (m_X8_fails l G ad σ v101 1 r2 σ1 q_21 _) kv_X8_fails tw_7_56 ⟨Nat.le_of_ble_eq_true rfl, Nat.le_of_ble_eq_true rfl⟩ rfl rfl (Nat.le_of_ble_eq_true rfl) hl.1 ⟨Nat.le_of_ble_eq_true rfl, Nat.le_of_ble_eq_true rfl⟩ dX8_nobody_21 (fun H locs S => ?_)
  refine lv_if_eq (tgt := 31) C.1 C.2.1 dX8_nobody_24 (by decide) (fun c_24 => ?_) (fun c_24 => ?_)
  · rw [if_pos c_24] at hf
    refine lv_aload_n C.1 C.2.1 dX8_nobody_31 rfl (lv_at hl 0 rfl) ?_
    refine z_getR C S 8 0 rfl (by decide) cf_8 0 (by decide) _ (gr_8_0 G ad 0) tw_6_118 dX8_nobody_32 ?_
    refine lv_bipush (v := 19) C.1 C.2.1 dX8_nobody_35 (by decide) ?_
    refine lv_iload_n C.1 C.2.1 dX8_nobody_37 rfl (lv_at hl 1 rfl) ?_
    refine lv_iadd C.1 C.2.1 dX8_nobody_38 ?_
    refine lv_iconst (v := 1) C.1 C.2.1 dX8_nobody_39 (by decide) ?_
    refine lv_isub C.1 C.2.1 dX8_nobody_40 ?_
    obtain ⟨g_41, hf⟩ := gd hf
    refine z_iald C S 30 0 rfl (by decide) 2111 (fun _ => rfl) g_41 dX8_nobody_41 ?_
    exact w_X8_nobody_42 C _ (σ1 30 0 (((19 + v1) - 1)).toNatClampNeg) _ _ _ S (lv_sub hl [] rfl) hf
  · rw [if_neg c_24] at hf
    refine lv_iconst (v := 0) C.1 C.2.1 dX8_nobody_27 (by decide) ?_
    refine lv_goto (tgt := 42) C.1 C.2.1 dX8_nobody_28 (by decide) ?_
    exact w_X8_nobody_42 C _ 0 _ _ _ S (lv_sub hl [] rfl) hf
set_option maxHeartbeats 4000000 in
set_option maxRecDepth 100000 in
theorem w_X8_nobody_0 {p : Program} {l : Launch} {e : Env} {s : State} {m : MethodId} {args : Array Value} {below : List Frame} {meth : Method} {c : Code} {G : Gx} {ad : Ad} {res : Int32 × Sg} (C : Cx p s m args meth c yX8_nobody.cls cX8_nobody 2 (Option.some FieldType.int) G)  : ∀ (σ : Sg) (v1 : Int32) (H : Heap) (locs : List Loc) (ls : Array Slot), z_S 1 G ad σ (z_A 1 ad s.heap.size) s.heap H locs → lv_has ls 2 [(0, .ref (ad 8 0)), (1, .int v1)] → f_X8_nobody  σ v1 = some res → W p l e { frames := 1, cells := 0, slots := 0, locals := 22 } s m args below meth c H locs 0 0 (MQ below (va_Qi (S := Unit) (fun r1 _ => r1 = res.1) (fun _ t => z_W 1 G ad res.2 t.heap) (z_A 1 ad s.heap.size)) args s 0 0 (z_A 1 ad s.heap.size)) (F0 m 0 ls []) := by
  intro σ v1 H locs ls S hl  hf
  unfold f_X8_nobody at hf
  refine lv_aload_n C.1 C.2.1 dX8_nobody_0 rfl (lv_at hl 0 rfl) ?_
  refine lv_iconst (v := 0) C.1 C.2.1 dX8_nobody_1 (by decide) ?_
  obtain ⟨σ1, e_2, hf⟩ := stb hf
  refine z_putI C S 8 0 rfl (by decide) cf_8 8 (by decide) (pi_8_8 G ad 0) rfl rfl rfl tw_6_126 dX8_nobody_2 (fun H locs S => ?_)
  rw [← e_2] at S
  refine lv_aload_n C.1 C.2.1 dX8_nobody_5 rfl (lv_at hl 0 rfl) ?_
  refine lv_iload_n C.1 C.2.1 dX8_nobody_6 rfl (lv_at hl 1 rfl) ?_
  refine lv_iconst (v := 1) C.1 C.2.1 dX8_nobody_7 (by decide) ?_
  refine lv_iconst (v := 4) C.1 C.2.1 dX8_nobody_8 (by decide) ?_
  obtain ⟨r3, σ2, q_9, hf⟩ := bib hf
  refine z_callSI C S [.int v1, .int 1, .int 4] (m_X8_inRange l G ad σ1 v1 1 4 r3 σ2 q_9 _) kv_X8_inRange tw_6_204 ⟨Nat.le_of_ble_eq_true rfl, Nat.le_of_ble_eq_true rfl⟩ rfl rfl (Nat.le_of_ble_eq_true rfl) hl.1 ⟨Nat.le_of_ble_eq_true rfl, Nat.le_of_ble_eq_true rfl⟩ dX8_nobody_9 (fun H locs S => ?_)
  refine lv_if_ne (tgt := 19) C.1 C.2.1 dX8_nobody_12 (by decide) (fun c_12 => ?_) (fun c_12 => ?_)
  · rw [if_neg c_12] at hf
    refine lv_iconst (v := 0) C.1 C.2.1 dX8_nobody_19 (by decide) ?_
    exact w_X8_nobody_20 C _ v1 0 _ _ _ S (lv_sub hl [0, 1] rfl) hf
  · rw [if_pos c_12] at hf
    refine lv_iconst (v := 1) C.1 C.2.1 dX8_nobody_15 (by decide) ?_
    refine lv_goto (tgt := 20) C.1 C.2.1 dX8_nobody_16 (by decide) ?_
    exact w_X8_nobody_20 C _ v1 1 _ _ _ S (lv_sub hl [0, 1] rfl) hf
theorem kv_X8_nobody : KV yX8_nobody cX8_nobody 2 (Option.some FieldType.int) 1 := ⟨tw_7_169, tw_7_167, tw_7_168, tw_1_10, by decide, by decide, by decide +kernel⟩
theorem m_X8_nobody (l : Launch) (G : Gx) (ad : Ad) (σ : Sg) (v1 : Int32) (r : Int32) (σ' : Sg)  (hf : f_X8_nobody σ v1 = some (r, σ')) (sz : Nat) : z_MI l yX8_nobody cX8_nobody 2 (Option.some FieldType.int) 1 22 1 G ad σ sz [.ref (ad 8 0), .int v1] r σ' := by
  refine z_begin (by decide +kernel) (Nat.le_of_ble_eq_true rfl) [(0, .ref (ad 8 0)), (1, .int v1)] rfl (fun p e s m args below meth c ls C hz S hl => ?_)
  subst hz
  exact w_X8_nobody_0 (res := (r, σ')) C σ v1 _ _ _ S hl  hf

theorem dX8_badRide_0 : decode cX8_badRide 0 = .ok (.aload_n 0, 1) := by decide +kernel
theorem dX8_badRide_1 : decode cX8_badRide 1 = .ok (.iconst 0, 1) := by decide +kernel
theorem dX8_badRide_2 : decode cX8_badRide 2 = .ok (.putfield 48, 3) := by decide +kernel
theorem dX8_badRide_5 : decode cX8_badRide 5 = .ok (.aload_n 0, 1) := by decide +kernel
theorem dX8_badRide_6 : decode cX8_badRide 6 = .ok (.iload_n 1, 1) := by decide +kernel
theorem dX8_badRide_7 : decode cX8_badRide 7 = .ok (.iconst 0, 1) := by decide +kernel
theorem dX8_badRide_8 : decode cX8_badRide 8 = .ok (.aload_n 0, 1) := by decide +kernel
theorem dX8_badRide_9 : decode cX8_badRide 9 = .ok (.getfield 7, 3) := by decide +kernel
theorem dX8_badRide_12 : decode cX8_badRide 12 = .ok (.iconst 0, 1) := by decide +kernel
theorem dX8_badRide_13 : decode cX8_badRide 13 = .ok (.iaload, 1) := by decide +kernel
theorem dX8_badRide_14 : decode cX8_badRide 14 = .ok (.iconst 1, 1) := by decide +kernel
theorem dX8_badRide_15 : decode cX8_badRide 15 = .ok (.isub, 1) := by decide +kernel
theorem dX8_badRide_16 : decode cX8_badRide 16 = .ok (.invokestatic 165, 3) := by decide +kernel
theorem dX8_badRide_19 : decode cX8_badRide 19 = .ok (.ifCond .eq 24, 3) := by decide +kernel
theorem dX8_badRide_22 : decode cX8_badRide 22 = .ok (.iload_n 2, 1) := by decide +kernel
theorem dX8_badRide_23 : decode cX8_badRide 23 = .ok (.iconst 0, 1) := by decide +kernel
theorem dX8_badRide_24 : decode cX8_badRide 24 = .ok (.aload_n 0, 1) := by decide +kernel
theorem dX8_badRide_25 : decode cX8_badRide 25 = .ok (.getfield 7, 3) := by decide +kernel
theorem dX8_badRide_28 : decode cX8_badRide 28 = .ok (.iconst 0, 1) := by decide +kernel
theorem dX8_badRide_29 : decode cX8_badRide 29 = .ok (.iaload, 1) := by decide +kernel
theorem dX8_badRide_30 : decode cX8_badRide 30 = .ok (.iconst 1, 1) := by decide +kernel
theorem dX8_badRide_31 : decode cX8_badRide 31 = .ok (.isub, 1) := by decide +kernel
theorem dX8_badRide_32 : decode cX8_badRide 32 = .ok (.invokestatic 165, 3) := by decide +kernel
theorem dX8_badRide_35 : decode cX8_badRide 35 = .ok (.ifCond .eq 8, 3) := by decide +kernel
theorem dX8_badRide_38 : decode cX8_badRide 38 = .ok (.iload_n 1, 1) := by decide +kernel
theorem dX8_badRide_39 : decode cX8_badRide 39 = .ok (.iload_n 2, 1) := by decide +kernel
theorem dX8_badRide_40 : decode cX8_badRide 40 = .ok (.if_icmp .ne 7, 3) := by decide +kernel
theorem dX8_badRide_43 : decode cX8_badRide 43 = .ok (.iconst 1, 1) := by decide +kernel
theorem dX8_badRide_44 : decode cX8_badRide 44 = .ok (.goto 4, 3) := by decide +kernel
theorem dX8_badRide_47 : decode cX8_badRide 47 = .ok (.iconst 0, 1) := by decide +kernel
theorem dX8_badRide_48 : decode cX8_badRide 48 = .ok (.iconst 1, 1) := by decide +kernel
theorem dX8_badRide_49 : decode cX8_badRide 49 = .ok (.invokevirtual 267, 3) := by decide +kernel
theorem dX8_badRide_52 : decode cX8_badRide 52 = .ok (.ireturn, 1) := by decide +kernel
/-! BusLiftsModel.badRide(II)Z -/
noncomputable def f_X8_badRide_48  (σ : Sg) (v101 : Int32) : Option (Int32 × Sg) := bi (f_X8_fails σ v101 1) fun r2 σ1 => (if ¬ (r2 = 0 ∨ r2 = 1) then none else (some (r2, σ1)))
noncomputable def f_X8_badRide_43  (σ : Sg)  : Option (Int32 × Sg) := f_X8_badRide_48 σ 1
noncomputable def f_X8_badRide  (σ : Sg) (v1 : Int32) (v2 : Int32) : Option (Int32 × Sg) := st (sup σ 8 0 8 0) fun σ1 => (bi (f_X8_inRange σ1 v1 0 ((σ1 30 0 0) - 1)) fun r3 σ2 => (if r3 = 0 then (f_X8_badRide_43 σ2) else (bi (f_X8_inRange σ2 v2 0 ((σ2 30 0 0) - 1)) fun r5 σ4 => (if r5 = 0 then (f_X8_badRide_43 σ4) else (if v1 = v2 then (f_X8_badRide_43 σ4) else (f_X8_badRide_48 σ4 0))))))
set_option maxHeartbeats 4000000 in
set_option maxRecDepth 100000 in
theorem w_X8_badRide_48 {p : Program} {l : Launch} {e : Env} {s : State} {m : MethodId} {args : Array Value} {below : List Frame} {meth : Method} {c : Code} {G : Gx} {ad : Ad} {res : Int32 × Sg} (C : Cx p s m args meth c yX8_badRide.cls cX8_badRide 3 (Option.some FieldType.boolean) G)  : ∀ (σ : Sg) (v101 : Int32) (H : Heap) (locs : List Loc) (ls : Array Slot), z_S 1 G ad σ (z_A 1 ad s.heap.size) s.heap H locs → lv_has ls 3 [] → f_X8_badRide_48  σ v101 = some res → W p l e { frames := 1, cells := 0, slots := 0, locals := 22 } s m args below meth c H locs 0 0 (MQ below (va_Qi (S := Unit) (fun r1 _ => r1 = res.1) (fun _ t => z_W 1 G ad res.2 t.heap) (z_A 1 ad s.heap.size)) args s 0 0 (z_A 1 ad s.heap.size)) (F0 m 48 ls [.int v101, .ref (ad 8 0)]) := by
  intro σ v101 H locs ls S hl  hf
  unfold f_X8_badRide_48 at hf
  refine lv_iconst (v := 1) C.1 C.2.1 dX8_badRide_48 (by decide) ?_
  obtain ⟨r2, σ1, q_49, hf⟩ := bib hf
  refine z_callI C S 8 0 rfl (by decide) cf_8 ⟨_, rfl⟩ [.int v101, .int 1] (m_X8_fails l G ad σ v101 1 r2 σ1 q_49 _) kv_X8_fails tw_7_56 ⟨Nat.le_of_ble_eq_true rfl, Nat.le_of_ble_eq_true rfl⟩ rfl rfl (Nat.le_of_ble_eq_true rfl) hl.1 ⟨Nat.le_of_ble_eq_true rfl, Nat.le_of_ble_eq_true rfl⟩ dX8_badRide_49 (fun H locs S => ?_)
  obtain ⟨g_52, hf⟩ := gd hf
  exact z_zret C S (nbz g_52).1 hf dX8_badRide_52
set_option maxHeartbeats 4000000 in
set_option maxRecDepth 100000 in
theorem w_X8_badRide_43 {p : Program} {l : Launch} {e : Env} {s : State} {m : MethodId} {args : Array Value} {below : List Frame} {meth : Method} {c : Code} {G : Gx} {ad : Ad} {res : Int32 × Sg} (C : Cx p s m args meth c yX8_badRide.cls cX8_badRide 3 (Option.some FieldType.boolean) G)  : ∀ (σ : Sg)  (H : Heap) (locs : List Loc) (ls : Array Slot), z_S 1 G ad σ (z_A 1 ad s.heap.size) s.heap H locs → lv_has ls 3 [] → f_X8_badRide_43  σ  = some res → W p l e { frames := 1, cells := 0, slots := 0, locals := 22 } s m args below meth c H locs 0 0 (MQ below (va_Qi (S := Unit) (fun r1 _ => r1 = res.1) (fun _ t => z_W 1 G ad res.2 t.heap) (z_A 1 ad s.heap.size)) args s 0 0 (z_A 1 ad s.heap.size)) (F0 m 43 ls [.ref (ad 8 0)]) := by
  intro σ  H locs ls S hl  hf
  unfold f_X8_badRide_43 at hf
  refine lv_iconst (v := 1) C.1 C.2.1 dX8_badRide_43 (by decide) ?_
  refine lv_goto (tgt := 48) C.1 C.2.1 dX8_badRide_44 (by decide) ?_
  exact w_X8_badRide_48 C _ 1 _ _ _ S (lv_sub hl [] rfl) hf
set_option maxHeartbeats 4000000 in
set_option maxRecDepth 100000 in
theorem w_X8_badRide_0 {p : Program} {l : Launch} {e : Env} {s : State} {m : MethodId} {args : Array Value} {below : List Frame} {meth : Method} {c : Code} {G : Gx} {ad : Ad} {res : Int32 × Sg} (C : Cx p s m args meth c yX8_badRide.cls cX8_badRide 3 (Option.some FieldType.boolean) G)  : ∀ (σ : Sg) (v1 : Int32) (v2 : Int32) (H : Heap) (locs : List Loc) (ls : Array Slot), z_S 1 G ad σ (z_A 1 ad s.heap.size) s.heap H locs → lv_has ls 3 [(0, .ref (ad 8 0)), (1, .int v1), (2, .int v2)] → f_X8_badRide  σ v1 v2 = some res → W p l e { frames := 1, cells := 0, slots := 0, locals := 22 } s m args below meth c H locs 0 0 (MQ below (va_Qi (S := Unit) (fun r1 _ => r1 = res.1) (fun _ t => z_W 1 G ad res.2 t.heap) (z_A 1 ad s.heap.size)) args s 0 0 (z_A 1 ad s.heap.size)) (F0 m 0 ls []) := by
  intro σ v1 v2 H locs ls S hl  hf
  unfold f_X8_badRide at hf
  refine lv_aload_n C.1 C.2.1 dX8_badRide_0 rfl (lv_at hl 0 rfl) ?_
  refine lv_iconst (v := 0) C.1 C.2.1 dX8_badRide_1 (by decide) ?_
  obtain ⟨σ1, e_2, hf⟩ := stb hf
  refine z_putI C S 8 0 rfl (by decide) cf_8 8 (by decide) (pi_8_8 G ad 0) rfl rfl rfl tw_6_126 dX8_badRide_2 (fun H locs S => ?_)
  rw [← e_2] at S
  refine lv_aload_n C.1 C.2.1 dX8_badRide_5 rfl (lv_at hl 0 rfl) ?_
  refine lv_iload_n C.1 C.2.1 dX8_badRide_6 rfl (lv_at hl 1 rfl) ?_
  refine lv_iconst (v := 0) C.1 C.2.1 dX8_badRide_7 (by decide) ?_
  refine lv_aload_n C.1 C.2.1 dX8_badRide_8 rfl (lv_at hl 0 rfl) ?_
  refine z_getR C S 8 0 rfl (by decide) cf_8 0 (by decide) _ (gr_8_0 G ad 0) tw_6_118 dX8_badRide_9 ?_
  refine lv_iconst (v := 0) C.1 C.2.1 dX8_badRide_12 (by decide) ?_
  refine z_ialdL C S 30 0 rfl (by decide) 2111 (fun _ => rfl) 0 (by decide) (by decide) (by decide) dX8_badRide_13 ?_
  refine lv_iconst (v := 1) C.1 C.2.1 dX8_badRide_14 (by decide) ?_
  refine lv_isub C.1 C.2.1 dX8_badRide_15 ?_
  obtain ⟨r3, σ2, q_16, hf⟩ := bib hf
  refine z_callSI C S [.int v1, .int 0, .int ((σ1 30 0 0) - 1)] (m_X8_inRange l G ad σ1 v1 0 ((σ1 30 0 0) - 1) r3 σ2 q_16 _) kv_X8_inRange tw_6_204 ⟨Nat.le_of_ble_eq_true rfl, Nat.le_of_ble_eq_true rfl⟩ rfl rfl (Nat.le_of_ble_eq_true rfl) hl.1 ⟨Nat.le_of_ble_eq_true rfl, Nat.le_of_ble_eq_true rfl⟩ dX8_badRide_16 (fun H locs S => ?_)
  refine lv_if_eq (tgt := 43) C.1 C.2.1 dX8_badRide_19 (by decide) (fun c_19 => ?_) (fun c_19 => ?_)
  · rw [if_pos c_19] at hf
    exact w_X8_badRide_43 C _ _ _ _ S (lv_sub hl [] rfl) hf
  · rw [if_neg c_19] at hf
    refine lv_iload_n C.1 C.2.1 dX8_badRide_22 rfl (lv_at hl 2 rfl) ?_
    refine lv_iconst (v := 0) C.1 C.2.1 dX8_badRide_23 (by decide) ?_
    refine lv_aload_n C.1 C.2.1 dX8_badRide_24 rfl (lv_at hl 0 rfl) ?_
    refine z_getR C S 8 0 rfl (by decide) cf_8 0 (by decide) _ (gr_8_0 G ad 0) tw_6_118 dX8_badRide_25 ?_
    refine lv_iconst (v := 0) C.1 C.2.1 dX8_badRide_28 (by decide) ?_
    refine z_ialdL C S 30 0 rfl (by decide) 2111 (fun _ => rfl) 0 (by decide) (by decide) (by decide) dX8_badRide_29 ?_
    refine lv_iconst (v := 1) C.1 C.2.1 dX8_badRide_30 (by decide) ?_
    refine lv_isub C.1 C.2.1 dX8_badRide_31 ?_
    obtain ⟨r5, σ4, q_32, hf⟩ := bib hf
    refine z_callSI C S [.int v2, .int 0, .int ((σ2 30 0 0) - 1)] (m_X8_inRange l G ad σ2 v2 0 ((σ2 30 0 0) - 1) r5 σ4 q_32 _) kv_X8_inRange tw_6_204 ⟨Nat.le_of_ble_eq_true rfl, Nat.le_of_ble_eq_true rfl⟩ rfl rfl (Nat.le_of_ble_eq_true rfl) hl.1 ⟨Nat.le_of_ble_eq_true rfl, Nat.le_of_ble_eq_true rfl⟩ dX8_badRide_32 (fun H locs S => ?_)
    refine lv_if_eq (tgt := 43) C.1 C.2.1 dX8_badRide_35 (by decide) (fun c_35 => ?_) (fun c_35 => ?_)
    · rw [if_pos c_35] at hf
      exact w_X8_badRide_43 C _ _ _ _ S (lv_sub hl [] rfl) hf
    · rw [if_neg c_35] at hf
      refine lv_iload_n C.1 C.2.1 dX8_badRide_38 rfl (lv_at hl 1 rfl) ?_
      refine lv_iload_n C.1 C.2.1 dX8_badRide_39 rfl (lv_at hl 2 rfl) ?_
      refine lv_icmp_ne (tgt := 47) C.1 C.2.1 dX8_badRide_40 (by decide) (fun c_40 => ?_) (fun c_40 => ?_)
      · rw [if_neg c_40] at hf
        refine lv_iconst (v := 0) C.1 C.2.1 dX8_badRide_47 (by decide) ?_
        exact w_X8_badRide_48 C _ 0 _ _ _ S (lv_sub hl [] rfl) hf
      · rw [if_pos c_40] at hf
        exact w_X8_badRide_43 C _ _ _ _ S (lv_sub hl [] rfl) hf
theorem kv_X8_badRide : KV yX8_badRide cX8_badRide 3 (Option.some FieldType.boolean) 2 := ⟨tw_7_177, tw_7_176, tw_p_72, tw_1_10, by decide, by decide, by decide +kernel⟩
theorem m_X8_badRide (l : Launch) (G : Gx) (ad : Ad) (σ : Sg) (v1 : Int32) (v2 : Int32) (r : Int32) (σ' : Sg)  (hf : f_X8_badRide σ v1 v2 = some (r, σ')) (sz : Nat) : z_MI l yX8_badRide cX8_badRide 3 (Option.some FieldType.boolean) 1 22 1 G ad σ sz [.ref (ad 8 0), .int v1, .int v2] r σ' := by
  refine z_begin (by decide +kernel) (Nat.le_of_ble_eq_true rfl) [(0, .ref (ad 8 0)), (1, .int v1), (2, .int v2)] rfl (fun p e s m args below meth c ls C hz S hl => ?_)
  subst hz
  exact w_X8_badRide_0 (res := (r, σ')) C σ v1 v2 _ _ _ S hl  hf

theorem dX8_remembers_0 : decode cX8_remembers 0 = .ok (.aload_n 0, 1) := by decide +kernel
theorem dX8_remembers_1 : decode cX8_remembers 1 = .ok (.getfield 54, 3) := by decide +kernel
theorem dX8_remembers_4 : decode cX8_remembers 4 = .ok (.bipush 10, 2) := by decide +kernel
theorem dX8_remembers_6 : decode cX8_remembers 6 = .ok (.if_icmp .ne 31, 3) := by decide +kernel
theorem dX8_remembers_9 : decode cX8_remembers 9 = .ok (.aload_n 0, 1) := by decide +kernel
theorem dX8_remembers_10 : decode cX8_remembers 10 = .ok (.getfield 22, 3) := by decide +kernel
theorem dX8_remembers_13 : decode cX8_remembers 13 = .ok (.sipush 2111, 3) := by decide +kernel
theorem dX8_remembers_16 : decode cX8_remembers 16 = .ok (.aload_n 0, 1) := by decide +kernel
theorem dX8_remembers_17 : decode cX8_remembers 17 = .ok (.getfield 22, 3) := by decide +kernel
theorem dX8_remembers_20 : decode cX8_remembers 20 = .ok (.iconst 0, 1) := by decide +kernel
theorem dX8_remembers_21 : decode cX8_remembers 21 = .ok (.sipush 18999, 3) := by decide +kernel
theorem dX8_remembers_24 : decode cX8_remembers 24 = .ok (.invokestatic 57, 3) := by decide +kernel
theorem dX8_remembers_27 : decode cX8_remembers 27 = .ok (.aload_n 0, 1) := by decide +kernel
theorem dX8_remembers_28 : decode cX8_remembers 28 = .ok (.dup, 1) := by decide +kernel
theorem dX8_remembers_29 : decode cX8_remembers 29 = .ok (.getfield 54, 3) := by decide +kernel
theorem dX8_remembers_32 : decode cX8_remembers 32 = .ok (.iconst 1, 1) := by decide +kernel
theorem dX8_remembers_33 : decode cX8_remembers 33 = .ok (.isub, 1) := by decide +kernel
theorem dX8_remembers_34 : decode cX8_remembers 34 = .ok (.putfield 54, 3) := by decide +kernel
theorem dX8_remembers_37 : decode cX8_remembers 37 = .ok (.aload_n 0, 1) := by decide +kernel
theorem dX8_remembers_38 : decode cX8_remembers 38 = .ok (.getfield 7, 3) := by decide +kernel
theorem dX8_remembers_41 : decode cX8_remembers 41 = .ok (.iconst 0, 1) := by decide +kernel
theorem dX8_remembers_42 : decode cX8_remembers 42 = .ok (.aload_n 0, 1) := by decide +kernel
theorem dX8_remembers_43 : decode cX8_remembers 43 = .ok (.getfield 22, 3) := by decide +kernel
theorem dX8_remembers_46 : decode cX8_remembers 46 = .ok (.sipush 2111, 3) := by decide +kernel
theorem dX8_remembers_49 : decode cX8_remembers 49 = .ok (.aload_n 0, 1) := by decide +kernel
theorem dX8_remembers_50 : decode cX8_remembers 50 = .ok (.getfield 54, 3) := by decide +kernel
theorem dX8_remembers_53 : decode cX8_remembers 53 = .ok (.imul, 1) := by decide +kernel
theorem dX8_remembers_54 : decode cX8_remembers 54 = .ok (.sipush 2111, 3) := by decide +kernel
theorem dX8_remembers_57 : decode cX8_remembers 57 = .ok (.invokestatic 57, 3) := by decide +kernel
theorem dX8_remembers_60 : decode cX8_remembers 60 = .ok (.aload_n 0, 1) := by decide +kernel
theorem dX8_remembers_61 : decode cX8_remembers 61 = .ok (.dup, 1) := by decide +kernel
theorem dX8_remembers_62 : decode cX8_remembers 62 = .ok (.getfield 54, 3) := by decide +kernel
theorem dX8_remembers_65 : decode cX8_remembers 65 = .ok (.iconst 1, 1) := by decide +kernel
theorem dX8_remembers_66 : decode cX8_remembers 66 = .ok (.iadd, 1) := by decide +kernel
theorem dX8_remembers_67 : decode cX8_remembers 67 = .ok (.putfield 54, 3) := by decide +kernel
theorem dX8_remembers_70 : decode cX8_remembers 70 = .ok (.return_, 1) := by decide +kernel
/-! BusLiftsModel.remembers()V -/
noncomputable def f_X8_remembers_37  (σ : Sg)  : Option Sg := bv (f_X8_copies σ 30 0 2111 0 34 0 21110 (2111 * (σ 8 0 6)) 2111) fun σ1 => (st (sup σ1 8 0 6 ((σ1 8 0 6) + 1)) fun σ2 => (some σ2))
noncomputable def f_X8_remembers  (σ : Sg)  : Option Sg := if (σ 8 0 6) = 10 then (bv (f_X8_copies σ 34 0 21110 2111 34 0 21110 0 18999) fun σ1 => (st (sup σ1 8 0 6 ((σ1 8 0 6) - 1)) fun σ2 => (f_X8_remembers_37 σ2))) else (f_X8_remembers_37 σ)
set_option maxHeartbeats 4000000 in
set_option maxRecDepth 100000 in
theorem w_X8_remembers_37 {p : Program} {l : Launch} {e : Env} {s : State} {m : MethodId} {args : Array Value} {below : List Frame} {meth : Method} {c : Code} {G : Gx} {ad : Ad} {res : Sg} (C : Cx p s m args meth c yX8_remembers.cls cX8_remembers 1 none G)  : ∀ (σ : Sg)  (H : Heap) (locs : List Loc) (ls : Array Slot), z_S 1 G ad σ (z_A 1 ad s.heap.size) s.heap H locs → lv_has ls 1 [(0, .ref (ad 8 0))] → f_X8_remembers_37  σ  = some res → W p l e { frames := 1, cells := 0, slots := 0, locals := 25 } s m args below meth c H locs 0 0 (MQ below (va_Qv (S := Unit) (fun _ => True) (fun _ t => z_W 1 G ad res t.heap) (z_A 1 ad s.heap.size)) args s 0 0 (z_A 1 ad s.heap.size)) (F0 m 37 ls []) := by
  intro σ  H locs ls S hl  hf
  unfold f_X8_remembers_37 at hf
  refine lv_aload_n C.1 C.2.1 dX8_remembers_37 rfl (lv_at hl 0 rfl) ?_
  refine z_getR C S 8 0 rfl (by decide) cf_8 0 (by decide) _ (gr_8_0 G ad 0) tw_6_118 dX8_remembers_38 ?_
  refine lv_iconst (v := 0) C.1 C.2.1 dX8_remembers_41 (by decide) ?_
  refine lv_aload_n C.1 C.2.1 dX8_remembers_42 rfl (lv_at hl 0 rfl) ?_
  refine z_getR C S 8 0 rfl (by decide) cf_8 4 (by decide) _ (gr_8_4 G ad 0) tw_6_122 dX8_remembers_43 ?_
  refine lv_sipush (v := 2111) C.1 C.2.1 dX8_remembers_46 (by decide) ?_
  refine lv_aload_n C.1 C.2.1 dX8_remembers_49 rfl (lv_at hl 0 rfl) ?_
  refine z_getI C S 8 0 rfl (by decide) cf_8 6 (by decide) (gi_8_6 G ad 0) tw_6_124 dX8_remembers_50 ?_
  refine lv_imul C.1 C.2.1 dX8_remembers_53 ?_
  refine lv_sipush (v := 2111) C.1 C.2.1 dX8_remembers_54 (by decide) ?_
  obtain ⟨σ1, q_57, hf⟩ := bvb hf
  refine z_callSV C S [.ref (ad 30 0), .int 0, .ref (ad 34 0), .int (2111 * (σ 8 0 6)), .int 2111] (m_X8_copies l G ad σ 30 0 2111 0 34 0 21110 (2111 * (σ 8 0 6)) 2111 σ1 rfl (by decide) (fun _ _ _ _ => rfl) rfl (by decide) (fun _ _ _ _ => rfl) q_57 _) kv_X8_copies tw_6_211 ⟨Nat.le_of_ble_eq_true rfl, Nat.le_of_ble_eq_true rfl⟩ rfl rfl (Nat.le_of_ble_eq_true rfl) hl.1 ⟨Nat.le_of_ble_eq_true rfl, Nat.le_of_ble_eq_true rfl⟩ dX8_remembers_57 (fun H locs S => ?_)
  refine lv_aload_n C.1 C.2.1 dX8_remembers_60 rfl (lv_at hl 0 rfl) ?_
  refine lv_dup C.1 C.2.1 dX8_remembers_61 rfl ?_
  refine z_getI C S 8 0 rfl (by decide) cf_8 6 (by decide) (gi_8_6 G ad 0) tw_6_124 dX8_remembers_62 ?_
  refine lv_iconst (v := 1) C.1 C.2.1 dX8_remembers_65 (by decide) ?_
  refine lv_iadd C.1 C.2.1 dX8_remembers_66 ?_
  obtain ⟨σ2, e_67, hf⟩ := stb hf
  refine z_putI C S 8 0 rfl (by decide) cf_8 6 (by decide) (pi_8_6 G ad 0) rfl rfl rfl tw_6_124 dX8_remembers_67 (fun H locs S => ?_)
  rw [← e_67] at S
  exact z_vret C S hf dX8_remembers_70
set_option maxHeartbeats 4000000 in
set_option maxRecDepth 100000 in
theorem w_X8_remembers_0 {p : Program} {l : Launch} {e : Env} {s : State} {m : MethodId} {args : Array Value} {below : List Frame} {meth : Method} {c : Code} {G : Gx} {ad : Ad} {res : Sg} (C : Cx p s m args meth c yX8_remembers.cls cX8_remembers 1 none G)  : ∀ (σ : Sg)  (H : Heap) (locs : List Loc) (ls : Array Slot), z_S 1 G ad σ (z_A 1 ad s.heap.size) s.heap H locs → lv_has ls 1 [(0, .ref (ad 8 0))] → f_X8_remembers  σ  = some res → W p l e { frames := 1, cells := 0, slots := 0, locals := 25 } s m args below meth c H locs 0 0 (MQ below (va_Qv (S := Unit) (fun _ => True) (fun _ t => z_W 1 G ad res t.heap) (z_A 1 ad s.heap.size)) args s 0 0 (z_A 1 ad s.heap.size)) (F0 m 0 ls []) := by
  intro σ  H locs ls S hl  hf
  unfold f_X8_remembers at hf
  refine lv_aload_n C.1 C.2.1 dX8_remembers_0 rfl (lv_at hl 0 rfl) ?_
  refine z_getI C S 8 0 rfl (by decide) cf_8 6 (by decide) (gi_8_6 G ad 0) tw_6_124 dX8_remembers_1 ?_
  refine lv_bipush (v := 10) C.1 C.2.1 dX8_remembers_4 (by decide) ?_
  refine lv_icmp_ne (tgt := 37) C.1 C.2.1 dX8_remembers_6 (by decide) (fun c_6 => ?_) (fun c_6 => ?_)
  · rw [if_neg c_6] at hf
    exact w_X8_remembers_37 C _ _ _ _ S (lv_sub hl [0] rfl) hf
  · rw [if_pos c_6] at hf
    refine lv_aload_n C.1 C.2.1 dX8_remembers_9 rfl (lv_at hl 0 rfl) ?_
    refine z_getR C S 8 0 rfl (by decide) cf_8 4 (by decide) _ (gr_8_4 G ad 0) tw_6_122 dX8_remembers_10 ?_
    refine lv_sipush (v := 2111) C.1 C.2.1 dX8_remembers_13 (by decide) ?_
    refine lv_aload_n C.1 C.2.1 dX8_remembers_16 rfl (lv_at hl 0 rfl) ?_
    refine z_getR C S 8 0 rfl (by decide) cf_8 4 (by decide) _ (gr_8_4 G ad 0) tw_6_122 dX8_remembers_17 ?_
    refine lv_iconst (v := 0) C.1 C.2.1 dX8_remembers_20 (by decide) ?_
    refine lv_sipush (v := 18999) C.1 C.2.1 dX8_remembers_21 (by decide) ?_
    obtain ⟨σ1, q_24, hf⟩ := bvb hf
    refine z_callSV C S [.ref (ad 34 0), .int 2111, .ref (ad 34 0), .int 0, .int 18999] (m_X8_copies l G ad σ 34 0 21110 2111 34 0 21110 0 18999 σ1 rfl (by decide) (fun _ _ _ _ => rfl) rfl (by decide) (fun _ _ _ _ => rfl) q_24 _) kv_X8_copies tw_6_211 ⟨Nat.le_of_ble_eq_true rfl, Nat.le_of_ble_eq_true rfl⟩ rfl rfl (Nat.le_of_ble_eq_true rfl) hl.1 ⟨Nat.le_of_ble_eq_true rfl, Nat.le_of_ble_eq_true rfl⟩ dX8_remembers_24 (fun H locs S => ?_)
    refine lv_aload_n C.1 C.2.1 dX8_remembers_27 rfl (lv_at hl 0 rfl) ?_
    refine lv_dup C.1 C.2.1 dX8_remembers_28 rfl ?_
    refine z_getI C S 8 0 rfl (by decide) cf_8 6 (by decide) (gi_8_6 G ad 0) tw_6_124 dX8_remembers_29 ?_
    refine lv_iconst (v := 1) C.1 C.2.1 dX8_remembers_32 (by decide) ?_
    refine lv_isub C.1 C.2.1 dX8_remembers_33 ?_
    obtain ⟨σ2, e_34, hf⟩ := stb hf
    refine z_putI C S 8 0 rfl (by decide) cf_8 6 (by decide) (pi_8_6 G ad 0) rfl rfl rfl tw_6_124 dX8_remembers_34 (fun H locs S => ?_)
    rw [← e_34] at S
    exact w_X8_remembers_37 C _ _ _ _ S (lv_sub hl [0] rfl) hf
theorem kv_X8_remembers : KV yX8_remembers cX8_remembers 1 none 0 := ⟨tw_7_181, tw_7_180, tw_p_73, tw_1_10, by decide, by decide, by decide +kernel⟩
theorem m_X8_remembers (l : Launch) (G : Gx) (ad : Ad) (σ : Sg)  (σ' : Sg)  (hf : f_X8_remembers σ  = some σ') (sz : Nat) : z_MV l yX8_remembers cX8_remembers 1 none 1 25 1 G ad σ sz [.ref (ad 8 0)] σ' := by
  refine z_begin (by decide +kernel) (Nat.le_of_ble_eq_true rfl) [(0, .ref (ad 8 0))] rfl (fun p e s m args below meth c ls C hz S hl => ?_)
  subst hz
  exact w_X8_remembers_0 (res := σ') C σ  _ _ _ S hl  hf

theorem dX8_makeCall_0 : decode cX8_makeCall 0 = .ok (.aload_n 0, 1) := by decide +kernel
theorem dX8_makeCall_1 : decode cX8_makeCall 1 = .ok (.iload_n 1, 1) := by decide +kernel
theorem dX8_makeCall_2 : decode cX8_makeCall 2 = .ok (.iload_n 2, 1) := by decide +kernel
theorem dX8_makeCall_3 : decode cX8_makeCall 3 = .ok (.invokevirtual 289, 3) := by decide +kernel
theorem dX8_makeCall_6 : decode cX8_makeCall 6 = .ok (.ifCond .ne 27, 3) := by decide +kernel
theorem dX8_makeCall_9 : decode cX8_makeCall 9 = .ok (.aload_n 0, 1) := by decide +kernel
theorem dX8_makeCall_10 : decode cX8_makeCall 10 = .ok (.aload_n 0, 1) := by decide +kernel
theorem dX8_makeCall_11 : decode cX8_makeCall 11 = .ok (.getfield 7, 3) := by decide +kernel
theorem dX8_makeCall_14 : decode cX8_makeCall 14 = .ok (.iconst 2, 1) := by decide +kernel
theorem dX8_makeCall_15 : decode cX8_makeCall 15 = .ok (.iaload, 1) := by decide +kernel
theorem dX8_makeCall_16 : decode cX8_makeCall 16 = .ok (.bipush 24, 2) := by decide +kernel
theorem dX8_makeCall_18 : decode cX8_makeCall 18 = .ok (.if_icmp .ne 7, 3) := by decide +kernel
theorem dX8_makeCall_21 : decode cX8_makeCall 21 = .ok (.iconst 1, 1) := by decide +kernel
theorem dX8_makeCall_22 : decode cX8_makeCall 22 = .ok (.goto 4, 3) := by decide +kernel
theorem dX8_makeCall_25 : decode cX8_makeCall 25 = .ok (.iconst 0, 1) := by decide +kernel
theorem dX8_makeCall_26 : decode cX8_makeCall 26 = .ok (.iconst 2, 1) := by decide +kernel
theorem dX8_makeCall_27 : decode cX8_makeCall 27 = .ok (.invokevirtual 267, 3) := by decide +kernel
theorem dX8_makeCall_30 : decode cX8_makeCall 30 = .ok (.ifCond .eq 5, 3) := by decide +kernel
theorem dX8_makeCall_33 : decode cX8_makeCall 33 = .ok (.iconst 0, 1) := by decide +kernel
theorem dX8_makeCall_34 : decode cX8_makeCall 34 = .ok (.ireturn, 1) := by decide +kernel
theorem dX8_makeCall_35 : decode cX8_makeCall 35 = .ok (.aload_n 0, 1) := by decide +kernel
theorem dX8_makeCall_36 : decode cX8_makeCall 36 = .ok (.invokevirtual 292, 3) := by decide +kernel
theorem dX8_makeCall_39 : decode cX8_makeCall 39 = .ok (.aload_n 0, 1) := by decide +kernel
theorem dX8_makeCall_40 : decode cX8_makeCall 40 = .ok (.aload_n 0, 1) := by decide +kernel
theorem dX8_makeCall_41 : decode cX8_makeCall 41 = .ok (.getfield 7, 3) := by decide +kernel
theorem dX8_makeCall_44 : decode cX8_makeCall 44 = .ok (.iconst 3, 1) := by decide +kernel
theorem dX8_makeCall_45 : decode cX8_makeCall 45 = .ok (.iaload, 1) := by decide +kernel
theorem dX8_makeCall_46 : decode cX8_makeCall 46 = .ok (.iload_n 1, 1) := by decide +kernel
theorem dX8_makeCall_47 : decode cX8_makeCall 47 = .ok (.iload_n 2, 1) := by decide +kernel
theorem dX8_makeCall_48 : decode cX8_makeCall 48 = .ok (.invokevirtual 218, 3) := by decide +kernel
theorem dX8_makeCall_51 : decode cX8_makeCall 51 = .ok (.aload_n 0, 1) := by decide +kernel
theorem dX8_makeCall_52 : decode cX8_makeCall 52 = .ok (.getfield 7, 3) := by decide +kernel
theorem dX8_makeCall_55 : decode cX8_makeCall 55 = .ok (.iconst 2, 1) := by decide +kernel
theorem dX8_makeCall_56 : decode cX8_makeCall 56 = .ok (.iaload, 1) := by decide +kernel
theorem dX8_makeCall_57 : decode cX8_makeCall 57 = .ok (.iconst 1, 1) := by decide +kernel
theorem dX8_makeCall_58 : decode cX8_makeCall 58 = .ok (.isub, 1) := by decide +kernel
theorem dX8_makeCall_59 : decode cX8_makeCall 59 = .ok (.ireturn, 1) := by decide +kernel
/-! BusLiftsModel.makeCall(II)I -/
noncomputable def f_X8_makeCall_33  (σ : Sg)  : Option (Int32 × Sg) := some (0, σ)
noncomputable def f_X8_makeCall_26  (σ : Sg) (v1 : Int32) (v2 : Int32) (v101 : Int32) : Option (Int32 × Sg) := bi (f_X8_fails σ v101 2) fun r2 σ1 => (if r2 = 0 then (bv (f_X8_remembers σ1) fun σ3 => (bv (f_X8_addCall σ3 (σ3 30 0 3) v1 v2) fun σ4 => (some (((σ4 30 0 2) - 1), σ4)))) else (f_X8_makeCall_33 σ1))
noncomputable def f_X8_makeCall  (σ : Sg) (v1 : Int32) (v2 : Int32) : Option (Int32 × Sg) := bi (f_X8_badRide σ v1 v2) fun r2 σ1 => (if r2 = 0 then (if (σ1 30 0 2) = 24 then (f_X8_makeCall_26 σ1 v1 v2 1) else (f_X8_makeCall_26 σ1 v1 v2 0)) else (f_X8_makeCall_33 σ1))
set_option maxHeartbeats 4000000 in
set_option maxRecDepth 100000 in
theorem w_X8_makeCall_33 {p : Program} {l : Launch} {e : Env} {s : State} {m : MethodId} {args : Array Value} {below : List Frame} {meth : Method} {c : Code} {G : Gx} {ad : Ad} {res : Int32 × Sg} (C : Cx p s m args meth c yX8_makeCall.cls cX8_makeCall 3 (Option.some FieldType.int) G)  : ∀ (σ : Sg)  (H : Heap) (locs : List Loc) (ls : Array Slot), z_S 1 G ad σ (z_A 1 ad s.heap.size) s.heap H locs → lv_has ls 3 [] → f_X8_makeCall_33  σ  = some res → W p l e { frames := 3, cells := 0, slots := 0, locals := 70 } s m args below meth c H locs 0 0 (MQ below (va_Qi (S := Unit) (fun r1 _ => r1 = res.1) (fun _ t => z_W 1 G ad res.2 t.heap) (z_A 1 ad s.heap.size)) args s 0 0 (z_A 1 ad s.heap.size)) (F0 m 33 ls []) := by
  intro σ  H locs ls S hl  hf
  unfold f_X8_makeCall_33 at hf
  refine lv_iconst (v := 0) C.1 C.2.1 dX8_makeCall_33 (by decide) ?_
  exact z_iret C S hf dX8_makeCall_34
set_option maxHeartbeats 4000000 in
set_option maxRecDepth 100000 in
theorem w_X8_makeCall_26 {p : Program} {l : Launch} {e : Env} {s : State} {m : MethodId} {args : Array Value} {below : List Frame} {meth : Method} {c : Code} {G : Gx} {ad : Ad} {res : Int32 × Sg} (C : Cx p s m args meth c yX8_makeCall.cls cX8_makeCall 3 (Option.some FieldType.int) G)  : ∀ (σ : Sg) (v1 : Int32) (v2 : Int32) (v101 : Int32) (H : Heap) (locs : List Loc) (ls : Array Slot), z_S 1 G ad σ (z_A 1 ad s.heap.size) s.heap H locs → lv_has ls 3 [(0, .ref (ad 8 0)), (1, .int v1), (2, .int v2)] → f_X8_makeCall_26  σ v1 v2 v101 = some res → W p l e { frames := 3, cells := 0, slots := 0, locals := 70 } s m args below meth c H locs 0 0 (MQ below (va_Qi (S := Unit) (fun r1 _ => r1 = res.1) (fun _ t => z_W 1 G ad res.2 t.heap) (z_A 1 ad s.heap.size)) args s 0 0 (z_A 1 ad s.heap.size)) (F0 m 26 ls [.int v101, .ref (ad 8 0)]) := by
  intro σ v1 v2 v101 H locs ls S hl  hf
  unfold f_X8_makeCall_26 at hf
  refine lv_iconst (v := 2) C.1 C.2.1 dX8_makeCall_26 (by decide) ?_
  obtain ⟨r2, σ1, q_27, hf⟩ := bib hf
  refine z_callI C S 8 0 rfl (by decide) cf_8 ⟨_, rfl⟩ [.int v101, .int 2] (m_X8_fails l G ad σ v101 2 r2 σ1 q_27 _) kv_X8_fails tw_7_56 ⟨Nat.le_of_ble_eq_true rfl, Nat.le_of_ble_eq_true rfl⟩ rfl rfl (Nat.le_of_ble_eq_true rfl) hl.1 ⟨Nat.le_of_ble_eq_true rfl, Nat.le_of_ble_eq_true rfl⟩ dX8_makeCall_27 (fun H locs S => ?_)
  refine lv_if_eq (tgt := 35) C.1 C.2.1 dX8_makeCall_30 (by decide) (fun c_30 => ?_) (fun c_30 => ?_)
  · rw [if_pos c_30] at hf
    refine lv_aload_n C.1 C.2.1 dX8_makeCall_35 rfl (lv_at hl 0 rfl) ?_
    obtain ⟨σ3, q_36, hf⟩ := bvb hf
    refine z_callV C S 8 0 rfl (by decide) cf_8 ⟨_, rfl⟩ [] (m_X8_remembers l G ad σ1 σ3 q_36 _) kv_X8_remembers tw_7_178 ⟨Nat.le_of_ble_eq_true rfl, Nat.le_of_ble_eq_true rfl⟩ rfl rfl (Nat.le_of_ble_eq_true rfl) hl.1 ⟨Nat.le_of_ble_eq_true rfl, Nat.le_of_ble_eq_true rfl⟩ dX8_makeCall_36 (fun H locs S => ?_)
    refine lv_aload_n C.1 C.2.1 dX8_makeCall_39 rfl (lv_at hl 0 rfl) ?_
    refine lv_aload_n C.1 C.2.1 dX8_makeCall_40 rfl (lv_at hl 0 rfl) ?_
    refine z_getR C S 8 0 rfl (by decide) cf_8 0 (by decide) _ (gr_8_0 G ad 0) tw_6_118 dX8_makeCall_41 ?_
    refine lv_iconst (v := 3) C.1 C.2.1 dX8_makeCall_44 (by decide) ?_
    refine z_ialdL C S 30 0 rfl (by decide) 2111 (fun _ => rfl) 3 (by decide) (by decide) (by decide) dX8_makeCall_45 ?_
    refine lv_iload_n C.1 C.2.1 dX8_makeCall_46 rfl (lv_at hl 1 rfl) ?_
    refine lv_iload_n C.1 C.2.1 dX8_makeCall_47 rfl (lv_at hl 2 rfl) ?_
    obtain ⟨σ4, q_48, hf⟩ := bvb hf
    refine z_callV C S 8 0 rfl (by decide) cf_8 ⟨_, rfl⟩ [.int (σ3 30 0 3), .int v1, .int v2] (m_X8_addCall l G ad σ3 (σ3 30 0 3) v1 v2 σ4 q_48 _) kv_X8_addCall tw_7_23 ⟨Nat.le_of_ble_eq_true rfl, Nat.le_of_ble_eq_true rfl⟩ rfl rfl (Nat.le_of_ble_eq_true rfl) hl.1 ⟨Nat.le_of_ble_eq_true rfl, Nat.le_of_ble_eq_true rfl⟩ dX8_makeCall_48 (fun H locs S => ?_)
    refine lv_aload_n C.1 C.2.1 dX8_makeCall_51 rfl (lv_at hl 0 rfl) ?_
    refine z_getR C S 8 0 rfl (by decide) cf_8 0 (by decide) _ (gr_8_0 G ad 0) tw_6_118 dX8_makeCall_52 ?_
    refine lv_iconst (v := 2) C.1 C.2.1 dX8_makeCall_55 (by decide) ?_
    refine z_ialdL C S 30 0 rfl (by decide) 2111 (fun _ => rfl) 2 (by decide) (by decide) (by decide) dX8_makeCall_56 ?_
    refine lv_iconst (v := 1) C.1 C.2.1 dX8_makeCall_57 (by decide) ?_
    refine lv_isub C.1 C.2.1 dX8_makeCall_58 ?_
    exact z_iret C S hf dX8_makeCall_59
  · rw [if_neg c_30] at hf
    exact w_X8_makeCall_33 C _ _ _ _ S (lv_sub hl [] rfl) hf
set_option maxHeartbeats 4000000 in
set_option maxRecDepth 100000 in
theorem w_X8_makeCall_0 {p : Program} {l : Launch} {e : Env} {s : State} {m : MethodId} {args : Array Value} {below : List Frame} {meth : Method} {c : Code} {G : Gx} {ad : Ad} {res : Int32 × Sg} (C : Cx p s m args meth c yX8_makeCall.cls cX8_makeCall 3 (Option.some FieldType.int) G)  : ∀ (σ : Sg) (v1 : Int32) (v2 : Int32) (H : Heap) (locs : List Loc) (ls : Array Slot), z_S 1 G ad σ (z_A 1 ad s.heap.size) s.heap H locs → lv_has ls 3 [(0, .ref (ad 8 0)), (1, .int v1), (2, .int v2)] → f_X8_makeCall  σ v1 v2 = some res → W p l e { frames := 3, cells := 0, slots := 0, locals := 70 } s m args below meth c H locs 0 0 (MQ below (va_Qi (S := Unit) (fun r1 _ => r1 = res.1) (fun _ t => z_W 1 G ad res.2 t.heap) (z_A 1 ad s.heap.size)) args s 0 0 (z_A 1 ad s.heap.size)) (F0 m 0 ls []) := by
  intro σ v1 v2 H locs ls S hl  hf
  unfold f_X8_makeCall at hf
  refine lv_aload_n C.1 C.2.1 dX8_makeCall_0 rfl (lv_at hl 0 rfl) ?_
  refine lv_iload_n C.1 C.2.1 dX8_makeCall_1 rfl (lv_at hl 1 rfl) ?_
  refine lv_iload_n C.1 C.2.1 dX8_makeCall_2 rfl (lv_at hl 2 rfl) ?_
  obtain ⟨r2, σ1, q_3, hf⟩ := bib hf
  refine z_callI C S 8 0 rfl (by decide) cf_8 ⟨_, rfl⟩ [.int v1, .int v2] (m_X8_badRide l G ad σ v1 v2 r2 σ1 q_3 _) kv_X8_badRide tw_7_174 ⟨Nat.le_of_ble_eq_true rfl, Nat.le_of_ble_eq_true rfl⟩ rfl rfl (Nat.le_of_ble_eq_true rfl) hl.1 ⟨Nat.le_of_ble_eq_true rfl, Nat.le_of_ble_eq_true rfl⟩ dX8_makeCall_3 (fun H locs S => ?_)
  refine lv_if_ne (tgt := 33) C.1 C.2.1 dX8_makeCall_6 (by decide) (fun c_6 => ?_) (fun c_6 => ?_)
  · rw [if_neg c_6] at hf
    exact w_X8_makeCall_33 C _ _ _ _ S (lv_sub hl [] rfl) hf
  · rw [if_pos c_6] at hf
    refine lv_aload_n C.1 C.2.1 dX8_makeCall_9 rfl (lv_at hl 0 rfl) ?_
    refine lv_aload_n C.1 C.2.1 dX8_makeCall_10 rfl (lv_at hl 0 rfl) ?_
    refine z_getR C S 8 0 rfl (by decide) cf_8 0 (by decide) _ (gr_8_0 G ad 0) tw_6_118 dX8_makeCall_11 ?_
    refine lv_iconst (v := 2) C.1 C.2.1 dX8_makeCall_14 (by decide) ?_
    refine z_ialdL C S 30 0 rfl (by decide) 2111 (fun _ => rfl) 2 (by decide) (by decide) (by decide) dX8_makeCall_15 ?_
    refine lv_bipush (v := 24) C.1 C.2.1 dX8_makeCall_16 (by decide) ?_
    refine lv_icmp_ne (tgt := 25) C.1 C.2.1 dX8_makeCall_18 (by decide) (fun c_18 => ?_) (fun c_18 => ?_)
    · rw [if_neg c_18] at hf
      refine lv_iconst (v := 0) C.1 C.2.1 dX8_makeCall_25 (by decide) ?_
      exact w_X8_makeCall_26 C _ v1 v2 0 _ _ _ S (lv_sub hl [0, 1, 2] rfl) hf
    · rw [if_pos c_18] at hf
      refine lv_iconst (v := 1) C.1 C.2.1 dX8_makeCall_21 (by decide) ?_
      refine lv_goto (tgt := 26) C.1 C.2.1 dX8_makeCall_22 (by decide) ?_
      exact w_X8_makeCall_26 C _ v1 v2 1 _ _ _ S (lv_sub hl [0, 1, 2] rfl) hf
theorem kv_X8_makeCall : KV yX8_makeCall cX8_makeCall 3 (Option.some FieldType.int) 2 := ⟨tw_7_173, tw_7_171, tw_7_172, tw_1_10, by decide, by decide, by decide +kernel⟩
theorem m_X8_makeCall (l : Launch) (G : Gx) (ad : Ad) (σ : Sg) (v1 : Int32) (v2 : Int32) (r : Int32) (σ' : Sg)  (hf : f_X8_makeCall σ v1 v2 = some (r, σ')) (sz : Nat) : z_MI l yX8_makeCall cX8_makeCall 3 (Option.some FieldType.int) 3 70 1 G ad σ sz [.ref (ad 8 0), .int v1, .int v2] r σ' := by
  refine z_begin (by decide +kernel) (Nat.le_of_ble_eq_true rfl) [(0, .ref (ad 8 0)), (1, .int v1), (2, .int v2)] rfl (fun p e s m args below meth c ls C hz S hl => ?_)
  subst hz
  exact w_X8_makeCall_0 (res := (r, σ')) C σ v1 v2 _ _ _ S hl  hf

theorem dX8_badTicks_0 : decode cX8_badTicks 0 = .ok (.aload_n 0, 1) := by decide +kernel
theorem dX8_badTicks_1 : decode cX8_badTicks 1 = .ok (.iconst 0, 1) := by decide +kernel
theorem dX8_badTicks_2 : decode cX8_badTicks 2 = .ok (.putfield 48, 3) := by decide +kernel
theorem dX8_badTicks_5 : decode cX8_badTicks 5 = .ok (.aload_n 0, 1) := by decide +kernel
theorem dX8_badTicks_6 : decode cX8_badTicks 6 = .ok (.iload_n 1, 1) := by decide +kernel
theorem dX8_badTicks_7 : decode cX8_badTicks 7 = .ok (.iconst 1, 1) := by decide +kernel
theorem dX8_badTicks_8 : decode cX8_badTicks 8 = .ok (.sipush 500, 3) := by decide +kernel
theorem dX8_badTicks_11 : decode cX8_badTicks 11 = .ok (.invokestatic 165, 3) := by decide +kernel
theorem dX8_badTicks_14 : decode cX8_badTicks 14 = .ok (.ifCond .ne 7, 3) := by decide +kernel
theorem dX8_badTicks_17 : decode cX8_badTicks 17 = .ok (.iconst 1, 1) := by decide +kernel
theorem dX8_badTicks_18 : decode cX8_badTicks 18 = .ok (.goto 4, 3) := by decide +kernel
theorem dX8_badTicks_21 : decode cX8_badTicks 21 = .ok (.iconst 0, 1) := by decide +kernel
theorem dX8_badTicks_22 : decode cX8_badTicks 22 = .ok (.iconst 1, 1) := by decide +kernel
theorem dX8_badTicks_23 : decode cX8_badTicks 23 = .ok (.invokevirtual 267, 3) := by decide +kernel
theorem dX8_badTicks_26 : decode cX8_badTicks 26 = .ok (.ireturn, 1) := by decide +kernel
/-! BusLiftsModel.badTicks(I)Z -/
noncomputable def f_X8_badTicks_22  (σ : Sg) (v101 : Int32) : Option (Int32 × Sg) := bi (f_X8_fails σ v101 1) fun r2 σ1 => (if ¬ (r2 = 0 ∨ r2 = 1) then none else (some (r2, σ1)))
noncomputable def f_X8_badTicks  (σ : Sg) (v1 : Int32) : Option (Int32 × Sg) := st (sup σ 8 0 8 0) fun σ1 => (bi (f_X8_inRange σ1 v1 1 500) fun r3 σ2 => (if r3 = 0 then (f_X8_badTicks_22 σ2 1) else (f_X8_badTicks_22 σ2 0)))
set_option maxHeartbeats 4000000 in
set_option maxRecDepth 100000 in
theorem w_X8_badTicks_22 {p : Program} {l : Launch} {e : Env} {s : State} {m : MethodId} {args : Array Value} {below : List Frame} {meth : Method} {c : Code} {G : Gx} {ad : Ad} {res : Int32 × Sg} (C : Cx p s m args meth c yX8_badTicks.cls cX8_badTicks 2 (Option.some FieldType.boolean) G)  : ∀ (σ : Sg) (v101 : Int32) (H : Heap) (locs : List Loc) (ls : Array Slot), z_S 1 G ad σ (z_A 1 ad s.heap.size) s.heap H locs → lv_has ls 2 [] → f_X8_badTicks_22  σ v101 = some res → W p l e { frames := 1, cells := 0, slots := 0, locals := 22 } s m args below meth c H locs 0 0 (MQ below (va_Qi (S := Unit) (fun r1 _ => r1 = res.1) (fun _ t => z_W 1 G ad res.2 t.heap) (z_A 1 ad s.heap.size)) args s 0 0 (z_A 1 ad s.heap.size)) (F0 m 22 ls [.int v101, .ref (ad 8 0)]) := by
  intro σ v101 H locs ls S hl  hf
  unfold f_X8_badTicks_22 at hf
  refine lv_iconst (v := 1) C.1 C.2.1 dX8_badTicks_22 (by decide) ?_
  obtain ⟨r2, σ1, q_23, hf⟩ := bib hf
  refine z_callI C S 8 0 rfl (by decide) cf_8 ⟨_, rfl⟩ [.int v101, .int 1] (m_X8_fails l G ad σ v101 1 r2 σ1 q_23 _) kv_X8_fails tw_7_56 ⟨Nat.le_of_ble_eq_true rfl, Nat.le_of_ble_eq_true rfl⟩ rfl rfl (Nat.le_of_ble_eq_true rfl) hl.1 ⟨Nat.le_of_ble_eq_true rfl, Nat.le_of_ble_eq_true rfl⟩ dX8_badTicks_23 (fun H locs S => ?_)
  obtain ⟨g_26, hf⟩ := gd hf
  exact z_zret C S (nbz g_26).1 hf dX8_badTicks_26
set_option maxHeartbeats 4000000 in
set_option maxRecDepth 100000 in
theorem w_X8_badTicks_0 {p : Program} {l : Launch} {e : Env} {s : State} {m : MethodId} {args : Array Value} {below : List Frame} {meth : Method} {c : Code} {G : Gx} {ad : Ad} {res : Int32 × Sg} (C : Cx p s m args meth c yX8_badTicks.cls cX8_badTicks 2 (Option.some FieldType.boolean) G)  : ∀ (σ : Sg) (v1 : Int32) (H : Heap) (locs : List Loc) (ls : Array Slot), z_S 1 G ad σ (z_A 1 ad s.heap.size) s.heap H locs → lv_has ls 2 [(0, .ref (ad 8 0)), (1, .int v1)] → f_X8_badTicks  σ v1 = some res → W p l e { frames := 1, cells := 0, slots := 0, locals := 22 } s m args below meth c H locs 0 0 (MQ below (va_Qi (S := Unit) (fun r1 _ => r1 = res.1) (fun _ t => z_W 1 G ad res.2 t.heap) (z_A 1 ad s.heap.size)) args s 0 0 (z_A 1 ad s.heap.size)) (F0 m 0 ls []) := by
  intro σ v1 H locs ls S hl  hf
  unfold f_X8_badTicks at hf
  refine lv_aload_n C.1 C.2.1 dX8_badTicks_0 rfl (lv_at hl 0 rfl) ?_
  refine lv_iconst (v := 0) C.1 C.2.1 dX8_badTicks_1 (by decide) ?_
  obtain ⟨σ1, e_2, hf⟩ := stb hf
  refine z_putI C S 8 0 rfl (by decide) cf_8 8 (by decide) (pi_8_8 G ad 0) rfl rfl rfl tw_6_126 dX8_badTicks_2 (fun H locs S => ?_)
  rw [← e_2] at S
  refine lv_aload_n C.1 C.2.1 dX8_badTicks_5 rfl (lv_at hl 0 rfl) ?_
  refine lv_iload_n C.1 C.2.1 dX8_badTicks_6 rfl (lv_at hl 1 rfl) ?_
  refine lv_iconst (v := 1) C.1 C.2.1 dX8_badTicks_7 (by decide) ?_
  refine lv_sipush (v := 500) C.1 C.2.1 dX8_badTicks_8 (by decide) ?_
  obtain ⟨r3, σ2, q_11, hf⟩ := bib hf
  refine z_callSI C S [.int v1, .int 1, .int 500] (m_X8_inRange l G ad σ1 v1 1 500 r3 σ2 q_11 _) kv_X8_inRange tw_6_204 ⟨Nat.le_of_ble_eq_true rfl, Nat.le_of_ble_eq_true rfl⟩ rfl rfl (Nat.le_of_ble_eq_true rfl) hl.1 ⟨Nat.le_of_ble_eq_true rfl, Nat.le_of_ble_eq_true rfl⟩ dX8_badTicks_11 (fun H locs S => ?_)
  refine lv_if_ne (tgt := 21) C.1 C.2.1 dX8_badTicks_14 (by decide) (fun c_14 => ?_) (fun c_14 => ?_)
  · rw [if_neg c_14] at hf
    refine lv_iconst (v := 0) C.1 C.2.1 dX8_badTicks_21 (by decide) ?_
    exact w_X8_badTicks_22 C _ 0 _ _ _ S (lv_sub hl [] rfl) hf
  · rw [if_pos c_14] at hf
    refine lv_iconst (v := 1) C.1 C.2.1 dX8_badTicks_17 (by decide) ?_
    refine lv_goto (tgt := 22) C.1 C.2.1 dX8_badTicks_18 (by decide) ?_
    exact w_X8_badTicks_22 C _ 1 _ _ _ S (lv_sub hl [] rfl) hf
theorem kv_X8_badTicks : KV yX8_badTicks cX8_badTicks 2 (Option.some FieldType.boolean) 1 := ⟨tw_7_189, tw_7_188, tw_p_74, tw_1_10, by decide, by decide, by decide +kernel⟩
theorem m_X8_badTicks (l : Launch) (G : Gx) (ad : Ad) (σ : Sg) (v1 : Int32) (r : Int32) (σ' : Sg)  (hf : f_X8_badTicks σ v1 = some (r, σ')) (sz : Nat) : z_MI l yX8_badTicks cX8_badTicks 2 (Option.some FieldType.boolean) 1 22 1 G ad σ sz [.ref (ad 8 0), .int v1] r σ' := by
  refine z_begin (by decide +kernel) (Nat.le_of_ble_eq_true rfl) [(0, .ref (ad 8 0)), (1, .int v1)] rfl (fun p e s m args below meth c ls C hz S hl => ?_)
  subst hz
  exact w_X8_badTicks_0 (res := (r, σ')) C σ v1 _ _ _ S hl  hf

theorem dX8_sends_0 : decode cX8_sends 0 = .ok (.sipush 1087, 3) := by decide +kernel
theorem dX8_sends_3 : decode cX8_sends 3 = .ok (.iconst 4, 1) := by decide +kernel
theorem dX8_sends_4 : decode cX8_sends 4 = .ok (.aload_n 0, 1) := by decide +kernel
theorem dX8_sends_5 : decode cX8_sends 5 = .ok (.getfield 7, 3) := by decide +kernel
theorem dX8_sends_8 : decode cX8_sends 8 = .ok (.bipush 10, 2) := by decide +kernel
theorem dX8_sends_10 : decode cX8_sends 10 = .ok (.iaload, 1) := by decide +kernel
theorem dX8_sends_11 : decode cX8_sends 11 = .ok (.imul, 1) := by decide +kernel
theorem dX8_sends_12 : decode cX8_sends 12 = .ok (.iadd, 1) := by decide +kernel
theorem dX8_sends_13 : decode cX8_sends 13 = .ok (.istore 5, 2) := by decide +kernel
theorem dX8_sends_15 : decode cX8_sends 15 = .ok (.aload_n 0, 1) := by decide +kernel
theorem dX8_sends_16 : decode cX8_sends 16 = .ok (.getfield 7, 3) := by decide +kernel
theorem dX8_sends_19 : decode cX8_sends 19 = .ok (.iload 5, 2) := by decide +kernel
theorem dX8_sends_21 : decode cX8_sends 21 = .ok (.iload_n 1, 1) := by decide +kernel
theorem dX8_sends_22 : decode cX8_sends 22 = .ok (.iastore, 1) := by decide +kernel
theorem dX8_sends_23 : decode cX8_sends 23 = .ok (.aload_n 0, 1) := by decide +kernel
theorem dX8_sends_24 : decode cX8_sends 24 = .ok (.getfield 7, 3) := by decide +kernel
theorem dX8_sends_27 : decode cX8_sends 27 = .ok (.iload 5, 2) := by decide +kernel
theorem dX8_sends_29 : decode cX8_sends 29 = .ok (.iconst 1, 1) := by decide +kernel
theorem dX8_sends_30 : decode cX8_sends 30 = .ok (.iadd, 1) := by decide +kernel
theorem dX8_sends_31 : decode cX8_sends 31 = .ok (.iload_n 2, 1) := by decide +kernel
theorem dX8_sends_32 : decode cX8_sends 32 = .ok (.iastore, 1) := by decide +kernel
theorem dX8_sends_33 : decode cX8_sends 33 = .ok (.aload_n 0, 1) := by decide +kernel
theorem dX8_sends_34 : decode cX8_sends 34 = .ok (.getfield 7, 3) := by decide +kernel
theorem dX8_sends_37 : decode cX8_sends 37 = .ok (.iload 5, 2) := by decide +kernel
theorem dX8_sends_39 : decode cX8_sends 39 = .ok (.iconst 2, 1) := by decide +kernel
theorem dX8_sends_40 : decode cX8_sends 40 = .ok (.iadd, 1) := by decide +kernel
theorem dX8_sends_41 : decode cX8_sends 41 = .ok (.iload_n 3, 1) := by decide +kernel
theorem dX8_sends_42 : decode cX8_sends 42 = .ok (.iastore, 1) := by decide +kernel
theorem dX8_sends_43 : decode cX8_sends 43 = .ok (.aload_n 0, 1) := by decide +kernel
theorem dX8_sends_44 : decode cX8_sends 44 = .ok (.getfield 7, 3) := by decide +kernel
theorem dX8_sends_47 : decode cX8_sends 47 = .ok (.iload 5, 2) := by decide +kernel
theorem dX8_sends_49 : decode cX8_sends 49 = .ok (.iconst 3, 1) := by decide +kernel
theorem dX8_sends_50 : decode cX8_sends 50 = .ok (.iadd, 1) := by decide +kernel
theorem dX8_sends_51 : decode cX8_sends 51 = .ok (.iload 4, 2) := by decide +kernel
theorem dX8_sends_53 : decode cX8_sends 53 = .ok (.iastore, 1) := by decide +kernel
theorem dX8_sends_54 : decode cX8_sends 54 = .ok (.aload_n 0, 1) := by decide +kernel
theorem dX8_sends_55 : decode cX8_sends 55 = .ok (.getfield 7, 3) := by decide +kernel
theorem dX8_sends_58 : decode cX8_sends 58 = .ok (.bipush 10, 2) := by decide +kernel
theorem dX8_sends_60 : decode cX8_sends 60 = .ok (.dup2, 1) := by decide +kernel
theorem dX8_sends_61 : decode cX8_sends 61 = .ok (.iaload, 1) := by decide +kernel
theorem dX8_sends_62 : decode cX8_sends 62 = .ok (.iconst 1, 1) := by decide +kernel
theorem dX8_sends_63 : decode cX8_sends 63 = .ok (.iadd, 1) := by decide +kernel
theorem dX8_sends_64 : decode cX8_sends 64 = .ok (.iastore, 1) := by decide +kernel
theorem dX8_sends_65 : decode cX8_sends 65 = .ok (.aload_n 0, 1) := by decide +kernel
theorem dX8_sends_66 : decode cX8_sends 66 = .ok (.getfield 7, 3) := by decide +kernel
theorem dX8_sends_69 : decode cX8_sends 69 = .ok (.bipush 11, 2) := by decide +kernel
theorem dX8_sends_71 : decode cX8_sends 71 = .ok (.iload_n 1, 1) := by decide +kernel
theorem dX8_sends_72 : decode cX8_sends 72 = .ok (.iadd, 1) := by decide +kernel
theorem dX8_sends_73 : decode cX8_sends 73 = .ok (.dup2, 1) := by decide +kernel
theorem dX8_sends_74 : decode cX8_sends 74 = .ok (.iaload, 1) := by decide +kernel
theorem dX8_sends_75 : decode cX8_sends 75 = .ok (.iconst 1, 1) := by decide +kernel
theorem dX8_sends_76 : decode cX8_sends 76 = .ok (.iadd, 1) := by decide +kernel
theorem dX8_sends_77 : decode cX8_sends 77 = .ok (.iastore, 1) := by decide +kernel
theorem dX8_sends_78 : decode cX8_sends 78 = .ok (.return_, 1) := by decide +kernel
/-! BusLiftsModel.sends(IIII)V -/
noncomputable def f_X8_sends  (σ : Sg) (v1 : Int32) (v2 : Int32) (v3 : Int32) (v4 : Int32) : Option Sg := if (1087 + (4 * (σ 30 0 10))) < 0 ∨ 2111 ≤ ((1087 + (4 * (σ 30 0 10)))).toNatClampNeg then none else (st (sup σ 30 0 ((1087 + (4 * (σ 30 0 10)))).toNatClampNeg v1) fun σ1 => (if ((1087 + (4 * (σ 30 0 10))) + 1) < 0 ∨ 2111 ≤ (((1087 + (4 * (σ 30 0 10))) + 1)).toNatClampNeg then none else (st (sup σ1 30 0 (((1087 + (4 * (σ 30 0 10))) + 1)).toNatClampNeg v2) fun σ2 => (if ((1087 + (4 * (σ 30 0 10))) + 2) < 0 ∨ 2111 ≤ (((1087 + (4 * (σ 30 0 10))) + 2)).toNatClampNeg then none else (st (sup σ2 30 0 (((1087 + (4 * (σ 30 0 10))) + 2)).toNatClampNeg v3) fun σ3 => (if ((1087 + (4 * (σ 30 0 10))) + 3) < 0 ∨ 2111 ≤ (((1087 + (4 * (σ 30 0 10))) + 3)).toNatClampNeg then none else (st (sup σ3 30 0 (((1087 + (4 * (σ 30 0 10))) + 3)).toNatClampNeg v4) fun σ4 => (st (sup σ4 30 0 10 ((σ4 30 0 10) + 1)) fun σ5 => (if (11 + v1) < 0 ∨ 2111 ≤ ((11 + v1)).toNatClampNeg then none else (if (11 + v1) < 0 ∨ 2111 ≤ ((11 + v1)).toNatClampNeg then none else (st (sup σ5 30 0 ((11 + v1)).toNatClampNeg ((σ5 30 0 ((11 + v1)).toNatClampNeg) + 1)) fun σ6 => (some σ6))))))))))))
set_option maxHeartbeats 4000000 in
set_option maxRecDepth 100000 in
theorem w_X8_sends_0 {p : Program} {l : Launch} {e : Env} {s : State} {m : MethodId} {args : Array Value} {below : List Frame} {meth : Method} {c : Code} {G : Gx} {ad : Ad} {res : Sg} (C : Cx p s m args meth c yX8_sends.cls cX8_sends 6 none G)  : ∀ (σ : Sg) (v1 : Int32) (v2 : Int32) (v3 : Int32) (v4 : Int32) (H : Heap) (locs : List Loc) (ls : Array Slot), z_S 1 G ad σ (z_A 1 ad s.heap.size) s.heap H locs → lv_has ls 6 [(0, .ref (ad 8 0)), (1, .int v1), (2, .int v2), (3, .int v3), (4, .int v4)] → f_X8_sends  σ v1 v2 v3 v4 = some res → W p l e { frames := 0, cells := 0, slots := 0, locals := 0 } s m args below meth c H locs 0 0 (MQ below (va_Qv (S := Unit) (fun _ => True) (fun _ t => z_W 1 G ad res t.heap) (z_A 1 ad s.heap.size)) args s 0 0 (z_A 1 ad s.heap.size)) (F0 m 0 ls []) := by
  intro σ v1 v2 v3 v4 H locs ls S hl  hf
  unfold f_X8_sends at hf
  refine lv_sipush (v := 1087) C.1 C.2.1 dX8_sends_0 (by decide) ?_
  refine lv_iconst (v := 4) C.1 C.2.1 dX8_sends_3 (by decide) ?_
  refine lv_aload_n C.1 C.2.1 dX8_sends_4 rfl (lv_at hl 0 rfl) ?_
  refine z_getR C S 8 0 rfl (by decide) cf_8 0 (by decide) _ (gr_8_0 G ad 0) tw_6_118 dX8_sends_5 ?_
  refine lv_bipush (v := 10) C.1 C.2.1 dX8_sends_8 (by decide) ?_
  refine z_ialdL C S 30 0 rfl (by decide) 2111 (fun _ => rfl) 10 (by decide) (by decide) (by decide) dX8_sends_10 ?_
  refine lv_imul C.1 C.2.1 dX8_sends_11 ?_
  refine lv_iadd C.1 C.2.1 dX8_sends_12 ?_
  refine lv_istore (lv' := [(5, .int (1087 + (4 * (σ 30 0 10)))), (0, .ref (ad 8 0)), (1, .int v1), (2, .int v2), (3, .int v3), (4, .int v4)]) C.1 C.2.1 dX8_sends_13 hl (by decide) rfl (fun ls hl => ?_)
  refine lv_aload_n C.1 C.2.1 dX8_sends_15 rfl (lv_at hl 1 rfl) ?_
  refine z_getR C S 8 0 rfl (by decide) cf_8 0 (by decide) _ (gr_8_0 G ad 0) tw_6_118 dX8_sends_16 ?_
  refine lv_iload C.1 C.2.1 dX8_sends_19 (lv_at hl 0 rfl) ?_
  refine lv_iload_n C.1 C.2.1 dX8_sends_21 rfl (lv_at hl 2 rfl) ?_
  obtain ⟨g_22, hf⟩ := gd hf
  obtain ⟨σ1, e_22, hf⟩ := stb hf
  refine z_iast C S 30 0 rfl (by decide) 2111 (fun _ => rfl) g_22 dX8_sends_22 (fun H locs S => ?_)
  rw [← e_22] at S
  refine lv_aload_n C.1 C.2.1 dX8_sends_23 rfl (lv_at hl 1 rfl) ?_
  refine z_getR C S 8 0 rfl (by decide) cf_8 0 (by decide) _ (gr_8_0 G ad 0) tw_6_118 dX8_sends_24 ?_
  refine lv_iload C.1 C.2.1 dX8_sends_27 (lv_at hl 0 rfl) ?_
  refine lv_iconst (v := 1) C.1 C.2.1 dX8_sends_29 (by decide) ?_
  refine lv_iadd C.1 C.2.1 dX8_sends_30 ?_
  refine lv_iload_n C.1 C.2.1 dX8_sends_31 rfl (lv_at hl 3 rfl) ?_
  obtain ⟨g_32, hf⟩ := gd hf
  obtain ⟨σ2, e_32, hf⟩ := stb hf
  refine z_iast C S 30 0 rfl (by decide) 2111 (fun _ => rfl) g_32 dX8_sends_32 (fun H locs S => ?_)
  rw [← e_32] at S
  refine lv_aload_n C.1 C.2.1 dX8_sends_33 rfl (lv_at hl 1 rfl) ?_
  refine z_getR C S 8 0 rfl (by decide) cf_8 0 (by decide) _ (gr_8_0 G ad 0) tw_6_118 dX8_sends_34 ?_
  refine lv_iload C.1 C.2.1 dX8_sends_37 (lv_at hl 0 rfl) ?_
  refine lv_iconst (v := 2) C.1 C.2.1 dX8_sends_39 (by decide) ?_
  refine lv_iadd C.1 C.2.1 dX8_sends_40 ?_
  refine lv_iload_n C.1 C.2.1 dX8_sends_41 rfl (lv_at hl 4 rfl) ?_
  obtain ⟨g_42, hf⟩ := gd hf
  obtain ⟨σ3, e_42, hf⟩ := stb hf
  refine z_iast C S 30 0 rfl (by decide) 2111 (fun _ => rfl) g_42 dX8_sends_42 (fun H locs S => ?_)
  rw [← e_42] at S
  refine lv_aload_n C.1 C.2.1 dX8_sends_43 rfl (lv_at hl 1 rfl) ?_
  refine z_getR C S 8 0 rfl (by decide) cf_8 0 (by decide) _ (gr_8_0 G ad 0) tw_6_118 dX8_sends_44 ?_
  refine lv_iload C.1 C.2.1 dX8_sends_47 (lv_at hl 0 rfl) ?_
  refine lv_iconst (v := 3) C.1 C.2.1 dX8_sends_49 (by decide) ?_
  refine lv_iadd C.1 C.2.1 dX8_sends_50 ?_
  refine lv_iload C.1 C.2.1 dX8_sends_51 (lv_at hl 5 rfl) ?_
  obtain ⟨g_53, hf⟩ := gd hf
  obtain ⟨σ4, e_53, hf⟩ := stb hf
  refine z_iast C S 30 0 rfl (by decide) 2111 (fun _ => rfl) g_53 dX8_sends_53 (fun H locs S => ?_)
  rw [← e_53] at S
  refine lv_aload_n C.1 C.2.1 dX8_sends_54 rfl (lv_at hl 1 rfl) ?_
  refine z_getR C S 8 0 rfl (by decide) cf_8 0 (by decide) _ (gr_8_0 G ad 0) tw_6_118 dX8_sends_55 ?_
  refine lv_bipush (v := 10) C.1 C.2.1 dX8_sends_58 (by decide) ?_
  refine lv_dup2_11 C.1 C.2.1 dX8_sends_60 rfl rfl ?_
  refine z_ialdL C S 30 0 rfl (by decide) 2111 (fun _ => rfl) 10 (by decide) (by decide) (by decide) dX8_sends_61 ?_
  refine lv_iconst (v := 1) C.1 C.2.1 dX8_sends_62 (by decide) ?_
  refine lv_iadd C.1 C.2.1 dX8_sends_63 ?_
  obtain ⟨σ5, e_64, hf⟩ := stb hf
  refine z_iastL C S 30 0 rfl (by decide) 2111 (fun _ => rfl) 10 (by decide) (by decide) (by decide) dX8_sends_64 (fun H locs S => ?_)
  rw [← e_64] at S
  refine lv_aload_n C.1 C.2.1 dX8_sends_65 rfl (lv_at hl 1 rfl) ?_
  refine z_getR C S 8 0 rfl (by decide) cf_8 0 (by decide) _ (gr_8_0 G ad 0) tw_6_118 dX8_sends_66 ?_
  refine lv_bipush (v := 11) C.1 C.2.1 dX8_sends_69 (by decide) ?_
  refine lv_iload_n C.1 C.2.1 dX8_sends_71 rfl (lv_at hl 2 rfl) ?_
  refine lv_iadd C.1 C.2.1 dX8_sends_72 ?_
  refine lv_dup2_11 C.1 C.2.1 dX8_sends_73 rfl rfl ?_
  obtain ⟨g_74, hf⟩ := gd hf
  refine z_iald C S 30 0 rfl (by decide) 2111 (fun _ => rfl) g_74 dX8_sends_74 ?_
  refine lv_iconst (v := 1) C.1 C.2.1 dX8_sends_75 (by decide) ?_
  refine lv_iadd C.1 C.2.1 dX8_sends_76 ?_
  obtain ⟨g_77, hf⟩ := gd hf
  obtain ⟨σ6, e_77, hf⟩ := stb hf
  refine z_iast C S 30 0 rfl (by decide) 2111 (fun _ => rfl) g_77 dX8_sends_77 (fun H locs S => ?_)
  rw [← e_77] at S
  exact z_vret C S hf dX8_sends_78
theorem kv_X8_sends : KV yX8_sends cX8_sends 6 none 4 := ⟨tw_7_209, tw_7_208, tw_p_79, tw_1_10, by decide, by decide, by decide +kernel⟩
theorem m_X8_sends (l : Launch) (G : Gx) (ad : Ad) (σ : Sg) (v1 : Int32) (v2 : Int32) (v3 : Int32) (v4 : Int32) (σ' : Sg)  (hf : f_X8_sends σ v1 v2 v3 v4 = some σ') (sz : Nat) : z_MV l yX8_sends cX8_sends 6 none 0 0 1 G ad σ sz [.ref (ad 8 0), .int v1, .int v2, .int v3, .int v4] σ' := by
  refine z_begin (by decide +kernel) (Nat.le_of_ble_eq_true rfl) [(0, .ref (ad 8 0)), (1, .int v1), (2, .int v2), (3, .int v3), (4, .int v4)] rfl (fun p e s m args below meth c ls C hz S hl => ?_)
  subst hz
  exact w_X8_sends_0 (res := σ') C σ v1 v2 v3 v4 _ _ _ S hl  hf

theorem dX8_announces_0 : decode cX8_announces 0 = .ok (.aload_n 0, 1) := by decide +kernel
theorem dX8_announces_1 : decode cX8_announces 1 = .ok (.getfield 7, 3) := by decide +kernel
theorem dX8_announces_4 : decode cX8_announces 4 = .ok (.sipush 223, 3) := by decide +kernel
theorem dX8_announces_7 : decode cX8_announces 7 = .ok (.iload_n 1, 1) := by decide +kernel
theorem dX8_announces_8 : decode cX8_announces 8 = .ok (.iadd, 1) := by decide +kernel
theorem dX8_announces_9 : decode cX8_announces 9 = .ok (.dup2, 1) := by decide +kernel
theorem dX8_announces_10 : decode cX8_announces 10 = .ok (.iaload, 1) := by decide +kernel
theorem dX8_announces_11 : decode cX8_announces 11 = .ok (.iconst 1, 1) := by decide +kernel
theorem dX8_announces_12 : decode cX8_announces 12 = .ok (.iadd, 1) := by decide +kernel
theorem dX8_announces_13 : decode cX8_announces 13 = .ok (.iastore, 1) := by decide +kernel
theorem dX8_announces_14 : decode cX8_announces 14 = .ok (.aload_n 0, 1) := by decide +kernel
theorem dX8_announces_15 : decode cX8_announces 15 = .ok (.getfield 7, 3) := by decide +kernel
theorem dX8_announces_18 : decode cX8_announces 18 = .ok (.sipush 295, 3) := by decide +kernel
theorem dX8_announces_21 : decode cX8_announces 21 = .ok (.iload_n 1, 1) := by decide +kernel
theorem dX8_announces_22 : decode cX8_announces 22 = .ok (.iadd, 1) := by decide +kernel
theorem dX8_announces_23 : decode cX8_announces 23 = .ok (.aload_n 0, 1) := by decide +kernel
theorem dX8_announces_24 : decode cX8_announces 24 = .ok (.getfield 7, 3) := by decide +kernel
theorem dX8_announces_27 : decode cX8_announces 27 = .ok (.iconst 3, 1) := by decide +kernel
theorem dX8_announces_28 : decode cX8_announces 28 = .ok (.iaload, 1) := by decide +kernel
theorem dX8_announces_29 : decode cX8_announces 29 = .ok (.iastore, 1) := by decide +kernel
theorem dX8_announces_30 : decode cX8_announces 30 = .ok (.aload_n 0, 1) := by decide +kernel
theorem dX8_announces_31 : decode cX8_announces 31 = .ok (.iconst 0, 1) := by decide +kernel
theorem dX8_announces_32 : decode cX8_announces 32 = .ok (.iload_n 1, 1) := by decide +kernel
theorem dX8_announces_33 : decode cX8_announces 33 = .ok (.iconst (-1), 1) := by decide +kernel
theorem dX8_announces_34 : decode cX8_announces 34 = .ok (.iconst 0, 1) := by decide +kernel
theorem dX8_announces_35 : decode cX8_announces 35 = .ok (.invokevirtual 95, 3) := by decide +kernel
theorem dX8_announces_38 : decode cX8_announces 38 = .ok (.return_, 1) := by decide +kernel
/-! BusLiftsModel.announces(I)V -/
noncomputable def f_X8_announces  (σ : Sg) (v1 : Int32) : Option Sg := if (223 + v1) < 0 ∨ 2111 ≤ ((223 + v1)).toNatClampNeg then none else (if (223 + v1) < 0 ∨ 2111 ≤ ((223 + v1)).toNatClampNeg then none else (st (sup σ 30 0 ((223 + v1)).toNatClampNeg ((σ 30 0 ((223 + v1)).toNatClampNeg) + 1)) fun σ1 => (if (295 + v1) < 0 ∨ 2111 ≤ ((295 + v1)).toNatClampNeg then none else (st (sup σ1 30 0 ((295 + v1)).toNatClampNeg (σ1 30 0 3)) fun σ2 => (bv (f_X8_sends σ2 0 v1 (-1) 0) fun σ3 => (some σ3))))))
set_option maxHeartbeats 4000000 in
set_option maxRecDepth 100000 in
theorem w_X8_announces_0 {p : Program} {l : Launch} {e : Env} {s : State} {m : MethodId} {args : Array Value} {below : List Frame} {meth : Method} {c : Code} {G : Gx} {ad : Ad} {res : Sg} (C : Cx p s m args meth c yX8_announces.cls cX8_announces 2 none G)  : ∀ (σ : Sg) (v1 : Int32) (H : Heap) (locs : List Loc) (ls : Array Slot), z_S 1 G ad σ (z_A 1 ad s.heap.size) s.heap H locs → lv_has ls 2 [(0, .ref (ad 8 0)), (1, .int v1)] → f_X8_announces  σ v1 = some res → W p l e { frames := 1, cells := 0, slots := 0, locals := 25 } s m args below meth c H locs 0 0 (MQ below (va_Qv (S := Unit) (fun _ => True) (fun _ t => z_W 1 G ad res t.heap) (z_A 1 ad s.heap.size)) args s 0 0 (z_A 1 ad s.heap.size)) (F0 m 0 ls []) := by
  intro σ v1 H locs ls S hl  hf
  unfold f_X8_announces at hf
  refine lv_aload_n C.1 C.2.1 dX8_announces_0 rfl (lv_at hl 0 rfl) ?_
  refine z_getR C S 8 0 rfl (by decide) cf_8 0 (by decide) _ (gr_8_0 G ad 0) tw_6_118 dX8_announces_1 ?_
  refine lv_sipush (v := 223) C.1 C.2.1 dX8_announces_4 (by decide) ?_
  refine lv_iload_n C.1 C.2.1 dX8_announces_7 rfl (lv_at hl 1 rfl) ?_
  refine lv_iadd C.1 C.2.1 dX8_announces_8 ?_
  refine lv_dup2_11 C.1 C.2.1 dX8_announces_9 rfl rfl ?_
  obtain ⟨g_10, hf⟩ := gd hf
  refine z_iald C S 30 0 rfl (by decide) 2111 (fun _ => rfl) g_10 dX8_announces_10 ?_
  refine lv_iconst (v := 1) C.1 C.2.1 dX8_announces_11 (by decide) ?_
  refine lv_iadd C.1 C.2.1 dX8_announces_12 ?_
  obtain ⟨g_13, hf⟩ := gd hf
  obtain ⟨σ1, e_13, hf⟩ := stb hf
  refine z_iast C S 30 0 rfl (by decide) 2111 (fun _ => rfl) g_13 dX8_announces_13 (fun H locs S => ?_)
  rw [← e_13] at S
  refine lv_aload_n C.1 C.2.1 dX8_announces_14 rfl (lv_at hl 0 rfl) ?_
  refine z_getR C S 8 0 rfl (by decide) cf_8 0 (by decide) _ (gr_8_0 G ad 0) tw_6_118 dX8_announces_15 ?_
  refine lv_sipush (v := 295) C.1 C.2.1 dX8_announces_18 (by decide) ?_
  refine lv_iload_n C.1 C.2.1 dX8_announces_21 rfl (lv_at hl 1 rfl) ?_
  refine lv_iadd C.1 C.2.1 dX8_announces_22 ?_
  refine lv_aload_n C.1 C.2.1 dX8_announces_23 rfl (lv_at hl 0 rfl) ?_
  refine z_getR C S 8 0 rfl (by decide) cf_8 0 (by decide) _ (gr_8_0 G ad 0) tw_6_118 dX8_announces_24 ?_
  refine lv_iconst (v := 3) C.1 C.2.1 dX8_announces_27 (by decide) ?_
  refine z_ialdL C S 30 0 rfl (by decide) 2111 (fun _ => rfl) 3 (by decide) (by decide) (by decide) dX8_announces_28 ?_
  obtain ⟨g_29, hf⟩ := gd hf
  obtain ⟨σ2, e_29, hf⟩ := stb hf
  refine z_iast C S 30 0 rfl (by decide) 2111 (fun _ => rfl) g_29 dX8_announces_29 (fun H locs S => ?_)
  rw [← e_29] at S
  refine lv_aload_n C.1 C.2.1 dX8_announces_30 rfl (lv_at hl 0 rfl) ?_
  refine lv_iconst (v := 0) C.1 C.2.1 dX8_announces_31 (by decide) ?_
  refine lv_iload_n C.1 C.2.1 dX8_announces_32 rfl (lv_at hl 1 rfl) ?_
  refine lv_iconst (v := (-1)) C.1 C.2.1 dX8_announces_33 (by decide) ?_
  refine lv_iconst (v := 0) C.1 C.2.1 dX8_announces_34 (by decide) ?_
  obtain ⟨σ3, q_35, hf⟩ := bvb hf
  refine z_callV C S 8 0 rfl (by decide) cf_8 ⟨_, rfl⟩ [.int 0, .int v1, .int (-1), .int 0] (m_X8_sends l G ad σ2 0 v1 (-1) 0 σ3 q_35 _) kv_X8_sends tw_7_206 ⟨Nat.le_of_ble_eq_true rfl, Nat.le_of_ble_eq_true rfl⟩ rfl rfl (Nat.le_of_ble_eq_true rfl) hl.1 ⟨Nat.le_of_ble_eq_true rfl, Nat.le_of_ble_eq_true rfl⟩ dX8_announces_35 (fun H locs S => ?_)
  exact z_vret C S hf dX8_announces_38
theorem kv_X8_announces : KV yX8_announces cX8_announces 2 none 1 := ⟨tw_7_205, tw_7_204, tw_p_78, tw_1_10, by decide, by decide, by decide +kernel⟩
theorem m_X8_announces (l : Launch) (G : Gx) (ad : Ad) (σ : Sg) (v1 : Int32) (σ' : Sg)  (hf : f_X8_announces σ v1 = some σ') (sz : Nat) : z_MV l yX8_announces cX8_announces 2 none 1 25 1 G ad σ sz [.ref (ad 8 0), .int v1] σ' := by
  refine z_begin (by decide +kernel) (Nat.le_of_ble_eq_true rfl) [(0, .ref (ad 8 0)), (1, .int v1)] rfl (fun p e s m args below meth c ls C hz S hl => ?_)
  subst hz
  exact w_X8_announces_0 (res := σ') C σ v1 _ _ _ S hl  hf

theorem dX8_comes_0 : decode cX8_comes 0 = .ok (.iconst 0, 1) := by decide +kernel
theorem dX8_comes_1 : decode cX8_comes 1 = .ok (.istore_n 1, 1) := by decide +kernel
theorem dX8_comes_2 : decode cX8_comes 2 = .ok (.iload_n 1, 1) := by decide +kernel
theorem dX8_comes_3 : decode cX8_comes 3 = .ok (.aload_n 0, 1) := by decide +kernel
theorem dX8_comes_4 : decode cX8_comes 4 = .ok (.getfield 7, 3) := by decide +kernel
theorem dX8_comes_7 : decode cX8_comes 7 = .ok (.iconst 2, 1) := by decide +kernel
theorem dX8_comes_8 : decode cX8_comes 8 = .ok (.iaload, 1) := by decide +kernel
theorem dX8_comes_9 : decode cX8_comes 9 = .ok (.if_icmp .ge 57, 3) := by decide +kernel
theorem dX8_comes_12 : decode cX8_comes 12 = .ok (.aload_n 0, 1) := by decide +kernel
theorem dX8_comes_13 : decode cX8_comes 13 = .ok (.getfield 7, 3) := by decide +kernel
theorem dX8_comes_16 : decode cX8_comes 16 = .ok (.bipush 127, 2) := by decide +kernel
theorem dX8_comes_18 : decode cX8_comes 18 = .ok (.iload_n 1, 1) := by decide +kernel
theorem dX8_comes_19 : decode cX8_comes 19 = .ok (.iadd, 1) := by decide +kernel
theorem dX8_comes_20 : decode cX8_comes 20 = .ok (.iaload, 1) := by decide +kernel
theorem dX8_comes_21 : decode cX8_comes 21 = .ok (.ifCond .ne 39, 3) := by decide +kernel
theorem dX8_comes_24 : decode cX8_comes 24 = .ok (.aload_n 0, 1) := by decide +kernel
theorem dX8_comes_25 : decode cX8_comes 25 = .ok (.getfield 7, 3) := by decide +kernel
theorem dX8_comes_28 : decode cX8_comes 28 = .ok (.bipush 103, 2) := by decide +kernel
theorem dX8_comes_30 : decode cX8_comes 30 = .ok (.iload_n 1, 1) := by decide +kernel
theorem dX8_comes_31 : decode cX8_comes 31 = .ok (.iadd, 1) := by decide +kernel
theorem dX8_comes_32 : decode cX8_comes 32 = .ok (.iaload, 1) := by decide +kernel
theorem dX8_comes_33 : decode cX8_comes 33 = .ok (.aload_n 0, 1) := by decide +kernel
theorem dX8_comes_34 : decode cX8_comes 34 = .ok (.getfield 7, 3) := by decide +kernel
theorem dX8_comes_37 : decode cX8_comes 37 = .ok (.iconst 3, 1) := by decide +kernel
theorem dX8_comes_38 : decode cX8_comes 38 = .ok (.iaload, 1) := by decide +kernel
theorem dX8_comes_39 : decode cX8_comes 39 = .ok (.if_icmp .le 6, 3) := by decide +kernel
theorem dX8_comes_42 : decode cX8_comes 42 = .ok (.goto 18, 3) := by decide +kernel
theorem dX8_comes_45 : decode cX8_comes 45 = .ok (.aload_n 0, 1) := by decide +kernel
theorem dX8_comes_46 : decode cX8_comes 46 = .ok (.getfield 7, 3) := by decide +kernel
theorem dX8_comes_49 : decode cX8_comes 49 = .ok (.bipush 127, 2) := by decide +kernel
theorem dX8_comes_51 : decode cX8_comes 51 = .ok (.iload_n 1, 1) := by decide +kernel
theorem dX8_comes_52 : decode cX8_comes 52 = .ok (.iadd, 1) := by decide +kernel
theorem dX8_comes_53 : decode cX8_comes 53 = .ok (.iconst 1, 1) := by decide +kernel
theorem dX8_comes_54 : decode cX8_comes 54 = .ok (.iastore, 1) := by decide +kernel
theorem dX8_comes_55 : decode cX8_comes 55 = .ok (.aload_n 0, 1) := by decide +kernel
theorem dX8_comes_56 : decode cX8_comes 56 = .ok (.iload_n 1, 1) := by decide +kernel
theorem dX8_comes_57 : decode cX8_comes 57 = .ok (.invokevirtual 116, 3) := by decide +kernel
theorem dX8_comes_60 : decode cX8_comes 60 = .ok (.iinc 1 1, 3) := by decide +kernel
theorem dX8_comes_63 : decode cX8_comes 63 = .ok (.goto (-61), 3) := by decide +kernel
theorem dX8_comes_66 : decode cX8_comes 66 = .ok (.return_, 1) := by decide +kernel
/-! BusLiftsModel.comes()V -/
noncomputable def f_X8_comes_66  (σ : Sg)  : Option Sg := some σ
noncomputable def f_X8_comes_60 (k2 : Sg → Int32 → Option Sg) (σ : Sg) (v1 : Int32) : Option Sg := k2 σ (v1 + 1)
noncomputable def f_X8_comes_2  : Nat → Sg → Int32 → Option Sg
  | 0, _, _ => none
  | n + 1, σ, v1 => if (σ 30 0 2) ≤ v1 then (f_X8_comes_66 σ) else (if (127 + v1) < 0 ∨ 2111 ≤ ((127 + v1)).toNatClampNeg then none else (if (σ 30 0 ((127 + v1)).toNatClampNeg) = 0 then (if (103 + v1) < 0 ∨ 2111 ≤ ((103 + v1)).toNatClampNeg then none else (if (σ 30 0 ((103 + v1)).toNatClampNeg) ≤ (σ 30 0 3) then (if (127 + v1) < 0 ∨ 2111 ≤ ((127 + v1)).toNatClampNeg then none else (st (sup σ 30 0 ((127 + v1)).toNatClampNeg 1) fun σ1 => (bv (f_X8_announces σ1 v1) fun σ2 => (f_X8_comes_60 (f_X8_comes_2 n) σ2 v1)))) else (f_X8_comes_60 (f_X8_comes_2 n) σ v1))) else (f_X8_comes_60 (f_X8_comes_2 n) σ v1)))
theorem f_X8_comes_2_s  (n : Nat) (σ : Sg) (v1 : Int32) : f_X8_comes_2  (n + 1) σ v1 = (if (σ 30 0 2) ≤ v1 then (f_X8_comes_66 σ) else (if (127 + v1) < 0 ∨ 2111 ≤ ((127 + v1)).toNatClampNeg then none else (if (σ 30 0 ((127 + v1)).toNatClampNeg) = 0 then (if (103 + v1) < 0 ∨ 2111 ≤ ((103 + v1)).toNatClampNeg then none else (if (σ 30 0 ((103 + v1)).toNatClampNeg) ≤ (σ 30 0 3) then (if (127 + v1) < 0 ∨ 2111 ≤ ((127 + v1)).toNatClampNeg then none else (st (sup σ 30 0 ((127 + v1)).toNatClampNeg 1) fun σ1 => (bv (f_X8_announces σ1 v1) fun σ2 => (f_X8_comes_60 (f_X8_comes_2 n) σ2 v1)))) else (f_X8_comes_60 (f_X8_comes_2 n) σ v1))) else (f_X8_comes_60 (f_X8_comes_2 n) σ v1)))) := rfl
noncomputable def f_X8_comes  (σ : Sg)  : Option Sg := f_X8_comes_2 FU σ 0
set_option maxHeartbeats 4000000 in
set_option maxRecDepth 100000 in
theorem w_X8_comes_66 {p : Program} {l : Launch} {e : Env} {s : State} {m : MethodId} {args : Array Value} {below : List Frame} {meth : Method} {c : Code} {G : Gx} {ad : Ad} {res : Sg} (C : Cx p s m args meth c yX8_comes.cls cX8_comes 2 none G)  : ∀ (σ : Sg)  (H : Heap) (locs : List Loc) (ls : Array Slot), z_S 1 G ad σ (z_A 1 ad s.heap.size) s.heap H locs → lv_has ls 2 [] → f_X8_comes_66  σ  = some res → W p l e { frames := 2, cells := 0, slots := 0, locals := 46 } s m args below meth c H locs 0 0 (MQ below (va_Qv (S := Unit) (fun _ => True) (fun _ t => z_W 1 G ad res t.heap) (z_A 1 ad s.heap.size)) args s 0 0 (z_A 1 ad s.heap.size)) (F0 m 66 ls []) := by
  intro σ  H locs ls S hl  hf
  unfold f_X8_comes_66 at hf
  exact z_vret C S hf dX8_comes_66
set_option maxHeartbeats 4000000 in
set_option maxRecDepth 100000 in
theorem w_X8_comes_60 {p : Program} {l : Launch} {e : Env} {s : State} {m : MethodId} {args : Array Value} {below : List Frame} {meth : Method} {c : Code} {G : Gx} {ad : Ad} {res : Sg} (C : Cx p s m args meth c yX8_comes.cls cX8_comes 2 none G) (k2 : Sg → Int32 → Option Sg) (hk2 : ∀ (σ : Sg) (v1 : Int32) (H : Heap) (locs : List Loc) (ls : Array Slot), z_S 1 G ad σ (z_A 1 ad s.heap.size) s.heap H locs → lv_has ls 2 [(0, .ref (ad 8 0)), (1, .int v1)] → k2 σ v1 = some res → W p l e { frames := 2, cells := 0, slots := 0, locals := 46 } s m args below meth c H locs 0 0 (MQ below (va_Qv (S := Unit) (fun _ => True) (fun _ t => z_W 1 G ad res t.heap) (z_A 1 ad s.heap.size)) args s 0 0 (z_A 1 ad s.heap.size)) (F0 m 2 ls [])) : ∀ (σ : Sg) (v1 : Int32) (H : Heap) (locs : List Loc) (ls : Array Slot), z_S 1 G ad σ (z_A 1 ad s.heap.size) s.heap H locs → lv_has ls 2 [(0, .ref (ad 8 0)), (1, .int v1)] → f_X8_comes_60 k2 σ v1 = some res → W p l e { frames := 2, cells := 0, slots := 0, locals := 46 } s m args below meth c H locs 0 0 (MQ below (va_Qv (S := Unit) (fun _ => True) (fun _ t => z_W 1 G ad res t.heap) (z_A 1 ad s.heap.size)) args s 0 0 (z_A 1 ad s.heap.size)) (F0 m 60 ls []) := by
  intro σ v1 H locs ls S hl  hf
  unfold f_X8_comes_60 at hf
  refine lv_iinc (v := (v1 + 1)) (lv' := [(1, .int (v1 + 1)), (0, .ref (ad 8 0))]) C.1 C.2.1 dX8_comes_60 hl (k := 1) rfl rfl (by decide) rfl (fun ls hl => ?_)
  refine lv_goto (tgt := 2) C.1 C.2.1 dX8_comes_63 (by decide) ?_
  exact hk2 _ (v1 + 1) _ _ _ S (lv_sub hl [1, 0] rfl)  hf
set_option maxHeartbeats 4000000 in
set_option maxRecDepth 100000 in
theorem w_X8_comes_2 {p : Program} {l : Launch} {e : Env} {s : State} {m : MethodId} {args : Array Value} {below : List Frame} {meth : Method} {c : Code} {G : Gx} {ad : Ad} {res : Sg} (C : Cx p s m args meth c yX8_comes.cls cX8_comes 2 none G)  : ∀ n : Nat, ∀ (σ : Sg) (v1 : Int32) (H : Heap) (locs : List Loc) (ls : Array Slot), z_S 1 G ad σ (z_A 1 ad s.heap.size) s.heap H locs → lv_has ls 2 [(0, .ref (ad 8 0)), (1, .int v1)] → f_X8_comes_2  n σ v1 = some res → W p l e { frames := 2, cells := 0, slots := 0, locals := 46 } s m args below meth c H locs 0 0 (MQ below (va_Qv (S := Unit) (fun _ => True) (fun _ t => z_W 1 G ad res t.heap) (z_A 1 ad s.heap.size)) args s 0 0 (z_A 1 ad s.heap.size)) (F0 m 2 ls []) := by
  intro n
  induction n with
  | zero => intro σ v1 H locs ls S hl  hf; cases hf
  | succ n ih =>
    intro σ v1 H locs ls S hl  hf
    rw [f_X8_comes_2_s] at hf
    refine lv_iload_n C.1 C.2.1 dX8_comes_2 rfl (lv_at hl 1 rfl) ?_
    refine lv_aload_n C.1 C.2.1 dX8_comes_3 rfl (lv_at hl 0 rfl) ?_
    refine z_getR C S 8 0 rfl (by decide) cf_8 0 (by decide) _ (gr_8_0 G ad 0) tw_6_118 dX8_comes_4 ?_
    refine lv_iconst (v := 2) C.1 C.2.1 dX8_comes_7 (by decide) ?_
    refine z_ialdL C S 30 0 rfl (by decide) 2111 (fun _ => rfl) 2 (by decide) (by decide) (by decide) dX8_comes_8 ?_
    refine lv_icmp_ge (tgt := 66) C.1 C.2.1 dX8_comes_9 (by decide) (fun c_9 => ?_) (fun c_9 => ?_)
    · rw [if_pos c_9] at hf
      exact w_X8_comes_66 C _ _ _ _ S (lv_sub hl [] rfl) hf
    · rw [if_neg c_9] at hf
      refine lv_aload_n C.1 C.2.1 dX8_comes_12 rfl (lv_at hl 0 rfl) ?_
      refine z_getR C S 8 0 rfl (by decide) cf_8 0 (by decide) _ (gr_8_0 G ad 0) tw_6_118 dX8_comes_13 ?_
      refine lv_bipush (v := 127) C.1 C.2.1 dX8_comes_16 (by decide) ?_
      refine lv_iload_n C.1 C.2.1 dX8_comes_18 rfl (lv_at hl 1 rfl) ?_
      refine lv_iadd C.1 C.2.1 dX8_comes_19 ?_
      obtain ⟨g_20, hf⟩ := gd hf
      refine z_iald C S 30 0 rfl (by decide) 2111 (fun _ => rfl) g_20 dX8_comes_20 ?_
      refine lv_if_ne (tgt := 60) C.1 C.2.1 dX8_comes_21 (by decide) (fun c_21 => ?_) (fun c_21 => ?_)
      · rw [if_neg c_21] at hf
        exact w_X8_comes_60 C (f_X8_comes_2 n) ih _ v1 _ _ _ S (lv_sub hl [0, 1] rfl) hf
      · rw [if_pos c_21] at hf
        refine lv_aload_n C.1 C.2.1 dX8_comes_24 rfl (lv_at hl 0 rfl) ?_
        refine z_getR C S 8 0 rfl (by decide) cf_8 0 (by decide) _ (gr_8_0 G ad 0) tw_6_118 dX8_comes_25 ?_
        refine lv_bipush (v := 103) C.1 C.2.1 dX8_comes_28 (by decide) ?_
        refine lv_iload_n C.1 C.2.1 dX8_comes_30 rfl (lv_at hl 1 rfl) ?_
        refine lv_iadd C.1 C.2.1 dX8_comes_31 ?_
        obtain ⟨g_32, hf⟩ := gd hf
        refine z_iald C S 30 0 rfl (by decide) 2111 (fun _ => rfl) g_32 dX8_comes_32 ?_
        refine lv_aload_n C.1 C.2.1 dX8_comes_33 rfl (lv_at hl 0 rfl) ?_
        refine z_getR C S 8 0 rfl (by decide) cf_8 0 (by decide) _ (gr_8_0 G ad 0) tw_6_118 dX8_comes_34 ?_
        refine lv_iconst (v := 3) C.1 C.2.1 dX8_comes_37 (by decide) ?_
        refine z_ialdL C S 30 0 rfl (by decide) 2111 (fun _ => rfl) 3 (by decide) (by decide) (by decide) dX8_comes_38 ?_
        refine lv_icmp_le (tgt := 45) C.1 C.2.1 dX8_comes_39 (by decide) (fun c_39 => ?_) (fun c_39 => ?_)
        · rw [if_pos c_39] at hf
          refine lv_aload_n C.1 C.2.1 dX8_comes_45 rfl (lv_at hl 0 rfl) ?_
          refine z_getR C S 8 0 rfl (by decide) cf_8 0 (by decide) _ (gr_8_0 G ad 0) tw_6_118 dX8_comes_46 ?_
          refine lv_bipush (v := 127) C.1 C.2.1 dX8_comes_49 (by decide) ?_
          refine lv_iload_n C.1 C.2.1 dX8_comes_51 rfl (lv_at hl 1 rfl) ?_
          refine lv_iadd C.1 C.2.1 dX8_comes_52 ?_
          refine lv_iconst (v := 1) C.1 C.2.1 dX8_comes_53 (by decide) ?_
          obtain ⟨g_54, hf⟩ := gd hf
          obtain ⟨σ1, e_54, hf⟩ := stb hf
          refine z_iast C S 30 0 rfl (by decide) 2111 (fun _ => rfl) g_54 dX8_comes_54 (fun H locs S => ?_)
          rw [← e_54] at S
          refine lv_aload_n C.1 C.2.1 dX8_comes_55 rfl (lv_at hl 0 rfl) ?_
          refine lv_iload_n C.1 C.2.1 dX8_comes_56 rfl (lv_at hl 1 rfl) ?_
          obtain ⟨σ2, q_57, hf⟩ := bvb hf
          refine z_callV C S 8 0 rfl (by decide) cf_8 ⟨_, rfl⟩ [.int v1] (m_X8_announces l G ad σ1 v1 σ2 q_57 _) kv_X8_announces tw_7_202 ⟨Nat.le_of_ble_eq_true rfl, Nat.le_of_ble_eq_true rfl⟩ rfl rfl (Nat.le_of_ble_eq_true rfl) hl.1 ⟨Nat.le_of_ble_eq_true rfl, Nat.le_of_ble_eq_true rfl⟩ dX8_comes_57 (fun H locs S => ?_)
          exact w_X8_comes_60 C (f_X8_comes_2 n) ih _ v1 _ _ _ S (lv_sub hl [0, 1] rfl) hf
        · rw [if_neg c_39] at hf
          refine lv_goto (tgt := 60) C.1 C.2.1 dX8_comes_42 (by decide) ?_
          exact w_X8_comes_60 C (f_X8_comes_2 n) ih _ v1 _ _ _ S (lv_sub hl [0, 1] rfl) hf
set_option maxHeartbeats 4000000 in
set_option maxRecDepth 100000 in
theorem w_X8_comes_0 {p : Program} {l : Launch} {e : Env} {s : State} {m : MethodId} {args : Array Value} {below : List Frame} {meth : Method} {c : Code} {G : Gx} {ad : Ad} {res : Sg} (C : Cx p s m args meth c yX8_comes.cls cX8_comes 2 none G)  : ∀ (σ : Sg)  (H : Heap) (locs : List Loc) (ls : Array Slot), z_S 1 G ad σ (z_A 1 ad s.heap.size) s.heap H locs → lv_has ls 2 [(0, .ref (ad 8 0))] → f_X8_comes  σ  = some res → W p l e { frames := 2, cells := 0, slots := 0, locals := 46 } s m args below meth c H locs 0 0 (MQ below (va_Qv (S := Unit) (fun _ => True) (fun _ t => z_W 1 G ad res t.heap) (z_A 1 ad s.heap.size)) args s 0 0 (z_A 1 ad s.heap.size)) (F0 m 0 ls []) := by
  intro σ  H locs ls S hl  hf
  unfold f_X8_comes at hf
  refine lv_iconst (v := 0) C.1 C.2.1 dX8_comes_0 (by decide) ?_
  refine lv_istore_n (lv' := [(1, .int 0), (0, .ref (ad 8 0))]) C.1 C.2.1 dX8_comes_1 rfl hl (by decide) rfl (fun ls hl => ?_)
  exact w_X8_comes_2 C FU _ 0 _ _ _ S (lv_sub hl [1, 0] rfl) hf
theorem kv_X8_comes : KV yX8_comes cX8_comes 2 none 0 := ⟨tw_7_201, tw_7_200, tw_p_77, tw_1_10, by decide, by decide, by decide +kernel⟩
theorem m_X8_comes (l : Launch) (G : Gx) (ad : Ad) (σ : Sg)  (σ' : Sg)  (hf : f_X8_comes σ  = some σ') (sz : Nat) : z_MV l yX8_comes cX8_comes 2 none 2 46 1 G ad σ sz [.ref (ad 8 0)] σ' := by
  refine z_begin (by decide +kernel) (Nat.le_of_ble_eq_true rfl) [(0, .ref (ad 8 0))] rfl (fun p e s m args below meth c ls C hz S hl => ?_)
  subst hz
  exact w_X8_comes_0 (res := σ') C σ  _ _ _ S hl  hf

theorem dX8_draws_0 : decode cX8_draws 0 = .ok (.aload_n 0, 1) := by decide +kernel
theorem dX8_draws_1 : decode cX8_draws 1 = .ok (.getfield 7, 3) := by decide +kernel
theorem dX8_draws_4 : decode cX8_draws 4 = .ok (.bipush 9, 2) := by decide +kernel
theorem dX8_draws_6 : decode cX8_draws 6 = .ok (.ldc 83, 2) := by decide +kernel
theorem dX8_draws_8 : decode cX8_draws 8 = .ok (.aload_n 0, 1) := by decide +kernel
theorem dX8_draws_9 : decode cX8_draws 9 = .ok (.getfield 7, 3) := by decide +kernel
theorem dX8_draws_12 : decode cX8_draws 12 = .ok (.bipush 9, 2) := by decide +kernel
theorem dX8_draws_14 : decode cX8_draws 14 = .ok (.iaload, 1) := by decide +kernel
theorem dX8_draws_15 : decode cX8_draws 15 = .ok (.imul, 1) := by decide +kernel
theorem dX8_draws_16 : decode cX8_draws 16 = .ok (.sipush 12345, 3) := by decide +kernel
theorem dX8_draws_19 : decode cX8_draws 19 = .ok (.iadd, 1) := by decide +kernel
theorem dX8_draws_20 : decode cX8_draws 20 = .ok (.iastore, 1) := by decide +kernel
theorem dX8_draws_21 : decode cX8_draws 21 = .ok (.aload_n 0, 1) := by decide +kernel
theorem dX8_draws_22 : decode cX8_draws 22 = .ok (.getfield 7, 3) := by decide +kernel
theorem dX8_draws_25 : decode cX8_draws 25 = .ok (.bipush 9, 2) := by decide +kernel
theorem dX8_draws_27 : decode cX8_draws 27 = .ok (.iaload, 1) := by decide +kernel
theorem dX8_draws_28 : decode cX8_draws 28 = .ok (.bipush 16, 2) := by decide +kernel
theorem dX8_draws_30 : decode cX8_draws 30 = .ok (.iushr, 1) := by decide +kernel
theorem dX8_draws_31 : decode cX8_draws 31 = .ok (.bipush 100, 2) := by decide +kernel
theorem dX8_draws_33 : decode cX8_draws 33 = .ok (.irem, 1) := by decide +kernel
theorem dX8_draws_34 : decode cX8_draws 34 = .ok (.ireturn, 1) := by decide +kernel
/-! BusLiftsModel.draws()I -/
noncomputable def f_X8_draws  (σ : Sg)  : Option (Int32 × Sg) := st (sup σ 30 0 9 ((1103515245 * (σ 30 0 9)) + 12345)) fun σ1 => (some ((jrem (jush (σ1 30 0 9) 16) 100), σ1))
set_option maxHeartbeats 4000000 in
set_option maxRecDepth 100000 in
theorem w_X8_draws_0 {p : Program} {l : Launch} {e : Env} {s : State} {m : MethodId} {args : Array Value} {below : List Frame} {meth : Method} {c : Code} {G : Gx} {ad : Ad} {res : Int32 × Sg} (C : Cx p s m args meth c yX8_draws.cls cX8_draws 1 (Option.some FieldType.int) G)  : ∀ (σ : Sg)  (H : Heap) (locs : List Loc) (ls : Array Slot), z_S 1 G ad σ (z_A 1 ad s.heap.size) s.heap H locs → lv_has ls 1 [(0, .ref (ad 8 0))] → f_X8_draws  σ  = some res → W p l e { frames := 0, cells := 0, slots := 0, locals := 0 } s m args below meth c H locs 0 0 (MQ below (va_Qi (S := Unit) (fun r1 _ => r1 = res.1) (fun _ t => z_W 1 G ad res.2 t.heap) (z_A 1 ad s.heap.size)) args s 0 0 (z_A 1 ad s.heap.size)) (F0 m 0 ls []) := by
  intro σ  H locs ls S hl  hf
  unfold f_X8_draws at hf
  refine lv_aload_n C.1 C.2.1 dX8_draws_0 rfl (lv_at hl 0 rfl) ?_
  refine z_getR C S 8 0 rfl (by decide) cf_8 0 (by decide) _ (gr_8_0 G ad 0) tw_6_118 dX8_draws_1 ?_
  refine lv_bipush (v := 9) C.1 C.2.1 dX8_draws_4 (by decide) ?_
  refine z_ldc (v := 1103515245) C tw_7_222 dX8_draws_6 ?_
  refine lv_aload_n C.1 C.2.1 dX8_draws_8 rfl (lv_at hl 0 rfl) ?_
  refine z_getR C S 8 0 rfl (by decide) cf_8 0 (by decide) _ (gr_8_0 G ad 0) tw_6_118 dX8_draws_9 ?_
  refine lv_bipush (v := 9) C.1 C.2.1 dX8_draws_12 (by decide) ?_
  refine z_ialdL C S 30 0 rfl (by decide) 2111 (fun _ => rfl) 9 (by decide) (by decide) (by decide) dX8_draws_14 ?_
  refine lv_imul C.1 C.2.1 dX8_draws_15 ?_
  refine lv_sipush (v := 12345) C.1 C.2.1 dX8_draws_16 (by decide) ?_
  refine lv_iadd C.1 C.2.1 dX8_draws_19 ?_
  obtain ⟨σ1, e_20, hf⟩ := stb hf
  refine z_iastL C S 30 0 rfl (by decide) 2111 (fun _ => rfl) 9 (by decide) (by decide) (by decide) dX8_draws_20 (fun H locs S => ?_)
  rw [← e_20] at S
  refine lv_aload_n C.1 C.2.1 dX8_draws_21 rfl (lv_at hl 0 rfl) ?_
  refine z_getR C S 8 0 rfl (by decide) cf_8 0 (by decide) _ (gr_8_0 G ad 0) tw_6_118 dX8_draws_22 ?_
  refine lv_bipush (v := 9) C.1 C.2.1 dX8_draws_25 (by decide) ?_
  refine z_ialdL C S 30 0 rfl (by decide) 2111 (fun _ => rfl) 9 (by decide) (by decide) (by decide) dX8_draws_27 ?_
  refine lv_bipush (v := 16) C.1 C.2.1 dX8_draws_28 (by decide) ?_
  refine lv_iushr (v := (jush (σ1 30 0 9) 16)) C.1 C.2.1 dX8_draws_30 rfl ?_
  refine lv_bipush (v := 100) C.1 C.2.1 dX8_draws_31 (by decide) ?_
  refine lv_irem C.1 C.2.1 dX8_draws_33 (by decide) ?_
  show W _ _ _ _ _ _ _ _ _ _ _ _ _ _ _ (F0 m _ ls (.int (jrem (jush (σ1 30 0 9) 16) 100) :: _))
  exact z_iret C S hf dX8_draws_34
theorem kv_X8_draws : KV yX8_draws cX8_draws 1 (Option.some FieldType.int) 0 := ⟨tw_7_221, tw_7_220, tw_p_82, tw_1_10, by decide, by decide, by decide +kernel⟩
theorem m_X8_draws (l : Launch) (G : Gx) (ad : Ad) (σ : Sg)  (r : Int32) (σ' : Sg)  (hf : f_X8_draws σ  = some (r, σ')) (sz : Nat) : z_MI l yX8_draws cX8_draws 1 (Option.some FieldType.int) 0 0 1 G ad σ sz [.ref (ad 8 0)] r σ' := by
  refine z_begin (by decide +kernel) (Nat.le_of_ble_eq_true rfl) [(0, .ref (ad 8 0))] rfl (fun p e s m args below meth c ls C hz S hl => ?_)
  subst hz
  exact w_X8_draws_0 (res := (r, σ')) C σ  _ _ _ S hl  hf

theorem dX8_isJammed_0 : decode cX8_isJammed 0 = .ok (.iload_n 1, 1) := by decide +kernel
theorem dX8_isJammed_1 : decode cX8_isJammed 1 = .ok (.iconst (-1), 1) := by decide +kernel
theorem dX8_isJammed_2 : decode cX8_isJammed 2 = .ok (.if_icmp .eq 20, 3) := by decide +kernel
theorem dX8_isJammed_5 : decode cX8_isJammed 5 = .ok (.aload_n 0, 1) := by decide +kernel
theorem dX8_isJammed_6 : decode cX8_isJammed 6 = .ok (.getfield 7, 3) := by decide +kernel
theorem dX8_isJammed_9 : decode cX8_isJammed 9 = .ok (.bipush 39, 2) := by decide +kernel
theorem dX8_isJammed_11 : decode cX8_isJammed 11 = .ok (.iload_n 1, 1) := by decide +kernel
theorem dX8_isJammed_12 : decode cX8_isJammed 12 = .ok (.iadd, 1) := by decide +kernel
theorem dX8_isJammed_13 : decode cX8_isJammed 13 = .ok (.iaload, 1) := by decide +kernel
theorem dX8_isJammed_14 : decode cX8_isJammed 14 = .ok (.iconst 1, 1) := by decide +kernel
theorem dX8_isJammed_15 : decode cX8_isJammed 15 = .ok (.if_icmp .ne 7, 3) := by decide +kernel
theorem dX8_isJammed_18 : decode cX8_isJammed 18 = .ok (.iconst 1, 1) := by decide +kernel
theorem dX8_isJammed_19 : decode cX8_isJammed 19 = .ok (.goto 4, 3) := by decide +kernel
theorem dX8_isJammed_22 : decode cX8_isJammed 22 = .ok (.iconst 0, 1) := by decide +kernel
theorem dX8_isJammed_23 : decode cX8_isJammed 23 = .ok (.ireturn, 1) := by decide +kernel
/-! BusLiftsModel.isJammed(I)Z -/
noncomputable def f_X8_isJammed_23  (σ : Sg) (v100 : Int32) : Option (Int32 × Sg) := if ¬ (v100 = 0 ∨ v100 = 1) then none else (some (v100, σ))
noncomputable def f_X8_isJammed_22  (σ : Sg)  : Option (Int32 × Sg) := f_X8_isJammed_23 σ 0
noncomputable def f_X8_isJammed  (σ : Sg) (v1 : Int32) : Option (Int32 × Sg) := if v1 = (-1) then (f_X8_isJammed_22 σ) else (if (39 + v1) < 0 ∨ 2111 ≤ ((39 + v1)).toNatClampNeg then none else (if (σ 30 0 ((39 + v1)).toNatClampNeg) = 1 then (f_X8_isJammed_23 σ 1) else (f_X8_isJammed_22 σ)))
set_option maxHeartbeats 4000000 in
set_option maxRecDepth 100000 in
theorem w_X8_isJammed_23 {p : Program} {l : Launch} {e : Env} {s : State} {m : MethodId} {args : Array Value} {below : List Frame} {meth : Method} {c : Code} {G : Gx} {ad : Ad} {res : Int32 × Sg} (C : Cx p s m args meth c yX8_isJammed.cls cX8_isJammed 2 (Option.some FieldType.boolean) G)  : ∀ (σ : Sg) (v100 : Int32) (H : Heap) (locs : List Loc) (ls : Array Slot), z_S 1 G ad σ (z_A 1 ad s.heap.size) s.heap H locs → lv_has ls 2 [] → f_X8_isJammed_23  σ v100 = some res → W p l e { frames := 0, cells := 0, slots := 0, locals := 0 } s m args below meth c H locs 0 0 (MQ below (va_Qi (S := Unit) (fun r1 _ => r1 = res.1) (fun _ t => z_W 1 G ad res.2 t.heap) (z_A 1 ad s.heap.size)) args s 0 0 (z_A 1 ad s.heap.size)) (F0 m 23 ls [.int v100]) := by
  intro σ v100 H locs ls S hl  hf
  unfold f_X8_isJammed_23 at hf
  obtain ⟨g_23, hf⟩ := gd hf
  exact z_zret C S (nbz g_23).1 hf dX8_isJammed_23
set_option maxHeartbeats 4000000 in
set_option maxRecDepth 100000 in
theorem w_X8_isJammed_22 {p : Program} {l : Launch} {e : Env} {s : State} {m : MethodId} {args : Array Value} {below : List Frame} {meth : Method} {c : Code} {G : Gx} {ad : Ad} {res : Int32 × Sg} (C : Cx p s m args meth c yX8_isJammed.cls cX8_isJammed 2 (Option.some FieldType.boolean) G)  : ∀ (σ : Sg)  (H : Heap) (locs : List Loc) (ls : Array Slot), z_S 1 G ad σ (z_A 1 ad s.heap.size) s.heap H locs → lv_has ls 2 [] → f_X8_isJammed_22  σ  = some res → W p l e { frames := 0, cells := 0, slots := 0, locals := 0 } s m args below meth c H locs 0 0 (MQ below (va_Qi (S := Unit) (fun r1 _ => r1 = res.1) (fun _ t => z_W 1 G ad res.2 t.heap) (z_A 1 ad s.heap.size)) args s 0 0 (z_A 1 ad s.heap.size)) (F0 m 22 ls []) := by
  intro σ  H locs ls S hl  hf
  unfold f_X8_isJammed_22 at hf
  refine lv_iconst (v := 0) C.1 C.2.1 dX8_isJammed_22 (by decide) ?_
  exact w_X8_isJammed_23 C _ 0 _ _ _ S (lv_sub hl [] rfl) hf
set_option maxHeartbeats 4000000 in
set_option maxRecDepth 100000 in
theorem w_X8_isJammed_0 {p : Program} {l : Launch} {e : Env} {s : State} {m : MethodId} {args : Array Value} {below : List Frame} {meth : Method} {c : Code} {G : Gx} {ad : Ad} {res : Int32 × Sg} (C : Cx p s m args meth c yX8_isJammed.cls cX8_isJammed 2 (Option.some FieldType.boolean) G)  : ∀ (σ : Sg) (v1 : Int32) (H : Heap) (locs : List Loc) (ls : Array Slot), z_S 1 G ad σ (z_A 1 ad s.heap.size) s.heap H locs → lv_has ls 2 [(0, .ref (ad 8 0)), (1, .int v1)] → f_X8_isJammed  σ v1 = some res → W p l e { frames := 0, cells := 0, slots := 0, locals := 0 } s m args below meth c H locs 0 0 (MQ below (va_Qi (S := Unit) (fun r1 _ => r1 = res.1) (fun _ t => z_W 1 G ad res.2 t.heap) (z_A 1 ad s.heap.size)) args s 0 0 (z_A 1 ad s.heap.size)) (F0 m 0 ls []) := by
  intro σ v1 H locs ls S hl  hf
  unfold f_X8_isJammed at hf
  refine lv_iload_n C.1 C.2.1 dX8_isJammed_0 rfl (lv_at hl 1 rfl) ?_
  refine lv_iconst (v := (-1)) C.1 C.2.1 dX8_isJammed_1 (by decide) ?_
  refine lv_icmp_eq (tgt := 22) C.1 C.2.1 dX8_isJammed_2 (by decide) (fun c_2 => ?_) (fun c_2 => ?_)
  · rw [if_pos c_2] at hf
    exact w_X8_isJammed_22 C _ _ _ _ S (lv_sub hl [] rfl) hf
  · rw [if_neg c_2] at hf
    refine lv_aload_n C.1 C.2.1 dX8_isJammed_5 rfl (lv_at hl 0 rfl) ?_
    refine z_getR C S 8 0 rfl (by decide) cf_8 0 (by decide) _ (gr_8_0 G ad 0) tw_6_118 dX8_isJammed_6 ?_
    refine lv_bipush (v := 39) C.1 C.2.1 dX8_isJammed_9 (by decide) ?_
    refine lv_iload_n C.1 C.2.1 dX8_isJammed_11 rfl (lv_at hl 1 rfl) ?_
    refine lv_iadd C.1 C.2.1 dX8_isJammed_12 ?_
    obtain ⟨g_13, hf⟩ := gd hf
    refine z_iald C S 30 0 rfl (by decide) 2111 (fun _ => rfl) g_13 dX8_isJammed_13 ?_
    refine lv_iconst (v := 1) C.1 C.2.1 dX8_isJammed_14 (by decide) ?_
    refine lv_icmp_ne (tgt := 22) C.1 C.2.1 dX8_isJammed_15 (by decide) (fun c_15 => ?_) (fun c_15 => ?_)
    · rw [if_neg c_15] at hf
      exact w_X8_isJammed_22 C _ _ _ _ S (lv_sub hl [] rfl) hf
    · rw [if_pos c_15] at hf
      refine lv_iconst (v := 1) C.1 C.2.1 dX8_isJammed_18 (by decide) ?_
      refine lv_goto (tgt := 23) C.1 C.2.1 dX8_isJammed_19 (by decide) ?_
      exact w_X8_isJammed_23 C _ 1 _ _ _ S (lv_sub hl [] rfl) hf
theorem kv_X8_isJammed : KV yX8_isJammed cX8_isJammed 2 (Option.some FieldType.boolean) 1 := ⟨tw_7_226, tw_7_225, tw_p_83, tw_1_10, by decide, by decide, by decide +kernel⟩
theorem m_X8_isJammed (l : Launch) (G : Gx) (ad : Ad) (σ : Sg) (v1 : Int32) (r : Int32) (σ' : Sg)  (hf : f_X8_isJammed σ v1 = some (r, σ')) (sz : Nat) : z_MI l yX8_isJammed cX8_isJammed 2 (Option.some FieldType.boolean) 0 0 1 G ad σ sz [.ref (ad 8 0), .int v1] r σ' := by
  refine z_begin (by decide +kernel) (Nat.le_of_ble_eq_true rfl) [(0, .ref (ad 8 0)), (1, .int v1)] rfl (fun p e s m args below meth c ls C hz S hl => ?_)
  subst hz
  exact w_X8_isJammed_0 (res := (r, σ')) C σ v1 _ _ _ S hl  hf

theorem dX8_arrives_0 : decode cX8_arrives 0 = .ok (.aload_n 0, 1) := by decide +kernel
theorem dX8_arrives_1 : decode cX8_arrives 1 = .ok (.invokevirtual 84, 3) := by decide +kernel
theorem dX8_arrives_4 : decode cX8_arrives 4 = .ok (.aload_n 0, 1) := by decide +kernel
theorem dX8_arrives_5 : decode cX8_arrives 5 = .ok (.getfield 7, 3) := by decide +kernel
theorem dX8_arrives_8 : decode cX8_arrives 8 = .ok (.iconst 4, 1) := by decide +kernel
theorem dX8_arrives_9 : decode cX8_arrives 9 = .ok (.iaload, 1) := by decide +kernel
theorem dX8_arrives_10 : decode cX8_arrives 10 = .ok (.if_icmp .lt 20, 3) := by decide +kernel
theorem dX8_arrives_13 : decode cX8_arrives 13 = .ok (.aload_n 0, 1) := by decide +kernel
theorem dX8_arrives_14 : decode cX8_arrives 14 = .ok (.iload 4, 2) := by decide +kernel
theorem dX8_arrives_16 : decode cX8_arrives 16 = .ok (.invokevirtual 88, 3) := by decide +kernel
theorem dX8_arrives_19 : decode cX8_arrives 19 = .ok (.ifCond .ne 11, 3) := by decide +kernel
theorem dX8_arrives_22 : decode cX8_arrives 22 = .ok (.aload_n 0, 1) := by decide +kernel
theorem dX8_arrives_23 : decode cX8_arrives 23 = .ok (.iload_n 3, 1) := by decide +kernel
theorem dX8_arrives_24 : decode cX8_arrives 24 = .ok (.invokevirtual 88, 3) := by decide +kernel
theorem dX8_arrives_27 : decode cX8_arrives 27 = .ok (.ifCond .eq 7, 3) := by decide +kernel
theorem dX8_arrives_30 : decode cX8_arrives 30 = .ok (.iconst 1, 1) := by decide +kernel
theorem dX8_arrives_31 : decode cX8_arrives 31 = .ok (.goto 4, 3) := by decide +kernel
theorem dX8_arrives_34 : decode cX8_arrives 34 = .ok (.iconst 0, 1) := by decide +kernel
theorem dX8_arrives_35 : decode cX8_arrives 35 = .ok (.istore 5, 2) := by decide +kernel
theorem dX8_arrives_37 : decode cX8_arrives 37 = .ok (.iload 5, 2) := by decide +kernel
theorem dX8_arrives_39 : decode cX8_arrives 39 = .ok (.ifCond .ne 5, 3) := by decide +kernel
theorem dX8_arrives_42 : decode cX8_arrives 42 = .ok (.iconst 1, 1) := by decide +kernel
theorem dX8_arrives_43 : decode cX8_arrives 43 = .ok (.ireturn, 1) := by decide +kernel
theorem dX8_arrives_44 : decode cX8_arrives 44 = .ok (.aload_n 0, 1) := by decide +kernel
theorem dX8_arrives_45 : decode cX8_arrives 45 = .ok (.getfield 7, 3) := by decide +kernel
theorem dX8_arrives_48 : decode cX8_arrives 48 = .ok (.bipush 15, 2) := by decide +kernel
theorem dX8_arrives_50 : decode cX8_arrives 50 = .ok (.iload_n 1, 1) := by decide +kernel
theorem dX8_arrives_51 : decode cX8_arrives 51 = .ok (.iadd, 1) := by decide +kernel
theorem dX8_arrives_52 : decode cX8_arrives 52 = .ok (.dup2, 1) := by decide +kernel
theorem dX8_arrives_53 : decode cX8_arrives 53 = .ok (.iaload, 1) := by decide +kernel
theorem dX8_arrives_54 : decode cX8_arrives 54 = .ok (.iconst 1, 1) := by decide +kernel
theorem dX8_arrives_55 : decode cX8_arrives 55 = .ok (.iadd, 1) := by decide +kernel
theorem dX8_arrives_56 : decode cX8_arrives 56 = .ok (.iastore, 1) := by decide +kernel
theorem dX8_arrives_57 : decode cX8_arrives 57 = .ok (.iload 4, 2) := by decide +kernel
theorem dX8_arrives_59 : decode cX8_arrives 59 = .ok (.iconst (-1), 1) := by decide +kernel
theorem dX8_arrives_60 : decode cX8_arrives 60 = .ok (.if_icmp .eq 23, 3) := by decide +kernel
theorem dX8_arrives_63 : decode cX8_arrives 63 = .ok (.aload_n 0, 1) := by decide +kernel
theorem dX8_arrives_64 : decode cX8_arrives 64 = .ok (.getfield 7, 3) := by decide +kernel
theorem dX8_arrives_67 : decode cX8_arrives 67 = .ok (.sipush 607, 3) := by decide +kernel
theorem dX8_arrives_70 : decode cX8_arrives 70 = .ok (.iload 4, 2) := by decide +kernel
theorem dX8_arrives_72 : decode cX8_arrives 72 = .ok (.iload_n 2, 1) := by decide +kernel
theorem dX8_arrives_73 : decode cX8_arrives 73 = .ok (.invokestatic 65, 3) := by decide +kernel
theorem dX8_arrives_76 : decode cX8_arrives 76 = .ok (.dup2, 1) := by decide +kernel
theorem dX8_arrives_77 : decode cX8_arrives 77 = .ok (.iaload, 1) := by decide +kernel
theorem dX8_arrives_78 : decode cX8_arrives 78 = .ok (.iconst 1, 1) := by decide +kernel
theorem dX8_arrives_79 : decode cX8_arrives 79 = .ok (.iload_n 1, 1) := by decide +kernel
theorem dX8_arrives_80 : decode cX8_arrives 80 = .ok (.ishl, 1) := by decide +kernel
theorem dX8_arrives_81 : decode cX8_arrives 81 = .ok (.ior, 1) := by decide +kernel
theorem dX8_arrives_82 : decode cX8_arrives 82 = .ok (.iastore, 1) := by decide +kernel
theorem dX8_arrives_83 : decode cX8_arrives 83 = .ok (.iconst 0, 1) := by decide +kernel
theorem dX8_arrives_84 : decode cX8_arrives 84 = .ok (.ireturn, 1) := by decide +kernel
/-! BusLiftsModel.arrives(IIII)Z -/
noncomputable def f_X8_arrives_83  (σ : Sg)  : Option (Int32 × Sg) := some (0, σ)
noncomputable def f_X8_arrives_35  (σ : Sg) (v1 : Int32) (v2 : Int32) (v4 : Int32) (v100 : Int32) : Option (Int32 × Sg) := if v100 = 0 then (some (1, σ)) else (if (15 + v1) < 0 ∨ 2111 ≤ ((15 + v1)).toNatClampNeg then none else (if (15 + v1) < 0 ∨ 2111 ≤ ((15 + v1)).toNatClampNeg then none else (st (sup σ 30 0 ((15 + v1)).toNatClampNeg ((σ 30 0 ((15 + v1)).toNatClampNeg) + 1)) fun σ1 => (if v4 = (-1) then (f_X8_arrives_83 σ1) else (bi (f_X8_of σ1 607 v4 v2) fun r3 σ2 => (if r3 < 0 ∨ 2111 ≤ (r3).toNatClampNeg then none else (if r3 < 0 ∨ 2111 ≤ (r3).toNatClampNeg then none else (st (sup σ2 30 0 (r3).toNatClampNeg ((σ2 30 0 (r3).toNatClampNeg) ||| (1 <<< (v1 &&& 31)))) fun σ4 => (f_X8_arrives_83 σ4)))))))))
noncomputable def f_X8_arrives_30  (σ : Sg) (v1 : Int32) (v2 : Int32) (v4 : Int32) : Option (Int32 × Sg) := f_X8_arrives_35 σ v1 v2 v4 1
noncomputable def f_X8_arrives  (σ : Sg) (v1 : Int32) (v2 : Int32) (v3 : Int32) (v4 : Int32) : Option (Int32 × Sg) := bi (f_X8_draws σ) fun r2 σ1 => (if r2 < (σ1 30 0 4) then (f_X8_arrives_30 σ1 v1 v2 v4) else (bi (f_X8_isJammed σ1 v4) fun r4 σ3 => (if r4 = 0 then (bi (f_X8_isJammed σ3 v3) fun r6 σ5 => (if r6 = 0 then (f_X8_arrives_35 σ5 v1 v2 v4 0) else (f_X8_arrives_30 σ5 v1 v2 v4))) else (f_X8_arrives_30 σ3 v1 v2 v4))))
set_option maxHeartbeats 4000000 in
set_option maxRecDepth 100000 in
theorem w_X8_arrives_83 {p : Program} {l : Launch} {e : Env} {s : State} {m : MethodId} {args : Array Value} {below : List Frame} {meth : Method} {c : Code} {G : Gx} {ad : Ad} {res : Int32 × Sg} (C : Cx p s m args meth c yX8_arrives.cls cX8_arrives 6 (Option.some FieldType.boolean) G)  : ∀ (σ : Sg)  (H : Heap) (locs : List Loc) (ls : Array Slot), z_S 1 G ad σ (z_A 1 ad s.heap.size) s.heap H locs → lv_has ls 6 [] → f_X8_arrives_83  σ  = some res → W p l e { frames := 1, cells := 0, slots := 0, locals := 22 } s m args below meth c H locs 0 0 (MQ below (va_Qi (S := Unit) (fun r1 _ => r1 = res.1) (fun _ t => z_W 1 G ad res.2 t.heap) (z_A 1 ad s.heap.size)) args s 0 0 (z_A 1 ad s.heap.size)) (F0 m 83 ls []) := by
  intro σ  H locs ls S hl  hf
  unfold f_X8_arrives_83 at hf
  refine lv_iconst (v := 0) C.1 C.2.1 dX8_arrives_83 (by decide) ?_
  exact z_zret C S rfl hf dX8_arrives_84
set_option maxHeartbeats 4000000 in
set_option maxRecDepth 100000 in
theorem w_X8_arrives_35 {p : Program} {l : Launch} {e : Env} {s : State} {m : MethodId} {args : Array Value} {below : List Frame} {meth : Method} {c : Code} {G : Gx} {ad : Ad} {res : Int32 × Sg} (C : Cx p s m args meth c yX8_arrives.cls cX8_arrives 6 (Option.some FieldType.boolean) G)  : ∀ (σ : Sg) (v1 : Int32) (v2 : Int32) (v4 : Int32) (v100 : Int32) (H : Heap) (locs : List Loc) (ls : Array Slot), z_S 1 G ad σ (z_A 1 ad s.heap.size) s.heap H locs → lv_has ls 6 [(0, .ref (ad 8 0)), (1, .int v1), (2, .int v2), (4, .int v4)] → f_X8_arrives_35  σ v1 v2 v4 v100 = some res → W p l e { frames := 1, cells := 0, slots := 0, locals := 22 } s m args below meth c H locs 0 0 (MQ below (va_Qi (S := Unit) (fun r1 _ => r1 = res.1) (fun _ t => z_W 1 G ad res.2 t.heap) (z_A 1 ad s.heap.size)) args s 0 0 (z_A 1 ad s.heap.size)) (F0 m 35 ls [.int v100]) := by
  intro σ v1 v2 v4 v100 H locs ls S hl  hf
  unfold f_X8_arrives_35 at hf
  refine lv_istore (lv' := [(5, .int v100), (0, .ref (ad 8 0)), (1, .int v1), (2, .int v2), (4, .int v4)]) C.1 C.2.1 dX8_arrives_35 hl (by decide) rfl (fun ls hl => ?_)
  refine lv_iload C.1 C.2.1 dX8_arrives_37 (lv_at hl 0 rfl) ?_
  refine lv_if_ne (tgt := 44) C.1 C.2.1 dX8_arrives_39 (by decide) (fun c_39 => ?_) (fun c_39 => ?_)
  · rw [if_neg c_39] at hf
    refine lv_aload_n C.1 C.2.1 dX8_arrives_44 rfl (lv_at hl 1 rfl) ?_
    refine z_getR C S 8 0 rfl (by decide) cf_8 0 (by decide) _ (gr_8_0 G ad 0) tw_6_118 dX8_arrives_45 ?_
    refine lv_bipush (v := 15) C.1 C.2.1 dX8_arrives_48 (by decide) ?_
    refine lv_iload_n C.1 C.2.1 dX8_arrives_50 rfl (lv_at hl 2 rfl) ?_
    refine lv_iadd C.1 C.2.1 dX8_arrives_51 ?_
    refine lv_dup2_11 C.1 C.2.1 dX8_arrives_52 rfl rfl ?_
    obtain ⟨g_53, hf⟩ := gd hf
    refine z_iald C S 30 0 rfl (by decide) 2111 (fun _ => rfl) g_53 dX8_arrives_53 ?_
    refine lv_iconst (v := 1) C.1 C.2.1 dX8_arrives_54 (by decide) ?_
    refine lv_iadd C.1 C.2.1 dX8_arrives_55 ?_
    obtain ⟨g_56, hf⟩ := gd hf
    obtain ⟨σ1, e_56, hf⟩ := stb hf
    refine z_iast C S 30 0 rfl (by decide) 2111 (fun _ => rfl) g_56 dX8_arrives_56 (fun H locs S => ?_)
    rw [← e_56] at S
    refine lv_iload C.1 C.2.1 dX8_arrives_57 (lv_at hl 4 rfl) ?_
    refine lv_iconst (v := (-1)) C.1 C.2.1 dX8_arrives_59 (by decide) ?_
    refine lv_icmp_eq (tgt := 83) C.1 C.2.1 dX8_arrives_60 (by decide) (fun c_60 => ?_) (fun c_60 => ?_)
    · rw [if_pos c_60] at hf
      exact w_X8_arrives_83 C _ _ _ _ S (lv_sub hl [] rfl) hf
    · rw [if_neg c_60] at hf
      refine lv_aload_n C.1 C.2.1 dX8_arrives_63 rfl (lv_at hl 1 rfl) ?_
      refine z_getR C S 8 0 rfl (by decide) cf_8 0 (by decide) _ (gr_8_0 G ad 0) tw_6_118 dX8_arrives_64 ?_
      refine lv_sipush (v := 607) C.1 C.2.1 dX8_arrives_67 (by decide) ?_
      refine lv_iload C.1 C.2.1 dX8_arrives_70 (lv_at hl 4 rfl) ?_
      refine lv_iload_n C.1 C.2.1 dX8_arrives_72 rfl (lv_at hl 3 rfl) ?_
      obtain ⟨r3, σ2, q_73, hf⟩ := bib hf
      refine z_callSI C S [.int 607, .int v4, .int v2] (m_X8_of l G ad σ1 607 v4 v2 r3 σ2 q_73 _) kv_X8_of tw_7_76 ⟨Nat.le_of_ble_eq_true rfl, Nat.le_of_ble_eq_true rfl⟩ rfl rfl (Nat.le_of_ble_eq_true rfl) hl.1 ⟨Nat.le_of_ble_eq_true rfl, Nat.le_of_ble_eq_true rfl⟩ dX8_arrives_73 (fun H locs S => ?_)
      refine lv_dup2_11 C.1 C.2.1 dX8_arrives_76 rfl rfl ?_
      obtain ⟨g_77, hf⟩ := gd hf
      refine z_iald C S 30 0 rfl (by decide) 2111 (fun _ => rfl) g_77 dX8_arrives_77 ?_
      refine lv_iconst (v := 1) C.1 C.2.1 dX8_arrives_78 (by decide) ?_
      refine lv_iload_n C.1 C.2.1 dX8_arrives_79 rfl (lv_at hl 2 rfl) ?_
      refine lv_ishl C.1 C.2.1 dX8_arrives_80 ?_
      refine lv_ior C.1 C.2.1 dX8_arrives_81 ?_
      obtain ⟨g_82, hf⟩ := gd hf
      obtain ⟨σ4, e_82, hf⟩ := stb hf
      refine z_iast C S 30 0 rfl (by decide) 2111 (fun _ => rfl) g_82 dX8_arrives_82 (fun H locs S => ?_)
      rw [← e_82] at S
      exact w_X8_arrives_83 C _ _ _ _ S (lv_sub hl [] rfl) hf
  · rw [if_pos c_39] at hf
    refine lv_iconst (v := 1) C.1 C.2.1 dX8_arrives_42 (by decide) ?_
    exact z_zret C S rfl hf dX8_arrives_43
set_option maxHeartbeats 4000000 in
set_option maxRecDepth 100000 in
theorem w_X8_arrives_30 {p : Program} {l : Launch} {e : Env} {s : State} {m : MethodId} {args : Array Value} {below : List Frame} {meth : Method} {c : Code} {G : Gx} {ad : Ad} {res : Int32 × Sg} (C : Cx p s m args meth c yX8_arrives.cls cX8_arrives 6 (Option.some FieldType.boolean) G)  : ∀ (σ : Sg) (v1 : Int32) (v2 : Int32) (v4 : Int32) (H : Heap) (locs : List Loc) (ls : Array Slot), z_S 1 G ad σ (z_A 1 ad s.heap.size) s.heap H locs → lv_has ls 6 [(0, .ref (ad 8 0)), (1, .int v1), (2, .int v2), (4, .int v4)] → f_X8_arrives_30  σ v1 v2 v4 = some res → W p l e { frames := 1, cells := 0, slots := 0, locals := 22 } s m args below meth c H locs 0 0 (MQ below (va_Qi (S := Unit) (fun r1 _ => r1 = res.1) (fun _ t => z_W 1 G ad res.2 t.heap) (z_A 1 ad s.heap.size)) args s 0 0 (z_A 1 ad s.heap.size)) (F0 m 30 ls []) := by
  intro σ v1 v2 v4 H locs ls S hl  hf
  unfold f_X8_arrives_30 at hf
  refine lv_iconst (v := 1) C.1 C.2.1 dX8_arrives_30 (by decide) ?_
  refine lv_goto (tgt := 35) C.1 C.2.1 dX8_arrives_31 (by decide) ?_
  exact w_X8_arrives_35 C _ v1 v2 v4 1 _ _ _ S (lv_sub hl [0, 1, 2, 3] rfl) hf
set_option maxHeartbeats 4000000 in
set_option maxRecDepth 100000 in
theorem w_X8_arrives_0 {p : Program} {l : Launch} {e : Env} {s : State} {m : MethodId} {args : Array Value} {below : List Frame} {meth : Method} {c : Code} {G : Gx} {ad : Ad} {res : Int32 × Sg} (C : Cx p s m args meth c yX8_arrives.cls cX8_arrives 6 (Option.some FieldType.boolean) G)  : ∀ (σ : Sg) (v1 : Int32) (v2 : Int32) (v3 : Int32) (v4 : Int32) (H : Heap) (locs : List Loc) (ls : Array Slot), z_S 1 G ad σ (z_A 1 ad s.heap.size) s.heap H locs → lv_has ls 6 [(0, .ref (ad 8 0)), (1, .int v1), (2, .int v2), (3, .int v3), (4, .int v4)] → f_X8_arrives  σ v1 v2 v3 v4 = some res → W p l e { frames := 1, cells := 0, slots := 0, locals := 22 } s m args below meth c H locs 0 0 (MQ below (va_Qi (S := Unit) (fun r1 _ => r1 = res.1) (fun _ t => z_W 1 G ad res.2 t.heap) (z_A 1 ad s.heap.size)) args s 0 0 (z_A 1 ad s.heap.size)) (F0 m 0 ls []) := by
  intro σ v1 v2 v3 v4 H locs ls S hl  hf
  unfold f_X8_arrives at hf
  refine lv_aload_n C.1 C.2.1 dX8_arrives_0 rfl (lv_at hl 0 rfl) ?_
  obtain ⟨r2, σ1, q_1, hf⟩ := bib hf
  refine z_callI C S 8 0 rfl (by decide) cf_8 ⟨_, rfl⟩ [] (m_X8_draws l G ad σ r2 σ1 q_1 _) kv_X8_draws tw_7_218 ⟨Nat.le_of_ble_eq_true rfl, Nat.le_of_ble_eq_true rfl⟩ rfl rfl (Nat.le_of_ble_eq_true rfl) hl.1 ⟨Nat.le_of_ble_eq_true rfl, Nat.le_of_ble_eq_true rfl⟩ dX8_arrives_1 (fun H locs S => ?_)
  refine lv_aload_n C.1 C.2.1 dX8_arrives_4 rfl (lv_at hl 0 rfl) ?_
  refine z_getR C S 8 0 rfl (by decide) cf_8 0 (by decide) _ (gr_8_0 G ad 0) tw_6_118 dX8_arrives_5 ?_
  refine lv_iconst (v := 4) C.1 C.2.1 dX8_arrives_8 (by decide) ?_
  refine z_ialdL C S 30 0 rfl (by decide) 2111 (fun _ => rfl) 4 (by decide) (by decide) (by decide) dX8_arrives_9 ?_
  refine lv_icmp_lt (tgt := 30) C.1 C.2.1 dX8_arrives_10 (by decide) (fun c_10 => ?_) (fun c_10 => ?_)
  · rw [if_pos c_10] at hf
    exact w_X8_arrives_30 C _ v1 v2 v4 _ _ _ S (lv_sub hl [0, 1, 2, 4] rfl) hf
  · rw [if_neg c_10] at hf
    refine lv_aload_n C.1 C.2.1 dX8_arrives_13 rfl (lv_at hl 0 rfl) ?_
    refine lv_iload C.1 C.2.1 dX8_arrives_14 (lv_at hl 4 rfl) ?_
    obtain ⟨r4, σ3, q_16, hf⟩ := bib hf
    refine z_callI C S 8 0 rfl (by decide) cf_8 ⟨_, rfl⟩ [.int v4] (m_X8_isJammed l G ad σ1 v4 r4 σ3 q_16 _) kv_X8_isJammed tw_7_223 ⟨Nat.le_of_ble_eq_true rfl, Nat.le_of_ble_eq_true rfl⟩ rfl rfl (Nat.le_of_ble_eq_true rfl) hl.1 ⟨Nat.le_of_ble_eq_true rfl, Nat.le_of_ble_eq_true rfl⟩ dX8_arrives_16 (fun H locs S => ?_)
    refine lv_if_ne (tgt := 30) C.1 C.2.1 dX8_arrives_19 (by decide) (fun c_19 => ?_) (fun c_19 => ?_)
    · rw [if_neg c_19] at hf
      exact w_X8_arrives_30 C _ v1 v2 v4 _ _ _ S (lv_sub hl [0, 1, 2, 4] rfl) hf
    · rw [if_pos c_19] at hf
      refine lv_aload_n C.1 C.2.1 dX8_arrives_22 rfl (lv_at hl 0 rfl) ?_
      refine lv_iload_n C.1 C.2.1 dX8_arrives_23 rfl (lv_at hl 3 rfl) ?_
      obtain ⟨r6, σ5, q_24, hf⟩ := bib hf
      refine z_callI C S 8 0 rfl (by decide) cf_8 ⟨_, rfl⟩ [.int v3] (m_X8_isJammed l G ad σ3 v3 r6 σ5 q_24 _) kv_X8_isJammed tw_7_223 ⟨Nat.le_of_ble_eq_true rfl, Nat.le_of_ble_eq_true rfl⟩ rfl rfl (Nat.le_of_ble_eq_true rfl) hl.1 ⟨Nat.le_of_ble_eq_true rfl, Nat.le_of_ble_eq_true rfl⟩ dX8_arrives_24 (fun H locs S => ?_)
      refine lv_if_eq (tgt := 34) C.1 C.2.1 dX8_arrives_27 (by decide) (fun c_27 => ?_) (fun c_27 => ?_)
      · rw [if_pos c_27] at hf
        refine lv_iconst (v := 0) C.1 C.2.1 dX8_arrives_34 (by decide) ?_
        exact w_X8_arrives_35 C _ v1 v2 v4 0 _ _ _ S (lv_sub hl [0, 1, 2, 4] rfl) hf
      · rw [if_neg c_27] at hf
        exact w_X8_arrives_30 C _ v1 v2 v4 _ _ _ S (lv_sub hl [0, 1, 2, 4] rfl) hf
theorem kv_X8_arrives : KV yX8_arrives cX8_arrives 6 (Option.some FieldType.boolean) 4 := ⟨tw_7_217, tw_7_216, tw_p_81, tw_1_10, by decide, by decide, by decide +kernel⟩
theorem m_X8_arrives (l : Launch) (G : Gx) (ad : Ad) (σ : Sg) (v1 : Int32) (v2 : Int32) (v3 : Int32) (v4 : Int32) (r : Int32) (σ' : Sg)  (hf : f_X8_arrives σ v1 v2 v3 v4 = some (r, σ')) (sz : Nat) : z_MI l yX8_arrives cX8_arrives 6 (Option.some FieldType.boolean) 1 22 1 G ad σ sz [.ref (ad 8 0), .int v1, .int v2, .int v3, .int v4] r σ' := by
  refine z_begin (by decide +kernel) (Nat.le_of_ble_eq_true rfl) [(0, .ref (ad 8 0)), (1, .int v1), (2, .int v2), (3, .int v3), (4, .int v4)] rfl (fun p e s m args below meth c ls C hz S hl => ?_)
  subst hz
  exact w_X8_arrives_0 (res := (r, σ')) C σ v1 v2 v3 v4 _ _ _ S hl  hf

theorem dX8_hearsCall_0 : decode cX8_hearsCall 0 = .ok (.aload_n 0, 1) := by decide +kernel
theorem dX8_hearsCall_1 : decode cX8_hearsCall 1 = .ok (.getfield 7, 3) := by decide +kernel
theorem dX8_hearsCall_4 : decode cX8_hearsCall 4 = .ok (.bipush 35, 2) := by decide +kernel
theorem dX8_hearsCall_6 : decode cX8_hearsCall 6 = .ok (.iload_n 1, 1) := by decide +kernel
theorem dX8_hearsCall_7 : decode cX8_hearsCall 7 = .ok (.iadd, 1) := by decide +kernel
theorem dX8_hearsCall_8 : decode cX8_hearsCall 8 = .ok (.iaload, 1) := by decide +kernel
theorem dX8_hearsCall_9 : decode cX8_hearsCall 9 = .ok (.iconst 1, 1) := by decide +kernel
theorem dX8_hearsCall_10 : decode cX8_hearsCall 10 = .ok (.if_icmp .ne 4, 3) := by decide +kernel
theorem dX8_hearsCall_13 : decode cX8_hearsCall 13 = .ok (.return_, 1) := by decide +kernel
theorem dX8_hearsCall_14 : decode cX8_hearsCall 14 = .ok (.aload_n 0, 1) := by decide +kernel
theorem dX8_hearsCall_15 : decode cX8_hearsCall 15 = .ok (.iload_n 1, 1) := by decide +kernel
theorem dX8_hearsCall_16 : decode cX8_hearsCall 16 = .ok (.iload_n 2, 1) := by decide +kernel
theorem dX8_hearsCall_17 : decode cX8_hearsCall 17 = .ok (.invokevirtual 92, 3) := by decide +kernel
theorem dX8_hearsCall_20 : decode cX8_hearsCall 20 = .ok (.ifCond .eq 24, 3) := by decide +kernel
theorem dX8_hearsCall_23 : decode cX8_hearsCall 23 = .ok (.aload_n 0, 1) := by decide +kernel
theorem dX8_hearsCall_24 : decode cX8_hearsCall 24 = .ok (.iconst 2, 1) := by decide +kernel
theorem dX8_hearsCall_25 : decode cX8_hearsCall 25 = .ok (.iload_n 2, 1) := by decide +kernel
theorem dX8_hearsCall_26 : decode cX8_hearsCall 26 = .ok (.iload_n 1, 1) := by decide +kernel
theorem dX8_hearsCall_27 : decode cX8_hearsCall 27 = .ok (.aload_n 0, 1) := by decide +kernel
theorem dX8_hearsCall_28 : decode cX8_hearsCall 28 = .ok (.getfield 7, 3) := by decide +kernel
theorem dX8_hearsCall_31 : decode cX8_hearsCall 31 = .ok (.sipush 415, 3) := by decide +kernel
theorem dX8_hearsCall_34 : decode cX8_hearsCall 34 = .ok (.iload_n 1, 1) := by decide +kernel
theorem dX8_hearsCall_35 : decode cX8_hearsCall 35 = .ok (.iload_n 2, 1) := by decide +kernel
theorem dX8_hearsCall_36 : decode cX8_hearsCall 36 = .ok (.invokestatic 65, 3) := by decide +kernel
theorem dX8_hearsCall_39 : decode cX8_hearsCall 39 = .ok (.iaload, 1) := by decide +kernel
theorem dX8_hearsCall_40 : decode cX8_hearsCall 40 = .ok (.invokevirtual 95, 3) := by decide +kernel
theorem dX8_hearsCall_43 : decode cX8_hearsCall 43 = .ok (.return_, 1) := by decide +kernel
theorem dX8_hearsCall_44 : decode cX8_hearsCall 44 = .ok (.aload_n 0, 1) := by decide +kernel
theorem dX8_hearsCall_45 : decode cX8_hearsCall 45 = .ok (.getfield 7, 3) := by decide +kernel
theorem dX8_hearsCall_48 : decode cX8_hearsCall 48 = .ok (.bipush 127, 2) := by decide +kernel
theorem dX8_hearsCall_50 : decode cX8_hearsCall 50 = .ok (.iload_n 2, 1) := by decide +kernel
theorem dX8_hearsCall_51 : decode cX8_hearsCall 51 = .ok (.iadd, 1) := by decide +kernel
theorem dX8_hearsCall_52 : decode cX8_hearsCall 52 = .ok (.iaload, 1) := by decide +kernel
theorem dX8_hearsCall_53 : decode cX8_hearsCall 53 = .ok (.iconst 1, 1) := by decide +kernel
theorem dX8_hearsCall_54 : decode cX8_hearsCall 54 = .ok (.if_icmp .eq 4, 3) := by decide +kernel
theorem dX8_hearsCall_57 : decode cX8_hearsCall 57 = .ok (.return_, 1) := by decide +kernel
theorem dX8_hearsCall_58 : decode cX8_hearsCall 58 = .ok (.aload_n 0, 1) := by decide +kernel
theorem dX8_hearsCall_59 : decode cX8_hearsCall 59 = .ok (.iload_n 1, 1) := by decide +kernel
theorem dX8_hearsCall_60 : decode cX8_hearsCall 60 = .ok (.iload_n 2, 1) := by decide +kernel
theorem dX8_hearsCall_61 : decode cX8_hearsCall 61 = .ok (.invokevirtual 51, 3) := by decide +kernel
theorem dX8_hearsCall_64 : decode cX8_hearsCall 64 = .ok (.aload_n 0, 1) := by decide +kernel
theorem dX8_hearsCall_65 : decode cX8_hearsCall 65 = .ok (.getfield 7, 3) := by decide +kernel
theorem dX8_hearsCall_68 : decode cX8_hearsCall 68 = .ok (.sipush 415, 3) := by decide +kernel
theorem dX8_hearsCall_71 : decode cX8_hearsCall 71 = .ok (.iload_n 1, 1) := by decide +kernel
theorem dX8_hearsCall_72 : decode cX8_hearsCall 72 = .ok (.iload_n 2, 1) := by decide +kernel
theorem dX8_hearsCall_73 : decode cX8_hearsCall 73 = .ok (.invokestatic 65, 3) := by decide +kernel
theorem dX8_hearsCall_76 : decode cX8_hearsCall 76 = .ok (.aload_n 0, 1) := by decide +kernel
theorem dX8_hearsCall_77 : decode cX8_hearsCall 77 = .ok (.iload_n 1, 1) := by decide +kernel
theorem dX8_hearsCall_78 : decode cX8_hearsCall 78 = .ok (.aload_n 0, 1) := by decide +kernel
theorem dX8_hearsCall_79 : decode cX8_hearsCall 79 = .ok (.getfield 7, 3) := by decide +kernel
theorem dX8_hearsCall_82 : decode cX8_hearsCall 82 = .ok (.bipush 55, 2) := by decide +kernel
theorem dX8_hearsCall_84 : decode cX8_hearsCall 84 = .ok (.iload_n 2, 1) := by decide +kernel
theorem dX8_hearsCall_85 : decode cX8_hearsCall 85 = .ok (.iadd, 1) := by decide +kernel
theorem dX8_hearsCall_86 : decode cX8_hearsCall 86 = .ok (.iaload, 1) := by decide +kernel
theorem dX8_hearsCall_87 : decode cX8_hearsCall 87 = .ok (.invokevirtual 99, 3) := by decide +kernel
theorem dX8_hearsCall_90 : decode cX8_hearsCall 90 = .ok (.iastore, 1) := by decide +kernel
theorem dX8_hearsCall_91 : decode cX8_hearsCall 91 = .ok (.aload_n 0, 1) := by decide +kernel
theorem dX8_hearsCall_92 : decode cX8_hearsCall 92 = .ok (.getfield 7, 3) := by decide +kernel
theorem dX8_hearsCall_95 : decode cX8_hearsCall 95 = .ok (.sipush 511, 3) := by decide +kernel
theorem dX8_hearsCall_98 : decode cX8_hearsCall 98 = .ok (.iload_n 1, 1) := by decide +kernel
theorem dX8_hearsCall_99 : decode cX8_hearsCall 99 = .ok (.iload_n 2, 1) := by decide +kernel
theorem dX8_hearsCall_100 : decode cX8_hearsCall 100 = .ok (.invokestatic 65, 3) := by decide +kernel
theorem dX8_hearsCall_103 : decode cX8_hearsCall 103 = .ok (.aload_n 0, 1) := by decide +kernel
theorem dX8_hearsCall_104 : decode cX8_hearsCall 104 = .ok (.getfield 7, 3) := by decide +kernel
theorem dX8_hearsCall_107 : decode cX8_hearsCall 107 = .ok (.iconst 3, 1) := by decide +kernel
theorem dX8_hearsCall_108 : decode cX8_hearsCall 108 = .ok (.iaload, 1) := by decide +kernel
theorem dX8_hearsCall_109 : decode cX8_hearsCall 109 = .ok (.iconst 2, 1) := by decide +kernel
theorem dX8_hearsCall_110 : decode cX8_hearsCall 110 = .ok (.iadd, 1) := by decide +kernel
theorem dX8_hearsCall_111 : decode cX8_hearsCall 111 = .ok (.iastore, 1) := by decide +kernel
theorem dX8_hearsCall_112 : decode cX8_hearsCall 112 = .ok (.aload_n 0, 1) := by decide +kernel
theorem dX8_hearsCall_113 : decode cX8_hearsCall 113 = .ok (.iconst 1, 1) := by decide +kernel
theorem dX8_hearsCall_114 : decode cX8_hearsCall 114 = .ok (.iload_n 2, 1) := by decide +kernel
theorem dX8_hearsCall_115 : decode cX8_hearsCall 115 = .ok (.iload_n 1, 1) := by decide +kernel
theorem dX8_hearsCall_116 : decode cX8_hearsCall 116 = .ok (.aload_n 0, 1) := by decide +kernel
theorem dX8_hearsCall_117 : decode cX8_hearsCall 117 = .ok (.getfield 7, 3) := by decide +kernel
theorem dX8_hearsCall_120 : decode cX8_hearsCall 120 = .ok (.sipush 415, 3) := by decide +kernel
theorem dX8_hearsCall_123 : decode cX8_hearsCall 123 = .ok (.iload_n 1, 1) := by decide +kernel
theorem dX8_hearsCall_124 : decode cX8_hearsCall 124 = .ok (.iload_n 2, 1) := by decide +kernel
theorem dX8_hearsCall_125 : decode cX8_hearsCall 125 = .ok (.invokestatic 65, 3) := by decide +kernel
theorem dX8_hearsCall_128 : decode cX8_hearsCall 128 = .ok (.iaload, 1) := by decide +kernel
theorem dX8_hearsCall_129 : decode cX8_hearsCall 129 = .ok (.invokevirtual 95, 3) := by decide +kernel
theorem dX8_hearsCall_132 : decode cX8_hearsCall 132 = .ok (.return_, 1) := by decide +kernel
/-! BusLiftsModel.hearsCall(II)V -/
noncomputable def f_X8_hearsCall  (σ : Sg) (v1 : Int32) (v2 : Int32) : Option Sg := if (35 + v1) < 0 ∨ 2111 ≤ ((35 + v1)).toNatClampNeg then none else (if (σ 30 0 ((35 + v1)).toNatClampNeg) = 1 then (some σ) else (bi (f_X8_doesHold σ v1 v2) fun r2 σ1 => (if r2 = 0 then (if (127 + v2) < 0 ∨ 2111 ≤ ((127 + v2)).toNatClampNeg then none else (if (σ1 30 0 ((127 + v2)).toNatClampNeg) = 1 then (bv (f_X8_forgetsBids σ1 v1 v2) fun σ3 => (bi (f_X8_of σ3 415 v1 v2) fun r5 σ4 => (if (55 + v2) < 0 ∨ 2111 ≤ ((55 + v2)).toNatClampNeg then none else (bi (f_X8_costFrom σ4 v1 (σ4 30 0 ((55 + v2)).toNatClampNeg)) fun r7 σ6 => (if r5 < 0 ∨ 2111 ≤ (r5).toNatClampNeg then none else (st (sup σ6 30 0 (r5).toNatClampNeg r7) fun σ8 => (bi (f_X8_of σ8 511 v1 v2) fun r10 σ9 => (if r10 < 0 ∨ 2111 ≤ (r10).toNatClampNeg then none else (st (sup σ9 30 0 (r10).toNatClampNeg ((σ9 30 0 3) + 2)) fun σ11 => (bi (f_X8_of σ11 415 v1 v2) fun r13 σ12 => (if r13 < 0 ∨ 2111 ≤ (r13).toNatClampNeg then none else (bv (f_X8_sends σ12 1 v2 v1 (σ12 30 0 (r13).toNatClampNeg)) fun σ14 => (some σ14))))))))))))) else (some σ1))) else (bi (f_X8_of σ1 415 v1 v2) fun r16 σ15 => (if r16 < 0 ∨ 2111 ≤ (r16).toNatClampNeg then none else (bv (f_X8_sends σ15 2 v2 v1 (σ15 30 0 (r16).toNatClampNeg)) fun σ17 => (some σ17)))))))
set_option maxHeartbeats 4000000 in
set_option maxRecDepth 100000 in
theorem w_X8_hearsCall_0 {p : Program} {l : Launch} {e : Env} {s : State} {m : MethodId} {args : Array Value} {below : List Frame} {meth : Method} {c : Code} {G : Gx} {ad : Ad} {res : Sg} (C : Cx p s m args meth c yX8_hearsCall.cls cX8_hearsCall 3 none G)  : ∀ (σ : Sg) (v1 : Int32) (v2 : Int32) (H : Heap) (locs : List Loc) (ls : Array Slot), z_S 1 G ad σ (z_A 1 ad s.heap.size) s.heap H locs → lv_has ls 3 [(0, .ref (ad 8 0)), (1, .int v1), (2, .int v2)] → f_X8_hearsCall  σ v1 v2 = some res → W p l e { frames := 3, cells := 0, slots := 0, locals := 67 } s m args below meth c H locs 0 0 (MQ below (va_Qv (S := Unit) (fun _ => True) (fun _ t => z_W 1 G ad res t.heap) (z_A 1 ad s.heap.size)) args s 0 0 (z_A 1 ad s.heap.size)) (F0 m 0 ls []) := by
  intro σ v1 v2 H locs ls S hl  hf
  unfold f_X8_hearsCall at hf
  refine lv_aload_n C.1 C.2.1 dX8_hearsCall_0 rfl (lv_at hl 0 rfl) ?_
  refine z_getR C S 8 0 rfl (by decide) cf_8 0 (by decide) _ (gr_8_0 G ad 0) tw_6_118 dX8_hearsCall_1 ?_
  refine lv_bipush (v := 35) C.1 C.2.1 dX8_hearsCall_4 (by decide) ?_
  refine lv_iload_n C.1 C.2.1 dX8_hearsCall_6 rfl (lv_at hl 1 rfl) ?_
  refine lv_iadd C.1 C.2.1 dX8_hearsCall_7 ?_
  obtain ⟨g_8, hf⟩ := gd hf
  refine z_iald C S 30 0 rfl (by decide) 2111 (fun _ => rfl) g_8 dX8_hearsCall_8 ?_
  refine lv_iconst (v := 1) C.1 C.2.1 dX8_hearsCall_9 (by decide) ?_
  refine lv_icmp_ne (tgt := 14) C.1 C.2.1 dX8_hearsCall_10 (by decide) (fun c_10 => ?_) (fun c_10 => ?_)
  · rw [if_neg c_10] at hf
    refine lv_aload_n C.1 C.2.1 dX8_hearsCall_14 rfl (lv_at hl 0 rfl) ?_
    refine lv_iload_n C.1 C.2.1 dX8_hearsCall_15 rfl (lv_at hl 1 rfl) ?_
    refine lv_iload_n C.1 C.2.1 dX8_hearsCall_16 rfl (lv_at hl 2 rfl) ?_
    obtain ⟨r2, σ1, q_17, hf⟩ := bib hf
    refine z_callI C S 8 0 rfl (by decide) cf_8 ⟨_, rfl⟩ [.int v1, .int v2] (m_X8_doesHold l G ad σ v1 v2 r2 σ1 q_17 _) kv_X8_doesHold tw_7_115 ⟨Nat.le_of_ble_eq_true rfl, Nat.le_of_ble_eq_true rfl⟩ rfl rfl (Nat.le_of_ble_eq_true rfl) hl.1 ⟨Nat.le_of_ble_eq_true rfl, Nat.le_of_ble_eq_true rfl⟩ dX8_hearsCall_17 (fun H locs S => ?_)
    refine lv_if_eq (tgt := 44) C.1 C.2.1 dX8_hearsCall_20 (by decide) (fun c_20 => ?_) (fun c_20 => ?_)
    · rw [if_pos c_20] at hf
      refine lv_aload_n C.1 C.2.1 dX8_hearsCall_44 rfl (lv_at hl 0 rfl) ?_
      refine z_getR C S 8 0 rfl (by decide) cf_8 0 (by decide) _ (gr_8_0 G ad 0) tw_6_118 dX8_hearsCall_45 ?_
      refine lv_bipush (v := 127) C.1 C.2.1 dX8_hearsCall_48 (by decide) ?_
      refine lv_iload_n C.1 C.2.1 dX8_hearsCall_50 rfl (lv_at hl 2 rfl) ?_
      refine lv_iadd C.1 C.2.1 dX8_hearsCall_51 ?_
      obtain ⟨g_52, hf⟩ := gd hf
      refine z_iald C S 30 0 rfl (by decide) 2111 (fun _ => rfl) g_52 dX8_hearsCall_52 ?_
      refine lv_iconst (v := 1) C.1 C.2.1 dX8_hearsCall_53 (by decide) ?_
      refine lv_icmp_eq (tgt := 58) C.1 C.2.1 dX8_hearsCall_54 (by decide) (fun c_54 => ?_) (fun c_54 => ?_)
      · rw [if_pos c_54] at hf
        refine lv_aload_n C.1 C.2.1 dX8_hearsCall_58 rfl (lv_at hl 0 rfl) ?_
        refine lv_iload_n C.1 C.2.1 dX8_hearsCall_59 rfl (lv_at hl 1 rfl) ?_
        refine lv_iload_n C.1 C.2.1 dX8_hearsCall_60 rfl (lv_at hl 2 rfl) ?_
        obtain ⟨σ3, q_61, hf⟩ := bvb hf
        refine z_callV C S 8 0 rfl (by decide) cf_8 ⟨_, rfl⟩ [.int v1, .int v2] (m_X8_forgetsBids l G ad σ1 v1 v2 σ3 q_61 _) kv_X8_forgetsBids tw_7_27 ⟨Nat.le_of_ble_eq_true rfl, Nat.le_of_ble_eq_true rfl⟩ rfl rfl (Nat.le_of_ble_eq_true rfl) hl.1 ⟨Nat.le_of_ble_eq_true rfl, Nat.le_of_ble_eq_true rfl⟩ dX8_hearsCall_61 (fun H locs S => ?_)
        refine lv_aload_n C.1 C.2.1 dX8_hearsCall_64 rfl (lv_at hl 0 rfl) ?_
        refine z_getR C S 8 0 rfl (by decide) cf_8 0 (by decide) _ (gr_8_0 G ad 0) tw_6_118 dX8_hearsCall_65 ?_
        refine lv_sipush (v := 415) C.1 C.2.1 dX8_hearsCall_68 (by decide) ?_
        refine lv_iload_n C.1 C.2.1 dX8_hearsCall_71 rfl (lv_at hl 1 rfl) ?_
        refine lv_iload_n C.1 C.2.1 dX8_hearsCall_72 rfl (lv_at hl 2 rfl) ?_
        obtain ⟨r5, σ4, q_73, hf⟩ := bib hf
        refine z_callSI C S [.int 415, .int v1, .int v2] (m_X8_of l G ad σ3 415 v1 v2 r5 σ4 q_73 _) kv_X8_of tw_7_76 ⟨Nat.le_of_ble_eq_true rfl, Nat.le_of_ble_eq_true rfl⟩ rfl rfl (Nat.le_of_ble_eq_true rfl) hl.1 ⟨Nat.le_of_ble_eq_true rfl, Nat.le_of_ble_eq_true rfl⟩ dX8_hearsCall_73 (fun H locs S => ?_)
        refine lv_aload_n C.1 C.2.1 dX8_hearsCall_76 rfl (lv_at hl 0 rfl) ?_
        refine lv_iload_n C.1 C.2.1 dX8_hearsCall_77 rfl (lv_at hl 1 rfl) ?_
        refine lv_aload_n C.1 C.2.1 dX8_hearsCall_78 rfl (lv_at hl 0 rfl) ?_
        refine z_getR C S 8 0 rfl (by decide) cf_8 0 (by decide) _ (gr_8_0 G ad 0) tw_6_118 dX8_hearsCall_79 ?_
        refine lv_bipush (v := 55) C.1 C.2.1 dX8_hearsCall_82 (by decide) ?_
        refine lv_iload_n C.1 C.2.1 dX8_hearsCall_84 rfl (lv_at hl 2 rfl) ?_
        refine lv_iadd C.1 C.2.1 dX8_hearsCall_85 ?_
        obtain ⟨g_86, hf⟩ := gd hf
        refine z_iald C S 30 0 rfl (by decide) 2111 (fun _ => rfl) g_86 dX8_hearsCall_86 ?_
        obtain ⟨r7, σ6, q_87, hf⟩ := bib hf
        refine z_callI C S 8 0 rfl (by decide) cf_8 ⟨_, rfl⟩ [.int v1, .int (σ4 30 0 ((55 + v2)).toNatClampNeg)] (m_X8_costFrom l G ad σ4 v1 (σ4 30 0 ((55 + v2)).toNatClampNeg) r7 σ6 q_87 _) kv_X8_costFrom tw_7_139 ⟨Nat.le_of_ble_eq_true rfl, Nat.le_of_ble_eq_true rfl⟩ rfl rfl (Nat.le_of_ble_eq_true rfl) hl.1 ⟨Nat.le_of_ble_eq_true rfl, Nat.le_of_ble_eq_true rfl⟩ dX8_hearsCall_87 (fun H locs S => ?_)
        obtain ⟨g_90, hf⟩ := gd hf
        obtain ⟨σ8, e_90, hf⟩ := stb hf
        refine z_iast C S 30 0 rfl (by decide) 2111 (fun _ => rfl) g_90 dX8_hearsCall_90 (fun H locs S => ?_)
        rw [← e_90] at S
        refine lv_aload_n C.1 C.2.1 dX8_hearsCall_91 rfl (lv_at hl 0 rfl) ?_
        refine z_getR C S 8 0 rfl (by decide) cf_8 0 (by decide) _ (gr_8_0 G ad 0) tw_6_118 dX8_hearsCall_92 ?_
        refine lv_sipush (v := 511) C.1 C.2.1 dX8_hearsCall_95 (by decide) ?_
        refine lv_iload_n C.1 C.2.1 dX8_hearsCall_98 rfl (lv_at hl 1 rfl) ?_
        refine lv_iload_n C.1 C.2.1 dX8_hearsCall_99 rfl (lv_at hl 2 rfl) ?_
        obtain ⟨r10, σ9, q_100, hf⟩ := bib hf
        refine z_callSI C S [.int 511, .int v1, .int v2] (m_X8_of l G ad σ8 511 v1 v2 r10 σ9 q_100 _) kv_X8_of tw_7_76 ⟨Nat.le_of_ble_eq_true rfl, Nat.le_of_ble_eq_true rfl⟩ rfl rfl (Nat.le_of_ble_eq_true rfl) hl.1 ⟨Nat.le_of_ble_eq_true rfl, Nat.le_of_ble_eq_true rfl⟩ dX8_hearsCall_100 (fun H locs S => ?_)
        refine lv_aload_n C.1 C.2.1 dX8_hearsCall_103 rfl (lv_at hl 0 rfl) ?_
        refine z_getR C S 8 0 rfl (by decide) cf_8 0 (by decide) _ (gr_8_0 G ad 0) tw_6_118 dX8_hearsCall_104 ?_
        refine lv_iconst (v := 3) C.1 C.2.1 dX8_hearsCall_107 (by decide) ?_
        refine z_ialdL C S 30 0 rfl (by decide) 2111 (fun _ => rfl) 3 (by decide) (by decide) (by decide) dX8_hearsCall_108 ?_
        refine lv_iconst (v := 2) C.1 C.2.1 dX8_hearsCall_109 (by decide) ?_
        refine lv_iadd C.1 C.2.1 dX8_hearsCall_110 ?_
        obtain ⟨g_111, hf⟩ := gd hf
        obtain ⟨σ11, e_111, hf⟩ := stb hf
        refine z_iast C S 30 0 rfl (by decide) 2111 (fun _ => rfl) g_111 dX8_hearsCall_111 (fun H locs S => ?_)
        rw [← e_111] at S
        refine lv_aload_n C.1 C.2.1 dX8_hearsCall_112 rfl (lv_at hl 0 rfl) ?_
        refine lv_iconst (v := 1) C.1 C.2.1 dX8_hearsCall_113 (by decide) ?_
        refine lv_iload_n C.1 C.2.1 dX8_hearsCall_114 rfl (lv_at hl 2 rfl) ?_
        refine lv_iload_n C.1 C.2.1 dX8_hearsCall_115 rfl (lv_at hl 1 rfl) ?_
        refine lv_aload_n C.1 C.2.1 dX8_hearsCall_116 rfl (lv_at hl 0 rfl) ?_
        refine z_getR C S 8 0 rfl (by decide) cf_8 0 (by decide) _ (gr_8_0 G ad 0) tw_6_118 dX8_hearsCall_117 ?_
        refine lv_sipush (v := 415) C.1 C.2.1 dX8_hearsCall_120 (by decide) ?_
        refine lv_iload_n C.1 C.2.1 dX8_hearsCall_123 rfl (lv_at hl 1 rfl) ?_
        refine lv_iload_n C.1 C.2.1 dX8_hearsCall_124 rfl (lv_at hl 2 rfl) ?_
        obtain ⟨r13, σ12, q_125, hf⟩ := bib hf
        refine z_callSI C S [.int 415, .int v1, .int v2] (m_X8_of l G ad σ11 415 v1 v2 r13 σ12 q_125 _) kv_X8_of tw_7_76 ⟨Nat.le_of_ble_eq_true rfl, Nat.le_of_ble_eq_true rfl⟩ rfl rfl (Nat.le_of_ble_eq_true rfl) hl.1 ⟨Nat.le_of_ble_eq_true rfl, Nat.le_of_ble_eq_true rfl⟩ dX8_hearsCall_125 (fun H locs S => ?_)
        obtain ⟨g_128, hf⟩ := gd hf
        refine z_iald C S 30 0 rfl (by decide) 2111 (fun _ => rfl) g_128 dX8_hearsCall_128 ?_
        obtain ⟨σ14, q_129, hf⟩ := bvb hf
        refine z_callV C S 8 0 rfl (by decide) cf_8 ⟨_, rfl⟩ [.int 1, .int v2, .int v1, .int (σ12 30 0 (r13).toNatClampNeg)] (m_X8_sends l G ad σ12 1 v2 v1 (σ12 30 0 (r13).toNatClampNeg) σ14 q_129 _) kv_X8_sends tw_7_206 ⟨Nat.le_of_ble_eq_true rfl, Nat.le_of_ble_eq_true rfl⟩ rfl rfl (Nat.le_of_ble_eq_true rfl) hl.1 ⟨Nat.le_of_ble_eq_true rfl, Nat.le_of_ble_eq_true rfl⟩ dX8_hearsCall_129 (fun H locs S => ?_)
        exact z_vret C S hf dX8_hearsCall_132
      · rw [if_neg c_54] at hf
        exact z_vret C S hf dX8_hearsCall_57
    · rw [if_neg c_20] at hf
      refine lv_aload_n C.1 C.2.1 dX8_hearsCall_23 rfl (lv_at hl 0 rfl) ?_
      refine lv_iconst (v := 2) C.1 C.2.1 dX8_hearsCall_24 (by decide) ?_
      refine lv_iload_n C.1 C.2.1 dX8_hearsCall_25 rfl (lv_at hl 2 rfl) ?_
      refine lv_iload_n C.1 C.2.1 dX8_hearsCall_26 rfl (lv_at hl 1 rfl) ?_
      refine lv_aload_n C.1 C.2.1 dX8_hearsCall_27 rfl (lv_at hl 0 rfl) ?_
      refine z_getR C S 8 0 rfl (by decide) cf_8 0 (by decide) _ (gr_8_0 G ad 0) tw_6_118 dX8_hearsCall_28 ?_
      refine lv_sipush (v := 415) C.1 C.2.1 dX8_hearsCall_31 (by decide) ?_
      refine lv_iload_n C.1 C.2.1 dX8_hearsCall_34 rfl (lv_at hl 1 rfl) ?_
      refine lv_iload_n C.1 C.2.1 dX8_hearsCall_35 rfl (lv_at hl 2 rfl) ?_
      obtain ⟨r16, σ15, q_36, hf⟩ := bib hf
      refine z_callSI C S [.int 415, .int v1, .int v2] (m_X8_of l G ad σ1 415 v1 v2 r16 σ15 q_36 _) kv_X8_of tw_7_76 ⟨Nat.le_of_ble_eq_true rfl, Nat.le_of_ble_eq_true rfl⟩ rfl rfl (Nat.le_of_ble_eq_true rfl) hl.1 ⟨Nat.le_of_ble_eq_true rfl, Nat.le_of_ble_eq_true rfl⟩ dX8_hearsCall_36 (fun H locs S => ?_)
      obtain ⟨g_39, hf⟩ := gd hf
      refine z_iald C S 30 0 rfl (by decide) 2111 (fun _ => rfl) g_39 dX8_hearsCall_39 ?_
      obtain ⟨σ17, q_40, hf⟩ := bvb hf
      refine z_callV C S 8 0 rfl (by decide) cf_8 ⟨_, rfl⟩ [.int 2, .int v2, .int v1, .int (σ15 30 0 (r16).toNatClampNeg)] (m_X8_sends l G ad σ15 2 v2 v1 (σ15 30 0 (r16).toNatClampNeg) σ17 q_40 _) kv_X8_sends tw_7_206 ⟨Nat.le_of_ble_eq_true rfl, Nat.le_of_ble_eq_true rfl⟩ rfl rfl (Nat.le_of_ble_eq_true rfl) hl.1 ⟨Nat.le_of_ble_eq_true rfl, Nat.le_of_ble_eq_true rfl⟩ dX8_hearsCall_40 (fun H locs S => ?_)
      exact z_vret C S hf dX8_hearsCall_43
  · rw [if_pos c_10] at hf
    exact z_vret C S hf dX8_hearsCall_13
theorem kv_X8_hearsCall : KV yX8_hearsCall cX8_hearsCall 3 none 2 := ⟨tw_7_234, tw_7_233, tw_p_85, tw_1_10, by decide, by decide, by decide +kernel⟩
theorem m_X8_hearsCall (l : Launch) (G : Gx) (ad : Ad) (σ : Sg) (v1 : Int32) (v2 : Int32) (σ' : Sg)  (hf : f_X8_hearsCall σ v1 v2 = some σ') (sz : Nat) : z_MV l yX8_hearsCall cX8_hearsCall 3 none 3 67 1 G ad σ sz [.ref (ad 8 0), .int v1, .int v2] σ' := by
  refine z_begin (by decide +kernel) (Nat.le_of_ble_eq_true rfl) [(0, .ref (ad 8 0)), (1, .int v1), (2, .int v2)] rfl (fun p e s m args below meth c ls C hz S hl => ?_)
  subst hz
  exact w_X8_hearsCall_0 (res := σ') C σ v1 v2 _ _ _ S hl  hf

theorem dX8_isBefore_0 : decode cX8_isBefore 0 = .ok (.iload_n 0, 1) := by decide +kernel
theorem dX8_isBefore_1 : decode cX8_isBefore 1 = .ok (.iload_n 2, 1) := by decide +kernel
theorem dX8_isBefore_2 : decode cX8_isBefore 2 = .ok (.if_icmp .lt 13, 3) := by decide +kernel
theorem dX8_isBefore_5 : decode cX8_isBefore 5 = .ok (.iload_n 0, 1) := by decide +kernel
theorem dX8_isBefore_6 : decode cX8_isBefore 6 = .ok (.iload_n 2, 1) := by decide +kernel
theorem dX8_isBefore_7 : decode cX8_isBefore 7 = .ok (.if_icmp .ne 12, 3) := by decide +kernel
theorem dX8_isBefore_10 : decode cX8_isBefore 10 = .ok (.iload_n 1, 1) := by decide +kernel
theorem dX8_isBefore_11 : decode cX8_isBefore 11 = .ok (.iload_n 3, 1) := by decide +kernel
theorem dX8_isBefore_12 : decode cX8_isBefore 12 = .ok (.if_icmp .ge 7, 3) := by decide +kernel
theorem dX8_isBefore_15 : decode cX8_isBefore 15 = .ok (.iconst 1, 1) := by decide +kernel
theorem dX8_isBefore_16 : decode cX8_isBefore 16 = .ok (.goto 4, 3) := by decide +kernel
theorem dX8_isBefore_19 : decode cX8_isBefore 19 = .ok (.iconst 0, 1) := by decide +kernel
theorem dX8_isBefore_20 : decode cX8_isBefore 20 = .ok (.ireturn, 1) := by decide +kernel
/-! BusLiftsModel.isBefore(IIII)Z -/
noncomputable def f_X8_isBefore_20  (σ : Sg) (v100 : Int32) : Option (Int32 × Sg) := if ¬ (v100 = 0 ∨ v100 = 1) then none else (some (v100, σ))
noncomputable def f_X8_isBefore_15  (σ : Sg)  : Option (Int32 × Sg) := f_X8_isBefore_20 σ 1
noncomputable def f_X8_isBefore_19  (σ : Sg)  : Option (Int32 × Sg) := f_X8_isBefore_20 σ 0
noncomputable def f_X8_isBefore  (σ : Sg) (v0 : Int32) (v1 : Int32) (v2 : Int32) (v3 : Int32) : Option (Int32 × Sg) := if v0 < v2 then (f_X8_isBefore_15 σ) else (if v0 = v2 then (if v3 ≤ v1 then (f_X8_isBefore_19 σ) else (f_X8_isBefore_15 σ)) else (f_X8_isBefore_19 σ))
set_option maxHeartbeats 4000000 in
set_option maxRecDepth 100000 in
theorem w_X8_isBefore_20 {p : Program} {l : Launch} {e : Env} {s : State} {m : MethodId} {args : Array Value} {below : List Frame} {meth : Method} {c : Code} {G : Gx} {ad : Ad} {res : Int32 × Sg} (C : Cx p s m args meth c yX8_isBefore.cls cX8_isBefore 4 (Option.some FieldType.boolean) G)  : ∀ (σ : Sg) (v100 : Int32) (H : Heap) (locs : List Loc) (ls : Array Slot), z_S 1 G ad σ (z_A 1 ad s.heap.size) s.heap H locs → lv_has ls 4 [] → f_X8_isBefore_20  σ v100 = some res → W p l e { frames := 0, cells := 0, slots := 0, locals := 0 } s m args below meth c H locs 0 0 (MQ below (va_Qi (S := Unit) (fun r1 _ => r1 = res.1) (fun _ t => z_W 1 G ad res.2 t.heap) (z_A 1 ad s.heap.size)) args s 0 0 (z_A 1 ad s.heap.size)) (F0 m 20 ls [.int v100]) := by
  intro σ v100 H locs ls S hl  hf
  unfold f_X8_isBefore_20 at hf
  obtain ⟨g_20, hf⟩ := gd hf
  exact z_zret C S (nbz g_20).1 hf dX8_isBefore_20
set_option maxHeartbeats 4000000 in
set_option maxRecDepth 100000 in
theorem w_X8_isBefore_15 {p : Program} {l : Launch} {e : Env} {s : State} {m : MethodId} {args : Array Value} {below : List Frame} {meth : Method} {c : Code} {G : Gx} {ad : Ad} {res : Int32 × Sg} (C : Cx p s m args meth c yX8_isBefore.cls cX8_isBefore 4 (Option.some FieldType.boolean) G)  : ∀ (σ : Sg)  (H : Heap) (locs : List Loc) (ls : Array Slot), z_S 1 G ad σ (z_A 1 ad s.heap.size) s.heap H locs → lv_has ls 4 [] → f_X8_isBefore_15  σ  = some res → W p l e { frames := 0, cells := 0, slots := 0, locals := 0 } s m args below meth c H locs 0 0 (MQ below (va_Qi (S := Unit) (fun r1 _ => r1 = res.1) (fun _ t => z_W 1 G ad res.2 t.heap) (z_A 1 ad s.heap.size)) args s 0 0 (z_A 1 ad s.heap.size)) (F0 m 15 ls []) := by
  intro σ  H locs ls S hl  hf
  unfold f_X8_isBefore_15 at hf
  refine lv_iconst (v := 1) C.1 C.2.1 dX8_isBefore_15 (by decide) ?_
  refine lv_goto (tgt := 20) C.1 C.2.1 dX8_isBefore_16 (by decide) ?_
  exact w_X8_isBefore_20 C _ 1 _ _ _ S (lv_sub hl [] rfl) hf
set_option maxHeartbeats 4000000 in
set_option maxRecDepth 100000 in
theorem w_X8_isBefore_19 {p : Program} {l : Launch} {e : Env} {s : State} {m : MethodId} {args : Array Value} {below : List Frame} {meth : Method} {c : Code} {G : Gx} {ad : Ad} {res : Int32 × Sg} (C : Cx p s m args meth c yX8_isBefore.cls cX8_isBefore 4 (Option.some FieldType.boolean) G)  : ∀ (σ : Sg)  (H : Heap) (locs : List Loc) (ls : Array Slot), z_S 1 G ad σ (z_A 1 ad s.heap.size) s.heap H locs → lv_has ls 4 [] → f_X8_isBefore_19  σ  = some res → W p l e { frames := 0, cells := 0, slots := 0, locals := 0 } s m args below meth c H locs 0 0 (MQ below (va_Qi (S := Unit) (fun r1 _ => r1 = res.1) (fun _ t => z_W 1 G ad res.2 t.heap) (z_A 1 ad s.heap.size)) args s 0 0 (z_A 1 ad s.heap.size)) (F0 m 19 ls []) := by
  intro σ  H locs ls S hl  hf
  unfold f_X8_isBefore_19 at hf
  refine lv_iconst (v := 0) C.1 C.2.1 dX8_isBefore_19 (by decide) ?_
  exact w_X8_isBefore_20 C _ 0 _ _ _ S (lv_sub hl [] rfl) hf
set_option maxHeartbeats 4000000 in
set_option maxRecDepth 100000 in
theorem w_X8_isBefore_0 {p : Program} {l : Launch} {e : Env} {s : State} {m : MethodId} {args : Array Value} {below : List Frame} {meth : Method} {c : Code} {G : Gx} {ad : Ad} {res : Int32 × Sg} (C : Cx p s m args meth c yX8_isBefore.cls cX8_isBefore 4 (Option.some FieldType.boolean) G)  : ∀ (σ : Sg) (v0 : Int32) (v1 : Int32) (v2 : Int32) (v3 : Int32) (H : Heap) (locs : List Loc) (ls : Array Slot), z_S 1 G ad σ (z_A 1 ad s.heap.size) s.heap H locs → lv_has ls 4 [(0, .int v0), (1, .int v1), (2, .int v2), (3, .int v3)] → f_X8_isBefore  σ v0 v1 v2 v3 = some res → W p l e { frames := 0, cells := 0, slots := 0, locals := 0 } s m args below meth c H locs 0 0 (MQ below (va_Qi (S := Unit) (fun r1 _ => r1 = res.1) (fun _ t => z_W 1 G ad res.2 t.heap) (z_A 1 ad s.heap.size)) args s 0 0 (z_A 1 ad s.heap.size)) (F0 m 0 ls []) := by
  intro σ v0 v1 v2 v3 H locs ls S hl  hf
  unfold f_X8_isBefore at hf
  refine lv_iload_n C.1 C.2.1 dX8_isBefore_0 rfl (lv_at hl 0 rfl) ?_
  refine lv_iload_n C.1 C.2.1 dX8_isBefore_1 rfl (lv_at hl 2 rfl) ?_
  refine lv_icmp_lt (tgt := 15) C.1 C.2.1 dX8_isBefore_2 (by decide) (fun c_2 => ?_) (fun c_2 => ?_)
  · rw [if_pos c_2] at hf
    exact w_X8_isBefore_15 C _ _ _ _ S (lv_sub hl [] rfl) hf
  · rw [if_neg c_2] at hf
    refine lv_iload_n C.1 C.2.1 dX8_isBefore_5 rfl (lv_at hl 0 rfl) ?_
    refine lv_iload_n C.1 C.2.1 dX8_isBefore_6 rfl (lv_at hl 2 rfl) ?_
    refine lv_icmp_ne (tgt := 19) C.1 C.2.1 dX8_isBefore_7 (by decide) (fun c_7 => ?_) (fun c_7 => ?_)
    · rw [if_neg c_7] at hf
      exact w_X8_isBefore_19 C _ _ _ _ S (lv_sub hl [] rfl) hf
    · rw [if_pos c_7] at hf
      refine lv_iload_n C.1 C.2.1 dX8_isBefore_10 rfl (lv_at hl 1 rfl) ?_
      refine lv_iload_n C.1 C.2.1 dX8_isBefore_11 rfl (lv_at hl 3 rfl) ?_
      refine lv_icmp_ge (tgt := 19) C.1 C.2.1 dX8_isBefore_12 (by decide) (fun c_12 => ?_) (fun c_12 => ?_)
      · rw [if_pos c_12] at hf
        exact w_X8_isBefore_19 C _ _ _ _ S (lv_sub hl [] rfl) hf
      · rw [if_neg c_12] at hf
        exact w_X8_isBefore_15 C _ _ _ _ S (lv_sub hl [] rfl) hf
theorem kv_X8_isBefore : KS yX8_isBefore cX8_isBefore 4 (Option.some FieldType.boolean) 4 := ⟨tw_7_237, tw_7_236, tw_1_10, by decide, by decide, by decide +kernel⟩
theorem m_X8_isBefore (l : Launch) (G : Gx) (ad : Ad) (σ : Sg) (v0 : Int32) (v1 : Int32) (v2 : Int32) (v3 : Int32) (r : Int32) (σ' : Sg)  (hf : f_X8_isBefore σ v0 v1 v2 v3 = some (r, σ')) (sz : Nat) : z_MI l yX8_isBefore cX8_isBefore 4 (Option.some FieldType.boolean) 0 0 1 G ad σ sz [.int v0, .int v1, .int v2, .int v3] r σ' := by
  refine z_begin (by decide +kernel) (Nat.le_of_ble_eq_true rfl) [(0, .int v0), (1, .int v1), (2, .int v2), (3, .int v3)] rfl (fun p e s m args below meth c ls C hz S hl => ?_)
  subst hz
  exact w_X8_isBefore_0 (res := (r, σ')) C σ v0 v1 v2 v3 _ _ _ S hl  hf

theorem dX8_hears_0 : decode cX8_hears 0 = .ok (.iload_n 2, 1) := by decide +kernel
theorem dX8_hears_1 : decode cX8_hears 1 = .ok (.ifCond .ne 12, 3) := by decide +kernel
theorem dX8_hears_4 : decode cX8_hears 4 = .ok (.aload_n 0, 1) := by decide +kernel
theorem dX8_hears_5 : decode cX8_hears 5 = .ok (.iload_n 1, 1) := by decide +kernel
theorem dX8_hears_6 : decode cX8_hears 6 = .ok (.iload_n 3, 1) := by decide +kernel
theorem dX8_hears_7 : decode cX8_hears 7 = .ok (.invokevirtual 102, 3) := by decide +kernel
theorem dX8_hears_10 : decode cX8_hears 10 = .ok (.goto 91, 3) := by decide +kernel
theorem dX8_hears_13 : decode cX8_hears 13 = .ok (.iload_n 2, 1) := by decide +kernel
theorem dX8_hears_14 : decode cX8_hears 14 = .ok (.iconst 1, 1) := by decide +kernel
theorem dX8_hears_15 : decode cX8_hears 15 = .ok (.if_icmp .ne 20, 3) := by decide +kernel
theorem dX8_hears_18 : decode cX8_hears 18 = .ok (.aload_n 0, 1) := by decide +kernel
theorem dX8_hears_19 : decode cX8_hears 19 = .ok (.getfield 7, 3) := by decide +kernel
theorem dX8_hears_22 : decode cX8_hears 22 = .ok (.iload_n 1, 1) := by decide +kernel
theorem dX8_hears_23 : decode cX8_hears 23 = .ok (.iload_n 3, 1) := by decide +kernel
theorem dX8_hears_24 : decode cX8_hears 24 = .ok (.iload 4, 2) := by decide +kernel
theorem dX8_hears_26 : decode cX8_hears 26 = .ok (.invokestatic 61, 3) := by decide +kernel
theorem dX8_hears_29 : decode cX8_hears 29 = .ok (.iload 5, 2) := by decide +kernel
theorem dX8_hears_31 : decode cX8_hears 31 = .ok (.iastore, 1) := by decide +kernel
theorem dX8_hears_32 : decode cX8_hears 32 = .ok (.goto 69, 3) := by decide +kernel
theorem dX8_hears_35 : decode cX8_hears 35 = .ok (.aload_n 0, 1) := by decide +kernel
theorem dX8_hears_36 : decode cX8_hears 36 = .ok (.getfield 7, 3) := by decide +kernel
theorem dX8_hears_39 : decode cX8_hears 39 = .ok (.sipush 511, 3) := by decide +kernel
theorem dX8_hears_42 : decode cX8_hears 42 = .ok (.iload_n 1, 1) := by decide +kernel
theorem dX8_hears_43 : decode cX8_hears 43 = .ok (.iload_n 3, 1) := by decide +kernel
theorem dX8_hears_44 : decode cX8_hears 44 = .ok (.invokestatic 65, 3) := by decide +kernel
theorem dX8_hears_47 : decode cX8_hears 47 = .ok (.iconst (-1), 1) := by decide +kernel
theorem dX8_hears_48 : decode cX8_hears 48 = .ok (.iastore, 1) := by decide +kernel
theorem dX8_hears_49 : decode cX8_hears 49 = .ok (.iload_n 2, 1) := by decide +kernel
theorem dX8_hears_50 : decode cX8_hears 50 = .ok (.iconst 3, 1) := by decide +kernel
theorem dX8_hears_51 : decode cX8_hears 51 = .ok (.if_icmp .eq 36, 3) := by decide +kernel
theorem dX8_hears_54 : decode cX8_hears 54 = .ok (.aload_n 0, 1) := by decide +kernel
theorem dX8_hears_55 : decode cX8_hears 55 = .ok (.iload_n 1, 1) := by decide +kernel
theorem dX8_hears_56 : decode cX8_hears 56 = .ok (.iload_n 3, 1) := by decide +kernel
theorem dX8_hears_57 : decode cX8_hears 57 = .ok (.invokevirtual 92, 3) := by decide +kernel
theorem dX8_hears_60 : decode cX8_hears 60 = .ok (.ifCond .eq 41, 3) := by decide +kernel
theorem dX8_hears_63 : decode cX8_hears 63 = .ok (.iload 5, 2) := by decide +kernel
theorem dX8_hears_65 : decode cX8_hears 65 = .ok (.iload 4, 2) := by decide +kernel
theorem dX8_hears_67 : decode cX8_hears 67 = .ok (.aload_n 0, 1) := by decide +kernel
theorem dX8_hears_68 : decode cX8_hears 68 = .ok (.getfield 7, 3) := by decide +kernel
theorem dX8_hears_71 : decode cX8_hears 71 = .ok (.sipush 415, 3) := by decide +kernel
theorem dX8_hears_74 : decode cX8_hears 74 = .ok (.iload_n 1, 1) := by decide +kernel
theorem dX8_hears_75 : decode cX8_hears 75 = .ok (.iload_n 3, 1) := by decide +kernel
theorem dX8_hears_76 : decode cX8_hears 76 = .ok (.invokestatic 65, 3) := by decide +kernel
theorem dX8_hears_79 : decode cX8_hears 79 = .ok (.iaload, 1) := by decide +kernel
theorem dX8_hears_80 : decode cX8_hears 80 = .ok (.iload_n 1, 1) := by decide +kernel
theorem dX8_hears_81 : decode cX8_hears 81 = .ok (.invokestatic 105, 3) := by decide +kernel
theorem dX8_hears_84 : decode cX8_hears 84 = .ok (.ifCond .eq 17, 3) := by decide +kernel
theorem dX8_hears_87 : decode cX8_hears 87 = .ok (.aload_n 0, 1) := by decide +kernel
theorem dX8_hears_88 : decode cX8_hears 88 = .ok (.getfield 7, 3) := by decide +kernel
theorem dX8_hears_91 : decode cX8_hears 91 = .ok (.sipush 319, 3) := by decide +kernel
theorem dX8_hears_94 : decode cX8_hears 94 = .ok (.iload_n 1, 1) := by decide +kernel
theorem dX8_hears_95 : decode cX8_hears 95 = .ok (.iload_n 3, 1) := by decide +kernel
theorem dX8_hears_96 : decode cX8_hears 96 = .ok (.invokestatic 65, 3) := by decide +kernel
theorem dX8_hears_99 : decode cX8_hears 99 = .ok (.iconst 0, 1) := by decide +kernel
theorem dX8_hears_100 : decode cX8_hears 100 = .ok (.iastore, 1) := by decide +kernel
theorem dX8_hears_101 : decode cX8_hears 101 = .ok (.return_, 1) := by decide +kernel
/-! BusLiftsModel.hears(IIIII)V -/
noncomputable def f_X8_hears_101  (σ : Sg)  : Option Sg := some σ
noncomputable def f_X8_hears_87  (σ : Sg) (v1 : Int32) (v3 : Int32) : Option Sg := bi (f_X8_of σ 319 v1 v3) fun r2 σ1 => (if r2 < 0 ∨ 2111 ≤ (r2).toNatClampNeg then none else (st (sup σ1 30 0 (r2).toNatClampNeg 0) fun σ3 => (f_X8_hears_101 σ3)))
noncomputable def f_X8_hears  (σ : Sg) (v1 : Int32) (v2 : Int32) (v3 : Int32) (v4 : Int32) (v5 : Int32) : Option Sg := if v2 = 0 then (bv (f_X8_hearsCall σ v1 v3) fun σ13 => (f_X8_hears_101 σ13)) else (if v2 = 1 then (bi (f_X8_notedAt σ v1 v3 v4) fun r11 σ10 => (if r11 < 0 ∨ 2111 ≤ (r11).toNatClampNeg then none else (st (sup σ10 30 0 (r11).toNatClampNeg v5) fun σ12 => (f_X8_hears_101 σ12)))) else (bi (f_X8_of σ 511 v1 v3) fun r2 σ1 => (if r2 < 0 ∨ 2111 ≤ (r2).toNatClampNeg then none else (st (sup σ1 30 0 (r2).toNatClampNeg (-1)) fun σ3 => (if v2 = 3 then (f_X8_hears_87 σ3 v1 v3) else (bi (f_X8_doesHold σ3 v1 v3) fun r5 σ4 => (if r5 = 0 then (f_X8_hears_101 σ4) else (bi (f_X8_of σ4 415 v1 v3) fun r7 σ6 => (if r7 < 0 ∨ 2111 ≤ (r7).toNatClampNeg then none else (bi (f_X8_isBefore σ6 v5 v4 (σ6 30 0 (r7).toNatClampNeg) v1) fun r9 σ8 => (if r9 = 0 then (f_X8_hears_101 σ8) else (f_X8_hears_87 σ8 v1 v3))))))))))))
set_option maxHeartbeats 4000000 in
set_option maxRecDepth 100000 in
theorem w_X8_hears_101 {p : Program} {l : Launch} {e : Env} {s : State} {m : MethodId} {args : Array Value} {below : List Frame} {meth : Method} {c : Code} {G : Gx} {ad : Ad} {res : Sg} (C : Cx p s m args meth c yX8_hears.cls cX8_hears 6 none G)  : ∀ (σ : Sg)  (H : Heap) (locs : List Loc) (ls : Array Slot), z_S 1 G ad σ (z_A 1 ad s.heap.size) s.heap H locs → lv_has ls 6 [] → f_X8_hears_101  σ  = some res → W p l e { frames := 4, cells := 0, slots := 0, locals := 89 } s m args below meth c H locs 0 0 (MQ below (va_Qv (S := Unit) (fun _ => True) (fun _ t => z_W 1 G ad res t.heap) (z_A 1 ad s.heap.size)) args s 0 0 (z_A 1 ad s.heap.size)) (F0 m 101 ls []) := by
  intro σ  H locs ls S hl  hf
  unfold f_X8_hears_101 at hf
  exact z_vret C S hf dX8_hears_101
set_option maxHeartbeats 4000000 in
set_option maxRecDepth 100000 in
theorem w_X8_hears_87 {p : Program} {l : Launch} {e : Env} {s : State} {m : MethodId} {args : Array Value} {below : List Frame} {meth : Method} {c : Code} {G : Gx} {ad : Ad} {res : Sg} (C : Cx p s m args meth c yX8_hears.cls cX8_hears 6 none G)  : ∀ (σ : Sg) (v1 : Int32) (v3 : Int32) (H : Heap) (locs : List Loc) (ls : Array Slot), z_S 1 G ad σ (z_A 1 ad s.heap.size) s.heap H locs → lv_has ls 6 [(0, .ref (ad 8 0)), (1, .int v1), (3, .int v3)] → f_X8_hears_87  σ v1 v3 = some res → W p l e { frames := 4, cells := 0, slots := 0, locals := 89 } s m args below meth c H locs 0 0 (MQ below (va_Qv (S := Unit) (fun _ => True) (fun _ t => z_W 1 G ad res t.heap) (z_A 1 ad s.heap.size)) args s 0 0 (z_A 1 ad s.heap.size)) (F0 m 87 ls []) := by
  intro σ v1 v3 H locs ls S hl  hf
  unfold f_X8_hears_87 at hf
  refine lv_aload_n C.1 C.2.1 dX8_hears_87 rfl (lv_at hl 0 rfl) ?_
  refine z_getR C S 8 0 rfl (by decide) cf_8 0 (by decide) _ (gr_8_0 G ad 0) tw_6_118 dX8_hears_88 ?_
  refine lv_sipush (v := 319) C.1 C.2.1 dX8_hears_91 (by decide) ?_
  refine lv_iload_n C.1 C.2.1 dX8_hears_94 rfl (lv_at hl 1 rfl) ?_
  refine lv_iload_n C.1 C.2.1 dX8_hears_95 rfl (lv_at hl 2 rfl) ?_
  obtain ⟨r2, σ1, q_96, hf⟩ := bib hf
  refine z_callSI C S [.int 319, .int v1, .int v3] (m_X8_of l G ad σ 319 v1 v3 r2 σ1 q_96 _) kv_X8_of tw_7_76 ⟨Nat.le_of_ble_eq_true rfl, Nat.le_of_ble_eq_true rfl⟩ rfl rfl (Nat.le_of_ble_eq_true rfl) hl.1 ⟨Nat.le_of_ble_eq_true rfl, Nat.le_of_ble_eq_true rfl⟩ dX8_hears_96 (fun H locs S => ?_)
  refine lv_iconst (v := 0) C.1 C.2.1 dX8_hears_99 (by decide) ?_
  obtain ⟨g_100, hf⟩ := gd hf
  obtain ⟨σ3, e_100, hf⟩ := stb hf
  refine z_iast C S 30 0 rfl (by decide) 2111 (fun _ => rfl) g_100 dX8_hears_100 (fun H locs S => ?_)
  rw [← e_100] at S
  exact w_X8_hears_101 C _ _ _ _ S (lv_sub hl [] rfl) hf
set_option maxHeartbeats 4000000 in
set_option maxRecDepth 100000 in
theorem w_X8_hears_0 {p : Program} {l : Launch} {e : Env} {s : State} {m : MethodId} {args : Array Value} {below : List Frame} {meth : Method} {c : Code} {G : Gx} {ad : Ad} {res : Sg} (C : Cx p s m args meth c yX8_hears.cls cX8_hears 6 none G)  : ∀ (σ : Sg) (v1 : Int32) (v2 : Int32) (v3 : Int32) (v4 : Int32) (v5 : Int32) (H : Heap) (locs : List Loc) (ls : Array Slot), z_S 1 G ad σ (z_A 1 ad s.heap.size) s.heap H locs → lv_has ls 6 [(0, .ref (ad 8 0)), (1, .int v1), (2, .int v2), (3, .int v3), (4, .int v4), (5, .int v5)] → f_X8_hears  σ v1 v2 v3 v4 v5 = some res → W p l e { frames := 4, cells := 0, slots := 0, locals := 89 } s m args below meth c H locs 0 0 (MQ below (va_Qv (S := Unit) (fun _ => True) (fun _ t => z_W 1 G ad res t.heap) (z_A 1 ad s.heap.size)) args s 0 0 (z_A 1 ad s.heap.size)) (F0 m 0 ls []) := by
  intro σ v1 v2 v3 v4 v5 H locs ls S hl  hf
  unfold f_X8_hears at hf
  refine lv_iload_n C.1 C.2.1 dX8_hears_0 rfl (lv_at hl 2 rfl) ?_
  refine lv_if_ne (tgt := 13) C.1 C.2.1 dX8_hears_1 (by decide) (fun c_1 => ?_) (fun c_1 => ?_)
  · rw [if_neg c_1] at hf
    refine lv_iload_n C.1 C.2.1 dX8_hears_13 rfl (lv_at hl 2 rfl) ?_
    refine lv_iconst (v := 1) C.1 C.2.1 dX8_hears_14 (by decide) ?_
    refine lv_icmp_ne (tgt := 35) C.1 C.2.1 dX8_hears_15 (by decide) (fun c_15 => ?_) (fun c_15 => ?_)
    · rw [if_neg c_15] at hf
      refine lv_aload_n C.1 C.2.1 dX8_hears_35 rfl (lv_at hl 0 rfl) ?_
      refine z_getR C S 8 0 rfl (by decide) cf_8 0 (by decide) _ (gr_8_0 G ad 0) tw_6_118 dX8_hears_36 ?_
      refine lv_sipush (v := 511) C.1 C.2.1 dX8_hears_39 (by decide) ?_
      refine lv_iload_n C.1 C.2.1 dX8_hears_42 rfl (lv_at hl 1 rfl) ?_
      refine lv_iload_n C.1 C.2.1 dX8_hears_43 rfl (lv_at hl 3 rfl) ?_
      obtain ⟨r2, σ1, q_44, hf⟩ := bib hf
      refine z_callSI C S [.int 511, .int v1, .int v3] (m_X8_of l G ad σ 511 v1 v3 r2 σ1 q_44 _) kv_X8_of tw_7_76 ⟨Nat.le_of_ble_eq_true rfl, Nat.le_of_ble_eq_true rfl⟩ rfl rfl (Nat.le_of_ble_eq_true rfl) hl.1 ⟨Nat.le_of_ble_eq_true rfl, Nat.le_of_ble_eq_true rfl⟩ dX8_hears_44 (fun H locs S => ?_)
      refine lv_iconst (v := (-1)) C.1 C.2.1 dX8_hears_47 (by decide) ?_
      obtain ⟨g_48, hf⟩ := gd hf
      obtain ⟨σ3, e_48, hf⟩ := stb hf
      refine z_iast C S 30 0 rfl (by decide) 2111 (fun _ => rfl) g_48 dX8_hears_48 (fun H locs S => ?_)
      rw [← e_48] at S
      refine lv_iload_n C.1 C.2.1 dX8_hears_49 rfl (lv_at hl 2 rfl) ?_
      refine lv_iconst (v := 3) C.1 C.2.1 dX8_hears_50 (by decide) ?_
      refine lv_icmp_eq (tgt := 87) C.1 C.2.1 dX8_hears_51 (by decide) (fun c_51 => ?_) (fun c_51 => ?_)
      · rw [if_pos c_51] at hf
        exact w_X8_hears_87 C _ v1 v3 _ _ _ S (lv_sub hl [0, 1, 3] rfl) hf
      · rw [if_neg c_51] at hf
        refine lv_aload_n C.1 C.2.1 dX8_hears_54 rfl (lv_at hl 0 rfl) ?_
        refine lv_iload_n C.1 C.2.1 dX8_hears_55 rfl (lv_at hl 1 rfl) ?_
        refine lv_iload_n C.1 C.2.1 dX8_hears_56 rfl (lv_at hl 3 rfl) ?_
        obtain ⟨r5, σ4, q_57, hf⟩ := bib hf
        refine z_callI C S 8 0 rfl (by decide) cf_8 ⟨_, rfl⟩ [.int v1, .int v3] (m_X8_doesHold l G ad σ3 v1 v3 r5 σ4 q_57 _) kv_X8_doesHold tw_7_115 ⟨Nat.le_of_ble_eq_true rfl, Nat.le_of_ble_eq_true rfl⟩ rfl rfl (Nat.le_of_ble_eq_true rfl) hl.1 ⟨Nat.le_of_ble_eq_true rfl, Nat.le_of_ble_eq_true rfl⟩ dX8_hears_57 (fun H locs S => ?_)
        refine lv_if_eq (tgt := 101) C.1 C.2.1 dX8_hears_60 (by decide) (fun c_60 => ?_) (fun c_60 => ?_)
        · rw [if_pos c_60] at hf
          exact w_X8_hears_101 C _ _ _ _ S (lv_sub hl [] rfl) hf
        · rw [if_neg c_60] at hf
          refine lv_iload C.1 C.2.1 dX8_hears_63 (lv_at hl 5 rfl) ?_
          refine lv_iload C.1 C.2.1 dX8_hears_65 (lv_at hl 4 rfl) ?_
          refine lv_aload_n C.1 C.2.1 dX8_hears_67 rfl (lv_at hl 0 rfl) ?_
          refine z_getR C S 8 0 rfl (by decide) cf_8 0 (by decide) _ (gr_8_0 G ad 0) tw_6_118 dX8_hears_68 ?_
          refine lv_sipush (v := 415) C.1 C.2.1 dX8_hears_71 (by decide) ?_
          refine lv_iload_n C.1 C.2.1 dX8_hears_74 rfl (lv_at hl 1 rfl) ?_
          refine lv_iload_n C.1 C.2.1 dX8_hears_75 rfl (lv_at hl 3 rfl) ?_
          obtain ⟨r7, σ6, q_76, hf⟩ := bib hf
          refine z_callSI C S [.int 415, .int v1, .int v3] (m_X8_of l G ad σ4 415 v1 v3 r7 σ6 q_76 _) kv_X8_of tw_7_76 ⟨Nat.le_of_ble_eq_true rfl, Nat.le_of_ble_eq_true rfl⟩ rfl rfl (Nat.le_of_ble_eq_true rfl) hl.1 ⟨Nat.le_of_ble_eq_true rfl, Nat.le_of_ble_eq_true rfl⟩ dX8_hears_76 (fun H locs S => ?_)
          obtain ⟨g_79, hf⟩ := gd hf
          refine z_iald C S 30 0 rfl (by decide) 2111 (fun _ => rfl) g_79 dX8_hears_79 ?_
          refine lv_iload_n C.1 C.2.1 dX8_hears_80 rfl (lv_at hl 1 rfl) ?_
          obtain ⟨r9, σ8, q_81, hf⟩ := bib hf
          refine z_callSI C S [.int v5, .int v4, .int (σ6 30 0 (r7).toNatClampNeg), .int v1] (m_X8_isBefore l G ad σ6 v5 v4 (σ6 30 0 (r7).toNatClampNeg) v1 r9 σ8 q_81 _) kv_X8_isBefore tw_7_235 ⟨Nat.le_of_ble_eq_true rfl, Nat.le_of_ble_eq_true rfl⟩ rfl rfl (Nat.le_of_ble_eq_true rfl) hl.1 ⟨Nat.le_of_ble_eq_true rfl, Nat.le_of_ble_eq_true rfl⟩ dX8_hears_81 (fun H locs S => ?_)
          refine lv_if_eq (tgt := 101) C.1 C.2.1 dX8_hears_84 (by decide) (fun c_84 => ?_) (fun c_84 => ?_)
          · rw [if_pos c_84] at hf
            exact w_X8_hears_101 C _ _ _ _ S (lv_sub hl [] rfl) hf
          · rw [if_neg c_84] at hf
            exact w_X8_hears_87 C _ v1 v3 _ _ _ S (lv_sub hl [0, 1, 3] rfl) hf
    · rw [if_pos c_15] at hf
      refine lv_aload_n C.1 C.2.1 dX8_hears_18 rfl (lv_at hl 0 rfl) ?_
      refine z_getR C S 8 0 rfl (by decide) cf_8 0 (by decide) _ (gr_8_0 G ad 0) tw_6_118 dX8_hears_19 ?_
      refine lv_iload_n C.1 C.2.1 dX8_hears_22 rfl (lv_at hl 1 rfl) ?_
      refine lv_iload_n C.1 C.2.1 dX8_hears_23 rfl (lv_at hl 3 rfl) ?_
      refine lv_iload C.1 C.2.1 dX8_hears_24 (lv_at hl 4 rfl) ?_
      obtain ⟨r11, σ10, q_26, hf⟩ := bib hf
      refine z_callSI C S [.int v1, .int v3, .int v4] (m_X8_notedAt l G ad σ v1 v3 v4 r11 σ10 q_26 _) kv_X8_notedAt tw_7_31 ⟨Nat.le_of_ble_eq_true rfl, Nat.le_of_ble_eq_true rfl⟩ rfl rfl (Nat.le_of_ble_eq_true rfl) hl.1 ⟨Nat.le_of_ble_eq_true rfl, Nat.le_of_ble_eq_true rfl⟩ dX8_hears_26 (fun H locs S => ?_)
      refine lv_iload C.1 C.2.1 dX8_hears_29 (lv_at hl 5 rfl) ?_
      obtain ⟨g_31, hf⟩ := gd hf
      obtain ⟨σ12, e_31, hf⟩ := stb hf
      refine z_iast C S 30 0 rfl (by decide) 2111 (fun _ => rfl) g_31 dX8_hears_31 (fun H locs S => ?_)
      rw [← e_31] at S
      refine lv_goto (tgt := 101) C.1 C.2.1 dX8_hears_32 (by decide) ?_
      exact w_X8_hears_101 C _ _ _ _ S (lv_sub hl [] rfl) hf
  · rw [if_pos c_1] at hf
    refine lv_aload_n C.1 C.2.1 dX8_hears_4 rfl (lv_at hl 0 rfl) ?_
    refine lv_iload_n C.1 C.2.1 dX8_hears_5 rfl (lv_at hl 1 rfl) ?_
    refine lv_iload_n C.1 C.2.1 dX8_hears_6 rfl (lv_at hl 3 rfl) ?_
    obtain ⟨σ13, q_7, hf⟩ := bvb hf
    refine z_callV C S 8 0 rfl (by decide) cf_8 ⟨_, rfl⟩ [.int v1, .int v3] (m_X8_hearsCall l G ad σ v1 v3 σ13 q_7 _) kv_X8_hearsCall tw_7_231 ⟨Nat.le_of_ble_eq_true rfl, Nat.le_of_ble_eq_true rfl⟩ rfl rfl (Nat.le_of_ble_eq_true rfl) hl.1 ⟨Nat.le_of_ble_eq_true rfl, Nat.le_of_ble_eq_true rfl⟩ dX8_hears_7 (fun H locs S => ?_)
    refine lv_goto (tgt := 101) C.1 C.2.1 dX8_hears_10 (by decide) ?_
    exact w_X8_hears_101 C _ _ _ _ S (lv_sub hl [] rfl) hf
theorem kv_X8_hears : KV yX8_hears cX8_hears 6 none 5 := ⟨tw_7_230, tw_7_229, tw_p_84, tw_1_10, by decide, by decide, by decide +kernel⟩
theorem m_X8_hears (l : Launch) (G : Gx) (ad : Ad) (σ : Sg) (v1 : Int32) (v2 : Int32) (v3 : Int32) (v4 : Int32) (v5 : Int32) (σ' : Sg)  (hf : f_X8_hears σ v1 v2 v3 v4 v5 = some σ') (sz : Nat) : z_MV l yX8_hears cX8_hears 6 none 4 89 1 G ad σ sz [.ref (ad 8 0), .int v1, .int v2, .int v3, .int v4, .int v5] σ' := by
  refine z_begin (by decide +kernel) (Nat.le_of_ble_eq_true rfl) [(0, .ref (ad 8 0)), (1, .int v1), (2, .int v2), (3, .int v3), (4, .int v4), (5, .int v5)] rfl (fun p e s m args below meth c ls C hz S hl => ?_)
  subst hz
  exact w_X8_hears_0 (res := σ') C σ v1 v2 v3 v4 v5 _ _ _ S hl  hf

theorem dX8_delivers_0 : decode cX8_delivers 0 = .ok (.aload_n 0, 1) := by decide +kernel
theorem dX8_delivers_1 : decode cX8_delivers 1 = .ok (.getfield 25, 3) := by decide +kernel
theorem dX8_delivers_4 : decode cX8_delivers 4 = .ok (.iconst 4, 1) := by decide +kernel
theorem dX8_delivers_5 : decode cX8_delivers 5 = .ok (.iload_n 1, 1) := by decide +kernel
theorem dX8_delivers_6 : decode cX8_delivers 6 = .ok (.imul, 1) := by decide +kernel
theorem dX8_delivers_7 : decode cX8_delivers 7 = .ok (.iaload, 1) := by decide +kernel
theorem dX8_delivers_8 : decode cX8_delivers 8 = .ok (.istore_n 2, 1) := by decide +kernel
theorem dX8_delivers_9 : decode cX8_delivers 9 = .ok (.aload_n 0, 1) := by decide +kernel
theorem dX8_delivers_10 : decode cX8_delivers 10 = .ok (.getfield 25, 3) := by decide +kernel
theorem dX8_delivers_13 : decode cX8_delivers 13 = .ok (.iconst 4, 1) := by decide +kernel
theorem dX8_delivers_14 : decode cX8_delivers 14 = .ok (.iload_n 1, 1) := by decide +kernel
theorem dX8_delivers_15 : decode cX8_delivers 15 = .ok (.imul, 1) := by decide +kernel
theorem dX8_delivers_16 : decode cX8_delivers 16 = .ok (.iconst 1, 1) := by decide +kernel
theorem dX8_delivers_17 : decode cX8_delivers 17 = .ok (.iadd, 1) := by decide +kernel
theorem dX8_delivers_18 : decode cX8_delivers 18 = .ok (.iaload, 1) := by decide +kernel
theorem dX8_delivers_19 : decode cX8_delivers 19 = .ok (.istore_n 3, 1) := by decide +kernel
theorem dX8_delivers_20 : decode cX8_delivers 20 = .ok (.aload_n 0, 1) := by decide +kernel
theorem dX8_delivers_21 : decode cX8_delivers 21 = .ok (.getfield 25, 3) := by decide +kernel
theorem dX8_delivers_24 : decode cX8_delivers 24 = .ok (.iconst 4, 1) := by decide +kernel
theorem dX8_delivers_25 : decode cX8_delivers 25 = .ok (.iload_n 1, 1) := by decide +kernel
theorem dX8_delivers_26 : decode cX8_delivers 26 = .ok (.imul, 1) := by decide +kernel
theorem dX8_delivers_27 : decode cX8_delivers 27 = .ok (.iconst 2, 1) := by decide +kernel
theorem dX8_delivers_28 : decode cX8_delivers 28 = .ok (.iadd, 1) := by decide +kernel
theorem dX8_delivers_29 : decode cX8_delivers 29 = .ok (.iaload, 1) := by decide +kernel
theorem dX8_delivers_30 : decode cX8_delivers 30 = .ok (.istore 4, 2) := by decide +kernel
theorem dX8_delivers_32 : decode cX8_delivers 32 = .ok (.iconst 0, 1) := by decide +kernel
theorem dX8_delivers_33 : decode cX8_delivers 33 = .ok (.istore 5, 2) := by decide +kernel
theorem dX8_delivers_35 : decode cX8_delivers 35 = .ok (.iload 5, 2) := by decide +kernel
theorem dX8_delivers_37 : decode cX8_delivers 37 = .ok (.aload_n 0, 1) := by decide +kernel
theorem dX8_delivers_38 : decode cX8_delivers 38 = .ok (.getfield 7, 3) := by decide +kernel
theorem dX8_delivers_41 : decode cX8_delivers 41 = .ok (.iconst 1, 1) := by decide +kernel
theorem dX8_delivers_42 : decode cX8_delivers 42 = .ok (.iaload, 1) := by decide +kernel
theorem dX8_delivers_43 : decode cX8_delivers 43 = .ok (.if_icmp .ge 49, 3) := by decide +kernel
theorem dX8_delivers_46 : decode cX8_delivers 46 = .ok (.iload 5, 2) := by decide +kernel
theorem dX8_delivers_48 : decode cX8_delivers 48 = .ok (.iload 4, 2) := by decide +kernel
theorem dX8_delivers_50 : decode cX8_delivers 50 = .ok (.if_icmp .eq 36, 3) := by decide +kernel
theorem dX8_delivers_53 : decode cX8_delivers 53 = .ok (.aload_n 0, 1) := by decide +kernel
theorem dX8_delivers_54 : decode cX8_delivers 54 = .ok (.iload_n 2, 1) := by decide +kernel
theorem dX8_delivers_55 : decode cX8_delivers 55 = .ok (.iload_n 3, 1) := by decide +kernel
theorem dX8_delivers_56 : decode cX8_delivers 56 = .ok (.iload 4, 2) := by decide +kernel
theorem dX8_delivers_58 : decode cX8_delivers 58 = .ok (.iload 5, 2) := by decide +kernel
theorem dX8_delivers_60 : decode cX8_delivers 60 = .ok (.invokevirtual 109, 3) := by decide +kernel
theorem dX8_delivers_63 : decode cX8_delivers 63 = .ok (.ifCond .eq 23, 3) := by decide +kernel
theorem dX8_delivers_66 : decode cX8_delivers 66 = .ok (.aload_n 0, 1) := by decide +kernel
theorem dX8_delivers_67 : decode cX8_delivers 67 = .ok (.iload 5, 2) := by decide +kernel
theorem dX8_delivers_69 : decode cX8_delivers 69 = .ok (.iload_n 2, 1) := by decide +kernel
theorem dX8_delivers_70 : decode cX8_delivers 70 = .ok (.iload_n 3, 1) := by decide +kernel
theorem dX8_delivers_71 : decode cX8_delivers 71 = .ok (.iload 4, 2) := by decide +kernel
theorem dX8_delivers_73 : decode cX8_delivers 73 = .ok (.aload_n 0, 1) := by decide +kernel
theorem dX8_delivers_74 : decode cX8_delivers 74 = .ok (.getfield 25, 3) := by decide +kernel
theorem dX8_delivers_77 : decode cX8_delivers 77 = .ok (.iconst 4, 1) := by decide +kernel
theorem dX8_delivers_78 : decode cX8_delivers 78 = .ok (.iload_n 1, 1) := by decide +kernel
theorem dX8_delivers_79 : decode cX8_delivers 79 = .ok (.imul, 1) := by decide +kernel
theorem dX8_delivers_80 : decode cX8_delivers 80 = .ok (.iconst 3, 1) := by decide +kernel
theorem dX8_delivers_81 : decode cX8_delivers 81 = .ok (.iadd, 1) := by decide +kernel
theorem dX8_delivers_82 : decode cX8_delivers 82 = .ok (.iaload, 1) := by decide +kernel
theorem dX8_delivers_83 : decode cX8_delivers 83 = .ok (.invokevirtual 112, 3) := by decide +kernel
theorem dX8_delivers_86 : decode cX8_delivers 86 = .ok (.iinc 5 1, 3) := by decide +kernel
theorem dX8_delivers_89 : decode cX8_delivers 89 = .ok (.goto (-54), 3) := by decide +kernel
theorem dX8_delivers_92 : decode cX8_delivers 92 = .ok (.iload 4, 2) := by decide +kernel
theorem dX8_delivers_94 : decode cX8_delivers 94 = .ok (.iconst (-1), 1) := by decide +kernel
theorem dX8_delivers_95 : decode cX8_delivers 95 = .ok (.if_icmp .eq 15, 3) := by decide +kernel
theorem dX8_delivers_98 : decode cX8_delivers 98 = .ok (.aload_n 0, 1) := by decide +kernel
theorem dX8_delivers_99 : decode cX8_delivers 99 = .ok (.iload_n 2, 1) := by decide +kernel
theorem dX8_delivers_100 : decode cX8_delivers 100 = .ok (.iload_n 3, 1) := by decide +kernel
theorem dX8_delivers_101 : decode cX8_delivers 101 = .ok (.iload 4, 2) := by decide +kernel
theorem dX8_delivers_103 : decode cX8_delivers 103 = .ok (.iconst (-1), 1) := by decide +kernel
theorem dX8_delivers_104 : decode cX8_delivers 104 = .ok (.invokevirtual 109, 3) := by decide +kernel
theorem dX8_delivers_107 : decode cX8_delivers 107 = .ok (.ifCond .ne 4, 3) := by decide +kernel
theorem dX8_delivers_110 : decode cX8_delivers 110 = .ok (.return_, 1) := by decide +kernel
theorem dX8_delivers_111 : decode cX8_delivers 111 = .ok (.iload_n 2, 1) := by decide +kernel
theorem dX8_delivers_112 : decode cX8_delivers 112 = .ok (.iconst 2, 1) := by decide +kernel
theorem dX8_delivers_113 : decode cX8_delivers 113 = .ok (.if_icmp .eq 4, 3) := by decide +kernel
theorem dX8_delivers_116 : decode cX8_delivers 116 = .ok (.return_, 1) := by decide +kernel
theorem dX8_delivers_117 : decode cX8_delivers 117 = .ok (.aload_n 0, 1) := by decide +kernel
theorem dX8_delivers_118 : decode cX8_delivers 118 = .ok (.getfield 7, 3) := by decide +kernel
theorem dX8_delivers_121 : decode cX8_delivers 121 = .ok (.sipush 247, 3) := by decide +kernel
theorem dX8_delivers_124 : decode cX8_delivers 124 = .ok (.iload_n 3, 1) := by decide +kernel
theorem dX8_delivers_125 : decode cX8_delivers 125 = .ok (.iadd, 1) := by decide +kernel
theorem dX8_delivers_126 : decode cX8_delivers 126 = .ok (.iload 4, 2) := by decide +kernel
theorem dX8_delivers_128 : decode cX8_delivers 128 = .ok (.iastore, 1) := by decide +kernel
theorem dX8_delivers_129 : decode cX8_delivers 129 = .ok (.aload_n 0, 1) := by decide +kernel
theorem dX8_delivers_130 : decode cX8_delivers 130 = .ok (.getfield 7, 3) := by decide +kernel
theorem dX8_delivers_133 : decode cX8_delivers 133 = .ok (.sipush 271, 3) := by decide +kernel
theorem dX8_delivers_136 : decode cX8_delivers 136 = .ok (.iload_n 3, 1) := by decide +kernel
theorem dX8_delivers_137 : decode cX8_delivers 137 = .ok (.iadd, 1) := by decide +kernel
theorem dX8_delivers_138 : decode cX8_delivers 138 = .ok (.aload_n 0, 1) := by decide +kernel
theorem dX8_delivers_139 : decode cX8_delivers 139 = .ok (.getfield 7, 3) := by decide +kernel
theorem dX8_delivers_142 : decode cX8_delivers 142 = .ok (.iconst 3, 1) := by decide +kernel
theorem dX8_delivers_143 : decode cX8_delivers 143 = .ok (.iaload, 1) := by decide +kernel
theorem dX8_delivers_144 : decode cX8_delivers 144 = .ok (.iastore, 1) := by decide +kernel
theorem dX8_delivers_145 : decode cX8_delivers 145 = .ok (.return_, 1) := by decide +kernel
/-! BusLiftsModel.delivers(I)V -/
noncomputable def f_X8_delivers_110  (σ : Sg)  : Option Sg := some σ
noncomputable def f_X8_delivers_92  (σ : Sg) (v2 : Int32) (v3 : Int32) (v4 : Int32) : Option Sg := if v4 = (-1) then (f_X8_delivers_110 σ) else (bi (f_X8_arrives σ v2 v3 v4 (-1)) fun r2 σ1 => (if r2 = 0 then (f_X8_delivers_110 σ1) else (if v2 = 2 then (if (247 + v3) < 0 ∨ 2111 ≤ ((247 + v3)).toNatClampNeg then none else (st (sup σ1 30 0 ((247 + v3)).toNatClampNeg v4) fun σ3 => (if (271 + v3) < 0 ∨ 2111 ≤ ((271 + v3)).toNatClampNeg then none else (st (sup σ3 30 0 ((271 + v3)).toNatClampNeg (σ3 30 0 3)) fun σ4 => (some σ4))))) else (some σ1))))
noncomputable def f_X8_delivers_86 (k35 : Sg → Int32 → Int32 → Int32 → Int32 → Int32 → Option Sg) (σ : Sg) (v1 : Int32) (v2 : Int32) (v3 : Int32) (v4 : Int32) (v5 : Int32) : Option Sg := k35 σ v1 v2 v3 v4 (v5 + 1)
noncomputable def f_X8_delivers_35  : Nat → Sg → Int32 → Int32 → Int32 → Int32 → Int32 → Option Sg
  | 0, _, _, _, _, _, _ => none
  | n + 1, σ, v1, v2, v3, v4, v5 => if (σ 30 0 1) ≤ v5 then (f_X8_delivers_92 σ v2 v3 v4) else (if v5 = v4 then (f_X8_delivers_86 (f_X8_delivers_35 n) σ v1 v2 v3 v4 v5) else (bi (f_X8_arrives σ v2 v3 v4 v5) fun r2 σ1 => (if r2 = 0 then (f_X8_delivers_86 (f_X8_delivers_35 n) σ1 v1 v2 v3 v4 v5) else (if ((4 * v1) + 3) < 0 ∨ 1024 ≤ (((4 * v1) + 3)).toNatClampNeg then none else (bv (f_X8_hears σ1 v5 v2 v3 v4 (σ1 35 0 (((4 * v1) + 3)).toNatClampNeg)) fun σ3 => (f_X8_delivers_86 (f_X8_delivers_35 n) σ3 v1 v2 v3 v4 v5))))))
theorem f_X8_delivers_35_s  (n : Nat) (σ : Sg) (v1 : Int32) (v2 : Int32) (v3 : Int32) (v4 : Int32) (v5 : Int32) : f_X8_delivers_35  (n + 1) σ v1 v2 v3 v4 v5 = (if (σ 30 0 1) ≤ v5 then (f_X8_delivers_92 σ v2 v3 v4) else (if v5 = v4 then (f_X8_delivers_86 (f_X8_delivers_35 n) σ v1 v2 v3 v4 v5) else (bi (f_X8_arrives σ v2 v3 v4 v5) fun r2 σ1 => (if r2 = 0 then (f_X8_delivers_86 (f_X8_delivers_35 n) σ1 v1 v2 v3 v4 v5) else (if ((4 * v1) + 3) < 0 ∨ 1024 ≤ (((4 * v1) + 3)).toNatClampNeg then none else (bv (f_X8_hears σ1 v5 v2 v3 v4 (σ1 35 0 (((4 * v1) + 3)).toNatClampNeg)) fun σ3 => (f_X8_delivers_86 (f_X8_delivers_35 n) σ3 v1 v2 v3 v4 v5))))))) := rfl
noncomputable def f_X8_delivers  (σ : Sg) (v1 : Int32) : Option Sg := if (4 * v1) < 0 ∨ 1024 ≤ ((4 * v1)).toNatClampNeg then none else (if ((4 * v1) + 1) < 0 ∨ 1024 ≤ (((4 * v1) + 1)).toNatClampNeg then none else (if ((4 * v1) + 2) < 0 ∨ 1024 ≤ (((4 * v1) + 2)).toNatClampNeg then none else (f_X8_delivers_35 FU σ v1 (σ 35 0 ((4 * v1)).toNatClampNeg) (σ 35 0 (((4 * v1) + 1)).toNatClampNeg) (σ 35 0 (((4 * v1) + 2)).toNatClampNeg) 0)))
set_option maxHeartbeats 4000000 in
set_option maxRecDepth 100000 in
theorem w_X8_delivers_110 {p : Program} {l : Launch} {e : Env} {s : State} {m : MethodId} {args : Array Value} {below : List Frame} {meth : Method} {c : Code} {G : Gx} {ad : Ad} {res : Sg} (C : Cx p s m args meth c yX8_delivers.cls cX8_delivers 6 none G)  : ∀ (σ : Sg)  (H : Heap) (locs : List Loc) (ls : Array Slot), z_S 1 G ad σ (z_A 1 ad s.heap.size) s.heap H locs → lv_has ls 6 [] → f_X8_delivers_110  σ  = some res → W p l e { frames := 5, cells := 0, slots := 0, locals := 114 } s m args below meth c H locs 0 0 (MQ below (va_Qv (S := Unit) (fun _ => True) (fun _ t => z_W 1 G ad res t.heap) (z_A 1 ad s.heap.size)) args s 0 0 (z_A 1 ad s.heap.size)) (F0 m 110 ls []) := by
  intro σ  H locs ls S hl  hf
  unfold f_X8_delivers_110 at hf
  exact z_vret C S hf dX8_delivers_110
set_option maxHeartbeats 4000000 in
set_option maxRecDepth 100000 in
theorem w_X8_delivers_92 {p : Program} {l : Launch} {e : Env} {s : State} {m : MethodId} {args : Array Value} {below : List Frame} {meth : Method} {c : Code} {G : Gx} {ad : Ad} {res : Sg} (C : Cx p s m args meth c yX8_delivers.cls cX8_delivers 6 none G)  : ∀ (σ : Sg) (v2 : Int32) (v3 : Int32) (v4 : Int32) (H : Heap) (locs : List Loc) (ls : Array Slot), z_S 1 G ad σ (z_A 1 ad s.heap.size) s.heap H locs → lv_has ls 6 [(0, .ref (ad 8 0)), (2, .int v2), (3, .int v3), (4, .int v4)] → f_X8_delivers_92  σ v2 v3 v4 = some res → W p l e { frames := 5, cells := 0, slots := 0, locals := 114 } s m args below meth c H locs 0 0 (MQ below (va_Qv (S := Unit) (fun _ => True) (fun _ t => z_W 1 G ad res t.heap) (z_A 1 ad s.heap.size)) args s 0 0 (z_A 1 ad s.heap.size)) (F0 m 92 ls []) := by
  intro σ v2 v3 v4 H locs ls S hl  hf
  unfold f_X8_delivers_92 at hf
  refine lv_iload C.1 C.2.1 dX8_delivers_92 (lv_at hl 3 rfl) ?_
  refine lv_iconst (v := (-1)) C.1 C.2.1 dX8_delivers_94 (by decide) ?_
  refine lv_icmp_eq (tgt := 110) C.1 C.2.1 dX8_delivers_95 (by decide) (fun c_95 => ?_) (fun c_95 => ?_)
  · rw [if_pos c_95] at hf
    exact w_X8_delivers_110 C _ _ _ _ S (lv_sub hl [] rfl) hf
  · rw [if_neg c_95] at hf
    refine lv_aload_n C.1 C.2.1 dX8_delivers_98 rfl (lv_at hl 0 rfl) ?_
    refine lv_iload_n C.1 C.2.1 dX8_delivers_99 rfl (lv_at hl 1 rfl) ?_
    refine lv_iload_n C.1 C.2.1 dX8_delivers_100 rfl (lv_at hl 2 rfl) ?_
    refine lv_iload C.1 C.2.1 dX8_delivers_101 (lv_at hl 3 rfl) ?_
    refine lv_iconst (v := (-1)) C.1 C.2.1 dX8_delivers_103 (by decide) ?_
    obtain ⟨r2, σ1, q_104, hf⟩ := bib hf
    refine z_callI C S 8 0 rfl (by decide) cf_8 ⟨_, rfl⟩ [.int v2, .int v3, .int v4, .int (-1)] (m_X8_arrives l G ad σ v2 v3 v4 (-1) r2 σ1 q_104 _) kv_X8_arrives tw_7_214 ⟨Nat.le_of_ble_eq_true rfl, Nat.le_of_ble_eq_true rfl⟩ rfl rfl (Nat.le_of_ble_eq_true rfl) hl.1 ⟨Nat.le_of_ble_eq_true rfl, Nat.le_of_ble_eq_true rfl⟩ dX8_delivers_104 (fun H locs S => ?_)
    refine lv_if_ne (tgt := 111) C.1 C.2.1 dX8_delivers_107 (by decide) (fun c_107 => ?_) (fun c_107 => ?_)
    · rw [if_neg c_107] at hf
      refine lv_iload_n C.1 C.2.1 dX8_delivers_111 rfl (lv_at hl 1 rfl) ?_
      refine lv_iconst (v := 2) C.1 C.2.1 dX8_delivers_112 (by decide) ?_
      refine lv_icmp_eq (tgt := 117) C.1 C.2.1 dX8_delivers_113 (by decide) (fun c_113 => ?_) (fun c_113 => ?_)
      · rw [if_pos c_113] at hf
        refine lv_aload_n C.1 C.2.1 dX8_delivers_117 rfl (lv_at hl 0 rfl) ?_
        refine z_getR C S 8 0 rfl (by decide) cf_8 0 (by decide) _ (gr_8_0 G ad 0) tw_6_118 dX8_delivers_118 ?_
        refine lv_sipush (v := 247) C.1 C.2.1 dX8_delivers_121 (by decide) ?_
        refine lv_iload_n C.1 C.2.1 dX8_delivers_124 rfl (lv_at hl 2 rfl) ?_
        refine lv_iadd C.1 C.2.1 dX8_delivers_125 ?_
        refine lv_iload C.1 C.2.1 dX8_delivers_126 (lv_at hl 3 rfl) ?_
        obtain ⟨g_128, hf⟩ := gd hf
        obtain ⟨σ3, e_128, hf⟩ := stb hf
        refine z_iast C S 30 0 rfl (by decide) 2111 (fun _ => rfl) g_128 dX8_delivers_128 (fun H locs S => ?_)
        rw [← e_128] at S
        refine lv_aload_n C.1 C.2.1 dX8_delivers_129 rfl (lv_at hl 0 rfl) ?_
        refine z_getR C S 8 0 rfl (by decide) cf_8 0 (by decide) _ (gr_8_0 G ad 0) tw_6_118 dX8_delivers_130 ?_
        refine lv_sipush (v := 271) C.1 C.2.1 dX8_delivers_133 (by decide) ?_
        refine lv_iload_n C.1 C.2.1 dX8_delivers_136 rfl (lv_at hl 2 rfl) ?_
        refine lv_iadd C.1 C.2.1 dX8_delivers_137 ?_
        refine lv_aload_n C.1 C.2.1 dX8_delivers_138 rfl (lv_at hl 0 rfl) ?_
        refine z_getR C S 8 0 rfl (by decide) cf_8 0 (by decide) _ (gr_8_0 G ad 0) tw_6_118 dX8_delivers_139 ?_
        refine lv_iconst (v := 3) C.1 C.2.1 dX8_delivers_142 (by decide) ?_
        refine z_ialdL C S 30 0 rfl (by decide) 2111 (fun _ => rfl) 3 (by decide) (by decide) (by decide) dX8_delivers_143 ?_
        obtain ⟨g_144, hf⟩ := gd hf
        obtain ⟨σ4, e_144, hf⟩ := stb hf
        refine z_iast C S 30 0 rfl (by decide) 2111 (fun _ => rfl) g_144 dX8_delivers_144 (fun H locs S => ?_)
        rw [← e_144] at S
        exact z_vret C S hf dX8_delivers_145
      · rw [if_neg c_113] at hf
        exact z_vret C S hf dX8_delivers_116
    · rw [if_pos c_107] at hf
      exact w_X8_delivers_110 C _ _ _ _ S (lv_sub hl [] rfl) hf
set_option maxHeartbeats 4000000 in
set_option maxRecDepth 100000 in
theorem w_X8_delivers_86 {p : Program} {l : Launch} {e : Env} {s : State} {m : MethodId} {args : Array Value} {below : List Frame} {meth : Method} {c : Code} {G : Gx} {ad : Ad} {res : Sg} (C : Cx p s m args meth c yX8_delivers.cls cX8_delivers 6 none G) (k35 : Sg → Int32 → Int32 → Int32 → Int32 → Int32 → Option Sg) (hk35 : ∀ (σ : Sg) (v1 : Int32) (v2 : Int32) (v3 : Int32) (v4 : Int32) (v5 : Int32) (H : Heap) (locs : List Loc) (ls : Array Slot), z_S 1 G ad σ (z_A 1 ad s.heap.size) s.heap H locs → lv_has ls 6 [(0, .ref (ad 8 0)), (1, .int v1), (2, .int v2), (3, .int v3), (4, .int v4), (5, .int v5)] → k35 σ v1 v2 v3 v4 v5 = some res → W p l e { frames := 5, cells := 0, slots := 0, locals := 114 } s m args below meth c H locs 0 0 (MQ below (va_Qv (S := Unit) (fun _ => True) (fun _ t => z_W 1 G ad res t.heap) (z_A 1 ad s.heap.size)) args s 0 0 (z_A 1 ad s.heap.size)) (F0 m 35 ls [])) : ∀ (σ : Sg) (v1 : Int32) (v2 : Int32) (v3 : Int32) (v4 : Int32) (v5 : Int32) (H : Heap) (locs : List Loc) (ls : Array Slot), z_S 1 G ad σ (z_A 1 ad s.heap.size) s.heap H locs → lv_has ls 6 [(0, .ref (ad 8 0)), (1, .int v1), (2, .int v2), (3, .int v3), (4, .int v4), (5, .int v5)] → f_X8_delivers_86 k35 σ v1 v2 v3 v4 v5 = some res → W p l e { frames := 5, cells := 0, slots := 0, locals := 114 } s m args below meth c H locs 0 0 (MQ below (va_Qv (S := Unit) (fun _ => True) (fun _ t => z_W 1 G ad res t.heap) (z_A 1 ad s.heap.size)) args s 0 0 (z_A 1 ad s.heap.size)) (F0 m 86 ls []) := by
  intro σ v1 v2 v3 v4 v5 H locs ls S hl  hf
  unfold f_X8_delivers_86 at hf
  refine lv_iinc (v := (v5 + 1)) (lv' := [(5, .int (v5 + 1)), (0, .ref (ad 8 0)), (1, .int v1), (2, .int v2), (3, .int v3), (4, .int v4)]) C.1 C.2.1 dX8_delivers_86 hl (k := 5) rfl rfl (by decide) rfl (fun ls hl => ?_)
  refine lv_goto (tgt := 35) C.1 C.2.1 dX8_delivers_89 (by decide) ?_
  exact hk35 _ v1 v2 v3 v4 (v5 + 1) _ _ _ S (lv_sub hl [1, 2, 3, 4, 5, 0] rfl)  hf
set_option maxHeartbeats 4000000 in
set_option maxRecDepth 100000 in
theorem w_X8_delivers_35 {p : Program} {l : Launch} {e : Env} {s : State} {m : MethodId} {args : Array Value} {below : List Frame} {meth : Method} {c : Code} {G : Gx} {ad : Ad} {res : Sg} (C : Cx p s m args meth c yX8_delivers.cls cX8_delivers 6 none G)  : ∀ n : Nat, ∀ (σ : Sg) (v1 : Int32) (v2 : Int32) (v3 : Int32) (v4 : Int32) (v5 : Int32) (H : Heap) (locs : List Loc) (ls : Array Slot), z_S 1 G ad σ (z_A 1 ad s.heap.size) s.heap H locs → lv_has ls 6 [(0, .ref (ad 8 0)), (1, .int v1), (2, .int v2), (3, .int v3), (4, .int v4), (5, .int v5)] → f_X8_delivers_35  n σ v1 v2 v3 v4 v5 = some res → W p l e { frames := 5, cells := 0, slots := 0, locals := 114 } s m args below meth c H locs 0 0 (MQ below (va_Qv (S := Unit) (fun _ => True) (fun _ t => z_W 1 G ad res t.heap) (z_A 1 ad s.heap.size)) args s 0 0 (z_A 1 ad s.heap.size)) (F0 m 35 ls []) := by
  intro n
  induction n with
  | zero => intro σ v1 v2 v3 v4 v5 H locs ls S hl  hf; cases hf
  | succ n ih =>
    intro σ v1 v2 v3 v4 v5 H locs ls S hl  hf
    rw [f_X8_delivers_35_s] at hf
    refine lv_iload C.1 C.2.1 dX8_delivers_35 (lv_at hl 5 rfl) ?_
    refine lv_aload_n C.1 C.2.1 dX8_delivers_37 rfl (lv_at hl 0 rfl) ?_
    refine z_getR C S 8 0 rfl (by decide) cf_8 0 (by decide) _ (gr_8_0 G ad 0) tw_6_118 dX8_delivers_38 ?_
    refine lv_iconst (v := 1) C.1 C.2.1 dX8_delivers_41 (by decide) ?_
    refine z_ialdL C S 30 0 rfl (by decide) 2111 (fun _ => rfl) 1 (by decide) (by decide) (by decide) dX8_delivers_42 ?_
    refine lv_icmp_ge (tgt := 92) C.1 C.2.1 dX8_delivers_43 (by decide) (fun c_43 => ?_) (fun c_43 => ?_)
    · rw [if_pos c_43] at hf
      exact w_X8_delivers_92 C _ v2 v3 v4 _ _ _ S (lv_sub hl [0, 2, 3, 4] rfl) hf
    · rw [if_neg c_43] at hf
      refine lv_iload C.1 C.2.1 dX8_delivers_46 (lv_at hl 5 rfl) ?_
      refine lv_iload C.1 C.2.1 dX8_delivers_48 (lv_at hl 4 rfl) ?_
      refine lv_icmp_eq (tgt := 86) C.1 C.2.1 dX8_delivers_50 (by decide) (fun c_50 => ?_) (fun c_50 => ?_)
      · rw [if_pos c_50] at hf
        exact w_X8_delivers_86 C (f_X8_delivers_35 n) ih _ v1 v2 v3 v4 v5 _ _ _ S (lv_sub hl [0, 1, 2, 3, 4, 5] rfl) hf
      · rw [if_neg c_50] at hf
        refine lv_aload_n C.1 C.2.1 dX8_delivers_53 rfl (lv_at hl 0 rfl) ?_
        refine lv_iload_n C.1 C.2.1 dX8_delivers_54 rfl (lv_at hl 2 rfl) ?_
        refine lv_iload_n C.1 C.2.1 dX8_delivers_55 rfl (lv_at hl 3 rfl) ?_
        refine lv_iload C.1 C.2.1 dX8_delivers_56 (lv_at hl 4 rfl) ?_
        refine lv_iload C.1 C.2.1 dX8_delivers_58 (lv_at hl 5 rfl) ?_
        obtain ⟨r2, σ1, q_60, hf⟩ := bib hf
        refine z_callI C S 8 0 rfl (by decide) cf_8 ⟨_, rfl⟩ [.int v2, .int v3, .int v4, .int v5] (m_X8_arrives l G ad σ v2 v3 v4 v5 r2 σ1 q_60 _) kv_X8_arrives tw_7_214 ⟨Nat.le_of_ble_eq_true rfl, Nat.le_of_ble_eq_true rfl⟩ rfl rfl (Nat.le_of_ble_eq_true rfl) hl.1 ⟨Nat.le_of_ble_eq_true rfl, Nat.le_of_ble_eq_true rfl⟩ dX8_delivers_60 (fun H locs S => ?_)
        refine lv_if_eq (tgt := 86) C.1 C.2.1 dX8_delivers_63 (by decide) (fun c_63 => ?_) (fun c_63 => ?_)
        · rw [if_pos c_63] at hf
          exact w_X8_delivers_86 C (f_X8_delivers_35 n) ih _ v1 v2 v3 v4 v5 _ _ _ S (lv_sub hl [0, 1, 2, 3, 4, 5] rfl) hf
        · rw [if_neg c_63] at hf
          refine lv_aload_n C.1 C.2.1 dX8_delivers_66 rfl (lv_at hl 0 rfl) ?_
          refine lv_iload C.1 C.2.1 dX8_delivers_67 (lv_at hl 5 rfl) ?_
          refine lv_iload_n C.1 C.2.1 dX8_delivers_69 rfl (lv_at hl 2 rfl) ?_
          refine lv_iload_n C.1 C.2.1 dX8_delivers_70 rfl (lv_at hl 3 rfl) ?_
          refine lv_iload C.1 C.2.1 dX8_delivers_71 (lv_at hl 4 rfl) ?_
          refine lv_aload_n C.1 C.2.1 dX8_delivers_73 rfl (lv_at hl 0 rfl) ?_
          refine z_getR C S 8 0 rfl (by decide) cf_8 5 (by decide) _ (gr_8_5 G ad 0) tw_6_123 dX8_delivers_74 ?_
          refine lv_iconst (v := 4) C.1 C.2.1 dX8_delivers_77 (by decide) ?_
          refine lv_iload_n C.1 C.2.1 dX8_delivers_78 rfl (lv_at hl 1 rfl) ?_
          refine lv_imul C.1 C.2.1 dX8_delivers_79 ?_
          refine lv_iconst (v := 3) C.1 C.2.1 dX8_delivers_80 (by decide) ?_
          refine lv_iadd C.1 C.2.1 dX8_delivers_81 ?_
          obtain ⟨g_82, hf⟩ := gd hf
          refine z_iald C S 35 0 rfl (by decide) 1024 (fun _ => rfl) g_82 dX8_delivers_82 ?_
          obtain ⟨σ3, q_83, hf⟩ := bvb hf
          refine z_callV C S 8 0 rfl (by decide) cf_8 ⟨_, rfl⟩ [.int v5, .int v2, .int v3, .int v4, .int (σ1 35 0 (((4 * v1) + 3)).toNatClampNeg)] (m_X8_hears l G ad σ1 v5 v2 v3 v4 (σ1 35 0 (((4 * v1) + 3)).toNatClampNeg) σ3 q_83 _) kv_X8_hears tw_7_227 ⟨Nat.le_of_ble_eq_true rfl, Nat.le_of_ble_eq_true rfl⟩ rfl rfl (Nat.le_of_ble_eq_true rfl) hl.1 ⟨Nat.le_of_ble_eq_true rfl, Nat.le_of_ble_eq_true rfl⟩ dX8_delivers_83 (fun H locs S => ?_)
          exact w_X8_delivers_86 C (f_X8_delivers_35 n) ih _ v1 v2 v3 v4 v5 _ _ _ S (lv_sub hl [0, 1, 2, 3, 4, 5] rfl) hf
set_option maxHeartbeats 4000000 in
set_option maxRecDepth 100000 in
theorem w_X8_delivers_0 {p : Program} {l : Launch} {e : Env} {s : State} {m : MethodId} {args : Array Value} {below : List Frame} {meth : Method} {c : Code} {G : Gx} {ad : Ad} {res : Sg} (C : Cx p s m args meth c yX8_delivers.cls cX8_delivers 6 none G)  : ∀ (σ : Sg) (v1 : Int32) (H : Heap) (locs : List Loc) (ls : Array Slot), z_S 1 G ad σ (z_A 1 ad s.heap.size) s.heap H locs → lv_has ls 6 [(0, .ref (ad 8 0)), (1, .int v1)] → f_X8_delivers  σ v1 = some res → W p l e { frames := 5, cells := 0, slots := 0, locals := 114 } s m args below meth c H locs 0 0 (MQ below (va_Qv (S := Unit) (fun _ => True) (fun _ t => z_W 1 G ad res t.heap) (z_A 1 ad s.heap.size)) args s 0 0 (z_A 1 ad s.heap.size)) (F0 m 0 ls []) := by
  intro σ v1 H locs ls S hl  hf
  unfold f_X8_delivers at hf
  refine lv_aload_n C.1 C.2.1 dX8_delivers_0 rfl (lv_at hl 0 rfl) ?_
  refine z_getR C S 8 0 rfl (by decide) cf_8 5 (by decide) _ (gr_8_5 G ad 0) tw_6_123 dX8_delivers_1 ?_
  refine lv_iconst (v := 4) C.1 C.2.1 dX8_delivers_4 (by decide) ?_
  refine lv_iload_n C.1 C.2.1 dX8_delivers_5 rfl (lv_at hl 1 rfl) ?_
  refine lv_imul C.1 C.2.1 dX8_delivers_6 ?_
  obtain ⟨g_7, hf⟩ := gd hf
  refine z_iald C S 35 0 rfl (by decide) 1024 (fun _ => rfl) g_7 dX8_delivers_7 ?_
  refine lv_istore_n (lv' := [(2, .int (σ 35 0 ((4 * v1)).toNatClampNeg)), (0, .ref (ad 8 0)), (1, .int v1)]) C.1 C.2.1 dX8_delivers_8 rfl hl (by decide) rfl (fun ls hl => ?_)
  refine lv_aload_n C.1 C.2.1 dX8_delivers_9 rfl (lv_at hl 1 rfl) ?_
  refine z_getR C S 8 0 rfl (by decide) cf_8 5 (by decide) _ (gr_8_5 G ad 0) tw_6_123 dX8_delivers_10 ?_
  refine lv_iconst (v := 4) C.1 C.2.1 dX8_delivers_13 (by decide) ?_
  refine lv_iload_n C.1 C.2.1 dX8_delivers_14 rfl (lv_at hl 2 rfl) ?_
  refine lv_imul C.1 C.2.1 dX8_delivers_15 ?_
  refine lv_iconst (v := 1) C.1 C.2.1 dX8_delivers_16 (by decide) ?_
  refine lv_iadd C.1 C.2.1 dX8_delivers_17 ?_
  obtain ⟨g_18, hf⟩ := gd hf
  refine z_iald C S 35 0 rfl (by decide) 1024 (fun _ => rfl) g_18 dX8_delivers_18 ?_
  refine lv_istore_n (lv' := [(3, .int (σ 35 0 (((4 * v1) + 1)).toNatClampNeg)), (2, .int (σ 35 0 ((4 * v1)).toNatClampNeg)), (0, .ref (ad 8 0)), (1, .int v1)]) C.1 C.2.1 dX8_delivers_19 rfl hl (by decide) rfl (fun ls hl => ?_)
  refine lv_aload_n C.1 C.2.1 dX8_delivers_20 rfl (lv_at hl 2 rfl) ?_
  refine z_getR C S 8 0 rfl (by decide) cf_8 5 (by decide) _ (gr_8_5 G ad 0) tw_6_123 dX8_delivers_21 ?_
  refine lv_iconst (v := 4) C.1 C.2.1 dX8_delivers_24 (by decide) ?_
  refine lv_iload_n C.1 C.2.1 dX8_delivers_25 rfl (lv_at hl 3 rfl) ?_
  refine lv_imul C.1 C.2.1 dX8_delivers_26 ?_
  refine lv_iconst (v := 2) C.1 C.2.1 dX8_delivers_27 (by decide) ?_
  refine lv_iadd C.1 C.2.1 dX8_delivers_28 ?_
  obtain ⟨g_29, hf⟩ := gd hf
  refine z_iald C S 35 0 rfl (by decide) 1024 (fun _ => rfl) g_29 dX8_delivers_29 ?_
  refine lv_istore (lv' := [(4, .int (σ 35 0 (((4 * v1) + 2)).toNatClampNeg)), (3, .int (σ 35 0 (((4 * v1) + 1)).toNatClampNeg)), (2, .int (σ 35 0 ((4 * v1)).toNatClampNeg)), (0, .ref (ad 8 0)), (1, .int v1)]) C.1 C.2.1 dX8_delivers_30 hl (by decide) rfl (fun ls hl => ?_)
  refine lv_iconst (v := 0) C.1 C.2.1 dX8_delivers_32 (by decide) ?_
  refine lv_istore (lv' := [(5, .int 0), (4, .int (σ 35 0 (((4 * v1) + 2)).toNatClampNeg)), (3, .int (σ 35 0 (((4 * v1) + 1)).toNatClampNeg)), (2, .int (σ 35 0 ((4 * v1)).toNatClampNeg)), (0, .ref (ad 8 0)), (1, .int v1)]) C.1 C.2.1 dX8_delivers_33 hl (by decide) rfl (fun ls hl => ?_)
  exact w_X8_delivers_35 C FU _ v1 (σ 35 0 ((4 * v1)).toNatClampNeg) (σ 35 0 (((4 * v1) + 1)).toNatClampNeg) (σ 35 0 (((4 * v1) + 2)).toNatClampNeg) 0 _ _ _ S (lv_sub hl [4, 5, 3, 2, 1, 0] rfl) hf
theorem kv_X8_delivers : KV yX8_delivers cX8_delivers 6 none 1 := ⟨tw_7_213, tw_7_212, tw_p_80, tw_1_10, by decide, by decide, by decide +kernel⟩
theorem m_X8_delivers (l : Launch) (G : Gx) (ad : Ad) (σ : Sg) (v1 : Int32) (σ' : Sg)  (hf : f_X8_delivers σ v1 = some σ') (sz : Nat) : z_MV l yX8_delivers cX8_delivers 6 none 5 114 1 G ad σ sz [.ref (ad 8 0), .int v1] σ' := by
  refine z_begin (by decide +kernel) (Nat.le_of_ble_eq_true rfl) [(0, .ref (ad 8 0)), (1, .int v1)] rfl (fun p e s m args below meth c ls C hz S hl => ?_)
  subst hz
  exact w_X8_delivers_0 (res := σ') C σ v1 _ _ _ S hl  hf

theorem dX8_minds_0 : decode cX8_minds 0 = .ok (.iconst 0, 1) := by decide +kernel
theorem dX8_minds_1 : decode cX8_minds 1 = .ok (.istore_n 1, 1) := by decide +kernel
theorem dX8_minds_2 : decode cX8_minds 2 = .ok (.iload_n 1, 1) := by decide +kernel
theorem dX8_minds_3 : decode cX8_minds 3 = .ok (.aload_n 0, 1) := by decide +kernel
theorem dX8_minds_4 : decode cX8_minds 4 = .ok (.getfield 7, 3) := by decide +kernel
theorem dX8_minds_7 : decode cX8_minds 7 = .ok (.iconst 2, 1) := by decide +kernel
theorem dX8_minds_8 : decode cX8_minds 8 = .ok (.iaload, 1) := by decide +kernel
theorem dX8_minds_9 : decode cX8_minds 9 = .ok (.if_icmp .ge 124, 3) := by decide +kernel
theorem dX8_minds_12 : decode cX8_minds 12 = .ok (.aload_n 0, 1) := by decide +kernel
theorem dX8_minds_13 : decode cX8_minds 13 = .ok (.getfield 7, 3) := by decide +kernel
theorem dX8_minds_16 : decode cX8_minds 16 = .ok (.bipush 127, 2) := by decide +kernel
theorem dX8_minds_18 : decode cX8_minds 18 = .ok (.iload_n 1, 1) := by decide +kernel
theorem dX8_minds_19 : decode cX8_minds 19 = .ok (.iadd, 1) := by decide +kernel
theorem dX8_minds_20 : decode cX8_minds 20 = .ok (.iaload, 1) := by decide +kernel
theorem dX8_minds_21 : decode cX8_minds 21 = .ok (.iconst 1, 1) := by decide +kernel
theorem dX8_minds_22 : decode cX8_minds 22 = .ok (.if_icmp .eq 6, 3) := by decide +kernel
theorem dX8_minds_25 : decode cX8_minds 25 = .ok (.goto 102, 3) := by decide +kernel
theorem dX8_minds_28 : decode cX8_minds 28 = .ok (.aload_n 0, 1) := by decide +kernel
theorem dX8_minds_29 : decode cX8_minds 29 = .ok (.getfield 7, 3) := by decide +kernel
theorem dX8_minds_32 : decode cX8_minds 32 = .ok (.sipush 247, 3) := by decide +kernel
theorem dX8_minds_35 : decode cX8_minds 35 = .ok (.iload_n 1, 1) := by decide +kernel
theorem dX8_minds_36 : decode cX8_minds 36 = .ok (.iadd, 1) := by decide +kernel
theorem dX8_minds_37 : decode cX8_minds 37 = .ok (.iaload, 1) := by decide +kernel
theorem dX8_minds_38 : decode cX8_minds 38 = .ok (.iconst (-1), 1) := by decide +kernel
theorem dX8_minds_39 : decode cX8_minds 39 = .ok (.if_icmp .eq 43, 3) := by decide +kernel
theorem dX8_minds_42 : decode cX8_minds 42 = .ok (.aload_n 0, 1) := by decide +kernel
theorem dX8_minds_43 : decode cX8_minds 43 = .ok (.getfield 7, 3) := by decide +kernel
theorem dX8_minds_46 : decode cX8_minds 46 = .ok (.iconst 3, 1) := by decide +kernel
theorem dX8_minds_47 : decode cX8_minds 47 = .ok (.iaload, 1) := by decide +kernel
theorem dX8_minds_48 : decode cX8_minds 48 = .ok (.aload_n 0, 1) := by decide +kernel
theorem dX8_minds_49 : decode cX8_minds 49 = .ok (.getfield 7, 3) := by decide +kernel
theorem dX8_minds_52 : decode cX8_minds 52 = .ok (.sipush 271, 3) := by decide +kernel
theorem dX8_minds_55 : decode cX8_minds 55 = .ok (.iload_n 1, 1) := by decide +kernel
theorem dX8_minds_56 : decode cX8_minds 56 = .ok (.iadd, 1) := by decide +kernel
theorem dX8_minds_57 : decode cX8_minds 57 = .ok (.iaload, 1) := by decide +kernel
theorem dX8_minds_58 : decode cX8_minds 58 = .ok (.isub, 1) := by decide +kernel
theorem dX8_minds_59 : decode cX8_minds 59 = .ok (.bipush 10, 2) := by decide +kernel
theorem dX8_minds_61 : decode cX8_minds 61 = .ok (.aload_n 0, 1) := by decide +kernel
theorem dX8_minds_62 : decode cX8_minds 62 = .ok (.getfield 7, 3) := by decide +kernel
theorem dX8_minds_65 : decode cX8_minds 65 = .ok (.iconst 5, 1) := by decide +kernel
theorem dX8_minds_66 : decode cX8_minds 66 = .ok (.iaload, 1) := by decide +kernel
theorem dX8_minds_67 : decode cX8_minds 67 = .ok (.imul, 1) := by decide +kernel
theorem dX8_minds_68 : decode cX8_minds 68 = .ok (.if_icmp .lt 14, 3) := by decide +kernel
theorem dX8_minds_71 : decode cX8_minds 71 = .ok (.aload_n 0, 1) := by decide +kernel
theorem dX8_minds_72 : decode cX8_minds 72 = .ok (.getfield 7, 3) := by decide +kernel
theorem dX8_minds_75 : decode cX8_minds 75 = .ok (.sipush 247, 3) := by decide +kernel
theorem dX8_minds_78 : decode cX8_minds 78 = .ok (.iload_n 1, 1) := by decide +kernel
theorem dX8_minds_79 : decode cX8_minds 79 = .ok (.iadd, 1) := by decide +kernel
theorem dX8_minds_80 : decode cX8_minds 80 = .ok (.iconst (-1), 1) := by decide +kernel
theorem dX8_minds_81 : decode cX8_minds 81 = .ok (.iastore, 1) := by decide +kernel
theorem dX8_minds_82 : decode cX8_minds 82 = .ok (.aload_n 0, 1) := by decide +kernel
theorem dX8_minds_83 : decode cX8_minds 83 = .ok (.getfield 7, 3) := by decide +kernel
theorem dX8_minds_86 : decode cX8_minds 86 = .ok (.sipush 247, 3) := by decide +kernel
theorem dX8_minds_89 : decode cX8_minds 89 = .ok (.iload_n 1, 1) := by decide +kernel
theorem dX8_minds_90 : decode cX8_minds 90 = .ok (.iadd, 1) := by decide +kernel
theorem dX8_minds_91 : decode cX8_minds 91 = .ok (.iaload, 1) := by decide +kernel
theorem dX8_minds_92 : decode cX8_minds 92 = .ok (.iconst (-1), 1) := by decide +kernel
theorem dX8_minds_93 : decode cX8_minds 93 = .ok (.if_icmp .ne 34, 3) := by decide +kernel
theorem dX8_minds_96 : decode cX8_minds 96 = .ok (.aload_n 0, 1) := by decide +kernel
theorem dX8_minds_97 : decode cX8_minds 97 = .ok (.getfield 7, 3) := by decide +kernel
theorem dX8_minds_100 : decode cX8_minds 100 = .ok (.iconst 3, 1) := by decide +kernel
theorem dX8_minds_101 : decode cX8_minds 101 = .ok (.iaload, 1) := by decide +kernel
theorem dX8_minds_102 : decode cX8_minds 102 = .ok (.aload_n 0, 1) := by decide +kernel
theorem dX8_minds_103 : decode cX8_minds 103 = .ok (.getfield 7, 3) := by decide +kernel
theorem dX8_minds_106 : decode cX8_minds 106 = .ok (.sipush 295, 3) := by decide +kernel
theorem dX8_minds_109 : decode cX8_minds 109 = .ok (.iload_n 1, 1) := by decide +kernel
theorem dX8_minds_110 : decode cX8_minds 110 = .ok (.iadd, 1) := by decide +kernel
theorem dX8_minds_111 : decode cX8_minds 111 = .ok (.iaload, 1) := by decide +kernel
theorem dX8_minds_112 : decode cX8_minds 112 = .ok (.isub, 1) := by decide +kernel
theorem dX8_minds_113 : decode cX8_minds 113 = .ok (.aload_n 0, 1) := by decide +kernel
theorem dX8_minds_114 : decode cX8_minds 114 = .ok (.getfield 7, 3) := by decide +kernel
theorem dX8_minds_117 : decode cX8_minds 117 = .ok (.iconst 5, 1) := by decide +kernel
theorem dX8_minds_118 : decode cX8_minds 118 = .ok (.iaload, 1) := by decide +kernel
theorem dX8_minds_119 : decode cX8_minds 119 = .ok (.if_icmp .lt 8, 3) := by decide +kernel
theorem dX8_minds_122 : decode cX8_minds 122 = .ok (.aload_n 0, 1) := by decide +kernel
theorem dX8_minds_123 : decode cX8_minds 123 = .ok (.iload_n 1, 1) := by decide +kernel
theorem dX8_minds_124 : decode cX8_minds 124 = .ok (.invokevirtual 116, 3) := by decide +kernel
theorem dX8_minds_127 : decode cX8_minds 127 = .ok (.iinc 1 1, 3) := by decide +kernel
theorem dX8_minds_130 : decode cX8_minds 130 = .ok (.goto (-128), 3) := by decide +kernel
theorem dX8_minds_133 : decode cX8_minds 133 = .ok (.return_, 1) := by decide +kernel
/-! BusLiftsModel.minds()V -/
noncomputable def f_X8_minds_133  (σ : Sg)  : Option Sg := some σ
noncomputable def f_X8_minds_127 (k2 : Sg → Int32 → Option Sg) (σ : Sg) (v1 : Int32) : Option Sg := k2 σ (v1 + 1)
noncomputable def f_X8_minds_82 (k2 : Sg → Int32 → Option Sg) (σ : Sg) (v1 : Int32) : Option Sg := if (247 + v1) < 0 ∨ 2111 ≤ ((247 + v1)).toNatClampNeg then none else (if (σ 30 0 ((247 + v1)).toNatClampNeg) = (-1) then (if (295 + v1) < 0 ∨ 2111 ≤ ((295 + v1)).toNatClampNeg then none else (if ((σ 30 0 3) - (σ 30 0 ((295 + v1)).toNatClampNeg)) < (σ 30 0 5) then (f_X8_minds_127 k2 σ v1) else (bv (f_X8_announces σ v1) fun σ1 => (f_X8_minds_127 k2 σ1 v1)))) else (f_X8_minds_127 k2 σ v1))
noncomputable def f_X8_minds_2  : Nat → Sg → Int32 → Option Sg
  | 0, _, _ => none
  | n + 1, σ, v1 => if (σ 30 0 2) ≤ v1 then (f_X8_minds_133 σ) else (if (127 + v1) < 0 ∨ 2111 ≤ ((127 + v1)).toNatClampNeg then none else (if (σ 30 0 ((127 + v1)).toNatClampNeg) = 1 then (if (247 + v1) < 0 ∨ 2111 ≤ ((247 + v1)).toNatClampNeg then none else (if (σ 30 0 ((247 + v1)).toNatClampNeg) = (-1) then (f_X8_minds_82 (f_X8_minds_2 n) σ v1) else (if (271 + v1) < 0 ∨ 2111 ≤ ((271 + v1)).toNatClampNeg then none else (if ((σ 30 0 3) - (σ 30 0 ((271 + v1)).toNatClampNeg)) < (10 * (σ 30 0 5)) then (f_X8_minds_82 (f_X8_minds_2 n) σ v1) else (if (247 + v1) < 0 ∨ 2111 ≤ ((247 + v1)).toNatClampNeg then none else (st (sup σ 30 0 ((247 + v1)).toNatClampNeg (-1)) fun σ1 => (f_X8_minds_82 (f_X8_minds_2 n) σ1 v1))))))) else (f_X8_minds_127 (f_X8_minds_2 n) σ v1)))
theorem f_X8_minds_2_s  (n : Nat) (σ : Sg) (v1 : Int32) : f_X8_minds_2  (n + 1) σ v1 = (if (σ 30 0 2) ≤ v1 then (f_X8_minds_133 σ) else (if (127 + v1) < 0 ∨ 2111 ≤ ((127 + v1)).toNatClampNeg then none else (if (σ 30 0 ((127 + v1)).toNatClampNeg) = 1 then (if (247 + v1) < 0 ∨ 2111 ≤ ((247 + v1)).toNatClampNeg then none else (if (σ 30 0 ((247 + v1)).toNatClampNeg) = (-1) then (f_X8_minds_82 (f_X8_minds_2 n) σ v1) else (if (271 + v1) < 0 ∨ 2111 ≤ ((271 + v1)).toNatClampNeg then none else (if ((σ 30 0 3) - (σ 30 0 ((271 + v1)).toNatClampNeg)) < (10 * (σ 30 0 5)) then (f_X8_minds_82 (f_X8_minds_2 n) σ v1) else (if (247 + v1) < 0 ∨ 2111 ≤ ((247 + v1)).toNatClampNeg then none else (st (sup σ 30 0 ((247 + v1)).toNatClampNeg (-1)) fun σ1 => (f_X8_minds_82 (f_X8_minds_2 n) σ1 v1))))))) else (f_X8_minds_127 (f_X8_minds_2 n) σ v1)))) := rfl
noncomputable def f_X8_minds  (σ : Sg)  : Option Sg := f_X8_minds_2 FU σ 0
set_option maxHeartbeats 4000000 in
set_option maxRecDepth 100000 in
theorem w_X8_minds_133 {p : Program} {l : Launch} {e : Env} {s : State} {m : MethodId} {args : Array Value} {below : List Frame} {meth : Method} {c : Code} {G : Gx} {ad : Ad} {res : Sg} (C : Cx p s m args meth c yX8_minds.cls cX8_minds 2 none G)  : ∀ (σ : Sg)  (H : Heap) (locs : List Loc) (ls : Array Slot), z_S 1 G ad σ (z_A 1 ad s.heap.size) s.heap H locs → lv_has ls 2 [] → f_X8_minds_133  σ  = some res → W p l e { frames := 2, cells := 0, slots := 0, locals := 46 } s m args below meth c H locs 0 0 (MQ below (va_Qv (S := Unit) (fun _ => True) (fun _ t => z_W 1 G ad res t.heap) (z_A 1 ad s.heap.size)) args s 0 0 (z_A 1 ad s.heap.size)) (F0 m 133 ls []) := by
  intro σ  H locs ls S hl  hf
  unfold f_X8_minds_133 at hf
  exact z_vret C S hf dX8_minds_133
set_option maxHeartbeats 4000000 in
set_option maxRecDepth 100000 in
theorem w_X8_minds_127 {p : Program} {l : Launch} {e : Env} {s : State} {m : MethodId} {args : Array Value} {below : List Frame} {meth : Method} {c : Code} {G : Gx} {ad : Ad} {res : Sg} (C : Cx p s m args meth c yX8_minds.cls cX8_minds 2 none G) (k2 : Sg → Int32 → Option Sg) (hk2 : ∀ (σ : Sg) (v1 : Int32) (H : Heap) (locs : List Loc) (ls : Array Slot), z_S 1 G ad σ (z_A 1 ad s.heap.size) s.heap H locs → lv_has ls 2 [(0, .ref (ad 8 0)), (1, .int v1)] → k2 σ v1 = some res → W p l e { frames := 2, cells := 0, slots := 0, locals := 46 } s m args below meth c H locs 0 0 (MQ below (va_Qv (S := Unit) (fun _ => True) (fun _ t => z_W 1 G ad res t.heap) (z_A 1 ad s.heap.size)) args s 0 0 (z_A 1 ad s.heap.size)) (F0 m 2 ls [])) : ∀ (σ : Sg) (v1 : Int32) (H : Heap) (locs : List Loc) (ls : Array Slot), z_S 1 G ad σ (z_A 1 ad s.heap.size) s.heap H locs → lv_has ls 2 [(0, .ref (ad 8 0)), (1, .int v1)] → f_X8_minds_127 k2 σ v1 = some res → W p l e { frames := 2, cells := 0, slots := 0, locals := 46 } s m args below meth c H locs 0 0 (MQ below (va_Qv (S := Unit) (fun _ => True) (fun _ t => z_W 1 G ad res t.heap) (z_A 1 ad s.heap.size)) args s 0 0 (z_A 1 ad s.heap.size)) (F0 m 127 ls []) := by
  intro σ v1 H locs ls S hl  hf
  unfold f_X8_minds_127 at hf
  refine lv_iinc (v := (v1 + 1)) (lv' := [(1, .int (v1 + 1)), (0, .ref (ad 8 0))]) C.1 C.2.1 dX8_minds_127 hl (k := 1) rfl rfl (by decide) rfl (fun ls hl => ?_)
  refine lv_goto (tgt := 2) C.1 C.2.1 dX8_minds_130 (by decide) ?_
  exact hk2 _ (v1 + 1) _ _ _ S (lv_sub hl [1, 0] rfl)  hf
set_option maxHeartbeats 4000000 in
set_option maxRecDepth 100000 in
theorem w_X8_minds_82 {p : Program} {l : Launch} {e : Env} {s : State} {m : MethodId} {args : Array Value} {below : List Frame} {meth : Method} {c : Code} {G : Gx} {ad : Ad} {res : Sg} (C : Cx p s m args meth c yX8_minds.cls cX8_minds 2 none G) (k2 : Sg → Int32 → Option Sg) (hk2 : ∀ (σ : Sg) (v1 : Int32) (H : Heap) (locs : List Loc) (ls : Array Slot), z_S 1 G ad σ (z_A 1 ad s.heap.size) s.heap H locs → lv_has ls 2 [(0, .ref (ad 8 0)), (1, .int v1)] → k2 σ v1 = some res → W p l e { frames := 2, cells := 0, slots := 0, locals := 46 } s m args below meth c H locs 0 0 (MQ below (va_Qv (S := Unit) (fun _ => True) (fun _ t => z_W 1 G ad res t.heap) (z_A 1 ad s.heap.size)) args s 0 0 (z_A 1 ad s.heap.size)) (F0 m 2 ls [])) : ∀ (σ : Sg) (v1 : Int32) (H : Heap) (locs : List Loc) (ls : Array Slot), z_S 1 G ad σ (z_A 1 ad s.heap.size) s.heap H locs → lv_has ls 2 [(0, .ref (ad 8 0)), (1, .int v1)] → f_X8_minds_82 k2 σ v1 = some res → W p l e { frames := 2, cells := 0, slots := 0, locals := 46 } s m args below meth c H locs 0 0 (MQ below (va_Qv (S := Unit) (fun _ => True) (fun _ t => z_W 1 G ad res t.heap) (z_A 1 ad s.heap.size)) args s 0 0 (z_A 1 ad s.heap.size)) (F0 m 82 ls []) := by
  intro σ v1 H locs ls S hl  hf
  unfold f_X8_minds_82 at hf
  refine lv_aload_n C.1 C.2.1 dX8_minds_82 rfl (lv_at hl 0 rfl) ?_
  refine z_getR C S 8 0 rfl (by decide) cf_8 0 (by decide) _ (gr_8_0 G ad 0) tw_6_118 dX8_minds_83 ?_
  refine lv_sipush (v := 247) C.1 C.2.1 dX8_minds_86 (by decide) ?_
  refine lv_iload_n C.1 C.2.1 dX8_minds_89 rfl (lv_at hl 1 rfl) ?_
  refine lv_iadd C.1 C.2.1 dX8_minds_90 ?_
  obtain ⟨g_91, hf⟩ := gd hf
  refine z_iald C S 30 0 rfl (by decide) 2111 (fun _ => rfl) g_91 dX8_minds_91 ?_
  refine lv_iconst (v := (-1)) C.1 C.2.1 dX8_minds_92 (by decide) ?_
  refine lv_icmp_ne (tgt := 127) C.1 C.2.1 dX8_minds_93 (by decide) (fun c_93 => ?_) (fun c_93 => ?_)
  · rw [if_neg c_93] at hf
    exact w_X8_minds_127 C k2 hk2 _ v1 _ _ _ S (lv_sub hl [0, 1] rfl) hf
  · rw [if_pos c_93] at hf
    refine lv_aload_n C.1 C.2.1 dX8_minds_96 rfl (lv_at hl 0 rfl) ?_
    refine z_getR C S 8 0 rfl (by decide) cf_8 0 (by decide) _ (gr_8_0 G ad 0) tw_6_118 dX8_minds_97 ?_
    refine lv_iconst (v := 3) C.1 C.2.1 dX8_minds_100 (by decide) ?_
    refine z_ialdL C S 30 0 rfl (by decide) 2111 (fun _ => rfl) 3 (by decide) (by decide) (by decide) dX8_minds_101 ?_
    refine lv_aload_n C.1 C.2.1 dX8_minds_102 rfl (lv_at hl 0 rfl) ?_
    refine z_getR C S 8 0 rfl (by decide) cf_8 0 (by decide) _ (gr_8_0 G ad 0) tw_6_118 dX8_minds_103 ?_
    refine lv_sipush (v := 295) C.1 C.2.1 dX8_minds_106 (by decide) ?_
    refine lv_iload_n C.1 C.2.1 dX8_minds_109 rfl (lv_at hl 1 rfl) ?_
    refine lv_iadd C.1 C.2.1 dX8_minds_110 ?_
    obtain ⟨g_111, hf⟩ := gd hf
    refine z_iald C S 30 0 rfl (by decide) 2111 (fun _ => rfl) g_111 dX8_minds_111 ?_
    refine lv_isub C.1 C.2.1 dX8_minds_112 ?_
    refine lv_aload_n C.1 C.2.1 dX8_minds_113 rfl (lv_at hl 0 rfl) ?_
    refine z_getR C S 8 0 rfl (by decide) cf_8 0 (by decide) _ (gr_8_0 G ad 0) tw_6_118 dX8_minds_114 ?_
    refine lv_iconst (v := 5) C.1 C.2.1 dX8_minds_117 (by decide) ?_
    refine z_ialdL C S 30 0 rfl (by decide) 2111 (fun _ => rfl) 5 (by decide) (by decide) (by decide) dX8_minds_118 ?_
    refine lv_icmp_lt (tgt := 127) C.1 C.2.1 dX8_minds_119 (by decide) (fun c_119 => ?_) (fun c_119 => ?_)
    · rw [if_pos c_119] at hf
      exact w_X8_minds_127 C k2 hk2 _ v1 _ _ _ S (lv_sub hl [0, 1] rfl) hf
    · rw [if_neg c_119] at hf
      refine lv_aload_n C.1 C.2.1 dX8_minds_122 rfl (lv_at hl 0 rfl) ?_
      refine lv_iload_n C.1 C.2.1 dX8_minds_123 rfl (lv_at hl 1 rfl) ?_
      obtain ⟨σ1, q_124, hf⟩ := bvb hf
      refine z_callV C S 8 0 rfl (by decide) cf_8 ⟨_, rfl⟩ [.int v1] (m_X8_announces l G ad σ v1 σ1 q_124 _) kv_X8_announces tw_7_202 ⟨Nat.le_of_ble_eq_true rfl, Nat.le_of_ble_eq_true rfl⟩ rfl rfl (Nat.le_of_ble_eq_true rfl) hl.1 ⟨Nat.le_of_ble_eq_true rfl, Nat.le_of_ble_eq_true rfl⟩ dX8_minds_124 (fun H locs S => ?_)
      exact w_X8_minds_127 C k2 hk2 _ v1 _ _ _ S (lv_sub hl [0, 1] rfl) hf
set_option maxHeartbeats 4000000 in
set_option maxRecDepth 100000 in
theorem w_X8_minds_2 {p : Program} {l : Launch} {e : Env} {s : State} {m : MethodId} {args : Array Value} {below : List Frame} {meth : Method} {c : Code} {G : Gx} {ad : Ad} {res : Sg} (C : Cx p s m args meth c yX8_minds.cls cX8_minds 2 none G)  : ∀ n : Nat, ∀ (σ : Sg) (v1 : Int32) (H : Heap) (locs : List Loc) (ls : Array Slot), z_S 1 G ad σ (z_A 1 ad s.heap.size) s.heap H locs → lv_has ls 2 [(0, .ref (ad 8 0)), (1, .int v1)] → f_X8_minds_2  n σ v1 = some res → W p l e { frames := 2, cells := 0, slots := 0, locals := 46 } s m args below meth c H locs 0 0 (MQ below (va_Qv (S := Unit) (fun _ => True) (fun _ t => z_W 1 G ad res t.heap) (z_A 1 ad s.heap.size)) args s 0 0 (z_A 1 ad s.heap.size)) (F0 m 2 ls []) := by
  intro n
  induction n with
  | zero => intro σ v1 H locs ls S hl  hf; cases hf
  | succ n ih =>
    intro σ v1 H locs ls S hl  hf
    rw [f_X8_minds_2_s] at hf
    refine lv_iload_n C.1 C.2.1 dX8_minds_2 rfl (lv_at hl 1 rfl) ?_
    refine lv_aload_n C.1 C.2.1 dX8_minds_3 rfl (lv_at hl 0 rfl) ?_
    refine z_getR C S 8 0 rfl (by decide) cf_8 0 (by decide) _ (gr_8_0 G ad 0) tw_6_118 dX8_minds_4 ?_
    refine lv_iconst (v := 2) C.1 C.2.1 dX8_minds_7 (by decide) ?_
    refine z_ialdL C S 30 0 rfl (by decide) 2111 (fun _ => rfl) 2 (by decide) (by decide) (by decide) dX8_minds_8 ?_
    refine lv_icmp_ge (tgt := 133) C.1 C.2.1 dX8_minds_9 (by decide) (fun c_9 => ?_) (fun c_9 => ?_)
    · rw [if_pos c_9] at hf
      exact w_X8_minds_133 C _ _ _ _ S (lv_sub hl [] rfl) hf
    · rw [if_neg c_9] at hf
      refine lv_aload_n C.1 C.2.1 dX8_minds_12 rfl (lv_at hl 0 rfl) ?_
      refine z_getR C S 8 0 rfl (by decide) cf_8 0 (by decide) _ (gr_8_0 G ad 0) tw_6_118 dX8_minds_13 ?_
      refine lv_bipush (v := 127) C.1 C.2.1 dX8_minds_16 (by decide) ?_
      refine lv_iload_n C.1 C.2.1 dX8_minds_18 rfl (lv_at hl 1 rfl) ?_
      refine lv_iadd C.1 C.2.1 dX8_minds_19 ?_
      obtain ⟨g_20, hf⟩ := gd hf
      refine z_iald C S 30 0 rfl (by decide) 2111 (fun _ => rfl) g_20 dX8_minds_20 ?_
      refine lv_iconst (v := 1) C.1 C.2.1 dX8_minds_21 (by decide) ?_
      refine lv_icmp_eq (tgt := 28) C.1 C.2.1 dX8_minds_22 (by decide) (fun c_22 => ?_) (fun c_22 => ?_)
      · rw [if_pos c_22] at hf
        refine lv_aload_n C.1 C.2.1 dX8_minds_28 rfl (lv_at hl 0 rfl) ?_
        refine z_getR C S 8 0 rfl (by decide) cf_8 0 (by decide) _ (gr_8_0 G ad 0) tw_6_118 dX8_minds_29 ?_
        refine lv_sipush (v := 247) C.1 C.2.1 dX8_minds_32 (by decide) ?_
        refine lv_iload_n C.1 C.2.1 dX8_minds_35 rfl (lv_at hl 1 rfl) ?_
        refine lv_iadd C.1 C.2.1 dX8_minds_36 ?_
        obtain ⟨g_37, hf⟩ := gd hf
        refine z_iald C S 30 0 rfl (by decide) 2111 (fun _ => rfl) g_37 dX8_minds_37 ?_
        refine lv_iconst (v := (-1)) C.1 C.2.1 dX8_minds_38 (by decide) ?_
        refine lv_icmp_eq (tgt := 82) C.1 C.2.1 dX8_minds_39 (by decide) (fun c_39 => ?_) (fun c_39 => ?_)
        · rw [if_pos c_39] at hf
          exact w_X8_minds_82 C (f_X8_minds_2 n) ih _ v1 _ _ _ S (lv_sub hl [0, 1] rfl) hf
        · rw [if_neg c_39] at hf
          refine lv_aload_n C.1 C.2.1 dX8_minds_42 rfl (lv_at hl 0 rfl) ?_
          refine z_getR C S 8 0 rfl (by decide) cf_8 0 (by decide) _ (gr_8_0 G ad 0) tw_6_118 dX8_minds_43 ?_
          refine lv_iconst (v := 3) C.1 C.2.1 dX8_minds_46 (by decide) ?_
          refine z_ialdL C S 30 0 rfl (by decide) 2111 (fun _ => rfl) 3 (by decide) (by decide) (by decide) dX8_minds_47 ?_
          refine lv_aload_n C.1 C.2.1 dX8_minds_48 rfl (lv_at hl 0 rfl) ?_
          refine z_getR C S 8 0 rfl (by decide) cf_8 0 (by decide) _ (gr_8_0 G ad 0) tw_6_118 dX8_minds_49 ?_
          refine lv_sipush (v := 271) C.1 C.2.1 dX8_minds_52 (by decide) ?_
          refine lv_iload_n C.1 C.2.1 dX8_minds_55 rfl (lv_at hl 1 rfl) ?_
          refine lv_iadd C.1 C.2.1 dX8_minds_56 ?_
          obtain ⟨g_57, hf⟩ := gd hf
          refine z_iald C S 30 0 rfl (by decide) 2111 (fun _ => rfl) g_57 dX8_minds_57 ?_
          refine lv_isub C.1 C.2.1 dX8_minds_58 ?_
          refine lv_bipush (v := 10) C.1 C.2.1 dX8_minds_59 (by decide) ?_
          refine lv_aload_n C.1 C.2.1 dX8_minds_61 rfl (lv_at hl 0 rfl) ?_
          refine z_getR C S 8 0 rfl (by decide) cf_8 0 (by decide) _ (gr_8_0 G ad 0) tw_6_118 dX8_minds_62 ?_
          refine lv_iconst (v := 5) C.1 C.2.1 dX8_minds_65 (by decide) ?_
          refine z_ialdL C S 30 0 rfl (by decide) 2111 (fun _ => rfl) 5 (by decide) (by decide) (by decide) dX8_minds_66 ?_
          refine lv_imul C.1 C.2.1 dX8_minds_67 ?_
          refine lv_icmp_lt (tgt := 82) C.1 C.2.1 dX8_minds_68 (by decide) (fun c_68 => ?_) (fun c_68 => ?_)
          · rw [if_pos c_68] at hf
            exact w_X8_minds_82 C (f_X8_minds_2 n) ih _ v1 _ _ _ S (lv_sub hl [0, 1] rfl) hf
          · rw [if_neg c_68] at hf
            refine lv_aload_n C.1 C.2.1 dX8_minds_71 rfl (lv_at hl 0 rfl) ?_
            refine z_getR C S 8 0 rfl (by decide) cf_8 0 (by decide) _ (gr_8_0 G ad 0) tw_6_118 dX8_minds_72 ?_
            refine lv_sipush (v := 247) C.1 C.2.1 dX8_minds_75 (by decide) ?_
            refine lv_iload_n C.1 C.2.1 dX8_minds_78 rfl (lv_at hl 1 rfl) ?_
            refine lv_iadd C.1 C.2.1 dX8_minds_79 ?_
            refine lv_iconst (v := (-1)) C.1 C.2.1 dX8_minds_80 (by decide) ?_
            obtain ⟨g_81, hf⟩ := gd hf
            obtain ⟨σ1, e_81, hf⟩ := stb hf
            refine z_iast C S 30 0 rfl (by decide) 2111 (fun _ => rfl) g_81 dX8_minds_81 (fun H locs S => ?_)
            rw [← e_81] at S
            exact w_X8_minds_82 C (f_X8_minds_2 n) ih _ v1 _ _ _ S (lv_sub hl [0, 1] rfl) hf
      · rw [if_neg c_22] at hf
        refine lv_goto (tgt := 127) C.1 C.2.1 dX8_minds_25 (by decide) ?_
        exact w_X8_minds_127 C (f_X8_minds_2 n) ih _ v1 _ _ _ S (lv_sub hl [0, 1] rfl) hf
set_option maxHeartbeats 4000000 in
set_option maxRecDepth 100000 in
theorem w_X8_minds_0 {p : Program} {l : Launch} {e : Env} {s : State} {m : MethodId} {args : Array Value} {below : List Frame} {meth : Method} {c : Code} {G : Gx} {ad : Ad} {res : Sg} (C : Cx p s m args meth c yX8_minds.cls cX8_minds 2 none G)  : ∀ (σ : Sg)  (H : Heap) (locs : List Loc) (ls : Array Slot), z_S 1 G ad σ (z_A 1 ad s.heap.size) s.heap H locs → lv_has ls 2 [(0, .ref (ad 8 0))] → f_X8_minds  σ  = some res → W p l e { frames := 2, cells := 0, slots := 0, locals := 46 } s m args below meth c H locs 0 0 (MQ below (va_Qv (S := Unit) (fun _ => True) (fun _ t => z_W 1 G ad res t.heap) (z_A 1 ad s.heap.size)) args s 0 0 (z_A 1 ad s.heap.size)) (F0 m 0 ls []) := by
  intro σ  H locs ls S hl  hf
  unfold f_X8_minds at hf
  refine lv_iconst (v := 0) C.1 C.2.1 dX8_minds_0 (by decide) ?_
  refine lv_istore_n (lv' := [(1, .int 0), (0, .ref (ad 8 0))]) C.1 C.2.1 dX8_minds_1 rfl hl (by decide) rfl (fun ls hl => ?_)
  exact w_X8_minds_2 C FU _ 0 _ _ _ S (lv_sub hl [1, 0] rfl) hf
theorem kv_X8_minds : KV yX8_minds cX8_minds 2 none 0 := ⟨tw_8_1, tw_8_0, tw_p_86, tw_1_10, by decide, by decide, by decide +kernel⟩
theorem m_X8_minds (l : Launch) (G : Gx) (ad : Ad) (σ : Sg)  (σ' : Sg)  (hf : f_X8_minds σ  = some σ') (sz : Nat) : z_MV l yX8_minds cX8_minds 2 none 2 46 1 G ad σ sz [.ref (ad 8 0)] σ' := by
  refine z_begin (by decide +kernel) (Nat.le_of_ble_eq_true rfl) [(0, .ref (ad 8 0))] rfl (fun p e s m args below meth c ls C hz S hl => ?_)
  subst hz
  exact w_X8_minds_0 (res := σ') C σ  _ _ _ S hl  hf

theorem dX8_decides_0 : decode cX8_decides 0 = .ok (.iconst 0, 1) := by decide +kernel
theorem dX8_decides_1 : decode cX8_decides 1 = .ok (.istore_n 2, 1) := by decide +kernel
theorem dX8_decides_2 : decode cX8_decides 2 = .ok (.iload_n 2, 1) := by decide +kernel
theorem dX8_decides_3 : decode cX8_decides 3 = .ok (.aload_n 0, 1) := by decide +kernel
theorem dX8_decides_4 : decode cX8_decides 4 = .ok (.getfield 7, 3) := by decide +kernel
theorem dX8_decides_7 : decode cX8_decides 7 = .ok (.iconst 2, 1) := by decide +kernel
theorem dX8_decides_8 : decode cX8_decides 8 = .ok (.iaload, 1) := by decide +kernel
theorem dX8_decides_9 : decode cX8_decides 9 = .ok (.if_icmp .ge 167, 3) := by decide +kernel
theorem dX8_decides_12 : decode cX8_decides 12 = .ok (.aload_n 0, 1) := by decide +kernel
theorem dX8_decides_13 : decode cX8_decides 13 = .ok (.getfield 7, 3) := by decide +kernel
theorem dX8_decides_16 : decode cX8_decides 16 = .ok (.sipush 511, 3) := by decide +kernel
theorem dX8_decides_19 : decode cX8_decides 19 = .ok (.iload_n 1, 1) := by decide +kernel
theorem dX8_decides_20 : decode cX8_decides 20 = .ok (.iload_n 2, 1) := by decide +kernel
theorem dX8_decides_21 : decode cX8_decides 21 = .ok (.invokestatic 65, 3) := by decide +kernel
theorem dX8_decides_24 : decode cX8_decides 24 = .ok (.iaload, 1) := by decide +kernel
theorem dX8_decides_25 : decode cX8_decides 25 = .ok (.aload_n 0, 1) := by decide +kernel
theorem dX8_decides_26 : decode cX8_decides 26 = .ok (.getfield 7, 3) := by decide +kernel
theorem dX8_decides_29 : decode cX8_decides 29 = .ok (.iconst 3, 1) := by decide +kernel
theorem dX8_decides_30 : decode cX8_decides 30 = .ok (.iaload, 1) := by decide +kernel
theorem dX8_decides_31 : decode cX8_decides 31 = .ok (.if_icmp .eq 6, 3) := by decide +kernel
theorem dX8_decides_34 : decode cX8_decides 34 = .ok (.goto 136, 3) := by decide +kernel
theorem dX8_decides_37 : decode cX8_decides 37 = .ok (.aload_n 0, 1) := by decide +kernel
theorem dX8_decides_38 : decode cX8_decides 38 = .ok (.getfield 7, 3) := by decide +kernel
theorem dX8_decides_41 : decode cX8_decides 41 = .ok (.sipush 511, 3) := by decide +kernel
theorem dX8_decides_44 : decode cX8_decides 44 = .ok (.iload_n 1, 1) := by decide +kernel
theorem dX8_decides_45 : decode cX8_decides 45 = .ok (.iload_n 2, 1) := by decide +kernel
theorem dX8_decides_46 : decode cX8_decides 46 = .ok (.invokestatic 65, 3) := by decide +kernel
theorem dX8_decides_49 : decode cX8_decides 49 = .ok (.iconst (-1), 1) := by decide +kernel
theorem dX8_decides_50 : decode cX8_decides 50 = .ok (.iastore, 1) := by decide +kernel
theorem dX8_decides_51 : decode cX8_decides 51 = .ok (.aload_n 0, 1) := by decide +kernel
theorem dX8_decides_52 : decode cX8_decides 52 = .ok (.getfield 7, 3) := by decide +kernel
theorem dX8_decides_55 : decode cX8_decides 55 = .ok (.bipush 127, 2) := by decide +kernel
theorem dX8_decides_57 : decode cX8_decides 57 = .ok (.iload_n 2, 1) := by decide +kernel
theorem dX8_decides_58 : decode cX8_decides 58 = .ok (.iadd, 1) := by decide +kernel
theorem dX8_decides_59 : decode cX8_decides 59 = .ok (.iaload, 1) := by decide +kernel
theorem dX8_decides_60 : decode cX8_decides 60 = .ok (.iconst 1, 1) := by decide +kernel
theorem dX8_decides_61 : decode cX8_decides 61 = .ok (.if_icmp .ne 7, 3) := by decide +kernel
theorem dX8_decides_64 : decode cX8_decides 64 = .ok (.iconst 1, 1) := by decide +kernel
theorem dX8_decides_65 : decode cX8_decides 65 = .ok (.goto 4, 3) := by decide +kernel
theorem dX8_decides_68 : decode cX8_decides 68 = .ok (.iconst 0, 1) := by decide +kernel
theorem dX8_decides_69 : decode cX8_decides 69 = .ok (.istore_n 3, 1) := by decide +kernel
theorem dX8_decides_70 : decode cX8_decides 70 = .ok (.aload_n 0, 1) := by decide +kernel
theorem dX8_decides_71 : decode cX8_decides 71 = .ok (.getfield 7, 3) := by decide +kernel
theorem dX8_decides_74 : decode cX8_decides 74 = .ok (.sipush 415, 3) := by decide +kernel
theorem dX8_decides_77 : decode cX8_decides 77 = .ok (.iload_n 1, 1) := by decide +kernel
theorem dX8_decides_78 : decode cX8_decides 78 = .ok (.iload_n 2, 1) := by decide +kernel
theorem dX8_decides_79 : decode cX8_decides 79 = .ok (.invokestatic 65, 3) := by decide +kernel
theorem dX8_decides_82 : decode cX8_decides 82 = .ok (.iaload, 1) := by decide +kernel
theorem dX8_decides_83 : decode cX8_decides 83 = .ok (.istore 4, 2) := by decide +kernel
theorem dX8_decides_85 : decode cX8_decides 85 = .ok (.iconst 0, 1) := by decide +kernel
theorem dX8_decides_86 : decode cX8_decides 86 = .ok (.istore 5, 2) := by decide +kernel
theorem dX8_decides_88 : decode cX8_decides 88 = .ok (.iload 5, 2) := by decide +kernel
theorem dX8_decides_90 : decode cX8_decides 90 = .ok (.aload_n 0, 1) := by decide +kernel
theorem dX8_decides_91 : decode cX8_decides 91 = .ok (.getfield 7, 3) := by decide +kernel
theorem dX8_decides_94 : decode cX8_decides 94 = .ok (.iconst 1, 1) := by decide +kernel
theorem dX8_decides_95 : decode cX8_decides 95 = .ok (.iaload, 1) := by decide +kernel
theorem dX8_decides_96 : decode cX8_decides 96 = .ok (.if_icmp .ge 44, 3) := by decide +kernel
theorem dX8_decides_99 : decode cX8_decides 99 = .ok (.aload_n 0, 1) := by decide +kernel
theorem dX8_decides_100 : decode cX8_decides 100 = .ok (.getfield 7, 3) := by decide +kernel
theorem dX8_decides_103 : decode cX8_decides 103 = .ok (.iload_n 1, 1) := by decide +kernel
theorem dX8_decides_104 : decode cX8_decides 104 = .ok (.iload_n 2, 1) := by decide +kernel
theorem dX8_decides_105 : decode cX8_decides 105 = .ok (.iload 5, 2) := by decide +kernel
theorem dX8_decides_107 : decode cX8_decides 107 = .ok (.invokestatic 61, 3) := by decide +kernel
theorem dX8_decides_110 : decode cX8_decides 110 = .ok (.iaload, 1) := by decide +kernel
theorem dX8_decides_111 : decode cX8_decides 111 = .ok (.istore 6, 2) := by decide +kernel
theorem dX8_decides_113 : decode cX8_decides 113 = .ok (.iload 6, 2) := by decide +kernel
theorem dX8_decides_115 : decode cX8_decides 115 = .ok (.iconst (-1), 1) := by decide +kernel
theorem dX8_decides_116 : decode cX8_decides 116 = .ok (.if_icmp .eq 18, 3) := by decide +kernel
theorem dX8_decides_119 : decode cX8_decides 119 = .ok (.iload 6, 2) := by decide +kernel
theorem dX8_decides_121 : decode cX8_decides 121 = .ok (.iload 5, 2) := by decide +kernel
theorem dX8_decides_123 : decode cX8_decides 123 = .ok (.iload 4, 2) := by decide +kernel
theorem dX8_decides_125 : decode cX8_decides 125 = .ok (.iload_n 1, 1) := by decide +kernel
theorem dX8_decides_126 : decode cX8_decides 126 = .ok (.invokestatic 105, 3) := by decide +kernel
theorem dX8_decides_129 : decode cX8_decides 129 = .ok (.ifCond .eq 5, 3) := by decide +kernel
theorem dX8_decides_132 : decode cX8_decides 132 = .ok (.iconst 0, 1) := by decide +kernel
theorem dX8_decides_133 : decode cX8_decides 133 = .ok (.istore_n 3, 1) := by decide +kernel
theorem dX8_decides_134 : decode cX8_decides 134 = .ok (.iinc 5 1, 3) := by decide +kernel
theorem dX8_decides_137 : decode cX8_decides 137 = .ok (.goto (-49), 3) := by decide +kernel
theorem dX8_decides_140 : decode cX8_decides 140 = .ok (.iload_n 3, 1) := by decide +kernel
theorem dX8_decides_141 : decode cX8_decides 141 = .ok (.ifCond .ne 6, 3) := by decide +kernel
theorem dX8_decides_144 : decode cX8_decides 144 = .ok (.goto 26, 3) := by decide +kernel
theorem dX8_decides_147 : decode cX8_decides 147 = .ok (.aload_n 0, 1) := by decide +kernel
theorem dX8_decides_148 : decode cX8_decides 148 = .ok (.getfield 7, 3) := by decide +kernel
theorem dX8_decides_151 : decode cX8_decides 151 = .ok (.sipush 319, 3) := by decide +kernel
theorem dX8_decides_154 : decode cX8_decides 154 = .ok (.iload_n 1, 1) := by decide +kernel
theorem dX8_decides_155 : decode cX8_decides 155 = .ok (.iload_n 2, 1) := by decide +kernel
theorem dX8_decides_156 : decode cX8_decides 156 = .ok (.invokestatic 65, 3) := by decide +kernel
theorem dX8_decides_159 : decode cX8_decides 159 = .ok (.iconst 1, 1) := by decide +kernel
theorem dX8_decides_160 : decode cX8_decides 160 = .ok (.iastore, 1) := by decide +kernel
theorem dX8_decides_161 : decode cX8_decides 161 = .ok (.aload_n 0, 1) := by decide +kernel
theorem dX8_decides_162 : decode cX8_decides 162 = .ok (.iconst 2, 1) := by decide +kernel
theorem dX8_decides_163 : decode cX8_decides 163 = .ok (.iload_n 2, 1) := by decide +kernel
theorem dX8_decides_164 : decode cX8_decides 164 = .ok (.iload_n 1, 1) := by decide +kernel
theorem dX8_decides_165 : decode cX8_decides 165 = .ok (.iload 4, 2) := by decide +kernel
theorem dX8_decides_167 : decode cX8_decides 167 = .ok (.invokevirtual 95, 3) := by decide +kernel
theorem dX8_decides_170 : decode cX8_decides 170 = .ok (.iinc 2 1, 3) := by decide +kernel
theorem dX8_decides_173 : decode cX8_decides 173 = .ok (.goto (-171), 3) := by decide +kernel
theorem dX8_decides_176 : decode cX8_decides 176 = .ok (.return_, 1) := by decide +kernel
/-! BusLiftsModel.decides(I)V -/
noncomputable def f_X8_decides_176  (σ : Sg)  : Option Sg := some σ
noncomputable def f_X8_decides_170 (k2 : Sg → Int32 → Int32 → Option Sg) (σ : Sg) (v1 : Int32) (v2 : Int32) : Option Sg := k2 σ v1 (v2 + 1)
noncomputable def f_X8_decides_140 (k2 : Sg → Int32 → Int32 → Option Sg) (σ : Sg) (v1 : Int32) (v2 : Int32) (v3 : Int32) (v4 : Int32) : Option Sg := if v3 = 0 then (f_X8_decides_170 k2 σ v1 v2) else (bi (f_X8_of σ 319 v1 v2) fun r2 σ1 => (if r2 < 0 ∨ 2111 ≤ (r2).toNatClampNeg then none else (st (sup σ1 30 0 (r2).toNatClampNeg 1) fun σ3 => (bv (f_X8_sends σ3 2 v2 v1 v4) fun σ4 => (f_X8_decides_170 k2 σ4 v1 v2)))))
noncomputable def f_X8_decides_134 (k2 : Sg → Int32 → Int32 → Option Sg) (k88 : Sg → Int32 → Int32 → Int32 → Int32 → Int32 → Option Sg) (σ : Sg) (v1 : Int32) (v2 : Int32) (v3 : Int32) (v4 : Int32) (v5 : Int32) : Option Sg := k88 σ v1 v2 v3 v4 (v5 + 1)
noncomputable def f_X8_decides_88 (k2 : Sg → Int32 → Int32 → Option Sg) : Nat → Sg → Int32 → Int32 → Int32 → Int32 → Int32 → Option Sg
  | 0, _, _, _, _, _, _ => none
  | n + 1, σ, v1, v2, v3, v4, v5 => if (σ 30 0 1) ≤ v5 then (f_X8_decides_140 k2 σ v1 v2 v3 v4) else (bi (f_X8_notedAt σ v1 v2 v5) fun r2 σ1 => (if r2 < 0 ∨ 2111 ≤ (r2).toNatClampNeg then none else (if (σ1 30 0 (r2).toNatClampNeg) = (-1) then (f_X8_decides_134 k2 (f_X8_decides_88 k2 n) σ1 v1 v2 v3 v4 v5) else (bi (f_X8_isBefore σ1 (σ1 30 0 (r2).toNatClampNeg) v5 v4 v1) fun r4 σ3 => (if r4 = 0 then (f_X8_decides_134 k2 (f_X8_decides_88 k2 n) σ3 v1 v2 v3 v4 v5) else (f_X8_decides_134 k2 (f_X8_decides_88 k2 n) σ3 v1 v2 0 v4 v5))))))
theorem f_X8_decides_88_s (k2 : Sg → Int32 → Int32 → Option Sg) (n : Nat) (σ : Sg) (v1 : Int32) (v2 : Int32) (v3 : Int32) (v4 : Int32) (v5 : Int32) : f_X8_decides_88 k2 (n + 1) σ v1 v2 v3 v4 v5 = (if (σ 30 0 1) ≤ v5 then (f_X8_decides_140 k2 σ v1 v2 v3 v4) else (bi (f_X8_notedAt σ v1 v2 v5) fun r2 σ1 => (if r2 < 0 ∨ 2111 ≤ (r2).toNatClampNeg then none else (if (σ1 30 0 (r2).toNatClampNeg) = (-1) then (f_X8_decides_134 k2 (f_X8_decides_88 k2 n) σ1 v1 v2 v3 v4 v5) else (bi (f_X8_isBefore σ1 (σ1 30 0 (r2).toNatClampNeg) v5 v4 v1) fun r4 σ3 => (if r4 = 0 then (f_X8_decides_134 k2 (f_X8_decides_88 k2 n) σ3 v1 v2 v3 v4 v5) else (f_X8_decides_134 k2 (f_X8_decides_88 k2 n) σ3 v1 v2 0 v4 v5))))))) := rfl
noncomputable def f_X8_decides_69 (k2 : Sg → Int32 → Int32 → Option Sg) (σ : Sg) (v1 : Int32) (v2 : Int32) (v100 : Int32) : Option Sg := bi (f_X8_of σ 415 v1 v2) fun r2 σ1 => (if r2 < 0 ∨ 2111 ≤ (r2).toNatClampNeg then none else (f_X8_decides_88 k2 FU σ1 v1 v2 v100 (σ1 30 0 (r2).toNatClampNeg) 0))
noncomputable def f_X8_decides_2  : Nat → Sg → Int32 → Int32 → Option Sg
  | 0, _, _, _ => none
  | n + 1, σ, v1, v2 => if (σ 30 0 2) ≤ v2 then (f_X8_decides_176 σ) else (bi (f_X8_of σ 511 v1 v2) fun r2 σ1 => (if r2 < 0 ∨ 2111 ≤ (r2).toNatClampNeg then none else (if (σ1 30 0 (r2).toNatClampNeg) = (σ1 30 0 3) then (bi (f_X8_of σ1 511 v1 v2) fun r4 σ3 => (if r4 < 0 ∨ 2111 ≤ (r4).toNatClampNeg then none else (st (sup σ3 30 0 (r4).toNatClampNeg (-1)) fun σ5 => (if (127 + v2) < 0 ∨ 2111 ≤ ((127 + v2)).toNatClampNeg then none else (if (σ5 30 0 ((127 + v2)).toNatClampNeg) = 1 then (f_X8_decides_69 (f_X8_decides_2 n) σ5 v1 v2 1) else (f_X8_decides_69 (f_X8_decides_2 n) σ5 v1 v2 0)))))) else (f_X8_decides_170 (f_X8_decides_2 n) σ1 v1 v2))))
theorem f_X8_decides_2_s  (n : Nat) (σ : Sg) (v1 : Int32) (v2 : Int32) : f_X8_decides_2  (n + 1) σ v1 v2 = (if (σ 30 0 2) ≤ v2 then (f_X8_decides_176 σ) else (bi (f_X8_of σ 511 v1 v2) fun r2 σ1 => (if r2 < 0 ∨ 2111 ≤ (r2).toNatClampNeg then none else (if (σ1 30 0 (r2).toNatClampNeg) = (σ1 30 0 3) then (bi (f_X8_of σ1 511 v1 v2) fun r4 σ3 => (if r4 < 0 ∨ 2111 ≤ (r4).toNatClampNeg then none else (st (sup σ3 30 0 (r4).toNatClampNeg (-1)) fun σ5 => (if (127 + v2) < 0 ∨ 2111 ≤ ((127 + v2)).toNatClampNeg then none else (if (σ5 30 0 ((127 + v2)).toNatClampNeg) = 1 then (f_X8_decides_69 (f_X8_decides_2 n) σ5 v1 v2 1) else (f_X8_decides_69 (f_X8_decides_2 n) σ5 v1 v2 0)))))) else (f_X8_decides_170 (f_X8_decides_2 n) σ1 v1 v2))))) := rfl
noncomputable def f_X8_decides  (σ : Sg) (v1 : Int32) : Option Sg := f_X8_decides_2 FU σ v1 0
set_option maxHeartbeats 4000000 in
set_option maxRecDepth 100000 in
theorem w_X8_decides_176 {p : Program} {l : Launch} {e : Env} {s : State} {m : MethodId} {args : Array Value} {below : List Frame} {meth : Method} {c : Code} {G : Gx} {ad : Ad} {res : Sg} (C : Cx p s m args meth c yX8_decides.cls cX8_decides 7 none G)  : ∀ (σ : Sg)  (H : Heap) (locs : List Loc) (ls : Array Slot), z_S 1 G ad σ (z_A 1 ad s.heap.size) s.heap H locs → lv_has ls 7 [] → f_X8_decides_176  σ  = some res → W p l e { frames := 1, cells := 0, slots := 0, locals := 25 } s m args below meth c H locs 0 0 (MQ below (va_Qv (S := Unit) (fun _ => True) (fun _ t => z_W 1 G ad res t.heap) (z_A 1 ad s.heap.size)) args s 0 0 (z_A 1 ad s.heap.size)) (F0 m 176 ls []) := by
  intro σ  H locs ls S hl  hf
  unfold f_X8_decides_176 at hf
  exact z_vret C S hf dX8_decides_176
set_option maxHeartbeats 4000000 in
set_option maxRecDepth 100000 in
theorem w_X8_decides_170 {p : Program} {l : Launch} {e : Env} {s : State} {m : MethodId} {args : Array Value} {below : List Frame} {meth : Method} {c : Code} {G : Gx} {ad : Ad} {res : Sg} (C : Cx p s m args meth c yX8_decides.cls cX8_decides 7 none G) (k2 : Sg → Int32 → Int32 → Option Sg) (hk2 : ∀ (σ : Sg) (v1 : Int32) (v2 : Int32) (H : Heap) (locs : List Loc) (ls : Array Slot), z_S 1 G ad σ (z_A 1 ad s.heap.size) s.heap H locs → lv_has ls 7 [(0, .ref (ad 8 0)), (1, .int v1), (2, .int v2)] → k2 σ v1 v2 = some res → W p l e { frames := 1, cells := 0, slots := 0, locals := 25 } s m args below meth c H locs 0 0 (MQ below (va_Qv (S := Unit) (fun _ => True) (fun _ t => z_W 1 G ad res t.heap) (z_A 1 ad s.heap.size)) args s 0 0 (z_A 1 ad s.heap.size)) (F0 m 2 ls [])) : ∀ (σ : Sg) (v1 : Int32) (v2 : Int32) (H : Heap) (locs : List Loc) (ls : Array Slot), z_S 1 G ad σ (z_A 1 ad s.heap.size) s.heap H locs → lv_has ls 7 [(0, .ref (ad 8 0)), (1, .int v1), (2, .int v2)] → f_X8_decides_170 k2 σ v1 v2 = some res → W p l e { frames := 1, cells := 0, slots := 0, locals := 25 } s m args below meth c H locs 0 0 (MQ below (va_Qv (S := Unit) (fun _ => True) (fun _ t => z_W 1 G ad res t.heap) (z_A 1 ad s.heap.size)) args s 0 0 (z_A 1 ad s.heap.size)) (F0 m 170 ls []) := by
  intro σ v1 v2 H locs ls S hl  hf
  unfold f_X8_decides_170 at hf
  refine lv_iinc (v := (v2 + 1)) (lv' := [(2, .int (v2 + 1)), (0, .ref (ad 8 0)), (1, .int v1)]) C.1 C.2.1 dX8_decides_170 hl (k := 2) rfl rfl (by decide) rfl (fun ls hl => ?_)
  refine lv_goto (tgt := 2) C.1 C.2.1 dX8_decides_173 (by decide) ?_
  exact hk2 _ v1 (v2 + 1) _ _ _ S (lv_sub hl [1, 2, 0] rfl)  hf
set_option maxHeartbeats 4000000 in
set_option maxRecDepth 100000 in
theorem w_X8_decides_140 {p : Program} {l : Launch} {e : Env} {s : State} {m : MethodId} {args : Array Value} {below : List Frame} {meth : Method} {c : Code} {G : Gx} {ad : Ad} {res : Sg} (C : Cx p s m args meth c yX8_decides.cls cX8_decides 7 none G) (k2 : Sg → Int32 → Int32 → Option Sg) (hk2 : ∀ (σ : Sg) (v1 : Int32) (v2 : Int32) (H : Heap) (locs : List Loc) (ls : Array Slot), z_S 1 G ad σ (z_A 1 ad s.heap.size) s.heap H locs → lv_has ls 7 [(0, .ref (ad 8 0)), (1, .int v1), (2, .int v2)] → k2 σ v1 v2 = some res → W p l e { frames := 1, cells := 0, slots := 0, locals := 25 } s m args below meth c H locs 0 0 (MQ below (va_Qv (S := Unit) (fun _ => True) (fun _ t => z_W 1 G ad res t.heap) (z_A 1 ad s.heap.size)) args s 0 0 (z_A 1 ad s.heap.size)) (F0 m 2 ls [])) : ∀ (σ : Sg) (v1 : Int32) (v2 : Int32) (v3 : Int32) (v4 : Int32) (H : Heap) (locs : List Loc) (ls : Array Slot), z_S 1 G ad σ (z_A 1 ad s.heap.size) s.heap H locs → lv_has ls 7 [(0, .ref (ad 8 0)), (1, .int v1), (2, .int v2), (3, .int v3), (4, .int v4)] → f_X8_decides_140 k2 σ v1 v2 v3 v4 = some res → W p l e { frames := 1, cells := 0, slots := 0, locals := 25 } s m args below meth c H locs 0 0 (MQ below (va_Qv (S := Unit) (fun _ => True) (fun _ t => z_W 1 G ad res t.heap) (z_A 1 ad s.heap.size)) args s 0 0 (z_A 1 ad s.heap.size)) (F0 m 140 ls []) := by
  intro σ v1 v2 v3 v4 H locs ls S hl  hf
  unfold f_X8_decides_140 at hf
  refine lv_iload_n C.1 C.2.1 dX8_decides_140 rfl (lv_at hl 3 rfl) ?_
  refine lv_if_ne (tgt := 147) C.1 C.2.1 dX8_decides_141 (by decide) (fun c_141 => ?_) (fun c_141 => ?_)
  · rw [if_neg c_141] at hf
    refine lv_aload_n C.1 C.2.1 dX8_decides_147 rfl (lv_at hl 0 rfl) ?_
    refine z_getR C S 8 0 rfl (by decide) cf_8 0 (by decide) _ (gr_8_0 G ad 0) tw_6_118 dX8_decides_148 ?_
    refine lv_sipush (v := 319) C.1 C.2.1 dX8_decides_151 (by decide) ?_
    refine lv_iload_n C.1 C.2.1 dX8_decides_154 rfl (lv_at hl 1 rfl) ?_
    refine lv_iload_n C.1 C.2.1 dX8_decides_155 rfl (lv_at hl 2 rfl) ?_
    obtain ⟨r2, σ1, q_156, hf⟩ := bib hf
    refine z_callSI C S [.int 319, .int v1, .int v2] (m_X8_of l G ad σ 319 v1 v2 r2 σ1 q_156 _) kv_X8_of tw_7_76 ⟨Nat.le_of_ble_eq_true rfl, Nat.le_of_ble_eq_true rfl⟩ rfl rfl (Nat.le_of_ble_eq_true rfl) hl.1 ⟨Nat.le_of_ble_eq_true rfl, Nat.le_of_ble_eq_true rfl⟩ dX8_decides_156 (fun H locs S => ?_)
    refine lv_iconst (v := 1) C.1 C.2.1 dX8_decides_159 (by decide) ?_
    obtain ⟨g_160, hf⟩ := gd hf
    obtain ⟨σ3, e_160, hf⟩ := stb hf
    refine z_iast C S 30 0 rfl (by decide) 2111 (fun _ => rfl) g_160 dX8_decides_160 (fun H locs S => ?_)
    rw [← e_160] at S
    refine lv_aload_n C.1 C.2.1 dX8_decides_161 rfl (lv_at hl 0 rfl) ?_
    refine lv_iconst (v := 2) C.1 C.2.1 dX8_decides_162 (by decide) ?_
    refine lv_iload_n C.1 C.2.1 dX8_decides_163 rfl (lv_at hl 2 rfl) ?_
    refine lv_iload_n C.1 C.2.1 dX8_decides_164 rfl (lv_at hl 1 rfl) ?_
    refine lv_iload C.1 C.2.1 dX8_decides_165 (lv_at hl 4 rfl) ?_
    obtain ⟨σ4, q_167, hf⟩ := bvb hf
    refine z_callV C S 8 0 rfl (by decide) cf_8 ⟨_, rfl⟩ [.int 2, .int v2, .int v1, .int v4] (m_X8_sends l G ad σ3 2 v2 v1 v4 σ4 q_167 _) kv_X8_sends tw_7_206 ⟨Nat.le_of_ble_eq_true rfl, Nat.le_of_ble_eq_true rfl⟩ rfl rfl (Nat.le_of_ble_eq_true rfl) hl.1 ⟨Nat.le_of_ble_eq_true rfl, Nat.le_of_ble_eq_true rfl⟩ dX8_decides_167 (fun H locs S => ?_)
    exact w_X8_decides_170 C k2 hk2 _ v1 v2 _ _ _ S (lv_sub hl [0, 1, 2] rfl) hf
  · rw [if_pos c_141] at hf
    refine lv_goto (tgt := 170) C.1 C.2.1 dX8_decides_144 (by decide) ?_
    exact w_X8_decides_170 C k2 hk2 _ v1 v2 _ _ _ S (lv_sub hl [0, 1, 2] rfl) hf
set_option maxHeartbeats 4000000 in
set_option maxRecDepth 100000 in
theorem w_X8_decides_134 {p : Program} {l : Launch} {e : Env} {s : State} {m : MethodId} {args : Array Value} {below : List Frame} {meth : Method} {c : Code} {G : Gx} {ad : Ad} {res : Sg} (C : Cx p s m args meth c yX8_decides.cls cX8_decides 7 none G) (k2 : Sg → Int32 → Int32 → Option Sg) (hk2 : ∀ (σ : Sg) (v1 : Int32) (v2 : Int32) (H : Heap) (locs : List Loc) (ls : Array Slot), z_S 1 G ad σ (z_A 1 ad s.heap.size) s.heap H locs → lv_has ls 7 [(0, .ref (ad 8 0)), (1, .int v1), (2, .int v2)] → k2 σ v1 v2 = some res → W p l e { frames := 1, cells := 0, slots := 0, locals := 25 } s m args below meth c H locs 0 0 (MQ below (va_Qv (S := Unit) (fun _ => True) (fun _ t => z_W 1 G ad res t.heap) (z_A 1 ad s.heap.size)) args s 0 0 (z_A 1 ad s.heap.size)) (F0 m 2 ls [])) (k88 : Sg → Int32 → Int32 → Int32 → Int32 → Int32 → Option Sg) (hk88 : ∀ (σ : Sg) (v1 : Int32) (v2 : Int32) (v3 : Int32) (v4 : Int32) (v5 : Int32) (H : Heap) (locs : List Loc) (ls : Array Slot), z_S 1 G ad σ (z_A 1 ad s.heap.size) s.heap H locs → lv_has ls 7 [(0, .ref (ad 8 0)), (1, .int v1), (2, .int v2), (3, .int v3), (4, .int v4), (5, .int v5)] → k88 σ v1 v2 v3 v4 v5 = some res → W p l e { frames := 1, cells := 0, slots := 0, locals := 25 } s m args below meth c H locs 0 0 (MQ below (va_Qv (S := Unit) (fun _ => True) (fun _ t => z_W 1 G ad res t.heap) (z_A 1 ad s.heap.size)) args s 0 0 (z_A 1 ad s.heap.size)) (F0 m 88 ls [])) : ∀ (σ : Sg) (v1 : Int32) (v2 : Int32) (v3 : Int32) (v4 : Int32) (v5 : Int32) (H : Heap) (locs : List Loc) (ls : Array Slot), z_S 1 G ad σ (z_A 1 ad s.heap.size) s.heap H locs → lv_has ls 7 [(0, .ref (ad 8 0)), (1, .int v1), (2, .int v2), (3, .int v3), (4, .int v4), (5, .int v5)] → f_X8_decides_134 k2 k88 σ v1 v2 v3 v4 v5 = some res → W p l e { frames := 1, cells := 0, slots := 0, locals := 25 } s m args below meth c H locs 0 0 (MQ below (va_Qv (S := Unit) (fun _ => True) (fun _ t => z_W 1 G ad res t.heap) (z_A 1 ad s.heap.size)) args s 0 0 (z_A 1 ad s.heap.size)) (F0 m 134 ls []) := by
  intro σ v1 v2 v3 v4 v5 H locs ls S hl  hf
  unfold f_X8_decides_134 at hf
  refine lv_iinc (v := (v5 + 1)) (lv' := [(5, .int (v5 + 1)), (0, .ref (ad 8 0)), (1, .int v1), (2, .int v2), (3, .int v3), (4, .int v4)]) C.1 C.2.1 dX8_decides_134 hl (k := 5) rfl rfl (by decide) rfl (fun ls hl => ?_)
  refine lv_goto (tgt := 88) C.1 C.2.1 dX8_decides_137 (by decide) ?_
  exact hk88 _ v1 v2 v3 v4 (v5 + 1) _ _ _ S (lv_sub hl [1, 2, 3, 4, 5, 0] rfl)  hf
set_option maxHeartbeats 4000000 in
set_option maxRecDepth 100000 in
theorem w_X8_decides_88 {p : Program} {l : Launch} {e : Env} {s : State} {m : MethodId} {args : Array Value} {below : List Frame} {meth : Method} {c : Code} {G : Gx} {ad : Ad} {res : Sg} (C : Cx p s m args meth c yX8_decides.cls cX8_decides 7 none G) (k2 : Sg → Int32 → Int32 → Option Sg) (hk2 : ∀ (σ : Sg) (v1 : Int32) (v2 : Int32) (H : Heap) (locs : List Loc) (ls : Array Slot), z_S 1 G ad σ (z_A 1 ad s.heap.size) s.heap H locs → lv_has ls 7 [(0, .ref (ad 8 0)), (1, .int v1), (2, .int v2)] → k2 σ v1 v2 = some res → W p l e { frames := 1, cells := 0, slots := 0, locals := 25 } s m args below meth c H locs 0 0 (MQ below (va_Qv (S := Unit) (fun _ => True) (fun _ t => z_W 1 G ad res t.heap) (z_A 1 ad s.heap.size)) args s 0 0 (z_A 1 ad s.heap.size)) (F0 m 2 ls [])) : ∀ n : Nat, ∀ (σ : Sg) (v1 : Int32) (v2 : Int32) (v3 : Int32) (v4 : Int32) (v5 : Int32) (H : Heap) (locs : List Loc) (ls : Array Slot), z_S 1 G ad σ (z_A 1 ad s.heap.size) s.heap H locs → lv_has ls 7 [(0, .ref (ad 8 0)), (1, .int v1), (2, .int v2), (3, .int v3), (4, .int v4), (5, .int v5)] → f_X8_decides_88 k2 n σ v1 v2 v3 v4 v5 = some res → W p l e { frames := 1, cells := 0, slots := 0, locals := 25 } s m args below meth c H locs 0 0 (MQ below (va_Qv (S := Unit) (fun _ => True) (fun _ t => z_W 1 G ad res t.heap) (z_A 1 ad s.heap.size)) args s 0 0 (z_A 1 ad s.heap.size)) (F0 m 88 ls []) := by
  intro n
  induction n with
  | zero => intro σ v1 v2 v3 v4 v5 H locs ls S hl  hf; cases hf
  | succ n ih =>
    intro σ v1 v2 v3 v4 v5 H locs ls S hl  hf
    rw [f_X8_decides_88_s] at hf
    refine lv_iload C.1 C.2.1 dX8_decides_88 (lv_at hl 5 rfl) ?_
    refine lv_aload_n C.1 C.2.1 dX8_decides_90 rfl (lv_at hl 0 rfl) ?_
    refine z_getR C S 8 0 rfl (by decide) cf_8 0 (by decide) _ (gr_8_0 G ad 0) tw_6_118 dX8_decides_91 ?_
    refine lv_iconst (v := 1) C.1 C.2.1 dX8_decides_94 (by decide) ?_
    refine z_ialdL C S 30 0 rfl (by decide) 2111 (fun _ => rfl) 1 (by decide) (by decide) (by decide) dX8_decides_95 ?_
    refine lv_icmp_ge (tgt := 140) C.1 C.2.1 dX8_decides_96 (by decide) (fun c_96 => ?_) (fun c_96 => ?_)
    · rw [if_pos c_96] at hf
      exact w_X8_decides_140 C k2 hk2 _ v1 v2 v3 v4 _ _ _ S (lv_sub hl [0, 1, 2, 3, 4] rfl) hf
    · rw [if_neg c_96] at hf
      refine lv_aload_n C.1 C.2.1 dX8_decides_99 rfl (lv_at hl 0 rfl) ?_
      refine z_getR C S 8 0 rfl (by decide) cf_8 0 (by decide) _ (gr_8_0 G ad 0) tw_6_118 dX8_decides_100 ?_
      refine lv_iload_n C.1 C.2.1 dX8_decides_103 rfl (lv_at hl 1 rfl) ?_
      refine lv_iload_n C.1 C.2.1 dX8_decides_104 rfl (lv_at hl 2 rfl) ?_
      refine lv_iload C.1 C.2.1 dX8_decides_105 (lv_at hl 5 rfl) ?_
      obtain ⟨r2, σ1, q_107, hf⟩ := bib hf
      refine z_callSI C S [.int v1, .int v2, .int v5] (m_X8_notedAt l G ad σ v1 v2 v5 r2 σ1 q_107 _) kv_X8_notedAt tw_7_31 ⟨Nat.le_of_ble_eq_true rfl, Nat.le_of_ble_eq_true rfl⟩ rfl rfl (Nat.le_of_ble_eq_true rfl) hl.1 ⟨Nat.le_of_ble_eq_true rfl, Nat.le_of_ble_eq_true rfl⟩ dX8_decides_107 (fun H locs S => ?_)
      obtain ⟨g_110, hf⟩ := gd hf
      refine z_iald C S 30 0 rfl (by decide) 2111 (fun _ => rfl) g_110 dX8_decides_110 ?_
      refine lv_istore (lv' := [(6, .int (σ1 30 0 (r2).toNatClampNeg)), (0, .ref (ad 8 0)), (1, .int v1), (2, .int v2), (3, .int v3), (4, .int v4), (5, .int v5)]) C.1 C.2.1 dX8_decides_111 hl (by decide) rfl (fun ls hl => ?_)
      refine lv_iload C.1 C.2.1 dX8_decides_113 (lv_at hl 0 rfl) ?_
      refine lv_iconst (v := (-1)) C.1 C.2.1 dX8_decides_115 (by decide) ?_
      refine lv_icmp_eq (tgt := 134) C.1 C.2.1 dX8_decides_116 (by decide) (fun c_116 => ?_) (fun c_116 => ?_)
      · rw [if_pos c_116] at hf
        exact w_X8_decides_134 C k2 hk2 (f_X8_decides_88 k2 n) ih _ v1 v2 v3 v4 v5 _ _ _ S (lv_sub hl [1, 2, 3, 4, 5, 6] rfl) hf
      · rw [if_neg c_116] at hf
        refine lv_iload C.1 C.2.1 dX8_decides_119 (lv_at hl 0 rfl) ?_
        refine lv_iload C.1 C.2.1 dX8_decides_121 (lv_at hl 6 rfl) ?_
        refine lv_iload C.1 C.2.1 dX8_decides_123 (lv_at hl 5 rfl) ?_
        refine lv_iload_n C.1 C.2.1 dX8_decides_125 rfl (lv_at hl 2 rfl) ?_
        obtain ⟨r4, σ3, q_126, hf⟩ := bib hf
        refine z_callSI C S [.int (σ1 30 0 (r2).toNatClampNeg), .int v5, .int v4, .int v1] (m_X8_isBefore l G ad σ1 (σ1 30 0 (r2).toNatClampNeg) v5 v4 v1 r4 σ3 q_126 _) kv_X8_isBefore tw_7_235 ⟨Nat.le_of_ble_eq_true rfl, Nat.le_of_ble_eq_true rfl⟩ rfl rfl (Nat.le_of_ble_eq_true rfl) hl.1 ⟨Nat.le_of_ble_eq_true rfl, Nat.le_of_ble_eq_true rfl⟩ dX8_decides_126 (fun H locs S => ?_)
        refine lv_if_eq (tgt := 134) C.1 C.2.1 dX8_decides_129 (by decide) (fun c_129 => ?_) (fun c_129 => ?_)
        · rw [if_pos c_129] at hf
          exact w_X8_decides_134 C k2 hk2 (f_X8_decides_88 k2 n) ih _ v1 v2 v3 v4 v5 _ _ _ S (lv_sub hl [1, 2, 3, 4, 5, 6] rfl) hf
        · rw [if_neg c_129] at hf
          refine lv_iconst (v := 0) C.1 C.2.1 dX8_decides_132 (by decide) ?_
          refine lv_istore_n (lv' := [(3, .int 0), (6, .int (σ1 30 0 (r2).toNatClampNeg)), (0, .ref (ad 8 0)), (1, .int v1), (2, .int v2), (4, .int v4), (5, .int v5)]) C.1 C.2.1 dX8_decides_133 rfl hl (by decide) rfl (fun ls hl => ?_)
          exact w_X8_decides_134 C k2 hk2 (f_X8_decides_88 k2 n) ih _ v1 v2 0 v4 v5 _ _ _ S (lv_sub hl [2, 3, 4, 0, 5, 6] rfl) hf
set_option maxHeartbeats 4000000 in
set_option maxRecDepth 100000 in
theorem w_X8_decides_69 {p : Program} {l : Launch} {e : Env} {s : State} {m : MethodId} {args : Array Value} {below : List Frame} {meth : Method} {c : Code} {G : Gx} {ad : Ad} {res : Sg} (C : Cx p s m args meth c yX8_decides.cls cX8_decides 7 none G) (k2 : Sg → Int32 → Int32 → Option Sg) (hk2 : ∀ (σ : Sg) (v1 : Int32) (v2 : Int32) (H : Heap) (locs : List Loc) (ls : Array Slot), z_S 1 G ad σ (z_A 1 ad s.heap.size) s.heap H locs → lv_has ls 7 [(0, .ref (ad 8 0)), (1, .int v1), (2, .int v2)] → k2 σ v1 v2 = some res → W p l e { frames := 1, cells := 0, slots := 0, locals := 25 } s m args below meth c H locs 0 0 (MQ below (va_Qv (S := Unit) (fun _ => True) (fun _ t => z_W 1 G ad res t.heap) (z_A 1 ad s.heap.size)) args s 0 0 (z_A 1 ad s.heap.size)) (F0 m 2 ls [])) : ∀ (σ : Sg) (v1 : Int32) (v2 : Int32) (v100 : Int32) (H : Heap) (locs : List Loc) (ls : Array Slot), z_S 1 G ad σ (z_A 1 ad s.heap.size) s.heap H locs → lv_has ls 7 [(0, .ref (ad 8 0)), (1, .int v1), (2, .int v2)] → f_X8_decides_69 k2 σ v1 v2 v100 = some res → W p l e { frames := 1, cells := 0, slots := 0, locals := 25 } s m args below meth c H locs 0 0 (MQ below (va_Qv (S := Unit) (fun _ => True) (fun _ t => z_W 1 G ad res t.heap) (z_A 1 ad s.heap.size)) args s 0 0 (z_A 1 ad s.heap.size)) (F0 m 69 ls [.int v100]) := by
  intro σ v1 v2 v100 H locs ls S hl  hf
  unfold f_X8_decides_69 at hf
  refine lv_istore_n (lv' := [(3, .int v100), (0, .ref (ad 8 0)), (1, .int v1), (2, .int v2)]) C.1 C.2.1 dX8_decides_69 rfl hl (by decide) rfl (fun ls hl => ?_)
  refine lv_aload_n C.1 C.2.1 dX8_decides_70 rfl (lv_at hl 1 rfl) ?_
  refine z_getR C S 8 0 rfl (by decide) cf_8 0 (by decide) _ (gr_8_0 G ad 0) tw_6_118 dX8_decides_71 ?_
  refine lv_sipush (v := 415) C.1 C.2.1 dX8_decides_74 (by decide) ?_
  refine lv_iload_n C.1 C.2.1 dX8_decides_77 rfl (lv_at hl 2 rfl) ?_
  refine lv_iload_n C.1 C.2.1 dX8_decides_78 rfl (lv_at hl 3 rfl) ?_
  obtain ⟨r2, σ1, q_79, hf⟩ := bib hf
  refine z_callSI C S [.int 415, .int v1, .int v2] (m_X8_of l G ad σ 415 v1 v2 r2 σ1 q_79 _) kv_X8_of tw_7_76 ⟨Nat.le_of_ble_eq_true rfl, Nat.le_of_ble_eq_true rfl⟩ rfl rfl (Nat.le_of_ble_eq_true rfl) hl.1 ⟨Nat.le_of_ble_eq_true rfl, Nat.le_of_ble_eq_true rfl⟩ dX8_decides_79 (fun H locs S => ?_)
  obtain ⟨g_82, hf⟩ := gd hf
  refine z_iald C S 30 0 rfl (by decide) 2111 (fun _ => rfl) g_82 dX8_decides_82 ?_
  refine lv_istore (lv' := [(4, .int (σ1 30 0 (r2).toNatClampNeg)), (3, .int v100), (0, .ref (ad 8 0)), (1, .int v1), (2, .int v2)]) C.1 C.2.1 dX8_decides_83 hl (by decide) rfl (fun ls hl => ?_)
  refine lv_iconst (v := 0) C.1 C.2.1 dX8_decides_85 (by decide) ?_
  refine lv_istore (lv' := [(5, .int 0), (4, .int (σ1 30 0 (r2).toNatClampNeg)), (3, .int v100), (0, .ref (ad 8 0)), (1, .int v1), (2, .int v2)]) C.1 C.2.1 dX8_decides_86 hl (by decide) rfl (fun ls hl => ?_)
  exact w_X8_decides_88 C k2 hk2 FU _ v1 v2 v100 (σ1 30 0 (r2).toNatClampNeg) 0 _ _ _ S (lv_sub hl [3, 4, 5, 2, 1, 0] rfl) hf
set_option maxHeartbeats 4000000 in
set_option maxRecDepth 100000 in
theorem w_X8_decides_2 {p : Program} {l : Launch} {e : Env} {s : State} {m : MethodId} {args : Array Value} {below : List Frame} {meth : Method} {c : Code} {G : Gx} {ad : Ad} {res : Sg} (C : Cx p s m args meth c yX8_decides.cls cX8_decides 7 none G)  : ∀ n : Nat, ∀ (σ : Sg) (v1 : Int32) (v2 : Int32) (H : Heap) (locs : List Loc) (ls : Array Slot), z_S 1 G ad σ (z_A 1 ad s.heap.size) s.heap H locs → lv_has ls 7 [(0, .ref (ad 8 0)), (1, .int v1), (2, .int v2)] → f_X8_decides_2  n σ v1 v2 = some res → W p l e { frames := 1, cells := 0, slots := 0, locals := 25 } s m args below meth c H locs 0 0 (MQ below (va_Qv (S := Unit) (fun _ => True) (fun _ t => z_W 1 G ad res t.heap) (z_A 1 ad s.heap.size)) args s 0 0 (z_A 1 ad s.heap.size)) (F0 m 2 ls []) := by
  intro n
  induction n with
  | zero => intro σ v1 v2 H locs ls S hl  hf; cases hf
  | succ n ih =>
    intro σ v1 v2 H locs ls S hl  hf
    rw [f_X8_decides_2_s] at hf
    refine lv_iload_n C.1 C.2.1 dX8_decides_2 rfl (lv_at hl 2 rfl) ?_
    refine lv_aload_n C.1 C.2.1 dX8_decides_3 rfl (lv_at hl 0 rfl) ?_
    refine z_getR C S 8 0 rfl (by decide) cf_8 0 (by decide) _ (gr_8_0 G ad 0) tw_6_118 dX8_decides_4 ?_
    refine lv_iconst (v := 2) C.1 C.2.1 dX8_decides_7 (by decide) ?_
    refine z_ialdL C S 30 0 rfl (by decide) 2111 (fun _ => rfl) 2 (by decide) (by decide) (by decide) dX8_decides_8 ?_
    refine lv_icmp_ge (tgt := 176) C.1 C.2.1 dX8_decides_9 (by decide) (fun c_9 => ?_) (fun c_9 => ?_)
    · rw [if_pos c_9] at hf
      exact w_X8_decides_176 C _ _ _ _ S (lv_sub hl [] rfl) hf
    · rw [if_neg c_9] at hf
      refine lv_aload_n C.1 C.2.1 dX8_decides_12 rfl (lv_at hl 0 rfl) ?_
      refine z_getR C S 8 0 rfl (by decide) cf_8 0 (by decide) _ (gr_8_0 G ad 0) tw_6_118 dX8_decides_13 ?_
      refine lv_sipush (v := 511) C.1 C.2.1 dX8_decides_16 (by decide) ?_
      refine lv_iload_n C.1 C.2.1 dX8_decides_19 rfl (lv_at hl 1 rfl) ?_
      refine lv_iload_n C.1 C.2.1 dX8_decides_20 rfl (lv_at hl 2 rfl) ?_
      obtain ⟨r2, σ1, q_21, hf⟩ := bib hf
      refine z_callSI C S [.int 511, .int v1, .int v2] (m_X8_of l G ad σ 511 v1 v2 r2 σ1 q_21 _) kv_X8_of tw_7_76 ⟨Nat.le_of_ble_eq_true rfl, Nat.le_of_ble_eq_true rfl⟩ rfl rfl (Nat.le_of_ble_eq_true rfl) hl.1 ⟨Nat.le_of_ble_eq_true rfl, Nat.le_of_ble_eq_true rfl⟩ dX8_decides_21 (fun H locs S => ?_)
      obtain ⟨g_24, hf⟩ := gd hf
      refine z_iald C S 30 0 rfl (by decide) 2111 (fun _ => rfl) g_24 dX8_decides_24 ?_
      refine lv_aload_n C.1 C.2.1 dX8_decides_25 rfl (lv_at hl 0 rfl) ?_
      refine z_getR C S 8 0 rfl (by decide) cf_8 0 (by decide) _ (gr_8_0 G ad 0) tw_6_118 dX8_decides_26 ?_
      refine lv_iconst (v := 3) C.1 C.2.1 dX8_decides_29 (by decide) ?_
      refine z_ialdL C S 30 0 rfl (by decide) 2111 (fun _ => rfl) 3 (by decide) (by decide) (by decide) dX8_decides_30 ?_
      refine lv_icmp_eq (tgt := 37) C.1 C.2.1 dX8_decides_31 (by decide) (fun c_31 => ?_) (fun c_31 => ?_)
      · rw [if_pos c_31] at hf
        refine lv_aload_n C.1 C.2.1 dX8_decides_37 rfl (lv_at hl 0 rfl) ?_
        refine z_getR C S 8 0 rfl (by decide) cf_8 0 (by decide) _ (gr_8_0 G ad 0) tw_6_118 dX8_decides_38 ?_
        refine lv_sipush (v := 511) C.1 C.2.1 dX8_decides_41 (by decide) ?_
        refine lv_iload_n C.1 C.2.1 dX8_decides_44 rfl (lv_at hl 1 rfl) ?_
        refine lv_iload_n C.1 C.2.1 dX8_decides_45 rfl (lv_at hl 2 rfl) ?_
        obtain ⟨r4, σ3, q_46, hf⟩ := bib hf
        refine z_callSI C S [.int 511, .int v1, .int v2] (m_X8_of l G ad σ1 511 v1 v2 r4 σ3 q_46 _) kv_X8_of tw_7_76 ⟨Nat.le_of_ble_eq_true rfl, Nat.le_of_ble_eq_true rfl⟩ rfl rfl (Nat.le_of_ble_eq_true rfl) hl.1 ⟨Nat.le_of_ble_eq_true rfl, Nat.le_of_ble_eq_true rfl⟩ dX8_decides_46 (fun H locs S => ?_)
        refine lv_iconst (v := (-1)) C.1 C.2.1 dX8_decides_49 (by decide) ?_
        obtain ⟨g_50, hf⟩ := gd hf
        obtain ⟨σ5, e_50, hf⟩ := stb hf
        refine z_iast C S 30 0 rfl (by decide) 2111 (fun _ => rfl) g_50 dX8_decides_50 (fun H locs S => ?_)
        rw [← e_50] at S
        refine lv_aload_n C.1 C.2.1 dX8_decides_51 rfl (lv_at hl 0 rfl) ?_
        refine z_getR C S 8 0 rfl (by decide) cf_8 0 (by decide) _ (gr_8_0 G ad 0) tw_6_118 dX8_decides_52 ?_
        refine lv_bipush (v := 127) C.1 C.2.1 dX8_decides_55 (by decide) ?_
        refine lv_iload_n C.1 C.2.1 dX8_decides_57 rfl (lv_at hl 2 rfl) ?_
        refine lv_iadd C.1 C.2.1 dX8_decides_58 ?_
        obtain ⟨g_59, hf⟩ := gd hf
        refine z_iald C S 30 0 rfl (by decide) 2111 (fun _ => rfl) g_59 dX8_decides_59 ?_
        refine lv_iconst (v := 1) C.1 C.2.1 dX8_decides_60 (by decide) ?_
        refine lv_icmp_ne (tgt := 68) C.1 C.2.1 dX8_decides_61 (by decide) (fun c_61 => ?_) (fun c_61 => ?_)
        · rw [if_neg c_61] at hf
          refine lv_iconst (v := 0) C.1 C.2.1 dX8_decides_68 (by decide) ?_
          exact w_X8_decides_69 C (f_X8_decides_2 n) ih _ v1 v2 0 _ _ _ S (lv_sub hl [0, 1, 2] rfl) hf
        · rw [if_pos c_61] at hf
          refine lv_iconst (v := 1) C.1 C.2.1 dX8_decides_64 (by decide) ?_
          refine lv_goto (tgt := 69) C.1 C.2.1 dX8_decides_65 (by decide) ?_
          exact w_X8_decides_69 C (f_X8_decides_2 n) ih _ v1 v2 1 _ _ _ S (lv_sub hl [0, 1, 2] rfl) hf
      · rw [if_neg c_31] at hf
        refine lv_goto (tgt := 170) C.1 C.2.1 dX8_decides_34 (by decide) ?_
        exact w_X8_decides_170 C (f_X8_decides_2 n) ih _ v1 v2 _ _ _ S (lv_sub hl [0, 1, 2] rfl) hf
set_option maxHeartbeats 4000000 in
set_option maxRecDepth 100000 in
theorem w_X8_decides_0 {p : Program} {l : Launch} {e : Env} {s : State} {m : MethodId} {args : Array Value} {below : List Frame} {meth : Method} {c : Code} {G : Gx} {ad : Ad} {res : Sg} (C : Cx p s m args meth c yX8_decides.cls cX8_decides 7 none G)  : ∀ (σ : Sg) (v1 : Int32) (H : Heap) (locs : List Loc) (ls : Array Slot), z_S 1 G ad σ (z_A 1 ad s.heap.size) s.heap H locs → lv_has ls 7 [(0, .ref (ad 8 0)), (1, .int v1)] → f_X8_decides  σ v1 = some res → W p l e { frames := 1, cells := 0, slots := 0, locals := 25 } s m args below meth c H locs 0 0 (MQ below (va_Qv (S := Unit) (fun _ => True) (fun _ t => z_W 1 G ad res t.heap) (z_A 1 ad s.heap.size)) args s 0 0 (z_A 1 ad s.heap.size)) (F0 m 0 ls []) := by
  intro σ v1 H locs ls S hl  hf
  unfold f_X8_decides at hf
  refine lv_iconst (v := 0) C.1 C.2.1 dX8_decides_0 (by decide) ?_
  refine lv_istore_n (lv' := [(2, .int 0), (0, .ref (ad 8 0)), (1, .int v1)]) C.1 C.2.1 dX8_decides_1 rfl hl (by decide) rfl (fun ls hl => ?_)
  exact w_X8_decides_2 C FU _ v1 0 _ _ _ S (lv_sub hl [1, 2, 0] rfl) hf
theorem kv_X8_decides : KV yX8_decides cX8_decides 7 none 1 := ⟨tw_8_5, tw_8_4, tw_p_87, tw_1_10, by decide, by decide, by decide +kernel⟩
theorem m_X8_decides (l : Launch) (G : Gx) (ad : Ad) (σ : Sg) (v1 : Int32) (σ' : Sg)  (hf : f_X8_decides σ v1 = some σ') (sz : Nat) : z_MV l yX8_decides cX8_decides 7 none 1 25 1 G ad σ sz [.ref (ad 8 0), .int v1] σ' := by
  refine z_begin (by decide +kernel) (Nat.le_of_ble_eq_true rfl) [(0, .ref (ad 8 0)), (1, .int v1)] rfl (fun p e s m args below meth c ls C hz S hl => ?_)
  subst hz
  exact w_X8_decides_0 (res := σ') C σ v1 _ _ _ S hl  hf

theorem dX8_getsOff_0 : decode cX8_getsOff 0 = .ok (.aload_n 0, 1) := by decide +kernel
theorem dX8_getsOff_1 : decode cX8_getsOff 1 = .ok (.iload_n 1, 1) := by decide +kernel
theorem dX8_getsOff_2 : decode cX8_getsOff 2 = .ok (.iload_n 2, 1) := by decide +kernel
theorem dX8_getsOff_3 : decode cX8_getsOff 3 = .ok (.invokevirtual 68, 3) := by decide +kernel
theorem dX8_getsOff_6 : decode cX8_getsOff 6 = .ok (.ifCond .eq 28, 3) := by decide +kernel
theorem dX8_getsOff_9 : decode cX8_getsOff 9 = .ok (.aload_n 0, 1) := by decide +kernel
theorem dX8_getsOff_10 : decode cX8_getsOff 10 = .ok (.getfield 7, 3) := by decide +kernel
theorem dX8_getsOff_13 : decode cX8_getsOff 13 = .ok (.bipush 79, 2) := by decide +kernel
theorem dX8_getsOff_15 : decode cX8_getsOff 15 = .ok (.iload_n 2, 1) := by decide +kernel
theorem dX8_getsOff_16 : decode cX8_getsOff 16 = .ok (.iadd, 1) := by decide +kernel
theorem dX8_getsOff_17 : decode cX8_getsOff 17 = .ok (.iaload, 1) := by decide +kernel
theorem dX8_getsOff_18 : decode cX8_getsOff 18 = .ok (.aload_n 0, 1) := by decide +kernel
theorem dX8_getsOff_19 : decode cX8_getsOff 19 = .ok (.getfield 7, 3) := by decide +kernel
theorem dX8_getsOff_22 : decode cX8_getsOff 22 = .ok (.bipush 23, 2) := by decide +kernel
theorem dX8_getsOff_24 : decode cX8_getsOff 24 = .ok (.iload_n 1, 1) := by decide +kernel
theorem dX8_getsOff_25 : decode cX8_getsOff 25 = .ok (.iadd, 1) := by decide +kernel
theorem dX8_getsOff_26 : decode cX8_getsOff 26 = .ok (.iaload, 1) := by decide +kernel
theorem dX8_getsOff_27 : decode cX8_getsOff 27 = .ok (.if_icmp .ne 7, 3) := by decide +kernel
theorem dX8_getsOff_30 : decode cX8_getsOff 30 = .ok (.iconst 1, 1) := by decide +kernel
theorem dX8_getsOff_31 : decode cX8_getsOff 31 = .ok (.goto 4, 3) := by decide +kernel
theorem dX8_getsOff_34 : decode cX8_getsOff 34 = .ok (.iconst 0, 1) := by decide +kernel
theorem dX8_getsOff_35 : decode cX8_getsOff 35 = .ok (.ireturn, 1) := by decide +kernel
/-! BusLiftsModel.getsOff(II)Z -/
noncomputable def f_X8_getsOff_35  (σ : Sg) (v100 : Int32) : Option (Int32 × Sg) := if ¬ (v100 = 0 ∨ v100 = 1) then none else (some (v100, σ))
noncomputable def f_X8_getsOff_34  (σ : Sg)  : Option (Int32 × Sg) := f_X8_getsOff_35 σ 0
noncomputable def f_X8_getsOff  (σ : Sg) (v1 : Int32) (v2 : Int32) : Option (Int32 × Sg) := bi (f_X8_isAboard σ v1 v2) fun r2 σ1 => (if r2 = 0 then (f_X8_getsOff_34 σ1) else (if (79 + v2) < 0 ∨ 2111 ≤ ((79 + v2)).toNatClampNeg then none else (if (23 + v1) < 0 ∨ 2111 ≤ ((23 + v1)).toNatClampNeg then none else (if (σ1 30 0 ((79 + v2)).toNatClampNeg) = (σ1 30 0 ((23 + v1)).toNatClampNeg) then (f_X8_getsOff_35 σ1 1) else (f_X8_getsOff_34 σ1)))))
set_option maxHeartbeats 4000000 in
set_option maxRecDepth 100000 in
theorem w_X8_getsOff_35 {p : Program} {l : Launch} {e : Env} {s : State} {m : MethodId} {args : Array Value} {below : List Frame} {meth : Method} {c : Code} {G : Gx} {ad : Ad} {res : Int32 × Sg} (C : Cx p s m args meth c yX8_getsOff.cls cX8_getsOff 3 (Option.some FieldType.boolean) G)  : ∀ (σ : Sg) (v100 : Int32) (H : Heap) (locs : List Loc) (ls : Array Slot), z_S 1 G ad σ (z_A 1 ad s.heap.size) s.heap H locs → lv_has ls 3 [] → f_X8_getsOff_35  σ v100 = some res → W p l e { frames := 1, cells := 0, slots := 0, locals := 22 } s m args below meth c H locs 0 0 (MQ below (va_Qi (S := Unit) (fun r1 _ => r1 = res.1) (fun _ t => z_W 1 G ad res.2 t.heap) (z_A 1 ad s.heap.size)) args s 0 0 (z_A 1 ad s.heap.size)) (F0 m 35 ls [.int v100]) := by
  intro σ v100 H locs ls S hl  hf
  unfold f_X8_getsOff_35 at hf
  obtain ⟨g_35, hf⟩ := gd hf
  exact z_zret C S (nbz g_35).1 hf dX8_getsOff_35
set_option maxHeartbeats 4000000 in
set_option maxRecDepth 100000 in
theorem w_X8_getsOff_34 {p : Program} {l : Launch} {e : Env} {s : State} {m : MethodId} {args : Array Value} {below : List Frame} {meth : Method} {c : Code} {G : Gx} {ad : Ad} {res : Int32 × Sg} (C : Cx p s m args meth c yX8_getsOff.cls cX8_getsOff 3 (Option.some FieldType.boolean) G)  : ∀ (σ : Sg)  (H : Heap) (locs : List Loc) (ls : Array Slot), z_S 1 G ad σ (z_A 1 ad s.heap.size) s.heap H locs → lv_has ls 3 [] → f_X8_getsOff_34  σ  = some res → W p l e { frames := 1, cells := 0, slots := 0, locals := 22 } s m args below meth c H locs 0 0 (MQ below (va_Qi (S := Unit) (fun r1 _ => r1 = res.1) (fun _ t => z_W 1 G ad res.2 t.heap) (z_A 1 ad s.heap.size)) args s 0 0 (z_A 1 ad s.heap.size)) (F0 m 34 ls []) := by
  intro σ  H locs ls S hl  hf
  unfold f_X8_getsOff_34 at hf
  refine lv_iconst (v := 0) C.1 C.2.1 dX8_getsOff_34 (by decide) ?_
  exact w_X8_getsOff_35 C _ 0 _ _ _ S (lv_sub hl [] rfl) hf
set_option maxHeartbeats 4000000 in
set_option maxRecDepth 100000 in
theorem w_X8_getsOff_0 {p : Program} {l : Launch} {e : Env} {s : State} {m : MethodId} {args : Array Value} {below : List Frame} {meth : Method} {c : Code} {G : Gx} {ad : Ad} {res : Int32 × Sg} (C : Cx p s m args meth c yX8_getsOff.cls cX8_getsOff 3 (Option.some FieldType.boolean) G)  : ∀ (σ : Sg) (v1 : Int32) (v2 : Int32) (H : Heap) (locs : List Loc) (ls : Array Slot), z_S 1 G ad σ (z_A 1 ad s.heap.size) s.heap H locs → lv_has ls 3 [(0, .ref (ad 8 0)), (1, .int v1), (2, .int v2)] → f_X8_getsOff  σ v1 v2 = some res → W p l e { frames := 1, cells := 0, slots := 0, locals := 22 } s m args below meth c H locs 0 0 (MQ below (va_Qi (S := Unit) (fun r1 _ => r1 = res.1) (fun _ t => z_W 1 G ad res.2 t.heap) (z_A 1 ad s.heap.size)) args s 0 0 (z_A 1 ad s.heap.size)) (F0 m 0 ls []) := by
  intro σ v1 v2 H locs ls S hl  hf
  unfold f_X8_getsOff at hf
  refine lv_aload_n C.1 C.2.1 dX8_getsOff_0 rfl (lv_at hl 0 rfl) ?_
  refine lv_iload_n C.1 C.2.1 dX8_getsOff_1 rfl (lv_at hl 1 rfl) ?_
  refine lv_iload_n C.1 C.2.1 dX8_getsOff_2 rfl (lv_at hl 2 rfl) ?_
  obtain ⟨r2, σ1, q_3, hf⟩ := bib hf
  refine z_callI C S 8 0 rfl (by decide) cf_8 ⟨_, rfl⟩ [.int v1, .int v2] (m_X8_isAboard l G ad σ v1 v2 r2 σ1 q_3 _) kv_X8_isAboard tw_7_83 ⟨Nat.le_of_ble_eq_true rfl, Nat.le_of_ble_eq_true rfl⟩ rfl rfl (Nat.le_of_ble_eq_true rfl) hl.1 ⟨Nat.le_of_ble_eq_true rfl, Nat.le_of_ble_eq_true rfl⟩ dX8_getsOff_3 (fun H locs S => ?_)
  refine lv_if_eq (tgt := 34) C.1 C.2.1 dX8_getsOff_6 (by decide) (fun c_6 => ?_) (fun c_6 => ?_)
  · rw [if_pos c_6] at hf
    exact w_X8_getsOff_34 C _ _ _ _ S (lv_sub hl [] rfl) hf
  · rw [if_neg c_6] at hf
    refine lv_aload_n C.1 C.2.1 dX8_getsOff_9 rfl (lv_at hl 0 rfl) ?_
    refine z_getR C S 8 0 rfl (by decide) cf_8 0 (by decide) _ (gr_8_0 G ad 0) tw_6_118 dX8_getsOff_10 ?_
    refine lv_bipush (v := 79) C.1 C.2.1 dX8_getsOff_13 (by decide) ?_
    refine lv_iload_n C.1 C.2.1 dX8_getsOff_15 rfl (lv_at hl 2 rfl) ?_
    refine lv_iadd C.1 C.2.1 dX8_getsOff_16 ?_
    obtain ⟨g_17, hf⟩ := gd hf
    refine z_iald C S 30 0 rfl (by decide) 2111 (fun _ => rfl) g_17 dX8_getsOff_17 ?_
    refine lv_aload_n C.1 C.2.1 dX8_getsOff_18 rfl (lv_at hl 0 rfl) ?_
    refine z_getR C S 8 0 rfl (by decide) cf_8 0 (by decide) _ (gr_8_0 G ad 0) tw_6_118 dX8_getsOff_19 ?_
    refine lv_bipush (v := 23) C.1 C.2.1 dX8_getsOff_22 (by decide) ?_
    refine lv_iload_n C.1 C.2.1 dX8_getsOff_24 rfl (lv_at hl 1 rfl) ?_
    refine lv_iadd C.1 C.2.1 dX8_getsOff_25 ?_
    obtain ⟨g_26, hf⟩ := gd hf
    refine z_iald C S 30 0 rfl (by decide) 2111 (fun _ => rfl) g_26 dX8_getsOff_26 ?_
    refine lv_icmp_ne (tgt := 34) C.1 C.2.1 dX8_getsOff_27 (by decide) (fun c_27 => ?_) (fun c_27 => ?_)
    · rw [if_neg c_27] at hf
      exact w_X8_getsOff_34 C _ _ _ _ S (lv_sub hl [] rfl) hf
    · rw [if_pos c_27] at hf
      refine lv_iconst (v := 1) C.1 C.2.1 dX8_getsOff_30 (by decide) ?_
      refine lv_goto (tgt := 35) C.1 C.2.1 dX8_getsOff_31 (by decide) ?_
      exact w_X8_getsOff_35 C _ 1 _ _ _ S (lv_sub hl [] rfl) hf
theorem kv_X8_getsOff : KV yX8_getsOff cX8_getsOff 3 (Option.some FieldType.boolean) 2 := ⟨tw_8_17, tw_8_16, tw_p_90, tw_1_10, by decide, by decide, by decide +kernel⟩
theorem m_X8_getsOff (l : Launch) (G : Gx) (ad : Ad) (σ : Sg) (v1 : Int32) (v2 : Int32) (r : Int32) (σ' : Sg)  (hf : f_X8_getsOff σ v1 v2 = some (r, σ')) (sz : Nat) : z_MI l yX8_getsOff cX8_getsOff 3 (Option.some FieldType.boolean) 1 22 1 G ad σ sz [.ref (ad 8 0), .int v1, .int v2] r σ' := by
  refine z_begin (by decide +kernel) (Nat.le_of_ble_eq_true rfl) [(0, .ref (ad 8 0)), (1, .int v1), (2, .int v2)] rfl (fun p e s m args below meth c ls C hz S hl => ?_)
  subst hz
  exact w_X8_getsOff_0 (res := (r, σ')) C σ v1 v2 _ _ _ S hl  hf

theorem dX8_isHeldHere_0 : decode cX8_isHeldHere 0 = .ok (.aload_n 0, 1) := by decide +kernel
theorem dX8_isHeldHere_1 : decode cX8_isHeldHere 1 = .ok (.iload_n 1, 1) := by decide +kernel
theorem dX8_isHeldHere_2 : decode cX8_isHeldHere 2 = .ok (.iload_n 2, 1) := by decide +kernel
theorem dX8_isHeldHere_3 : decode cX8_isHeldHere 3 = .ok (.invokevirtual 92, 3) := by decide +kernel
theorem dX8_isHeldHere_6 : decode cX8_isHeldHere 6 = .ok (.ifCond .eq 28, 3) := by decide +kernel
theorem dX8_isHeldHere_9 : decode cX8_isHeldHere 9 = .ok (.aload_n 0, 1) := by decide +kernel
theorem dX8_isHeldHere_10 : decode cX8_isHeldHere 10 = .ok (.getfield 7, 3) := by decide +kernel
theorem dX8_isHeldHere_13 : decode cX8_isHeldHere 13 = .ok (.bipush 55, 2) := by decide +kernel
theorem dX8_isHeldHere_15 : decode cX8_isHeldHere 15 = .ok (.iload_n 2, 1) := by decide +kernel
theorem dX8_isHeldHere_16 : decode cX8_isHeldHere 16 = .ok (.iadd, 1) := by decide +kernel
theorem dX8_isHeldHere_17 : decode cX8_isHeldHere 17 = .ok (.iaload, 1) := by decide +kernel
theorem dX8_isHeldHere_18 : decode cX8_isHeldHere 18 = .ok (.aload_n 0, 1) := by decide +kernel
theorem dX8_isHeldHere_19 : decode cX8_isHeldHere 19 = .ok (.getfield 7, 3) := by decide +kernel
theorem dX8_isHeldHere_22 : decode cX8_isHeldHere 22 = .ok (.bipush 23, 2) := by decide +kernel
theorem dX8_isHeldHere_24 : decode cX8_isHeldHere 24 = .ok (.iload_n 1, 1) := by decide +kernel
theorem dX8_isHeldHere_25 : decode cX8_isHeldHere 25 = .ok (.iadd, 1) := by decide +kernel
theorem dX8_isHeldHere_26 : decode cX8_isHeldHere 26 = .ok (.iaload, 1) := by decide +kernel
theorem dX8_isHeldHere_27 : decode cX8_isHeldHere 27 = .ok (.if_icmp .ne 7, 3) := by decide +kernel
theorem dX8_isHeldHere_30 : decode cX8_isHeldHere 30 = .ok (.iconst 1, 1) := by decide +kernel
theorem dX8_isHeldHere_31 : decode cX8_isHeldHere 31 = .ok (.goto 4, 3) := by decide +kernel
theorem dX8_isHeldHere_34 : decode cX8_isHeldHere 34 = .ok (.iconst 0, 1) := by decide +kernel
theorem dX8_isHeldHere_35 : decode cX8_isHeldHere 35 = .ok (.ireturn, 1) := by decide +kernel
/-! BusLiftsModel.isHeldHere(II)Z -/
noncomputable def f_X8_isHeldHere_35  (σ : Sg) (v100 : Int32) : Option (Int32 × Sg) := if ¬ (v100 = 0 ∨ v100 = 1) then none else (some (v100, σ))
noncomputable def f_X8_isHeldHere_34  (σ : Sg)  : Option (Int32 × Sg) := f_X8_isHeldHere_35 σ 0
noncomputable def f_X8_isHeldHere  (σ : Sg) (v1 : Int32) (v2 : Int32) : Option (Int32 × Sg) := bi (f_X8_doesHold σ v1 v2) fun r2 σ1 => (if r2 = 0 then (f_X8_isHeldHere_34 σ1) else (if (55 + v2) < 0 ∨ 2111 ≤ ((55 + v2)).toNatClampNeg then none else (if (23 + v1) < 0 ∨ 2111 ≤ ((23 + v1)).toNatClampNeg then none else (if (σ1 30 0 ((55 + v2)).toNatClampNeg) = (σ1 30 0 ((23 + v1)).toNatClampNeg) then (f_X8_isHeldHere_35 σ1 1) else (f_X8_isHeldHere_34 σ1)))))
set_option maxHeartbeats 4000000 in
set_option maxRecDepth 100000 in
theorem w_X8_isHeldHere_35 {p : Program} {l : Launch} {e : Env} {s : State} {m : MethodId} {args : Array Value} {below : List Frame} {meth : Method} {c : Code} {G : Gx} {ad : Ad} {res : Int32 × Sg} (C : Cx p s m args meth c yX8_isHeldHere.cls cX8_isHeldHere 3 (Option.some FieldType.boolean) G)  : ∀ (σ : Sg) (v100 : Int32) (H : Heap) (locs : List Loc) (ls : Array Slot), z_S 1 G ad σ (z_A 1 ad s.heap.size) s.heap H locs → lv_has ls 3 [] → f_X8_isHeldHere_35  σ v100 = some res → W p l e { frames := 2, cells := 0, slots := 0, locals := 44 } s m args below meth c H locs 0 0 (MQ below (va_Qi (S := Unit) (fun r1 _ => r1 = res.1) (fun _ t => z_W 1 G ad res.2 t.heap) (z_A 1 ad s.heap.size)) args s 0 0 (z_A 1 ad s.heap.size)) (F0 m 35 ls [.int v100]) := by
  intro σ v100 H locs ls S hl  hf
  unfold f_X8_isHeldHere_35 at hf
  obtain ⟨g_35, hf⟩ := gd hf
  exact z_zret C S (nbz g_35).1 hf dX8_isHeldHere_35
set_option maxHeartbeats 4000000 in
set_option maxRecDepth 100000 in
theorem w_X8_isHeldHere_34 {p : Program} {l : Launch} {e : Env} {s : State} {m : MethodId} {args : Array Value} {below : List Frame} {meth : Method} {c : Code} {G : Gx} {ad : Ad} {res : Int32 × Sg} (C : Cx p s m args meth c yX8_isHeldHere.cls cX8_isHeldHere 3 (Option.some FieldType.boolean) G)  : ∀ (σ : Sg)  (H : Heap) (locs : List Loc) (ls : Array Slot), z_S 1 G ad σ (z_A 1 ad s.heap.size) s.heap H locs → lv_has ls 3 [] → f_X8_isHeldHere_34  σ  = some res → W p l e { frames := 2, cells := 0, slots := 0, locals := 44 } s m args below meth c H locs 0 0 (MQ below (va_Qi (S := Unit) (fun r1 _ => r1 = res.1) (fun _ t => z_W 1 G ad res.2 t.heap) (z_A 1 ad s.heap.size)) args s 0 0 (z_A 1 ad s.heap.size)) (F0 m 34 ls []) := by
  intro σ  H locs ls S hl  hf
  unfold f_X8_isHeldHere_34 at hf
  refine lv_iconst (v := 0) C.1 C.2.1 dX8_isHeldHere_34 (by decide) ?_
  exact w_X8_isHeldHere_35 C _ 0 _ _ _ S (lv_sub hl [] rfl) hf
set_option maxHeartbeats 4000000 in
set_option maxRecDepth 100000 in
theorem w_X8_isHeldHere_0 {p : Program} {l : Launch} {e : Env} {s : State} {m : MethodId} {args : Array Value} {below : List Frame} {meth : Method} {c : Code} {G : Gx} {ad : Ad} {res : Int32 × Sg} (C : Cx p s m args meth c yX8_isHeldHere.cls cX8_isHeldHere 3 (Option.some FieldType.boolean) G)  : ∀ (σ : Sg) (v1 : Int32) (v2 : Int32) (H : Heap) (locs : List Loc) (ls : Array Slot), z_S 1 G ad σ (z_A 1 ad s.heap.size) s.heap H locs → lv_has ls 3 [(0, .ref (ad 8 0)), (1, .int v1), (2, .int v2)] → f_X8_isHeldHere  σ v1 v2 = some res → W p l e { frames := 2, cells := 0, slots := 0, locals := 44 } s m args below meth c H locs 0 0 (MQ below (va_Qi (S := Unit) (fun r1 _ => r1 = res.1) (fun _ t => z_W 1 G ad res.2 t.heap) (z_A 1 ad s.heap.size)) args s 0 0 (z_A 1 ad s.heap.size)) (F0 m 0 ls []) := by
  intro σ v1 v2 H locs ls S hl  hf
  unfold f_X8_isHeldHere at hf
  refine lv_aload_n C.1 C.2.1 dX8_isHeldHere_0 rfl (lv_at hl 0 rfl) ?_
  refine lv_iload_n C.1 C.2.1 dX8_isHeldHere_1 rfl (lv_at hl 1 rfl) ?_
  refine lv_iload_n C.1 C.2.1 dX8_isHeldHere_2 rfl (lv_at hl 2 rfl) ?_
  obtain ⟨r2, σ1, q_3, hf⟩ := bib hf
  refine z_callI C S 8 0 rfl (by decide) cf_8 ⟨_, rfl⟩ [.int v1, .int v2] (m_X8_doesHold l G ad σ v1 v2 r2 σ1 q_3 _) kv_X8_doesHold tw_7_115 ⟨Nat.le_of_ble_eq_true rfl, Nat.le_of_ble_eq_true rfl⟩ rfl rfl (Nat.le_of_ble_eq_true rfl) hl.1 ⟨Nat.le_of_ble_eq_true rfl, Nat.le_of_ble_eq_true rfl⟩ dX8_isHeldHere_3 (fun H locs S => ?_)
  refine lv_if_eq (tgt := 34) C.1 C.2.1 dX8_isHeldHere_6 (by decide) (fun c_6 => ?_) (fun c_6 => ?_)
  · rw [if_pos c_6] at hf
    exact w_X8_isHeldHere_34 C _ _ _ _ S (lv_sub hl [] rfl) hf
  · rw [if_neg c_6] at hf
    refine lv_aload_n C.1 C.2.1 dX8_isHeldHere_9 rfl (lv_at hl 0 rfl) ?_
    refine z_getR C S 8 0 rfl (by decide) cf_8 0 (by decide) _ (gr_8_0 G ad 0) tw_6_118 dX8_isHeldHere_10 ?_
    refine lv_bipush (v := 55) C.1 C.2.1 dX8_isHeldHere_13 (by decide) ?_
    refine lv_iload_n C.1 C.2.1 dX8_isHeldHere_15 rfl (lv_at hl 2 rfl) ?_
    refine lv_iadd C.1 C.2.1 dX8_isHeldHere_16 ?_
    obtain ⟨g_17, hf⟩ := gd hf
    refine z_iald C S 30 0 rfl (by decide) 2111 (fun _ => rfl) g_17 dX8_isHeldHere_17 ?_
    refine lv_aload_n C.1 C.2.1 dX8_isHeldHere_18 rfl (lv_at hl 0 rfl) ?_
    refine z_getR C S 8 0 rfl (by decide) cf_8 0 (by decide) _ (gr_8_0 G ad 0) tw_6_118 dX8_isHeldHere_19 ?_
    refine lv_bipush (v := 23) C.1 C.2.1 dX8_isHeldHere_22 (by decide) ?_
    refine lv_iload_n C.1 C.2.1 dX8_isHeldHere_24 rfl (lv_at hl 1 rfl) ?_
    refine lv_iadd C.1 C.2.1 dX8_isHeldHere_25 ?_
    obtain ⟨g_26, hf⟩ := gd hf
    refine z_iald C S 30 0 rfl (by decide) 2111 (fun _ => rfl) g_26 dX8_isHeldHere_26 ?_
    refine lv_icmp_ne (tgt := 34) C.1 C.2.1 dX8_isHeldHere_27 (by decide) (fun c_27 => ?_) (fun c_27 => ?_)
    · rw [if_neg c_27] at hf
      exact w_X8_isHeldHere_34 C _ _ _ _ S (lv_sub hl [] rfl) hf
    · rw [if_pos c_27] at hf
      refine lv_iconst (v := 1) C.1 C.2.1 dX8_isHeldHere_30 (by decide) ?_
      refine lv_goto (tgt := 35) C.1 C.2.1 dX8_isHeldHere_31 (by decide) ?_
      exact w_X8_isHeldHere_35 C _ 1 _ _ _ S (lv_sub hl [] rfl) hf
theorem kv_X8_isHeldHere : KV yX8_isHeldHere cX8_isHeldHere 3 (Option.some FieldType.boolean) 2 := ⟨tw_8_21, tw_8_20, tw_p_91, tw_1_10, by decide, by decide, by decide +kernel⟩
theorem m_X8_isHeldHere (l : Launch) (G : Gx) (ad : Ad) (σ : Sg) (v1 : Int32) (v2 : Int32) (r : Int32) (σ' : Sg)  (hf : f_X8_isHeldHere σ v1 v2 = some (r, σ')) (sz : Nat) : z_MI l yX8_isHeldHere cX8_isHeldHere 3 (Option.some FieldType.boolean) 2 44 1 G ad σ sz [.ref (ad 8 0), .int v1, .int v2] r σ' := by
  refine z_begin (by decide +kernel) (Nat.le_of_ble_eq_true rfl) [(0, .ref (ad 8 0)), (1, .int v1), (2, .int v2)] rfl (fun p e s m args below meth c ls C hz S hl => ?_)
  subst hz
  exact w_X8_isHeldHere_0 (res := (r, σ')) C σ v1 v2 _ _ _ S hl  hf

theorem dX8_isStop_0 : decode cX8_isStop 0 = .ok (.iconst 0, 1) := by decide +kernel
theorem dX8_isStop_1 : decode cX8_isStop 1 = .ok (.istore_n 2, 1) := by decide +kernel
theorem dX8_isStop_2 : decode cX8_isStop 2 = .ok (.iconst 0, 1) := by decide +kernel
theorem dX8_isStop_3 : decode cX8_isStop 3 = .ok (.istore_n 3, 1) := by decide +kernel
theorem dX8_isStop_4 : decode cX8_isStop 4 = .ok (.iload_n 3, 1) := by decide +kernel
theorem dX8_isStop_5 : decode cX8_isStop 5 = .ok (.aload_n 0, 1) := by decide +kernel
theorem dX8_isStop_6 : decode cX8_isStop 6 = .ok (.getfield 7, 3) := by decide +kernel
theorem dX8_isStop_9 : decode cX8_isStop 9 = .ok (.iconst 2, 1) := by decide +kernel
theorem dX8_isStop_10 : decode cX8_isStop 10 = .ok (.iaload, 1) := by decide +kernel
theorem dX8_isStop_11 : decode cX8_isStop 11 = .ok (.if_icmp .ge 28, 3) := by decide +kernel
theorem dX8_isStop_14 : decode cX8_isStop 14 = .ok (.iload_n 2, 1) := by decide +kernel
theorem dX8_isStop_15 : decode cX8_isStop 15 = .ok (.ifCond .ne 12, 3) := by decide +kernel
theorem dX8_isStop_18 : decode cX8_isStop 18 = .ok (.aload_n 0, 1) := by decide +kernel
theorem dX8_isStop_19 : decode cX8_isStop 19 = .ok (.iload_n 1, 1) := by decide +kernel
theorem dX8_isStop_20 : decode cX8_isStop 20 = .ok (.iload_n 3, 1) := by decide +kernel
theorem dX8_isStop_21 : decode cX8_isStop 21 = .ok (.invokevirtual 120, 3) := by decide +kernel
theorem dX8_isStop_24 : decode cX8_isStop 24 = .ok (.ifCond .eq 7, 3) := by decide +kernel
theorem dX8_isStop_27 : decode cX8_isStop 27 = .ok (.iconst 1, 1) := by decide +kernel
theorem dX8_isStop_28 : decode cX8_isStop 28 = .ok (.goto 4, 3) := by decide +kernel
theorem dX8_isStop_31 : decode cX8_isStop 31 = .ok (.iconst 0, 1) := by decide +kernel
theorem dX8_isStop_32 : decode cX8_isStop 32 = .ok (.istore_n 2, 1) := by decide +kernel
theorem dX8_isStop_33 : decode cX8_isStop 33 = .ok (.iinc 3 1, 3) := by decide +kernel
theorem dX8_isStop_36 : decode cX8_isStop 36 = .ok (.goto (-32), 3) := by decide +kernel
theorem dX8_isStop_39 : decode cX8_isStop 39 = .ok (.iload_n 2, 1) := by decide +kernel
theorem dX8_isStop_40 : decode cX8_isStop 40 = .ok (.ifCond .ne 20, 3) := by decide +kernel
theorem dX8_isStop_43 : decode cX8_isStop 43 = .ok (.aload_n 0, 1) := by decide +kernel
theorem dX8_isStop_44 : decode cX8_isStop 44 = .ok (.iload_n 1, 1) := by decide +kernel
theorem dX8_isStop_45 : decode cX8_isStop 45 = .ok (.invokevirtual 80, 3) := by decide +kernel
theorem dX8_isStop_48 : decode cX8_isStop 48 = .ok (.aload_n 0, 1) := by decide +kernel
theorem dX8_isStop_49 : decode cX8_isStop 49 = .ok (.getfield 7, 3) := by decide +kernel
theorem dX8_isStop_52 : decode cX8_isStop 52 = .ok (.bipush 27, 2) := by decide +kernel
theorem dX8_isStop_54 : decode cX8_isStop 54 = .ok (.iload_n 1, 1) := by decide +kernel
theorem dX8_isStop_55 : decode cX8_isStop 55 = .ok (.iadd, 1) := by decide +kernel
theorem dX8_isStop_56 : decode cX8_isStop 56 = .ok (.iaload, 1) := by decide +kernel
theorem dX8_isStop_57 : decode cX8_isStop 57 = .ok (.if_icmp .ge 7, 3) := by decide +kernel
theorem dX8_isStop_60 : decode cX8_isStop 60 = .ok (.iconst 1, 1) := by decide +kernel
theorem dX8_isStop_61 : decode cX8_isStop 61 = .ok (.goto 4, 3) := by decide +kernel
theorem dX8_isStop_64 : decode cX8_isStop 64 = .ok (.iconst 0, 1) := by decide +kernel
theorem dX8_isStop_65 : decode cX8_isStop 65 = .ok (.istore_n 3, 1) := by decide +kernel
theorem dX8_isStop_66 : decode cX8_isStop 66 = .ok (.iconst 0, 1) := by decide +kernel
theorem dX8_isStop_67 : decode cX8_isStop 67 = .ok (.istore 4, 2) := by decide +kernel
theorem dX8_isStop_69 : decode cX8_isStop 69 = .ok (.iload 4, 2) := by decide +kernel
theorem dX8_isStop_71 : decode cX8_isStop 71 = .ok (.aload_n 0, 1) := by decide +kernel
theorem dX8_isStop_72 : decode cX8_isStop 72 = .ok (.getfield 7, 3) := by decide +kernel
theorem dX8_isStop_75 : decode cX8_isStop 75 = .ok (.iconst 2, 1) := by decide +kernel
theorem dX8_isStop_76 : decode cX8_isStop 76 = .ok (.iaload, 1) := by decide +kernel
theorem dX8_isStop_77 : decode cX8_isStop 77 = .ok (.if_icmp .ge 39, 3) := by decide +kernel
theorem dX8_isStop_80 : decode cX8_isStop 80 = .ok (.aload_n 0, 1) := by decide +kernel
theorem dX8_isStop_81 : decode cX8_isStop 81 = .ok (.iload_n 1, 1) := by decide +kernel
theorem dX8_isStop_82 : decode cX8_isStop 82 = .ok (.iload 4, 2) := by decide +kernel
theorem dX8_isStop_84 : decode cX8_isStop 84 = .ok (.invokevirtual 123, 3) := by decide +kernel
theorem dX8_isStop_87 : decode cX8_isStop 87 = .ok (.ifCond .eq 23, 3) := by decide +kernel
theorem dX8_isStop_90 : decode cX8_isStop 90 = .ok (.iload_n 3, 1) := by decide +kernel
theorem dX8_isStop_91 : decode cX8_isStop 91 = .ok (.ifCond .ne 17, 3) := by decide +kernel
theorem dX8_isStop_94 : decode cX8_isStop 94 = .ok (.aload_n 0, 1) := by decide +kernel
theorem dX8_isStop_95 : decode cX8_isStop 95 = .ok (.getfield 7, 3) := by decide +kernel
theorem dX8_isStop_98 : decode cX8_isStop 98 = .ok (.bipush 127, 2) := by decide +kernel
theorem dX8_isStop_100 : decode cX8_isStop 100 = .ok (.iload 4, 2) := by decide +kernel
theorem dX8_isStop_102 : decode cX8_isStop 102 = .ok (.iadd, 1) := by decide +kernel
theorem dX8_isStop_103 : decode cX8_isStop 103 = .ok (.iaload, 1) := by decide +kernel
theorem dX8_isStop_104 : decode cX8_isStop 104 = .ok (.iconst 1, 1) := by decide +kernel
theorem dX8_isStop_105 : decode cX8_isStop 105 = .ok (.if_icmp .eq 5, 3) := by decide +kernel
theorem dX8_isStop_108 : decode cX8_isStop 108 = .ok (.iconst 1, 1) := by decide +kernel
theorem dX8_isStop_109 : decode cX8_isStop 109 = .ok (.ireturn, 1) := by decide +kernel
theorem dX8_isStop_110 : decode cX8_isStop 110 = .ok (.iinc 4 1, 3) := by decide +kernel
theorem dX8_isStop_113 : decode cX8_isStop 113 = .ok (.goto (-44), 3) := by decide +kernel
theorem dX8_isStop_116 : decode cX8_isStop 116 = .ok (.iload_n 2, 1) := by decide +kernel
theorem dX8_isStop_117 : decode cX8_isStop 117 = .ok (.ireturn, 1) := by decide +kernel
/-! BusLiftsModel.isStop(I)Z -/
noncomputable def f_X8_isStop_116  (σ : Sg) (v2 : Int32) : Option (Int32 × Sg) := if ¬ (v2 = 0 ∨ v2 = 1) then none else (some (v2, σ))
noncomputable def f_X8_isStop_110 (k69 : Sg → Int32 → Int32 → Int32 → Int32 → Option (Int32 × Sg)) (σ : Sg) (v1 : Int32) (v2 : Int32) (v3 : Int32) (v4 : Int32) : Option (Int32 × Sg) := k69 σ v1 v2 v3 (v4 + 1)
noncomputable def f_X8_isStop_108  (σ : Sg)  : Option (Int32 × Sg) := some (1, σ)
noncomputable def f_X8_isStop_69  : Nat → Sg → Int32 → Int32 → Int32 → Int32 → Option (Int32 × Sg)
  | 0, _, _, _, _, _ => none
  | n + 1, σ, v1, v2, v3, v4 => if (σ 30 0 2) ≤ v4 then (f_X8_isStop_116 σ v2) else (bi (f_X8_isHeldHere σ v1 v4) fun r2 σ1 => (if r2 = 0 then (f_X8_isStop_110 (f_X8_isStop_69 n) σ1 v1 v2 v3 v4) else (if v3 = 0 then (if (127 + v4) < 0 ∨ 2111 ≤ ((127 + v4)).toNatClampNeg then none else (if (σ1 30 0 ((127 + v4)).toNatClampNeg) = 1 then (f_X8_isStop_110 (f_X8_isStop_69 n) σ1 v1 v2 v3 v4) else (f_X8_isStop_108 σ1))) else (f_X8_isStop_108 σ1))))
theorem f_X8_isStop_69_s  (n : Nat) (σ : Sg) (v1 : Int32) (v2 : Int32) (v3 : Int32) (v4 : Int32) : f_X8_isStop_69  (n + 1) σ v1 v2 v3 v4 = (if (σ 30 0 2) ≤ v4 then (f_X8_isStop_116 σ v2) else (bi (f_X8_isHeldHere σ v1 v4) fun r2 σ1 => (if r2 = 0 then (f_X8_isStop_110 (f_X8_isStop_69 n) σ1 v1 v2 v3 v4) else (if v3 = 0 then (if (127 + v4) < 0 ∨ 2111 ≤ ((127 + v4)).toNatClampNeg then none else (if (σ1 30 0 ((127 + v4)).toNatClampNeg) = 1 then (f_X8_isStop_110 (f_X8_isStop_69 n) σ1 v1 v2 v3 v4) else (f_X8_isStop_108 σ1))) else (f_X8_isStop_108 σ1))))) := rfl
noncomputable def f_X8_isStop_65  (σ : Sg) (v1 : Int32) (v2 : Int32) (v100 : Int32) : Option (Int32 × Sg) := f_X8_isStop_69 FU σ v1 v2 v100 0
noncomputable def f_X8_isStop_60  (σ : Sg) (v1 : Int32) (v2 : Int32) : Option (Int32 × Sg) := f_X8_isStop_65 σ v1 v2 1
noncomputable def f_X8_isStop_39  (σ : Sg) (v1 : Int32) (v2 : Int32) : Option (Int32 × Sg) := if v2 = 0 then (bi (f_X8_aboardMany σ v1) fun r2 σ1 => (if (27 + v1) < 0 ∨ 2111 ≤ ((27 + v1)).toNatClampNeg then none else (if (σ1 30 0 ((27 + v1)).toNatClampNeg) ≤ r2 then (f_X8_isStop_65 σ1 v1 v2 0) else (f_X8_isStop_60 σ1 v1 v2)))) else (f_X8_isStop_60 σ v1 v2)
noncomputable def f_X8_isStop_32 (k4 : Sg → Int32 → Int32 → Int32 → Option (Int32 × Sg)) (σ : Sg) (v1 : Int32) (v3 : Int32) (v100 : Int32) : Option (Int32 × Sg) := k4 σ v1 v100 (v3 + 1)
noncomputable def f_X8_isStop_27 (k4 : Sg → Int32 → Int32 → Int32 → Option (Int32 × Sg)) (σ : Sg) (v1 : Int32) (v3 : Int32) : Option (Int32 × Sg) := f_X8_isStop_32 k4 σ v1 v3 1
noncomputable def f_X8_isStop_4  : Nat → Sg → Int32 → Int32 → Int32 → Option (Int32 × Sg)
  | 0, _, _, _, _ => none
  | n + 1, σ, v1, v2, v3 => if (σ 30 0 2) ≤ v3 then (f_X8_isStop_39 σ v1 v2) else (if v2 = 0 then (bi (f_X8_getsOff σ v1 v3) fun r2 σ1 => (if r2 = 0 then (f_X8_isStop_32 (f_X8_isStop_4 n) σ1 v1 v3 0) else (f_X8_isStop_27 (f_X8_isStop_4 n) σ1 v1 v3))) else (f_X8_isStop_27 (f_X8_isStop_4 n) σ v1 v3))
theorem f_X8_isStop_4_s  (n : Nat) (σ : Sg) (v1 : Int32) (v2 : Int32) (v3 : Int32) : f_X8_isStop_4  (n + 1) σ v1 v2 v3 = (if (σ 30 0 2) ≤ v3 then (f_X8_isStop_39 σ v1 v2) else (if v2 = 0 then (bi (f_X8_getsOff σ v1 v3) fun r2 σ1 => (if r2 = 0 then (f_X8_isStop_32 (f_X8_isStop_4 n) σ1 v1 v3 0) else (f_X8_isStop_27 (f_X8_isStop_4 n) σ1 v1 v3))) else (f_X8_isStop_27 (f_X8_isStop_4 n) σ v1 v3))) := rfl
noncomputable def f_X8_isStop  (σ : Sg) (v1 : Int32) : Option (Int32 × Sg) := f_X8_isStop_4 FU σ v1 0 0
set_option maxHeartbeats 4000000 in
set_option maxRecDepth 100000 in
theorem w_X8_isStop_116 {p : Program} {l : Launch} {e : Env} {s : State} {m : MethodId} {args : Array Value} {below : List Frame} {meth : Method} {c : Code} {G : Gx} {ad : Ad} {res : Int32 × Sg} (C : Cx p s m args meth c yX8_isStop.cls cX8_isStop 5 (Option.some FieldType.boolean) G)  : ∀ (σ : Sg) (v2 : Int32) (H : Heap) (locs : List Loc) (ls : Array Slot), z_S 1 G ad σ (z_A 1 ad s.heap.size) s.heap H locs → lv_has ls 5 [(2, .int v2)] → f_X8_isStop_116  σ v2 = some res → W p l e { frames := 3, cells := 0, slots := 0, locals := 66 } s m args below meth c H locs 0 0 (MQ below (va_Qi (S := Unit) (fun r1 _ => r1 = res.1) (fun _ t => z_W 1 G ad res.2 t.heap) (z_A 1 ad s.heap.size)) args s 0 0 (z_A 1 ad s.heap.size)) (F0 m 116 ls []) := by
  intro σ v2 H locs ls S hl  hf
  unfold f_X8_isStop_116 at hf
  refine lv_iload_n C.1 C.2.1 dX8_isStop_116 rfl (lv_at hl 0 rfl) ?_
  obtain ⟨g_117, hf⟩ := gd hf
  exact z_zret C S (nbz g_117).1 hf dX8_isStop_117
set_option maxHeartbeats 4000000 in
set_option maxRecDepth 100000 in
theorem w_X8_isStop_110 {p : Program} {l : Launch} {e : Env} {s : State} {m : MethodId} {args : Array Value} {below : List Frame} {meth : Method} {c : Code} {G : Gx} {ad : Ad} {res : Int32 × Sg} (C : Cx p s m args meth c yX8_isStop.cls cX8_isStop 5 (Option.some FieldType.boolean) G) (k69 : Sg → Int32 → Int32 → Int32 → Int32 → Option (Int32 × Sg)) (hk69 : ∀ (σ : Sg) (v1 : Int32) (v2 : Int32) (v3 : Int32) (v4 : Int32) (H : Heap) (locs : List Loc) (ls : Array Slot), z_S 1 G ad σ (z_A 1 ad s.heap.size) s.heap H locs → lv_has ls 5 [(0, .ref (ad 8 0)), (1, .int v1), (2, .int v2), (3, .int v3), (4, .int v4)] → k69 σ v1 v2 v3 v4 = some res → W p l e { frames := 3, cells := 0, slots := 0, locals := 66 } s m args below meth c H locs 0 0 (MQ below (va_Qi (S := Unit) (fun r1 _ => r1 = res.1) (fun _ t => z_W 1 G ad res.2 t.heap) (z_A 1 ad s.heap.size)) args s 0 0 (z_A 1 ad s.heap.size)) (F0 m 69 ls [])) : ∀ (σ : Sg) (v1 : Int32) (v2 : Int32) (v3 : Int32) (v4 : Int32) (H : Heap) (locs : List Loc) (ls : Array Slot), z_S 1 G ad σ (z_A 1 ad s.heap.size) s.heap H locs → lv_has ls 5 [(0, .ref (ad 8 0)), (1, .int v1), (2, .int v2), (3, .int v3), (4, .int v4)] → f_X8_isStop_110 k69 σ v1 v2 v3 v4 = some res → W p l e { frames := 3, cells := 0, slots := 0, locals := 66 } s m args below meth c H locs 0 0 (MQ below (va_Qi (S := Unit) (fun r1 _ => r1 = res.1) (fun _ t => z_W 1 G ad res.2 t.heap) (z_A 1 ad s.heap.size)) args s 0 0 (z_A 1 ad s.heap.size)) (F0 m 110 ls []) := by
  intro σ v1 v2 v3 v4 H locs ls S hl  hf
  unfold f_X8_isStop_110 at hf
  refine lv_iinc (v := (v4 + 1)) (lv' := [(4, .int (v4 + 1)), (0, .ref (ad 8 0)), (1, .int v1), (2, .int v2), (3, .int v3)]) C.1 C.2.1 dX8_isStop_110 hl (k := 4) rfl rfl (by decide) rfl (fun ls hl => ?_)
  refine lv_goto (tgt := 69) C.1 C.2.1 dX8_isStop_113 (by decide) ?_
  exact hk69 _ v1 v2 v3 (v4 + 1) _ _ _ S (lv_sub hl [1, 2, 3, 4, 0] rfl)  hf
set_option maxHeartbeats 4000000 in
set_option maxRecDepth 100000 in
theorem w_X8_isStop_108 {p : Program} {l : Launch} {e : Env} {s : State} {m : MethodId} {args : Array Value} {below : List Frame} {meth : Method} {c : Code} {G : Gx} {ad : Ad} {res : Int32 × Sg} (C : Cx p s m args meth c yX8_isStop.cls cX8_isStop 5 (Option.some FieldType.boolean) G)  : ∀ (σ : Sg)  (H : Heap) (locs : List Loc) (ls : Array Slot), z_S 1 G ad σ (z_A 1 ad s.heap.size) s.heap H locs → lv_has ls 5 [] → f_X8_isStop_108  σ  = some res → W p l e { frames := 3, cells := 0, slots := 0, locals := 66 } s m args below meth c H locs 0 0 (MQ below (va_Qi (S := Unit) (fun r1 _ => r1 = res.1) (fun _ t => z_W 1 G ad res.2 t.heap) (z_A 1 ad s.heap.size)) args s 0 0 (z_A 1 ad s.heap.size)) (F0 m 108 ls []) := by
  intro σ  H locs ls S hl  hf
  unfold f_X8_isStop_108 at hf
  refine lv_iconst (v := 1) C.1 C.2.1 dX8_isStop_108 (by decide) ?_
  exact z_zret C S rfl hf dX8_isStop_109
set_option maxHeartbeats 4000000 in
set_option maxRecDepth 100000 in
theorem w_X8_isStop_69 {p : Program} {l : Launch} {e : Env} {s : State} {m : MethodId} {args : Array Value} {below : List Frame} {meth : Method} {c : Code} {G : Gx} {ad : Ad} {res : Int32 × Sg} (C : Cx p s m args meth c yX8_isStop.cls cX8_isStop 5 (Option.some FieldType.boolean) G)  : ∀ n : Nat, ∀ (σ : Sg) (v1 : Int32) (v2 : Int32) (v3 : Int32) (v4 : Int32) (H : Heap) (locs : List Loc) (ls : Array Slot), z_S 1 G ad σ (z_A 1 ad s.heap.size) s.heap H locs → lv_has ls 5 [(0, .ref (ad 8 0)), (1, .int v1), (2, .int v2), (3, .int v3), (4, .int v4)] → f_X8_isStop_69  n σ v1 v2 v3 v4 = some res → W p l e { frames := 3, cells := 0, slots := 0, locals := 66 } s m args below meth c H locs 0 0 (MQ below (va_Qi (S := Unit) (fun r1 _ => r1 = res.1) (fun _ t => z_W 1 G ad res.2 t.heap) (z_A 1 ad s.heap.size)) args s 0 0 (z_A 1 ad s.heap.size)) (F0 m 69 ls []) := by
  intro n
  induction n with
  | zero => intro σ v1 v2 v3 v4 H locs ls S hl  hf; cases hf
  | succ n ih =>
    intro σ v1 v2 v3 v4 H locs ls S hl  hf
    rw [f_X8_isStop_69_s] at hf
    refine lv_iload C.1 C.2.1 dX8_isStop_69 (lv_at hl 4 rfl) ?_
    refine lv_aload_n C.1 C.2.1 dX8_isStop_71 rfl (lv_at hl 0 rfl) ?_
    refine z_getR C S 8 0 rfl (by decide) cf_8 0 (by decide) _ (gr_8_0 G ad 0) tw_6_118 dX8_isStop_72 ?_
    refine lv_iconst (v := 2) C.1 C.2.1 dX8_isStop_75 (by decide) ?_
    refine z_ialdL C S 30 0 rfl (by decide) 2111 (fun _ => rfl) 2 (by decide) (by decide) (by decide) dX8_isStop_76 ?_
    refine lv_icmp_ge (tgt := 116) C.1 C.2.1 dX8_isStop_77 (by decide) (fun c_77 => ?_) (fun c_77 => ?_)
    · rw [if_pos c_77] at hf
      exact w_X8_isStop_116 C _ v2 _ _ _ S (lv_sub hl [2] rfl) hf
    · rw [if_neg c_77] at hf
      refine lv_aload_n C.1 C.2.1 dX8_isStop_80 rfl (lv_at hl 0 rfl) ?_
      refine lv_iload_n C.1 C.2.1 dX8_isStop_81 rfl (lv_at hl 1 rfl) ?_
      refine lv_iload C.1 C.2.1 dX8_isStop_82 (lv_at hl 4 rfl) ?_
      obtain ⟨r2, σ1, q_84, hf⟩ := bib hf
      refine z_callI C S 8 0 rfl (by decide) cf_8 ⟨_, rfl⟩ [.int v1, .int v4] (m_X8_isHeldHere l G ad σ v1 v4 r2 σ1 q_84 _) kv_X8_isHeldHere tw_8_18 ⟨Nat.le_of_ble_eq_true rfl, Nat.le_of_ble_eq_true rfl⟩ rfl rfl (Nat.le_of_ble_eq_true rfl) hl.1 ⟨Nat.le_of_ble_eq_true rfl, Nat.le_of_ble_eq_true rfl⟩ dX8_isStop_84 (fun H locs S => ?_)
      refine lv_if_eq (tgt := 110) C.1 C.2.1 dX8_isStop_87 (by decide) (fun c_87 => ?_) (fun c_87 => ?_)
      · rw [if_pos c_87] at hf
        exact w_X8_isStop_110 C (f_X8_isStop_69 n) ih _ v1 v2 v3 v4 _ _ _ S (lv_sub hl [0, 1, 2, 3, 4] rfl) hf
      · rw [if_neg c_87] at hf
        refine lv_iload_n C.1 C.2.1 dX8_isStop_90 rfl (lv_at hl 3 rfl) ?_
        refine lv_if_ne (tgt := 108) C.1 C.2.1 dX8_isStop_91 (by decide) (fun c_91 => ?_) (fun c_91 => ?_)
        · rw [if_neg c_91] at hf
          exact w_X8_isStop_108 C _ _ _ _ S (lv_sub hl [] rfl) hf
        · rw [if_pos c_91] at hf
          refine lv_aload_n C.1 C.2.1 dX8_isStop_94 rfl (lv_at hl 0 rfl) ?_
          refine z_getR C S 8 0 rfl (by decide) cf_8 0 (by decide) _ (gr_8_0 G ad 0) tw_6_118 dX8_isStop_95 ?_
          refine lv_bipush (v := 127) C.1 C.2.1 dX8_isStop_98 (by decide) ?_
          refine lv_iload C.1 C.2.1 dX8_isStop_100 (lv_at hl 4 rfl) ?_
          refine lv_iadd C.1 C.2.1 dX8_isStop_102 ?_
          obtain ⟨g_103, hf⟩ := gd hf
          refine z_iald C S 30 0 rfl (by decide) 2111 (fun _ => rfl) g_103 dX8_isStop_103 ?_
          refine lv_iconst (v := 1) C.1 C.2.1 dX8_isStop_104 (by decide) ?_
          refine lv_icmp_eq (tgt := 110) C.1 C.2.1 dX8_isStop_105 (by decide) (fun c_105 => ?_) (fun c_105 => ?_)
          · rw [if_pos c_105] at hf
            exact w_X8_isStop_110 C (f_X8_isStop_69 n) ih _ v1 v2 v3 v4 _ _ _ S (lv_sub hl [0, 1, 2, 3, 4] rfl) hf
          · rw [if_neg c_105] at hf
            exact w_X8_isStop_108 C _ _ _ _ S (lv_sub hl [] rfl) hf
set_option maxHeartbeats 4000000 in
set_option maxRecDepth 100000 in
theorem w_X8_isStop_65 {p : Program} {l : Launch} {e : Env} {s : State} {m : MethodId} {args : Array Value} {below : List Frame} {meth : Method} {c : Code} {G : Gx} {ad : Ad} {res : Int32 × Sg} (C : Cx p s m args meth c yX8_isStop.cls cX8_isStop 5 (Option.some FieldType.boolean) G)  : ∀ (σ : Sg) (v1 : Int32) (v2 : Int32) (v100 : Int32) (H : Heap) (locs : List Loc) (ls : Array Slot), z_S 1 G ad σ (z_A 1 ad s.heap.size) s.heap H locs → lv_has ls 5 [(0, .ref (ad 8 0)), (1, .int v1), (2, .int v2)] → f_X8_isStop_65  σ v1 v2 v100 = some res → W p l e { frames := 3, cells := 0, slots := 0, locals := 66 } s m args below meth c H locs 0 0 (MQ below (va_Qi (S := Unit) (fun r1 _ => r1 = res.1) (fun _ t => z_W 1 G ad res.2 t.heap) (z_A 1 ad s.heap.size)) args s 0 0 (z_A 1 ad s.heap.size)) (F0 m 65 ls [.int v100]) := by
  intro σ v1 v2 v100 H locs ls S hl  hf
  unfold f_X8_isStop_65 at hf
  refine lv_istore_n (lv' := [(3, .int v100), (0, .ref (ad 8 0)), (1, .int v1), (2, .int v2)]) C.1 C.2.1 dX8_isStop_65 rfl hl (by decide) rfl (fun ls hl => ?_)
  refine lv_iconst (v := 0) C.1 C.2.1 dX8_isStop_66 (by decide) ?_
  refine lv_istore (lv' := [(4, .int 0), (3, .int v100), (0, .ref (ad 8 0)), (1, .int v1), (2, .int v2)]) C.1 C.2.1 dX8_isStop_67 hl (by decide) rfl (fun ls hl => ?_)
  exact w_X8_isStop_69 C FU _ v1 v2 v100 0 _ _ _ S (lv_sub hl [2, 3, 4, 1, 0] rfl) hf
set_option maxHeartbeats 4000000 in
set_option maxRecDepth 100000 in
theorem w_X8_isStop_60 {p : Program} {l : Launch} {e : Env} {s : State} {m : MethodId} {args : Array Value} {below : List Frame} {meth : Method} {c : Code} {G : Gx} {ad : Ad} {res : Int32 × Sg} (C : Cx p s m args meth c yX8_isStop.cls cX8_isStop 5 (Option.some FieldType.boolean) G)  : ∀ (σ : Sg) (v1 : Int32) (v2 : Int32) (H : Heap) (locs : List Loc) (ls : Array Slot), z_S 1 G ad σ (z_A 1 ad s.heap.size) s.heap H locs → lv_has ls 5 [(0, .ref (ad 8 0)), (1, .int v1), (2, .int v2)] → f_X8_isStop_60  σ v1 v2 = some res → W p l e { frames := 3, cells := 0, slots := 0, locals := 66 } s m args below meth c H locs 0 0 (MQ below (va_Qi (S := Unit) (fun r1 _ => r1 = res.1) (fun _ t => z_W 1 G ad res.2 t.heap) (z_A 1 ad s.heap.size)) args s 0 0 (z_A 1 ad s.heap.size)) (F0 m 60 ls []) := by
  intro σ v1 v2 H locs ls S hl  hf
  unfold f_X8_isStop_60 at hf
  refine lv_iconst (v := 1) C.1 C.2.1 dX8_isStop_60 (by decide) ?_
  refine lv_goto (tgt := 65) C.1 C.2.1 dX8_isStop_61 (by decide) ?_
  exact w_X8_isStop_65 C _ v1 v2 1 _ _ _ S (lv_sub hl [0, 1, 2] rfl) hf
set_option maxHeartbeats 4000000 in
set_option maxRecDepth 100000 in
theorem w_X8_isStop_39 {p : Program} {l : Launch} {e : Env} {s : State} {m : MethodId} {args : Array Value} {below : List Frame} {meth : Method} {c : Code} {G : Gx} {ad : Ad} {res : Int32 × Sg} (C : Cx p s m args meth c yX8_isStop.cls cX8_isStop 5 (Option.some FieldType.boolean) G)  : ∀ (σ : Sg) (v1 : Int32) (v2 : Int32) (H : Heap) (locs : List Loc) (ls : Array Slot), z_S 1 G ad σ (z_A 1 ad s.heap.size) s.heap H locs → lv_has ls 5 [(0, .ref (ad 8 0)), (1, .int v1), (2, .int v2)] → f_X8_isStop_39  σ v1 v2 = some res → W p l e { frames := 3, cells := 0, slots := 0, locals := 66 } s m args below meth c H locs 0 0 (MQ below (va_Qi (S := Unit) (fun r1 _ => r1 = res.1) (fun _ t => z_W 1 G ad res.2 t.heap) (z_A 1 ad s.heap.size)) args s 0 0 (z_A 1 ad s.heap.size)) (F0 m 39 ls []) := by
  intro σ v1 v2 H locs ls S hl  hf
  unfold f_X8_isStop_39 at hf
  refine lv_iload_n C.1 C.2.1 dX8_isStop_39 rfl (lv_at hl 2 rfl) ?_
  refine lv_if_ne (tgt := 60) C.1 C.2.1 dX8_isStop_40 (by decide) (fun c_40 => ?_) (fun c_40 => ?_)
  · rw [if_neg c_40] at hf
    exact w_X8_isStop_60 C _ v1 v2 _ _ _ S (lv_sub hl [0, 1, 2] rfl) hf
  · rw [if_pos c_40] at hf
    refine lv_aload_n C.1 C.2.1 dX8_isStop_43 rfl (lv_at hl 0 rfl) ?_
    refine lv_iload_n C.1 C.2.1 dX8_isStop_44 rfl (lv_at hl 1 rfl) ?_
    obtain ⟨r2, σ1, q_45, hf⟩ := bib hf
    refine z_callI C S 8 0 rfl (by decide) cf_8 ⟨_, rfl⟩ [.int v1] (m_X8_aboardMany l G ad σ v1 r2 σ1 q_45 _) kv_X8_aboardMany tw_7_79 ⟨Nat.le_of_ble_eq_true rfl, Nat.le_of_ble_eq_true rfl⟩ rfl rfl (Nat.le_of_ble_eq_true rfl) hl.1 ⟨Nat.le_of_ble_eq_true rfl, Nat.le_of_ble_eq_true rfl⟩ dX8_isStop_45 (fun H locs S => ?_)
    refine lv_aload_n C.1 C.2.1 dX8_isStop_48 rfl (lv_at hl 0 rfl) ?_
    refine z_getR C S 8 0 rfl (by decide) cf_8 0 (by decide) _ (gr_8_0 G ad 0) tw_6_118 dX8_isStop_49 ?_
    refine lv_bipush (v := 27) C.1 C.2.1 dX8_isStop_52 (by decide) ?_
    refine lv_iload_n C.1 C.2.1 dX8_isStop_54 rfl (lv_at hl 1 rfl) ?_
    refine lv_iadd C.1 C.2.1 dX8_isStop_55 ?_
    obtain ⟨g_56, hf⟩ := gd hf
    refine z_iald C S 30 0 rfl (by decide) 2111 (fun _ => rfl) g_56 dX8_isStop_56 ?_
    refine lv_icmp_ge (tgt := 64) C.1 C.2.1 dX8_isStop_57 (by decide) (fun c_57 => ?_) (fun c_57 => ?_)
    · rw [if_pos c_57] at hf
      refine lv_iconst (v := 0) C.1 C.2.1 dX8_isStop_64 (by decide) ?_
      exact w_X8_isStop_65 C _ v1 v2 0 _ _ _ S (lv_sub hl [0, 1, 2] rfl) hf
    · rw [if_neg c_57] at hf
      exact w_X8_isStop_60 C _ v1 v2 _ _ _ S (lv_sub hl [0, 1, 2] rfl) hf
set_option maxHeartbeats 4000000 in
set_option maxRecDepth 100000 in
theorem w_X8_isStop_32 {p : Program} {l : Launch} {e : Env} {s : State} {m : MethodId} {args : Array Value} {below : List Frame} {meth : Method} {c : Code} {G : Gx} {ad : Ad} {res : Int32 × Sg} (C : Cx p s m args meth c yX8_isStop.cls cX8_isStop 5 (Option.some FieldType.boolean) G) (k4 : Sg → Int32 → Int32 → Int32 → Option (Int32 × Sg)) (hk4 : ∀ (σ : Sg) (v1 : Int32) (v2 : Int32) (v3 : Int32) (H : Heap) (locs : List Loc) (ls : Array Slot), z_S 1 G ad σ (z_A 1 ad s.heap.size) s.heap H locs → lv_has ls 5 [(0, .ref (ad 8 0)), (1, .int v1), (2, .int v2), (3, .int v3)] → k4 σ v1 v2 v3 = some res → W p l e { frames := 3, cells := 0, slots := 0, locals := 66 } s m args below meth c H locs 0 0 (MQ below (va_Qi (S := Unit) (fun r1 _ => r1 = res.1) (fun _ t => z_W 1 G ad res.2 t.heap) (z_A 1 ad s.heap.size)) args s 0 0 (z_A 1 ad s.heap.size)) (F0 m 4 ls [])) : ∀ (σ : Sg) (v1 : Int32) (v3 : Int32) (v100 : Int32) (H : Heap) (locs : List Loc) (ls : Array Slot), z_S 1 G ad σ (z_A 1 ad s.heap.size) s.heap H locs → lv_has ls 5 [(0, .ref (ad 8 0)), (1, .int v1), (3, .int v3)] → f_X8_isStop_32 k4 σ v1 v3 v100 = some res → W p l e { frames := 3, cells := 0, slots := 0, locals := 66 } s m args below meth c H locs 0 0 (MQ below (va_Qi (S := Unit) (fun r1 _ => r1 = res.1) (fun _ t => z_W 1 G ad res.2 t.heap) (z_A 1 ad s.heap.size)) args s 0 0 (z_A 1 ad s.heap.size)) (F0 m 32 ls [.int v100]) := by
  intro σ v1 v3 v100 H locs ls S hl  hf
  unfold f_X8_isStop_32 at hf
  refine lv_istore_n (lv' := [(2, .int v100), (0, .ref (ad 8 0)), (1, .int v1), (3, .int v3)]) C.1 C.2.1 dX8_isStop_32 rfl hl (by decide) rfl (fun ls hl => ?_)
  refine lv_iinc (v := (v3 + 1)) (lv' := [(3, .int (v3 + 1)), (2, .int v100), (0, .ref (ad 8 0)), (1, .int v1)]) C.1 C.2.1 dX8_isStop_33 hl (k := 3) rfl rfl (by decide) rfl (fun ls hl => ?_)
  refine lv_goto (tgt := 4) C.1 C.2.1 dX8_isStop_36 (by decide) ?_
  exact hk4 _ v1 v100 (v3 + 1) _ _ _ S (lv_sub hl [2, 3, 1, 0] rfl)  hf
set_option maxHeartbeats 4000000 in
set_option maxRecDepth 100000 in
theorem w_X8_isStop_27 {p : Program} {l : Launch} {e : Env} {s : State} {m : MethodId} {args : Array Value} {below : List Frame} {meth : Method} {c : Code} {G : Gx} {ad : Ad} {res : Int32 × Sg} (C : Cx p s m args meth c yX8_isStop.cls cX8_isStop 5 (Option.some FieldType.boolean) G) (k4 : Sg → Int32 → Int32 → Int32 → Option (Int32 × Sg)) (hk4 : ∀ (σ : Sg) (v1 : Int32) (v2 : Int32) (v3 : Int32) (H : Heap) (locs : List Loc) (ls : Array Slot), z_S 1 G ad σ (z_A 1 ad s.heap.size) s.heap H locs → lv_has ls 5 [(0, .ref (ad 8 0)), (1, .int v1), (2, .int v2), (3, .int v3)] → k4 σ v1 v2 v3 = some res → W p l e { frames := 3, cells := 0, slots := 0, locals := 66 } s m args below meth c H locs 0 0 (MQ below (va_Qi (S := Unit) (fun r1 _ => r1 = res.1) (fun _ t => z_W 1 G ad res.2 t.heap) (z_A 1 ad s.heap.size)) args s 0 0 (z_A 1 ad s.heap.size)) (F0 m 4 ls [])) : ∀ (σ : Sg) (v1 : Int32) (v3 : Int32) (H : Heap) (locs : List Loc) (ls : Array Slot), z_S 1 G ad σ (z_A 1 ad s.heap.size) s.heap H locs → lv_has ls 5 [(0, .ref (ad 8 0)), (1, .int v1), (3, .int v3)] → f_X8_isStop_27 k4 σ v1 v3 = some res → W p l e { frames := 3, cells := 0, slots := 0, locals := 66 } s m args below meth c H locs 0 0 (MQ below (va_Qi (S := Unit) (fun r1 _ => r1 = res.1) (fun _ t => z_W 1 G ad res.2 t.heap) (z_A 1 ad s.heap.size)) args s 0 0 (z_A 1 ad s.heap.size)) (F0 m 27 ls []) := by
  intro σ v1 v3 H locs ls S hl  hf
  unfold f_X8_isStop_27 at hf
  refine lv_iconst (v := 1) C.1 C.2.1 dX8_isStop_27 (by decide) ?_
  refine lv_goto (tgt := 32) C.1 C.2.1 dX8_isStop_28 (by decide) ?_
  exact w_X8_isStop_32 C k4 hk4 _ v1 v3 1 _ _ _ S (lv_sub hl [0, 1, 2] rfl) hf
set_option maxHeartbeats 4000000 in
set_option maxRecDepth 100000 in
theorem w_X8_isStop_4 {p : Program} {l : Launch} {e : Env} {s : State} {m : MethodId} {args : Array Value} {below : List Frame} {meth : Method} {c : Code} {G : Gx} {ad : Ad} {res : Int32 × Sg} (C : Cx p s m args meth c yX8_isStop.cls cX8_isStop 5 (Option.some FieldType.boolean) G)  : ∀ n : Nat, ∀ (σ : Sg) (v1 : Int32) (v2 : Int32) (v3 : Int32) (H : Heap) (locs : List Loc) (ls : Array Slot), z_S 1 G ad σ (z_A 1 ad s.heap.size) s.heap H locs → lv_has ls 5 [(0, .ref (ad 8 0)), (1, .int v1), (2, .int v2), (3, .int v3)] → f_X8_isStop_4  n σ v1 v2 v3 = some res → W p l e { frames := 3, cells := 0, slots := 0, locals := 66 } s m args below meth c H locs 0 0 (MQ below (va_Qi (S := Unit) (fun r1 _ => r1 = res.1) (fun _ t => z_W 1 G ad res.2 t.heap) (z_A 1 ad s.heap.size)) args s 0 0 (z_A 1 ad s.heap.size)) (F0 m 4 ls []) := by
  intro n
  induction n with
  | zero => intro σ v1 v2 v3 H locs ls S hl  hf; cases hf
  | succ n ih =>
    intro σ v1 v2 v3 H locs ls S hl  hf
    rw [f_X8_isStop_4_s] at hf
    refine lv_iload_n C.1 C.2.1 dX8_isStop_4 rfl (lv_at hl 3 rfl) ?_
    refine lv_aload_n C.1 C.2.1 dX8_isStop_5 rfl (lv_at hl 0 rfl) ?_
    refine z_getR C S 8 0 rfl (by decide) cf_8 0 (by decide) _ (gr_8_0 G ad 0) tw_6_118 dX8_isStop_6 ?_
    refine lv_iconst (v := 2) C.1 C.2.1 dX8_isStop_9 (by decide) ?_
    refine z_ialdL C S 30 0 rfl (by decide) 2111 (fun _ => rfl) 2 (by decide) (by decide) (by decide) dX8_isStop_10 ?_
    refine lv_icmp_ge (tgt := 39) C.1 C.2.1 dX8_isStop_11 (by decide) (fun c_11 => ?_) (fun c_11 => ?_)
    · rw [if_pos c_11] at hf
      exact w_X8_isStop_39 C _ v1 v2 _ _ _ S (lv_sub hl [0, 1, 2] rfl) hf
    · rw [if_neg c_11] at hf
      refine lv_iload_n C.1 C.2.1 dX8_isStop_14 rfl (lv_at hl 2 rfl) ?_
      refine lv_if_ne (tgt := 27) C.1 C.2.1 dX8_isStop_15 (by decide) (fun c_15 => ?_) (fun c_15 => ?_)
      · rw [if_neg c_15] at hf
        exact w_X8_isStop_27 C (f_X8_isStop_4 n) ih _ v1 v3 _ _ _ S (lv_sub hl [0, 1, 3] rfl) hf
      · rw [if_pos c_15] at hf
        refine lv_aload_n C.1 C.2.1 dX8_isStop_18 rfl (lv_at hl 0 rfl) ?_
        refine lv_iload_n C.1 C.2.1 dX8_isStop_19 rfl (lv_at hl 1 rfl) ?_
        refine lv_iload_n C.1 C.2.1 dX8_isStop_20 rfl (lv_at hl 3 rfl) ?_
        obtain ⟨r2, σ1, q_21, hf⟩ := bib hf
        refine z_callI C S 8 0 rfl (by decide) cf_8 ⟨_, rfl⟩ [.int v1, .int v3] (m_X8_getsOff l G ad σ v1 v3 r2 σ1 q_21 _) kv_X8_getsOff tw_8_14 ⟨Nat.le_of_ble_eq_true rfl, Nat.le_of_ble_eq_true rfl⟩ rfl rfl (Nat.le_of_ble_eq_true rfl) hl.1 ⟨Nat.le_of_ble_eq_true rfl, Nat.le_of_ble_eq_true rfl⟩ dX8_isStop_21 (fun H locs S => ?_)
        refine lv_if_eq (tgt := 31) C.1 C.2.1 dX8_isStop_24 (by decide) (fun c_24 => ?_) (fun c_24 => ?_)
        · rw [if_pos c_24] at hf
          refine lv_iconst (v := 0) C.1 C.2.1 dX8_isStop_31 (by decide) ?_
          exact w_X8_isStop_32 C (f_X8_isStop_4 n) ih _ v1 v3 0 _ _ _ S (lv_sub hl [0, 1, 3] rfl) hf
        · rw [if_neg c_24] at hf
          exact w_X8_isStop_27 C (f_X8_isStop_4 n) ih _ v1 v3 _ _ _ S (lv_sub hl [0, 1, 3] rfl) hf
set_option maxHeartbeats 4000000 in
set_option maxRecDepth 100000 in
theorem w_X8_isStop_0 {p : Program} {l : Launch} {e : Env} {s : State} {m : MethodId} {args : Array Value} {below : List Frame} {meth : Method} {c : Code} {G : Gx} {ad : Ad} {res : Int32 × Sg} (C : Cx p s m args meth c yX8_isStop.cls cX8_isStop 5 (Option.some FieldType.boolean) G)  : ∀ (σ : Sg) (v1 : Int32) (H : Heap) (locs : List Loc) (ls : Array Slot), z_S 1 G ad σ (z_A 1 ad s.heap.size) s.heap H locs → lv_has ls 5 [(0, .ref (ad 8 0)), (1, .int v1)] → f_X8_isStop  σ v1 = some res → W p l e { frames := 3, cells := 0, slots := 0, locals := 66 } s m args below meth c H locs 0 0 (MQ below (va_Qi (S := Unit) (fun r1 _ => r1 = res.1) (fun _ t => z_W 1 G ad res.2 t.heap) (z_A 1 ad s.heap.size)) args s 0 0 (z_A 1 ad s.heap.size)) (F0 m 0 ls []) := by
  intro σ v1 H locs ls S hl  hf
  unfold f_X8_isStop at hf
  refine lv_iconst (v := 0) C.1 C.2.1 dX8_isStop_0 (by decide) ?_
  refine lv_istore_n (lv' := [(2, .int 0), (0, .ref (ad 8 0)), (1, .int v1)]) C.1 C.2.1 dX8_isStop_1 rfl hl (by decide) rfl (fun ls hl => ?_)
  refine lv_iconst (v := 0) C.1 C.2.1 dX8_isStop_2 (by decide) ?_
  refine lv_istore_n (lv' := [(3, .int 0), (2, .int 0), (0, .ref (ad 8 0)), (1, .int v1)]) C.1 C.2.1 dX8_isStop_3 rfl hl (by decide) rfl (fun ls hl => ?_)
  exact w_X8_isStop_4 C FU _ v1 0 0 _ _ _ S (lv_sub hl [2, 3, 1, 0] rfl) hf
theorem kv_X8_isStop : KV yX8_isStop cX8_isStop 5 (Option.some FieldType.boolean) 1 := ⟨tw_8_13, tw_8_12, tw_p_89, tw_1_10, by decide, by decide, by decide +kernel⟩
theorem m_X8_isStop (l : Launch) (G : Gx) (ad : Ad) (σ : Sg) (v1 : Int32) (r : Int32) (σ' : Sg)  (hf : f_X8_isStop σ v1 = some (r, σ')) (sz : Nat) : z_MI l yX8_isStop cX8_isStop 5 (Option.some FieldType.boolean) 3 66 1 G ad σ sz [.ref (ad 8 0), .int v1] r σ' := by
  refine z_begin (by decide +kernel) (Nat.le_of_ble_eq_true rfl) [(0, .ref (ad 8 0)), (1, .int v1)] rfl (fun p e s m args below meth c ls C hz S hl => ?_)
  subst hz
  exact w_X8_isStop_0 (res := (r, σ')) C σ v1 _ _ _ S hl  hf

theorem dX8_causeOf_0 : decode cX8_causeOf 0 = .ok (.aload_n 0, 1) := by decide +kernel
theorem dX8_causeOf_1 : decode cX8_causeOf 1 = .ok (.getfield 7, 3) := by decide +kernel
theorem dX8_causeOf_4 : decode cX8_causeOf 4 = .ok (.sipush 607, 3) := by decide +kernel
theorem dX8_causeOf_7 : decode cX8_causeOf 7 = .ok (.iload_n 1, 1) := by decide +kernel
theorem dX8_causeOf_8 : decode cX8_causeOf 8 = .ok (.iload_n 2, 1) := by decide +kernel
theorem dX8_causeOf_9 : decode cX8_causeOf 9 = .ok (.invokestatic 65, 3) := by decide +kernel
theorem dX8_causeOf_12 : decode cX8_causeOf 12 = .ok (.iaload, 1) := by decide +kernel
theorem dX8_causeOf_13 : decode cX8_causeOf 13 = .ok (.istore_n 3, 1) := by decide +kernel
theorem dX8_causeOf_14 : decode cX8_causeOf 14 = .ok (.iload_n 3, 1) := by decide +kernel
theorem dX8_causeOf_15 : decode cX8_causeOf 15 = .ok (.iconst 3, 1) := by decide +kernel
theorem dX8_causeOf_16 : decode cX8_causeOf 16 = .ok (.ishr, 1) := by decide +kernel
theorem dX8_causeOf_17 : decode cX8_causeOf 17 = .ok (.iconst 1, 1) := by decide +kernel
theorem dX8_causeOf_18 : decode cX8_causeOf 18 = .ok (.iand, 1) := by decide +kernel
theorem dX8_causeOf_19 : decode cX8_causeOf 19 = .ok (.iconst 1, 1) := by decide +kernel
theorem dX8_causeOf_20 : decode cX8_causeOf 20 = .ok (.if_icmp .ne 7, 3) := by decide +kernel
theorem dX8_causeOf_23 : decode cX8_causeOf 23 = .ok (.iconst 1, 1) := by decide +kernel
theorem dX8_causeOf_24 : decode cX8_causeOf 24 = .ok (.goto 30, 3) := by decide +kernel
theorem dX8_causeOf_27 : decode cX8_causeOf 27 = .ok (.iload_n 3, 1) := by decide +kernel
theorem dX8_causeOf_28 : decode cX8_causeOf 28 = .ok (.iconst 2, 1) := by decide +kernel
theorem dX8_causeOf_29 : decode cX8_causeOf 29 = .ok (.ishr, 1) := by decide +kernel
theorem dX8_causeOf_30 : decode cX8_causeOf 30 = .ok (.iconst 1, 1) := by decide +kernel
theorem dX8_causeOf_31 : decode cX8_causeOf 31 = .ok (.iand, 1) := by decide +kernel
theorem dX8_causeOf_32 : decode cX8_causeOf 32 = .ok (.iconst 1, 1) := by decide +kernel
theorem dX8_causeOf_33 : decode cX8_causeOf 33 = .ok (.if_icmp .ne 7, 3) := by decide +kernel
theorem dX8_causeOf_36 : decode cX8_causeOf 36 = .ok (.iconst 2, 1) := by decide +kernel
theorem dX8_causeOf_37 : decode cX8_causeOf 37 = .ok (.goto 17, 3) := by decide +kernel
theorem dX8_causeOf_40 : decode cX8_causeOf 40 = .ok (.iload_n 3, 1) := by decide +kernel
theorem dX8_causeOf_41 : decode cX8_causeOf 41 = .ok (.iconst 1, 1) := by decide +kernel
theorem dX8_causeOf_42 : decode cX8_causeOf 42 = .ok (.ishr, 1) := by decide +kernel
theorem dX8_causeOf_43 : decode cX8_causeOf 43 = .ok (.iconst 1, 1) := by decide +kernel
theorem dX8_causeOf_44 : decode cX8_causeOf 44 = .ok (.iand, 1) := by decide +kernel
theorem dX8_causeOf_45 : decode cX8_causeOf 45 = .ok (.iconst 1, 1) := by decide +kernel
theorem dX8_causeOf_46 : decode cX8_causeOf 46 = .ok (.if_icmp .ne 7, 3) := by decide +kernel
theorem dX8_causeOf_49 : decode cX8_causeOf 49 = .ok (.iconst 3, 1) := by decide +kernel
theorem dX8_causeOf_50 : decode cX8_causeOf 50 = .ok (.goto 4, 3) := by decide +kernel
theorem dX8_causeOf_53 : decode cX8_causeOf 53 = .ok (.iconst 4, 1) := by decide +kernel
theorem dX8_causeOf_54 : decode cX8_causeOf 54 = .ok (.ireturn, 1) := by decide +kernel
/-! BusLiftsModel.causeOf(II)I -/
noncomputable def f_X8_causeOf_54  (σ : Sg) (v100 : Int32) : Option (Int32 × Sg) := some (v100, σ)
noncomputable def f_X8_causeOf  (σ : Sg) (v1 : Int32) (v2 : Int32) : Option (Int32 × Sg) := bi (f_X8_of σ 607 v1 v2) fun r2 σ1 => (if r2 < 0 ∨ 2111 ≤ (r2).toNatClampNeg then none else (if (((σ1 30 0 (r2).toNatClampNeg) >>> (3 &&& 31)) &&& 1) = 1 then (f_X8_causeOf_54 σ1 1) else (if (((σ1 30 0 (r2).toNatClampNeg) >>> (2 &&& 31)) &&& 1) = 1 then (f_X8_causeOf_54 σ1 2) else (if (((σ1 30 0 (r2).toNatClampNeg) >>> (1 &&& 31)) &&& 1) = 1 then (f_X8_causeOf_54 σ1 3) else (f_X8_causeOf_54 σ1 4)))))
set_option maxHeartbeats 4000000 in
set_option maxRecDepth 100000 in
theorem w_X8_causeOf_54 {p : Program} {l : Launch} {e : Env} {s : State} {m : MethodId} {args : Array Value} {below : List Frame} {meth : Method} {c : Code} {G : Gx} {ad : Ad} {res : Int32 × Sg} (C : Cx p s m args meth c yX8_causeOf.cls cX8_causeOf 4 (Option.some FieldType.int) G)  : ∀ (σ : Sg) (v100 : Int32) (H : Heap) (locs : List Loc) (ls : Array Slot), z_S 1 G ad σ (z_A 1 ad s.heap.size) s.heap H locs → lv_has ls 4 [] → f_X8_causeOf_54  σ v100 = some res → W p l e { frames := 1, cells := 0, slots := 0, locals := 22 } s m args below meth c H locs 0 0 (MQ below (va_Qi (S := Unit) (fun r1 _ => r1 = res.1) (fun _ t => z_W 1 G ad res.2 t.heap) (z_A 1 ad s.heap.size)) args s 0 0 (z_A 1 ad s.heap.size)) (F0 m 54 ls [.int v100]) := by
  intro σ v100 H locs ls S hl  hf
  unfold f_X8_causeOf_54 at hf
  exact z_iret C S hf dX8_causeOf_54
set_option maxHeartbeats 4000000 in
set_option maxRecDepth 100000 in
theorem w_X8_causeOf_0 {p : Program} {l : Launch} {e : Env} {s : State} {m : MethodId} {args : Array Value} {below : List Frame} {meth : Method} {c : Code} {G : Gx} {ad : Ad} {res : Int32 × Sg} (C : Cx p s m args meth c yX8_causeOf.cls cX8_causeOf 4 (Option.some FieldType.int) G)  : ∀ (σ : Sg) (v1 : Int32) (v2 : Int32) (H : Heap) (locs : List Loc) (ls : Array Slot), z_S 1 G ad σ (z_A 1 ad s.heap.size) s.heap H locs → lv_has ls 4 [(0, .ref (ad 8 0)), (1, .int v1), (2, .int v2)] → f_X8_causeOf  σ v1 v2 = some res → W p l e { frames := 1, cells := 0, slots := 0, locals := 22 } s m args below meth c H locs 0 0 (MQ below (va_Qi (S := Unit) (fun r1 _ => r1 = res.1) (fun _ t => z_W 1 G ad res.2 t.heap) (z_A 1 ad s.heap.size)) args s 0 0 (z_A 1 ad s.heap.size)) (F0 m 0 ls []) := by
  intro σ v1 v2 H locs ls S hl  hf
  unfold f_X8_causeOf at hf
  refine lv_aload_n C.1 C.2.1 dX8_causeOf_0 rfl (lv_at hl 0 rfl) ?_
  refine z_getR C S 8 0 rfl (by decide) cf_8 0 (by decide) _ (gr_8_0 G ad 0) tw_6_118 dX8_causeOf_1 ?_
  refine lv_sipush (v := 607) C.1 C.2.1 dX8_causeOf_4 (by decide) ?_
  refine lv_iload_n C.1 C.2.1 dX8_causeOf_7 rfl (lv_at hl 1 rfl) ?_
  refine lv_iload_n C.1 C.2.1 dX8_causeOf_8 rfl (lv_at hl 2 rfl) ?_
  obtain ⟨r2, σ1, q_9, hf⟩ := bib hf
  refine z_callSI C S [.int 607, .int v1, .int v2] (m_X8_of l G ad σ 607 v1 v2 r2 σ1 q_9 _) kv_X8_of tw_7_76 ⟨Nat.le_of_ble_eq_true rfl, Nat.le_of_ble_eq_true rfl⟩ rfl rfl (Nat.le_of_ble_eq_true rfl) hl.1 ⟨Nat.le_of_ble_eq_true rfl, Nat.le_of_ble_eq_true rfl⟩ dX8_causeOf_9 (fun H locs S => ?_)
  obtain ⟨g_12, hf⟩ := gd hf
  refine z_iald C S 30 0 rfl (by decide) 2111 (fun _ => rfl) g_12 dX8_causeOf_12 ?_
  refine lv_istore_n (lv' := [(3, .int (σ1 30 0 (r2).toNatClampNeg)), (0, .ref (ad 8 0)), (1, .int v1), (2, .int v2)]) C.1 C.2.1 dX8_causeOf_13 rfl hl (by decide) rfl (fun ls hl => ?_)
  refine lv_iload_n C.1 C.2.1 dX8_causeOf_14 rfl (lv_at hl 0 rfl) ?_
  refine lv_iconst (v := 3) C.1 C.2.1 dX8_causeOf_15 (by decide) ?_
  refine lv_ishr C.1 C.2.1 dX8_causeOf_16 ?_
  refine lv_iconst (v := 1) C.1 C.2.1 dX8_causeOf_17 (by decide) ?_
  refine lv_iand C.1 C.2.1 dX8_causeOf_18 ?_
  refine lv_iconst (v := 1) C.1 C.2.1 dX8_causeOf_19 (by decide) ?_
  refine lv_icmp_ne (tgt := 27) C.1 C.2.1 dX8_causeOf_20 (by decide) (fun c_20 => ?_) (fun c_20 => ?_)
  · rw [if_neg c_20] at hf
    refine lv_iload_n C.1 C.2.1 dX8_causeOf_27 rfl (lv_at hl 0 rfl) ?_
    refine lv_iconst (v := 2) C.1 C.2.1 dX8_causeOf_28 (by decide) ?_
    refine lv_ishr C.1 C.2.1 dX8_causeOf_29 ?_
    refine lv_iconst (v := 1) C.1 C.2.1 dX8_causeOf_30 (by decide) ?_
    refine lv_iand C.1 C.2.1 dX8_causeOf_31 ?_
    refine lv_iconst (v := 1) C.1 C.2.1 dX8_causeOf_32 (by decide) ?_
    refine lv_icmp_ne (tgt := 40) C.1 C.2.1 dX8_causeOf_33 (by decide) (fun c_33 => ?_) (fun c_33 => ?_)
    · rw [if_neg c_33] at hf
      refine lv_iload_n C.1 C.2.1 dX8_causeOf_40 rfl (lv_at hl 0 rfl) ?_
      refine lv_iconst (v := 1) C.1 C.2.1 dX8_causeOf_41 (by decide) ?_
      refine lv_ishr C.1 C.2.1 dX8_causeOf_42 ?_
      refine lv_iconst (v := 1) C.1 C.2.1 dX8_causeOf_43 (by decide) ?_
      refine lv_iand C.1 C.2.1 dX8_causeOf_44 ?_
      refine lv_iconst (v := 1) C.1 C.2.1 dX8_causeOf_45 (by decide) ?_
      refine lv_icmp_ne (tgt := 53) C.1 C.2.1 dX8_causeOf_46 (by decide) (fun c_46 => ?_) (fun c_46 => ?_)
      · rw [if_neg c_46] at hf
        refine lv_iconst (v := 4) C.1 C.2.1 dX8_causeOf_53 (by decide) ?_
        exact w_X8_causeOf_54 C _ 4 _ _ _ S (lv_sub hl [] rfl) hf
      · rw [if_pos c_46] at hf
        refine lv_iconst (v := 3) C.1 C.2.1 dX8_causeOf_49 (by decide) ?_
        refine lv_goto (tgt := 54) C.1 C.2.1 dX8_causeOf_50 (by decide) ?_
        exact w_X8_causeOf_54 C _ 3 _ _ _ S (lv_sub hl [] rfl) hf
    · rw [if_pos c_33] at hf
      refine lv_iconst (v := 2) C.1 C.2.1 dX8_causeOf_36 (by decide) ?_
      refine lv_goto (tgt := 54) C.1 C.2.1 dX8_causeOf_37 (by decide) ?_
      exact w_X8_causeOf_54 C _ 2 _ _ _ S (lv_sub hl [] rfl) hf
  · rw [if_pos c_20] at hf
    refine lv_iconst (v := 1) C.1 C.2.1 dX8_causeOf_23 (by decide) ?_
    refine lv_goto (tgt := 54) C.1 C.2.1 dX8_causeOf_24 (by decide) ?_
    exact w_X8_causeOf_54 C _ 1 _ _ _ S (lv_sub hl [] rfl) hf
theorem kv_X8_causeOf : KV yX8_causeOf cX8_causeOf 4 (Option.some FieldType.int) 2 := ⟨tw_8_29, tw_8_28, tw_p_93, tw_1_10, by decide, by decide, by decide +kernel⟩
theorem m_X8_causeOf (l : Launch) (G : Gx) (ad : Ad) (σ : Sg) (v1 : Int32) (v2 : Int32) (r : Int32) (σ' : Sg)  (hf : f_X8_causeOf σ v1 v2 = some (r, σ')) (sz : Nat) : z_MI l yX8_causeOf cX8_causeOf 4 (Option.some FieldType.int) 1 22 1 G ad σ sz [.ref (ad 8 0), .int v1, .int v2] r σ' := by
  refine z_begin (by decide +kernel) (Nat.le_of_ble_eq_true rfl) [(0, .ref (ad 8 0)), (1, .int v1), (2, .int v2)] rfl (fun p e s m args below meth c ls C hz S hl => ?_)
  subst hz
  exact w_X8_causeOf_0 (res := (r, σ')) C σ v1 v2 _ _ _ S hl  hf

theorem dX8_stopsAt_0 : decode cX8_stopsAt 0 = .ok (.aload_n 0, 1) := by decide +kernel
theorem dX8_stopsAt_1 : decode cX8_stopsAt 1 = .ok (.getfield 7, 3) := by decide +kernel
theorem dX8_stopsAt_4 : decode cX8_stopsAt 4 = .ok (.bipush 47, 2) := by decide +kernel
theorem dX8_stopsAt_6 : decode cX8_stopsAt 6 = .ok (.iload_n 1, 1) := by decide +kernel
theorem dX8_stopsAt_7 : decode cX8_stopsAt 7 = .ok (.iadd, 1) := by decide +kernel
theorem dX8_stopsAt_8 : decode cX8_stopsAt 8 = .ok (.dup2, 1) := by decide +kernel
theorem dX8_stopsAt_9 : decode cX8_stopsAt 9 = .ok (.iaload, 1) := by decide +kernel
theorem dX8_stopsAt_10 : decode cX8_stopsAt 10 = .ok (.iconst 1, 1) := by decide +kernel
theorem dX8_stopsAt_11 : decode cX8_stopsAt 11 = .ok (.iadd, 1) := by decide +kernel
theorem dX8_stopsAt_12 : decode cX8_stopsAt 12 = .ok (.iastore, 1) := by decide +kernel
theorem dX8_stopsAt_13 : decode cX8_stopsAt 13 = .ok (.aload_n 0, 1) := by decide +kernel
theorem dX8_stopsAt_14 : decode cX8_stopsAt 14 = .ok (.getfield 7, 3) := by decide +kernel
theorem dX8_stopsAt_17 : decode cX8_stopsAt 17 = .ok (.bipush 31, 2) := by decide +kernel
theorem dX8_stopsAt_19 : decode cX8_stopsAt 19 = .ok (.iload_n 1, 1) := by decide +kernel
theorem dX8_stopsAt_20 : decode cX8_stopsAt 20 = .ok (.iadd, 1) := by decide +kernel
theorem dX8_stopsAt_21 : decode cX8_stopsAt 21 = .ok (.aload_n 0, 1) := by decide +kernel
theorem dX8_stopsAt_22 : decode cX8_stopsAt 22 = .ok (.getfield 7, 3) := by decide +kernel
theorem dX8_stopsAt_25 : decode cX8_stopsAt 25 = .ok (.bipush 7, 2) := by decide +kernel
theorem dX8_stopsAt_27 : decode cX8_stopsAt 27 = .ok (.iaload, 1) := by decide +kernel
theorem dX8_stopsAt_28 : decode cX8_stopsAt 28 = .ok (.iastore, 1) := by decide +kernel
theorem dX8_stopsAt_29 : decode cX8_stopsAt 29 = .ok (.iconst 0, 1) := by decide +kernel
theorem dX8_stopsAt_30 : decode cX8_stopsAt 30 = .ok (.istore_n 2, 1) := by decide +kernel
theorem dX8_stopsAt_31 : decode cX8_stopsAt 31 = .ok (.iload_n 2, 1) := by decide +kernel
theorem dX8_stopsAt_32 : decode cX8_stopsAt 32 = .ok (.aload_n 0, 1) := by decide +kernel
theorem dX8_stopsAt_33 : decode cX8_stopsAt 33 = .ok (.getfield 7, 3) := by decide +kernel
theorem dX8_stopsAt_36 : decode cX8_stopsAt 36 = .ok (.iconst 2, 1) := by decide +kernel
theorem dX8_stopsAt_37 : decode cX8_stopsAt 37 = .ok (.iaload, 1) := by decide +kernel
theorem dX8_stopsAt_38 : decode cX8_stopsAt 38 = .ok (.if_icmp .ge 47, 3) := by decide +kernel
theorem dX8_stopsAt_41 : decode cX8_stopsAt 41 = .ok (.aload_n 0, 1) := by decide +kernel
theorem dX8_stopsAt_42 : decode cX8_stopsAt 42 = .ok (.iload_n 1, 1) := by decide +kernel
theorem dX8_stopsAt_43 : decode cX8_stopsAt 43 = .ok (.iload_n 2, 1) := by decide +kernel
theorem dX8_stopsAt_44 : decode cX8_stopsAt 44 = .ok (.invokevirtual 120, 3) := by decide +kernel
theorem dX8_stopsAt_47 : decode cX8_stopsAt 47 = .ok (.ifCond .ne 6, 3) := by decide +kernel
theorem dX8_stopsAt_50 : decode cX8_stopsAt 50 = .ok (.goto 29, 3) := by decide +kernel
theorem dX8_stopsAt_53 : decode cX8_stopsAt 53 = .ok (.aload_n 0, 1) := by decide +kernel
theorem dX8_stopsAt_54 : decode cX8_stopsAt 54 = .ok (.getfield 7, 3) := by decide +kernel
theorem dX8_stopsAt_57 : decode cX8_stopsAt 57 = .ok (.bipush 127, 2) := by decide +kernel
theorem dX8_stopsAt_59 : decode cX8_stopsAt 59 = .ok (.iload_n 2, 1) := by decide +kernel
theorem dX8_stopsAt_60 : decode cX8_stopsAt 60 = .ok (.iadd, 1) := by decide +kernel
theorem dX8_stopsAt_61 : decode cX8_stopsAt 61 = .ok (.iconst 3, 1) := by decide +kernel
theorem dX8_stopsAt_62 : decode cX8_stopsAt 62 = .ok (.iastore, 1) := by decide +kernel
theorem dX8_stopsAt_63 : decode cX8_stopsAt 63 = .ok (.aload_n 0, 1) := by decide +kernel
theorem dX8_stopsAt_64 : decode cX8_stopsAt 64 = .ok (.getfield 7, 3) := by decide +kernel
theorem dX8_stopsAt_67 : decode cX8_stopsAt 67 = .ok (.sipush 199, 3) := by decide +kernel
theorem dX8_stopsAt_70 : decode cX8_stopsAt 70 = .ok (.iload_n 2, 1) := by decide +kernel
theorem dX8_stopsAt_71 : decode cX8_stopsAt 71 = .ok (.iadd, 1) := by decide +kernel
theorem dX8_stopsAt_72 : decode cX8_stopsAt 72 = .ok (.aload_n 0, 1) := by decide +kernel
theorem dX8_stopsAt_73 : decode cX8_stopsAt 73 = .ok (.getfield 7, 3) := by decide +kernel
theorem dX8_stopsAt_76 : decode cX8_stopsAt 76 = .ok (.iconst 3, 1) := by decide +kernel
theorem dX8_stopsAt_77 : decode cX8_stopsAt 77 = .ok (.iaload, 1) := by decide +kernel
theorem dX8_stopsAt_78 : decode cX8_stopsAt 78 = .ok (.iastore, 1) := by decide +kernel
theorem dX8_stopsAt_79 : decode cX8_stopsAt 79 = .ok (.iinc 2 1, 3) := by decide +kernel
theorem dX8_stopsAt_82 : decode cX8_stopsAt 82 = .ok (.goto (-51), 3) := by decide +kernel
theorem dX8_stopsAt_85 : decode cX8_stopsAt 85 = .ok (.iconst 0, 1) := by decide +kernel
theorem dX8_stopsAt_86 : decode cX8_stopsAt 86 = .ok (.istore_n 2, 1) := by decide +kernel
theorem dX8_stopsAt_87 : decode cX8_stopsAt 87 = .ok (.iload_n 2, 1) := by decide +kernel
theorem dX8_stopsAt_88 : decode cX8_stopsAt 88 = .ok (.aload_n 0, 1) := by decide +kernel
theorem dX8_stopsAt_89 : decode cX8_stopsAt 89 = .ok (.getfield 7, 3) := by decide +kernel
theorem dX8_stopsAt_92 : decode cX8_stopsAt 92 = .ok (.iconst 2, 1) := by decide +kernel
theorem dX8_stopsAt_93 : decode cX8_stopsAt 93 = .ok (.iaload, 1) := by decide +kernel
theorem dX8_stopsAt_94 : decode cX8_stopsAt 94 = .ok (.if_icmp .ge 160, 3) := by decide +kernel
theorem dX8_stopsAt_97 : decode cX8_stopsAt 97 = .ok (.aload_n 0, 1) := by decide +kernel
theorem dX8_stopsAt_98 : decode cX8_stopsAt 98 = .ok (.iload_n 1, 1) := by decide +kernel
theorem dX8_stopsAt_99 : decode cX8_stopsAt 99 = .ok (.iload_n 2, 1) := by decide +kernel
theorem dX8_stopsAt_100 : decode cX8_stopsAt 100 = .ok (.invokevirtual 123, 3) := by decide +kernel
theorem dX8_stopsAt_103 : decode cX8_stopsAt 103 = .ok (.ifCond .ne 6, 3) := by decide +kernel
theorem dX8_stopsAt_106 : decode cX8_stopsAt 106 = .ok (.goto 142, 3) := by decide +kernel
theorem dX8_stopsAt_109 : decode cX8_stopsAt 109 = .ok (.aload_n 0, 1) := by decide +kernel
theorem dX8_stopsAt_110 : decode cX8_stopsAt 110 = .ok (.getfield 7, 3) := by decide +kernel
theorem dX8_stopsAt_113 : decode cX8_stopsAt 113 = .ok (.bipush 127, 2) := by decide +kernel
theorem dX8_stopsAt_115 : decode cX8_stopsAt 115 = .ok (.iload_n 2, 1) := by decide +kernel
theorem dX8_stopsAt_116 : decode cX8_stopsAt 116 = .ok (.iadd, 1) := by decide +kernel
theorem dX8_stopsAt_117 : decode cX8_stopsAt 117 = .ok (.iaload, 1) := by decide +kernel
theorem dX8_stopsAt_118 : decode cX8_stopsAt 118 = .ok (.iconst 1, 1) := by decide +kernel
theorem dX8_stopsAt_119 : decode cX8_stopsAt 119 = .ok (.if_icmp .eq 53, 3) := by decide +kernel
theorem dX8_stopsAt_122 : decode cX8_stopsAt 122 = .ok (.aload_n 0, 1) := by decide +kernel
theorem dX8_stopsAt_123 : decode cX8_stopsAt 123 = .ok (.getfield 7, 3) := by decide +kernel
theorem dX8_stopsAt_126 : decode cX8_stopsAt 126 = .ok (.sipush 319, 3) := by decide +kernel
theorem dX8_stopsAt_129 : decode cX8_stopsAt 129 = .ok (.iload_n 1, 1) := by decide +kernel
theorem dX8_stopsAt_130 : decode cX8_stopsAt 130 = .ok (.iload_n 2, 1) := by decide +kernel
theorem dX8_stopsAt_131 : decode cX8_stopsAt 131 = .ok (.invokestatic 65, 3) := by decide +kernel
theorem dX8_stopsAt_134 : decode cX8_stopsAt 134 = .ok (.iconst 0, 1) := by decide +kernel
theorem dX8_stopsAt_135 : decode cX8_stopsAt 135 = .ok (.iastore, 1) := by decide +kernel
theorem dX8_stopsAt_136 : decode cX8_stopsAt 136 = .ok (.aload_n 0, 1) := by decide +kernel
theorem dX8_stopsAt_137 : decode cX8_stopsAt 137 = .ok (.getfield 7, 3) := by decide +kernel
theorem dX8_stopsAt_140 : decode cX8_stopsAt 140 = .ok (.bipush 51, 2) := by decide +kernel
theorem dX8_stopsAt_142 : decode cX8_stopsAt 142 = .ok (.iload_n 1, 1) := by decide +kernel
theorem dX8_stopsAt_143 : decode cX8_stopsAt 143 = .ok (.iadd, 1) := by decide +kernel
theorem dX8_stopsAt_144 : decode cX8_stopsAt 144 = .ok (.dup2, 1) := by decide +kernel
theorem dX8_stopsAt_145 : decode cX8_stopsAt 145 = .ok (.iaload, 1) := by decide +kernel
theorem dX8_stopsAt_146 : decode cX8_stopsAt 146 = .ok (.iconst 1, 1) := by decide +kernel
theorem dX8_stopsAt_147 : decode cX8_stopsAt 147 = .ok (.iadd, 1) := by decide +kernel
theorem dX8_stopsAt_148 : decode cX8_stopsAt 148 = .ok (.iastore, 1) := by decide +kernel
theorem dX8_stopsAt_149 : decode cX8_stopsAt 149 = .ok (.aload_n 0, 1) := by decide +kernel
theorem dX8_stopsAt_150 : decode cX8_stopsAt 150 = .ok (.getfield 7, 3) := by decide +kernel
theorem dX8_stopsAt_153 : decode cX8_stopsAt 153 = .ok (.bipush 19, 2) := by decide +kernel
theorem dX8_stopsAt_155 : decode cX8_stopsAt 155 = .ok (.aload_n 0, 1) := by decide +kernel
theorem dX8_stopsAt_156 : decode cX8_stopsAt 156 = .ok (.iload_n 1, 1) := by decide +kernel
theorem dX8_stopsAt_157 : decode cX8_stopsAt 157 = .ok (.iload_n 2, 1) := by decide +kernel
theorem dX8_stopsAt_158 : decode cX8_stopsAt 158 = .ok (.invokevirtual 126, 3) := by decide +kernel
theorem dX8_stopsAt_161 : decode cX8_stopsAt 161 = .ok (.iadd, 1) := by decide +kernel
theorem dX8_stopsAt_162 : decode cX8_stopsAt 162 = .ok (.iconst 1, 1) := by decide +kernel
theorem dX8_stopsAt_163 : decode cX8_stopsAt 163 = .ok (.isub, 1) := by decide +kernel
theorem dX8_stopsAt_164 : decode cX8_stopsAt 164 = .ok (.dup2, 1) := by decide +kernel
theorem dX8_stopsAt_165 : decode cX8_stopsAt 165 = .ok (.iaload, 1) := by decide +kernel
theorem dX8_stopsAt_166 : decode cX8_stopsAt 166 = .ok (.iconst 1, 1) := by decide +kernel
theorem dX8_stopsAt_167 : decode cX8_stopsAt 167 = .ok (.iadd, 1) := by decide +kernel
theorem dX8_stopsAt_168 : decode cX8_stopsAt 168 = .ok (.iastore, 1) := by decide +kernel
theorem dX8_stopsAt_169 : decode cX8_stopsAt 169 = .ok (.goto 79, 3) := by decide +kernel
theorem dX8_stopsAt_172 : decode cX8_stopsAt 172 = .ok (.aload_n 0, 1) := by decide +kernel
theorem dX8_stopsAt_173 : decode cX8_stopsAt 173 = .ok (.iload_n 1, 1) := by decide +kernel
theorem dX8_stopsAt_174 : decode cX8_stopsAt 174 = .ok (.invokevirtual 80, 3) := by decide +kernel
theorem dX8_stopsAt_177 : decode cX8_stopsAt 177 = .ok (.aload_n 0, 1) := by decide +kernel
theorem dX8_stopsAt_178 : decode cX8_stopsAt 178 = .ok (.getfield 7, 3) := by decide +kernel
theorem dX8_stopsAt_181 : decode cX8_stopsAt 181 = .ok (.bipush 27, 2) := by decide +kernel
theorem dX8_stopsAt_183 : decode cX8_stopsAt 183 = .ok (.iload_n 1, 1) := by decide +kernel
theorem dX8_stopsAt_184 : decode cX8_stopsAt 184 = .ok (.iadd, 1) := by decide +kernel
theorem dX8_stopsAt_185 : decode cX8_stopsAt 185 = .ok (.iaload, 1) := by decide +kernel
theorem dX8_stopsAt_186 : decode cX8_stopsAt 186 = .ok (.if_icmp .ge 62, 3) := by decide +kernel
theorem dX8_stopsAt_189 : decode cX8_stopsAt 189 = .ok (.aload_n 0, 1) := by decide +kernel
theorem dX8_stopsAt_190 : decode cX8_stopsAt 190 = .ok (.getfield 7, 3) := by decide +kernel
theorem dX8_stopsAt_193 : decode cX8_stopsAt 193 = .ok (.sipush 319, 3) := by decide +kernel
theorem dX8_stopsAt_196 : decode cX8_stopsAt 196 = .ok (.iload_n 1, 1) := by decide +kernel
theorem dX8_stopsAt_197 : decode cX8_stopsAt 197 = .ok (.iload_n 2, 1) := by decide +kernel
theorem dX8_stopsAt_198 : decode cX8_stopsAt 198 = .ok (.invokestatic 65, 3) := by decide +kernel
theorem dX8_stopsAt_201 : decode cX8_stopsAt 201 = .ok (.iconst 0, 1) := by decide +kernel
theorem dX8_stopsAt_202 : decode cX8_stopsAt 202 = .ok (.iastore, 1) := by decide +kernel
theorem dX8_stopsAt_203 : decode cX8_stopsAt 203 = .ok (.aload_n 0, 1) := by decide +kernel
theorem dX8_stopsAt_204 : decode cX8_stopsAt 204 = .ok (.getfield 7, 3) := by decide +kernel
theorem dX8_stopsAt_207 : decode cX8_stopsAt 207 = .ok (.bipush 127, 2) := by decide +kernel
theorem dX8_stopsAt_209 : decode cX8_stopsAt 209 = .ok (.iload_n 2, 1) := by decide +kernel
theorem dX8_stopsAt_210 : decode cX8_stopsAt 210 = .ok (.iadd, 1) := by decide +kernel
theorem dX8_stopsAt_211 : decode cX8_stopsAt 211 = .ok (.iconst 2, 1) := by decide +kernel
theorem dX8_stopsAt_212 : decode cX8_stopsAt 212 = .ok (.iastore, 1) := by decide +kernel
theorem dX8_stopsAt_213 : decode cX8_stopsAt 213 = .ok (.aload_n 0, 1) := by decide +kernel
theorem dX8_stopsAt_214 : decode cX8_stopsAt 214 = .ok (.getfield 7, 3) := by decide +kernel
theorem dX8_stopsAt_217 : decode cX8_stopsAt 217 = .ok (.sipush 151, 3) := by decide +kernel
theorem dX8_stopsAt_220 : decode cX8_stopsAt 220 = .ok (.iload_n 2, 1) := by decide +kernel
theorem dX8_stopsAt_221 : decode cX8_stopsAt 221 = .ok (.iadd, 1) := by decide +kernel
theorem dX8_stopsAt_222 : decode cX8_stopsAt 222 = .ok (.iload_n 1, 1) := by decide +kernel
theorem dX8_stopsAt_223 : decode cX8_stopsAt 223 = .ok (.iastore, 1) := by decide +kernel
theorem dX8_stopsAt_224 : decode cX8_stopsAt 224 = .ok (.aload_n 0, 1) := by decide +kernel
theorem dX8_stopsAt_225 : decode cX8_stopsAt 225 = .ok (.getfield 7, 3) := by decide +kernel
theorem dX8_stopsAt_228 : decode cX8_stopsAt 228 = .ok (.sipush 175, 3) := by decide +kernel
theorem dX8_stopsAt_231 : decode cX8_stopsAt 231 = .ok (.iload_n 2, 1) := by decide +kernel
theorem dX8_stopsAt_232 : decode cX8_stopsAt 232 = .ok (.iadd, 1) := by decide +kernel
theorem dX8_stopsAt_233 : decode cX8_stopsAt 233 = .ok (.aload_n 0, 1) := by decide +kernel
theorem dX8_stopsAt_234 : decode cX8_stopsAt 234 = .ok (.getfield 7, 3) := by decide +kernel
theorem dX8_stopsAt_237 : decode cX8_stopsAt 237 = .ok (.iconst 3, 1) := by decide +kernel
theorem dX8_stopsAt_238 : decode cX8_stopsAt 238 = .ok (.iaload, 1) := by decide +kernel
theorem dX8_stopsAt_239 : decode cX8_stopsAt 239 = .ok (.iastore, 1) := by decide +kernel
theorem dX8_stopsAt_240 : decode cX8_stopsAt 240 = .ok (.aload_n 0, 1) := by decide +kernel
theorem dX8_stopsAt_241 : decode cX8_stopsAt 241 = .ok (.iconst 3, 1) := by decide +kernel
theorem dX8_stopsAt_242 : decode cX8_stopsAt 242 = .ok (.iload_n 2, 1) := by decide +kernel
theorem dX8_stopsAt_243 : decode cX8_stopsAt 243 = .ok (.iload_n 1, 1) := by decide +kernel
theorem dX8_stopsAt_244 : decode cX8_stopsAt 244 = .ok (.iconst 0, 1) := by decide +kernel
theorem dX8_stopsAt_245 : decode cX8_stopsAt 245 = .ok (.invokevirtual 95, 3) := by decide +kernel
theorem dX8_stopsAt_248 : decode cX8_stopsAt 248 = .ok (.iinc 2 1, 3) := by decide +kernel
theorem dX8_stopsAt_251 : decode cX8_stopsAt 251 = .ok (.goto (-164), 3) := by decide +kernel
theorem dX8_stopsAt_254 : decode cX8_stopsAt 254 = .ok (.return_, 1) := by decide +kernel
/-! BusLiftsModel.stopsAt(I)V -/
noncomputable def f_X8_stopsAt_254  (σ : Sg)  : Option Sg := some σ
noncomputable def f_X8_stopsAt_248 (k87 : Sg → Int32 → Int32 → Option Sg) (σ : Sg) (v1 : Int32) (v2 : Int32) : Option Sg := k87 σ v1 (v2 + 1)
noncomputable def f_X8_stopsAt_87  : Nat → Sg → Int32 → Int32 → Option Sg
  | 0, _, _, _ => none
  | n + 1, σ, v1, v2 => if (σ 30 0 2) ≤ v2 then (f_X8_stopsAt_254 σ) else (bi (f_X8_isHeldHere σ v1 v2) fun r2 σ1 => (if r2 = 0 then (f_X8_stopsAt_248 (f_X8_stopsAt_87 n) σ1 v1 v2) else (if (127 + v2) < 0 ∨ 2111 ≤ ((127 + v2)).toNatClampNeg then none else (if (σ1 30 0 ((127 + v2)).toNatClampNeg) = 1 then (bi (f_X8_aboardMany σ1 v1) fun r4 σ3 => (if (27 + v1) < 0 ∨ 2111 ≤ ((27 + v1)).toNatClampNeg then none else (if (σ3 30 0 ((27 + v1)).toNatClampNeg) ≤ r4 then (f_X8_stopsAt_248 (f_X8_stopsAt_87 n) σ3 v1 v2) else (bi (f_X8_of σ3 319 v1 v2) fun r6 σ5 => (if r6 < 0 ∨ 2111 ≤ (r6).toNatClampNeg then none else (st (sup σ5 30 0 (r6).toNatClampNeg 0) fun σ7 => (if (127 + v2) < 0 ∨ 2111 ≤ ((127 + v2)).toNatClampNeg then none else (st (sup σ7 30 0 ((127 + v2)).toNatClampNeg 2) fun σ8 => (if (151 + v2) < 0 ∨ 2111 ≤ ((151 + v2)).toNatClampNeg then none else (st (sup σ8 30 0 ((151 + v2)).toNatClampNeg v1) fun σ9 => (if (175 + v2) < 0 ∨ 2111 ≤ ((175 + v2)).toNatClampNeg then none else (st (sup σ9 30 0 ((175 + v2)).toNatClampNeg (σ9 30 0 3)) fun σ10 => (bv (f_X8_sends σ10 3 v2 v1 0) fun σ11 => (f_X8_stopsAt_248 (f_X8_stopsAt_87 n) σ11 v1 v2)))))))))))))) else (bi (f_X8_of σ1 319 v1 v2) fun r13 σ12 => (if r13 < 0 ∨ 2111 ≤ (r13).toNatClampNeg then none else (st (sup σ12 30 0 (r13).toNatClampNeg 0) fun σ14 => (if (51 + v1) < 0 ∨ 2111 ≤ ((51 + v1)).toNatClampNeg then none else (if (51 + v1) < 0 ∨ 2111 ≤ ((51 + v1)).toNatClampNeg then none else (st (sup σ14 30 0 ((51 + v1)).toNatClampNeg ((σ14 30 0 ((51 + v1)).toNatClampNeg) + 1)) fun σ15 => (bi (f_X8_causeOf σ15 v1 v2) fun r17 σ16 => (if ((19 + r17) - 1) < 0 ∨ 2111 ≤ (((19 + r17) - 1)).toNatClampNeg then none else (if ((19 + r17) - 1) < 0 ∨ 2111 ≤ (((19 + r17) - 1)).toNatClampNeg then none else (st (sup σ16 30 0 (((19 + r17) - 1)).toNatClampNeg ((σ16 30 0 (((19 + r17) - 1)).toNatClampNeg) + 1)) fun σ18 => (f_X8_stopsAt_248 (f_X8_stopsAt_87 n) σ18 v1 v2)))))))))))))))
theorem f_X8_stopsAt_87_s  (n : Nat) (σ : Sg) (v1 : Int32) (v2 : Int32) : f_X8_stopsAt_87  (n + 1) σ v1 v2 = (if (σ 30 0 2) ≤ v2 then (f_X8_stopsAt_254 σ) else (bi (f_X8_isHeldHere σ v1 v2) fun r2 σ1 => (if r2 = 0 then (f_X8_stopsAt_248 (f_X8_stopsAt_87 n) σ1 v1 v2) else (if (127 + v2) < 0 ∨ 2111 ≤ ((127 + v2)).toNatClampNeg then none else (if (σ1 30 0 ((127 + v2)).toNatClampNeg) = 1 then (bi (f_X8_aboardMany σ1 v1) fun r4 σ3 => (if (27 + v1) < 0 ∨ 2111 ≤ ((27 + v1)).toNatClampNeg then none else (if (σ3 30 0 ((27 + v1)).toNatClampNeg) ≤ r4 then (f_X8_stopsAt_248 (f_X8_stopsAt_87 n) σ3 v1 v2) else (bi (f_X8_of σ3 319 v1 v2) fun r6 σ5 => (if r6 < 0 ∨ 2111 ≤ (r6).toNatClampNeg then none else (st (sup σ5 30 0 (r6).toNatClampNeg 0) fun σ7 => (if (127 + v2) < 0 ∨ 2111 ≤ ((127 + v2)).toNatClampNeg then none else (st (sup σ7 30 0 ((127 + v2)).toNatClampNeg 2) fun σ8 => (if (151 + v2) < 0 ∨ 2111 ≤ ((151 + v2)).toNatClampNeg then none else (st (sup σ8 30 0 ((151 + v2)).toNatClampNeg v1) fun σ9 => (if (175 + v2) < 0 ∨ 2111 ≤ ((175 + v2)).toNatClampNeg then none else (st (sup σ9 30 0 ((175 + v2)).toNatClampNeg (σ9 30 0 3)) fun σ10 => (bv (f_X8_sends σ10 3 v2 v1 0) fun σ11 => (f_X8_stopsAt_248 (f_X8_stopsAt_87 n) σ11 v1 v2)))))))))))))) else (bi (f_X8_of σ1 319 v1 v2) fun r13 σ12 => (if r13 < 0 ∨ 2111 ≤ (r13).toNatClampNeg then none else (st (sup σ12 30 0 (r13).toNatClampNeg 0) fun σ14 => (if (51 + v1) < 0 ∨ 2111 ≤ ((51 + v1)).toNatClampNeg then none else (if (51 + v1) < 0 ∨ 2111 ≤ ((51 + v1)).toNatClampNeg then none else (st (sup σ14 30 0 ((51 + v1)).toNatClampNeg ((σ14 30 0 ((51 + v1)).toNatClampNeg) + 1)) fun σ15 => (bi (f_X8_causeOf σ15 v1 v2) fun r17 σ16 => (if ((19 + r17) - 1) < 0 ∨ 2111 ≤ (((19 + r17) - 1)).toNatClampNeg then none else (if ((19 + r17) - 1) < 0 ∨ 2111 ≤ (((19 + r17) - 1)).toNatClampNeg then none else (st (sup σ16 30 0 (((19 + r17) - 1)).toNatClampNeg ((σ16 30 0 (((19 + r17) - 1)).toNatClampNeg) + 1)) fun σ18 => (f_X8_stopsAt_248 (f_X8_stopsAt_87 n) σ18 v1 v2)))))))))))))))) := rfl
noncomputable def f_X8_stopsAt_85  (σ : Sg) (v1 : Int32) : Option Sg := f_X8_stopsAt_87 FU σ v1 0
noncomputable def f_X8_stopsAt_79 (k31 : Sg → Int32 → Int32 → Option Sg) (σ : Sg) (v1 : Int32) (v2 : Int32) : Option Sg := k31 σ v1 (v2 + 1)
noncomputable def f_X8_stopsAt_31  : Nat → Sg → Int32 → Int32 → Option Sg
  | 0, _, _, _ => none
  | n + 1, σ, v1, v2 => if (σ 30 0 2) ≤ v2 then (f_X8_stopsAt_85 σ v1) else (bi (f_X8_getsOff σ v1 v2) fun r2 σ1 => (if r2 = 0 then (f_X8_stopsAt_79 (f_X8_stopsAt_31 n) σ1 v1 v2) else (if (127 + v2) < 0 ∨ 2111 ≤ ((127 + v2)).toNatClampNeg then none else (st (sup σ1 30 0 ((127 + v2)).toNatClampNeg 3) fun σ3 => (if (199 + v2) < 0 ∨ 2111 ≤ ((199 + v2)).toNatClampNeg then none else (st (sup σ3 30 0 ((199 + v2)).toNatClampNeg (σ3 30 0 3)) fun σ4 => (f_X8_stopsAt_79 (f_X8_stopsAt_31 n) σ4 v1 v2)))))))
theorem f_X8_stopsAt_31_s  (n : Nat) (σ : Sg) (v1 : Int32) (v2 : Int32) : f_X8_stopsAt_31  (n + 1) σ v1 v2 = (if (σ 30 0 2) ≤ v2 then (f_X8_stopsAt_85 σ v1) else (bi (f_X8_getsOff σ v1 v2) fun r2 σ1 => (if r2 = 0 then (f_X8_stopsAt_79 (f_X8_stopsAt_31 n) σ1 v1 v2) else (if (127 + v2) < 0 ∨ 2111 ≤ ((127 + v2)).toNatClampNeg then none else (st (sup σ1 30 0 ((127 + v2)).toNatClampNeg 3) fun σ3 => (if (199 + v2) < 0 ∨ 2111 ≤ ((199 + v2)).toNatClampNeg then none else (st (sup σ3 30 0 ((199 + v2)).toNatClampNeg (σ3 30 0 3)) fun σ4 => (f_X8_stopsAt_79 (f_X8_stopsAt_31 n) σ4 v1 v2)))))))) := rfl
noncomputable def f_X8_stopsAt  (σ : Sg) (v1 : Int32) : Option Sg := if (47 + v1) < 0 ∨ 2111 ≤ ((47 + v1)).toNatClampNeg then none else (if (47 + v1) < 0 ∨ 2111 ≤ ((47 + v1)).toNatClampNeg then none else (st (sup σ 30 0 ((47 + v1)).toNatClampNeg ((σ 30 0 ((47 + v1)).toNatClampNeg) + 1)) fun σ1 => (if (31 + v1) < 0 ∨ 2111 ≤ ((31 + v1)).toNatClampNeg then none else (st (sup σ1 30 0 ((31 + v1)).toNatClampNeg (σ1 30 0 7)) fun σ2 => (f_X8_stopsAt_31 FU σ2 v1 0)))))
set_option maxHeartbeats 4000000 in
set_option maxRecDepth 100000 in
theorem w_X8_stopsAt_254 {p : Program} {l : Launch} {e : Env} {s : State} {m : MethodId} {args : Array Value} {below : List Frame} {meth : Method} {c : Code} {G : Gx} {ad : Ad} {res : Sg} (C : Cx p s m args meth c yX8_stopsAt.cls cX8_stopsAt 3 none G)  : ∀ (σ : Sg)  (H : Heap) (locs : List Loc) (ls : Array Slot), z_S 1 G ad σ (z_A 1 ad s.heap.size) s.heap H locs → lv_has ls 3 [] → f_X8_stopsAt_254  σ  = some res → W p l e { frames := 3, cells := 0, slots := 0, locals := 66 } s m args below meth c H locs 0 0 (MQ below (va_Qv (S := Unit) (fun _ => True) (fun _ t => z_W 1 G ad res t.heap) (z_A 1 ad s.heap.size)) args s 0 0 (z_A 1 ad s.heap.size)) (F0 m 254 ls []) := by
  intro σ  H locs ls S hl  hf
  unfold f_X8_stopsAt_254 at hf
  exact z_vret C S hf dX8_stopsAt_254
set_option maxHeartbeats 4000000 in
set_option maxRecDepth 100000 in
theorem w_X8_stopsAt_248 {p : Program} {l : Launch} {e : Env} {s : State} {m : MethodId} {args : Array Value} {below : List Frame} {meth : Method} {c : Code} {G : Gx} {ad : Ad} {res : Sg} (C : Cx p s m args meth c yX8_stopsAt.cls cX8_stopsAt 3 none G) (k87 : Sg → Int32 → Int32 → Option Sg) (hk87 : ∀ (σ : Sg) (v1 : Int32) (v2 : Int32) (H : Heap) (locs : List Loc) (ls : Array Slot), z_S 1 G ad σ (z_A 1 ad s.heap.size) s.heap H locs → lv_has ls 3 [(0, .ref (ad 8 0)), (1, .int v1), (2, .int v2)] → k87 σ v1 v2 = some res → W p l e { frames := 3, cells := 0, slots := 0, locals := 66 } s m args below meth c H locs 0 0 (MQ below (va_Qv (S := Unit) (fun _ => True) (fun _ t => z_W 1 G ad res t.heap) (z_A 1 ad s.heap.size)) args s 0 0 (z_A 1 ad s.heap.size)) (F0 m 87 ls [])) : ∀ (σ : Sg) (v1 : Int32) (v2 : Int32) (H : Heap) (locs : List Loc) (ls : Array Slot), z_S 1 G ad σ (z_A 1 ad s.heap.size) s.heap H locs → lv_has ls 3 [(0, .ref (ad 8 0)), (1, .int v1), (2, .int v2)] → f_X8_stopsAt_248 k87 σ v1 v2 = some res → W p l e { frames := 3, cells := 0, slots := 0, locals := 66 } s m args below meth c H locs 0 0 (MQ below (va_Qv (S := Unit) (fun _ => True) (fun _ t => z_W 1 G ad res t.heap) (z_A 1 ad s.heap.size)) args s 0 0 (z_A 1 ad s.heap.size)) (F0 m 248 ls []) := by
  intro σ v1 v2 H locs ls S hl  hf
  unfold f_X8_stopsAt_248 at hf
  refine lv_iinc (v := (v2 + 1)) (lv' := [(2, .int (v2 + 1)), (0, .ref (ad 8 0)), (1, .int v1)]) C.1 C.2.1 dX8_stopsAt_248 hl (k := 2) rfl rfl (by decide) rfl (fun ls hl => ?_)
  refine lv_goto (tgt := 87) C.1 C.2.1 dX8_stopsAt_251 (by decide) ?_
  exact hk87 _ v1 (v2 + 1) _ _ _ S (lv_sub hl [1, 2, 0] rfl)  hf
set_option maxHeartbeats 4000000 in
set_option maxRecDepth 100000 in
theorem w_X8_stopsAt_87 {p : Program} {l : Launch} {e : Env} {s : State} {m : MethodId} {args : Array Value} {below : List Frame} {meth : Method} {c : Code} {G : Gx} {ad : Ad} {res : Sg} (C : Cx p s m args meth c yX8_stopsAt.cls cX8_stopsAt 3 none G)  : ∀ n : Nat, ∀ (σ : Sg) (v1 : Int32) (v2 : Int32) (H : Heap) (locs : List Loc) (ls : Array Slot), z_S 1 G ad σ (z_A 1 ad s.heap.size) s.heap H locs → lv_has ls 3 [(0, .ref (ad 8 0)), (1, .int v1), (2, .int v2)] → f_X8_stopsAt_87  n σ v1 v2 = some res → W p l e { frames := 3, cells := 0, slots := 0, locals := 66 } s m args below meth c H locs 0 0 (MQ below (va_Qv (S := Unit) (fun _ => True) (fun _ t => z_W 1 G ad res t.heap) (z_A 1 ad s.heap.size)) args s 0 0 (z_A 1 ad s.heap.size)) (F0 m 87 ls []) := by
  intro n
  induction n with
  | zero => intro σ v1 v2 H locs ls S hl  hf; cases hf
  | succ n ih =>
    intro σ v1 v2 H locs ls S hl  hf
    rw [f_X8_stopsAt_87_s] at hf
    refine lv_iload_n C.1 C.2.1 dX8_stopsAt_87 rfl (lv_at hl 2 rfl) ?_
    refine lv_aload_n C.1 C.2.1 dX8_stopsAt_88 rfl (lv_at hl 0 rfl) ?_
    refine z_getR C S 8 0 rfl (by decide) cf_8 0 (by decide) _ (gr_8_0 G ad 0) tw_6_118 dX8_stopsAt_89 ?_
    refine lv_iconst (v := 2) C.1 C.2.1 dX8_stopsAt_92 (by decide) ?_
    refine z_ialdL C S 30 0 rfl (by decide) 2111 (fun _ => rfl) 2 (by decide) (by decide) (by decide) dX8_stopsAt_93 ?_
    refine lv_icmp_ge (tgt := 254) C.1 C.2.1 dX8_stopsAt_94 (by decide) (fun c_94 => ?_) (fun c_94 => ?_)
    · rw [if_pos c_94] at hf
      exact w_X8_stopsAt_254 C _ _ _ _ S (lv_sub hl [] rfl) hf
    · rw [if_neg c_94] at hf
      refine lv_aload_n C.1 C.2.1 dX8_stopsAt_97 rfl (lv_at hl 0 rfl) ?_
      refine lv_iload_n C.1 C.2.1 dX8_stopsAt_98 rfl (lv_at hl 1 rfl) ?_
      refine lv_iload_n C.1 C.2.1 dX8_stopsAt_99 rfl (lv_at hl 2 rfl) ?_
      obtain ⟨r2, σ1, q_100, hf⟩ := bib hf
      refine z_callI C S 8 0 rfl (by decide) cf_8 ⟨_, rfl⟩ [.int v1, .int v2] (m_X8_isHeldHere l G ad σ v1 v2 r2 σ1 q_100 _) kv_X8_isHeldHere tw_8_18 ⟨Nat.le_of_ble_eq_true rfl, Nat.le_of_ble_eq_true rfl⟩ rfl rfl (Nat.le_of_ble_eq_true rfl) hl.1 ⟨Nat.le_of_ble_eq_true rfl, Nat.le_of_ble_eq_true rfl⟩ dX8_stopsAt_100 (fun H locs S => ?_)
      refine lv_if_ne (tgt := 109) C.1 C.2.1 dX8_stopsAt_103 (by decide) (fun c_103 => ?_) (fun c_103 => ?_)
      · rw [if_neg c_103] at hf
        refine lv_aload_n C.1 C.2.1 dX8_stopsAt_109 rfl (lv_at hl 0 rfl) ?_
        refine z_getR C S 8 0 rfl (by decide) cf_8 0 (by decide) _ (gr_8_0 G ad 0) tw_6_118 dX8_stopsAt_110 ?_
        refine lv_bipush (v := 127) C.1 C.2.1 dX8_stopsAt_113 (by decide) ?_
        refine lv_iload_n C.1 C.2.1 dX8_stopsAt_115 rfl (lv_at hl 2 rfl) ?_
        refine lv_iadd C.1 C.2.1 dX8_stopsAt_116 ?_
        obtain ⟨g_117, hf⟩ := gd hf
        refine z_iald C S 30 0 rfl (by decide) 2111 (fun _ => rfl) g_117 dX8_stopsAt_117 ?_
        refine lv_iconst (v := 1) C.1 C.2.1 dX8_stopsAt_118 (by decide) ?_
        refine lv_icmp_eq (tgt := 172) C.1 C.2.1 dX8_stopsAt_119 (by decide) (fun c_119 => ?_) (fun c_119 => ?_)
        · rw [if_pos c_119] at hf
          refine lv_aload_n C.1 C.2.1 dX8_stopsAt_172 rfl (lv_at hl 0 rfl) ?_
          refine lv_iload_n C.1 C.2.1 dX8_stopsAt_173 rfl (lv_at hl 1 rfl) ?_
          obtain ⟨r4, σ3, q_174, hf⟩ := bib hf
          refine z_callI C S 8 0 rfl (by decide) cf_8 ⟨_, rfl⟩ [.int v1] (m_X8_aboardMany l G ad σ1 v1 r4 σ3 q_174 _) kv_X8_aboardMany tw_7_79 ⟨Nat.le_of_ble_eq_true rfl, Nat.le_of_ble_eq_true rfl⟩ rfl rfl (Nat.le_of_ble_eq_true rfl) hl.1 ⟨Nat.le_of_ble_eq_true rfl, Nat.le_of_ble_eq_true rfl⟩ dX8_stopsAt_174 (fun H locs S => ?_)
          refine lv_aload_n C.1 C.2.1 dX8_stopsAt_177 rfl (lv_at hl 0 rfl) ?_
          refine z_getR C S 8 0 rfl (by decide) cf_8 0 (by decide) _ (gr_8_0 G ad 0) tw_6_118 dX8_stopsAt_178 ?_
          refine lv_bipush (v := 27) C.1 C.2.1 dX8_stopsAt_181 (by decide) ?_
          refine lv_iload_n C.1 C.2.1 dX8_stopsAt_183 rfl (lv_at hl 1 rfl) ?_
          refine lv_iadd C.1 C.2.1 dX8_stopsAt_184 ?_
          obtain ⟨g_185, hf⟩ := gd hf
          refine z_iald C S 30 0 rfl (by decide) 2111 (fun _ => rfl) g_185 dX8_stopsAt_185 ?_
          refine lv_icmp_ge (tgt := 248) C.1 C.2.1 dX8_stopsAt_186 (by decide) (fun c_186 => ?_) (fun c_186 => ?_)
          · rw [if_pos c_186] at hf
            exact w_X8_stopsAt_248 C (f_X8_stopsAt_87 n) ih _ v1 v2 _ _ _ S (lv_sub hl [0, 1, 2] rfl) hf
          · rw [if_neg c_186] at hf
            refine lv_aload_n C.1 C.2.1 dX8_stopsAt_189 rfl (lv_at hl 0 rfl) ?_
            refine z_getR C S 8 0 rfl (by decide) cf_8 0 (by decide) _ (gr_8_0 G ad 0) tw_6_118 dX8_stopsAt_190 ?_
            refine lv_sipush (v := 319) C.1 C.2.1 dX8_stopsAt_193 (by decide) ?_
            refine lv_iload_n C.1 C.2.1 dX8_stopsAt_196 rfl (lv_at hl 1 rfl) ?_
            refine lv_iload_n C.1 C.2.1 dX8_stopsAt_197 rfl (lv_at hl 2 rfl) ?_
            obtain ⟨r6, σ5, q_198, hf⟩ := bib hf
            refine z_callSI C S [.int 319, .int v1, .int v2] (m_X8_of l G ad σ3 319 v1 v2 r6 σ5 q_198 _) kv_X8_of tw_7_76 ⟨Nat.le_of_ble_eq_true rfl, Nat.le_of_ble_eq_true rfl⟩ rfl rfl (Nat.le_of_ble_eq_true rfl) hl.1 ⟨Nat.le_of_ble_eq_true rfl, Nat.le_of_ble_eq_true rfl⟩ dX8_stopsAt_198 (fun H locs S => ?_)
            refine lv_iconst (v := 0) C.1 C.2.1 dX8_stopsAt_201 (by decide) ?_
            obtain ⟨g_202, hf⟩ := gd hf
            obtain ⟨σ7, e_202, hf⟩ := stb hf
            refine z_iast C S 30 0 rfl (by decide) 2111 (fun _ => rfl) g_202 dX8_stopsAt_202 (fun H locs S => ?_)
            rw [← e_202] at S
            refine lv_aload_n C.1 C.2.1 dX8_stopsAt_203 rfl (lv_at hl 0 rfl) ?_
            refine z_getR C S 8 0 rfl (by decide) cf_8 0 (by decide) _ (gr_8_0 G ad 0) tw_6_118 dX8_stopsAt_204 ?_
            refine lv_bipush (v := 127) C.1 C.2.1 dX8_stopsAt_207 (by decide) ?_
            refine lv_iload_n C.1 C.2.1 dX8_stopsAt_209 rfl (lv_at hl 2 rfl) ?_
            refine lv_iadd C.1 C.2.1 dX8_stopsAt_210 ?_
            refine lv_iconst (v := 2) C.1 C.2.1 dX8_stopsAt_211 (by decide) ?_
            obtain ⟨g_212, hf⟩ := gd hf
            obtain ⟨σ8, e_212, hf⟩ := stb hf
            refine z_iast C S 30 0 rfl (by decide) 2111 (fun _ => rfl) g_212 dX8_stopsAt_212 (fun H locs S => ?_)
            rw [← e_212] at S
            refine lv_aload_n C.1 C.2.1 dX8_stopsAt_213 rfl (lv_at hl 0 rfl) ?_
            refine z_getR C S 8 0 rfl (by decide) cf_8 0 (by decide) _ (gr_8_0 G ad 0) tw_6_118 dX8_stopsAt_214 ?_
            refine lv_sipush (v := 151) C.1 C.2.1 dX8_stopsAt_217 (by decide) ?_
            refine lv_iload_n C.1 C.2.1 dX8_stopsAt_220 rfl (lv_at hl 2 rfl) ?_
            refine lv_iadd C.1 C.2.1 dX8_stopsAt_221 ?_
            refine lv_iload_n C.1 C.2.1 dX8_stopsAt_222 rfl (lv_at hl 1 rfl) ?_
            obtain ⟨g_223, hf⟩ := gd hf
            obtain ⟨σ9, e_223, hf⟩ := stb hf
            refine z_iast C S 30 0 rfl (by decide) 2111 (fun _ => rfl) g_223 dX8_stopsAt_223 (fun H locs S => ?_)
            rw [← e_223] at S
            refine lv_aload_n C.1 C.2.1 dX8_stopsAt_224 rfl (lv_at hl 0 rfl) ?_
            refine z_getR C S 8 0 rfl (by decide) cf_8 0 (by decide) _ (gr_8_0 G ad 0) tw_6_118 dX8_stopsAt_225 ?_
            refine lv_sipush (v := 175) C.1 C.2.1 dX8_stopsAt_228 (by decide) ?_
            refine lv_iload_n C.1 C.2.1 dX8_stopsAt_231 rfl (lv_at hl 2 rfl) ?_
            refine lv_iadd C.1 C.2.1 dX8_stopsAt_232 ?_
            refine lv_aload_n C.1 C.2.1 dX8_stopsAt_233 rfl (lv_at hl 0 rfl) ?_
            refine z_getR C S 8 0 rfl (by decide) cf_8 0 (by decide) _ (gr_8_0 G ad 0) tw_6_118 dX8_stopsAt_234 ?_
            refine lv_iconst (v := 3) C.1 C.2.1 dX8_stopsAt_237 (by decide) ?_
            refine z_ialdL C S 30 0 rfl (by decide) 2111 (fun _ => rfl) 3 (by decide) (by decide) (by decide) dX8_stopsAt_238 ?_
            obtain ⟨g_239, hf⟩ := gd hf
            obtain ⟨σ10, e_239, hf⟩ := stb hf
            refine z_iast C S 30 0 rfl (by decide) 2111 (fun _ => rfl) g_239 dX8_stopsAt_239 (fun H locs S => ?_)
            rw [← e_239] at S
            refine lv_aload_n C.1 C.2.1 dX8_stopsAt_240 rfl (lv_at hl 0 rfl) ?_
            refine lv_iconst (v := 3) C.1 C.2.1 dX8_stopsAt_241 (by decide) ?_
            refine lv_iload_n C.1 C.2.1 dX8_stopsAt_242 rfl (lv_at hl 2 rfl) ?_
            refine lv_iload_n C.1 C.2.1 dX8_stopsAt_243 rfl (lv_at hl 1 rfl) ?_
            refine lv_iconst (v := 0) C.1 C.2.1 dX8_stopsAt_244 (by decide) ?_
            obtain ⟨σ11, q_245, hf⟩ := bvb hf
            refine z_callV C S 8 0 rfl (by decide) cf_8 ⟨_, rfl⟩ [.int 3, .int v2, .int v1, .int 0] (m_X8_sends l G ad σ10 3 v2 v1 0 σ11 q_245 _) kv_X8_sends tw_7_206 ⟨Nat.le_of_ble_eq_true rfl, Nat.le_of_ble_eq_true rfl⟩ rfl rfl (Nat.le_of_ble_eq_true rfl) hl.1 ⟨Nat.le_of_ble_eq_true rfl, Nat.le_of_ble_eq_true rfl⟩ dX8_stopsAt_245 (fun H locs S => ?_)
            exact w_X8_stopsAt_248 C (f_X8_stopsAt_87 n) ih _ v1 v2 _ _ _ S (lv_sub hl [0, 1, 2] rfl) hf
        · rw [if_neg c_119] at hf
          refine lv_aload_n C.1 C.2.1 dX8_stopsAt_122 rfl (lv_at hl 0 rfl) ?_
          refine z_getR C S 8 0 rfl (by decide) cf_8 0 (by decide) _ (gr_8_0 G ad 0) tw_6_118 dX8_stopsAt_123 ?_
          refine lv_sipush (v := 319) C.1 C.2.1 dX8_stopsAt_126 (by decide) ?_
          refine lv_iload_n C.1 C.2.1 dX8_stopsAt_129 rfl (lv_at hl 1 rfl) ?_
          refine lv_iload_n C.1 C.2.1 dX8_stopsAt_130 rfl (lv_at hl 2 rfl) ?_
          obtain ⟨r13, σ12, q_131, hf⟩ := bib hf
          refine z_callSI C S [.int 319, .int v1, .int v2] (m_X8_of l G ad σ1 319 v1 v2 r13 σ12 q_131 _) kv_X8_of tw_7_76 ⟨Nat.le_of_ble_eq_true rfl, Nat.le_of_ble_eq_true rfl⟩ rfl rfl (Nat.le_of_ble_eq_true rfl) hl.1 ⟨Nat.le_of_ble_eq_true rfl, Nat.le_of_ble_eq_true rfl⟩ dX8_stopsAt_131 (fun H locs S => ?_)
          refine lv_iconst (v := 0) C.1 C.2.1 dX8_stopsAt_134 (by decide) ?_
          obtain ⟨g_135, hf⟩ := gd hf
          obtain ⟨σ14, e_135, hf⟩ := stb hf
          refine z_iast C S 30 0 rfl (by decide) 2111 (fun _ => rfl) g_135 dX8_stopsAt_135 (fun H locs S => ?_)
          rw [← e_135] at S
          refine lv_aload_n C.1 C.2.1 dX8_stopsAt_136 rfl (lv_at hl 0 rfl) ?_
          refine z_getR C S 8 0 rfl (by decide) cf_8 0 (by decide) _ (gr_8_0 G ad 0) tw_6_118 dX8_stopsAt_137 ?_
          refine lv_bipush (v := 51) C.1 C.2.1 dX8_stopsAt_140 (by decide) ?_
          refine lv_iload_n C.1 C.2.1 dX8_stopsAt_142 rfl (lv_at hl 1 rfl) ?_
          refine lv_iadd C.1 C.2.1 dX8_stopsAt_143 ?_
          refine lv_dup2_11 C.1 C.2.1 dX8_stopsAt_144 rfl rfl ?_
          obtain ⟨g_145, hf⟩ := gd hf
          refine z_iald C S 30 0 rfl (by decide) 2111 (fun _ => rfl) g_145 dX8_stopsAt_145 ?_
          refine lv_iconst (v := 1) C.1 C.2.1 dX8_stopsAt_146 (by decide) ?_
          refine lv_iadd C.1 C.2.1 dX8_stopsAt_147 ?_
          obtain ⟨g_148, hf⟩ := gd hf
          obtain ⟨σ15, e_148, hf⟩ := stb hf
          refine z_iast C S 30 0 rfl (by decide) 2111 (fun _ => rfl) g_148 dX8_stopsAt_148 (fun H locs S => ?_)
          rw [← e_148] at S
          refine lv_aload_n C.1 C.2.1 dX8_stopsAt_149 rfl (lv_at hl 0 rfl) ?_
          refine z_getR C S 8 0 rfl (by decide) cf_8 0 (by decide) _ (gr_8_0 G ad 0) tw_6_118 dX8_stopsAt_150 ?_
          refine lv_bipush (v := 19) C.1 C.2.1 dX8_stopsAt_153 (by decide) ?_
          refine lv_aload_n C.1 C.2.1 dX8_stopsAt_155 rfl (lv_at hl 0 rfl) ?_
          refine lv_iload_n C.1 C.2.1 dX8_stopsAt_156 rfl (lv_at hl 1 rfl) ?_
          refine lv_iload_n C.1 C.2.1 dX8_stopsAt_157 rfl (lv_at hl 2 rfl) ?_
          obtain ⟨r17, σ16, q_158, hf⟩ := bib hf
          refine z_callI C S 8 0 rfl (by decide) cf_8 ⟨_, rfl⟩ [.int v1, .int v2] (m_X8_causeOf l G ad σ15 v1 v2 r17 σ16 q_158 _) kv_X8_causeOf tw_8_26 ⟨Nat.le_of_ble_eq_true rfl, Nat.le_of_ble_eq_true rfl⟩ rfl rfl (Nat.le_of_ble_eq_true rfl) hl.1 ⟨Nat.le_of_ble_eq_true rfl, Nat.le_of_ble_eq_true rfl⟩ dX8_stopsAt_158 (fun H locs S => ?_)
          refine lv_iadd C.1 C.2.1 dX8_stopsAt_161 ?_
          refine lv_iconst (v := 1) C.1 C.2.1 dX8_stopsAt_162 (by decide) ?_
          refine lv_isub C.1 C.2.1 dX8_stopsAt_163 ?_
          refine lv_dup2_11 C.1 C.2.1 dX8_stopsAt_164 rfl rfl ?_
          obtain ⟨g_165, hf⟩ := gd hf
          refine z_iald C S 30 0 rfl (by decide) 2111 (fun _ => rfl) g_165 dX8_stopsAt_165 ?_
          refine lv_iconst (v := 1) C.1 C.2.1 dX8_stopsAt_166 (by decide) ?_
          refine lv_iadd C.1 C.2.1 dX8_stopsAt_167 ?_
          obtain ⟨g_168, hf⟩ := gd hf
          obtain ⟨σ18, e_168, hf⟩ := stb hf
          refine z_iast C S 30 0 rfl (by decide) 2111 (fun _ => rfl) g_168 dX8_stopsAt_168 (fun H locs S => ?_)
          rw [← e_168] at S
          refine lv_goto (tgt := 248) C.1 C.2.1 dX8_stopsAt_169 (by decide) ?_
          exact w_X8_stopsAt_248 C (f_X8_stopsAt_87 n) ih _ v1 v2 _ _ _ S (lv_sub hl [0, 1, 2] rfl) hf
      · rw [if_pos c_103] at hf
        refine lv_goto (tgt := 248) C.1 C.2.1 dX8_stopsAt_106 (by decide) ?_
        exact w_X8_stopsAt_248 C (f_X8_stopsAt_87 n) ih _ v1 v2 _ _ _ S (lv_sub hl [0, 1, 2] rfl) hf
set_option maxHeartbeats 4000000 in
set_option maxRecDepth 100000 in
theorem w_X8_stopsAt_85 {p : Program} {l : Launch} {e : Env} {s : State} {m : MethodId} {args : Array Value} {below : List Frame} {meth : Method} {c : Code} {G : Gx} {ad : Ad} {res : Sg} (C : Cx p s m args meth c yX8_stopsAt.cls cX8_stopsAt 3 none G)  : ∀ (σ : Sg) (v1 : Int32) (H : Heap) (locs : List Loc) (ls : Array Slot), z_S 1 G ad σ (z_A 1 ad s.heap.size) s.heap H locs → lv_has ls 3 [(0, .ref (ad 8 0)), (1, .int v1)] → f_X8_stopsAt_85  σ v1 = some res → W p l e { frames := 3, cells := 0, slots := 0, locals := 66 } s m args below meth c H locs 0 0 (MQ below (va_Qv (S := Unit) (fun _ => True) (fun _ t => z_W 1 G ad res t.heap) (z_A 1 ad s.heap.size)) args s 0 0 (z_A 1 ad s.heap.size)) (F0 m 85 ls []) := by
  intro σ v1 H locs ls S hl  hf
  unfold f_X8_stopsAt_85 at hf
  refine lv_iconst (v := 0) C.1 C.2.1 dX8_stopsAt_85 (by decide) ?_
  refine lv_istore_n (lv' := [(2, .int 0), (0, .ref (ad 8 0)), (1, .int v1)]) C.1 C.2.1 dX8_stopsAt_86 rfl hl (by decide) rfl (fun ls hl => ?_)
  exact w_X8_stopsAt_87 C FU _ v1 0 _ _ _ S (lv_sub hl [1, 2, 0] rfl) hf
set_option maxHeartbeats 4000000 in
set_option maxRecDepth 100000 in
theorem w_X8_stopsAt_79 {p : Program} {l : Launch} {e : Env} {s : State} {m : MethodId} {args : Array Value} {below : List Frame} {meth : Method} {c : Code} {G : Gx} {ad : Ad} {res : Sg} (C : Cx p s m args meth c yX8_stopsAt.cls cX8_stopsAt 3 none G) (k31 : Sg → Int32 → Int32 → Option Sg) (hk31 : ∀ (σ : Sg) (v1 : Int32) (v2 : Int32) (H : Heap) (locs : List Loc) (ls : Array Slot), z_S 1 G ad σ (z_A 1 ad s.heap.size) s.heap H locs → lv_has ls 3 [(0, .ref (ad 8 0)), (1, .int v1), (2, .int v2)] → k31 σ v1 v2 = some res → W p l e { frames := 3, cells := 0, slots := 0, locals := 66 } s m args below meth c H locs 0 0 (MQ below (va_Qv (S := Unit) (fun _ => True) (fun _ t => z_W 1 G ad res t.heap) (z_A 1 ad s.heap.size)) args s 0 0 (z_A 1 ad s.heap.size)) (F0 m 31 ls [])) : ∀ (σ : Sg) (v1 : Int32) (v2 : Int32) (H : Heap) (locs : List Loc) (ls : Array Slot), z_S 1 G ad σ (z_A 1 ad s.heap.size) s.heap H locs → lv_has ls 3 [(0, .ref (ad 8 0)), (1, .int v1), (2, .int v2)] → f_X8_stopsAt_79 k31 σ v1 v2 = some res → W p l e { frames := 3, cells := 0, slots := 0, locals := 66 } s m args below meth c H locs 0 0 (MQ below (va_Qv (S := Unit) (fun _ => True) (fun _ t => z_W 1 G ad res t.heap) (z_A 1 ad s.heap.size)) args s 0 0 (z_A 1 ad s.heap.size)) (F0 m 79 ls []) := by
  intro σ v1 v2 H locs ls S hl  hf
  unfold f_X8_stopsAt_79 at hf
  refine lv_iinc (v := (v2 + 1)) (lv' := [(2, .int (v2 + 1)), (0, .ref (ad 8 0)), (1, .int v1)]) C.1 C.2.1 dX8_stopsAt_79 hl (k := 2) rfl rfl (by decide) rfl (fun ls hl => ?_)
  refine lv_goto (tgt := 31) C.1 C.2.1 dX8_stopsAt_82 (by decide) ?_
  exact hk31 _ v1 (v2 + 1) _ _ _ S (lv_sub hl [1, 2, 0] rfl)  hf
set_option maxHeartbeats 4000000 in
set_option maxRecDepth 100000 in
theorem w_X8_stopsAt_31 {p : Program} {l : Launch} {e : Env} {s : State} {m : MethodId} {args : Array Value} {below : List Frame} {meth : Method} {c : Code} {G : Gx} {ad : Ad} {res : Sg} (C : Cx p s m args meth c yX8_stopsAt.cls cX8_stopsAt 3 none G)  : ∀ n : Nat, ∀ (σ : Sg) (v1 : Int32) (v2 : Int32) (H : Heap) (locs : List Loc) (ls : Array Slot), z_S 1 G ad σ (z_A 1 ad s.heap.size) s.heap H locs → lv_has ls 3 [(0, .ref (ad 8 0)), (1, .int v1), (2, .int v2)] → f_X8_stopsAt_31  n σ v1 v2 = some res → W p l e { frames := 3, cells := 0, slots := 0, locals := 66 } s m args below meth c H locs 0 0 (MQ below (va_Qv (S := Unit) (fun _ => True) (fun _ t => z_W 1 G ad res t.heap) (z_A 1 ad s.heap.size)) args s 0 0 (z_A 1 ad s.heap.size)) (F0 m 31 ls []) := by
  intro n
  induction n with
  | zero => intro σ v1 v2 H locs ls S hl  hf; cases hf
  | succ n ih =>
    intro σ v1 v2 H locs ls S hl  hf
    rw [f_X8_stopsAt_31_s] at hf
    refine lv_iload_n C.1 C.2.1 dX8_stopsAt_31 rfl (lv_at hl 2 rfl) ?_
    refine lv_aload_n C.1 C.2.1 dX8_stopsAt_32 rfl (lv_at hl 0 rfl) ?_
    refine z_getR C S 8 0 rfl (by decide) cf_8 0 (by decide) _ (gr_8_0 G ad 0) tw_6_118 dX8_stopsAt_33 ?_
    refine lv_iconst (v := 2) C.1 C.2.1 dX8_stopsAt_36 (by decide) ?_
    refine z_ialdL C S 30 0 rfl (by decide) 2111 (fun _ => rfl) 2 (by decide) (by decide) (by decide) dX8_stopsAt_37 ?_
    refine lv_icmp_ge (tgt := 85) C.1 C.2.1 dX8_stopsAt_38 (by decide) (fun c_38 => ?_) (fun c_38 => ?_)
    · rw [if_pos c_38] at hf
      exact w_X8_stopsAt_85 C _ v1 _ _ _ S (lv_sub hl [0, 1] rfl) hf
    · rw [if_neg c_38] at hf
      refine lv_aload_n C.1 C.2.1 dX8_stopsAt_41 rfl (lv_at hl 0 rfl) ?_
      refine lv_iload_n C.1 C.2.1 dX8_stopsAt_42 rfl (lv_at hl 1 rfl) ?_
      refine lv_iload_n C.1 C.2.1 dX8_stopsAt_43 rfl (lv_at hl 2 rfl) ?_
      obtain ⟨r2, σ1, q_44, hf⟩ := bib hf
      refine z_callI C S 8 0 rfl (by decide) cf_8 ⟨_, rfl⟩ [.int v1, .int v2] (m_X8_getsOff l G ad σ v1 v2 r2 σ1 q_44 _) kv_X8_getsOff tw_8_14 ⟨Nat.le_of_ble_eq_true rfl, Nat.le_of_ble_eq_true rfl⟩ rfl rfl (Nat.le_of_ble_eq_true rfl) hl.1 ⟨Nat.le_of_ble_eq_true rfl, Nat.le_of_ble_eq_true rfl⟩ dX8_stopsAt_44 (fun H locs S => ?_)
      refine lv_if_ne (tgt := 53) C.1 C.2.1 dX8_stopsAt_47 (by decide) (fun c_47 => ?_) (fun c_47 => ?_)
      · rw [if_neg c_47] at hf
        refine lv_aload_n C.1 C.2.1 dX8_stopsAt_53 rfl (lv_at hl 0 rfl) ?_
        refine z_getR C S 8 0 rfl (by decide) cf_8 0 (by decide) _ (gr_8_0 G ad 0) tw_6_118 dX8_stopsAt_54 ?_
        refine lv_bipush (v := 127) C.1 C.2.1 dX8_stopsAt_57 (by decide) ?_
        refine lv_iload_n C.1 C.2.1 dX8_stopsAt_59 rfl (lv_at hl 2 rfl) ?_
        refine lv_iadd C.1 C.2.1 dX8_stopsAt_60 ?_
        refine lv_iconst (v := 3) C.1 C.2.1 dX8_stopsAt_61 (by decide) ?_
        obtain ⟨g_62, hf⟩ := gd hf
        obtain ⟨σ3, e_62, hf⟩ := stb hf
        refine z_iast C S 30 0 rfl (by decide) 2111 (fun _ => rfl) g_62 dX8_stopsAt_62 (fun H locs S => ?_)
        rw [← e_62] at S
        refine lv_aload_n C.1 C.2.1 dX8_stopsAt_63 rfl (lv_at hl 0 rfl) ?_
        refine z_getR C S 8 0 rfl (by decide) cf_8 0 (by decide) _ (gr_8_0 G ad 0) tw_6_118 dX8_stopsAt_64 ?_
        refine lv_sipush (v := 199) C.1 C.2.1 dX8_stopsAt_67 (by decide) ?_
        refine lv_iload_n C.1 C.2.1 dX8_stopsAt_70 rfl (lv_at hl 2 rfl) ?_
        refine lv_iadd C.1 C.2.1 dX8_stopsAt_71 ?_
        refine lv_aload_n C.1 C.2.1 dX8_stopsAt_72 rfl (lv_at hl 0 rfl) ?_
        refine z_getR C S 8 0 rfl (by decide) cf_8 0 (by decide) _ (gr_8_0 G ad 0) tw_6_118 dX8_stopsAt_73 ?_
        refine lv_iconst (v := 3) C.1 C.2.1 dX8_stopsAt_76 (by decide) ?_
        refine z_ialdL C S 30 0 rfl (by decide) 2111 (fun _ => rfl) 3 (by decide) (by decide) (by decide) dX8_stopsAt_77 ?_
        obtain ⟨g_78, hf⟩ := gd hf
        obtain ⟨σ4, e_78, hf⟩ := stb hf
        refine z_iast C S 30 0 rfl (by decide) 2111 (fun _ => rfl) g_78 dX8_stopsAt_78 (fun H locs S => ?_)
        rw [← e_78] at S
        exact w_X8_stopsAt_79 C (f_X8_stopsAt_31 n) ih _ v1 v2 _ _ _ S (lv_sub hl [0, 1, 2] rfl) hf
      · rw [if_pos c_47] at hf
        refine lv_goto (tgt := 79) C.1 C.2.1 dX8_stopsAt_50 (by decide) ?_
        exact w_X8_stopsAt_79 C (f_X8_stopsAt_31 n) ih _ v1 v2 _ _ _ S (lv_sub hl [0, 1, 2] rfl) hf
set_option maxHeartbeats 4000000 in
set_option maxRecDepth 100000 in
theorem w_X8_stopsAt_0 {p : Program} {l : Launch} {e : Env} {s : State} {m : MethodId} {args : Array Value} {below : List Frame} {meth : Method} {c : Code} {G : Gx} {ad : Ad} {res : Sg} (C : Cx p s m args meth c yX8_stopsAt.cls cX8_stopsAt 3 none G)  : ∀ (σ : Sg) (v1 : Int32) (H : Heap) (locs : List Loc) (ls : Array Slot), z_S 1 G ad σ (z_A 1 ad s.heap.size) s.heap H locs → lv_has ls 3 [(0, .ref (ad 8 0)), (1, .int v1)] → f_X8_stopsAt  σ v1 = some res → W p l e { frames := 3, cells := 0, slots := 0, locals := 66 } s m args below meth c H locs 0 0 (MQ below (va_Qv (S := Unit) (fun _ => True) (fun _ t => z_W 1 G ad res t.heap) (z_A 1 ad s.heap.size)) args s 0 0 (z_A 1 ad s.heap.size)) (F0 m 0 ls []) := by
  intro σ v1 H locs ls S hl  hf
  unfold f_X8_stopsAt at hf
  refine lv_aload_n C.1 C.2.1 dX8_stopsAt_0 rfl (lv_at hl 0 rfl) ?_
  refine z_getR C S 8 0 rfl (by decide) cf_8 0 (by decide) _ (gr_8_0 G ad 0) tw_6_118 dX8_stopsAt_1 ?_
  refine lv_bipush (v := 47) C.1 C.2.1 dX8_stopsAt_4 (by decide) ?_
  refine lv_iload_n C.1 C.2.1 dX8_stopsAt_6 rfl (lv_at hl 1 rfl) ?_
  refine lv_iadd C.1 C.2.1 dX8_stopsAt_7 ?_
  refine lv_dup2_11 C.1 C.2.1 dX8_stopsAt_8 rfl rfl ?_
  obtain ⟨g_9, hf⟩ := gd hf
  refine z_iald C S 30 0 rfl (by decide) 2111 (fun _ => rfl) g_9 dX8_stopsAt_9 ?_
  refine lv_iconst (v := 1) C.1 C.2.1 dX8_stopsAt_10 (by decide) ?_
  refine lv_iadd C.1 C.2.1 dX8_stopsAt_11 ?_
  obtain ⟨g_12, hf⟩ := gd hf
  obtain ⟨σ1, e_12, hf⟩ := stb hf
  refine z_iast C S 30 0 rfl (by decide) 2111 (fun _ => rfl) g_12 dX8_stopsAt_12 (fun H locs S => ?_)
  rw [← e_12] at S
  refine lv_aload_n C.1 C.2.1 dX8_stopsAt_13 rfl (lv_at hl 0 rfl) ?_
  refine z_getR C S 8 0 rfl (by decide) cf_8 0 (by decide) _ (gr_8_0 G ad 0) tw_6_118 dX8_stopsAt_14 ?_
  refine lv_bipush (v := 31) C.1 C.2.1 dX8_stopsAt_17 (by decide) ?_
  refine lv_iload_n C.1 C.2.1 dX8_stopsAt_19 rfl (lv_at hl 1 rfl) ?_
  refine lv_iadd C.1 C.2.1 dX8_stopsAt_20 ?_
  refine lv_aload_n C.1 C.2.1 dX8_stopsAt_21 rfl (lv_at hl 0 rfl) ?_
  refine z_getR C S 8 0 rfl (by decide) cf_8 0 (by decide) _ (gr_8_0 G ad 0) tw_6_118 dX8_stopsAt_22 ?_
  refine lv_bipush (v := 7) C.1 C.2.1 dX8_stopsAt_25 (by decide) ?_
  refine z_ialdL C S 30 0 rfl (by decide) 2111 (fun _ => rfl) 7 (by decide) (by decide) (by decide) dX8_stopsAt_27 ?_
  obtain ⟨g_28, hf⟩ := gd hf
  obtain ⟨σ2, e_28, hf⟩ := stb hf
  refine z_iast C S 30 0 rfl (by decide) 2111 (fun _ => rfl) g_28 dX8_stopsAt_28 (fun H locs S => ?_)
  rw [← e_28] at S
  refine lv_iconst (v := 0) C.1 C.2.1 dX8_stopsAt_29 (by decide) ?_
  refine lv_istore_n (lv' := [(2, .int 0), (0, .ref (ad 8 0)), (1, .int v1)]) C.1 C.2.1 dX8_stopsAt_30 rfl hl (by decide) rfl (fun ls hl => ?_)
  exact w_X8_stopsAt_31 C FU _ v1 0 _ _ _ S (lv_sub hl [1, 2, 0] rfl) hf
theorem kv_X8_stopsAt : KV yX8_stopsAt cX8_stopsAt 3 none 1 := ⟨tw_8_25, tw_8_24, tw_p_92, tw_1_10, by decide, by decide, by decide +kernel⟩
theorem m_X8_stopsAt (l : Launch) (G : Gx) (ad : Ad) (σ : Sg) (v1 : Int32) (σ' : Sg)  (hf : f_X8_stopsAt σ v1 = some σ') (sz : Nat) : z_MV l yX8_stopsAt cX8_stopsAt 3 none 3 66 1 G ad σ sz [.ref (ad 8 0), .int v1] σ' := by
  refine z_begin (by decide +kernel) (Nat.le_of_ble_eq_true rfl) [(0, .ref (ad 8 0)), (1, .int v1)] rfl (fun p e s m args below meth c ls C hz S hl => ?_)
  subst hz
  exact w_X8_stopsAt_0 (res := σ') C σ v1 _ _ _ S hl  hf

theorem dX8_acts_0 : decode cX8_acts 0 = .ok (.aload_n 0, 1) := by decide +kernel
theorem dX8_acts_1 : decode cX8_acts 1 = .ok (.getfield 7, 3) := by decide +kernel
theorem dX8_acts_4 : decode cX8_acts 4 = .ok (.bipush 35, 2) := by decide +kernel
theorem dX8_acts_6 : decode cX8_acts 6 = .ok (.iload_n 1, 1) := by decide +kernel
theorem dX8_acts_7 : decode cX8_acts 7 = .ok (.iadd, 1) := by decide +kernel
theorem dX8_acts_8 : decode cX8_acts 8 = .ok (.iaload, 1) := by decide +kernel
theorem dX8_acts_9 : decode cX8_acts 9 = .ok (.iconst 1, 1) := by decide +kernel
theorem dX8_acts_10 : decode cX8_acts 10 = .ok (.if_icmp .ne 4, 3) := by decide +kernel
theorem dX8_acts_13 : decode cX8_acts 13 = .ok (.return_, 1) := by decide +kernel
theorem dX8_acts_14 : decode cX8_acts 14 = .ok (.aload_n 0, 1) := by decide +kernel
theorem dX8_acts_15 : decode cX8_acts 15 = .ok (.getfield 7, 3) := by decide +kernel
theorem dX8_acts_18 : decode cX8_acts 18 = .ok (.bipush 31, 2) := by decide +kernel
theorem dX8_acts_20 : decode cX8_acts 20 = .ok (.iload_n 1, 1) := by decide +kernel
theorem dX8_acts_21 : decode cX8_acts 21 = .ok (.iadd, 1) := by decide +kernel
theorem dX8_acts_22 : decode cX8_acts 22 = .ok (.iaload, 1) := by decide +kernel
theorem dX8_acts_23 : decode cX8_acts 23 = .ok (.ifCond .le 17, 3) := by decide +kernel
theorem dX8_acts_26 : decode cX8_acts 26 = .ok (.aload_n 0, 1) := by decide +kernel
theorem dX8_acts_27 : decode cX8_acts 27 = .ok (.getfield 7, 3) := by decide +kernel
theorem dX8_acts_30 : decode cX8_acts 30 = .ok (.bipush 31, 2) := by decide +kernel
theorem dX8_acts_32 : decode cX8_acts 32 = .ok (.iload_n 1, 1) := by decide +kernel
theorem dX8_acts_33 : decode cX8_acts 33 = .ok (.iadd, 1) := by decide +kernel
theorem dX8_acts_34 : decode cX8_acts 34 = .ok (.dup2, 1) := by decide +kernel
theorem dX8_acts_35 : decode cX8_acts 35 = .ok (.iaload, 1) := by decide +kernel
theorem dX8_acts_36 : decode cX8_acts 36 = .ok (.iconst 1, 1) := by decide +kernel
theorem dX8_acts_37 : decode cX8_acts 37 = .ok (.isub, 1) := by decide +kernel
theorem dX8_acts_38 : decode cX8_acts 38 = .ok (.iastore, 1) := by decide +kernel
theorem dX8_acts_39 : decode cX8_acts 39 = .ok (.return_, 1) := by decide +kernel
theorem dX8_acts_40 : decode cX8_acts 40 = .ok (.aload_n 0, 1) := by decide +kernel
theorem dX8_acts_41 : decode cX8_acts 41 = .ok (.iload_n 1, 1) := by decide +kernel
theorem dX8_acts_42 : decode cX8_acts 42 = .ok (.invokevirtual 129, 3) := by decide +kernel
theorem dX8_acts_45 : decode cX8_acts 45 = .ok (.ifCond .eq 9, 3) := by decide +kernel
theorem dX8_acts_48 : decode cX8_acts 48 = .ok (.aload_n 0, 1) := by decide +kernel
theorem dX8_acts_49 : decode cX8_acts 49 = .ok (.iload_n 1, 1) := by decide +kernel
theorem dX8_acts_50 : decode cX8_acts 50 = .ok (.invokevirtual 132, 3) := by decide +kernel
theorem dX8_acts_53 : decode cX8_acts 53 = .ok (.return_, 1) := by decide +kernel
theorem dX8_acts_54 : decode cX8_acts 54 = .ok (.aload_n 0, 1) := by decide +kernel
theorem dX8_acts_55 : decode cX8_acts 55 = .ok (.iload_n 1, 1) := by decide +kernel
theorem dX8_acts_56 : decode cX8_acts 56 = .ok (.invokevirtual 135, 3) := by decide +kernel
theorem dX8_acts_59 : decode cX8_acts 59 = .ok (.istore_n 2, 1) := by decide +kernel
theorem dX8_acts_60 : decode cX8_acts 60 = .ok (.iload_n 2, 1) := by decide +kernel
theorem dX8_acts_61 : decode cX8_acts 61 = .ok (.iconst (-1), 1) := by decide +kernel
theorem dX8_acts_62 : decode cX8_acts 62 = .ok (.if_icmp .ne 4, 3) := by decide +kernel
theorem dX8_acts_65 : decode cX8_acts 65 = .ok (.return_, 1) := by decide +kernel
theorem dX8_acts_66 : decode cX8_acts 66 = .ok (.aload_n 0, 1) := by decide +kernel
theorem dX8_acts_67 : decode cX8_acts 67 = .ok (.getfield 7, 3) := by decide +kernel
theorem dX8_acts_70 : decode cX8_acts 70 = .ok (.bipush 23, 2) := by decide +kernel
theorem dX8_acts_72 : decode cX8_acts 72 = .ok (.iload_n 1, 1) := by decide +kernel
theorem dX8_acts_73 : decode cX8_acts 73 = .ok (.iadd, 1) := by decide +kernel
theorem dX8_acts_74 : decode cX8_acts 74 = .ok (.dup2, 1) := by decide +kernel
theorem dX8_acts_75 : decode cX8_acts 75 = .ok (.iaload, 1) := by decide +kernel
theorem dX8_acts_76 : decode cX8_acts 76 = .ok (.iload_n 2, 1) := by decide +kernel
theorem dX8_acts_77 : decode cX8_acts 77 = .ok (.aload_n 0, 1) := by decide +kernel
theorem dX8_acts_78 : decode cX8_acts 78 = .ok (.getfield 7, 3) := by decide +kernel
theorem dX8_acts_81 : decode cX8_acts 81 = .ok (.bipush 23, 2) := by decide +kernel
theorem dX8_acts_83 : decode cX8_acts 83 = .ok (.iload_n 1, 1) := by decide +kernel
theorem dX8_acts_84 : decode cX8_acts 84 = .ok (.iadd, 1) := by decide +kernel
theorem dX8_acts_85 : decode cX8_acts 85 = .ok (.iaload, 1) := by decide +kernel
theorem dX8_acts_86 : decode cX8_acts 86 = .ok (.if_icmp .le 7, 3) := by decide +kernel
theorem dX8_acts_89 : decode cX8_acts 89 = .ok (.iconst 1, 1) := by decide +kernel
theorem dX8_acts_90 : decode cX8_acts 90 = .ok (.goto 4, 3) := by decide +kernel
theorem dX8_acts_93 : decode cX8_acts 93 = .ok (.iconst (-1), 1) := by decide +kernel
theorem dX8_acts_94 : decode cX8_acts 94 = .ok (.iadd, 1) := by decide +kernel
theorem dX8_acts_95 : decode cX8_acts 95 = .ok (.iastore, 1) := by decide +kernel
theorem dX8_acts_96 : decode cX8_acts 96 = .ok (.aload_n 0, 1) := by decide +kernel
theorem dX8_acts_97 : decode cX8_acts 97 = .ok (.getfield 7, 3) := by decide +kernel
theorem dX8_acts_100 : decode cX8_acts 100 = .ok (.bipush 43, 2) := by decide +kernel
theorem dX8_acts_102 : decode cX8_acts 102 = .ok (.iload_n 1, 1) := by decide +kernel
theorem dX8_acts_103 : decode cX8_acts 103 = .ok (.iadd, 1) := by decide +kernel
theorem dX8_acts_104 : decode cX8_acts 104 = .ok (.dup2, 1) := by decide +kernel
theorem dX8_acts_105 : decode cX8_acts 105 = .ok (.iaload, 1) := by decide +kernel
theorem dX8_acts_106 : decode cX8_acts 106 = .ok (.iconst 1, 1) := by decide +kernel
theorem dX8_acts_107 : decode cX8_acts 107 = .ok (.iadd, 1) := by decide +kernel
theorem dX8_acts_108 : decode cX8_acts 108 = .ok (.iastore, 1) := by decide +kernel
theorem dX8_acts_109 : decode cX8_acts 109 = .ok (.return_, 1) := by decide +kernel
/-! BusLiftsModel.acts(I)V -/
noncomputable def f_X8_acts_94  (σ : Sg) (v1 : Int32) (v101 : Int32) (v102 : Int32) (v103 : Int32) : Option Sg := if v101 < 0 ∨ 2111 ≤ (v101).toNatClampNeg then none else (st (sup σ 30 0 (v101).toNatClampNeg (v102 + v103)) fun σ1 => (if (43 + v1) < 0 ∨ 2111 ≤ ((43 + v1)).toNatClampNeg then none else (if (43 + v1) < 0 ∨ 2111 ≤ ((43 + v1)).toNatClampNeg then none else (st (sup σ1 30 0 ((43 + v1)).toNatClampNeg ((σ1 30 0 ((43 + v1)).toNatClampNeg) + 1)) fun σ2 => (some σ2)))))
noncomputable def f_X8_acts  (σ : Sg) (v1 : Int32) : Option Sg := if (35 + v1) < 0 ∨ 2111 ≤ ((35 + v1)).toNatClampNeg then none else (if (σ 30 0 ((35 + v1)).toNatClampNeg) = 1 then (some σ) else (if (31 + v1) < 0 ∨ 2111 ≤ ((31 + v1)).toNatClampNeg then none else (if (σ 30 0 ((31 + v1)).toNatClampNeg) ≤ 0 then (bi (f_X8_isStop σ v1) fun r2 σ1 => (if r2 = 0 then (bi (f_X8_goalOf σ1 v1) fun r4 σ3 => (if r4 = (-1) then (some σ3) else (if (23 + v1) < 0 ∨ 2111 ≤ ((23 + v1)).toNatClampNeg then none else (if (23 + v1) < 0 ∨ 2111 ≤ ((23 + v1)).toNatClampNeg then none else (if r4 ≤ (σ3 30 0 ((23 + v1)).toNatClampNeg) then (f_X8_acts_94 σ3 v1 (23 + v1) (σ3 30 0 ((23 + v1)).toNatClampNeg) (-1)) else (f_X8_acts_94 σ3 v1 (23 + v1) (σ3 30 0 ((23 + v1)).toNatClampNeg) 1)))))) else (bv (f_X8_stopsAt σ1 v1) fun σ5 => (some σ5)))) else (if (31 + v1) < 0 ∨ 2111 ≤ ((31 + v1)).toNatClampNeg then none else (if (31 + v1) < 0 ∨ 2111 ≤ ((31 + v1)).toNatClampNeg then none else (st (sup σ 30 0 ((31 + v1)).toNatClampNeg ((σ 30 0 ((31 + v1)).toNatClampNeg) - 1)) fun σ6 => (some σ6)))))))
set_option maxHeartbeats 4000000 in
set_option maxRecDepth 100000 in
theorem w_X8_acts_94 {p : Program} {l : Launch} {e : Env} {s : State} {m : MethodId} {args : Array Value} {below : List Frame} {meth : Method} {c : Code} {G : Gx} {ad : Ad} {res : Sg} (C : Cx p s m args meth c yX8_acts.cls cX8_acts 3 none G)  : ∀ (σ : Sg) (v1 : Int32) (v101 : Int32) (v102 : Int32) (v103 : Int32) (H : Heap) (locs : List Loc) (ls : Array Slot), z_S 1 G ad σ (z_A 1 ad s.heap.size) s.heap H locs → lv_has ls 3 [(0, .ref (ad 8 0)), (1, .int v1)] → f_X8_acts_94  σ v1 v101 v102 v103 = some res → W p l e { frames := 4, cells := 0, slots := 0, locals := 90 } s m args below meth c H locs 0 0 (MQ below (va_Qv (S := Unit) (fun _ => True) (fun _ t => z_W 1 G ad res t.heap) (z_A 1 ad s.heap.size)) args s 0 0 (z_A 1 ad s.heap.size)) (F0 m 94 ls [.int v103, .int v102, .int v101, .ref (ad 30 0)]) := by
  intro σ v1 v101 v102 v103 H locs ls S hl  hf
  unfold f_X8_acts_94 at hf
  refine lv_iadd C.1 C.2.1 dX8_acts_94 ?_
  obtain ⟨g_95, hf⟩ := gd hf
  obtain ⟨σ1, e_95, hf⟩ := stb hf
  refine z_iast C S 30 0 rfl (by decide) 2111 (fun _ => rfl) g_95 dX8_acts_95 (fun H locs S => ?_)
  rw [← e_95] at S
  refine lv_aload_n C.1 C.2.1 dX8_acts_96 rfl (lv_at hl 0 rfl) ?_
  refine z_getR C S 8 0 rfl (by decide) cf_8 0 (by decide) _ (gr_8_0 G ad 0) tw_6_118 dX8_acts_97 ?_
  refine lv_bipush (v := 43) C.1 C.2.1 dX8_acts_100 (by decide) ?_
  refine lv_iload_n C.1 C.2.1 dX8_acts_102 rfl (lv_at hl 1 rfl) ?_
  refine lv_iadd C.1 C.2.1 dX8_acts_103 ?_
  refine lv_dup2_11 C.1 C.2.1 dX8_acts_104 rfl rfl ?_
  obtain ⟨g_105, hf⟩ := gd hf
  refine z_iald C S 30 0 rfl (by decide) 2111 (fun _ => rfl) g_105 dX8_acts_105 ?_
  refine lv_iconst (v := 1) C.1 C.2.1 dX8_acts_106 (by decide) ?_
  refine lv_iadd C.1 C.2.1 dX8_acts_107 ?_
  obtain ⟨g_108, hf⟩ := gd hf
  obtain ⟨σ2, e_108, hf⟩ := stb hf
  refine z_iast C S 30 0 rfl (by decide) 2111 (fun _ => rfl) g_108 dX8_acts_108 (fun H locs S => ?_)
  rw [← e_108] at S
  exact z_vret C S hf dX8_acts_109
set_option maxHeartbeats 4000000 in
set_option maxRecDepth 100000 in
theorem w_X8_acts_0 {p : Program} {l : Launch} {e : Env} {s : State} {m : MethodId} {args : Array Value} {below : List Frame} {meth : Method} {c : Code} {G : Gx} {ad : Ad} {res : Sg} (C : Cx p s m args meth c yX8_acts.cls cX8_acts 3 none G)  : ∀ (σ : Sg) (v1 : Int32) (H : Heap) (locs : List Loc) (ls : Array Slot), z_S 1 G ad σ (z_A 1 ad s.heap.size) s.heap H locs → lv_has ls 3 [(0, .ref (ad 8 0)), (1, .int v1)] → f_X8_acts  σ v1 = some res → W p l e { frames := 4, cells := 0, slots := 0, locals := 90 } s m args below meth c H locs 0 0 (MQ below (va_Qv (S := Unit) (fun _ => True) (fun _ t => z_W 1 G ad res t.heap) (z_A 1 ad s.heap.size)) args s 0 0 (z_A 1 ad s.heap.size)) (F0 m 0 ls []) := by
  intro σ v1 H locs ls S hl  hf
  unfold f_X8_acts at hf
  refine lv_aload_n C.1 C.2.1 dX8_acts_0 rfl (lv_at hl 0 rfl) ?_
  refine z_getR C S 8 0 rfl (by decide) cf_8 0 (by decide) _ (gr_8_0 G ad 0) tw_6_118 dX8_acts_1 ?_
  refine lv_bipush (v := 35) C.1 C.2.1 dX8_acts_4 (by decide) ?_
  refine lv_iload_n C.1 C.2.1 dX8_acts_6 rfl (lv_at hl 1 rfl) ?_
  refine lv_iadd C.1 C.2.1 dX8_acts_7 ?_
  obtain ⟨g_8, hf⟩ := gd hf
  refine z_iald C S 30 0 rfl (by decide) 2111 (fun _ => rfl) g_8 dX8_acts_8 ?_
  refine lv_iconst (v := 1) C.1 C.2.1 dX8_acts_9 (by decide) ?_
  refine lv_icmp_ne (tgt := 14) C.1 C.2.1 dX8_acts_10 (by decide) (fun c_10 => ?_) (fun c_10 => ?_)
  · rw [if_neg c_10] at hf
    refine lv_aload_n C.1 C.2.1 dX8_acts_14 rfl (lv_at hl 0 rfl) ?_
    refine z_getR C S 8 0 rfl (by decide) cf_8 0 (by decide) _ (gr_8_0 G ad 0) tw_6_118 dX8_acts_15 ?_
    refine lv_bipush (v := 31) C.1 C.2.1 dX8_acts_18 (by decide) ?_
    refine lv_iload_n C.1 C.2.1 dX8_acts_20 rfl (lv_at hl 1 rfl) ?_
    refine lv_iadd C.1 C.2.1 dX8_acts_21 ?_
    obtain ⟨g_22, hf⟩ := gd hf
    refine z_iald C S 30 0 rfl (by decide) 2111 (fun _ => rfl) g_22 dX8_acts_22 ?_
    refine lv_if_le (tgt := 40) C.1 C.2.1 dX8_acts_23 (by decide) (fun c_23 => ?_) (fun c_23 => ?_)
    · rw [if_pos c_23] at hf
      refine lv_aload_n C.1 C.2.1 dX8_acts_40 rfl (lv_at hl 0 rfl) ?_
      refine lv_iload_n C.1 C.2.1 dX8_acts_41 rfl (lv_at hl 1 rfl) ?_
      obtain ⟨r2, σ1, q_42, hf⟩ := bib hf
      refine z_callI C S 8 0 rfl (by decide) cf_8 ⟨_, rfl⟩ [.int v1] (m_X8_isStop l G ad σ v1 r2 σ1 q_42 _) kv_X8_isStop tw_8_10 ⟨Nat.le_of_ble_eq_true rfl, Nat.le_of_ble_eq_true rfl⟩ rfl rfl (Nat.le_of_ble_eq_true rfl) hl.1 ⟨Nat.le_of_ble_eq_true rfl, Nat.le_of_ble_eq_true rfl⟩ dX8_acts_42 (fun H locs S => ?_)
      refine lv_if_eq (tgt := 54) C.1 C.2.1 dX8_acts_45 (by decide) (fun c_45 => ?_) (fun c_45 => ?_)
      · rw [if_pos c_45] at hf
        refine lv_aload_n C.1 C.2.1 dX8_acts_54 rfl (lv_at hl 0 rfl) ?_
        refine lv_iload_n C.1 C.2.1 dX8_acts_55 rfl (lv_at hl 1 rfl) ?_
        obtain ⟨r4, σ3, q_56, hf⟩ := bib hf
        refine z_callI C S 8 0 rfl (by decide) cf_8 ⟨_, rfl⟩ [.int v1] (m_X8_goalOf l G ad σ1 v1 r4 σ3 q_56 _) kv_X8_goalOf tw_7_154 ⟨Nat.le_of_ble_eq_true rfl, Nat.le_of_ble_eq_true rfl⟩ rfl rfl (Nat.le_of_ble_eq_true rfl) hl.1 ⟨Nat.le_of_ble_eq_true rfl, Nat.le_of_ble_eq_true rfl⟩ dX8_acts_56 (fun H locs S => ?_)
        refine lv_istore_n (lv' := [(2, .int r4), (0, .ref (ad 8 0)), (1, .int v1)]) C.1 C.2.1 dX8_acts_59 rfl hl (by decide) rfl (fun ls hl => ?_)
        refine lv_iload_n C.1 C.2.1 dX8_acts_60 rfl (lv_at hl 0 rfl) ?_
        refine lv_iconst (v := (-1)) C.1 C.2.1 dX8_acts_61 (by decide) ?_
        refine lv_icmp_ne (tgt := 66) C.1 C.2.1 dX8_acts_62 (by decide) (fun c_62 => ?_) (fun c_62 => ?_)
        · rw [if_neg c_62] at hf
          refine lv_aload_n C.1 C.2.1 dX8_acts_66 rfl (lv_at hl 1 rfl) ?_
          refine z_getR C S 8 0 rfl (by decide) cf_8 0 (by decide) _ (gr_8_0 G ad 0) tw_6_118 dX8_acts_67 ?_
          refine lv_bipush (v := 23) C.1 C.2.1 dX8_acts_70 (by decide) ?_
          refine lv_iload_n C.1 C.2.1 dX8_acts_72 rfl (lv_at hl 2 rfl) ?_
          refine lv_iadd C.1 C.2.1 dX8_acts_73 ?_
          refine lv_dup2_11 C.1 C.2.1 dX8_acts_74 rfl rfl ?_
          obtain ⟨g_75, hf⟩ := gd hf
          refine z_iald C S 30 0 rfl (by decide) 2111 (fun _ => rfl) g_75 dX8_acts_75 ?_
          refine lv_iload_n C.1 C.2.1 dX8_acts_76 rfl (lv_at hl 0 rfl) ?_
          refine lv_aload_n C.1 C.2.1 dX8_acts_77 rfl (lv_at hl 1 rfl) ?_
          refine z_getR C S 8 0 rfl (by decide) cf_8 0 (by decide) _ (gr_8_0 G ad 0) tw_6_118 dX8_acts_78 ?_
          refine lv_bipush (v := 23) C.1 C.2.1 dX8_acts_81 (by decide) ?_
          refine lv_iload_n C.1 C.2.1 dX8_acts_83 rfl (lv_at hl 2 rfl) ?_
          refine lv_iadd C.1 C.2.1 dX8_acts_84 ?_
          obtain ⟨g_85, hf⟩ := gd hf
          refine z_iald C S 30 0 rfl (by decide) 2111 (fun _ => rfl) g_85 dX8_acts_85 ?_
          refine lv_icmp_le (tgt := 93) C.1 C.2.1 dX8_acts_86 (by decide) (fun c_86 => ?_) (fun c_86 => ?_)
          · rw [if_pos c_86] at hf
            refine lv_iconst (v := (-1)) C.1 C.2.1 dX8_acts_93 (by decide) ?_
            exact w_X8_acts_94 C _ v1 (23 + v1) (σ3 30 0 ((23 + v1)).toNatClampNeg) (-1) _ _ _ S (lv_sub hl [1, 2] rfl) hf
          · rw [if_neg c_86] at hf
            refine lv_iconst (v := 1) C.1 C.2.1 dX8_acts_89 (by decide) ?_
            refine lv_goto (tgt := 94) C.1 C.2.1 dX8_acts_90 (by decide) ?_
            exact w_X8_acts_94 C _ v1 (23 + v1) (σ3 30 0 ((23 + v1)).toNatClampNeg) 1 _ _ _ S (lv_sub hl [1, 2] rfl) hf
        · rw [if_pos c_62] at hf
          exact z_vret C S hf dX8_acts_65
      · rw [if_neg c_45] at hf
        refine lv_aload_n C.1 C.2.1 dX8_acts_48 rfl (lv_at hl 0 rfl) ?_
        refine lv_iload_n C.1 C.2.1 dX8_acts_49 rfl (lv_at hl 1 rfl) ?_
        obtain ⟨σ5, q_50, hf⟩ := bvb hf
        refine z_callV C S 8 0 rfl (by decide) cf_8 ⟨_, rfl⟩ [.int v1] (m_X8_stopsAt l G ad σ1 v1 σ5 q_50 _) kv_X8_stopsAt tw_8_22 ⟨Nat.le_of_ble_eq_true rfl, Nat.le_of_ble_eq_true rfl⟩ rfl rfl (Nat.le_of_ble_eq_true rfl) hl.1 ⟨Nat.le_of_ble_eq_true rfl, Nat.le_of_ble_eq_true rfl⟩ dX8_acts_50 (fun H locs S => ?_)
        exact z_vret C S hf dX8_acts_53
    · rw [if_neg c_23] at hf
      refine lv_aload_n C.1 C.2.1 dX8_acts_26 rfl (lv_at hl 0 rfl) ?_
      refine z_getR C S 8 0 rfl (by decide) cf_8 0 (by decide) _ (gr_8_0 G ad 0) tw_6_118 dX8_acts_27 ?_
      refine lv_bipush (v := 31) C.1 C.2.1 dX8_acts_30 (by decide) ?_
      refine lv_iload_n C.1 C.2.1 dX8_acts_32 rfl (lv_at hl 1 rfl) ?_
      refine lv_iadd C.1 C.2.1 dX8_acts_33 ?_
      refine lv_dup2_11 C.1 C.2.1 dX8_acts_34 rfl rfl ?_
      obtain ⟨g_35, hf⟩ := gd hf
      refine z_iald C S 30 0 rfl (by decide) 2111 (fun _ => rfl) g_35 dX8_acts_35 ?_
      refine lv_iconst (v := 1) C.1 C.2.1 dX8_acts_36 (by decide) ?_
      refine lv_isub C.1 C.2.1 dX8_acts_37 ?_
      obtain ⟨g_38, hf⟩ := gd hf
      obtain ⟨σ6, e_38, hf⟩ := stb hf
      refine z_iast C S 30 0 rfl (by decide) 2111 (fun _ => rfl) g_38 dX8_acts_38 (fun H locs S => ?_)
      rw [← e_38] at S
      exact z_vret C S hf dX8_acts_39
  · rw [if_pos c_10] at hf
    exact z_vret C S hf dX8_acts_13
theorem kv_X8_acts : KV yX8_acts cX8_acts 3 none 1 := ⟨tw_8_9, tw_8_8, tw_p_88, tw_1_10, by decide, by decide, by decide +kernel⟩
theorem m_X8_acts (l : Launch) (G : Gx) (ad : Ad) (σ : Sg) (v1 : Int32) (σ' : Sg)  (hf : f_X8_acts σ v1 = some σ') (sz : Nat) : z_MV l yX8_acts cX8_acts 3 none 4 90 1 G ad σ sz [.ref (ad 8 0), .int v1] σ' := by
  refine z_begin (by decide +kernel) (Nat.le_of_ble_eq_true rfl) [(0, .ref (ad 8 0)), (1, .int v1)] rfl (fun p e s m args below meth c ls C hz S hl => ?_)
  subst hz
  exact w_X8_acts_0 (res := σ') C σ v1 _ _ _ S hl  hf

theorem dX8_ticks_0 : decode cX8_ticks 0 = .ok (.aload_n 0, 1) := by decide +kernel
theorem dX8_ticks_1 : decode cX8_ticks 1 = .ok (.getfield 7, 3) := by decide +kernel
theorem dX8_ticks_4 : decode cX8_ticks 4 = .ok (.bipush 10, 2) := by decide +kernel
theorem dX8_ticks_6 : decode cX8_ticks 6 = .ok (.iaload, 1) := by decide +kernel
theorem dX8_ticks_7 : decode cX8_ticks 7 = .ok (.istore_n 1, 1) := by decide +kernel
theorem dX8_ticks_8 : decode cX8_ticks 8 = .ok (.aload_n 0, 1) := by decide +kernel
theorem dX8_ticks_9 : decode cX8_ticks 9 = .ok (.getfield 7, 3) := by decide +kernel
theorem dX8_ticks_12 : decode cX8_ticks 12 = .ok (.sipush 1087, 3) := by decide +kernel
theorem dX8_ticks_15 : decode cX8_ticks 15 = .ok (.aload_n 0, 1) := by decide +kernel
theorem dX8_ticks_16 : decode cX8_ticks 16 = .ok (.getfield 25, 3) := by decide +kernel
theorem dX8_ticks_19 : decode cX8_ticks 19 = .ok (.iconst 0, 1) := by decide +kernel
theorem dX8_ticks_20 : decode cX8_ticks 20 = .ok (.iconst 4, 1) := by decide +kernel
theorem dX8_ticks_21 : decode cX8_ticks 21 = .ok (.iload_n 1, 1) := by decide +kernel
theorem dX8_ticks_22 : decode cX8_ticks 22 = .ok (.imul, 1) := by decide +kernel
theorem dX8_ticks_23 : decode cX8_ticks 23 = .ok (.invokestatic 57, 3) := by decide +kernel
theorem dX8_ticks_26 : decode cX8_ticks 26 = .ok (.aload_n 0, 1) := by decide +kernel
theorem dX8_ticks_27 : decode cX8_ticks 27 = .ok (.getfield 7, 3) := by decide +kernel
theorem dX8_ticks_30 : decode cX8_ticks 30 = .ok (.bipush 10, 2) := by decide +kernel
theorem dX8_ticks_32 : decode cX8_ticks 32 = .ok (.iconst 0, 1) := by decide +kernel
theorem dX8_ticks_33 : decode cX8_ticks 33 = .ok (.iastore, 1) := by decide +kernel
theorem dX8_ticks_34 : decode cX8_ticks 34 = .ok (.aload_n 0, 1) := by decide +kernel
theorem dX8_ticks_35 : decode cX8_ticks 35 = .ok (.invokevirtual 138, 3) := by decide +kernel
theorem dX8_ticks_38 : decode cX8_ticks 38 = .ok (.iconst 0, 1) := by decide +kernel
theorem dX8_ticks_39 : decode cX8_ticks 39 = .ok (.istore_n 2, 1) := by decide +kernel
theorem dX8_ticks_40 : decode cX8_ticks 40 = .ok (.iload_n 2, 1) := by decide +kernel
theorem dX8_ticks_41 : decode cX8_ticks 41 = .ok (.iload_n 1, 1) := by decide +kernel
theorem dX8_ticks_42 : decode cX8_ticks 42 = .ok (.if_icmp .ge 14, 3) := by decide +kernel
theorem dX8_ticks_45 : decode cX8_ticks 45 = .ok (.aload_n 0, 1) := by decide +kernel
theorem dX8_ticks_46 : decode cX8_ticks 46 = .ok (.iload_n 2, 1) := by decide +kernel
theorem dX8_ticks_47 : decode cX8_ticks 47 = .ok (.invokevirtual 141, 3) := by decide +kernel
theorem dX8_ticks_50 : decode cX8_ticks 50 = .ok (.iinc 2 1, 3) := by decide +kernel
theorem dX8_ticks_53 : decode cX8_ticks 53 = .ok (.goto (-13), 3) := by decide +kernel
theorem dX8_ticks_56 : decode cX8_ticks 56 = .ok (.aload_n 0, 1) := by decide +kernel
theorem dX8_ticks_57 : decode cX8_ticks 57 = .ok (.invokevirtual 144, 3) := by decide +kernel
theorem dX8_ticks_60 : decode cX8_ticks 60 = .ok (.iconst 0, 1) := by decide +kernel
theorem dX8_ticks_61 : decode cX8_ticks 61 = .ok (.istore_n 2, 1) := by decide +kernel
theorem dX8_ticks_62 : decode cX8_ticks 62 = .ok (.iload_n 2, 1) := by decide +kernel
theorem dX8_ticks_63 : decode cX8_ticks 63 = .ok (.aload_n 0, 1) := by decide +kernel
theorem dX8_ticks_64 : decode cX8_ticks 64 = .ok (.getfield 7, 3) := by decide +kernel
theorem dX8_ticks_67 : decode cX8_ticks 67 = .ok (.iconst 1, 1) := by decide +kernel
theorem dX8_ticks_68 : decode cX8_ticks 68 = .ok (.iaload, 1) := by decide +kernel
theorem dX8_ticks_69 : decode cX8_ticks 69 = .ok (.if_icmp .ge 14, 3) := by decide +kernel
theorem dX8_ticks_72 : decode cX8_ticks 72 = .ok (.aload_n 0, 1) := by decide +kernel
theorem dX8_ticks_73 : decode cX8_ticks 73 = .ok (.iload_n 2, 1) := by decide +kernel
theorem dX8_ticks_74 : decode cX8_ticks 74 = .ok (.invokevirtual 147, 3) := by decide +kernel
theorem dX8_ticks_77 : decode cX8_ticks 77 = .ok (.iinc 2 1, 3) := by decide +kernel
theorem dX8_ticks_80 : decode cX8_ticks 80 = .ok (.goto (-18), 3) := by decide +kernel
theorem dX8_ticks_83 : decode cX8_ticks 83 = .ok (.iconst 0, 1) := by decide +kernel
theorem dX8_ticks_84 : decode cX8_ticks 84 = .ok (.istore_n 2, 1) := by decide +kernel
theorem dX8_ticks_85 : decode cX8_ticks 85 = .ok (.iload_n 2, 1) := by decide +kernel
theorem dX8_ticks_86 : decode cX8_ticks 86 = .ok (.aload_n 0, 1) := by decide +kernel
theorem dX8_ticks_87 : decode cX8_ticks 87 = .ok (.getfield 7, 3) := by decide +kernel
theorem dX8_ticks_90 : decode cX8_ticks 90 = .ok (.iconst 1, 1) := by decide +kernel
theorem dX8_ticks_91 : decode cX8_ticks 91 = .ok (.iaload, 1) := by decide +kernel
theorem dX8_ticks_92 : decode cX8_ticks 92 = .ok (.if_icmp .ge 14, 3) := by decide +kernel
theorem dX8_ticks_95 : decode cX8_ticks 95 = .ok (.aload_n 0, 1) := by decide +kernel
theorem dX8_ticks_96 : decode cX8_ticks 96 = .ok (.iload_n 2, 1) := by decide +kernel
theorem dX8_ticks_97 : decode cX8_ticks 97 = .ok (.invokevirtual 150, 3) := by decide +kernel
theorem dX8_ticks_100 : decode cX8_ticks 100 = .ok (.iinc 2 1, 3) := by decide +kernel
theorem dX8_ticks_103 : decode cX8_ticks 103 = .ok (.goto (-18), 3) := by decide +kernel
theorem dX8_ticks_106 : decode cX8_ticks 106 = .ok (.aload_n 0, 1) := by decide +kernel
theorem dX8_ticks_107 : decode cX8_ticks 107 = .ok (.getfield 7, 3) := by decide +kernel
theorem dX8_ticks_110 : decode cX8_ticks 110 = .ok (.iconst 3, 1) := by decide +kernel
theorem dX8_ticks_111 : decode cX8_ticks 111 = .ok (.dup2, 1) := by decide +kernel
theorem dX8_ticks_112 : decode cX8_ticks 112 = .ok (.iaload, 1) := by decide +kernel
theorem dX8_ticks_113 : decode cX8_ticks 113 = .ok (.iconst 1, 1) := by decide +kernel
theorem dX8_ticks_114 : decode cX8_ticks 114 = .ok (.iadd, 1) := by decide +kernel
theorem dX8_ticks_115 : decode cX8_ticks 115 = .ok (.iastore, 1) := by decide +kernel
theorem dX8_ticks_116 : decode cX8_ticks 116 = .ok (.return_, 1) := by decide +kernel
/-! BusLiftsModel.ticks()V -/
noncomputable def f_X8_ticks_106  (σ : Sg)  : Option Sg := st (sup σ 30 0 3 ((σ 30 0 3) + 1)) fun σ1 => (some σ1)
noncomputable def f_X8_ticks_85  : Nat → Sg → Int32 → Option Sg
  | 0, _, _ => none
  | n + 1, σ, v2 => if (σ 30 0 1) ≤ v2 then (f_X8_ticks_106 σ) else (bv (f_X8_acts σ v2) fun σ1 => (f_X8_ticks_85  n σ1 (v2 + 1)))
theorem f_X8_ticks_85_s  (n : Nat) (σ : Sg) (v2 : Int32) : f_X8_ticks_85  (n + 1) σ v2 = (if (σ 30 0 1) ≤ v2 then (f_X8_ticks_106 σ) else (bv (f_X8_acts σ v2) fun σ1 => (f_X8_ticks_85  n σ1 (v2 + 1)))) := rfl
noncomputable def f_X8_ticks_83  (σ : Sg)  : Option Sg := f_X8_ticks_85 FU σ 0
noncomputable def f_X8_ticks_62  : Nat → Sg → Int32 → Option Sg
  | 0, _, _ => none
  | n + 1, σ, v2 => if (σ 30 0 1) ≤ v2 then (f_X8_ticks_83 σ) else (bv (f_X8_decides σ v2) fun σ1 => (f_X8_ticks_62  n σ1 (v2 + 1)))
theorem f_X8_ticks_62_s  (n : Nat) (σ : Sg) (v2 : Int32) : f_X8_ticks_62  (n + 1) σ v2 = (if (σ 30 0 1) ≤ v2 then (f_X8_ticks_83 σ) else (bv (f_X8_decides σ v2) fun σ1 => (f_X8_ticks_62  n σ1 (v2 + 1)))) := rfl
noncomputable def f_X8_ticks_56  (σ : Sg)  : Option Sg := bv (f_X8_minds σ) fun σ1 => (f_X8_ticks_62 FU σ1 0)
noncomputable def f_X8_ticks_40  : Nat → Sg → Int32 → Int32 → Option Sg
  | 0, _, _, _ => none
  | n + 1, σ, v1, v2 => if v1 ≤ v2 then (f_X8_ticks_56 σ) else (bv (f_X8_delivers σ v2) fun σ1 => (f_X8_ticks_40  n σ1 v1 (v2 + 1)))
theorem f_X8_ticks_40_s  (n : Nat) (σ : Sg) (v1 : Int32) (v2 : Int32) : f_X8_ticks_40  (n + 1) σ v1 v2 = (if v1 ≤ v2 then (f_X8_ticks_56 σ) else (bv (f_X8_delivers σ v2) fun σ1 => (f_X8_ticks_40  n σ1 v1 (v2 + 1)))) := rfl
noncomputable def f_X8_ticks  (σ : Sg)  : Option Sg := bv (f_X8_copies σ 30 0 2111 1087 35 0 1024 0 (4 * (σ 30 0 10))) fun σ1 => (st (sup σ1 30 0 10 0) fun σ2 => (bv (f_X8_comes σ2) fun σ3 => (f_X8_ticks_40 FU σ3 (σ 30 0 10) 0)))
set_option maxHeartbeats 4000000 in
set_option maxRecDepth 100000 in
theorem w_X8_ticks_106 {p : Program} {l : Launch} {e : Env} {s : State} {m : MethodId} {args : Array Value} {below : List Frame} {meth : Method} {c : Code} {G : Gx} {ad : Ad} {res : Sg} (C : Cx p s m args meth c yX8_ticks.cls cX8_ticks 3 none G)  : ∀ (σ : Sg)  (H : Heap) (locs : List Loc) (ls : Array Slot), z_S 1 G ad σ (z_A 1 ad s.heap.size) s.heap H locs → lv_has ls 3 [(0, .ref (ad 8 0))] → f_X8_ticks_106  σ  = some res → W p l e { frames := 6, cells := 0, slots := 0, locals := 139 } s m args below meth c H locs 0 0 (MQ below (va_Qv (S := Unit) (fun _ => True) (fun _ t => z_W 1 G ad res t.heap) (z_A 1 ad s.heap.size)) args s 0 0 (z_A 1 ad s.heap.size)) (F0 m 106 ls []) := by
  intro σ  H locs ls S hl  hf
  unfold f_X8_ticks_106 at hf
  refine lv_aload_n C.1 C.2.1 dX8_ticks_106 rfl (lv_at hl 0 rfl) ?_
  refine z_getR C S 8 0 rfl (by decide) cf_8 0 (by decide) _ (gr_8_0 G ad 0) tw_6_118 dX8_ticks_107 ?_
  refine lv_iconst (v := 3) C.1 C.2.1 dX8_ticks_110 (by decide) ?_
  refine lv_dup2_11 C.1 C.2.1 dX8_ticks_111 rfl rfl ?_
  refine z_ialdL C S 30 0 rfl (by decide) 2111 (fun _ => rfl) 3 (by decide) (by decide) (by decide) dX8_ticks_112 ?_
  refine lv_iconst (v := 1) C.1 C.2.1 dX8_ticks_113 (by decide) ?_
  refine lv_iadd C.1 C.2.1 dX8_ticks_114 ?_
  obtain ⟨σ1, e_115, hf⟩ := stb hf
  refine z_iastL C S 30 0 rfl (by decide) 2111 (fun _ => rfl) 3 (by decide) (by decide) (by decide) dX8_ticks_115 (fun H locs S => ?_)
  rw [← e_115] at S
  exact z_vret C S hf dX8_ticks_116
set_option maxHeartbeats 4000000 in
set_option maxRecDepth 100000 in
theorem w_X8_ticks_85 {p : Program} {l : Launch} {e : Env} {s : State} {m : MethodId} {args : Array Value} {below : List Frame} {meth : Method} {c : Code} {G : Gx} {ad : Ad} {res : Sg} (C : Cx p s m args meth c yX8_ticks.cls cX8_ticks 3 none G)  : ∀ n : Nat, ∀ (σ : Sg) (v2 : Int32) (H : Heap) (locs : List Loc) (ls : Array Slot), z_S 1 G ad σ (z_A 1 ad s.heap.size) s.heap H locs → lv_has ls 3 [(0, .ref (ad 8 0)), (2, .int v2)] → f_X8_ticks_85  n σ v2 = some res → W p l e { frames := 6, cells := 0, slots := 0, locals := 139 } s m args below meth c H locs 0 0 (MQ below (va_Qv (S := Unit) (fun _ => True) (fun _ t => z_W 1 G ad res t.heap) (z_A 1 ad s.heap.size)) args s 0 0 (z_A 1 ad s.heap.size)) (F0 m 85 ls []) := by
  intro n
  induction n with
  | zero => intro σ v2 H locs ls S hl  hf; cases hf
  | succ n ih =>
    intro σ v2 H locs ls S hl  hf
    rw [f_X8_ticks_85_s] at hf
    refine lv_iload_n C.1 C.2.1 dX8_ticks_85 rfl (lv_at hl 1 rfl) ?_
    refine lv_aload_n C.1 C.2.1 dX8_ticks_86 rfl (lv_at hl 0 rfl) ?_
    refine z_getR C S 8 0 rfl (by decide) cf_8 0 (by decide) _ (gr_8_0 G ad 0) tw_6_118 dX8_ticks_87 ?_
    refine lv_iconst (v := 1) C.1 C.2.1 dX8_ticks_90 (by decide) ?_
    refine z_ialdL C S 30 0 rfl (by decide) 2111 (fun _ => rfl) 1 (by decide) (by decide) (by decide) dX8_ticks_91 ?_
    refine lv_icmp_ge (tgt := 106) C.1 C.2.1 dX8_ticks_92 (by decide) (fun c_92 => ?_) (fun c_92 => ?_)
    · rw [if_pos c_92] at hf
      exact w_X8_ticks_106 C _ _ _ _ S (lv_sub hl [0] rfl) hf
    · rw [if_neg c_92] at hf
      refine lv_aload_n C.1 C.2.1 dX8_ticks_95 rfl (lv_at hl 0 rfl) ?_
      refine lv_iload_n C.1 C.2.1 dX8_ticks_96 rfl (lv_at hl 1 rfl) ?_
      obtain ⟨σ1, q_97, hf⟩ := bvb hf
      refine z_callV C S 8 0 rfl (by decide) cf_8 ⟨_, rfl⟩ [.int v2] (m_X8_acts l G ad σ v2 σ1 q_97 _) kv_X8_acts tw_8_6 ⟨Nat.le_of_ble_eq_true rfl, Nat.le_of_ble_eq_true rfl⟩ rfl rfl (Nat.le_of_ble_eq_true rfl) hl.1 ⟨Nat.le_of_ble_eq_true rfl, Nat.le_of_ble_eq_true rfl⟩ dX8_ticks_97 (fun H locs S => ?_)
      refine lv_iinc (v := (v2 + 1)) (lv' := [(2, .int (v2 + 1)), (0, .ref (ad 8 0))]) C.1 C.2.1 dX8_ticks_100 hl (k := 1) rfl rfl (by decide) rfl (fun ls hl => ?_)
      refine lv_goto (tgt := 85) C.1 C.2.1 dX8_ticks_103 (by decide) ?_
      exact ih _ (v2 + 1) _ _ _ S (lv_sub hl [1, 0] rfl)  hf
set_option maxHeartbeats 4000000 in
set_option maxRecDepth 100000 in
theorem w_X8_ticks_83 {p : Program} {l : Launch} {e : Env} {s : State} {m : MethodId} {args : Array Value} {below : List Frame} {meth : Method} {c : Code} {G : Gx} {ad : Ad} {res : Sg} (C : Cx p s m args meth c yX8_ticks.cls cX8_ticks 3 none G)  : ∀ (σ : Sg)  (H : Heap) (locs : List Loc) (ls : Array Slot), z_S 1 G ad σ (z_A 1 ad s.heap.size) s.heap H locs → lv_has ls 3 [(0, .ref (ad 8 0))] → f_X8_ticks_83  σ  = some res → W p l e { frames := 6, cells := 0, slots := 0, locals := 139 } s m args below meth c H locs 0 0 (MQ below (va_Qv (S := Unit) (fun _ => True) (fun _ t => z_W 1 G ad res t.heap) (z_A 1 ad s.heap.size)) args s 0 0 (z_A 1 ad s.heap.size)) (F0 m 83 ls []) := by
  intro σ  H locs ls S hl  hf
  unfold f_X8_ticks_83 at hf
  refine lv_iconst (v := 0) C.1 C.2.1 dX8_ticks_83 (by decide) ?_
  refine lv_istore_n (lv' := [(2, .int 0), (0, .ref (ad 8 0))]) C.1 C.2.1 dX8_ticks_84 rfl hl (by decide) rfl (fun ls hl => ?_)
  exact w_X8_ticks_85 C FU _ 0 _ _ _ S (lv_sub hl [1, 0] rfl) hf
set_option maxHeartbeats 4000000 in
set_option maxRecDepth 100000 in
theorem w_X8_ticks_62 {p : Program} {l : Launch} {e : Env} {s : State} {m : MethodId} {args : Array Value} {below : List Frame} {meth : Method} {c : Code} {G : Gx} {ad : Ad} {res : Sg} (C : Cx p s m args meth c yX8_ticks.cls cX8_ticks 3 none G)  : ∀ n : Nat, ∀ (σ : Sg) (v2 : Int32) (H : Heap) (locs : List Loc) (ls : Array Slot), z_S 1 G ad σ (z_A 1 ad s.heap.size) s.heap H locs → lv_has ls 3 [(0, .ref (ad 8 0)), (2, .int v2)] → f_X8_ticks_62  n σ v2 = some res → W p l e { frames := 6, cells := 0, slots := 0, locals := 139 } s m args below meth c H locs 0 0 (MQ below (va_Qv (S := Unit) (fun _ => True) (fun _ t => z_W 1 G ad res t.heap) (z_A 1 ad s.heap.size)) args s 0 0 (z_A 1 ad s.heap.size)) (F0 m 62 ls []) := by
  intro n
  induction n with
  | zero => intro σ v2 H locs ls S hl  hf; cases hf
  | succ n ih =>
    intro σ v2 H locs ls S hl  hf
    rw [f_X8_ticks_62_s] at hf
    refine lv_iload_n C.1 C.2.1 dX8_ticks_62 rfl (lv_at hl 1 rfl) ?_
    refine lv_aload_n C.1 C.2.1 dX8_ticks_63 rfl (lv_at hl 0 rfl) ?_
    refine z_getR C S 8 0 rfl (by decide) cf_8 0 (by decide) _ (gr_8_0 G ad 0) tw_6_118 dX8_ticks_64 ?_
    refine lv_iconst (v := 1) C.1 C.2.1 dX8_ticks_67 (by decide) ?_
    refine z_ialdL C S 30 0 rfl (by decide) 2111 (fun _ => rfl) 1 (by decide) (by decide) (by decide) dX8_ticks_68 ?_
    refine lv_icmp_ge (tgt := 83) C.1 C.2.1 dX8_ticks_69 (by decide) (fun c_69 => ?_) (fun c_69 => ?_)
    · rw [if_pos c_69] at hf
      exact w_X8_ticks_83 C _ _ _ _ S (lv_sub hl [0] rfl) hf
    · rw [if_neg c_69] at hf
      refine lv_aload_n C.1 C.2.1 dX8_ticks_72 rfl (lv_at hl 0 rfl) ?_
      refine lv_iload_n C.1 C.2.1 dX8_ticks_73 rfl (lv_at hl 1 rfl) ?_
      obtain ⟨σ1, q_74, hf⟩ := bvb hf
      refine z_callV C S 8 0 rfl (by decide) cf_8 ⟨_, rfl⟩ [.int v2] (m_X8_decides l G ad σ v2 σ1 q_74 _) kv_X8_decides tw_8_2 ⟨Nat.le_of_ble_eq_true rfl, Nat.le_of_ble_eq_true rfl⟩ rfl rfl (Nat.le_of_ble_eq_true rfl) hl.1 ⟨Nat.le_of_ble_eq_true rfl, Nat.le_of_ble_eq_true rfl⟩ dX8_ticks_74 (fun H locs S => ?_)
      refine lv_iinc (v := (v2 + 1)) (lv' := [(2, .int (v2 + 1)), (0, .ref (ad 8 0))]) C.1 C.2.1 dX8_ticks_77 hl (k := 1) rfl rfl (by decide) rfl (fun ls hl => ?_)
      refine lv_goto (tgt := 62) C.1 C.2.1 dX8_ticks_80 (by decide) ?_
      exact ih _ (v2 + 1) _ _ _ S (lv_sub hl [1, 0] rfl)  hf
set_option maxHeartbeats 4000000 in
set_option maxRecDepth 100000 in
theorem w_X8_ticks_56 {p : Program} {l : Launch} {e : Env} {s : State} {m : MethodId} {args : Array Value} {below : List Frame} {meth : Method} {c : Code} {G : Gx} {ad : Ad} {res : Sg} (C : Cx p s m args meth c yX8_ticks.cls cX8_ticks 3 none G)  : ∀ (σ : Sg)  (H : Heap) (locs : List Loc) (ls : Array Slot), z_S 1 G ad σ (z_A 1 ad s.heap.size) s.heap H locs → lv_has ls 3 [(0, .ref (ad 8 0))] → f_X8_ticks_56  σ  = some res → W p l e { frames := 6, cells := 0, slots := 0, locals := 139 } s m args below meth c H locs 0 0 (MQ below (va_Qv (S := Unit) (fun _ => True) (fun _ t => z_W 1 G ad res t.heap) (z_A 1 ad s.heap.size)) args s 0 0 (z_A 1 ad s.heap.size)) (F0 m 56 ls []) := by
  intro σ  H locs ls S hl  hf
  unfold f_X8_ticks_56 at hf
  refine lv_aload_n C.1 C.2.1 dX8_ticks_56 rfl (lv_at hl 0 rfl) ?_
  obtain ⟨σ1, q_57, hf⟩ := bvb hf
  refine z_callV C S 8 0 rfl (by decide) cf_8 ⟨_, rfl⟩ [] (m_X8_minds l G ad σ σ1 q_57 _) kv_X8_minds tw_7_238 ⟨Nat.le_of_ble_eq_true rfl, Nat.le_of_ble_eq_true rfl⟩ rfl rfl (Nat.le_of_ble_eq_true rfl) hl.1 ⟨Nat.le_of_ble_eq_true rfl, Nat.le_of_ble_eq_true rfl⟩ dX8_ticks_57 (fun H locs S => ?_)
  refine lv_iconst (v := 0) C.1 C.2.1 dX8_ticks_60 (by decide) ?_
  refine lv_istore_n (lv' := [(2, .int 0), (0, .ref (ad 8 0))]) C.1 C.2.1 dX8_ticks_61 rfl hl (by decide) rfl (fun ls hl => ?_)
  exact w_X8_ticks_62 C FU _ 0 _ _ _ S (lv_sub hl [1, 0] rfl) hf
set_option maxHeartbeats 4000000 in
set_option maxRecDepth 100000 in
theorem w_X8_ticks_40 {p : Program} {l : Launch} {e : Env} {s : State} {m : MethodId} {args : Array Value} {below : List Frame} {meth : Method} {c : Code} {G : Gx} {ad : Ad} {res : Sg} (C : Cx p s m args meth c yX8_ticks.cls cX8_ticks 3 none G)  : ∀ n : Nat, ∀ (σ : Sg) (v1 : Int32) (v2 : Int32) (H : Heap) (locs : List Loc) (ls : Array Slot), z_S 1 G ad σ (z_A 1 ad s.heap.size) s.heap H locs → lv_has ls 3 [(0, .ref (ad 8 0)), (1, .int v1), (2, .int v2)] → f_X8_ticks_40  n σ v1 v2 = some res → W p l e { frames := 6, cells := 0, slots := 0, locals := 139 } s m args below meth c H locs 0 0 (MQ below (va_Qv (S := Unit) (fun _ => True) (fun _ t => z_W 1 G ad res t.heap) (z_A 1 ad s.heap.size)) args s 0 0 (z_A 1 ad s.heap.size)) (F0 m 40 ls []) := by
  intro n
  induction n with
  | zero => intro σ v1 v2 H locs ls S hl  hf; cases hf
  | succ n ih =>
    intro σ v1 v2 H locs ls S hl  hf
    rw [f_X8_ticks_40_s] at hf
    refine lv_iload_n C.1 C.2.1 dX8_ticks_40 rfl (lv_at hl 2 rfl) ?_
    refine lv_iload_n C.1 C.2.1 dX8_ticks_41 rfl (lv_at hl 1 rfl) ?_
    refine lv_icmp_ge (tgt := 56) C.1 C.2.1 dX8_ticks_42 (by decide) (fun c_42 => ?_) (fun c_42 => ?_)
    · rw [if_pos c_42] at hf
      exact w_X8_ticks_56 C _ _ _ _ S (lv_sub hl [0] rfl) hf
    · rw [if_neg c_42] at hf
      refine lv_aload_n C.1 C.2.1 dX8_ticks_45 rfl (lv_at hl 0 rfl) ?_
      refine lv_iload_n C.1 C.2.1 dX8_ticks_46 rfl (lv_at hl 2 rfl) ?_
      obtain ⟨σ1, q_47, hf⟩ := bvb hf
      refine z_callV C S 8 0 rfl (by decide) cf_8 ⟨_, rfl⟩ [.int v2] (m_X8_delivers l G ad σ v2 σ1 q_47 _) kv_X8_delivers tw_7_210 ⟨Nat.le_of_ble_eq_true rfl, Nat.le_of_ble_eq_true rfl⟩ rfl rfl (Nat.le_of_ble_eq_true rfl) hl.1 ⟨Nat.le_of_ble_eq_true rfl, Nat.le_of_ble_eq_true rfl⟩ dX8_ticks_47 (fun H locs S => ?_)
      refine lv_iinc (v := (v2 + 1)) (lv' := [(2, .int (v2 + 1)), (0, .ref (ad 8 0)), (1, .int v1)]) C.1 C.2.1 dX8_ticks_50 hl (k := 2) rfl rfl (by decide) rfl (fun ls hl => ?_)
      refine lv_goto (tgt := 40) C.1 C.2.1 dX8_ticks_53 (by decide) ?_
      exact ih _ v1 (v2 + 1) _ _ _ S (lv_sub hl [1, 2, 0] rfl)  hf
set_option maxHeartbeats 4000000 in
set_option maxRecDepth 100000 in
theorem w_X8_ticks_0 {p : Program} {l : Launch} {e : Env} {s : State} {m : MethodId} {args : Array Value} {below : List Frame} {meth : Method} {c : Code} {G : Gx} {ad : Ad} {res : Sg} (C : Cx p s m args meth c yX8_ticks.cls cX8_ticks 3 none G)  : ∀ (σ : Sg)  (H : Heap) (locs : List Loc) (ls : Array Slot), z_S 1 G ad σ (z_A 1 ad s.heap.size) s.heap H locs → lv_has ls 3 [(0, .ref (ad 8 0))] → f_X8_ticks  σ  = some res → W p l e { frames := 6, cells := 0, slots := 0, locals := 139 } s m args below meth c H locs 0 0 (MQ below (va_Qv (S := Unit) (fun _ => True) (fun _ t => z_W 1 G ad res t.heap) (z_A 1 ad s.heap.size)) args s 0 0 (z_A 1 ad s.heap.size)) (F0 m 0 ls []) := by
  intro σ  H locs ls S hl  hf
  unfold f_X8_ticks at hf
  refine lv_aload_n C.1 C.2.1 dX8_ticks_0 rfl (lv_at hl 0 rfl) ?_
  refine z_getR C S 8 0 rfl (by decide) cf_8 0 (by decide) _ (gr_8_0 G ad 0) tw_6_118 dX8_ticks_1 ?_
  refine lv_bipush (v := 10) C.1 C.2.1 dX8_ticks_4 (by decide) ?_
  refine z_ialdL C S 30 0 rfl (by decide) 2111 (fun _ => rfl) 10 (by decide) (by decide) (by decide) dX8_ticks_6 ?_
  refine lv_istore_n (lv' := [(1, .int (σ 30 0 10)), (0, .ref (ad 8 0))]) C.1 C.2.1 dX8_ticks_7 rfl hl (by decide) rfl (fun ls hl => ?_)
  refine lv_aload_n C.1 C.2.1 dX8_ticks_8 rfl (lv_at hl 1 rfl) ?_
  refine z_getR C S 8 0 rfl (by decide) cf_8 0 (by decide) _ (gr_8_0 G ad 0) tw_6_118 dX8_ticks_9 ?_
  refine lv_sipush (v := 1087) C.1 C.2.1 dX8_ticks_12 (by decide) ?_
  refine lv_aload_n C.1 C.2.1 dX8_ticks_15 rfl (lv_at hl 1 rfl) ?_
  refine z_getR C S 8 0 rfl (by decide) cf_8 5 (by decide) _ (gr_8_5 G ad 0) tw_6_123 dX8_ticks_16 ?_
  refine lv_iconst (v := 0) C.1 C.2.1 dX8_ticks_19 (by decide) ?_
  refine lv_iconst (v := 4) C.1 C.2.1 dX8_ticks_20 (by decide) ?_
  refine lv_iload_n C.1 C.2.1 dX8_ticks_21 rfl (lv_at hl 0 rfl) ?_
  refine lv_imul C.1 C.2.1 dX8_ticks_22 ?_
  obtain ⟨σ1, q_23, hf⟩ := bvb hf
  refine z_callSV C S [.ref (ad 30 0), .int 1087, .ref (ad 35 0), .int 0, .int (4 * (σ 30 0 10))] (m_X8_copies l G ad σ 30 0 2111 1087 35 0 1024 0 (4 * (σ 30 0 10)) σ1 rfl (by decide) (fun _ _ _ _ => rfl) rfl (by decide) (fun _ _ _ _ => rfl) q_23 _) kv_X8_copies tw_6_211 ⟨Nat.le_of_ble_eq_true rfl, Nat.le_of_ble_eq_true rfl⟩ rfl rfl (Nat.le_of_ble_eq_true rfl) hl.1 ⟨Nat.le_of_ble_eq_true rfl, Nat.le_of_ble_eq_true rfl⟩ dX8_ticks_23 (fun H locs S => ?_)
  refine lv_aload_n C.1 C.2.1 dX8_ticks_26 rfl (lv_at hl 1 rfl) ?_
  refine z_getR C S 8 0 rfl (by decide) cf_8 0 (by decide) _ (gr_8_0 G ad 0) tw_6_118 dX8_ticks_27 ?_
  refine lv_bipush (v := 10) C.1 C.2.1 dX8_ticks_30 (by decide) ?_
  refine lv_iconst (v := 0) C.1 C.2.1 dX8_ticks_32 (by decide) ?_
  obtain ⟨σ2, e_33, hf⟩ := stb hf
  refine z_iastL C S 30 0 rfl (by decide) 2111 (fun _ => rfl) 10 (by decide) (by decide) (by decide) dX8_ticks_33 (fun H locs S => ?_)
  rw [← e_33] at S
  refine lv_aload_n C.1 C.2.1 dX8_ticks_34 rfl (lv_at hl 1 rfl) ?_
  obtain ⟨σ3, q_35, hf⟩ := bvb hf
  refine z_callV C S 8 0 rfl (by decide) cf_8 ⟨_, rfl⟩ [] (m_X8_comes l G ad σ2 σ3 q_35 _) kv_X8_comes tw_7_198 ⟨Nat.le_of_ble_eq_true rfl, Nat.le_of_ble_eq_true rfl⟩ rfl rfl (Nat.le_of_ble_eq_true rfl) hl.1 ⟨Nat.le_of_ble_eq_true rfl, Nat.le_of_ble_eq_true rfl⟩ dX8_ticks_35 (fun H locs S => ?_)
  refine lv_iconst (v := 0) C.1 C.2.1 dX8_ticks_38 (by decide) ?_
  refine lv_istore_n (lv' := [(2, .int 0), (1, .int (σ 30 0 10)), (0, .ref (ad 8 0))]) C.1 C.2.1 dX8_ticks_39 rfl hl (by decide) rfl (fun ls hl => ?_)
  exact w_X8_ticks_40 C FU _ (σ 30 0 10) 0 _ _ _ S (lv_sub hl [2, 1, 0] rfl) hf
theorem kv_X8_ticks : KV yX8_ticks cX8_ticks 3 none 0 := ⟨tw_7_197, tw_7_196, tw_p_76, tw_1_10, by decide, by decide, by decide +kernel⟩
theorem m_X8_ticks (l : Launch) (G : Gx) (ad : Ad) (σ : Sg)  (σ' : Sg)  (hf : f_X8_ticks σ  = some σ') (sz : Nat) : z_MV l yX8_ticks cX8_ticks 3 none 6 139 1 G ad σ sz [.ref (ad 8 0)] σ' := by
  refine z_begin (by decide +kernel) (Nat.le_of_ble_eq_true rfl) [(0, .ref (ad 8 0))] rfl (fun p e s m args below meth c ls C hz S hl => ?_)
  subst hz
  exact w_X8_ticks_0 (res := σ') C σ  _ _ _ S hl  hf

theorem dX8_passes_0 : decode cX8_passes 0 = .ok (.aload_n 0, 1) := by decide +kernel
theorem dX8_passes_1 : decode cX8_passes 1 = .ok (.iconst 3, 1) := by decide +kernel
theorem dX8_passes_2 : decode cX8_passes 2 = .ok (.invokevirtual 153, 3) := by decide +kernel
theorem dX8_passes_5 : decode cX8_passes 5 = .ok (.istore_n 2, 1) := by decide +kernel
theorem dX8_passes_6 : decode cX8_passes 6 = .ok (.iconst 0, 1) := by decide +kernel
theorem dX8_passes_7 : decode cX8_passes 7 = .ok (.istore_n 3, 1) := by decide +kernel
theorem dX8_passes_8 : decode cX8_passes 8 = .ok (.iload_n 3, 1) := by decide +kernel
theorem dX8_passes_9 : decode cX8_passes 9 = .ok (.iload_n 1, 1) := by decide +kernel
theorem dX8_passes_10 : decode cX8_passes 10 = .ok (.if_icmp .ge 13, 3) := by decide +kernel
theorem dX8_passes_13 : decode cX8_passes 13 = .ok (.aload_n 0, 1) := by decide +kernel
theorem dX8_passes_14 : decode cX8_passes 14 = .ok (.invokevirtual 156, 3) := by decide +kernel
theorem dX8_passes_17 : decode cX8_passes 17 = .ok (.iinc 3 1, 3) := by decide +kernel
theorem dX8_passes_20 : decode cX8_passes 20 = .ok (.goto (-12), 3) := by decide +kernel
theorem dX8_passes_23 : decode cX8_passes 23 = .ok (.aload_n 0, 1) := by decide +kernel
theorem dX8_passes_24 : decode cX8_passes 24 = .ok (.iconst 3, 1) := by decide +kernel
theorem dX8_passes_25 : decode cX8_passes 25 = .ok (.invokevirtual 153, 3) := by decide +kernel
theorem dX8_passes_28 : decode cX8_passes 28 = .ok (.iload_n 2, 1) := by decide +kernel
theorem dX8_passes_29 : decode cX8_passes 29 = .ok (.isub, 1) := by decide +kernel
theorem dX8_passes_30 : decode cX8_passes 30 = .ok (.ireturn, 1) := by decide +kernel
/-! BusLiftsModel.passes(I)I -/
noncomputable def f_X8_passes_23  (σ : Sg) (v2 : Int32) : Option (Int32 × Sg) := bi (f_X8_inState σ 3) fun r2 σ1 => (some ((r2 - v2), σ1))
noncomputable def f_X8_passes_8  : Nat → Sg → Int32 → Int32 → Int32 → Option (Int32 × Sg)
  | 0, _, _, _, _ => none
  | n + 1, σ, v1, v2, v3 => if v1 ≤ v3 then (f_X8_passes_23 σ v2) else (bv (f_X8_ticks σ) fun σ1 => (f_X8_passes_8  n σ1 v1 v2 (v3 + 1)))
theorem f_X8_passes_8_s  (n : Nat) (σ : Sg) (v1 : Int32) (v2 : Int32) (v3 : Int32) : f_X8_passes_8  (n + 1) σ v1 v2 v3 = (if v1 ≤ v3 then (f_X8_passes_23 σ v2) else (bv (f_X8_ticks σ) fun σ1 => (f_X8_passes_8  n σ1 v1 v2 (v3 + 1)))) := rfl
noncomputable def f_X8_passes  (σ : Sg) (v1 : Int32) : Option (Int32 × Sg) := bi (f_X8_inState σ 3) fun r2 σ1 => (f_X8_passes_8 FU σ1 v1 r2 0)
set_option maxHeartbeats 4000000 in
set_option maxRecDepth 100000 in
theorem w_X8_passes_23 {p : Program} {l : Launch} {e : Env} {s : State} {m : MethodId} {args : Array Value} {below : List Frame} {meth : Method} {c : Code} {G : Gx} {ad : Ad} {res : Int32 × Sg} (C : Cx p s m args meth c yX8_passes.cls cX8_passes 4 (Option.some FieldType.int) G)  : ∀ (σ : Sg) (v2 : Int32) (H : Heap) (locs : List Loc) (ls : Array Slot), z_S 1 G ad σ (z_A 1 ad s.heap.size) s.heap H locs → lv_has ls 4 [(0, .ref (ad 8 0)), (2, .int v2)] → f_X8_passes_23  σ v2 = some res → W p l e { frames := 7, cells := 0, slots := 0, locals := 161 } s m args below meth c H locs 0 0 (MQ below (va_Qi (S := Unit) (fun r1 _ => r1 = res.1) (fun _ t => z_W 1 G ad res.2 t.heap) (z_A 1 ad s.heap.size)) args s 0 0 (z_A 1 ad s.heap.size)) (F0 m 23 ls []) := by
  intro σ v2 H locs ls S hl  hf
  unfold f_X8_passes_23 at hf
  refine lv_aload_n C.1 C.2.1 dX8_passes_23 rfl (lv_at hl 0 rfl) ?_
  refine lv_iconst (v := 3) C.1 C.2.1 dX8_passes_24 (by decide) ?_
  obtain ⟨r2, σ1, q_25, hf⟩ := bib hf
  refine z_callI C S 8 0 rfl (by decide) cf_8 ⟨_, rfl⟩ [.int 3] (m_X8_inState l G ad σ 3 r2 σ1 q_25 _) kv_X8_inState tw_7_60 ⟨Nat.le_of_ble_eq_true rfl, Nat.le_of_ble_eq_true rfl⟩ rfl rfl (Nat.le_of_ble_eq_true rfl) hl.1 ⟨Nat.le_of_ble_eq_true rfl, Nat.le_of_ble_eq_true rfl⟩ dX8_passes_25 (fun H locs S => ?_)
  refine lv_iload_n C.1 C.2.1 dX8_passes_28 rfl (lv_at hl 1 rfl) ?_
  refine lv_isub C.1 C.2.1 dX8_passes_29 ?_
  exact z_iret C S hf dX8_passes_30
set_option maxHeartbeats 4000000 in
set_option maxRecDepth 100000 in
theorem w_X8_passes_8 {p : Program} {l : Launch} {e : Env} {s : State} {m : MethodId} {args : Array Value} {below : List Frame} {meth : Method} {c : Code} {G : Gx} {ad : Ad} {res : Int32 × Sg} (C : Cx p s m args meth c yX8_passes.cls cX8_passes 4 (Option.some FieldType.int) G)  : ∀ n : Nat, ∀ (σ : Sg) (v1 : Int32) (v2 : Int32) (v3 : Int32) (H : Heap) (locs : List Loc) (ls : Array Slot), z_S 1 G ad σ (z_A 1 ad s.heap.size) s.heap H locs → lv_has ls 4 [(0, .ref (ad 8 0)), (1, .int v1), (2, .int v2), (3, .int v3)] → f_X8_passes_8  n σ v1 v2 v3 = some res → W p l e { frames := 7, cells := 0, slots := 0, locals := 161 } s m args below meth c H locs 0 0 (MQ below (va_Qi (S := Unit) (fun r1 _ => r1 = res.1) (fun _ t => z_W 1 G ad res.2 t.heap) (z_A 1 ad s.heap.size)) args s 0 0 (z_A 1 ad s.heap.size)) (F0 m 8 ls []) := by
  intro n
  induction n with
  | zero => intro σ v1 v2 v3 H locs ls S hl  hf; cases hf
  | succ n ih =>
    intro σ v1 v2 v3 H locs ls S hl  hf
    rw [f_X8_passes_8_s] at hf
    refine lv_iload_n C.1 C.2.1 dX8_passes_8 rfl (lv_at hl 3 rfl) ?_
    refine lv_iload_n C.1 C.2.1 dX8_passes_9 rfl (lv_at hl 1 rfl) ?_
    refine lv_icmp_ge (tgt := 23) C.1 C.2.1 dX8_passes_10 (by decide) (fun c_10 => ?_) (fun c_10 => ?_)
    · rw [if_pos c_10] at hf
      exact w_X8_passes_23 C _ v2 _ _ _ S (lv_sub hl [0, 2] rfl) hf
    · rw [if_neg c_10] at hf
      refine lv_aload_n C.1 C.2.1 dX8_passes_13 rfl (lv_at hl 0 rfl) ?_
      obtain ⟨σ1, q_14, hf⟩ := bvb hf
      refine z_callV C S 8 0 rfl (by decide) cf_8 ⟨_, rfl⟩ [] (m_X8_ticks l G ad σ σ1 q_14 _) kv_X8_ticks tw_7_194 ⟨Nat.le_of_ble_eq_true rfl, Nat.le_of_ble_eq_true rfl⟩ rfl rfl (Nat.le_of_ble_eq_true rfl) hl.1 ⟨Nat.le_of_ble_eq_true rfl, Nat.le_of_ble_eq_true rfl⟩ dX8_passes_14 (fun H locs S => ?_)
      refine lv_iinc (v := (v3 + 1)) (lv' := [(3, .int (v3 + 1)), (0, .ref (ad 8 0)), (1, .int v1), (2, .int v2)]) C.1 C.2.1 dX8_passes_17 hl (k := 3) rfl rfl (by decide) rfl (fun ls hl => ?_)
      refine lv_goto (tgt := 8) C.1 C.2.1 dX8_passes_20 (by decide) ?_
      exact ih _ v1 v2 (v3 + 1) _ _ _ S (lv_sub hl [1, 2, 3, 0] rfl)  hf
set_option maxHeartbeats 4000000 in
set_option maxRecDepth 100000 in
theorem w_X8_passes_0 {p : Program} {l : Launch} {e : Env} {s : State} {m : MethodId} {args : Array Value} {below : List Frame} {meth : Method} {c : Code} {G : Gx} {ad : Ad} {res : Int32 × Sg} (C : Cx p s m args meth c yX8_passes.cls cX8_passes 4 (Option.some FieldType.int) G)  : ∀ (σ : Sg) (v1 : Int32) (H : Heap) (locs : List Loc) (ls : Array Slot), z_S 1 G ad σ (z_A 1 ad s.heap.size) s.heap H locs → lv_has ls 4 [(0, .ref (ad 8 0)), (1, .int v1)] → f_X8_passes  σ v1 = some res → W p l e { frames := 7, cells := 0, slots := 0, locals := 161 } s m args below meth c H locs 0 0 (MQ below (va_Qi (S := Unit) (fun r1 _ => r1 = res.1) (fun _ t => z_W 1 G ad res.2 t.heap) (z_A 1 ad s.heap.size)) args s 0 0 (z_A 1 ad s.heap.size)) (F0 m 0 ls []) := by
  intro σ v1 H locs ls S hl  hf
  unfold f_X8_passes at hf
  refine lv_aload_n C.1 C.2.1 dX8_passes_0 rfl (lv_at hl 0 rfl) ?_
  refine lv_iconst (v := 3) C.1 C.2.1 dX8_passes_1 (by decide) ?_
  obtain ⟨r2, σ1, q_2, hf⟩ := bib hf
  refine z_callI C S 8 0 rfl (by decide) cf_8 ⟨_, rfl⟩ [.int 3] (m_X8_inState l G ad σ 3 r2 σ1 q_2 _) kv_X8_inState tw_7_60 ⟨Nat.le_of_ble_eq_true rfl, Nat.le_of_ble_eq_true rfl⟩ rfl rfl (Nat.le_of_ble_eq_true rfl) hl.1 ⟨Nat.le_of_ble_eq_true rfl, Nat.le_of_ble_eq_true rfl⟩ dX8_passes_2 (fun H locs S => ?_)
  refine lv_istore_n (lv' := [(2, .int r2), (0, .ref (ad 8 0)), (1, .int v1)]) C.1 C.2.1 dX8_passes_5 rfl hl (by decide) rfl (fun ls hl => ?_)
  refine lv_iconst (v := 0) C.1 C.2.1 dX8_passes_6 (by decide) ?_
  refine lv_istore_n (lv' := [(3, .int 0), (2, .int r2), (0, .ref (ad 8 0)), (1, .int v1)]) C.1 C.2.1 dX8_passes_7 rfl hl (by decide) rfl (fun ls hl => ?_)
  exact w_X8_passes_8 C FU _ v1 r2 0 _ _ _ S (lv_sub hl [2, 3, 1, 0] rfl) hf
theorem kv_X8_passes : KV yX8_passes cX8_passes 4 (Option.some FieldType.int) 1 := ⟨tw_7_193, tw_7_192, tw_p_75, tw_1_10, by decide, by decide, by decide +kernel⟩
theorem m_X8_passes (l : Launch) (G : Gx) (ad : Ad) (σ : Sg) (v1 : Int32) (r : Int32) (σ' : Sg)  (hf : f_X8_passes σ v1 = some (r, σ')) (sz : Nat) : z_MI l yX8_passes cX8_passes 4 (Option.some FieldType.int) 7 161 1 G ad σ sz [.ref (ad 8 0), .int v1] r σ' := by
  refine z_begin (by decide +kernel) (Nat.le_of_ble_eq_true rfl) [(0, .ref (ad 8 0)), (1, .int v1)] rfl (fun p e s m args below meth c ls C hz S hl => ?_)
  subst hz
  exact w_X8_passes_0 (res := (r, σ')) C σ v1 _ _ _ S hl  hf
