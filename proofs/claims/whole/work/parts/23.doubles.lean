theorem dX7_meanWait_0 : decode cX7_meanWait 0 = .ok (.iconst 0, 1) := by decide +kernel
theorem dX7_meanWait_1 : decode cX7_meanWait 1 = .ok (.istore_n 1, 1) := by decide +kernel
theorem dX7_meanWait_2 : decode cX7_meanWait 2 = .ok (.iconst 0, 1) := by decide +kernel
theorem dX7_meanWait_3 : decode cX7_meanWait 3 = .ok (.istore_n 2, 1) := by decide +kernel
theorem dX7_meanWait_4 : decode cX7_meanWait 4 = .ok (.iconst 0, 1) := by decide +kernel
theorem dX7_meanWait_5 : decode cX7_meanWait 5 = .ok (.istore_n 3, 1) := by decide +kernel
theorem dX7_meanWait_6 : decode cX7_meanWait 6 = .ok (.iload_n 3, 1) := by decide +kernel
theorem dX7_meanWait_7 : decode cX7_meanWait 7 = .ok (.aload_n 0, 1) := by decide +kernel
theorem dX7_meanWait_8 : decode cX7_meanWait 8 = .ok (.getfield 26, 3) := by decide +kernel
theorem dX7_meanWait_11 : decode cX7_meanWait 11 = .ok (.getfield 97, 3) := by decide +kernel
theorem dX7_meanWait_14 : decode cX7_meanWait 14 = .ok (.if_icmp .ge 39, 3) := by decide +kernel
theorem dX7_meanWait_17 : decode cX7_meanWait 17 = .ok (.aload_n 0, 1) := by decide +kernel
theorem dX7_meanWait_18 : decode cX7_meanWait 18 = .ok (.getfield 26, 3) := by decide +kernel
theorem dX7_meanWait_21 : decode cX7_meanWait 21 = .ok (.getfield 191, 3) := by decide +kernel
theorem dX7_meanWait_24 : decode cX7_meanWait 24 = .ok (.iload_n 3, 1) := by decide +kernel
theorem dX7_meanWait_25 : decode cX7_meanWait 25 = .ok (.aaload, 1) := by decide +kernel
theorem dX7_meanWait_26 : decode cX7_meanWait 26 = .ok (.getfield 206, 3) := by decide +kernel
theorem dX7_meanWait_29 : decode cX7_meanWait 29 = .ok (.iconst 2, 1) := by decide +kernel
theorem dX7_meanWait_30 : decode cX7_meanWait 30 = .ok (.if_icmp .lt 17, 3) := by decide +kernel
theorem dX7_meanWait_33 : decode cX7_meanWait 33 = .ok (.iload_n 1, 1) := by decide +kernel
theorem dX7_meanWait_34 : decode cX7_meanWait 34 = .ok (.aload_n 0, 1) := by decide +kernel
theorem dX7_meanWait_35 : decode cX7_meanWait 35 = .ok (.getfield 26, 3) := by decide +kernel
theorem dX7_meanWait_38 : decode cX7_meanWait 38 = .ok (.iload_n 3, 1) := by decide +kernel
theorem dX7_meanWait_39 : decode cX7_meanWait 39 = .ok (.invokevirtual 230, 3) := by decide +kernel
theorem dX7_meanWait_42 : decode cX7_meanWait 42 = .ok (.iadd, 1) := by decide +kernel
theorem dX7_meanWait_43 : decode cX7_meanWait 43 = .ok (.istore_n 1, 1) := by decide +kernel
theorem dX7_meanWait_44 : decode cX7_meanWait 44 = .ok (.iinc 2 1, 3) := by decide +kernel
theorem dX7_meanWait_47 : decode cX7_meanWait 47 = .ok (.iinc 3 1, 3) := by decide +kernel
theorem dX7_meanWait_50 : decode cX7_meanWait 50 = .ok (.goto (-44), 3) := by decide +kernel
theorem dX7_meanWait_53 : decode cX7_meanWait 53 = .ok (.iload_n 2, 1) := by decide +kernel
theorem dX7_meanWait_54 : decode cX7_meanWait 54 = .ok (.ifCond .ne 7, 3) := by decide +kernel
theorem dX7_meanWait_57 : decode cX7_meanWait 57 = .ok (.dconst 0, 1) := by decide +kernel
theorem dX7_meanWait_58 : decode cX7_meanWait 58 = .ok (.goto 8, 3) := by decide +kernel
theorem dX7_meanWait_61 : decode cX7_meanWait 61 = .ok (.iload_n 1, 1) := by decide +kernel
theorem dX7_meanWait_62 : decode cX7_meanWait 62 = .ok (.i2d, 1) := by decide +kernel
theorem dX7_meanWait_63 : decode cX7_meanWait 63 = .ok (.iload_n 2, 1) := by decide +kernel
theorem dX7_meanWait_64 : decode cX7_meanWait 64 = .ok (.i2d, 1) := by decide +kernel
theorem dX7_meanWait_65 : decode cX7_meanWait 65 = .ok (.ddiv, 1) := by decide +kernel
theorem dX7_meanWait_66 : decode cX7_meanWait 66 = .ok (.dreturn, 1) := by decide +kernel
/-! BusLifts.meanWait()D -/
noncomputable def f_X7_meanWait_66  (σ : Sg) (v100 : UInt64) : Option (UInt64 × Sg) := some (v100, σ)
noncomputable def f_X7_meanWait_53  (σ : Sg) (v1 : Int32) (v2 : Int32) : Option (UInt64 × Sg) := if v2 = 0 then (f_X7_meanWait_66 σ FP.dconst0) else (if ¬ ((FP.ddiv (FP.i2d v1) (FP.i2d v2)) &&& 0x7fffffffffffffff ≤ 0x7ff0000000000000) then none else (f_X7_meanWait_66 σ (FP.ddiv (FP.i2d v1) (FP.i2d v2))))
noncomputable def f_X7_meanWait_47 (k6 : Sg → Int32 → Int32 → Int32 → Option (UInt64 × Sg)) (σ : Sg) (v1 : Int32) (v2 : Int32) (v3 : Int32) : Option (UInt64 × Sg) := k6 σ v1 v2 (v3 + 1)
noncomputable def f_X7_meanWait_6  : Nat → Sg → Int32 → Int32 → Int32 → Option (UInt64 × Sg)
  | 0, _, _, _, _ => none
  | n + 1, σ, v1, v2, v3 => if (σ 4 0 2) ≤ v3 then (f_X7_meanWait_53 σ v1 v2) else (if v3 < 0 ∨ 24 ≤ (v3).toNatClampNeg then none else (if (σ 1 (24 * 0 + (v3).toNatClampNeg) 3) < 2 then (f_X7_meanWait_47 (f_X7_meanWait_6 n) σ v1 v2 v3) else (bi (f_X4_waitTime σ 0 v3) fun r2 σ1 => (f_X7_meanWait_47 (f_X7_meanWait_6 n) σ1 (v1 + r2) (v2 + 1) v3))))
theorem f_X7_meanWait_6_s  (n : Nat) (σ : Sg) (v1 : Int32) (v2 : Int32) (v3 : Int32) : f_X7_meanWait_6  (n + 1) σ v1 v2 v3 = (if (σ 4 0 2) ≤ v3 then (f_X7_meanWait_53 σ v1 v2) else (if v3 < 0 ∨ 24 ≤ (v3).toNatClampNeg then none else (if (σ 1 (24 * 0 + (v3).toNatClampNeg) 3) < 2 then (f_X7_meanWait_47 (f_X7_meanWait_6 n) σ v1 v2 v3) else (bi (f_X4_waitTime σ 0 v3) fun r2 σ1 => (f_X7_meanWait_47 (f_X7_meanWait_6 n) σ1 (v1 + r2) (v2 + 1) v3))))) := rfl
noncomputable def f_X7_meanWait  (σ : Sg)  : Option (UInt64 × Sg) := f_X7_meanWait_6 FU σ 0 0 0
set_option maxHeartbeats 4000000 in
set_option maxRecDepth 100000 in
theorem w_X7_meanWait_66 {p : Program} {l : Launch} {e : Env} {s : State} {m : MethodId} {args : Array Value} {below : List Frame} {meth : Method} {c : Code} {G : Gx} {ad : Ad} {res : UInt64 × Sg} (C : Cx p s m args meth c yX7_meanWait.cls cX7_meanWait 4 (Option.some FieldType.double) G)  : ∀ (σ : Sg) (v100 : UInt64) (H : Heap) (locs : List Loc) (ls : Array Slot), z_S 0 G ad σ (z_A 0 ad s.heap.size) s.heap H locs → lv_has ls 4 [] → f_X7_meanWait_66  σ v100 = some res → W p l e { frames := 1, cells := 0, slots := 0, locals := 22 } s m args below meth c H locs 0 0 (MQ below (va_Qd (S := Unit) (fun r1 _ => r1 = res.1) (fun _ t => z_W 0 G ad res.2 t.heap) (z_A 0 ad s.heap.size)) args s 0 0 (z_A 0 ad s.heap.size)) (F0 m 66 ls [.double v100]) := by
  intro σ v100 H locs ls S hl  hf
  unfold f_X7_meanWait_66 at hf
  exact z_dret C S hf dX7_meanWait_66
set_option maxHeartbeats 4000000 in
set_option maxRecDepth 100000 in
theorem w_X7_meanWait_53 {p : Program} {l : Launch} {e : Env} {s : State} {m : MethodId} {args : Array Value} {below : List Frame} {meth : Method} {c : Code} {G : Gx} {ad : Ad} {res : UInt64 × Sg} (C : Cx p s m args meth c yX7_meanWait.cls cX7_meanWait 4 (Option.some FieldType.double) G)  : ∀ (σ : Sg) (v1 : Int32) (v2 : Int32) (H : Heap) (locs : List Loc) (ls : Array Slot), z_S 0 G ad σ (z_A 0 ad s.heap.size) s.heap H locs → lv_has ls 4 [(1, .int v1), (2, .int v2)] → f_X7_meanWait_53  σ v1 v2 = some res → W p l e { frames := 1, cells := 0, slots := 0, locals := 22 } s m args below meth c H locs 0 0 (MQ below (va_Qd (S := Unit) (fun r1 _ => r1 = res.1) (fun _ t => z_W 0 G ad res.2 t.heap) (z_A 0 ad s.heap.size)) args s 0 0 (z_A 0 ad s.heap.size)) (F0 m 53 ls []) := by
  intro σ v1 v2 H locs ls S hl  hf
  unfold f_X7_meanWait_53 at hf
  refine lv_iload_n C.1 C.2.1 dX7_meanWait_53 rfl (lv_at hl 1 rfl) ?_
  refine lv_if_ne (tgt := 61) C.1 C.2.1 dX7_meanWait_54 (by decide) (fun c_54 => ?_) (fun c_54 => ?_)
  · rw [if_neg c_54] at hf
    refine lv_iload_n C.1 C.2.1 dX7_meanWait_61 rfl (lv_at hl 0 rfl) ?_
    refine lv_i2d C.1 C.2.1 dX7_meanWait_62 ?_
    refine lv_iload_n C.1 C.2.1 dX7_meanWait_63 rfl (lv_at hl 1 rfl) ?_
    refine lv_i2d C.1 C.2.1 dX7_meanWait_64 ?_
    obtain ⟨g_65, hf⟩ := gd hf
    refine lv_ddiv C.1 C.2.1 dX7_meanWait_65 (nd64 g_65) ?_
    exact w_X7_meanWait_66 C _ (FP.ddiv (FP.i2d v1) (FP.i2d v2)) _ _ _ S (lv_sub hl [] rfl) hf
  · rw [if_pos c_54] at hf
    refine lv_dconst0 C.1 C.2.1 dX7_meanWait_57 ?_
    refine lv_goto (tgt := 66) C.1 C.2.1 dX7_meanWait_58 (by decide) ?_
    exact w_X7_meanWait_66 C _ FP.dconst0 _ _ _ S (lv_sub hl [] rfl) hf
set_option maxHeartbeats 4000000 in
set_option maxRecDepth 100000 in
theorem w_X7_meanWait_47 {p : Program} {l : Launch} {e : Env} {s : State} {m : MethodId} {args : Array Value} {below : List Frame} {meth : Method} {c : Code} {G : Gx} {ad : Ad} {res : UInt64 × Sg} (C : Cx p s m args meth c yX7_meanWait.cls cX7_meanWait 4 (Option.some FieldType.double) G) (k6 : Sg → Int32 → Int32 → Int32 → Option (UInt64 × Sg)) (hk6 : ∀ (σ : Sg) (v1 : Int32) (v2 : Int32) (v3 : Int32) (H : Heap) (locs : List Loc) (ls : Array Slot), z_S 0 G ad σ (z_A 0 ad s.heap.size) s.heap H locs → lv_has ls 4 [(0, .ref (ad 7 0)), (1, .int v1), (2, .int v2), (3, .int v3)] → k6 σ v1 v2 v3 = some res → W p l e { frames := 1, cells := 0, slots := 0, locals := 22 } s m args below meth c H locs 0 0 (MQ below (va_Qd (S := Unit) (fun r1 _ => r1 = res.1) (fun _ t => z_W 0 G ad res.2 t.heap) (z_A 0 ad s.heap.size)) args s 0 0 (z_A 0 ad s.heap.size)) (F0 m 6 ls [])) : ∀ (σ : Sg) (v1 : Int32) (v2 : Int32) (v3 : Int32) (H : Heap) (locs : List Loc) (ls : Array Slot), z_S 0 G ad σ (z_A 0 ad s.heap.size) s.heap H locs → lv_has ls 4 [(0, .ref (ad 7 0)), (1, .int v1), (2, .int v2), (3, .int v3)] → f_X7_meanWait_47 k6 σ v1 v2 v3 = some res → W p l e { frames := 1, cells := 0, slots := 0, locals := 22 } s m args below meth c H locs 0 0 (MQ below (va_Qd (S := Unit) (fun r1 _ => r1 = res.1) (fun _ t => z_W 0 G ad res.2 t.heap) (z_A 0 ad s.heap.size)) args s 0 0 (z_A 0 ad s.heap.size)) (F0 m 47 ls []) := by
  intro σ v1 v2 v3 H locs ls S hl  hf
  unfold f_X7_meanWait_47 at hf
  refine lv_iinc (v := (v3 + 1)) (lv' := [(3, .int (v3 + 1)), (0, .ref (ad 7 0)), (1, .int v1), (2, .int v2)]) C.1 C.2.1 dX7_meanWait_47 hl (k := 3) rfl rfl (by decide) rfl (fun ls hl => ?_)
  refine lv_goto (tgt := 6) C.1 C.2.1 dX7_meanWait_50 (by decide) ?_
  exact hk6 _ v1 v2 (v3 + 1) _ _ _ S (lv_sub hl [1, 2, 3, 0] rfl)  hf
set_option maxHeartbeats 4000000 in
set_option maxRecDepth 100000 in
theorem w_X7_meanWait_6 {p : Program} {l : Launch} {e : Env} {s : State} {m : MethodId} {args : Array Value} {below : List Frame} {meth : Method} {c : Code} {G : Gx} {ad : Ad} {res : UInt64 × Sg} (C : Cx p s m args meth c yX7_meanWait.cls cX7_meanWait 4 (Option.some FieldType.double) G)  : ∀ n : Nat, ∀ (σ : Sg) (v1 : Int32) (v2 : Int32) (v3 : Int32) (H : Heap) (locs : List Loc) (ls : Array Slot), z_S 0 G ad σ (z_A 0 ad s.heap.size) s.heap H locs → lv_has ls 4 [(0, .ref (ad 7 0)), (1, .int v1), (2, .int v2), (3, .int v3)] → f_X7_meanWait_6  n σ v1 v2 v3 = some res → W p l e { frames := 1, cells := 0, slots := 0, locals := 22 } s m args below meth c H locs 0 0 (MQ below (va_Qd (S := Unit) (fun r1 _ => r1 = res.1) (fun _ t => z_W 0 G ad res.2 t.heap) (z_A 0 ad s.heap.size)) args s 0 0 (z_A 0 ad s.heap.size)) (F0 m 6 ls []) := by
  intro n
  induction n with
  | zero => intro σ v1 v2 v3 H locs ls S hl  hf; cases hf
  | succ n ih =>
    intro σ v1 v2 v3 H locs ls S hl  hf
    rw [f_X7_meanWait_6_s] at hf
    refine lv_iload_n C.1 C.2.1 dX7_meanWait_6 rfl (lv_at hl 3 rfl) ?_
    refine lv_aload_n C.1 C.2.1 dX7_meanWait_7 rfl (lv_at hl 0 rfl) ?_
    refine z_getR C S 7 0 rfl (by decide) cf_7 6 (by decide) _ (gr_7_6 G ad 0) tw_2_134 dX7_meanWait_8 ?_
    refine z_getI C S 4 0 rfl (by decide) cf_4 2 (by decide) (gi_4_2 G ad 0) tw_1_222 dX7_meanWait_11 ?_
    refine lv_icmp_ge (tgt := 53) C.1 C.2.1 dX7_meanWait_14 (by decide) (fun c_14 => ?_) (fun c_14 => ?_)
    · rw [if_pos c_14] at hf
      exact w_X7_meanWait_53 C _ v1 v2 _ _ _ S (lv_sub hl [1, 2] rfl) hf
    · rw [if_neg c_14] at hf
      refine lv_aload_n C.1 C.2.1 dX7_meanWait_17 rfl (lv_at hl 0 rfl) ?_
      refine z_getR C S 7 0 rfl (by decide) cf_7 6 (by decide) _ (gr_7_6 G ad 0) tw_2_134 dX7_meanWait_18 ?_
      refine z_getR C S 4 0 rfl (by decide) cf_4 7 (by decide) _ (gr_4_7 G ad 0) tw_1_238 dX7_meanWait_21 ?_
      refine lv_iload_n C.1 C.2.1 dX7_meanWait_24 rfl (lv_at hl 3 rfl) ?_
      obtain ⟨g_25, hf⟩ := gd hf
      refine z_aald C S 26 0 rfl (by decide) 24 2 1 (24 * 0) rfl (fun _ => rfl) g_25 dX7_meanWait_25 ?_
      refine z_getI C S 1 (24 * 0 + (v3).toNatClampNeg) rfl (oc1 (by decide) g_25) cf_1 3 (by decide) (gi_1_3 G ad (24 * 0 + (v3).toNatClampNeg)) tw_1_166 dX7_meanWait_26 ?_
      refine lv_iconst (v := 2) C.1 C.2.1 dX7_meanWait_29 (by decide) ?_
      refine lv_icmp_lt (tgt := 47) C.1 C.2.1 dX7_meanWait_30 (by decide) (fun c_30 => ?_) (fun c_30 => ?_)
      · rw [if_pos c_30] at hf
        exact w_X7_meanWait_47 C (f_X7_meanWait_6 n) ih _ v1 v2 v3 _ _ _ S (lv_sub hl [0, 1, 2, 3] rfl) hf
      · rw [if_neg c_30] at hf
        refine lv_iload_n C.1 C.2.1 dX7_meanWait_33 rfl (lv_at hl 1 rfl) ?_
        refine lv_aload_n C.1 C.2.1 dX7_meanWait_34 rfl (lv_at hl 0 rfl) ?_
        refine z_getR C S 7 0 rfl (by decide) cf_7 6 (by decide) _ (gr_7_6 G ad 0) tw_2_134 dX7_meanWait_35 ?_
        refine lv_iload_n C.1 C.2.1 dX7_meanWait_38 rfl (lv_at hl 3 rfl) ?_
        obtain ⟨r2, σ1, q_39, hf⟩ := bib hf
        refine z_callI C S 4 0 rfl (by decide) cf_4 ⟨_, rfl⟩ [.int v3] (m_X4_waitTime l G ad σ 0 v3 r2 σ1 (by decide) q_39 _) kv_X4_waitTime tw_3_134 ⟨Nat.le_of_ble_eq_true rfl, Nat.le_of_ble_eq_true rfl⟩ rfl rfl (Nat.le_of_ble_eq_true rfl) hl.1 ⟨Nat.le_of_ble_eq_true rfl, Nat.le_of_ble_eq_true rfl⟩ dX7_meanWait_39 (fun H locs S => ?_)
        refine lv_iadd C.1 C.2.1 dX7_meanWait_42 ?_
        refine lv_istore_n (lv' := [(1, .int (v1 + r2)), (0, .ref (ad 7 0)), (2, .int v2), (3, .int v3)]) C.1 C.2.1 dX7_meanWait_43 rfl hl (by decide) rfl (fun ls hl => ?_)
        refine lv_iinc (v := (v2 + 1)) (lv' := [(2, .int (v2 + 1)), (1, .int (v1 + r2)), (0, .ref (ad 7 0)), (3, .int v3)]) C.1 C.2.1 dX7_meanWait_44 hl (k := 2) rfl rfl (by decide) rfl (fun ls hl => ?_)
        exact w_X7_meanWait_47 C (f_X7_meanWait_6 n) ih _ (v1 + r2) (v2 + 1) v3 _ _ _ S (lv_sub hl [2, 1, 0, 3] rfl) hf
set_option maxHeartbeats 4000000 in
set_option maxRecDepth 100000 in
theorem w_X7_meanWait_0 {p : Program} {l : Launch} {e : Env} {s : State} {m : MethodId} {args : Array Value} {below : List Frame} {meth : Method} {c : Code} {G : Gx} {ad : Ad} {res : UInt64 × Sg} (C : Cx p s m args meth c yX7_meanWait.cls cX7_meanWait 4 (Option.some FieldType.double) G)  : ∀ (σ : Sg)  (H : Heap) (locs : List Loc) (ls : Array Slot), z_S 0 G ad σ (z_A 0 ad s.heap.size) s.heap H locs → lv_has ls 4 [(0, .ref (ad 7 0))] → f_X7_meanWait  σ  = some res → W p l e { frames := 1, cells := 0, slots := 0, locals := 22 } s m args below meth c H locs 0 0 (MQ below (va_Qd (S := Unit) (fun r1 _ => r1 = res.1) (fun _ t => z_W 0 G ad res.2 t.heap) (z_A 0 ad s.heap.size)) args s 0 0 (z_A 0 ad s.heap.size)) (F0 m 0 ls []) := by
  intro σ  H locs ls S hl  hf
  unfold f_X7_meanWait at hf
  refine lv_iconst (v := 0) C.1 C.2.1 dX7_meanWait_0 (by decide) ?_
  refine lv_istore_n (lv' := [(1, .int 0), (0, .ref (ad 7 0))]) C.1 C.2.1 dX7_meanWait_1 rfl hl (by decide) rfl (fun ls hl => ?_)
  refine lv_iconst (v := 0) C.1 C.2.1 dX7_meanWait_2 (by decide) ?_
  refine lv_istore_n (lv' := [(2, .int 0), (1, .int 0), (0, .ref (ad 7 0))]) C.1 C.2.1 dX7_meanWait_3 rfl hl (by decide) rfl (fun ls hl => ?_)
  refine lv_iconst (v := 0) C.1 C.2.1 dX7_meanWait_4 (by decide) ?_
  refine lv_istore_n (lv' := [(3, .int 0), (2, .int 0), (1, .int 0), (0, .ref (ad 7 0))]) C.1 C.2.1 dX7_meanWait_5 rfl hl (by decide) rfl (fun ls hl => ?_)
  exact w_X7_meanWait_6 C FU _ 0 0 0 _ _ _ S (lv_sub hl [3, 2, 1, 0] rfl) hf
theorem kv_X7_meanWait : KV yX7_meanWait cX7_meanWait 4 (Option.some FieldType.double) 0 := ⟨tw_3_133, tw_3_131, tw_3_132, tw_1_1, by decide, by decide, by decide +kernel⟩
theorem m_X7_meanWait (l : Launch) (G : Gx) (ad : Ad) (σ : Sg)  (r : UInt64) (σ' : Sg)  (hf : f_X7_meanWait σ  = some (r, σ')) (sz : Nat) : z_MD l yX7_meanWait cX7_meanWait 4 (Option.some FieldType.double) 1 22 0 G ad σ sz [.ref (ad 7 0)] r σ' := by
  refine z_begin (by decide +kernel) (Nat.le_of_ble_eq_true rfl) [(0, .ref (ad 7 0))] rfl (fun p e s m args below meth c ls C hz S hl => ?_)
  subst hz
  exact w_X7_meanWait_0 (res := (r, σ')) C σ  _ _ _ S hl  hf

theorem dX7_meanRide_0 : decode cX7_meanRide 0 = .ok (.iconst 0, 1) := by decide +kernel
theorem dX7_meanRide_1 : decode cX7_meanRide 1 = .ok (.istore_n 1, 1) := by decide +kernel
theorem dX7_meanRide_2 : decode cX7_meanRide 2 = .ok (.iconst 0, 1) := by decide +kernel
theorem dX7_meanRide_3 : decode cX7_meanRide 3 = .ok (.istore_n 2, 1) := by decide +kernel
theorem dX7_meanRide_4 : decode cX7_meanRide 4 = .ok (.iconst 0, 1) := by decide +kernel
theorem dX7_meanRide_5 : decode cX7_meanRide 5 = .ok (.istore_n 3, 1) := by decide +kernel
theorem dX7_meanRide_6 : decode cX7_meanRide 6 = .ok (.iload_n 3, 1) := by decide +kernel
theorem dX7_meanRide_7 : decode cX7_meanRide 7 = .ok (.aload_n 0, 1) := by decide +kernel
theorem dX7_meanRide_8 : decode cX7_meanRide 8 = .ok (.getfield 26, 3) := by decide +kernel
theorem dX7_meanRide_11 : decode cX7_meanRide 11 = .ok (.getfield 97, 3) := by decide +kernel
theorem dX7_meanRide_14 : decode cX7_meanRide 14 = .ok (.if_icmp .ge 46, 3) := by decide +kernel
theorem dX7_meanRide_17 : decode cX7_meanRide 17 = .ok (.aload_n 0, 1) := by decide +kernel
theorem dX7_meanRide_18 : decode cX7_meanRide 18 = .ok (.getfield 26, 3) := by decide +kernel
theorem dX7_meanRide_21 : decode cX7_meanRide 21 = .ok (.getfield 191, 3) := by decide +kernel
theorem dX7_meanRide_24 : decode cX7_meanRide 24 = .ok (.iload_n 3, 1) := by decide +kernel
theorem dX7_meanRide_25 : decode cX7_meanRide 25 = .ok (.aaload, 1) := by decide +kernel
theorem dX7_meanRide_26 : decode cX7_meanRide 26 = .ok (.astore 4, 2) := by decide +kernel
theorem dX7_meanRide_28 : decode cX7_meanRide 28 = .ok (.aload 4, 2) := by decide +kernel
theorem dX7_meanRide_30 : decode cX7_meanRide 30 = .ok (.getfield 206, 3) := by decide +kernel
theorem dX7_meanRide_33 : decode cX7_meanRide 33 = .ok (.iconst 3, 1) := by decide +kernel
theorem dX7_meanRide_34 : decode cX7_meanRide 34 = .ok (.if_icmp .ne 20, 3) := by decide +kernel
theorem dX7_meanRide_37 : decode cX7_meanRide 37 = .ok (.iload_n 1, 1) := by decide +kernel
theorem dX7_meanRide_38 : decode cX7_meanRide 38 = .ok (.aload 4, 2) := by decide +kernel
theorem dX7_meanRide_40 : decode cX7_meanRide 40 = .ok (.getfield 215, 3) := by decide +kernel
theorem dX7_meanRide_43 : decode cX7_meanRide 43 = .ok (.aload 4, 2) := by decide +kernel
theorem dX7_meanRide_45 : decode cX7_meanRide 45 = .ok (.getfield 212, 3) := by decide +kernel
theorem dX7_meanRide_48 : decode cX7_meanRide 48 = .ok (.isub, 1) := by decide +kernel
theorem dX7_meanRide_49 : decode cX7_meanRide 49 = .ok (.iadd, 1) := by decide +kernel
theorem dX7_meanRide_50 : decode cX7_meanRide 50 = .ok (.istore_n 1, 1) := by decide +kernel
theorem dX7_meanRide_51 : decode cX7_meanRide 51 = .ok (.iinc 2 1, 3) := by decide +kernel
theorem dX7_meanRide_54 : decode cX7_meanRide 54 = .ok (.iinc 3 1, 3) := by decide +kernel
theorem dX7_meanRide_57 : decode cX7_meanRide 57 = .ok (.goto (-51), 3) := by decide +kernel
theorem dX7_meanRide_60 : decode cX7_meanRide 60 = .ok (.iload_n 2, 1) := by decide +kernel
theorem dX7_meanRide_61 : decode cX7_meanRide 61 = .ok (.ifCond .ne 7, 3) := by decide +kernel
theorem dX7_meanRide_64 : decode cX7_meanRide 64 = .ok (.dconst 0, 1) := by decide +kernel
theorem dX7_meanRide_65 : decode cX7_meanRide 65 = .ok (.goto 8, 3) := by decide +kernel
theorem dX7_meanRide_68 : decode cX7_meanRide 68 = .ok (.iload_n 1, 1) := by decide +kernel
theorem dX7_meanRide_69 : decode cX7_meanRide 69 = .ok (.i2d, 1) := by decide +kernel
theorem dX7_meanRide_70 : decode cX7_meanRide 70 = .ok (.iload_n 2, 1) := by decide +kernel
theorem dX7_meanRide_71 : decode cX7_meanRide 71 = .ok (.i2d, 1) := by decide +kernel
theorem dX7_meanRide_72 : decode cX7_meanRide 72 = .ok (.ddiv, 1) := by decide +kernel
theorem dX7_meanRide_73 : decode cX7_meanRide 73 = .ok (.dreturn, 1) := by decide +kernel
/-! BusLifts.meanRide()D -/
noncomputable def f_X7_meanRide_73  (σ : Sg) (v100 : UInt64) : Option (UInt64 × Sg) := some (v100, σ)
noncomputable def f_X7_meanRide_60  (σ : Sg) (v1 : Int32) (v2 : Int32) : Option (UInt64 × Sg) := if v2 = 0 then (f_X7_meanRide_73 σ FP.dconst0) else (if ¬ ((FP.ddiv (FP.i2d v1) (FP.i2d v2)) &&& 0x7fffffffffffffff ≤ 0x7ff0000000000000) then none else (f_X7_meanRide_73 σ (FP.ddiv (FP.i2d v1) (FP.i2d v2))))
noncomputable def f_X7_meanRide_54 (k6 : Sg → Int32 → Int32 → Int32 → Option (UInt64 × Sg)) (σ : Sg) (v1 : Int32) (v2 : Int32) (v3 : Int32) : Option (UInt64 × Sg) := k6 σ v1 v2 (v3 + 1)
noncomputable def f_X7_meanRide_6  : Nat → Sg → Int32 → Int32 → Int32 → Option (UInt64 × Sg)
  | 0, _, _, _, _ => none
  | n + 1, σ, v1, v2, v3 => if (σ 4 0 2) ≤ v3 then (f_X7_meanRide_60 σ v1 v2) else (if v3 < 0 ∨ 24 ≤ (v3).toNatClampNeg then none else (if (σ 1 (24 * 0 + (v3).toNatClampNeg) 3) = 3 then (f_X7_meanRide_54 (f_X7_meanRide_6 n) σ (v1 + ((σ 1 (24 * 0 + (v3).toNatClampNeg) 6) - (σ 1 (24 * 0 + (v3).toNatClampNeg) 5))) (v2 + 1) v3) else (f_X7_meanRide_54 (f_X7_meanRide_6 n) σ v1 v2 v3)))
theorem f_X7_meanRide_6_s  (n : Nat) (σ : Sg) (v1 : Int32) (v2 : Int32) (v3 : Int32) : f_X7_meanRide_6  (n + 1) σ v1 v2 v3 = (if (σ 4 0 2) ≤ v3 then (f_X7_meanRide_60 σ v1 v2) else (if v3 < 0 ∨ 24 ≤ (v3).toNatClampNeg then none else (if (σ 1 (24 * 0 + (v3).toNatClampNeg) 3) = 3 then (f_X7_meanRide_54 (f_X7_meanRide_6 n) σ (v1 + ((σ 1 (24 * 0 + (v3).toNatClampNeg) 6) - (σ 1 (24 * 0 + (v3).toNatClampNeg) 5))) (v2 + 1) v3) else (f_X7_meanRide_54 (f_X7_meanRide_6 n) σ v1 v2 v3)))) := rfl
noncomputable def f_X7_meanRide  (σ : Sg)  : Option (UInt64 × Sg) := f_X7_meanRide_6 FU σ 0 0 0
set_option maxHeartbeats 4000000 in
set_option maxRecDepth 100000 in
theorem w_X7_meanRide_73 {p : Program} {l : Launch} {e : Env} {s : State} {m : MethodId} {args : Array Value} {below : List Frame} {meth : Method} {c : Code} {G : Gx} {ad : Ad} {res : UInt64 × Sg} (C : Cx p s m args meth c yX7_meanRide.cls cX7_meanRide 5 (Option.some FieldType.double) G)  : ∀ (σ : Sg) (v100 : UInt64) (H : Heap) (locs : List Loc) (ls : Array Slot), z_S 0 G ad σ (z_A 0 ad s.heap.size) s.heap H locs → lv_has ls 5 [] → f_X7_meanRide_73  σ v100 = some res → W p l e { frames := 0, cells := 0, slots := 0, locals := 0 } s m args below meth c H locs 0 0 (MQ below (va_Qd (S := Unit) (fun r1 _ => r1 = res.1) (fun _ t => z_W 0 G ad res.2 t.heap) (z_A 0 ad s.heap.size)) args s 0 0 (z_A 0 ad s.heap.size)) (F0 m 73 ls [.double v100]) := by
  intro σ v100 H locs ls S hl  hf
  unfold f_X7_meanRide_73 at hf
  exact z_dret C S hf dX7_meanRide_73
set_option maxHeartbeats 4000000 in
set_option maxRecDepth 100000 in
theorem w_X7_meanRide_60 {p : Program} {l : Launch} {e : Env} {s : State} {m : MethodId} {args : Array Value} {below : List Frame} {meth : Method} {c : Code} {G : Gx} {ad : Ad} {res : UInt64 × Sg} (C : Cx p s m args meth c yX7_meanRide.cls cX7_meanRide 5 (Option.some FieldType.double) G)  : ∀ (σ : Sg) (v1 : Int32) (v2 : Int32) (H : Heap) (locs : List Loc) (ls : Array Slot), z_S 0 G ad σ (z_A 0 ad s.heap.size) s.heap H locs → lv_has ls 5 [(1, .int v1), (2, .int v2)] → f_X7_meanRide_60  σ v1 v2 = some res → W p l e { frames := 0, cells := 0, slots := 0, locals := 0 } s m args below meth c H locs 0 0 (MQ below (va_Qd (S := Unit) (fun r1 _ => r1 = res.1) (fun _ t => z_W 0 G ad res.2 t.heap) (z_A 0 ad s.heap.size)) args s 0 0 (z_A 0 ad s.heap.size)) (F0 m 60 ls []) := by
  intro σ v1 v2 H locs ls S hl  hf
  unfold f_X7_meanRide_60 at hf
  refine lv_iload_n C.1 C.2.1 dX7_meanRide_60 rfl (lv_at hl 1 rfl) ?_
  refine lv_if_ne (tgt := 68) C.1 C.2.1 dX7_meanRide_61 (by decide) (fun c_61 => ?_) (fun c_61 => ?_)
  · rw [if_neg c_61] at hf
    refine lv_iload_n C.1 C.2.1 dX7_meanRide_68 rfl (lv_at hl 0 rfl) ?_
    refine lv_i2d C.1 C.2.1 dX7_meanRide_69 ?_
    refine lv_iload_n C.1 C.2.1 dX7_meanRide_70 rfl (lv_at hl 1 rfl) ?_
    refine lv_i2d C.1 C.2.1 dX7_meanRide_71 ?_
    obtain ⟨g_72, hf⟩ := gd hf
    refine lv_ddiv C.1 C.2.1 dX7_meanRide_72 (nd64 g_72) ?_
    exact w_X7_meanRide_73 C _ (FP.ddiv (FP.i2d v1) (FP.i2d v2)) _ _ _ S (lv_sub hl [] rfl) hf
  · rw [if_pos c_61] at hf
    refine lv_dconst0 C.1 C.2.1 dX7_meanRide_64 ?_
    refine lv_goto (tgt := 73) C.1 C.2.1 dX7_meanRide_65 (by decide) ?_
    exact w_X7_meanRide_73 C _ FP.dconst0 _ _ _ S (lv_sub hl [] rfl) hf
set_option maxHeartbeats 4000000 in
set_option maxRecDepth 100000 in
theorem w_X7_meanRide_54 {p : Program} {l : Launch} {e : Env} {s : State} {m : MethodId} {args : Array Value} {below : List Frame} {meth : Method} {c : Code} {G : Gx} {ad : Ad} {res : UInt64 × Sg} (C : Cx p s m args meth c yX7_meanRide.cls cX7_meanRide 5 (Option.some FieldType.double) G) (k6 : Sg → Int32 → Int32 → Int32 → Option (UInt64 × Sg)) (hk6 : ∀ (σ : Sg) (v1 : Int32) (v2 : Int32) (v3 : Int32) (H : Heap) (locs : List Loc) (ls : Array Slot), z_S 0 G ad σ (z_A 0 ad s.heap.size) s.heap H locs → lv_has ls 5 [(0, .ref (ad 7 0)), (1, .int v1), (2, .int v2), (3, .int v3)] → k6 σ v1 v2 v3 = some res → W p l e { frames := 0, cells := 0, slots := 0, locals := 0 } s m args below meth c H locs 0 0 (MQ below (va_Qd (S := Unit) (fun r1 _ => r1 = res.1) (fun _ t => z_W 0 G ad res.2 t.heap) (z_A 0 ad s.heap.size)) args s 0 0 (z_A 0 ad s.heap.size)) (F0 m 6 ls [])) : ∀ (σ : Sg) (v1 : Int32) (v2 : Int32) (v3 : Int32) (H : Heap) (locs : List Loc) (ls : Array Slot), z_S 0 G ad σ (z_A 0 ad s.heap.size) s.heap H locs → lv_has ls 5 [(0, .ref (ad 7 0)), (1, .int v1), (2, .int v2), (3, .int v3)] → f_X7_meanRide_54 k6 σ v1 v2 v3 = some res → W p l e { frames := 0, cells := 0, slots := 0, locals := 0 } s m args below meth c H locs 0 0 (MQ below (va_Qd (S := Unit) (fun r1 _ => r1 = res.1) (fun _ t => z_W 0 G ad res.2 t.heap) (z_A 0 ad s.heap.size)) args s 0 0 (z_A 0 ad s.heap.size)) (F0 m 54 ls []) := by
  intro σ v1 v2 v3 H locs ls S hl  hf
  unfold f_X7_meanRide_54 at hf
  refine lv_iinc (v := (v3 + 1)) (lv' := [(3, .int (v3 + 1)), (0, .ref (ad 7 0)), (1, .int v1), (2, .int v2)]) C.1 C.2.1 dX7_meanRide_54 hl (k := 3) rfl rfl (by decide) rfl (fun ls hl => ?_)
  refine lv_goto (tgt := 6) C.1 C.2.1 dX7_meanRide_57 (by decide) ?_
  exact hk6 _ v1 v2 (v3 + 1) _ _ _ S (lv_sub hl [1, 2, 3, 0] rfl)  hf
set_option maxHeartbeats 4000000 in
set_option maxRecDepth 100000 in
theorem w_X7_meanRide_6 {p : Program} {l : Launch} {e : Env} {s : State} {m : MethodId} {args : Array Value} {below : List Frame} {meth : Method} {c : Code} {G : Gx} {ad : Ad} {res : UInt64 × Sg} (C : Cx p s m args meth c yX7_meanRide.cls cX7_meanRide 5 (Option.some FieldType.double) G)  : ∀ n : Nat, ∀ (σ : Sg) (v1 : Int32) (v2 : Int32) (v3 : Int32) (H : Heap) (locs : List Loc) (ls : Array Slot), z_S 0 G ad σ (z_A 0 ad s.heap.size) s.heap H locs → lv_has ls 5 [(0, .ref (ad 7 0)), (1, .int v1), (2, .int v2), (3, .int v3)] → f_X7_meanRide_6  n σ v1 v2 v3 = some res → W p l e { frames := 0, cells := 0, slots := 0, locals := 0 } s m args below meth c H locs 0 0 (MQ below (va_Qd (S := Unit) (fun r1 _ => r1 = res.1) (fun _ t => z_W 0 G ad res.2 t.heap) (z_A 0 ad s.heap.size)) args s 0 0 (z_A 0 ad s.heap.size)) (F0 m 6 ls []) := by
  intro n
  induction n with
  | zero => intro σ v1 v2 v3 H locs ls S hl  hf; cases hf
  | succ n ih =>
    intro σ v1 v2 v3 H locs ls S hl  hf
    rw [f_X7_meanRide_6_s] at hf
    refine lv_iload_n C.1 C.2.1 dX7_meanRide_6 rfl (lv_at hl 3 rfl) ?_
    refine lv_aload_n C.1 C.2.1 dX7_meanRide_7 rfl (lv_at hl 0 rfl) ?_
    refine z_getR C S 7 0 rfl (by decide) cf_7 6 (by decide) _ (gr_7_6 G ad 0) tw_2_134 dX7_meanRide_8 ?_
    refine z_getI C S 4 0 rfl (by decide) cf_4 2 (by decide) (gi_4_2 G ad 0) tw_1_222 dX7_meanRide_11 ?_
    refine lv_icmp_ge (tgt := 60) C.1 C.2.1 dX7_meanRide_14 (by decide) (fun c_14 => ?_) (fun c_14 => ?_)
    · rw [if_pos c_14] at hf
      exact w_X7_meanRide_60 C _ v1 v2 _ _ _ S (lv_sub hl [1, 2] rfl) hf
    · rw [if_neg c_14] at hf
      refine lv_aload_n C.1 C.2.1 dX7_meanRide_17 rfl (lv_at hl 0 rfl) ?_
      refine z_getR C S 7 0 rfl (by decide) cf_7 6 (by decide) _ (gr_7_6 G ad 0) tw_2_134 dX7_meanRide_18 ?_
      refine z_getR C S 4 0 rfl (by decide) cf_4 7 (by decide) _ (gr_4_7 G ad 0) tw_1_238 dX7_meanRide_21 ?_
      refine lv_iload_n C.1 C.2.1 dX7_meanRide_24 rfl (lv_at hl 3 rfl) ?_
      obtain ⟨g_25, hf⟩ := gd hf
      refine z_aald C S 26 0 rfl (by decide) 24 2 1 (24 * 0) rfl (fun _ => rfl) g_25 dX7_meanRide_25 ?_
      refine lv_astore (lv' := [(4, .ref (ad 1 (24 * 0 + (v3).toNatClampNeg))), (0, .ref (ad 7 0)), (1, .int v1), (2, .int v2), (3, .int v3)]) C.1 C.2.1 dX7_meanRide_26 hl (by decide) rfl (fun ls hl => ?_)
      refine lv_aload C.1 C.2.1 dX7_meanRide_28 (lv_at hl 0 rfl) ?_
      refine z_getI C S 1 (24 * 0 + (v3).toNatClampNeg) rfl (oc1 (by decide) g_25) cf_1 3 (by decide) (gi_1_3 G ad (24 * 0 + (v3).toNatClampNeg)) tw_1_166 dX7_meanRide_30 ?_
      refine lv_iconst (v := 3) C.1 C.2.1 dX7_meanRide_33 (by decide) ?_
      refine lv_icmp_ne (tgt := 54) C.1 C.2.1 dX7_meanRide_34 (by decide) (fun c_34 => ?_) (fun c_34 => ?_)
      · rw [if_neg c_34] at hf
        exact w_X7_meanRide_54 C (f_X7_meanRide_6 n) ih _ v1 v2 v3 _ _ _ S (lv_sub hl [1, 2, 3, 4] rfl) hf
      · rw [if_pos c_34] at hf
        refine lv_iload_n C.1 C.2.1 dX7_meanRide_37 rfl (lv_at hl 2 rfl) ?_
        refine lv_aload C.1 C.2.1 dX7_meanRide_38 (lv_at hl 0 rfl) ?_
        refine z_getI C S 1 (24 * 0 + (v3).toNatClampNeg) rfl (oc1 (by decide) g_25) cf_1 6 (by decide) (gi_1_6 G ad (24 * 0 + (v3).toNatClampNeg)) tw_1_175 dX7_meanRide_40 ?_
        refine lv_aload C.1 C.2.1 dX7_meanRide_43 (lv_at hl 0 rfl) ?_
        refine z_getI C S 1 (24 * 0 + (v3).toNatClampNeg) rfl (oc1 (by decide) g_25) cf_1 5 (by decide) (gi_1_5 G ad (24 * 0 + (v3).toNatClampNeg)) tw_1_172 dX7_meanRide_45 ?_
        refine lv_isub C.1 C.2.1 dX7_meanRide_48 ?_
        refine lv_iadd C.1 C.2.1 dX7_meanRide_49 ?_
        refine lv_istore_n (lv' := [(1, .int (v1 + ((σ 1 (24 * 0 + (v3).toNatClampNeg) 6) - (σ 1 (24 * 0 + (v3).toNatClampNeg) 5)))), (4, .ref (ad 1 (24 * 0 + (v3).toNatClampNeg))), (0, .ref (ad 7 0)), (2, .int v2), (3, .int v3)]) C.1 C.2.1 dX7_meanRide_50 rfl hl (by decide) rfl (fun ls hl => ?_)
        refine lv_iinc (v := (v2 + 1)) (lv' := [(2, .int (v2 + 1)), (1, .int (v1 + ((σ 1 (24 * 0 + (v3).toNatClampNeg) 6) - (σ 1 (24 * 0 + (v3).toNatClampNeg) 5)))), (4, .ref (ad 1 (24 * 0 + (v3).toNatClampNeg))), (0, .ref (ad 7 0)), (3, .int v3)]) C.1 C.2.1 dX7_meanRide_51 hl (k := 3) rfl rfl (by decide) rfl (fun ls hl => ?_)
        exact w_X7_meanRide_54 C (f_X7_meanRide_6 n) ih _ (v1 + ((σ 1 (24 * 0 + (v3).toNatClampNeg) 6) - (σ 1 (24 * 0 + (v3).toNatClampNeg) 5))) (v2 + 1) v3 _ _ _ S (lv_sub hl [3, 1, 0, 4] rfl) hf
set_option maxHeartbeats 4000000 in
set_option maxRecDepth 100000 in
theorem w_X7_meanRide_0 {p : Program} {l : Launch} {e : Env} {s : State} {m : MethodId} {args : Array Value} {below : List Frame} {meth : Method} {c : Code} {G : Gx} {ad : Ad} {res : UInt64 × Sg} (C : Cx p s m args meth c yX7_meanRide.cls cX7_meanRide 5 (Option.some FieldType.double) G)  : ∀ (σ : Sg)  (H : Heap) (locs : List Loc) (ls : Array Slot), z_S 0 G ad σ (z_A 0 ad s.heap.size) s.heap H locs → lv_has ls 5 [(0, .ref (ad 7 0))] → f_X7_meanRide  σ  = some res → W p l e { frames := 0, cells := 0, slots := 0, locals := 0 } s m args below meth c H locs 0 0 (MQ below (va_Qd (S := Unit) (fun r1 _ => r1 = res.1) (fun _ t => z_W 0 G ad res.2 t.heap) (z_A 0 ad s.heap.size)) args s 0 0 (z_A 0 ad s.heap.size)) (F0 m 0 ls []) := by
  intro σ  H locs ls S hl  hf
  unfold f_X7_meanRide at hf
  refine lv_iconst (v := 0) C.1 C.2.1 dX7_meanRide_0 (by decide) ?_
  refine lv_istore_n (lv' := [(1, .int 0), (0, .ref (ad 7 0))]) C.1 C.2.1 dX7_meanRide_1 rfl hl (by decide) rfl (fun ls hl => ?_)
  refine lv_iconst (v := 0) C.1 C.2.1 dX7_meanRide_2 (by decide) ?_
  refine lv_istore_n (lv' := [(2, .int 0), (1, .int 0), (0, .ref (ad 7 0))]) C.1 C.2.1 dX7_meanRide_3 rfl hl (by decide) rfl (fun ls hl => ?_)
  refine lv_iconst (v := 0) C.1 C.2.1 dX7_meanRide_4 (by decide) ?_
  refine lv_istore_n (lv' := [(3, .int 0), (2, .int 0), (1, .int 0), (0, .ref (ad 7 0))]) C.1 C.2.1 dX7_meanRide_5 rfl hl (by decide) rfl (fun ls hl => ?_)
  exact w_X7_meanRide_6 C FU _ 0 0 0 _ _ _ S (lv_sub hl [3, 2, 1, 0] rfl) hf
theorem kv_X7_meanRide : KV yX7_meanRide cX7_meanRide 5 (Option.some FieldType.double) 0 := ⟨tw_3_178, tw_3_176, tw_3_177, tw_1_1, by decide, by decide, by decide +kernel⟩
theorem m_X7_meanRide (l : Launch) (G : Gx) (ad : Ad) (σ : Sg)  (r : UInt64) (σ' : Sg)  (hf : f_X7_meanRide σ  = some (r, σ')) (sz : Nat) : z_MD l yX7_meanRide cX7_meanRide 5 (Option.some FieldType.double) 0 0 0 G ad σ sz [.ref (ad 7 0)] r σ' := by
  refine z_begin (by decide +kernel) (Nat.le_of_ble_eq_true rfl) [(0, .ref (ad 7 0))] rfl (fun p e s m args below meth c ls C hz S hl => ?_)
  subst hz
  exact w_X7_meanRide_0 (res := (r, σ')) C σ  _ _ _ S hl  hf

theorem dX7_lateShare_0 : decode cX7_lateShare 0 = .ok (.aload_n 0, 1) := by decide +kernel
theorem dX7_lateShare_1 : decode cX7_lateShare 1 = .ok (.getfield 26, 3) := by decide +kernel
theorem dX7_lateShare_4 : decode cX7_lateShare 4 = .ok (.getfield 97, 3) := by decide +kernel
theorem dX7_lateShare_7 : decode cX7_lateShare 7 = .ok (.aload_n 0, 1) := by decide +kernel
theorem dX7_lateShare_8 : decode cX7_lateShare 8 = .ok (.getfield 26, 3) := by decide +kernel
theorem dX7_lateShare_11 : decode cX7_lateShare 11 = .ok (.iconst 0, 1) := by decide +kernel
theorem dX7_lateShare_12 : decode cX7_lateShare 12 = .ok (.invokevirtual 127, 3) := by decide +kernel
theorem dX7_lateShare_15 : decode cX7_lateShare 15 = .ok (.isub, 1) := by decide +kernel
theorem dX7_lateShare_16 : decode cX7_lateShare 16 = .ok (.istore_n 1, 1) := by decide +kernel
theorem dX7_lateShare_17 : decode cX7_lateShare 17 = .ok (.iload_n 1, 1) := by decide +kernel
theorem dX7_lateShare_18 : decode cX7_lateShare 18 = .ok (.ifCond .ne 7, 3) := by decide +kernel
theorem dX7_lateShare_21 : decode cX7_lateShare 21 = .ok (.fconst 0, 1) := by decide +kernel
theorem dX7_lateShare_22 : decode cX7_lateShare 22 = .ok (.goto 14, 3) := by decide +kernel
theorem dX7_lateShare_25 : decode cX7_lateShare 25 = .ok (.aload_n 0, 1) := by decide +kernel
theorem dX7_lateShare_26 : decode cX7_lateShare 26 = .ok (.getfield 26, 3) := by decide +kernel
theorem dX7_lateShare_29 : decode cX7_lateShare 29 = .ok (.invokevirtual 280, 3) := by decide +kernel
theorem dX7_lateShare_32 : decode cX7_lateShare 32 = .ok (.i2f, 1) := by decide +kernel
theorem dX7_lateShare_33 : decode cX7_lateShare 33 = .ok (.iload_n 1, 1) := by decide +kernel
theorem dX7_lateShare_34 : decode cX7_lateShare 34 = .ok (.i2f, 1) := by decide +kernel
theorem dX7_lateShare_35 : decode cX7_lateShare 35 = .ok (.fdiv, 1) := by decide +kernel
theorem dX7_lateShare_36 : decode cX7_lateShare 36 = .ok (.freturn, 1) := by decide +kernel
/-! BusLifts.lateShare()F -/
noncomputable def f_X7_lateShare_36  (σ : Sg) (v100 : UInt32) : Option (UInt32 × Sg) := some (v100, σ)
noncomputable def f_X7_lateShare  (σ : Sg)  : Option (UInt32 × Sg) := bi (f_X4_countInState σ 0 0) fun r2 σ1 => (if ((σ 4 0 2) - r2) = 0 then (f_X7_lateShare_36 σ1 FP.fconst0) else (bi (f_X4_lateCalls σ1 0) fun r4 σ3 => (if ¬ ((FP.fdiv (FP.i2f r4) (FP.i2f ((σ 4 0 2) - r2))) &&& 0x7fffffff ≤ 0x7f800000) then none else (f_X7_lateShare_36 σ3 (FP.fdiv (FP.i2f r4) (FP.i2f ((σ 4 0 2) - r2)))))))
set_option maxHeartbeats 4000000 in
set_option maxRecDepth 100000 in
theorem w_X7_lateShare_36 {p : Program} {l : Launch} {e : Env} {s : State} {m : MethodId} {args : Array Value} {below : List Frame} {meth : Method} {c : Code} {G : Gx} {ad : Ad} {res : UInt32 × Sg} (C : Cx p s m args meth c yX7_lateShare.cls cX7_lateShare 2 (Option.some FieldType.float) G)  : ∀ (σ : Sg) (v100 : UInt32) (H : Heap) (locs : List Loc) (ls : Array Slot), z_S 0 G ad σ (z_A 0 ad s.heap.size) s.heap H locs → lv_has ls 2 [] → f_X7_lateShare_36  σ v100 = some res → W p l e { frames := 2, cells := 0, slots := 0, locals := 44 } s m args below meth c H locs 0 0 (MQ below (va_Qf (S := Unit) (fun r1 _ => r1 = res.1) (fun _ t => z_W 0 G ad res.2 t.heap) (z_A 0 ad s.heap.size)) args s 0 0 (z_A 0 ad s.heap.size)) (F0 m 36 ls [.float v100]) := by
  intro σ v100 H locs ls S hl  hf
  unfold f_X7_lateShare_36 at hf
  exact z_fret C S hf dX7_lateShare_36
set_option maxHeartbeats 4000000 in
set_option maxRecDepth 100000 in
theorem w_X7_lateShare_0 {p : Program} {l : Launch} {e : Env} {s : State} {m : MethodId} {args : Array Value} {below : List Frame} {meth : Method} {c : Code} {G : Gx} {ad : Ad} {res : UInt32 × Sg} (C : Cx p s m args meth c yX7_lateShare.cls cX7_lateShare 2 (Option.some FieldType.float) G)  : ∀ (σ : Sg)  (H : Heap) (locs : List Loc) (ls : Array Slot), z_S 0 G ad σ (z_A 0 ad s.heap.size) s.heap H locs → lv_has ls 2 [(0, .ref (ad 7 0))] → f_X7_lateShare  σ  = some res → W p l e { frames := 2, cells := 0, slots := 0, locals := 44 } s m args below meth c H locs 0 0 (MQ below (va_Qf (S := Unit) (fun r1 _ => r1 = res.1) (fun _ t => z_W 0 G ad res.2 t.heap) (z_A 0 ad s.heap.size)) args s 0 0 (z_A 0 ad s.heap.size)) (F0 m 0 ls []) := by
  intro σ  H locs ls S hl  hf
  unfold f_X7_lateShare at hf
  refine lv_aload_n C.1 C.2.1 dX7_lateShare_0 rfl (lv_at hl 0 rfl) ?_
  refine z_getR C S 7 0 rfl (by decide) cf_7 6 (by decide) _ (gr_7_6 G ad 0) tw_2_134 dX7_lateShare_1 ?_
  refine z_getI C S 4 0 rfl (by decide) cf_4 2 (by decide) (gi_4_2 G ad 0) tw_1_222 dX7_lateShare_4 ?_
  refine lv_aload_n C.1 C.2.1 dX7_lateShare_7 rfl (lv_at hl 0 rfl) ?_
  refine z_getR C S 7 0 rfl (by decide) cf_7 6 (by decide) _ (gr_7_6 G ad 0) tw_2_134 dX7_lateShare_8 ?_
  refine lv_iconst (v := 0) C.1 C.2.1 dX7_lateShare_11 (by decide) ?_
  obtain ⟨r2, σ1, q_12, hf⟩ := bib hf
  refine z_callI C S 4 0 rfl (by decide) cf_4 ⟨_, rfl⟩ [.int 0] (m_X4_countInState l G ad σ 0 0 r2 σ1 (by decide) q_12 _) kv_X4_countInState tw_3_139 ⟨Nat.le_of_ble_eq_true rfl, Nat.le_of_ble_eq_true rfl⟩ rfl rfl (Nat.le_of_ble_eq_true rfl) hl.1 ⟨Nat.le_of_ble_eq_true rfl, Nat.le_of_ble_eq_true rfl⟩ dX7_lateShare_12 (fun H locs S => ?_)
  refine lv_isub C.1 C.2.1 dX7_lateShare_15 ?_
  refine lv_istore_n (lv' := [(1, .int ((σ 4 0 2) - r2)), (0, .ref (ad 7 0))]) C.1 C.2.1 dX7_lateShare_16 rfl hl (by decide) rfl (fun ls hl => ?_)
  refine lv_iload_n C.1 C.2.1 dX7_lateShare_17 rfl (lv_at hl 0 rfl) ?_
  refine lv_if_ne (tgt := 25) C.1 C.2.1 dX7_lateShare_18 (by decide) (fun c_18 => ?_) (fun c_18 => ?_)
  · rw [if_neg c_18] at hf
    refine lv_aload_n C.1 C.2.1 dX7_lateShare_25 rfl (lv_at hl 1 rfl) ?_
    refine z_getR C S 7 0 rfl (by decide) cf_7 6 (by decide) _ (gr_7_6 G ad 0) tw_2_134 dX7_lateShare_26 ?_
    obtain ⟨r4, σ3, q_29, hf⟩ := bib hf
    refine z_callI C S 4 0 rfl (by decide) cf_4 ⟨_, rfl⟩ [] (m_X4_lateCalls l G ad σ1 0 r4 σ3 (by decide) q_29 _) kv_X4_lateCalls tw_3_143 ⟨Nat.le_of_ble_eq_true rfl, Nat.le_of_ble_eq_true rfl⟩ rfl rfl (Nat.le_of_ble_eq_true rfl) hl.1 ⟨Nat.le_of_ble_eq_true rfl, Nat.le_of_ble_eq_true rfl⟩ dX7_lateShare_29 (fun H locs S => ?_)
    refine lv_i2f C.1 C.2.1 dX7_lateShare_32 ?_
    refine lv_iload_n C.1 C.2.1 dX7_lateShare_33 rfl (lv_at hl 0 rfl) ?_
    refine lv_i2f C.1 C.2.1 dX7_lateShare_34 ?_
    obtain ⟨g_35, hf⟩ := gd hf
    refine lv_fdiv C.1 C.2.1 dX7_lateShare_35 (nd32 g_35) ?_
    exact w_X7_lateShare_36 C _ (FP.fdiv (FP.i2f r4) (FP.i2f ((σ 4 0 2) - r2))) _ _ _ S (lv_sub hl [] rfl) hf
  · rw [if_pos c_18] at hf
    refine lv_fconst0 C.1 C.2.1 dX7_lateShare_21 ?_
    refine lv_goto (tgt := 36) C.1 C.2.1 dX7_lateShare_22 (by decide) ?_
    exact w_X7_lateShare_36 C _ FP.fconst0 _ _ _ S (lv_sub hl [] rfl) hf
theorem kv_X7_lateShare : KV yX7_lateShare cX7_lateShare 2 (Option.some FieldType.float) 0 := ⟨tw_3_138, tw_3_136, tw_3_137, tw_1_1, by decide, by decide, by decide +kernel⟩
theorem m_X7_lateShare (l : Launch) (G : Gx) (ad : Ad) (σ : Sg)  (r : UInt32) (σ' : Sg)  (hf : f_X7_lateShare σ  = some (r, σ')) (sz : Nat) : z_MF l yX7_lateShare cX7_lateShare 2 (Option.some FieldType.float) 2 44 0 G ad σ sz [.ref (ad 7 0)] r σ' := by
  refine z_begin (by decide +kernel) (Nat.le_of_ble_eq_true rfl) [(0, .ref (ad 7 0))] rfl (fun p e s m args below meth c ls C hz S hl => ?_)
  subst hz
  exact w_X7_lateShare_0 (res := (r, σ')) C σ  _ _ _ S hl  hf

theorem dX7_meanCost_0 : decode cX7_meanCost 0 = .ok (.aload_n 0, 1) := by decide +kernel
theorem dX7_meanCost_1 : decode cX7_meanCost 1 = .ok (.iload_n 1, 1) := by decide +kernel
theorem dX7_meanCost_2 : decode cX7_meanCost 2 = .ok (.invokevirtual 188, 3) := by decide +kernel
theorem dX7_meanCost_5 : decode cX7_meanCost 5 = .ok (.iconst 0, 1) := by decide +kernel
theorem dX7_meanCost_6 : decode cX7_meanCost 6 = .ok (.istore_n 2, 1) := by decide +kernel
theorem dX7_meanCost_7 : decode cX7_meanCost 7 = .ok (.iconst 0, 1) := by decide +kernel
theorem dX7_meanCost_8 : decode cX7_meanCost 8 = .ok (.istore_n 3, 1) := by decide +kernel
theorem dX7_meanCost_9 : decode cX7_meanCost 9 = .ok (.iload_n 3, 1) := by decide +kernel
theorem dX7_meanCost_10 : decode cX7_meanCost 10 = .ok (.aload_n 0, 1) := by decide +kernel
theorem dX7_meanCost_11 : decode cX7_meanCost 11 = .ok (.getfield 26, 3) := by decide +kernel
theorem dX7_meanCost_14 : decode cX7_meanCost 14 = .ok (.getfield 87, 3) := by decide +kernel
theorem dX7_meanCost_17 : decode cX7_meanCost 17 = .ok (.if_icmp .ge 32, 3) := by decide +kernel
theorem dX7_meanCost_20 : decode cX7_meanCost 20 = .ok (.iload_n 2, 1) := by decide +kernel
theorem dX7_meanCost_21 : decode cX7_meanCost 21 = .ok (.aload_n 0, 1) := by decide +kernel
theorem dX7_meanCost_22 : decode cX7_meanCost 22 = .ok (.getfield 26, 3) := by decide +kernel
theorem dX7_meanCost_25 : decode cX7_meanCost 25 = .ok (.iload_n 3, 1) := by decide +kernel
theorem dX7_meanCost_26 : decode cX7_meanCost 26 = .ok (.aload_n 0, 1) := by decide +kernel
theorem dX7_meanCost_27 : decode cX7_meanCost 27 = .ok (.getfield 26, 3) := by decide +kernel
theorem dX7_meanCost_30 : decode cX7_meanCost 30 = .ok (.getfield 191, 3) := by decide +kernel
theorem dX7_meanCost_33 : decode cX7_meanCost 33 = .ok (.iload_n 1, 1) := by decide +kernel
theorem dX7_meanCost_34 : decode cX7_meanCost 34 = .ok (.aaload, 1) := by decide +kernel
theorem dX7_meanCost_35 : decode cX7_meanCost 35 = .ok (.getfield 195, 3) := by decide +kernel
theorem dX7_meanCost_38 : decode cX7_meanCost 38 = .ok (.invokevirtual 247, 3) := by decide +kernel
theorem dX7_meanCost_41 : decode cX7_meanCost 41 = .ok (.iadd, 1) := by decide +kernel
theorem dX7_meanCost_42 : decode cX7_meanCost 42 = .ok (.istore_n 2, 1) := by decide +kernel
theorem dX7_meanCost_43 : decode cX7_meanCost 43 = .ok (.iinc 3 1, 3) := by decide +kernel
theorem dX7_meanCost_46 : decode cX7_meanCost 46 = .ok (.goto (-37), 3) := by decide +kernel
theorem dX7_meanCost_49 : decode cX7_meanCost 49 = .ok (.aload_n 0, 1) := by decide +kernel
theorem dX7_meanCost_50 : decode cX7_meanCost 50 = .ok (.getfield 26, 3) := by decide +kernel
theorem dX7_meanCost_53 : decode cX7_meanCost 53 = .ok (.getfield 87, 3) := by decide +kernel
theorem dX7_meanCost_56 : decode cX7_meanCost 56 = .ok (.ifCond .ne 7, 3) := by decide +kernel
theorem dX7_meanCost_59 : decode cX7_meanCost 59 = .ok (.dconst 0, 1) := by decide +kernel
theorem dX7_meanCost_60 : decode cX7_meanCost 60 = .ok (.goto 14, 3) := by decide +kernel
theorem dX7_meanCost_63 : decode cX7_meanCost 63 = .ok (.iload_n 2, 1) := by decide +kernel
theorem dX7_meanCost_64 : decode cX7_meanCost 64 = .ok (.i2d, 1) := by decide +kernel
theorem dX7_meanCost_65 : decode cX7_meanCost 65 = .ok (.aload_n 0, 1) := by decide +kernel
theorem dX7_meanCost_66 : decode cX7_meanCost 66 = .ok (.getfield 26, 3) := by decide +kernel
theorem dX7_meanCost_69 : decode cX7_meanCost 69 = .ok (.getfield 87, 3) := by decide +kernel
theorem dX7_meanCost_72 : decode cX7_meanCost 72 = .ok (.i2d, 1) := by decide +kernel
theorem dX7_meanCost_73 : decode cX7_meanCost 73 = .ok (.ddiv, 1) := by decide +kernel
theorem dX7_meanCost_74 : decode cX7_meanCost 74 = .ok (.dreturn, 1) := by decide +kernel
/-! BusLifts.meanCost(I)D -/
noncomputable def f_X7_meanCost_74  (σ : Sg) (v100 : UInt64) : Option Xd := some (0, v100, σ)
noncomputable def f_X7_meanCost_49  (σ : Sg) (v2 : Int32) : Option Xd := if (σ 4 0 1) = 0 then (f_X7_meanCost_74 σ FP.dconst0) else (if ¬ ((FP.ddiv (FP.i2d v2) (FP.i2d (σ 4 0 1))) &&& 0x7fffffffffffffff ≤ 0x7ff0000000000000) then none else (f_X7_meanCost_74 σ (FP.ddiv (FP.i2d v2) (FP.i2d (σ 4 0 1)))))
noncomputable def f_X7_meanCost_9  : Nat → Sg → Int32 → Int32 → Int32 → Option Xd
  | 0, _, _, _, _ => none
  | n + 1, σ, v1, v2, v3 => if (σ 4 0 1) ≤ v3 then (f_X7_meanCost_49 σ v2) else (if v1 < 0 ∨ 24 ≤ (v1).toNatClampNeg then none else (bi (f_X4_costFrom σ 0 v3 (σ 1 (24 * 0 + (v1).toNatClampNeg) 0)) fun r2 σ1 => (f_X7_meanCost_9  n σ1 v1 (v2 + r2) (v3 + 1))))
theorem f_X7_meanCost_9_s  (n : Nat) (σ : Sg) (v1 : Int32) (v2 : Int32) (v3 : Int32) : f_X7_meanCost_9  (n + 1) σ v1 v2 v3 = (if (σ 4 0 1) ≤ v3 then (f_X7_meanCost_49 σ v2) else (if v1 < 0 ∨ 24 ≤ (v1).toNatClampNeg then none else (bi (f_X4_costFrom σ 0 v3 (σ 1 (24 * 0 + (v1).toNatClampNeg) 0)) fun r2 σ1 => (f_X7_meanCost_9  n σ1 v1 (v2 + r2) (v3 + 1))))) := rfl
noncomputable def f_X7_meanCost  (σ : Sg) (v1 : Int32) : Option Xd := bxd (f_X7_checkCall σ v1) fun r2 σ1 => (f_X7_meanCost_9 FU σ1 v1 0 0)
set_option maxHeartbeats 4000000 in
set_option maxRecDepth 100000 in
theorem w_X7_meanCost_74 {p : Program} {l : Launch} {e : Env} {s : State} {m : MethodId} {args : Array Value} {below : List Frame} {meth : Method} {c : Code} {G : Gx} {ad : Ad} {res : Xd} (C : Cx p s m args meth c yX7_meanCost.cls cX7_meanCost 4 (Option.some FieldType.double) G) (Z : Cz l s c G)  : ∀ (σ : Sg) (v100 : UInt64) (H : Heap) (locs : List Loc) (ls : Array Slot), z_S 0 G ad σ (z_A 0 ad s.heap.size) s.heap H locs → lv_has ls 4 [] → f_X7_meanCost_74  σ v100 = some res → W p l e { frames := 7, cells := 1, slots := 6, locals := 111 } s m args below meth c H locs 1 6 (vx_MQ below (z_QXD 0 G ad s.heap.size res) (z_XC 0 G ad s.heap.size (res.1, 0, res.2.2)) args s 1 6 (z_A 0 ad s.heap.size)) (F0 m 74 ls [.double v100]) := by
  intro σ v100 H locs ls S hl  hf
  unfold f_X7_meanCost_74 at hf
  exact z_xdret C S hf (Nat.le_of_ble_eq_true rfl) (Nat.le_of_ble_eq_true rfl) dX7_meanCost_74
set_option maxHeartbeats 4000000 in
set_option maxRecDepth 100000 in
theorem w_X7_meanCost_49 {p : Program} {l : Launch} {e : Env} {s : State} {m : MethodId} {args : Array Value} {below : List Frame} {meth : Method} {c : Code} {G : Gx} {ad : Ad} {res : Xd} (C : Cx p s m args meth c yX7_meanCost.cls cX7_meanCost 4 (Option.some FieldType.double) G) (Z : Cz l s c G)  : ∀ (σ : Sg) (v2 : Int32) (H : Heap) (locs : List Loc) (ls : Array Slot), z_S 0 G ad σ (z_A 0 ad s.heap.size) s.heap H locs → lv_has ls 4 [(0, .ref (ad 7 0)), (2, .int v2)] → f_X7_meanCost_49  σ v2 = some res → W p l e { frames := 7, cells := 1, slots := 6, locals := 111 } s m args below meth c H locs 1 6 (vx_MQ below (z_QXD 0 G ad s.heap.size res) (z_XC 0 G ad s.heap.size (res.1, 0, res.2.2)) args s 1 6 (z_A 0 ad s.heap.size)) (F0 m 49 ls []) := by
  intro σ v2 H locs ls S hl  hf
  unfold f_X7_meanCost_49 at hf
  refine lv_aload_n C.1 C.2.1 dX7_meanCost_49 rfl (lv_at hl 0 rfl) ?_
  refine z_getR C S 7 0 rfl (by decide) cf_7 6 (by decide) _ (gr_7_6 G ad 0) tw_2_134 dX7_meanCost_50 ?_
  refine z_getI C S 4 0 rfl (by decide) cf_4 1 (by decide) (gi_4_1 G ad 0) tw_1_218 dX7_meanCost_53 ?_
  refine lv_if_ne (tgt := 63) C.1 C.2.1 dX7_meanCost_56 (by decide) (fun c_56 => ?_) (fun c_56 => ?_)
  · rw [if_neg c_56] at hf
    refine lv_iload_n C.1 C.2.1 dX7_meanCost_63 rfl (lv_at hl 1 rfl) ?_
    refine lv_i2d C.1 C.2.1 dX7_meanCost_64 ?_
    refine lv_aload_n C.1 C.2.1 dX7_meanCost_65 rfl (lv_at hl 0 rfl) ?_
    refine z_getR C S 7 0 rfl (by decide) cf_7 6 (by decide) _ (gr_7_6 G ad 0) tw_2_134 dX7_meanCost_66 ?_
    refine z_getI C S 4 0 rfl (by decide) cf_4 1 (by decide) (gi_4_1 G ad 0) tw_1_218 dX7_meanCost_69 ?_
    refine lv_i2d C.1 C.2.1 dX7_meanCost_72 ?_
    obtain ⟨g_73, hf⟩ := gd hf
    refine lv_ddiv C.1 C.2.1 dX7_meanCost_73 (nd64 g_73) ?_
    refine W.widen (k := 1) (n := 6) (Nat.le_of_ble_eq_true rfl) (Nat.le_of_ble_eq_true rfl) ?_
    exact w_X7_meanCost_74 C Z _ (FP.ddiv (FP.i2d v2) (FP.i2d (σ 4 0 1))) _ _ _ S (lv_sub hl [] rfl) hf
  · rw [if_pos c_56] at hf
    refine lv_dconst0 C.1 C.2.1 dX7_meanCost_59 ?_
    refine lv_goto (tgt := 74) C.1 C.2.1 dX7_meanCost_60 (by decide) ?_
    refine W.widen (k := 1) (n := 6) (Nat.le_of_ble_eq_true rfl) (Nat.le_of_ble_eq_true rfl) ?_
    exact w_X7_meanCost_74 C Z _ FP.dconst0 _ _ _ S (lv_sub hl [] rfl) hf
set_option maxHeartbeats 4000000 in
set_option maxRecDepth 100000 in
theorem w_X7_meanCost_9 {p : Program} {l : Launch} {e : Env} {s : State} {m : MethodId} {args : Array Value} {below : List Frame} {meth : Method} {c : Code} {G : Gx} {ad : Ad} {res : Xd} (C : Cx p s m args meth c yX7_meanCost.cls cX7_meanCost 4 (Option.some FieldType.double) G) (Z : Cz l s c G)  : ∀ n : Nat, ∀ (σ : Sg) (v1 : Int32) (v2 : Int32) (v3 : Int32) (H : Heap) (locs : List Loc) (ls : Array Slot), z_S 0 G ad σ (z_A 0 ad s.heap.size) s.heap H locs → lv_has ls 4 [(0, .ref (ad 7 0)), (1, .int v1), (2, .int v2), (3, .int v3)] → f_X7_meanCost_9  n σ v1 v2 v3 = some res → W p l e { frames := 7, cells := 1, slots := 6, locals := 111 } s m args below meth c H locs 1 6 (vx_MQ below (z_QXD 0 G ad s.heap.size res) (z_XC 0 G ad s.heap.size (res.1, 0, res.2.2)) args s 1 6 (z_A 0 ad s.heap.size)) (F0 m 9 ls []) := by
  intro n
  induction n with
  | zero => intro σ v1 v2 v3 H locs ls S hl  hf; cases hf
  | succ n ih =>
    intro σ v1 v2 v3 H locs ls S hl  hf
    rw [f_X7_meanCost_9_s] at hf
    refine lv_iload_n C.1 C.2.1 dX7_meanCost_9 rfl (lv_at hl 3 rfl) ?_
    refine lv_aload_n C.1 C.2.1 dX7_meanCost_10 rfl (lv_at hl 0 rfl) ?_
    refine z_getR C S 7 0 rfl (by decide) cf_7 6 (by decide) _ (gr_7_6 G ad 0) tw_2_134 dX7_meanCost_11 ?_
    refine z_getI C S 4 0 rfl (by decide) cf_4 1 (by decide) (gi_4_1 G ad 0) tw_1_218 dX7_meanCost_14 ?_
    refine lv_icmp_ge (tgt := 49) C.1 C.2.1 dX7_meanCost_17 (by decide) (fun c_17 => ?_) (fun c_17 => ?_)
    · rw [if_pos c_17] at hf
      refine W.widen (k := 1) (n := 6) (Nat.le_of_ble_eq_true rfl) (Nat.le_of_ble_eq_true rfl) ?_
      exact w_X7_meanCost_49 C Z _ v2 _ _ _ S (lv_sub hl [0, 2] rfl) hf
    · rw [if_neg c_17] at hf
      refine lv_iload_n C.1 C.2.1 dX7_meanCost_20 rfl (lv_at hl 2 rfl) ?_
      refine lv_aload_n C.1 C.2.1 dX7_meanCost_21 rfl (lv_at hl 0 rfl) ?_
      refine z_getR C S 7 0 rfl (by decide) cf_7 6 (by decide) _ (gr_7_6 G ad 0) tw_2_134 dX7_meanCost_22 ?_
      refine lv_iload_n C.1 C.2.1 dX7_meanCost_25 rfl (lv_at hl 3 rfl) ?_
      refine lv_aload_n C.1 C.2.1 dX7_meanCost_26 rfl (lv_at hl 0 rfl) ?_
      refine z_getR C S 7 0 rfl (by decide) cf_7 6 (by decide) _ (gr_7_6 G ad 0) tw_2_134 dX7_meanCost_27 ?_
      refine z_getR C S 4 0 rfl (by decide) cf_4 7 (by decide) _ (gr_4_7 G ad 0) tw_1_238 dX7_meanCost_30 ?_
      refine lv_iload_n C.1 C.2.1 dX7_meanCost_33 rfl (lv_at hl 1 rfl) ?_
      obtain ⟨g_34, hf⟩ := gd hf
      refine z_aald C S 26 0 rfl (by decide) 24 2 1 (24 * 0) rfl (fun _ => rfl) g_34 dX7_meanCost_34 ?_
      refine z_getI C S 1 (24 * 0 + (v1).toNatClampNeg) rfl (oc1 (by decide) g_34) cf_1 0 (by decide) (gi_1_0 G ad (24 * 0 + (v1).toNatClampNeg)) tw_1_154 dX7_meanCost_35 ?_
      obtain ⟨r2, σ1, q_38, hf⟩ := bib hf
      refine z_callI C S 4 0 rfl (by decide) cf_4 ⟨_, rfl⟩ [.int v3, .int (σ 1 (24 * 0 + (v1).toNatClampNeg) 0)] (m_X4_costFrom l G ad σ 0 v3 (σ 1 (24 * 0 + (v1).toNatClampNeg) 0) r2 σ1 (by decide) q_38 _) kv_X4_costFrom tw_4_145 ⟨Nat.le_of_ble_eq_true rfl, Nat.le_of_ble_eq_true rfl⟩ rfl rfl (Nat.le_of_ble_eq_true rfl) hl.1 ⟨Nat.le_of_ble_eq_true rfl, Nat.le_of_ble_eq_true rfl⟩ dX7_meanCost_38 (fun H locs S => ?_)
      refine lv_iadd C.1 C.2.1 dX7_meanCost_41 ?_
      refine lv_istore_n (lv' := [(2, .int (v2 + r2)), (0, .ref (ad 7 0)), (1, .int v1), (3, .int v3)]) C.1 C.2.1 dX7_meanCost_42 rfl hl (by decide) rfl (fun ls hl => ?_)
      refine lv_iinc (v := (v3 + 1)) (lv' := [(3, .int (v3 + 1)), (2, .int (v2 + r2)), (0, .ref (ad 7 0)), (1, .int v1)]) C.1 C.2.1 dX7_meanCost_43 hl (k := 3) rfl rfl (by decide) rfl (fun ls hl => ?_)
      refine lv_goto (tgt := 9) C.1 C.2.1 dX7_meanCost_46 (by decide) ?_
      refine W.widen (k := 1) (n := 6) (Nat.le_of_ble_eq_true rfl) (Nat.le_of_ble_eq_true rfl) ?_
      exact ih _ v1 (v2 + r2) (v3 + 1) _ _ _ S (lv_sub hl [2, 3, 1, 0] rfl)  hf
set_option maxHeartbeats 4000000 in
set_option maxRecDepth 100000 in
theorem w_X7_meanCost_0 {p : Program} {l : Launch} {e : Env} {s : State} {m : MethodId} {args : Array Value} {below : List Frame} {meth : Method} {c : Code} {G : Gx} {ad : Ad} {res : Xd} (C : Cx p s m args meth c yX7_meanCost.cls cX7_meanCost 4 (Option.some FieldType.double) G) (Z : Cz l s c G)  : ∀ (σ : Sg) (v1 : Int32) (H : Heap) (locs : List Loc) (ls : Array Slot), z_S 0 G ad σ (z_A 0 ad s.heap.size) s.heap H locs → lv_has ls 4 [(0, .ref (ad 7 0)), (1, .int v1)] → f_X7_meanCost  σ v1 = some res → W p l e { frames := 7, cells := 1, slots := 6, locals := 111 } s m args below meth c H locs 0 0 (vx_MQ below (z_QXD 0 G ad s.heap.size res) (z_XC 0 G ad s.heap.size (res.1, 0, res.2.2)) args s 1 6 (z_A 0 ad s.heap.size)) (F0 m 0 ls []) := by
  intro σ v1 H locs ls S hl  hf
  unfold f_X7_meanCost at hf
  refine lv_aload_n C.1 C.2.1 dX7_meanCost_0 rfl (lv_at hl 0 rfl) ?_
  refine lv_iload_n C.1 C.2.1 dX7_meanCost_1 rfl (lv_at hl 1 rfl) ?_
  obtain ⟨c_q2, r2, σ1, q_2, x_2, hf⟩ := bxdb hf
  refine z_xcallV (res := (res.1, 0, res.2.2)) C Z S 7 0 rfl (by decide) cf_7 ⟨_, rfl⟩ [.int v1] (m_X7_checkCall l Z.1 G ad σ v1 (c_q2, r2, σ1) q_2 _) kv_X7_checkCall tw_4_88 ⟨(Nat.le_of_ble_eq_true rfl), (Nat.le_of_ble_eq_true rfl)⟩ rfl rfl (Nat.le_of_ble_eq_true rfl) hl.1 ⟨(Nat.le_of_ble_eq_true rfl), (Nat.le_of_ble_eq_true rfl)⟩ (Nat.le_of_ble_eq_true rfl) (Nat.le_of_ble_eq_true rfl) dX7_meanCost_2 x_2 (fun h_2 H locs S => ?_)
  have hf := hf h_2
  refine lv_iconst (v := 0) C.1 C.2.1 dX7_meanCost_5 (by decide) ?_
  refine lv_istore_n (lv' := [(2, .int 0), (0, .ref (ad 7 0)), (1, .int v1)]) C.1 C.2.1 dX7_meanCost_6 rfl hl (by decide) rfl (fun ls hl => ?_)
  refine lv_iconst (v := 0) C.1 C.2.1 dX7_meanCost_7 (by decide) ?_
  refine lv_istore_n (lv' := [(3, .int 0), (2, .int 0), (0, .ref (ad 7 0)), (1, .int v1)]) C.1 C.2.1 dX7_meanCost_8 rfl hl (by decide) rfl (fun ls hl => ?_)
  refine W.widen (k := 1) (n := 6) (Nat.le_of_ble_eq_true rfl) (Nat.le_of_ble_eq_true rfl) ?_
  exact w_X7_meanCost_9 C Z FU _ v1 0 0 _ _ _ S (lv_sub hl [2, 3, 1, 0] rfl) hf
theorem kv_X7_meanCost : KV yX7_meanCost cX7_meanCost 4 (Option.some FieldType.double) 1 := ⟨tw_6_22, tw_6_20, tw_6_21, tw_1_1, by decide, by decide, by decide +kernel⟩
theorem m_X7_meanCost (l : Launch) (hst : l.stackTraces = false) (G : Gx) (ad : Ad) (σ : Sg) (v1 : Int32) (q : Xd)  (hf : f_X7_meanCost σ v1 = some q) (sz : Nat) : z_XD l yX7_meanCost cX7_meanCost 4 (Option.some FieldType.double) 7 111 1 6 0 G ad σ sz [.ref (ad 7 0), .int v1] q := by
  refine z_xbegin hst (by decide +kernel) (Nat.le_of_ble_eq_true rfl) [(0, .ref (ad 7 0)), (1, .int v1)] rfl (fun p e s m args below meth c ls C Z hz S hl => ?_)
  subst hz
  exact w_X7_meanCost_0 (res := q) C Z σ v1 _ _ _ S hl  hf

theorem dX8_meanWait_0 : decode cX8_meanWait 0 = .ok (.aload_n 0, 1) := by decide +kernel
theorem dX8_meanWait_1 : decode cX8_meanWait 1 = .ok (.iconst 0, 1) := by decide +kernel
theorem dX8_meanWait_2 : decode cX8_meanWait 2 = .ok (.putfield 48, 3) := by decide +kernel
theorem dX8_meanWait_5 : decode cX8_meanWait 5 = .ok (.iconst 0, 1) := by decide +kernel
theorem dX8_meanWait_6 : decode cX8_meanWait 6 = .ok (.istore_n 1, 1) := by decide +kernel
theorem dX8_meanWait_7 : decode cX8_meanWait 7 = .ok (.iconst 0, 1) := by decide +kernel
theorem dX8_meanWait_8 : decode cX8_meanWait 8 = .ok (.istore_n 2, 1) := by decide +kernel
theorem dX8_meanWait_9 : decode cX8_meanWait 9 = .ok (.iconst 0, 1) := by decide +kernel
theorem dX8_meanWait_10 : decode cX8_meanWait 10 = .ok (.istore_n 3, 1) := by decide +kernel
theorem dX8_meanWait_11 : decode cX8_meanWait 11 = .ok (.iload_n 3, 1) := by decide +kernel
theorem dX8_meanWait_12 : decode cX8_meanWait 12 = .ok (.aload_n 0, 1) := by decide +kernel
theorem dX8_meanWait_13 : decode cX8_meanWait 13 = .ok (.getfield 7, 3) := by decide +kernel
theorem dX8_meanWait_16 : decode cX8_meanWait 16 = .ok (.iconst 2, 1) := by decide +kernel
theorem dX8_meanWait_17 : decode cX8_meanWait 17 = .ok (.iaload, 1) := by decide +kernel
theorem dX8_meanWait_18 : decode cX8_meanWait 18 = .ok (.if_icmp .ge 36, 3) := by decide +kernel
theorem dX8_meanWait_21 : decode cX8_meanWait 21 = .ok (.aload_n 0, 1) := by decide +kernel
theorem dX8_meanWait_22 : decode cX8_meanWait 22 = .ok (.getfield 7, 3) := by decide +kernel
theorem dX8_meanWait_25 : decode cX8_meanWait 25 = .ok (.bipush 127, 2) := by decide +kernel
theorem dX8_meanWait_27 : decode cX8_meanWait 27 = .ok (.iload_n 3, 1) := by decide +kernel
theorem dX8_meanWait_28 : decode cX8_meanWait 28 = .ok (.iadd, 1) := by decide +kernel
theorem dX8_meanWait_29 : decode cX8_meanWait 29 = .ok (.iaload, 1) := by decide +kernel
theorem dX8_meanWait_30 : decode cX8_meanWait 30 = .ok (.iconst 2, 1) := by decide +kernel
theorem dX8_meanWait_31 : decode cX8_meanWait 31 = .ok (.if_icmp .ge 6, 3) := by decide +kernel
theorem dX8_meanWait_34 : decode cX8_meanWait 34 = .ok (.goto 14, 3) := by decide +kernel
theorem dX8_meanWait_37 : decode cX8_meanWait 37 = .ok (.iload_n 1, 1) := by decide +kernel
theorem dX8_meanWait_38 : decode cX8_meanWait 38 = .ok (.aload_n 0, 1) := by decide +kernel
theorem dX8_meanWait_39 : decode cX8_meanWait 39 = .ok (.iload_n 3, 1) := by decide +kernel
theorem dX8_meanWait_40 : decode cX8_meanWait 40 = .ok (.invokevirtual 280, 3) := by decide +kernel
theorem dX8_meanWait_43 : decode cX8_meanWait 43 = .ok (.iadd, 1) := by decide +kernel
theorem dX8_meanWait_44 : decode cX8_meanWait 44 = .ok (.istore_n 1, 1) := by decide +kernel
theorem dX8_meanWait_45 : decode cX8_meanWait 45 = .ok (.iinc 2 1, 3) := by decide +kernel
theorem dX8_meanWait_48 : decode cX8_meanWait 48 = .ok (.iinc 3 1, 3) := by decide +kernel
theorem dX8_meanWait_51 : decode cX8_meanWait 51 = .ok (.goto (-40), 3) := by decide +kernel
theorem dX8_meanWait_54 : decode cX8_meanWait 54 = .ok (.iload_n 2, 1) := by decide +kernel
theorem dX8_meanWait_55 : decode cX8_meanWait 55 = .ok (.ifCond .ne 7, 3) := by decide +kernel
theorem dX8_meanWait_58 : decode cX8_meanWait 58 = .ok (.dconst 0, 1) := by decide +kernel
theorem dX8_meanWait_59 : decode cX8_meanWait 59 = .ok (.goto 8, 3) := by decide +kernel
theorem dX8_meanWait_62 : decode cX8_meanWait 62 = .ok (.iload_n 1, 1) := by decide +kernel
theorem dX8_meanWait_63 : decode cX8_meanWait 63 = .ok (.i2d, 1) := by decide +kernel
theorem dX8_meanWait_64 : decode cX8_meanWait 64 = .ok (.iload_n 2, 1) := by decide +kernel
theorem dX8_meanWait_65 : decode cX8_meanWait 65 = .ok (.i2d, 1) := by decide +kernel
theorem dX8_meanWait_66 : decode cX8_meanWait 66 = .ok (.ddiv, 1) := by decide +kernel
theorem dX8_meanWait_67 : decode cX8_meanWait 67 = .ok (.dreturn, 1) := by decide +kernel
/-! BusLiftsModel.meanWait()D -/
noncomputable def f_X8_meanWait_67  (σ : Sg) (v100 : UInt64) : Option (UInt64 × Sg) := some (v100, σ)
noncomputable def f_X8_meanWait_54  (σ : Sg) (v1 : Int32) (v2 : Int32) : Option (UInt64 × Sg) := if v2 = 0 then (f_X8_meanWait_67 σ FP.dconst0) else (if ¬ ((FP.ddiv (FP.i2d v1) (FP.i2d v2)) &&& 0x7fffffffffffffff ≤ 0x7ff0000000000000) then none else (f_X8_meanWait_67 σ (FP.ddiv (FP.i2d v1) (FP.i2d v2))))
noncomputable def f_X8_meanWait_48 (k11 : Sg → Int32 → Int32 → Int32 → Option (UInt64 × Sg)) (σ : Sg) (v1 : Int32) (v2 : Int32) (v3 : Int32) : Option (UInt64 × Sg) := k11 σ v1 v2 (v3 + 1)
noncomputable def f_X8_meanWait_11  : Nat → Sg → Int32 → Int32 → Int32 → Option (UInt64 × Sg)
  | 0, _, _, _, _ => none
  | n + 1, σ, v1, v2, v3 => if (σ 30 0 2) ≤ v3 then (f_X8_meanWait_54 σ v1 v2) else (if (127 + v3) < 0 ∨ 2111 ≤ ((127 + v3)).toNatClampNeg then none else (if 2 ≤ (σ 30 0 ((127 + v3)).toNatClampNeg) then (bi (f_X8_waitNow σ v3) fun r2 σ1 => (f_X8_meanWait_48 (f_X8_meanWait_11 n) σ1 (v1 + r2) (v2 + 1) v3)) else (f_X8_meanWait_48 (f_X8_meanWait_11 n) σ v1 v2 v3)))
theorem f_X8_meanWait_11_s  (n : Nat) (σ : Sg) (v1 : Int32) (v2 : Int32) (v3 : Int32) : f_X8_meanWait_11  (n + 1) σ v1 v2 v3 = (if (σ 30 0 2) ≤ v3 then (f_X8_meanWait_54 σ v1 v2) else (if (127 + v3) < 0 ∨ 2111 ≤ ((127 + v3)).toNatClampNeg then none else (if 2 ≤ (σ 30 0 ((127 + v3)).toNatClampNeg) then (bi (f_X8_waitNow σ v3) fun r2 σ1 => (f_X8_meanWait_48 (f_X8_meanWait_11 n) σ1 (v1 + r2) (v2 + 1) v3)) else (f_X8_meanWait_48 (f_X8_meanWait_11 n) σ v1 v2 v3)))) := rfl
noncomputable def f_X8_meanWait  (σ : Sg)  : Option (UInt64 × Sg) := st (sup σ 8 0 8 0) fun σ1 => (f_X8_meanWait_11 FU σ1 0 0 0)
set_option maxHeartbeats 4000000 in
set_option maxRecDepth 100000 in
theorem w_X8_meanWait_67 {p : Program} {l : Launch} {e : Env} {s : State} {m : MethodId} {args : Array Value} {below : List Frame} {meth : Method} {c : Code} {G : Gx} {ad : Ad} {res : UInt64 × Sg} (C : Cx p s m args meth c yX8_meanWait.cls cX8_meanWait 4 (Option.some FieldType.double) G)  : ∀ (σ : Sg) (v100 : UInt64) (H : Heap) (locs : List Loc) (ls : Array Slot), z_S 1 G ad σ (z_A 1 ad s.heap.size) s.heap H locs → lv_has ls 4 [] → f_X8_meanWait_67  σ v100 = some res → W p l e { frames := 1, cells := 0, slots := 0, locals := 21 } s m args below meth c H locs 0 0 (MQ below (va_Qd (S := Unit) (fun r1 _ => r1 = res.1) (fun _ t => z_W 1 G ad res.2 t.heap) (z_A 1 ad s.heap.size)) args s 0 0 (z_A 1 ad s.heap.size)) (F0 m 67 ls [.double v100]) := by
  intro σ v100 H locs ls S hl  hf
  unfold f_X8_meanWait_67 at hf
  exact z_dret C S hf dX8_meanWait_67
set_option maxHeartbeats 4000000 in
set_option maxRecDepth 100000 in
theorem w_X8_meanWait_54 {p : Program} {l : Launch} {e : Env} {s : State} {m : MethodId} {args : Array Value} {below : List Frame} {meth : Method} {c : Code} {G : Gx} {ad : Ad} {res : UInt64 × Sg} (C : Cx p s m args meth c yX8_meanWait.cls cX8_meanWait 4 (Option.some FieldType.double) G)  : ∀ (σ : Sg) (v1 : Int32) (v2 : Int32) (H : Heap) (locs : List Loc) (ls : Array Slot), z_S 1 G ad σ (z_A 1 ad s.heap.size) s.heap H locs → lv_has ls 4 [(1, .int v1), (2, .int v2)] → f_X8_meanWait_54  σ v1 v2 = some res → W p l e { frames := 1, cells := 0, slots := 0, locals := 21 } s m args below meth c H locs 0 0 (MQ below (va_Qd (S := Unit) (fun r1 _ => r1 = res.1) (fun _ t => z_W 1 G ad res.2 t.heap) (z_A 1 ad s.heap.size)) args s 0 0 (z_A 1 ad s.heap.size)) (F0 m 54 ls []) := by
  intro σ v1 v2 H locs ls S hl  hf
  unfold f_X8_meanWait_54 at hf
  refine lv_iload_n C.1 C.2.1 dX8_meanWait_54 rfl (lv_at hl 1 rfl) ?_
  refine lv_if_ne (tgt := 62) C.1 C.2.1 dX8_meanWait_55 (by decide) (fun c_55 => ?_) (fun c_55 => ?_)
  · rw [if_neg c_55] at hf
    refine lv_iload_n C.1 C.2.1 dX8_meanWait_62 rfl (lv_at hl 0 rfl) ?_
    refine lv_i2d C.1 C.2.1 dX8_meanWait_63 ?_
    refine lv_iload_n C.1 C.2.1 dX8_meanWait_64 rfl (lv_at hl 1 rfl) ?_
    refine lv_i2d C.1 C.2.1 dX8_meanWait_65 ?_
    obtain ⟨g_66, hf⟩ := gd hf
    refine lv_ddiv C.1 C.2.1 dX8_meanWait_66 (nd64 g_66) ?_
    exact w_X8_meanWait_67 C _ (FP.ddiv (FP.i2d v1) (FP.i2d v2)) _ _ _ S (lv_sub hl [] rfl) hf
  · rw [if_pos c_55] at hf
    refine lv_dconst0 C.1 C.2.1 dX8_meanWait_58 ?_
    refine lv_goto (tgt := 67) C.1 C.2.1 dX8_meanWait_59 (by decide) ?_
    exact w_X8_meanWait_67 C _ FP.dconst0 _ _ _ S (lv_sub hl [] rfl) hf
set_option maxHeartbeats 4000000 in
set_option maxRecDepth 100000 in
theorem w_X8_meanWait_48 {p : Program} {l : Launch} {e : Env} {s : State} {m : MethodId} {args : Array Value} {below : List Frame} {meth : Method} {c : Code} {G : Gx} {ad : Ad} {res : UInt64 × Sg} (C : Cx p s m args meth c yX8_meanWait.cls cX8_meanWait 4 (Option.some FieldType.double) G) (k11 : Sg → Int32 → Int32 → Int32 → Option (UInt64 × Sg)) (hk11 : ∀ (σ : Sg) (v1 : Int32) (v2 : Int32) (v3 : Int32) (H : Heap) (locs : List Loc) (ls : Array Slot), z_S 1 G ad σ (z_A 1 ad s.heap.size) s.heap H locs → lv_has ls 4 [(0, .ref (ad 8 0)), (1, .int v1), (2, .int v2), (3, .int v3)] → k11 σ v1 v2 v3 = some res → W p l e { frames := 1, cells := 0, slots := 0, locals := 21 } s m args below meth c H locs 0 0 (MQ below (va_Qd (S := Unit) (fun r1 _ => r1 = res.1) (fun _ t => z_W 1 G ad res.2 t.heap) (z_A 1 ad s.heap.size)) args s 0 0 (z_A 1 ad s.heap.size)) (F0 m 11 ls [])) : ∀ (σ : Sg) (v1 : Int32) (v2 : Int32) (v3 : Int32) (H : Heap) (locs : List Loc) (ls : Array Slot), z_S 1 G ad σ (z_A 1 ad s.heap.size) s.heap H locs → lv_has ls 4 [(0, .ref (ad 8 0)), (1, .int v1), (2, .int v2), (3, .int v3)] → f_X8_meanWait_48 k11 σ v1 v2 v3 = some res → W p l e { frames := 1, cells := 0, slots := 0, locals := 21 } s m args below meth c H locs 0 0 (MQ below (va_Qd (S := Unit) (fun r1 _ => r1 = res.1) (fun _ t => z_W 1 G ad res.2 t.heap) (z_A 1 ad s.heap.size)) args s 0 0 (z_A 1 ad s.heap.size)) (F0 m 48 ls []) := by
  intro σ v1 v2 v3 H locs ls S hl  hf
  unfold f_X8_meanWait_48 at hf
  refine lv_iinc (v := (v3 + 1)) (lv' := [(3, .int (v3 + 1)), (0, .ref (ad 8 0)), (1, .int v1), (2, .int v2)]) C.1 C.2.1 dX8_meanWait_48 hl (k := 3) rfl rfl (by decide) rfl (fun ls hl => ?_)
  refine lv_goto (tgt := 11) C.1 C.2.1 dX8_meanWait_51 (by decide) ?_
  exact hk11 _ v1 v2 (v3 + 1) _ _ _ S (lv_sub hl [1, 2, 3, 0] rfl)  hf
set_option maxHeartbeats 4000000 in
set_option maxRecDepth 100000 in
theorem w_X8_meanWait_11 {p : Program} {l : Launch} {e : Env} {s : State} {m : MethodId} {args : Array Value} {below : List Frame} {meth : Method} {c : Code} {G : Gx} {ad : Ad} {res : UInt64 × Sg} (C : Cx p s m args meth c yX8_meanWait.cls cX8_meanWait 4 (Option.some FieldType.double) G)  : ∀ n : Nat, ∀ (σ : Sg) (v1 : Int32) (v2 : Int32) (v3 : Int32) (H : Heap) (locs : List Loc) (ls : Array Slot), z_S 1 G ad σ (z_A 1 ad s.heap.size) s.heap H locs → lv_has ls 4 [(0, .ref (ad 8 0)), (1, .int v1), (2, .int v2), (3, .int v3)] → f_X8_meanWait_11  n σ v1 v2 v3 = some res → W p l e { frames := 1, cells := 0, slots := 0, locals := 21 } s m args below meth c H locs 0 0 (MQ below (va_Qd (S := Unit) (fun r1 _ => r1 = res.1) (fun _ t => z_W 1 G ad res.2 t.heap) (z_A 1 ad s.heap.size)) args s 0 0 (z_A 1 ad s.heap.size)) (F0 m 11 ls []) := by
  intro n
  induction n with
  | zero => intro σ v1 v2 v3 H locs ls S hl  hf; cases hf
  | succ n ih =>
    intro σ v1 v2 v3 H locs ls S hl  hf
    rw [f_X8_meanWait_11_s] at hf
    refine lv_iload_n C.1 C.2.1 dX8_meanWait_11 rfl (lv_at hl 3 rfl) ?_
    refine lv_aload_n C.1 C.2.1 dX8_meanWait_12 rfl (lv_at hl 0 rfl) ?_
    refine z_getR C S 8 0 rfl (by decide) cf_8 0 (by decide) _ (gr_8_0 G ad 0) tw_6_118 dX8_meanWait_13 ?_
    refine lv_iconst (v := 2) C.1 C.2.1 dX8_meanWait_16 (by decide) ?_
    refine z_ialdL C S 30 0 rfl (by decide) 2111 (fun _ => rfl) 2 (by decide) (by decide) (by decide) dX8_meanWait_17 ?_
    refine lv_icmp_ge (tgt := 54) C.1 C.2.1 dX8_meanWait_18 (by decide) (fun c_18 => ?_) (fun c_18 => ?_)
    · rw [if_pos c_18] at hf
      exact w_X8_meanWait_54 C _ v1 v2 _ _ _ S (lv_sub hl [1, 2] rfl) hf
    · rw [if_neg c_18] at hf
      refine lv_aload_n C.1 C.2.1 dX8_meanWait_21 rfl (lv_at hl 0 rfl) ?_
      refine z_getR C S 8 0 rfl (by decide) cf_8 0 (by decide) _ (gr_8_0 G ad 0) tw_6_118 dX8_meanWait_22 ?_
      refine lv_bipush (v := 127) C.1 C.2.1 dX8_meanWait_25 (by decide) ?_
      refine lv_iload_n C.1 C.2.1 dX8_meanWait_27 rfl (lv_at hl 3 rfl) ?_
      refine lv_iadd C.1 C.2.1 dX8_meanWait_28 ?_
      obtain ⟨g_29, hf⟩ := gd hf
      refine z_iald C S 30 0 rfl (by decide) 2111 (fun _ => rfl) g_29 dX8_meanWait_29 ?_
      refine lv_iconst (v := 2) C.1 C.2.1 dX8_meanWait_30 (by decide) ?_
      refine lv_icmp_ge (tgt := 37) C.1 C.2.1 dX8_meanWait_31 (by decide) (fun c_31 => ?_) (fun c_31 => ?_)
      · rw [if_pos c_31] at hf
        refine lv_iload_n C.1 C.2.1 dX8_meanWait_37 rfl (lv_at hl 1 rfl) ?_
        refine lv_aload_n C.1 C.2.1 dX8_meanWait_38 rfl (lv_at hl 0 rfl) ?_
        refine lv_iload_n C.1 C.2.1 dX8_meanWait_39 rfl (lv_at hl 3 rfl) ?_
        obtain ⟨r2, σ1, q_40, hf⟩ := bib hf
        refine z_callI C S 8 0 rfl (by decide) cf_8 ⟨_, rfl⟩ [.int v3] (m_X8_waitNow l G ad σ v3 r2 σ1 q_40 _) kv_X8_waitNow tw_7_103 ⟨Nat.le_of_ble_eq_true rfl, Nat.le_of_ble_eq_true rfl⟩ rfl rfl (Nat.le_of_ble_eq_true rfl) hl.1 ⟨Nat.le_of_ble_eq_true rfl, Nat.le_of_ble_eq_true rfl⟩ dX8_meanWait_40 (fun H locs S => ?_)
        refine lv_iadd C.1 C.2.1 dX8_meanWait_43 ?_
        refine lv_istore_n (lv' := [(1, .int (v1 + r2)), (0, .ref (ad 8 0)), (2, .int v2), (3, .int v3)]) C.1 C.2.1 dX8_meanWait_44 rfl hl (by decide) rfl (fun ls hl => ?_)
        refine lv_iinc (v := (v2 + 1)) (lv' := [(2, .int (v2 + 1)), (1, .int (v1 + r2)), (0, .ref (ad 8 0)), (3, .int v3)]) C.1 C.2.1 dX8_meanWait_45 hl (k := 2) rfl rfl (by decide) rfl (fun ls hl => ?_)
        exact w_X8_meanWait_48 C (f_X8_meanWait_11 n) ih _ (v1 + r2) (v2 + 1) v3 _ _ _ S (lv_sub hl [2, 1, 0, 3] rfl) hf
      · rw [if_neg c_31] at hf
        refine lv_goto (tgt := 48) C.1 C.2.1 dX8_meanWait_34 (by decide) ?_
        exact w_X8_meanWait_48 C (f_X8_meanWait_11 n) ih _ v1 v2 v3 _ _ _ S (lv_sub hl [0, 1, 2, 3] rfl) hf
set_option maxHeartbeats 4000000 in
set_option maxRecDepth 100000 in
theorem w_X8_meanWait_0 {p : Program} {l : Launch} {e : Env} {s : State} {m : MethodId} {args : Array Value} {below : List Frame} {meth : Method} {c : Code} {G : Gx} {ad : Ad} {res : UInt64 × Sg} (C : Cx p s m args meth c yX8_meanWait.cls cX8_meanWait 4 (Option.some FieldType.double) G)  : ∀ (σ : Sg)  (H : Heap) (locs : List Loc) (ls : Array Slot), z_S 1 G ad σ (z_A 1 ad s.heap.size) s.heap H locs → lv_has ls 4 [(0, .ref (ad 8 0))] → f_X8_meanWait  σ  = some res → W p l e { frames := 1, cells := 0, slots := 0, locals := 21 } s m args below meth c H locs 0 0 (MQ below (va_Qd (S := Unit) (fun r1 _ => r1 = res.1) (fun _ t => z_W 1 G ad res.2 t.heap) (z_A 1 ad s.heap.size)) args s 0 0 (z_A 1 ad s.heap.size)) (F0 m 0 ls []) := by
  intro σ  H locs ls S hl  hf
  unfold f_X8_meanWait at hf
  refine lv_aload_n C.1 C.2.1 dX8_meanWait_0 rfl (lv_at hl 0 rfl) ?_
  refine lv_iconst (v := 0) C.1 C.2.1 dX8_meanWait_1 (by decide) ?_
  obtain ⟨σ1, e_2, hf⟩ := stb hf
  refine z_putI C S 8 0 rfl (by decide) cf_8 8 (by decide) (pi_8_8 G ad 0) rfl rfl rfl tw_6_126 dX8_meanWait_2 (fun H locs S => ?_)
  rw [← e_2] at S
  refine lv_iconst (v := 0) C.1 C.2.1 dX8_meanWait_5 (by decide) ?_
  refine lv_istore_n (lv' := [(1, .int 0), (0, .ref (ad 8 0))]) C.1 C.2.1 dX8_meanWait_6 rfl hl (by decide) rfl (fun ls hl => ?_)
  refine lv_iconst (v := 0) C.1 C.2.1 dX8_meanWait_7 (by decide) ?_
  refine lv_istore_n (lv' := [(2, .int 0), (1, .int 0), (0, .ref (ad 8 0))]) C.1 C.2.1 dX8_meanWait_8 rfl hl (by decide) rfl (fun ls hl => ?_)
  refine lv_iconst (v := 0) C.1 C.2.1 dX8_meanWait_9 (by decide) ?_
  refine lv_istore_n (lv' := [(3, .int 0), (2, .int 0), (1, .int 0), (0, .ref (ad 8 0))]) C.1 C.2.1 dX8_meanWait_10 rfl hl (by decide) rfl (fun ls hl => ?_)
  exact w_X8_meanWait_11 C FU _ 0 0 0 _ _ _ S (lv_sub hl [3, 2, 1, 0] rfl) hf
theorem kv_X8_meanWait : KV yX8_meanWait cX8_meanWait 4 (Option.some FieldType.double) 0 := ⟨tw_8_64, tw_8_62, tw_8_63, tw_1_10, by decide, by decide, by decide +kernel⟩
theorem m_X8_meanWait (l : Launch) (G : Gx) (ad : Ad) (σ : Sg)  (r : UInt64) (σ' : Sg)  (hf : f_X8_meanWait σ  = some (r, σ')) (sz : Nat) : z_MD l yX8_meanWait cX8_meanWait 4 (Option.some FieldType.double) 1 21 1 G ad σ sz [.ref (ad 8 0)] r σ' := by
  refine z_begin (by decide +kernel) (Nat.le_of_ble_eq_true rfl) [(0, .ref (ad 8 0))] rfl (fun p e s m args below meth c ls C hz S hl => ?_)
  subst hz
  exact w_X8_meanWait_0 (res := (r, σ')) C σ  _ _ _ S hl  hf

theorem dX8_meanRide_0 : decode cX8_meanRide 0 = .ok (.aload_n 0, 1) := by decide +kernel
theorem dX8_meanRide_1 : decode cX8_meanRide 1 = .ok (.iconst 0, 1) := by decide +kernel
theorem dX8_meanRide_2 : decode cX8_meanRide 2 = .ok (.putfield 48, 3) := by decide +kernel
theorem dX8_meanRide_5 : decode cX8_meanRide 5 = .ok (.iconst 0, 1) := by decide +kernel
theorem dX8_meanRide_6 : decode cX8_meanRide 6 = .ok (.istore_n 1, 1) := by decide +kernel
theorem dX8_meanRide_7 : decode cX8_meanRide 7 = .ok (.iconst 0, 1) := by decide +kernel
theorem dX8_meanRide_8 : decode cX8_meanRide 8 = .ok (.istore_n 2, 1) := by decide +kernel
theorem dX8_meanRide_9 : decode cX8_meanRide 9 = .ok (.iload_n 2, 1) := by decide +kernel
theorem dX8_meanRide_10 : decode cX8_meanRide 10 = .ok (.aload_n 0, 1) := by decide +kernel
theorem dX8_meanRide_11 : decode cX8_meanRide 11 = .ok (.getfield 7, 3) := by decide +kernel
theorem dX8_meanRide_14 : decode cX8_meanRide 14 = .ok (.iconst 2, 1) := by decide +kernel
theorem dX8_meanRide_15 : decode cX8_meanRide 15 = .ok (.iaload, 1) := by decide +kernel
theorem dX8_meanRide_16 : decode cX8_meanRide 16 = .ok (.if_icmp .ge 50, 3) := by decide +kernel
theorem dX8_meanRide_19 : decode cX8_meanRide 19 = .ok (.iload_n 1, 1) := by decide +kernel
theorem dX8_meanRide_20 : decode cX8_meanRide 20 = .ok (.aload_n 0, 1) := by decide +kernel
theorem dX8_meanRide_21 : decode cX8_meanRide 21 = .ok (.getfield 7, 3) := by decide +kernel
theorem dX8_meanRide_24 : decode cX8_meanRide 24 = .ok (.bipush 127, 2) := by decide +kernel
theorem dX8_meanRide_26 : decode cX8_meanRide 26 = .ok (.iload_n 2, 1) := by decide +kernel
theorem dX8_meanRide_27 : decode cX8_meanRide 27 = .ok (.iadd, 1) := by decide +kernel
theorem dX8_meanRide_28 : decode cX8_meanRide 28 = .ok (.iaload, 1) := by decide +kernel
theorem dX8_meanRide_29 : decode cX8_meanRide 29 = .ok (.iconst 3, 1) := by decide +kernel
theorem dX8_meanRide_30 : decode cX8_meanRide 30 = .ok (.if_icmp .ne 27, 3) := by decide +kernel
theorem dX8_meanRide_33 : decode cX8_meanRide 33 = .ok (.aload_n 0, 1) := by decide +kernel
theorem dX8_meanRide_34 : decode cX8_meanRide 34 = .ok (.getfield 7, 3) := by decide +kernel
theorem dX8_meanRide_37 : decode cX8_meanRide 37 = .ok (.sipush 199, 3) := by decide +kernel
theorem dX8_meanRide_40 : decode cX8_meanRide 40 = .ok (.iload_n 2, 1) := by decide +kernel
theorem dX8_meanRide_41 : decode cX8_meanRide 41 = .ok (.iadd, 1) := by decide +kernel
theorem dX8_meanRide_42 : decode cX8_meanRide 42 = .ok (.iaload, 1) := by decide +kernel
theorem dX8_meanRide_43 : decode cX8_meanRide 43 = .ok (.aload_n 0, 1) := by decide +kernel
theorem dX8_meanRide_44 : decode cX8_meanRide 44 = .ok (.getfield 7, 3) := by decide +kernel
theorem dX8_meanRide_47 : decode cX8_meanRide 47 = .ok (.sipush 175, 3) := by decide +kernel
theorem dX8_meanRide_50 : decode cX8_meanRide 50 = .ok (.iload_n 2, 1) := by decide +kernel
theorem dX8_meanRide_51 : decode cX8_meanRide 51 = .ok (.iadd, 1) := by decide +kernel
theorem dX8_meanRide_52 : decode cX8_meanRide 52 = .ok (.iaload, 1) := by decide +kernel
theorem dX8_meanRide_53 : decode cX8_meanRide 53 = .ok (.isub, 1) := by decide +kernel
theorem dX8_meanRide_54 : decode cX8_meanRide 54 = .ok (.goto 4, 3) := by decide +kernel
theorem dX8_meanRide_57 : decode cX8_meanRide 57 = .ok (.iconst 0, 1) := by decide +kernel
theorem dX8_meanRide_58 : decode cX8_meanRide 58 = .ok (.iadd, 1) := by decide +kernel
theorem dX8_meanRide_59 : decode cX8_meanRide 59 = .ok (.istore_n 1, 1) := by decide +kernel
theorem dX8_meanRide_60 : decode cX8_meanRide 60 = .ok (.iinc 2 1, 3) := by decide +kernel
theorem dX8_meanRide_63 : decode cX8_meanRide 63 = .ok (.goto (-54), 3) := by decide +kernel
theorem dX8_meanRide_66 : decode cX8_meanRide 66 = .ok (.aload_n 0, 1) := by decide +kernel
theorem dX8_meanRide_67 : decode cX8_meanRide 67 = .ok (.iconst 3, 1) := by decide +kernel
theorem dX8_meanRide_68 : decode cX8_meanRide 68 = .ok (.invokevirtual 153, 3) := by decide +kernel
theorem dX8_meanRide_71 : decode cX8_meanRide 71 = .ok (.istore_n 2, 1) := by decide +kernel
theorem dX8_meanRide_72 : decode cX8_meanRide 72 = .ok (.iload_n 2, 1) := by decide +kernel
theorem dX8_meanRide_73 : decode cX8_meanRide 73 = .ok (.ifCond .ne 7, 3) := by decide +kernel
theorem dX8_meanRide_76 : decode cX8_meanRide 76 = .ok (.dconst 0, 1) := by decide +kernel
theorem dX8_meanRide_77 : decode cX8_meanRide 77 = .ok (.goto 8, 3) := by decide +kernel
theorem dX8_meanRide_80 : decode cX8_meanRide 80 = .ok (.iload_n 1, 1) := by decide +kernel
theorem dX8_meanRide_81 : decode cX8_meanRide 81 = .ok (.i2d, 1) := by decide +kernel
theorem dX8_meanRide_82 : decode cX8_meanRide 82 = .ok (.iload_n 2, 1) := by decide +kernel
theorem dX8_meanRide_83 : decode cX8_meanRide 83 = .ok (.i2d, 1) := by decide +kernel
theorem dX8_meanRide_84 : decode cX8_meanRide 84 = .ok (.ddiv, 1) := by decide +kernel
theorem dX8_meanRide_85 : decode cX8_meanRide 85 = .ok (.dreturn, 1) := by decide +kernel
/-! BusLiftsModel.meanRide()D -/
noncomputable def f_X8_meanRide_85  (σ : Sg) (v100 : UInt64) : Option (UInt64 × Sg) := some (v100, σ)
noncomputable def f_X8_meanRide_66  (σ : Sg) (v1 : Int32) : Option (UInt64 × Sg) := bi (f_X8_inState σ 3) fun r2 σ1 => (if r2 = 0 then (f_X8_meanRide_85 σ1 FP.dconst0) else (if ¬ ((FP.ddiv (FP.i2d v1) (FP.i2d r2)) &&& 0x7fffffffffffffff ≤ 0x7ff0000000000000) then none else (f_X8_meanRide_85 σ1 (FP.ddiv (FP.i2d v1) (FP.i2d r2)))))
noncomputable def f_X8_meanRide_58 (k9 : Sg → Int32 → Int32 → Option (UInt64 × Sg)) (σ : Sg) (v2 : Int32) (v100 : Int32) (v101 : Int32) : Option (UInt64 × Sg) := k9 σ (v100 + v101) (v2 + 1)
noncomputable def f_X8_meanRide_9  : Nat → Sg → Int32 → Int32 → Option (UInt64 × Sg)
  | 0, _, _, _ => none
  | n + 1, σ, v1, v2 => if (σ 30 0 2) ≤ v2 then (f_X8_meanRide_66 σ v1) else (if (127 + v2) < 0 ∨ 2111 ≤ ((127 + v2)).toNatClampNeg then none else (if (σ 30 0 ((127 + v2)).toNatClampNeg) = 3 then (if (199 + v2) < 0 ∨ 2111 ≤ ((199 + v2)).toNatClampNeg then none else (if (175 + v2) < 0 ∨ 2111 ≤ ((175 + v2)).toNatClampNeg then none else (f_X8_meanRide_58 (f_X8_meanRide_9 n) σ v2 v1 ((σ 30 0 ((199 + v2)).toNatClampNeg) - (σ 30 0 ((175 + v2)).toNatClampNeg))))) else (f_X8_meanRide_58 (f_X8_meanRide_9 n) σ v2 v1 0)))
theorem f_X8_meanRide_9_s  (n : Nat) (σ : Sg) (v1 : Int32) (v2 : Int32) : f_X8_meanRide_9  (n + 1) σ v1 v2 = (if (σ 30 0 2) ≤ v2 then (f_X8_meanRide_66 σ v1) else (if (127 + v2) < 0 ∨ 2111 ≤ ((127 + v2)).toNatClampNeg then none else (if (σ 30 0 ((127 + v2)).toNatClampNeg) = 3 then (if (199 + v2) < 0 ∨ 2111 ≤ ((199 + v2)).toNatClampNeg then none else (if (175 + v2) < 0 ∨ 2111 ≤ ((175 + v2)).toNatClampNeg then none else (f_X8_meanRide_58 (f_X8_meanRide_9 n) σ v2 v1 ((σ 30 0 ((199 + v2)).toNatClampNeg) - (σ 30 0 ((175 + v2)).toNatClampNeg))))) else (f_X8_meanRide_58 (f_X8_meanRide_9 n) σ v2 v1 0)))) := rfl
noncomputable def f_X8_meanRide  (σ : Sg)  : Option (UInt64 × Sg) := st (sup σ 8 0 8 0) fun σ1 => (f_X8_meanRide_9 FU σ1 0 0)
set_option maxHeartbeats 4000000 in
set_option maxRecDepth 100000 in
theorem w_X8_meanRide_85 {p : Program} {l : Launch} {e : Env} {s : State} {m : MethodId} {args : Array Value} {below : List Frame} {meth : Method} {c : Code} {G : Gx} {ad : Ad} {res : UInt64 × Sg} (C : Cx p s m args meth c yX8_meanRide.cls cX8_meanRide 3 (Option.some FieldType.double) G)  : ∀ (σ : Sg) (v100 : UInt64) (H : Heap) (locs : List Loc) (ls : Array Slot), z_S 1 G ad σ (z_A 1 ad s.heap.size) s.heap H locs → lv_has ls 3 [] → f_X8_meanRide_85  σ v100 = some res → W p l e { frames := 1, cells := 0, slots := 0, locals := 23 } s m args below meth c H locs 0 0 (MQ below (va_Qd (S := Unit) (fun r1 _ => r1 = res.1) (fun _ t => z_W 1 G ad res.2 t.heap) (z_A 1 ad s.heap.size)) args s 0 0 (z_A 1 ad s.heap.size)) (F0 m 85 ls [.double v100]) := by
  intro σ v100 H locs ls S hl  hf
  unfold f_X8_meanRide_85 at hf
  exact z_dret C S hf dX8_meanRide_85
set_option maxHeartbeats 4000000 in
set_option maxRecDepth 100000 in
theorem w_X8_meanRide_66 {p : Program} {l : Launch} {e : Env} {s : State} {m : MethodId} {args : Array Value} {below : List Frame} {meth : Method} {c : Code} {G : Gx} {ad : Ad} {res : UInt64 × Sg} (C : Cx p s m args meth c yX8_meanRide.cls cX8_meanRide 3 (Option.some FieldType.double) G)  : ∀ (σ : Sg) (v1 : Int32) (H : Heap) (locs : List Loc) (ls : Array Slot), z_S 1 G ad σ (z_A 1 ad s.heap.size) s.heap H locs → lv_has ls 3 [(0, .ref (ad 8 0)), (1, .int v1)] → f_X8_meanRide_66  σ v1 = some res → W p l e { frames := 1, cells := 0, slots := 0, locals := 23 } s m args below meth c H locs 0 0 (MQ below (va_Qd (S := Unit) (fun r1 _ => r1 = res.1) (fun _ t => z_W 1 G ad res.2 t.heap) (z_A 1 ad s.heap.size)) args s 0 0 (z_A 1 ad s.heap.size)) (F0 m 66 ls []) := by
  intro σ v1 H locs ls S hl  hf
  unfold f_X8_meanRide_66 at hf
  refine lv_aload_n C.1 C.2.1 dX8_meanRide_66 rfl (lv_at hl 0 rfl) ?_
  refine lv_iconst (v := 3) C.1 C.2.1 dX8_meanRide_67 (by decide) ?_
  obtain ⟨r2, σ1, q_68, hf⟩ := bib hf
  refine z_callI C S 8 0 rfl (by decide) cf_8 ⟨_, rfl⟩ [.int 3] (m_X8_inState l G ad σ 3 r2 σ1 q_68 _) kv_X8_inState tw_7_60 ⟨Nat.le_of_ble_eq_true rfl, Nat.le_of_ble_eq_true rfl⟩ rfl rfl (Nat.le_of_ble_eq_true rfl) hl.1 ⟨Nat.le_of_ble_eq_true rfl, Nat.le_of_ble_eq_true rfl⟩ dX8_meanRide_68 (fun H locs S => ?_)
  refine lv_istore_n (lv' := [(2, .int r2), (0, .ref (ad 8 0)), (1, .int v1)]) C.1 C.2.1 dX8_meanRide_71 rfl hl (by decide) rfl (fun ls hl => ?_)
  refine lv_iload_n C.1 C.2.1 dX8_meanRide_72 rfl (lv_at hl 0 rfl) ?_
  refine lv_if_ne (tgt := 80) C.1 C.2.1 dX8_meanRide_73 (by decide) (fun c_73 => ?_) (fun c_73 => ?_)
  · rw [if_neg c_73] at hf
    refine lv_iload_n C.1 C.2.1 dX8_meanRide_80 rfl (lv_at hl 2 rfl) ?_
    refine lv_i2d C.1 C.2.1 dX8_meanRide_81 ?_
    refine lv_iload_n C.1 C.2.1 dX8_meanRide_82 rfl (lv_at hl 0 rfl) ?_
    refine lv_i2d C.1 C.2.1 dX8_meanRide_83 ?_
    obtain ⟨g_84, hf⟩ := gd hf
    refine lv_ddiv C.1 C.2.1 dX8_meanRide_84 (nd64 g_84) ?_
    exact w_X8_meanRide_85 C _ (FP.ddiv (FP.i2d v1) (FP.i2d r2)) _ _ _ S (lv_sub hl [] rfl) hf
  · rw [if_pos c_73] at hf
    refine lv_dconst0 C.1 C.2.1 dX8_meanRide_76 ?_
    refine lv_goto (tgt := 85) C.1 C.2.1 dX8_meanRide_77 (by decide) ?_
    exact w_X8_meanRide_85 C _ FP.dconst0 _ _ _ S (lv_sub hl [] rfl) hf
set_option maxHeartbeats 4000000 in
set_option maxRecDepth 100000 in
theorem w_X8_meanRide_58 {p : Program} {l : Launch} {e : Env} {s : State} {m : MethodId} {args : Array Value} {below : List Frame} {meth : Method} {c : Code} {G : Gx} {ad : Ad} {res : UInt64 × Sg} (C : Cx p s m args meth c yX8_meanRide.cls cX8_meanRide 3 (Option.some FieldType.double) G) (k9 : Sg → Int32 → Int32 → Option (UInt64 × Sg)) (hk9 : ∀ (σ : Sg) (v1 : Int32) (v2 : Int32) (H : Heap) (locs : List Loc) (ls : Array Slot), z_S 1 G ad σ (z_A 1 ad s.heap.size) s.heap H locs → lv_has ls 3 [(0, .ref (ad 8 0)), (1, .int v1), (2, .int v2)] → k9 σ v1 v2 = some res → W p l e { frames := 1, cells := 0, slots := 0, locals := 23 } s m args below meth c H locs 0 0 (MQ below (va_Qd (S := Unit) (fun r1 _ => r1 = res.1) (fun _ t => z_W 1 G ad res.2 t.heap) (z_A 1 ad s.heap.size)) args s 0 0 (z_A 1 ad s.heap.size)) (F0 m 9 ls [])) : ∀ (σ : Sg) (v2 : Int32) (v100 : Int32) (v101 : Int32) (H : Heap) (locs : List Loc) (ls : Array Slot), z_S 1 G ad σ (z_A 1 ad s.heap.size) s.heap H locs → lv_has ls 3 [(0, .ref (ad 8 0)), (2, .int v2)] → f_X8_meanRide_58 k9 σ v2 v100 v101 = some res → W p l e { frames := 1, cells := 0, slots := 0, locals := 23 } s m args below meth c H locs 0 0 (MQ below (va_Qd (S := Unit) (fun r1 _ => r1 = res.1) (fun _ t => z_W 1 G ad res.2 t.heap) (z_A 1 ad s.heap.size)) args s 0 0 (z_A 1 ad s.heap.size)) (F0 m 58 ls [.int v101, .int v100]) := by
  intro σ v2 v100 v101 H locs ls S hl  hf
  unfold f_X8_meanRide_58 at hf
  refine lv_iadd C.1 C.2.1 dX8_meanRide_58 ?_
  refine lv_istore_n (lv' := [(1, .int (v100 + v101)), (0, .ref (ad 8 0)), (2, .int v2)]) C.1 C.2.1 dX8_meanRide_59 rfl hl (by decide) rfl (fun ls hl => ?_)
  refine lv_iinc (v := (v2 + 1)) (lv' := [(2, .int (v2 + 1)), (1, .int (v100 + v101)), (0, .ref (ad 8 0))]) C.1 C.2.1 dX8_meanRide_60 hl (k := 2) rfl rfl (by decide) rfl (fun ls hl => ?_)
  refine lv_goto (tgt := 9) C.1 C.2.1 dX8_meanRide_63 (by decide) ?_
  exact hk9 _ (v100 + v101) (v2 + 1) _ _ _ S (lv_sub hl [2, 1, 0] rfl)  hf
set_option maxHeartbeats 4000000 in
set_option maxRecDepth 100000 in
theorem w_X8_meanRide_9 {p : Program} {l : Launch} {e : Env} {s : State} {m : MethodId} {args : Array Value} {below : List Frame} {meth : Method} {c : Code} {G : Gx} {ad : Ad} {res : UInt64 × Sg} (C : Cx p s m args meth c yX8_meanRide.cls cX8_meanRide 3 (Option.some FieldType.double) G)  : ∀ n : Nat, ∀ (σ : Sg) (v1 : Int32) (v2 : Int32) (H : Heap) (locs : List Loc) (ls : Array Slot), z_S 1 G ad σ (z_A 1 ad s.heap.size) s.heap H locs → lv_has ls 3 [(0, .ref (ad 8 0)), (1, .int v1), (2, .int v2)] → f_X8_meanRide_9  n σ v1 v2 = some res → W p l e { frames := 1, cells := 0, slots := 0, locals := 23 } s m args below meth c H locs 0 0 (MQ below (va_Qd (S := Unit) (fun r1 _ => r1 = res.1) (fun _ t => z_W 1 G ad res.2 t.heap) (z_A 1 ad s.heap.size)) args s 0 0 (z_A 1 ad s.heap.size)) (F0 m 9 ls []) := by
  intro n
  induction n with
  | zero => intro σ v1 v2 H locs ls S hl  hf; cases hf
  | succ n ih =>
    intro σ v1 v2 H locs ls S hl  hf
    rw [f_X8_meanRide_9_s] at hf
    refine lv_iload_n C.1 C.2.1 dX8_meanRide_9 rfl (lv_at hl 2 rfl) ?_
    refine lv_aload_n C.1 C.2.1 dX8_meanRide_10 rfl (lv_at hl 0 rfl) ?_
    refine z_getR C S 8 0 rfl (by decide) cf_8 0 (by decide) _ (gr_8_0 G ad 0) tw_6_118 dX8_meanRide_11 ?_
    refine lv_iconst (v := 2) C.1 C.2.1 dX8_meanRide_14 (by decide) ?_
    refine z_ialdL C S 30 0 rfl (by decide) 2111 (fun _ => rfl) 2 (by decide) (by decide) (by decide) dX8_meanRide_15 ?_
    refine lv_icmp_ge (tgt := 66) C.1 C.2.1 dX8_meanRide_16 (by decide) (fun c_16 => ?_) (fun c_16 => ?_)
    · rw [if_pos c_16] at hf
      exact w_X8_meanRide_66 C _ v1 _ _ _ S (lv_sub hl [0, 1] rfl) hf
    · rw [if_neg c_16] at hf
      refine lv_iload_n C.1 C.2.1 dX8_meanRide_19 rfl (lv_at hl 1 rfl) ?_
      refine lv_aload_n C.1 C.2.1 dX8_meanRide_20 rfl (lv_at hl 0 rfl) ?_
      refine z_getR C S 8 0 rfl (by decide) cf_8 0 (by decide) _ (gr_8_0 G ad 0) tw_6_118 dX8_meanRide_21 ?_
      refine lv_bipush (v := 127) C.1 C.2.1 dX8_meanRide_24 (by decide) ?_
      refine lv_iload_n C.1 C.2.1 dX8_meanRide_26 rfl (lv_at hl 2 rfl) ?_
      refine lv_iadd C.1 C.2.1 dX8_meanRide_27 ?_
      obtain ⟨g_28, hf⟩ := gd hf
      refine z_iald C S 30 0 rfl (by decide) 2111 (fun _ => rfl) g_28 dX8_meanRide_28 ?_
      refine lv_iconst (v := 3) C.1 C.2.1 dX8_meanRide_29 (by decide) ?_
      refine lv_icmp_ne (tgt := 57) C.1 C.2.1 dX8_meanRide_30 (by decide) (fun c_30 => ?_) (fun c_30 => ?_)
      · rw [if_neg c_30] at hf
        refine lv_iconst (v := 0) C.1 C.2.1 dX8_meanRide_57 (by decide) ?_
        exact w_X8_meanRide_58 C (f_X8_meanRide_9 n) ih _ v2 v1 0 _ _ _ S (lv_sub hl [0, 2] rfl) hf
      · rw [if_pos c_30] at hf
        refine lv_aload_n C.1 C.2.1 dX8_meanRide_33 rfl (lv_at hl 0 rfl) ?_
        refine z_getR C S 8 0 rfl (by decide) cf_8 0 (by decide) _ (gr_8_0 G ad 0) tw_6_118 dX8_meanRide_34 ?_
        refine lv_sipush (v := 199) C.1 C.2.1 dX8_meanRide_37 (by decide) ?_
        refine lv_iload_n C.1 C.2.1 dX8_meanRide_40 rfl (lv_at hl 2 rfl) ?_
        refine lv_iadd C.1 C.2.1 dX8_meanRide_41 ?_
        obtain ⟨g_42, hf⟩ := gd hf
        refine z_iald C S 30 0 rfl (by decide) 2111 (fun _ => rfl) g_42 dX8_meanRide_42 ?_
        refine lv_aload_n C.1 C.2.1 dX8_meanRide_43 rfl (lv_at hl 0 rfl) ?_
        refine z_getR C S 8 0 rfl (by decide) cf_8 0 (by decide) _ (gr_8_0 G ad 0) tw_6_118 dX8_meanRide_44 ?_
        refine lv_sipush (v := 175) C.1 C.2.1 dX8_meanRide_47 (by decide) ?_
        refine lv_iload_n C.1 C.2.1 dX8_meanRide_50 rfl (lv_at hl 2 rfl) ?_
        refine lv_iadd C.1 C.2.1 dX8_meanRide_51 ?_
        obtain ⟨g_52, hf⟩ := gd hf
        refine z_iald C S 30 0 rfl (by decide) 2111 (fun _ => rfl) g_52 dX8_meanRide_52 ?_
        refine lv_isub C.1 C.2.1 dX8_meanRide_53 ?_
        refine lv_goto (tgt := 58) C.1 C.2.1 dX8_meanRide_54 (by decide) ?_
        exact w_X8_meanRide_58 C (f_X8_meanRide_9 n) ih _ v2 v1 ((σ 30 0 ((199 + v2)).toNatClampNeg) - (σ 30 0 ((175 + v2)).toNatClampNeg)) _ _ _ S (lv_sub hl [0, 2] rfl) hf
set_option maxHeartbeats 4000000 in
set_option maxRecDepth 100000 in
theorem w_X8_meanRide_0 {p : Program} {l : Launch} {e : Env} {s : State} {m : MethodId} {args : Array Value} {below : List Frame} {meth : Method} {c : Code} {G : Gx} {ad : Ad} {res : UInt64 × Sg} (C : Cx p s m args meth c yX8_meanRide.cls cX8_meanRide 3 (Option.some FieldType.double) G)  : ∀ (σ : Sg)  (H : Heap) (locs : List Loc) (ls : Array Slot), z_S 1 G ad σ (z_A 1 ad s.heap.size) s.heap H locs → lv_has ls 3 [(0, .ref (ad 8 0))] → f_X8_meanRide  σ  = some res → W p l e { frames := 1, cells := 0, slots := 0, locals := 23 } s m args below meth c H locs 0 0 (MQ below (va_Qd (S := Unit) (fun r1 _ => r1 = res.1) (fun _ t => z_W 1 G ad res.2 t.heap) (z_A 1 ad s.heap.size)) args s 0 0 (z_A 1 ad s.heap.size)) (F0 m 0 ls []) := by
  intro σ  H locs ls S hl  hf
  unfold f_X8_meanRide at hf
  refine lv_aload_n C.1 C.2.1 dX8_meanRide_0 rfl (lv_at hl 0 rfl) ?_
  refine lv_iconst (v := 0) C.1 C.2.1 dX8_meanRide_1 (by decide) ?_
  obtain ⟨σ1, e_2, hf⟩ := stb hf
  refine z_putI C S 8 0 rfl (by decide) cf_8 8 (by decide) (pi_8_8 G ad 0) rfl rfl rfl tw_6_126 dX8_meanRide_2 (fun H locs S => ?_)
  rw [← e_2] at S
  refine lv_iconst (v := 0) C.1 C.2.1 dX8_meanRide_5 (by decide) ?_
  refine lv_istore_n (lv' := [(1, .int 0), (0, .ref (ad 8 0))]) C.1 C.2.1 dX8_meanRide_6 rfl hl (by decide) rfl (fun ls hl => ?_)
  refine lv_iconst (v := 0) C.1 C.2.1 dX8_meanRide_7 (by decide) ?_
  refine lv_istore_n (lv' := [(2, .int 0), (1, .int 0), (0, .ref (ad 8 0))]) C.1 C.2.1 dX8_meanRide_8 rfl hl (by decide) rfl (fun ls hl => ?_)
  exact w_X8_meanRide_9 C FU _ 0 0 _ _ _ S (lv_sub hl [2, 1, 0] rfl) hf
theorem kv_X8_meanRide : KV yX8_meanRide cX8_meanRide 3 (Option.some FieldType.double) 0 := ⟨tw_8_120, tw_8_118, tw_8_119, tw_1_10, by decide, by decide, by decide +kernel⟩
theorem m_X8_meanRide (l : Launch) (G : Gx) (ad : Ad) (σ : Sg)  (r : UInt64) (σ' : Sg)  (hf : f_X8_meanRide σ  = some (r, σ')) (sz : Nat) : z_MD l yX8_meanRide cX8_meanRide 3 (Option.some FieldType.double) 1 23 1 G ad σ sz [.ref (ad 8 0)] r σ' := by
  refine z_begin (by decide +kernel) (Nat.le_of_ble_eq_true rfl) [(0, .ref (ad 8 0))] rfl (fun p e s m args below meth c ls C hz S hl => ?_)
  subst hz
  exact w_X8_meanRide_0 (res := (r, σ')) C σ  _ _ _ S hl  hf

theorem dX8_lateShare_0 : decode cX8_lateShare 0 = .ok (.aload_n 0, 1) := by decide +kernel
theorem dX8_lateShare_1 : decode cX8_lateShare 1 = .ok (.iconst 0, 1) := by decide +kernel
theorem dX8_lateShare_2 : decode cX8_lateShare 2 = .ok (.putfield 48, 3) := by decide +kernel
theorem dX8_lateShare_5 : decode cX8_lateShare 5 = .ok (.aload_n 0, 1) := by decide +kernel
theorem dX8_lateShare_6 : decode cX8_lateShare 6 = .ok (.getfield 7, 3) := by decide +kernel
theorem dX8_lateShare_9 : decode cX8_lateShare 9 = .ok (.iconst 2, 1) := by decide +kernel
theorem dX8_lateShare_10 : decode cX8_lateShare 10 = .ok (.iaload, 1) := by decide +kernel
theorem dX8_lateShare_11 : decode cX8_lateShare 11 = .ok (.aload_n 0, 1) := by decide +kernel
theorem dX8_lateShare_12 : decode cX8_lateShare 12 = .ok (.iconst 0, 1) := by decide +kernel
theorem dX8_lateShare_13 : decode cX8_lateShare 13 = .ok (.invokevirtual 153, 3) := by decide +kernel
theorem dX8_lateShare_16 : decode cX8_lateShare 16 = .ok (.isub, 1) := by decide +kernel
theorem dX8_lateShare_17 : decode cX8_lateShare 17 = .ok (.istore_n 1, 1) := by decide +kernel
theorem dX8_lateShare_18 : decode cX8_lateShare 18 = .ok (.iload_n 1, 1) := by decide +kernel
theorem dX8_lateShare_19 : decode cX8_lateShare 19 = .ok (.ifCond .ne 7, 3) := by decide +kernel
theorem dX8_lateShare_22 : decode cX8_lateShare 22 = .ok (.fconst 0, 1) := by decide +kernel
theorem dX8_lateShare_23 : decode cX8_lateShare 23 = .ok (.goto 11, 3) := by decide +kernel
theorem dX8_lateShare_26 : decode cX8_lateShare 26 = .ok (.aload_n 0, 1) := by decide +kernel
theorem dX8_lateShare_27 : decode cX8_lateShare 27 = .ok (.invokevirtual 315, 3) := by decide +kernel
theorem dX8_lateShare_30 : decode cX8_lateShare 30 = .ok (.i2f, 1) := by decide +kernel
theorem dX8_lateShare_31 : decode cX8_lateShare 31 = .ok (.iload_n 1, 1) := by decide +kernel
theorem dX8_lateShare_32 : decode cX8_lateShare 32 = .ok (.i2f, 1) := by decide +kernel
theorem dX8_lateShare_33 : decode cX8_lateShare 33 = .ok (.fdiv, 1) := by decide +kernel
theorem dX8_lateShare_34 : decode cX8_lateShare 34 = .ok (.freturn, 1) := by decide +kernel
/-! BusLiftsModel.lateShare()F -/
noncomputable def f_X8_lateShare_34  (σ : Sg) (v100 : UInt32) : Option (UInt32 × Sg) := some (v100, σ)
noncomputable def f_X8_lateShare  (σ : Sg)  : Option (UInt32 × Sg) := st (sup σ 8 0 8 0) fun σ1 => (bi (f_X8_inState σ1 0) fun r3 σ2 => (if ((σ1 30 0 2) - r3) = 0 then (f_X8_lateShare_34 σ2 FP.fconst0) else (bi (f_X8_lateMany σ2) fun r5 σ4 => (if ¬ ((FP.fdiv (FP.i2f r5) (FP.i2f ((σ1 30 0 2) - r3))) &&& 0x7fffffff ≤ 0x7f800000) then none else (f_X8_lateShare_34 σ4 (FP.fdiv (FP.i2f r5) (FP.i2f ((σ1 30 0 2) - r3))))))))
set_option maxHeartbeats 4000000 in
set_option maxRecDepth 100000 in
theorem w_X8_lateShare_34 {p : Program} {l : Launch} {e : Env} {s : State} {m : MethodId} {args : Array Value} {below : List Frame} {meth : Method} {c : Code} {G : Gx} {ad : Ad} {res : UInt32 × Sg} (C : Cx p s m args meth c yX8_lateShare.cls cX8_lateShare 2 (Option.some FieldType.float) G)  : ∀ (σ : Sg) (v100 : UInt32) (H : Heap) (locs : List Loc) (ls : Array Slot), z_S 1 G ad σ (z_A 1 ad s.heap.size) s.heap H locs → lv_has ls 2 [] → f_X8_lateShare_34  σ v100 = some res → W p l e { frames := 2, cells := 0, slots := 0, locals := 43 } s m args below meth c H locs 0 0 (MQ below (va_Qf (S := Unit) (fun r1 _ => r1 = res.1) (fun _ t => z_W 1 G ad res.2 t.heap) (z_A 1 ad s.heap.size)) args s 0 0 (z_A 1 ad s.heap.size)) (F0 m 34 ls [.float v100]) := by
  intro σ v100 H locs ls S hl  hf
  unfold f_X8_lateShare_34 at hf
  exact z_fret C S hf dX8_lateShare_34
set_option maxHeartbeats 4000000 in
set_option maxRecDepth 100000 in
theorem w_X8_lateShare_0 {p : Program} {l : Launch} {e : Env} {s : State} {m : MethodId} {args : Array Value} {below : List Frame} {meth : Method} {c : Code} {G : Gx} {ad : Ad} {res : UInt32 × Sg} (C : Cx p s m args meth c yX8_lateShare.cls cX8_lateShare 2 (Option.some FieldType.float) G)  : ∀ (σ : Sg)  (H : Heap) (locs : List Loc) (ls : Array Slot), z_S 1 G ad σ (z_A 1 ad s.heap.size) s.heap H locs → lv_has ls 2 [(0, .ref (ad 8 0))] → f_X8_lateShare  σ  = some res → W p l e { frames := 2, cells := 0, slots := 0, locals := 43 } s m args below meth c H locs 0 0 (MQ below (va_Qf (S := Unit) (fun r1 _ => r1 = res.1) (fun _ t => z_W 1 G ad res.2 t.heap) (z_A 1 ad s.heap.size)) args s 0 0 (z_A 1 ad s.heap.size)) (F0 m 0 ls []) := by
  intro σ  H locs ls S hl  hf
  unfold f_X8_lateShare at hf
  refine lv_aload_n C.1 C.2.1 dX8_lateShare_0 rfl (lv_at hl 0 rfl) ?_
  refine lv_iconst (v := 0) C.1 C.2.1 dX8_lateShare_1 (by decide) ?_
  obtain ⟨σ1, e_2, hf⟩ := stb hf
  refine z_putI C S 8 0 rfl (by decide) cf_8 8 (by decide) (pi_8_8 G ad 0) rfl rfl rfl tw_6_126 dX8_lateShare_2 (fun H locs S => ?_)
  rw [← e_2] at S
  refine lv_aload_n C.1 C.2.1 dX8_lateShare_5 rfl (lv_at hl 0 rfl) ?_
  refine z_getR C S 8 0 rfl (by decide) cf_8 0 (by decide) _ (gr_8_0 G ad 0) tw_6_118 dX8_lateShare_6 ?_
  refine lv_iconst (v := 2) C.1 C.2.1 dX8_lateShare_9 (by decide) ?_
  refine z_ialdL C S 30 0 rfl (by decide) 2111 (fun _ => rfl) 2 (by decide) (by decide) (by decide) dX8_lateShare_10 ?_
  refine lv_aload_n C.1 C.2.1 dX8_lateShare_11 rfl (lv_at hl 0 rfl) ?_
  refine lv_iconst (v := 0) C.1 C.2.1 dX8_lateShare_12 (by decide) ?_
  obtain ⟨r3, σ2, q_13, hf⟩ := bib hf
  refine z_callI C S 8 0 rfl (by decide) cf_8 ⟨_, rfl⟩ [.int 0] (m_X8_inState l G ad σ1 0 r3 σ2 q_13 _) kv_X8_inState tw_7_60 ⟨Nat.le_of_ble_eq_true rfl, Nat.le_of_ble_eq_true rfl⟩ rfl rfl (Nat.le_of_ble_eq_true rfl) hl.1 ⟨Nat.le_of_ble_eq_true rfl, Nat.le_of_ble_eq_true rfl⟩ dX8_lateShare_13 (fun H locs S => ?_)
  refine lv_isub C.1 C.2.1 dX8_lateShare_16 ?_
  refine lv_istore_n (lv' := [(1, .int ((σ1 30 0 2) - r3)), (0, .ref (ad 8 0))]) C.1 C.2.1 dX8_lateShare_17 rfl hl (by decide) rfl (fun ls hl => ?_)
  refine lv_iload_n C.1 C.2.1 dX8_lateShare_18 rfl (lv_at hl 0 rfl) ?_
  refine lv_if_ne (tgt := 26) C.1 C.2.1 dX8_lateShare_19 (by decide) (fun c_19 => ?_) (fun c_19 => ?_)
  · rw [if_neg c_19] at hf
    refine lv_aload_n C.1 C.2.1 dX8_lateShare_26 rfl (lv_at hl 1 rfl) ?_
    obtain ⟨r5, σ4, q_27, hf⟩ := bib hf
    refine z_callI C S 8 0 rfl (by decide) cf_8 ⟨_, rfl⟩ [] (m_X8_lateMany l G ad σ2 r5 σ4 q_27 _) kv_X8_lateMany tw_8_69 ⟨Nat.le_of_ble_eq_true rfl, Nat.le_of_ble_eq_true rfl⟩ rfl rfl (Nat.le_of_ble_eq_true rfl) hl.1 ⟨Nat.le_of_ble_eq_true rfl, Nat.le_of_ble_eq_true rfl⟩ dX8_lateShare_27 (fun H locs S => ?_)
    refine lv_i2f C.1 C.2.1 dX8_lateShare_30 ?_
    refine lv_iload_n C.1 C.2.1 dX8_lateShare_31 rfl (lv_at hl 0 rfl) ?_
    refine lv_i2f C.1 C.2.1 dX8_lateShare_32 ?_
    obtain ⟨g_33, hf⟩ := gd hf
    refine lv_fdiv C.1 C.2.1 dX8_lateShare_33 (nd32 g_33) ?_
    exact w_X8_lateShare_34 C _ (FP.fdiv (FP.i2f r5) (FP.i2f ((σ1 30 0 2) - r3))) _ _ _ S (lv_sub hl [] rfl) hf
  · rw [if_pos c_19] at hf
    refine lv_fconst0 C.1 C.2.1 dX8_lateShare_22 ?_
    refine lv_goto (tgt := 34) C.1 C.2.1 dX8_lateShare_23 (by decide) ?_
    exact w_X8_lateShare_34 C _ FP.fconst0 _ _ _ S (lv_sub hl [] rfl) hf
theorem kv_X8_lateShare : KV yX8_lateShare cX8_lateShare 2 (Option.some FieldType.float) 0 := ⟨tw_8_68, tw_8_66, tw_8_67, tw_1_10, by decide, by decide, by decide +kernel⟩
theorem m_X8_lateShare (l : Launch) (G : Gx) (ad : Ad) (σ : Sg)  (r : UInt32) (σ' : Sg)  (hf : f_X8_lateShare σ  = some (r, σ')) (sz : Nat) : z_MF l yX8_lateShare cX8_lateShare 2 (Option.some FieldType.float) 2 43 1 G ad σ sz [.ref (ad 8 0)] r σ' := by
  refine z_begin (by decide +kernel) (Nat.le_of_ble_eq_true rfl) [(0, .ref (ad 8 0))] rfl (fun p e s m args below meth c ls C hz S hl => ?_)
  subst hz
  exact w_X8_lateShare_0 (res := (r, σ')) C σ  _ _ _ S hl  hf

theorem dX8_meanCost_0 : decode cX8_meanCost 0 = .ok (.aload_n 0, 1) := by decide +kernel
theorem dX8_meanCost_1 : decode cX8_meanCost 1 = .ok (.iload_n 1, 1) := by decide +kernel
theorem dX8_meanCost_2 : decode cX8_meanCost 2 = .ok (.invokevirtual 274, 3) := by decide +kernel
theorem dX8_meanCost_5 : decode cX8_meanCost 5 = .ok (.ifCond .eq 5, 3) := by decide +kernel
theorem dX8_meanCost_8 : decode cX8_meanCost 8 = .ok (.dconst 0, 1) := by decide +kernel
theorem dX8_meanCost_9 : decode cX8_meanCost 9 = .ok (.dreturn, 1) := by decide +kernel
theorem dX8_meanCost_10 : decode cX8_meanCost 10 = .ok (.iconst 0, 1) := by decide +kernel
theorem dX8_meanCost_11 : decode cX8_meanCost 11 = .ok (.istore_n 2, 1) := by decide +kernel
theorem dX8_meanCost_12 : decode cX8_meanCost 12 = .ok (.iconst 0, 1) := by decide +kernel
theorem dX8_meanCost_13 : decode cX8_meanCost 13 = .ok (.istore_n 3, 1) := by decide +kernel
theorem dX8_meanCost_14 : decode cX8_meanCost 14 = .ok (.iload_n 3, 1) := by decide +kernel
theorem dX8_meanCost_15 : decode cX8_meanCost 15 = .ok (.aload_n 0, 1) := by decide +kernel
theorem dX8_meanCost_16 : decode cX8_meanCost 16 = .ok (.getfield 7, 3) := by decide +kernel
theorem dX8_meanCost_19 : decode cX8_meanCost 19 = .ok (.iconst 1, 1) := by decide +kernel
theorem dX8_meanCost_20 : decode cX8_meanCost 20 = .ok (.iaload, 1) := by decide +kernel
theorem dX8_meanCost_21 : decode cX8_meanCost 21 = .ok (.if_icmp .ge 26, 3) := by decide +kernel
theorem dX8_meanCost_24 : decode cX8_meanCost 24 = .ok (.iload_n 2, 1) := by decide +kernel
theorem dX8_meanCost_25 : decode cX8_meanCost 25 = .ok (.aload_n 0, 1) := by decide +kernel
theorem dX8_meanCost_26 : decode cX8_meanCost 26 = .ok (.iload_n 3, 1) := by decide +kernel
theorem dX8_meanCost_27 : decode cX8_meanCost 27 = .ok (.aload_n 0, 1) := by decide +kernel
theorem dX8_meanCost_28 : decode cX8_meanCost 28 = .ok (.getfield 7, 3) := by decide +kernel
theorem dX8_meanCost_31 : decode cX8_meanCost 31 = .ok (.bipush 55, 2) := by decide +kernel
theorem dX8_meanCost_33 : decode cX8_meanCost 33 = .ok (.iload_n 1, 1) := by decide +kernel
theorem dX8_meanCost_34 : decode cX8_meanCost 34 = .ok (.iadd, 1) := by decide +kernel
theorem dX8_meanCost_35 : decode cX8_meanCost 35 = .ok (.iaload, 1) := by decide +kernel
theorem dX8_meanCost_36 : decode cX8_meanCost 36 = .ok (.invokevirtual 99, 3) := by decide +kernel
theorem dX8_meanCost_39 : decode cX8_meanCost 39 = .ok (.iadd, 1) := by decide +kernel
theorem dX8_meanCost_40 : decode cX8_meanCost 40 = .ok (.istore_n 2, 1) := by decide +kernel
theorem dX8_meanCost_41 : decode cX8_meanCost 41 = .ok (.iinc 3 1, 3) := by decide +kernel
theorem dX8_meanCost_44 : decode cX8_meanCost 44 = .ok (.goto (-30), 3) := by decide +kernel
theorem dX8_meanCost_47 : decode cX8_meanCost 47 = .ok (.iload_n 2, 1) := by decide +kernel
theorem dX8_meanCost_48 : decode cX8_meanCost 48 = .ok (.i2d, 1) := by decide +kernel
theorem dX8_meanCost_49 : decode cX8_meanCost 49 = .ok (.aload_n 0, 1) := by decide +kernel
theorem dX8_meanCost_50 : decode cX8_meanCost 50 = .ok (.getfield 7, 3) := by decide +kernel
theorem dX8_meanCost_53 : decode cX8_meanCost 53 = .ok (.iconst 1, 1) := by decide +kernel
theorem dX8_meanCost_54 : decode cX8_meanCost 54 = .ok (.iaload, 1) := by decide +kernel
theorem dX8_meanCost_55 : decode cX8_meanCost 55 = .ok (.i2d, 1) := by decide +kernel
theorem dX8_meanCost_56 : decode cX8_meanCost 56 = .ok (.ddiv, 1) := by decide +kernel
theorem dX8_meanCost_57 : decode cX8_meanCost 57 = .ok (.dreturn, 1) := by decide +kernel
/-! BusLiftsModel.meanCost(I)D -/
noncomputable def f_X8_meanCost_47  (σ : Sg) (v2 : Int32) : Option (UInt64 × Sg) := if ¬ ((FP.ddiv (FP.i2d v2) (FP.i2d (σ 30 0 1))) &&& 0x7fffffffffffffff ≤ 0x7ff0000000000000) then none else (some ((FP.ddiv (FP.i2d v2) (FP.i2d (σ 30 0 1))), σ))
noncomputable def f_X8_meanCost_14  : Nat → Sg → Int32 → Int32 → Int32 → Option (UInt64 × Sg)
  | 0, _, _, _, _ => none
  | n + 1, σ, v1, v2, v3 => if (σ 30 0 1) ≤ v3 then (f_X8_meanCost_47 σ v2) else (if (55 + v1) < 0 ∨ 2111 ≤ ((55 + v1)).toNatClampNeg then none else (bi (f_X8_costFrom σ v3 (σ 30 0 ((55 + v1)).toNatClampNeg)) fun r2 σ1 => (f_X8_meanCost_14  n σ1 v1 (v2 + r2) (v3 + 1))))
theorem f_X8_meanCost_14_s  (n : Nat) (σ : Sg) (v1 : Int32) (v2 : Int32) (v3 : Int32) : f_X8_meanCost_14  (n + 1) σ v1 v2 v3 = (if (σ 30 0 1) ≤ v3 then (f_X8_meanCost_47 σ v2) else (if (55 + v1) < 0 ∨ 2111 ≤ ((55 + v1)).toNatClampNeg then none else (bi (f_X8_costFrom σ v3 (σ 30 0 ((55 + v1)).toNatClampNeg)) fun r2 σ1 => (f_X8_meanCost_14  n σ1 v1 (v2 + r2) (v3 + 1))))) := rfl
noncomputable def f_X8_meanCost  (σ : Sg) (v1 : Int32) : Option (UInt64 × Sg) := bi (f_X8_noCall σ v1) fun r2 σ1 => (if r2 = 0 then (f_X8_meanCost_14 FU σ1 v1 0 0) else (some (FP.dconst0, σ1)))
set_option maxHeartbeats 4000000 in
set_option maxRecDepth 100000 in
theorem w_X8_meanCost_47 {p : Program} {l : Launch} {e : Env} {s : State} {m : MethodId} {args : Array Value} {below : List Frame} {meth : Method} {c : Code} {G : Gx} {ad : Ad} {res : UInt64 × Sg} (C : Cx p s m args meth c yX8_meanCost.cls cX8_meanCost 4 (Option.some FieldType.double) G)  : ∀ (σ : Sg) (v2 : Int32) (H : Heap) (locs : List Loc) (ls : Array Slot), z_S 1 G ad σ (z_A 1 ad s.heap.size) s.heap H locs → lv_has ls 4 [(0, .ref (ad 8 0)), (2, .int v2)] → f_X8_meanCost_47  σ v2 = some res → W p l e { frames := 3, cells := 0, slots := 0, locals := 67 } s m args below meth c H locs 0 0 (MQ below (va_Qd (S := Unit) (fun r1 _ => r1 = res.1) (fun _ t => z_W 1 G ad res.2 t.heap) (z_A 1 ad s.heap.size)) args s 0 0 (z_A 1 ad s.heap.size)) (F0 m 47 ls []) := by
  intro σ v2 H locs ls S hl  hf
  unfold f_X8_meanCost_47 at hf
  refine lv_iload_n C.1 C.2.1 dX8_meanCost_47 rfl (lv_at hl 1 rfl) ?_
  refine lv_i2d C.1 C.2.1 dX8_meanCost_48 ?_
  refine lv_aload_n C.1 C.2.1 dX8_meanCost_49 rfl (lv_at hl 0 rfl) ?_
  refine z_getR C S 8 0 rfl (by decide) cf_8 0 (by decide) _ (gr_8_0 G ad 0) tw_6_118 dX8_meanCost_50 ?_
  refine lv_iconst (v := 1) C.1 C.2.1 dX8_meanCost_53 (by decide) ?_
  refine z_ialdL C S 30 0 rfl (by decide) 2111 (fun _ => rfl) 1 (by decide) (by decide) (by decide) dX8_meanCost_54 ?_
  refine lv_i2d C.1 C.2.1 dX8_meanCost_55 ?_
  obtain ⟨g_56, hf⟩ := gd hf
  refine lv_ddiv C.1 C.2.1 dX8_meanCost_56 (nd64 g_56) ?_
  exact z_dret C S hf dX8_meanCost_57
set_option maxHeartbeats 4000000 in
set_option maxRecDepth 100000 in
theorem w_X8_meanCost_14 {p : Program} {l : Launch} {e : Env} {s : State} {m : MethodId} {args : Array Value} {below : List Frame} {meth : Method} {c : Code} {G : Gx} {ad : Ad} {res : UInt64 × Sg} (C : Cx p s m args meth c yX8_meanCost.cls cX8_meanCost 4 (Option.some FieldType.double) G)  : ∀ n : Nat, ∀ (σ : Sg) (v1 : Int32) (v2 : Int32) (v3 : Int32) (H : Heap) (locs : List Loc) (ls : Array Slot), z_S 1 G ad σ (z_A 1 ad s.heap.size) s.heap H locs → lv_has ls 4 [(0, .ref (ad 8 0)), (1, .int v1), (2, .int v2), (3, .int v3)] → f_X8_meanCost_14  n σ v1 v2 v3 = some res → W p l e { frames := 3, cells := 0, slots := 0, locals := 67 } s m args below meth c H locs 0 0 (MQ below (va_Qd (S := Unit) (fun r1 _ => r1 = res.1) (fun _ t => z_W 1 G ad res.2 t.heap) (z_A 1 ad s.heap.size)) args s 0 0 (z_A 1 ad s.heap.size)) (F0 m 14 ls []) := by
  intro n
  induction n with
  | zero => intro σ v1 v2 v3 H locs ls S hl  hf; cases hf
  | succ n ih =>
    intro σ v1 v2 v3 H locs ls S hl  hf
    rw [f_X8_meanCost_14_s] at hf
    refine lv_iload_n C.1 C.2.1 dX8_meanCost_14 rfl (lv_at hl 3 rfl) ?_
    refine lv_aload_n C.1 C.2.1 dX8_meanCost_15 rfl (lv_at hl 0 rfl) ?_
    refine z_getR C S 8 0 rfl (by decide) cf_8 0 (by decide) _ (gr_8_0 G ad 0) tw_6_118 dX8_meanCost_16 ?_
    refine lv_iconst (v := 1) C.1 C.2.1 dX8_meanCost_19 (by decide) ?_
    refine z_ialdL C S 30 0 rfl (by decide) 2111 (fun _ => rfl) 1 (by decide) (by decide) (by decide) dX8_meanCost_20 ?_
    refine lv_icmp_ge (tgt := 47) C.1 C.2.1 dX8_meanCost_21 (by decide) (fun c_21 => ?_) (fun c_21 => ?_)
    · rw [if_pos c_21] at hf
      exact w_X8_meanCost_47 C _ v2 _ _ _ S (lv_sub hl [0, 2] rfl) hf
    · rw [if_neg c_21] at hf
      refine lv_iload_n C.1 C.2.1 dX8_meanCost_24 rfl (lv_at hl 2 rfl) ?_
      refine lv_aload_n C.1 C.2.1 dX8_meanCost_25 rfl (lv_at hl 0 rfl) ?_
      refine lv_iload_n C.1 C.2.1 dX8_meanCost_26 rfl (lv_at hl 3 rfl) ?_
      refine lv_aload_n C.1 C.2.1 dX8_meanCost_27 rfl (lv_at hl 0 rfl) ?_
      refine z_getR C S 8 0 rfl (by decide) cf_8 0 (by decide) _ (gr_8_0 G ad 0) tw_6_118 dX8_meanCost_28 ?_
      refine lv_bipush (v := 55) C.1 C.2.1 dX8_meanCost_31 (by decide) ?_
      refine lv_iload_n C.1 C.2.1 dX8_meanCost_33 rfl (lv_at hl 1 rfl) ?_
      refine lv_iadd C.1 C.2.1 dX8_meanCost_34 ?_
      obtain ⟨g_35, hf⟩ := gd hf
      refine z_iald C S 30 0 rfl (by decide) 2111 (fun _ => rfl) g_35 dX8_meanCost_35 ?_
      obtain ⟨r2, σ1, q_36, hf⟩ := bib hf
      refine z_callI C S 8 0 rfl (by decide) cf_8 ⟨_, rfl⟩ [.int v3, .int (σ 30 0 ((55 + v1)).toNatClampNeg)] (m_X8_costFrom l G ad σ v3 (σ 30 0 ((55 + v1)).toNatClampNeg) r2 σ1 q_36 _) kv_X8_costFrom tw_7_139 ⟨Nat.le_of_ble_eq_true rfl, Nat.le_of_ble_eq_true rfl⟩ rfl rfl (Nat.le_of_ble_eq_true rfl) hl.1 ⟨Nat.le_of_ble_eq_true rfl, Nat.le_of_ble_eq_true rfl⟩ dX8_meanCost_36 (fun H locs S => ?_)
      refine lv_iadd C.1 C.2.1 dX8_meanCost_39 ?_
      refine lv_istore_n (lv' := [(2, .int (v2 + r2)), (0, .ref (ad 8 0)), (1, .int v1), (3, .int v3)]) C.1 C.2.1 dX8_meanCost_40 rfl hl (by decide) rfl (fun ls hl => ?_)
      refine lv_iinc (v := (v3 + 1)) (lv' := [(3, .int (v3 + 1)), (2, .int (v2 + r2)), (0, .ref (ad 8 0)), (1, .int v1)]) C.1 C.2.1 dX8_meanCost_41 hl (k := 3) rfl rfl (by decide) rfl (fun ls hl => ?_)
      refine lv_goto (tgt := 14) C.1 C.2.1 dX8_meanCost_44 (by decide) ?_
      exact ih _ v1 (v2 + r2) (v3 + 1) _ _ _ S (lv_sub hl [2, 3, 1, 0] rfl)  hf
set_option maxHeartbeats 4000000 in
set_option maxRecDepth 100000 in
theorem w_X8_meanCost_0 {p : Program} {l : Launch} {e : Env} {s : State} {m : MethodId} {args : Array Value} {below : List Frame} {meth : Method} {c : Code} {G : Gx} {ad : Ad} {res : UInt64 × Sg} (C : Cx p s m args meth c yX8_meanCost.cls cX8_meanCost 4 (Option.some FieldType.double) G)  : ∀ (σ : Sg) (v1 : Int32) (H : Heap) (locs : List Loc) (ls : Array Slot), z_S 1 G ad σ (z_A 1 ad s.heap.size) s.heap H locs → lv_has ls 4 [(0, .ref (ad 8 0)), (1, .int v1)] → f_X8_meanCost  σ v1 = some res → W p l e { frames := 3, cells := 0, slots := 0, locals := 67 } s m args below meth c H locs 0 0 (MQ below (va_Qd (S := Unit) (fun r1 _ => r1 = res.1) (fun _ t => z_W 1 G ad res.2 t.heap) (z_A 1 ad s.heap.size)) args s 0 0 (z_A 1 ad s.heap.size)) (F0 m 0 ls []) := by
  intro σ v1 H locs ls S hl  hf
  unfold f_X8_meanCost at hf
  refine lv_aload_n C.1 C.2.1 dX8_meanCost_0 rfl (lv_at hl 0 rfl) ?_
  refine lv_iload_n C.1 C.2.1 dX8_meanCost_1 rfl (lv_at hl 1 rfl) ?_
  obtain ⟨r2, σ1, q_2, hf⟩ := bib hf
  refine z_callI C S 8 0 rfl (by decide) cf_8 ⟨_, rfl⟩ [.int v1] (m_X8_noCall l G ad σ v1 r2 σ1 q_2 _) kv_X8_noCall tw_7_91 ⟨Nat.le_of_ble_eq_true rfl, Nat.le_of_ble_eq_true rfl⟩ rfl rfl (Nat.le_of_ble_eq_true rfl) hl.1 ⟨Nat.le_of_ble_eq_true rfl, Nat.le_of_ble_eq_true rfl⟩ dX8_meanCost_2 (fun H locs S => ?_)
  refine lv_if_eq (tgt := 10) C.1 C.2.1 dX8_meanCost_5 (by decide) (fun c_5 => ?_) (fun c_5 => ?_)
  · rw [if_pos c_5] at hf
    refine lv_iconst (v := 0) C.1 C.2.1 dX8_meanCost_10 (by decide) ?_
    refine lv_istore_n (lv' := [(2, .int 0), (0, .ref (ad 8 0)), (1, .int v1)]) C.1 C.2.1 dX8_meanCost_11 rfl hl (by decide) rfl (fun ls hl => ?_)
    refine lv_iconst (v := 0) C.1 C.2.1 dX8_meanCost_12 (by decide) ?_
    refine lv_istore_n (lv' := [(3, .int 0), (2, .int 0), (0, .ref (ad 8 0)), (1, .int v1)]) C.1 C.2.1 dX8_meanCost_13 rfl hl (by decide) rfl (fun ls hl => ?_)
    exact w_X8_meanCost_14 C FU _ v1 0 0 _ _ _ S (lv_sub hl [2, 3, 1, 0] rfl) hf
  · rw [if_neg c_5] at hf
    refine lv_dconst0 C.1 C.2.1 dX8_meanCost_8 ?_
    exact z_dret C S hf dX8_meanCost_9
theorem kv_X8_meanCost : KV yX8_meanCost cX8_meanCost 4 (Option.some FieldType.double) 1 := ⟨tw_8_100, tw_8_98, tw_8_99, tw_1_10, by decide, by decide, by decide +kernel⟩
theorem m_X8_meanCost (l : Launch) (G : Gx) (ad : Ad) (σ : Sg) (v1 : Int32) (r : UInt64) (σ' : Sg)  (hf : f_X8_meanCost σ v1 = some (r, σ')) (sz : Nat) : z_MD l yX8_meanCost cX8_meanCost 4 (Option.some FieldType.double) 3 67 1 G ad σ sz [.ref (ad 8 0), .int v1] r σ' := by
  refine z_begin (by decide +kernel) (Nat.le_of_ble_eq_true rfl) [(0, .ref (ad 8 0)), (1, .int v1)] rfl (fun p e s m args below meth c ls C hz S hl => ?_)
  subst hz
  exact w_X8_meanCost_0 (res := (r, σ')) C σ v1 _ _ _ S hl  hf
