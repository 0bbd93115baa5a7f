theorem dX4_clear_0 : decode cX4_clear 0 = .ok (.aload_n 0, 1) := by decide +kernel
theorem dX4_clear_1 : decode cX4_clear 1 = .ok (.iload_n 1, 1) := by decide +kernel
theorem dX4_clear_2 : decode cX4_clear 2 = .ok (.putfield 45, 3) := by decide +kernel
theorem dX4_clear_5 : decode cX4_clear 5 = .ok (.aload_n 0, 1) := by decide +kernel
theorem dX4_clear_6 : decode cX4_clear 6 = .ok (.iconst 0, 1) := by decide +kernel
theorem dX4_clear_7 : decode cX4_clear 7 = .ok (.putfield 49, 3) := by decide +kernel
theorem dX4_clear_10 : decode cX4_clear 10 = .ok (.aload_n 0, 1) := by decide +kernel
theorem dX4_clear_11 : decode cX4_clear 11 = .ok (.iconst 0, 1) := by decide +kernel
theorem dX4_clear_12 : decode cX4_clear 12 = .ok (.putfield 52, 3) := by decide +kernel
theorem dX4_clear_15 : decode cX4_clear 15 = .ok (.aload_n 0, 1) := by decide +kernel
theorem dX4_clear_16 : decode cX4_clear 16 = .ok (.iconst 0, 1) := by decide +kernel
theorem dX4_clear_17 : decode cX4_clear 17 = .ok (.putfield 55, 3) := by decide +kernel
theorem dX4_clear_20 : decode cX4_clear 20 = .ok (.aload_n 0, 1) := by decide +kernel
theorem dX4_clear_21 : decode cX4_clear 21 = .ok (.iconst 1, 1) := by decide +kernel
theorem dX4_clear_22 : decode cX4_clear 22 = .ok (.putfield 58, 3) := by decide +kernel
theorem dX4_clear_25 : decode cX4_clear 25 = .ok (.getstatic 61, 3) := by decide +kernel
theorem dX4_clear_28 : decode cX4_clear 28 = .ok (.iconst 0, 1) := by decide +kernel
theorem dX4_clear_29 : decode cX4_clear 29 = .ok (.aload_n 0, 1) := by decide +kernel
theorem dX4_clear_30 : decode cX4_clear 30 = .ok (.getfield 9, 3) := by decide +kernel
theorem dX4_clear_33 : decode cX4_clear 33 = .ok (.iconst 0, 1) := by decide +kernel
theorem dX4_clear_34 : decode cX4_clear 34 = .ok (.iconst 5, 1) := by decide +kernel
theorem dX4_clear_35 : decode cX4_clear 35 = .ok (.invokestatic 64, 3) := by decide +kernel
theorem dX4_clear_38 : decode cX4_clear 38 = .ok (.aload_n 0, 1) := by decide +kernel
theorem dX4_clear_39 : decode cX4_clear 39 = .ok (.getfield 30, 3) := by decide +kernel
theorem dX4_clear_42 : decode cX4_clear 42 = .ok (.iconst 0, 1) := by decide +kernel
theorem dX4_clear_43 : decode cX4_clear 43 = .ok (.putfield 70, 3) := by decide +kernel
theorem dX4_clear_46 : decode cX4_clear 46 = .ok (.iconst 0, 1) := by decide +kernel
theorem dX4_clear_47 : decode cX4_clear 47 = .ok (.istore_n 2, 1) := by decide +kernel
theorem dX4_clear_48 : decode cX4_clear 48 = .ok (.iload_n 2, 1) := by decide +kernel
theorem dX4_clear_49 : decode cX4_clear 49 = .ok (.iconst 4, 1) := by decide +kernel
theorem dX4_clear_50 : decode cX4_clear 50 = .ok (.if_icmp .ge 23, 3) := by decide +kernel
theorem dX4_clear_53 : decode cX4_clear 53 = .ok (.aload_n 0, 1) := by decide +kernel
theorem dX4_clear_54 : decode cX4_clear 54 = .ok (.getfield 34, 3) := by decide +kernel
theorem dX4_clear_57 : decode cX4_clear 57 = .ok (.iload_n 2, 1) := by decide +kernel
theorem dX4_clear_58 : decode cX4_clear 58 = .ok (.iconst 0, 1) := by decide +kernel
theorem dX4_clear_59 : decode cX4_clear 59 = .ok (.iastore, 1) := by decide +kernel
theorem dX4_clear_60 : decode cX4_clear 60 = .ok (.aload_n 0, 1) := by decide +kernel
theorem dX4_clear_61 : decode cX4_clear 61 = .ok (.getfield 37, 3) := by decide +kernel
theorem dX4_clear_64 : decode cX4_clear 64 = .ok (.iload_n 2, 1) := by decide +kernel
theorem dX4_clear_65 : decode cX4_clear 65 = .ok (.iconst 0, 1) := by decide +kernel
theorem dX4_clear_66 : decode cX4_clear 66 = .ok (.iastore, 1) := by decide +kernel
theorem dX4_clear_67 : decode cX4_clear 67 = .ok (.iinc 2 1, 3) := by decide +kernel
theorem dX4_clear_70 : decode cX4_clear 70 = .ok (.goto (-22), 3) := by decide +kernel
theorem dX4_clear_73 : decode cX4_clear 73 = .ok (.iconst 0, 1) := by decide +kernel
theorem dX4_clear_74 : decode cX4_clear 74 = .ok (.istore_n 2, 1) := by decide +kernel
theorem dX4_clear_75 : decode cX4_clear 75 = .ok (.iload_n 2, 1) := by decide +kernel
theorem dX4_clear_76 : decode cX4_clear 76 = .ok (.iconst 4, 1) := by decide +kernel
theorem dX4_clear_77 : decode cX4_clear 77 = .ok (.if_icmp .gt 16, 3) := by decide +kernel
theorem dX4_clear_80 : decode cX4_clear 80 = .ok (.aload_n 0, 1) := by decide +kernel
theorem dX4_clear_81 : decode cX4_clear 81 = .ok (.getfield 40, 3) := by decide +kernel
theorem dX4_clear_84 : decode cX4_clear 84 = .ok (.iload_n 2, 1) := by decide +kernel
theorem dX4_clear_85 : decode cX4_clear 85 = .ok (.iconst 0, 1) := by decide +kernel
theorem dX4_clear_86 : decode cX4_clear 86 = .ok (.iastore, 1) := by decide +kernel
theorem dX4_clear_87 : decode cX4_clear 87 = .ok (.iinc 2 1, 3) := by decide +kernel
theorem dX4_clear_90 : decode cX4_clear 90 = .ok (.goto (-15), 3) := by decide +kernel
theorem dX4_clear_93 : decode cX4_clear 93 = .ok (.return_, 1) := by decide +kernel
/-! BusLifts$Lifts.clear(I)V -/
noncomputable def f_X4_clear_93  (σ : Sg)  : Option Sg := some σ
noncomputable def f_X4_clear_75  : Nat → Sg → Nat → Int32 → Option Sg
  | 0, _, _, _ => none
  | n + 1, σ, o0, v2 => if 4 < v2 then (f_X4_clear_93 σ) else (if v2 < 0 ∨ 5 ≤ (v2).toNatClampNeg then none else (st (sup σ 15 o0 (v2).toNatClampNeg 0) fun σ1 => (f_X4_clear_75  n σ1 o0 (v2 + 1))))
theorem f_X4_clear_75_s  (n : Nat) (σ : Sg) (o0 : Nat) (v2 : Int32) : f_X4_clear_75  (n + 1) σ o0 v2 = (if 4 < v2 then (f_X4_clear_93 σ) else (if v2 < 0 ∨ 5 ≤ (v2).toNatClampNeg then none else (st (sup σ 15 o0 (v2).toNatClampNeg 0) fun σ1 => (f_X4_clear_75  n σ1 o0 (v2 + 1))))) := rfl
noncomputable def f_X4_clear_73  (σ : Sg) (o0 : Nat) : Option Sg := f_X4_clear_75 FU σ o0 0
noncomputable def f_X4_clear_48  : Nat → Sg → Nat → Int32 → Option Sg
  | 0, _, _, _ => none
  | n + 1, σ, o0, v2 => if 4 ≤ v2 then (f_X4_clear_73 σ o0) else (if v2 < 0 ∨ 4 ≤ (v2).toNatClampNeg then none else (st (sup σ 13 o0 (v2).toNatClampNeg 0) fun σ1 => (if v2 < 0 ∨ 4 ≤ (v2).toNatClampNeg then none else (st (sup σ1 14 o0 (v2).toNatClampNeg 0) fun σ2 => (f_X4_clear_48  n σ2 o0 (v2 + 1))))))
theorem f_X4_clear_48_s  (n : Nat) (σ : Sg) (o0 : Nat) (v2 : Int32) : f_X4_clear_48  (n + 1) σ o0 v2 = (if 4 ≤ v2 then (f_X4_clear_73 σ o0) else (if v2 < 0 ∨ 4 ≤ (v2).toNatClampNeg then none else (st (sup σ 13 o0 (v2).toNatClampNeg 0) fun σ1 => (if v2 < 0 ∨ 4 ≤ (v2).toNatClampNeg then none else (st (sup σ1 14 o0 (v2).toNatClampNeg 0) fun σ2 => (f_X4_clear_48  n σ2 o0 (v2 + 1))))))) := rfl
noncomputable def f_X4_clear  (σ : Sg) (o0 : Nat) (v1 : Int32) : Option Sg := st (sup σ 4 o0 0 v1) fun σ1 => (st (sup σ1 4 o0 1 0) fun σ2 => (st (sup σ2 4 o0 2 0) fun σ3 => (st (sup σ3 4 o0 3 0) fun σ4 => (st (sup σ4 4 o0 4 1) fun σ5 => (st (sft σ5 2 12 o0 5) fun σ6 => (st (sup σ6 5 o0 0 0) fun σ7 => (f_X4_clear_48 FU σ7 o0 0)))))))
set_option maxHeartbeats 4000000 in
set_option maxRecDepth 100000 in
theorem w_X4_clear_93 {p : Program} {l : Launch} {e : Env} {s : State} {m : MethodId} {args : Array Value} {below : List Frame} {meth : Method} {c : Code} {G : Gx} {ad : Ad} {res : Sg} (C : Cx p s m args meth c yX4_clear.cls cX4_clear 3 none G)  : ∀ (σ : Sg)  (H : Heap) (locs : List Loc) (ls : Array Slot), z_S 0 G ad σ (z_A 0 ad s.heap.size) s.heap H locs → lv_has ls 3 [] → f_X4_clear_93  σ  = some res → W p l e { frames := 1, cells := 0, slots := 0, locals := 26 } s m args below meth c H locs 0 0 (MQ below (va_Qv (S := Unit) (fun _ => True) (fun _ t => z_W 0 G ad res t.heap) (z_A 0 ad s.heap.size)) args s 0 0 (z_A 0 ad s.heap.size)) (F0 m 93 ls []) := by
  intro σ  H locs ls S hl  hf
  unfold f_X4_clear_93 at hf
  exact z_vret C S hf dX4_clear_93
set_option maxHeartbeats 4000000 in
set_option maxRecDepth 100000 in
theorem w_X4_clear_75 {p : Program} {l : Launch} {e : Env} {s : State} {m : MethodId} {args : Array Value} {below : List Frame} {meth : Method} {c : Code} {G : Gx} {ad : Ad} {res : Sg} (C : Cx p s m args meth c yX4_clear.cls cX4_clear 3 none G)  : ∀ n : Nat, ∀ (σ : Sg) (o0 : Nat) (v2 : Int32) (H : Heap) (locs : List Loc) (ls : Array Slot), z_S 0 G ad σ (z_A 0 ad s.heap.size) s.heap H locs → lv_has ls 3 [(0, .ref (ad 4 o0)), (2, .int v2)] → (o0 < z_cnt 4) → f_X4_clear_75  n σ o0 v2 = some res → W p l e { frames := 1, cells := 0, slots := 0, locals := 26 } s m args below meth c H locs 0 0 (MQ below (va_Qv (S := Unit) (fun _ => True) (fun _ t => z_W 0 G ad res t.heap) (z_A 0 ad s.heap.size)) args s 0 0 (z_A 0 ad s.heap.size)) (F0 m 75 ls []) := by
  intro n
  induction n with
  | zero => intro σ o0 v2 H locs ls S hl ho0 hf; cases hf
  | succ n ih =>
    intro σ o0 v2 H locs ls S hl ho0 hf
    rw [f_X4_clear_75_s] at hf
    refine lv_iload_n C.1 C.2.1 dX4_clear_75 rfl (lv_at hl 1 rfl) ?_
    refine lv_iconst (v := 4) C.1 C.2.1 dX4_clear_76 (by decide) ?_
    refine lv_icmp_gt (tgt := 93) C.1 C.2.1 dX4_clear_77 (by decide) (fun c_77 => ?_) (fun c_77 => ?_)
    · rw [if_pos c_77] at hf
      exact w_X4_clear_93 C _ _ _ _ S (lv_sub hl [] rfl) hf
    · rw [if_neg c_77] at hf
      refine lv_aload_n C.1 C.2.1 dX4_clear_80 rfl (lv_at hl 0 rfl) ?_
      refine z_getR C S 4 o0 rfl ho0 cf_4 11 (by decide) _ (gr_4_11 G ad o0) tw_2_15 dX4_clear_81 ?_
      refine lv_iload_n C.1 C.2.1 dX4_clear_84 rfl (lv_at hl 1 rfl) ?_
      refine lv_iconst (v := 0) C.1 C.2.1 dX4_clear_85 (by decide) ?_
      obtain ⟨g_86, hf⟩ := gd hf
      obtain ⟨σ1, e_86, hf⟩ := stb hf
      refine z_iast C S 15 o0 rfl ho0 5 (fun _ => rfl) g_86 dX4_clear_86 (fun H locs S => ?_)
      rw [← e_86] at S
      refine lv_iinc (v := (v2 + 1)) (lv' := [(2, .int (v2 + 1)), (0, .ref (ad 4 o0))]) C.1 C.2.1 dX4_clear_87 hl (k := 1) rfl rfl (by decide) rfl (fun ls hl => ?_)
      refine lv_goto (tgt := 75) C.1 C.2.1 dX4_clear_90 (by decide) ?_
      exact ih _ o0 (v2 + 1) _ _ _ S (lv_sub hl [1, 0] rfl) ho0 hf
set_option maxHeartbeats 4000000 in
set_option maxRecDepth 100000 in
theorem w_X4_clear_73 {p : Program} {l : Launch} {e : Env} {s : State} {m : MethodId} {args : Array Value} {below : List Frame} {meth : Method} {c : Code} {G : Gx} {ad : Ad} {res : Sg} (C : Cx p s m args meth c yX4_clear.cls cX4_clear 3 none G)  : ∀ (σ : Sg) (o0 : Nat) (H : Heap) (locs : List Loc) (ls : Array Slot), z_S 0 G ad σ (z_A 0 ad s.heap.size) s.heap H locs → lv_has ls 3 [(0, .ref (ad 4 o0))] → (o0 < z_cnt 4) → f_X4_clear_73  σ o0 = some res → W p l e { frames := 1, cells := 0, slots := 0, locals := 26 } s m args below meth c H locs 0 0 (MQ below (va_Qv (S := Unit) (fun _ => True) (fun _ t => z_W 0 G ad res t.heap) (z_A 0 ad s.heap.size)) args s 0 0 (z_A 0 ad s.heap.size)) (F0 m 73 ls []) := by
  intro σ o0 H locs ls S hl ho0 hf
  unfold f_X4_clear_73 at hf
  refine lv_iconst (v := 0) C.1 C.2.1 dX4_clear_73 (by decide) ?_
  refine lv_istore_n (lv' := [(2, .int 0), (0, .ref (ad 4 o0))]) C.1 C.2.1 dX4_clear_74 rfl hl (by decide) rfl (fun ls hl => ?_)
  exact w_X4_clear_75 C FU _ o0 0 _ _ _ S (lv_sub hl [1, 0] rfl) ho0 hf
set_option maxHeartbeats 4000000 in
set_option maxRecDepth 100000 in
theorem w_X4_clear_48 {p : Program} {l : Launch} {e : Env} {s : State} {m : MethodId} {args : Array Value} {below : List Frame} {meth : Method} {c : Code} {G : Gx} {ad : Ad} {res : Sg} (C : Cx p s m args meth c yX4_clear.cls cX4_clear 3 none G)  : ∀ n : Nat, ∀ (σ : Sg) (o0 : Nat) (v2 : Int32) (H : Heap) (locs : List Loc) (ls : Array Slot), z_S 0 G ad σ (z_A 0 ad s.heap.size) s.heap H locs → lv_has ls 3 [(0, .ref (ad 4 o0)), (2, .int v2)] → (o0 < z_cnt 4) → f_X4_clear_48  n σ o0 v2 = some res → W p l e { frames := 1, cells := 0, slots := 0, locals := 26 } s m args below meth c H locs 0 0 (MQ below (va_Qv (S := Unit) (fun _ => True) (fun _ t => z_W 0 G ad res t.heap) (z_A 0 ad s.heap.size)) args s 0 0 (z_A 0 ad s.heap.size)) (F0 m 48 ls []) := by
  intro n
  induction n with
  | zero => intro σ o0 v2 H locs ls S hl ho0 hf; cases hf
  | succ n ih =>
    intro σ o0 v2 H locs ls S hl ho0 hf
    rw [f_X4_clear_48_s] at hf
    refine lv_iload_n C.1 C.2.1 dX4_clear_48 rfl (lv_at hl 1 rfl) ?_
    refine lv_iconst (v := 4) C.1 C.2.1 dX4_clear_49 (by decide) ?_
    refine lv_icmp_ge (tgt := 73) C.1 C.2.1 dX4_clear_50 (by decide) (fun c_50 => ?_) (fun c_50 => ?_)
    · rw [if_pos c_50] at hf
      exact w_X4_clear_73 C _ o0 _ _ _ S (lv_sub hl [0] rfl) ho0 hf
    · rw [if_neg c_50] at hf
      refine lv_aload_n C.1 C.2.1 dX4_clear_53 rfl (lv_at hl 0 rfl) ?_
      refine z_getR C S 4 o0 rfl ho0 cf_4 9 (by decide) _ (gr_4_9 G ad o0) tw_2_10 dX4_clear_54 ?_
      refine lv_iload_n C.1 C.2.1 dX4_clear_57 rfl (lv_at hl 1 rfl) ?_
      refine lv_iconst (v := 0) C.1 C.2.1 dX4_clear_58 (by decide) ?_
      obtain ⟨g_59, hf⟩ := gd hf
      obtain ⟨σ1, e_59, hf⟩ := stb hf
      refine z_iast C S 13 o0 rfl ho0 4 (fun _ => rfl) g_59 dX4_clear_59 (fun H locs S => ?_)
      rw [← e_59] at S
      refine lv_aload_n C.1 C.2.1 dX4_clear_60 rfl (lv_at hl 0 rfl) ?_
      refine z_getR C S 4 o0 rfl ho0 cf_4 10 (by decide) _ (gr_4_10 G ad o0) tw_2_12 dX4_clear_61 ?_
      refine lv_iload_n C.1 C.2.1 dX4_clear_64 rfl (lv_at hl 1 rfl) ?_
      refine lv_iconst (v := 0) C.1 C.2.1 dX4_clear_65 (by decide) ?_
      obtain ⟨g_66, hf⟩ := gd hf
      obtain ⟨σ2, e_66, hf⟩ := stb hf
      refine z_iast C S 14 o0 rfl ho0 4 (fun _ => rfl) g_66 dX4_clear_66 (fun H locs S => ?_)
      rw [← e_66] at S
      refine lv_iinc (v := (v2 + 1)) (lv' := [(2, .int (v2 + 1)), (0, .ref (ad 4 o0))]) C.1 C.2.1 dX4_clear_67 hl (k := 1) rfl rfl (by decide) rfl (fun ls hl => ?_)
      refine lv_goto (tgt := 48) C.1 C.2.1 dX4_clear_70 (by decide) ?_
      exact ih _ o0 (v2 + 1) _ _ _ S (lv_sub hl [1, 0] rfl) ho0 hf
set_option maxHeartbeats 4000000 in
set_option maxRecDepth 100000 in
theorem w_X4_clear_0 {p : Program} {l : Launch} {e : Env} {s : State} {m : MethodId} {args : Array Value} {below : List Frame} {meth : Method} {c : Code} {G : Gx} {ad : Ad} {res : Sg} (C : Cx p s m args meth c yX4_clear.cls cX4_clear 3 none G)  : ∀ (σ : Sg) (o0 : Nat) (v1 : Int32) (H : Heap) (locs : List Loc) (ls : Array Slot), z_S 0 G ad σ (z_A 0 ad s.heap.size) s.heap H locs → lv_has ls 3 [(0, .ref (ad 4 o0)), (1, .int v1)] → (o0 < z_cnt 4) → f_X4_clear  σ o0 v1 = some res → W p l e { frames := 1, cells := 0, slots := 0, locals := 26 } s m args below meth c H locs 0 0 (MQ below (va_Qv (S := Unit) (fun _ => True) (fun _ t => z_W 0 G ad res t.heap) (z_A 0 ad s.heap.size)) args s 0 0 (z_A 0 ad s.heap.size)) (F0 m 0 ls []) := by
  intro σ o0 v1 H locs ls S hl ho0 hf
  unfold f_X4_clear at hf
  refine lv_aload_n C.1 C.2.1 dX4_clear_0 rfl (lv_at hl 0 rfl) ?_
  refine lv_iload_n C.1 C.2.1 dX4_clear_1 rfl (lv_at hl 1 rfl) ?_
  obtain ⟨σ1, e_2, hf⟩ := stb hf
  refine z_putI C S 4 o0 rfl ho0 cf_4 0 (by decide) (pi_4_0 G ad o0) rfl rfl rfl tw_1_220 dX4_clear_2 (fun H locs S => ?_)
  rw [← e_2] at S
  refine lv_aload_n C.1 C.2.1 dX4_clear_5 rfl (lv_at hl 0 rfl) ?_
  refine lv_iconst (v := 0) C.1 C.2.1 dX4_clear_6 (by decide) ?_
  obtain ⟨σ2, e_7, hf⟩ := stb hf
  refine z_putI C S 4 o0 rfl ho0 cf_4 1 (by decide) (pi_4_1 G ad o0) rfl rfl rfl tw_1_223 dX4_clear_7 (fun H locs S => ?_)
  rw [← e_7] at S
  refine lv_aload_n C.1 C.2.1 dX4_clear_10 rfl (lv_at hl 0 rfl) ?_
  refine lv_iconst (v := 0) C.1 C.2.1 dX4_clear_11 (by decide) ?_
  obtain ⟨σ3, e_12, hf⟩ := stb hf
  refine z_putI C S 4 o0 rfl ho0 cf_4 2 (by decide) (pi_4_2 G ad o0) rfl rfl rfl tw_1_227 dX4_clear_12 (fun H locs S => ?_)
  rw [← e_12] at S
  refine lv_aload_n C.1 C.2.1 dX4_clear_15 rfl (lv_at hl 0 rfl) ?_
  refine lv_iconst (v := 0) C.1 C.2.1 dX4_clear_16 (by decide) ?_
  obtain ⟨σ4, e_17, hf⟩ := stb hf
  refine z_putI C S 4 o0 rfl ho0 cf_4 3 (by decide) (pi_4_3 G ad o0) rfl rfl rfl tw_1_231 dX4_clear_17 (fun H locs S => ?_)
  rw [← e_17] at S
  refine lv_aload_n C.1 C.2.1 dX4_clear_20 rfl (lv_at hl 0 rfl) ?_
  refine lv_iconst (v := 1) C.1 C.2.1 dX4_clear_21 (by decide) ?_
  obtain ⟨σ5, e_22, hf⟩ := stb hf
  refine z_putI C S 4 o0 rfl ho0 cf_4 4 (by decide) (pi_4_4 G ad o0) rfl rfl rfl tw_1_234 dX4_clear_22 (fun H locs S => ?_)
  rw [← e_22] at S
  refine z_getsN C S "FIRST_SETTING" 2 _ (List.mem_of_getElem? (i := 2) rfl) (List.mem_of_getElem? (i := 6) rfl) dX4_clear_25 ?_
  refine lv_iconst (v := 0) C.1 C.2.1 dX4_clear_28 (by decide) ?_
  refine lv_aload_n C.1 C.2.1 dX4_clear_29 rfl (lv_at hl 0 rfl) ?_
  refine z_getR C S 4 o0 rfl ho0 cf_4 5 (by decide) _ (gr_4_5 G ad o0) tw_1_237 dX4_clear_30 ?_
  refine lv_iconst (v := 0) C.1 C.2.1 dX4_clear_33 (by decide) ?_
  refine lv_iconst (v := 5) C.1 C.2.1 dX4_clear_34 (by decide) ?_
  obtain ⟨σ6, e_35, hf⟩ := stb hf
  refine z_copyT C S hl.1 2 (by decide) 12 o0 rfl ho0 (fun _ => rfl) tw_2_117 (Nat.le_of_ble_eq_true rfl) (Nat.le_of_ble_eq_true rfl) dX4_clear_35 (fun H locs S => ?_)
  rw [← e_35] at S
  refine lv_aload_n C.1 C.2.1 dX4_clear_38 rfl (lv_at hl 0 rfl) ?_
  refine z_getR C S 4 o0 rfl ho0 cf_4 8 (by decide) _ (gr_4_8 G ad o0) tw_2_7 dX4_clear_39 ?_
  refine lv_iconst (v := 0) C.1 C.2.1 dX4_clear_42 (by decide) ?_
  obtain ⟨σ7, e_43, hf⟩ := stb hf
  refine z_putI C S 5 o0 rfl (oc5 ho0) cf_5 0 (by decide) (pi_5_0 G ad o0) rfl rfl rfl tw_1_60 dX4_clear_43 (fun H locs S => ?_)
  rw [← e_43] at S
  refine lv_iconst (v := 0) C.1 C.2.1 dX4_clear_46 (by decide) ?_
  refine lv_istore_n (lv' := [(2, .int 0), (0, .ref (ad 4 o0)), (1, .int v1)]) C.1 C.2.1 dX4_clear_47 rfl hl (by decide) rfl (fun ls hl => ?_)
  exact w_X4_clear_48 C FU _ o0 0 _ _ _ S (lv_sub hl [1, 0] rfl) ho0 hf
theorem kv_X4_clear : KV yX4_clear cX4_clear 3 none 1 := ⟨tw_2_114, tw_2_112, tw_2_113, tw_1_12, by decide, by decide, by decide +kernel⟩
theorem m_X4_clear (l : Launch) (G : Gx) (ad : Ad) (σ : Sg) (o0 : Nat) (v1 : Int32) (σ' : Sg) (ho0 : o0 < z_cnt 4) (hf : f_X4_clear σ o0 v1 = some σ') (sz : Nat) : z_MV l yX4_clear cX4_clear 3 none 1 26 0 G ad σ sz [.ref (ad 4 o0), .int v1] σ' := by
  refine z_begin (by decide +kernel) (Nat.le_of_ble_eq_true rfl) [(0, .ref (ad 4 o0)), (1, .int v1)] rfl (fun p e s m args below meth c ls C hz S hl => ?_)
  subst hz
  exact w_X4_clear_0 (res := σ') C σ o0 v1 _ _ _ S hl ho0 hf

theorem dX2_noteBid_0 : decode cX2_noteBid 0 = .ok (.aload_n 0, 1) := by decide +kernel
theorem dX2_noteBid_1 : decode cX2_noteBid 1 = .ok (.getfield 18, 3) := by decide +kernel
theorem dX2_noteBid_4 : decode cX2_noteBid 4 = .ok (.iload_n 1, 1) := by decide +kernel
theorem dX2_noteBid_5 : decode cX2_noteBid 5 = .ok (.iconst 4, 1) := by decide +kernel
theorem dX2_noteBid_6 : decode cX2_noteBid 6 = .ok (.imul, 1) := by decide +kernel
theorem dX2_noteBid_7 : decode cX2_noteBid 7 = .ok (.iload_n 2, 1) := by decide +kernel
theorem dX2_noteBid_8 : decode cX2_noteBid 8 = .ok (.iadd, 1) := by decide +kernel
theorem dX2_noteBid_9 : decode cX2_noteBid 9 = .ok (.iload_n 3, 1) := by decide +kernel
theorem dX2_noteBid_10 : decode cX2_noteBid 10 = .ok (.iastore, 1) := by decide +kernel
theorem dX2_noteBid_11 : decode cX2_noteBid 11 = .ok (.return_, 1) := by decide +kernel
/-! BusLifts$Car.noteBid(III)V -/
noncomputable def f_X2_noteBid  (σ : Sg) (o0 : Nat) (v1 : Int32) (v2 : Int32) (v3 : Int32) : Option Sg := if ((v1 * 4) + v2) < 0 ∨ 96 ≤ (((v1 * 4) + v2)).toNatClampNeg then none else (st (sup σ 18 o0 (((v1 * 4) + v2)).toNatClampNeg v3) fun σ1 => (some σ1))
set_option maxHeartbeats 4000000 in
set_option maxRecDepth 100000 in
theorem w_X2_noteBid_0 {p : Program} {l : Launch} {e : Env} {s : State} {m : MethodId} {args : Array Value} {below : List Frame} {meth : Method} {c : Code} {G : Gx} {ad : Ad} {res : Sg} (C : Cx p s m args meth c yX2_noteBid.cls cX2_noteBid 4 none G)  : ∀ (σ : Sg) (o0 : Nat) (v1 : Int32) (v2 : Int32) (v3 : Int32) (H : Heap) (locs : List Loc) (ls : Array Slot), z_S 0 G ad σ (z_A 0 ad s.heap.size) s.heap H locs → lv_has ls 4 [(0, .ref (ad 2 o0)), (1, .int v1), (2, .int v2), (3, .int v3)] → (o0 < z_cnt 2) → f_X2_noteBid  σ o0 v1 v2 v3 = some res → W p l e { frames := 0, cells := 0, slots := 0, locals := 0 } s m args below meth c H locs 0 0 (MQ below (va_Qv (S := Unit) (fun _ => True) (fun _ t => z_W 0 G ad res t.heap) (z_A 0 ad s.heap.size)) args s 0 0 (z_A 0 ad s.heap.size)) (F0 m 0 ls []) := by
  intro σ o0 v1 v2 v3 H locs ls S hl ho0 hf
  unfold f_X2_noteBid at hf
  refine lv_aload_n C.1 C.2.1 dX2_noteBid_0 rfl (lv_at hl 0 rfl) ?_
  refine z_getR C S 2 o0 rfl ho0 cf_2 12 (by decide) _ (gr_2_12 G ad o0) tw_1_125 dX2_noteBid_1 ?_
  refine lv_iload_n C.1 C.2.1 dX2_noteBid_4 rfl (lv_at hl 1 rfl) ?_
  refine lv_iconst (v := 4) C.1 C.2.1 dX2_noteBid_5 (by decide) ?_
  refine lv_imul C.1 C.2.1 dX2_noteBid_6 ?_
  refine lv_iload_n C.1 C.2.1 dX2_noteBid_7 rfl (lv_at hl 2 rfl) ?_
  refine lv_iadd C.1 C.2.1 dX2_noteBid_8 ?_
  refine lv_iload_n C.1 C.2.1 dX2_noteBid_9 rfl (lv_at hl 3 rfl) ?_
  obtain ⟨g_10, hf⟩ := gd hf
  obtain ⟨σ1, e_10, hf⟩ := stb hf
  refine z_iast C S 18 o0 rfl ho0 96 (fun _ => rfl) g_10 dX2_noteBid_10 (fun H locs S => ?_)
  rw [← e_10] at S
  exact z_vret C S hf dX2_noteBid_11
theorem kv_X2_noteBid : KV yX2_noteBid cX2_noteBid 4 none 3 := ⟨tw_2_135, tw_2_133, tw_2_134, tw_1_14, by decide, by decide, by decide +kernel⟩
theorem m_X2_noteBid (l : Launch) (G : Gx) (ad : Ad) (σ : Sg) (o0 : Nat) (v1 : Int32) (v2 : Int32) (v3 : Int32) (σ' : Sg) (ho0 : o0 < z_cnt 2) (hf : f_X2_noteBid σ o0 v1 v2 v3 = some σ') (sz : Nat) : z_MV l yX2_noteBid cX2_noteBid 4 none 0 0 0 G ad σ sz [.ref (ad 2 o0), .int v1, .int v2, .int v3] σ' := by
  refine z_begin (by decide +kernel) (Nat.le_of_ble_eq_true rfl) [(0, .ref (ad 2 o0)), (1, .int v1), (2, .int v2), (3, .int v3)] rfl (fun p e s m args below meth c ls C hz S hl => ?_)
  subst hz
  exact w_X2_noteBid_0 (res := σ') C σ o0 v1 v2 v3 _ _ _ S hl ho0 hf

theorem dX2_dropBids_0 : decode cX2_dropBids 0 = .ok (.iconst 0, 1) := by decide +kernel
theorem dX2_dropBids_1 : decode cX2_dropBids 1 = .ok (.istore_n 2, 1) := by decide +kernel
theorem dX2_dropBids_2 : decode cX2_dropBids 2 = .ok (.iload_n 2, 1) := by decide +kernel
theorem dX2_dropBids_3 : decode cX2_dropBids 3 = .ok (.iconst 4, 1) := by decide +kernel
theorem dX2_dropBids_4 : decode cX2_dropBids 4 = .ok (.if_icmp .ge 16, 3) := by decide +kernel
theorem dX2_dropBids_7 : decode cX2_dropBids 7 = .ok (.aload_n 0, 1) := by decide +kernel
theorem dX2_dropBids_8 : decode cX2_dropBids 8 = .ok (.iload_n 1, 1) := by decide +kernel
theorem dX2_dropBids_9 : decode cX2_dropBids 9 = .ok (.iload_n 2, 1) := by decide +kernel
theorem dX2_dropBids_10 : decode cX2_dropBids 10 = .ok (.iconst (-1), 1) := by decide +kernel
theorem dX2_dropBids_11 : decode cX2_dropBids 11 = .ok (.invokevirtual 76, 3) := by decide +kernel
theorem dX2_dropBids_14 : decode cX2_dropBids 14 = .ok (.iinc 2 1, 3) := by decide +kernel
theorem dX2_dropBids_17 : decode cX2_dropBids 17 = .ok (.goto (-15), 3) := by decide +kernel
theorem dX2_dropBids_20 : decode cX2_dropBids 20 = .ok (.return_, 1) := by decide +kernel
/-! BusLifts$Car.dropBids(I)V -/
noncomputable def f_X2_dropBids_20  (σ : Sg)  : Option Sg := some σ
noncomputable def f_X2_dropBids_2  : Nat → Sg → Nat → Int32 → Int32 → Option Sg
  | 0, _, _, _, _ => none
  | n + 1, σ, o0, v1, v2 => if 4 ≤ v2 then (f_X2_dropBids_20 σ) else (bv (f_X2_noteBid σ o0 v1 v2 (-1)) fun σ1 => (f_X2_dropBids_2  n σ1 o0 v1 (v2 + 1)))
theorem f_X2_dropBids_2_s  (n : Nat) (σ : Sg) (o0 : Nat) (v1 : Int32) (v2 : Int32) : f_X2_dropBids_2  (n + 1) σ o0 v1 v2 = (if 4 ≤ v2 then (f_X2_dropBids_20 σ) else (bv (f_X2_noteBid σ o0 v1 v2 (-1)) fun σ1 => (f_X2_dropBids_2  n σ1 o0 v1 (v2 + 1)))) := rfl
noncomputable def f_X2_dropBids  (σ : Sg) (o0 : Nat) (v1 : Int32) : Option Sg := f_X2_dropBids_2 FU σ o0 v1 0
set_option maxHeartbeats 4000000 in
set_option maxRecDepth 100000 in
theorem w_X2_dropBids_20 {p : Program} {l : Launch} {e : Env} {s : State} {m : MethodId} {args : Array Value} {below : List Frame} {meth : Method} {c : Code} {G : Gx} {ad : Ad} {res : Sg} (C : Cx p s m args meth c yX2_dropBids.cls cX2_dropBids 3 none G)  : ∀ (σ : Sg)  (H : Heap) (locs : List Loc) (ls : Array Slot), z_S 0 G ad σ (z_A 0 ad s.heap.size) s.heap H locs → lv_has ls 3 [] → f_X2_dropBids_20  σ  = some res → W p l e { frames := 1, cells := 0, slots := 0, locals := 23 } s m args below meth c H locs 0 0 (MQ below (va_Qv (S := Unit) (fun _ => True) (fun _ t => z_W 0 G ad res t.heap) (z_A 0 ad s.heap.size)) args s 0 0 (z_A 0 ad s.heap.size)) (F0 m 20 ls []) := by
  intro σ  H locs ls S hl  hf
  unfold f_X2_dropBids_20 at hf
  exact z_vret C S hf dX2_dropBids_20
set_option maxHeartbeats 4000000 in
set_option maxRecDepth 100000 in
theorem w_X2_dropBids_2 {p : Program} {l : Launch} {e : Env} {s : State} {m : MethodId} {args : Array Value} {below : List Frame} {meth : Method} {c : Code} {G : Gx} {ad : Ad} {res : Sg} (C : Cx p s m args meth c yX2_dropBids.cls cX2_dropBids 3 none G)  : ∀ n : Nat, ∀ (σ : Sg) (o0 : Nat) (v1 : Int32) (v2 : Int32) (H : Heap) (locs : List Loc) (ls : Array Slot), z_S 0 G ad σ (z_A 0 ad s.heap.size) s.heap H locs → lv_has ls 3 [(0, .ref (ad 2 o0)), (1, .int v1), (2, .int v2)] → (o0 < z_cnt 2) → f_X2_dropBids_2  n σ o0 v1 v2 = some res → W p l e { frames := 1, cells := 0, slots := 0, locals := 23 } s m args below meth c H locs 0 0 (MQ below (va_Qv (S := Unit) (fun _ => True) (fun _ t => z_W 0 G ad res t.heap) (z_A 0 ad s.heap.size)) args s 0 0 (z_A 0 ad s.heap.size)) (F0 m 2 ls []) := by
  intro n
  induction n with
  | zero => intro σ o0 v1 v2 H locs ls S hl ho0 hf; cases hf
  | succ n ih =>
    intro σ o0 v1 v2 H locs ls S hl ho0 hf
    rw [f_X2_dropBids_2_s] at hf
    refine lv_iload_n C.1 C.2.1 dX2_dropBids_2 rfl (lv_at hl 2 rfl) ?_
    refine lv_iconst (v := 4) C.1 C.2.1 dX2_dropBids_3 (by decide) ?_
    refine lv_icmp_ge (tgt := 20) C.1 C.2.1 dX2_dropBids_4 (by decide) (fun c_4 => ?_) (fun c_4 => ?_)
    · rw [if_pos c_4] at hf
      exact w_X2_dropBids_20 C _ _ _ _ S (lv_sub hl [] rfl) hf
    · rw [if_neg c_4] at hf
      refine lv_aload_n C.1 C.2.1 dX2_dropBids_7 rfl (lv_at hl 0 rfl) ?_
      refine lv_iload_n C.1 C.2.1 dX2_dropBids_8 rfl (lv_at hl 1 rfl) ?_
      refine lv_iload_n C.1 C.2.1 dX2_dropBids_9 rfl (lv_at hl 2 rfl) ?_
      refine lv_iconst (v := (-1)) C.1 C.2.1 dX2_dropBids_10 (by decide) ?_
      obtain ⟨σ1, q_11, hf⟩ := bvb hf
      refine z_callV C S 2 o0 rfl ho0 cf_2 ⟨_, rfl⟩ [.int v1, .int v2, .int (-1)] (m_X2_noteBid l G ad σ o0 v1 v2 (-1) σ1 ho0 q_11 _) kv_X2_noteBid tw_2_132 ⟨Nat.le_of_ble_eq_true rfl, Nat.le_of_ble_eq_true rfl⟩ rfl rfl (Nat.le_of_ble_eq_true rfl) hl.1 ⟨Nat.le_of_ble_eq_true rfl, Nat.le_of_ble_eq_true rfl⟩ dX2_dropBids_11 (fun H locs S => ?_)
      refine lv_iinc (v := (v2 + 1)) (lv' := [(2, .int (v2 + 1)), (0, .ref (ad 2 o0)), (1, .int v1)]) C.1 C.2.1 dX2_dropBids_14 hl (k := 2) rfl rfl (by decide) rfl (fun ls hl => ?_)
      refine lv_goto (tgt := 2) C.1 C.2.1 dX2_dropBids_17 (by decide) ?_
      exact ih _ o0 v1 (v2 + 1) _ _ _ S (lv_sub hl [1, 2, 0] rfl) ho0 hf
set_option maxHeartbeats 4000000 in
set_option maxRecDepth 100000 in
theorem w_X2_dropBids_0 {p : Program} {l : Launch} {e : Env} {s : State} {m : MethodId} {args : Array Value} {below : List Frame} {meth : Method} {c : Code} {G : Gx} {ad : Ad} {res : Sg} (C : Cx p s m args meth c yX2_dropBids.cls cX2_dropBids 3 none G)  : ∀ (σ : Sg) (o0 : Nat) (v1 : Int32) (H : Heap) (locs : List Loc) (ls : Array Slot), z_S 0 G ad σ (z_A 0 ad s.heap.size) s.heap H locs → lv_has ls 3 [(0, .ref (ad 2 o0)), (1, .int v1)] → (o0 < z_cnt 2) → f_X2_dropBids  σ o0 v1 = some res → W p l e { frames := 1, cells := 0, slots := 0, locals := 23 } s m args below meth c H locs 0 0 (MQ below (va_Qv (S := Unit) (fun _ => True) (fun _ t => z_W 0 G ad res t.heap) (z_A 0 ad s.heap.size)) args s 0 0 (z_A 0 ad s.heap.size)) (F0 m 0 ls []) := by
  intro σ o0 v1 H locs ls S hl ho0 hf
  unfold f_X2_dropBids at hf
  refine lv_iconst (v := 0) C.1 C.2.1 dX2_dropBids_0 (by decide) ?_
  refine lv_istore_n (lv' := [(2, .int 0), (0, .ref (ad 2 o0)), (1, .int v1)]) C.1 C.2.1 dX2_dropBids_1 rfl hl (by decide) rfl (fun ls hl => ?_)
  exact w_X2_dropBids_2 C FU _ o0 v1 0 _ _ _ S (lv_sub hl [1, 2, 0] rfl) ho0 hf
theorem kv_X2_dropBids : KV yX2_dropBids cX2_dropBids 3 none 1 := ⟨tw_2_131, tw_2_129, tw_2_130, tw_1_14, by decide, by decide, by decide +kernel⟩
theorem m_X2_dropBids (l : Launch) (G : Gx) (ad : Ad) (σ : Sg) (o0 : Nat) (v1 : Int32) (σ' : Sg) (ho0 : o0 < z_cnt 2) (hf : f_X2_dropBids σ o0 v1 = some σ') (sz : Nat) : z_MV l yX2_dropBids cX2_dropBids 3 none 1 23 0 G ad σ sz [.ref (ad 2 o0), .int v1] σ' := by
  refine z_begin (by decide +kernel) (Nat.le_of_ble_eq_true rfl) [(0, .ref (ad 2 o0)), (1, .int v1)] rfl (fun p e s m args below meth c ls C hz S hl => ?_)
  subst hz
  exact w_X2_dropBids_0 (res := σ') C σ o0 v1 _ _ _ S hl ho0 hf

theorem dX2_start_0 : decode cX2_start 0 = .ok (.aload_n 0, 1) := by decide +kernel
theorem dX2_start_1 : decode cX2_start 1 = .ok (.iload_n 1, 1) := by decide +kernel
theorem dX2_start_2 : decode cX2_start 2 = .ok (.putfield 24, 3) := by decide +kernel
theorem dX2_start_5 : decode cX2_start 5 = .ok (.aload_n 0, 1) := by decide +kernel
theorem dX2_start_6 : decode cX2_start 6 = .ok (.iload_n 2, 1) := by decide +kernel
theorem dX2_start_7 : decode cX2_start 7 = .ok (.putfield 28, 3) := by decide +kernel
theorem dX2_start_10 : decode cX2_start 10 = .ok (.aload_n 0, 1) := by decide +kernel
theorem dX2_start_11 : decode cX2_start 11 = .ok (.iconst 0, 1) := by decide +kernel
theorem dX2_start_12 : decode cX2_start 12 = .ok (.putfield 31, 3) := by decide +kernel
theorem dX2_start_15 : decode cX2_start 15 = .ok (.aload_n 0, 1) := by decide +kernel
theorem dX2_start_16 : decode cX2_start 16 = .ok (.iconst 0, 1) := by decide +kernel
theorem dX2_start_17 : decode cX2_start 17 = .ok (.putfield 34, 3) := by decide +kernel
theorem dX2_start_20 : decode cX2_start 20 = .ok (.aload_n 0, 1) := by decide +kernel
theorem dX2_start_21 : decode cX2_start 21 = .ok (.iconst 0, 1) := by decide +kernel
theorem dX2_start_22 : decode cX2_start 22 = .ok (.putfield 38, 3) := by decide +kernel
theorem dX2_start_25 : decode cX2_start 25 = .ok (.aload_n 0, 1) := by decide +kernel
theorem dX2_start_26 : decode cX2_start 26 = .ok (.iconst 0, 1) := by decide +kernel
theorem dX2_start_27 : decode cX2_start 27 = .ok (.putfield 41, 3) := by decide +kernel
theorem dX2_start_30 : decode cX2_start 30 = .ok (.aload_n 0, 1) := by decide +kernel
theorem dX2_start_31 : decode cX2_start 31 = .ok (.iconst 0, 1) := by decide +kernel
theorem dX2_start_32 : decode cX2_start 32 = .ok (.putfield 44, 3) := by decide +kernel
theorem dX2_start_35 : decode cX2_start 35 = .ok (.aload_n 0, 1) := by decide +kernel
theorem dX2_start_36 : decode cX2_start 36 = .ok (.iconst 0, 1) := by decide +kernel
theorem dX2_start_37 : decode cX2_start 37 = .ok (.putfield 47, 3) := by decide +kernel
theorem dX2_start_40 : decode cX2_start 40 = .ok (.aload_n 0, 1) := by decide +kernel
theorem dX2_start_41 : decode cX2_start 41 = .ok (.iconst 0, 1) := by decide +kernel
theorem dX2_start_42 : decode cX2_start 42 = .ok (.putfield 50, 3) := by decide +kernel
theorem dX2_start_45 : decode cX2_start 45 = .ok (.aload_n 0, 1) := by decide +kernel
theorem dX2_start_46 : decode cX2_start 46 = .ok (.iconst 0, 1) := by decide +kernel
theorem dX2_start_47 : decode cX2_start 47 = .ok (.putfield 53, 3) := by decide +kernel
theorem dX2_start_50 : decode cX2_start 50 = .ok (.iconst 0, 1) := by decide +kernel
theorem dX2_start_51 : decode cX2_start 51 = .ok (.istore_n 3, 1) := by decide +kernel
theorem dX2_start_52 : decode cX2_start 52 = .ok (.iload_n 3, 1) := by decide +kernel
theorem dX2_start_53 : decode cX2_start 53 = .ok (.bipush 24, 2) := by decide +kernel
theorem dX2_start_55 : decode cX2_start 55 = .ok (.if_icmp .ge 28, 3) := by decide +kernel
theorem dX2_start_58 : decode cX2_start 58 = .ok (.aload_n 0, 1) := by decide +kernel
theorem dX2_start_59 : decode cX2_start 59 = .ok (.getfield 9, 3) := by decide +kernel
theorem dX2_start_62 : decode cX2_start 62 = .ok (.iload_n 3, 1) := by decide +kernel
theorem dX2_start_63 : decode cX2_start 63 = .ok (.iconst (-1), 1) := by decide +kernel
theorem dX2_start_64 : decode cX2_start 64 = .ok (.iastore, 1) := by decide +kernel
theorem dX2_start_65 : decode cX2_start 65 = .ok (.aload_n 0, 1) := by decide +kernel
theorem dX2_start_66 : decode cX2_start 66 = .ok (.getfield 15, 3) := by decide +kernel
theorem dX2_start_69 : decode cX2_start 69 = .ok (.iload_n 3, 1) := by decide +kernel
theorem dX2_start_70 : decode cX2_start 70 = .ok (.iconst (-1), 1) := by decide +kernel
theorem dX2_start_71 : decode cX2_start 71 = .ok (.iastore, 1) := by decide +kernel
theorem dX2_start_72 : decode cX2_start 72 = .ok (.aload_n 0, 1) := by decide +kernel
theorem dX2_start_73 : decode cX2_start 73 = .ok (.iload_n 3, 1) := by decide +kernel
theorem dX2_start_74 : decode cX2_start 74 = .ok (.invokevirtual 56, 3) := by decide +kernel
theorem dX2_start_77 : decode cX2_start 77 = .ok (.iinc 3 1, 3) := by decide +kernel
theorem dX2_start_80 : decode cX2_start 80 = .ok (.goto (-28), 3) := by decide +kernel
theorem dX2_start_83 : decode cX2_start 83 = .ok (.iconst 0, 1) := by decide +kernel
theorem dX2_start_84 : decode cX2_start 84 = .ok (.istore_n 3, 1) := by decide +kernel
theorem dX2_start_85 : decode cX2_start 85 = .ok (.iload_n 3, 1) := by decide +kernel
theorem dX2_start_86 : decode cX2_start 86 = .ok (.iconst 4, 1) := by decide +kernel
theorem dX2_start_87 : decode cX2_start 87 = .ok (.if_icmp .ge 16, 3) := by decide +kernel
theorem dX2_start_90 : decode cX2_start 90 = .ok (.aload_n 0, 1) := by decide +kernel
theorem dX2_start_91 : decode cX2_start 91 = .ok (.getfield 21, 3) := by decide +kernel
theorem dX2_start_94 : decode cX2_start 94 = .ok (.iload_n 3, 1) := by decide +kernel
theorem dX2_start_95 : decode cX2_start 95 = .ok (.iconst 0, 1) := by decide +kernel
theorem dX2_start_96 : decode cX2_start 96 = .ok (.iastore, 1) := by decide +kernel
theorem dX2_start_97 : decode cX2_start 97 = .ok (.iinc 3 1, 3) := by decide +kernel
theorem dX2_start_100 : decode cX2_start 100 = .ok (.goto (-15), 3) := by decide +kernel
theorem dX2_start_103 : decode cX2_start 103 = .ok (.return_, 1) := by decide +kernel
/-! BusLifts$Car.start(II)V -/
noncomputable def f_X2_start_103  (σ : Sg)  : Option Sg := some σ
noncomputable def f_X2_start_85  : Nat → Sg → Nat → Int32 → Option Sg
  | 0, _, _, _ => none
  | n + 1, σ, o0, v3 => if 4 ≤ v3 then (f_X2_start_103 σ) else (if v3 < 0 ∨ 4 ≤ (v3).toNatClampNeg then none else (st (sup σ 19 o0 (v3).toNatClampNeg 0) fun σ1 => (f_X2_start_85  n σ1 o0 (v3 + 1))))
theorem f_X2_start_85_s  (n : Nat) (σ : Sg) (o0 : Nat) (v3 : Int32) : f_X2_start_85  (n + 1) σ o0 v3 = (if 4 ≤ v3 then (f_X2_start_103 σ) else (if v3 < 0 ∨ 4 ≤ (v3).toNatClampNeg then none else (st (sup σ 19 o0 (v3).toNatClampNeg 0) fun σ1 => (f_X2_start_85  n σ1 o0 (v3 + 1))))) := rfl
noncomputable def f_X2_start_83  (σ : Sg) (o0 : Nat) : Option Sg := f_X2_start_85 FU σ o0 0
noncomputable def f_X2_start_52  : Nat → Sg → Nat → Int32 → Option Sg
  | 0, _, _, _ => none
  | n + 1, σ, o0, v3 => if 24 ≤ v3 then (f_X2_start_83 σ o0) else (if v3 < 0 ∨ 24 ≤ (v3).toNatClampNeg then none else (st (sup σ 16 o0 (v3).toNatClampNeg (-1)) fun σ1 => (if v3 < 0 ∨ 24 ≤ (v3).toNatClampNeg then none else (st (sup σ1 17 o0 (v3).toNatClampNeg (-1)) fun σ2 => (bv (f_X2_dropBids σ2 o0 v3) fun σ3 => (f_X2_start_52  n σ3 o0 (v3 + 1)))))))
theorem f_X2_start_52_s  (n : Nat) (σ : Sg) (o0 : Nat) (v3 : Int32) : f_X2_start_52  (n + 1) σ o0 v3 = (if 24 ≤ v3 then (f_X2_start_83 σ o0) else (if v3 < 0 ∨ 24 ≤ (v3).toNatClampNeg then none else (st (sup σ 16 o0 (v3).toNatClampNeg (-1)) fun σ1 => (if v3 < 0 ∨ 24 ≤ (v3).toNatClampNeg then none else (st (sup σ1 17 o0 (v3).toNatClampNeg (-1)) fun σ2 => (bv (f_X2_dropBids σ2 o0 v3) fun σ3 => (f_X2_start_52  n σ3 o0 (v3 + 1)))))))) := rfl
noncomputable def f_X2_start  (σ : Sg) (o0 : Nat) (v1 : Int32) (v2 : Int32) : Option Sg := st (sup σ 2 o0 0 v1) fun σ1 => (st (sup σ1 2 o0 1 v2) fun σ2 => (st (sup σ2 2 o0 2 0) fun σ3 => (st (sup σ3 2 o0 3 0) fun σ4 => (st (sup σ4 2 o0 4 0) fun σ5 => (st (sup σ5 2 o0 5 0) fun σ6 => (st (sup σ6 2 o0 6 0) fun σ7 => (st (sup σ7 2 o0 7 0) fun σ8 => (st (sup σ8 2 o0 8 0) fun σ9 => (st (sup σ9 2 o0 9 0) fun σ10 => (f_X2_start_52 FU σ10 o0 0))))))))))
set_option maxHeartbeats 4000000 in
set_option maxRecDepth 100000 in
theorem w_X2_start_103 {p : Program} {l : Launch} {e : Env} {s : State} {m : MethodId} {args : Array Value} {below : List Frame} {meth : Method} {c : Code} {G : Gx} {ad : Ad} {res : Sg} (C : Cx p s m args meth c yX2_start.cls cX2_start 4 none G)  : ∀ (σ : Sg)  (H : Heap) (locs : List Loc) (ls : Array Slot), z_S 0 G ad σ (z_A 0 ad s.heap.size) s.heap H locs → lv_has ls 4 [] → f_X2_start_103  σ  = some res → W p l e { frames := 2, cells := 0, slots := 0, locals := 45 } s m args below meth c H locs 0 0 (MQ below (va_Qv (S := Unit) (fun _ => True) (fun _ t => z_W 0 G ad res t.heap) (z_A 0 ad s.heap.size)) args s 0 0 (z_A 0 ad s.heap.size)) (F0 m 103 ls []) := by
  intro σ  H locs ls S hl  hf
  unfold f_X2_start_103 at hf
  exact z_vret C S hf dX2_start_103
set_option maxHeartbeats 4000000 in
set_option maxRecDepth 100000 in
theorem w_X2_start_85 {p : Program} {l : Launch} {e : Env} {s : State} {m : MethodId} {args : Array Value} {below : List Frame} {meth : Method} {c : Code} {G : Gx} {ad : Ad} {res : Sg} (C : Cx p s m args meth c yX2_start.cls cX2_start 4 none G)  : ∀ n : Nat, ∀ (σ : Sg) (o0 : Nat) (v3 : Int32) (H : Heap) (locs : List Loc) (ls : Array Slot), z_S 0 G ad σ (z_A 0 ad s.heap.size) s.heap H locs → lv_has ls 4 [(0, .ref (ad 2 o0)), (3, .int v3)] → (o0 < z_cnt 2) → f_X2_start_85  n σ o0 v3 = some res → W p l e { frames := 2, cells := 0, slots := 0, locals := 45 } s m args below meth c H locs 0 0 (MQ below (va_Qv (S := Unit) (fun _ => True) (fun _ t => z_W 0 G ad res t.heap) (z_A 0 ad s.heap.size)) args s 0 0 (z_A 0 ad s.heap.size)) (F0 m 85 ls []) := by
  intro n
  induction n with
  | zero => intro σ o0 v3 H locs ls S hl ho0 hf; cases hf
  | succ n ih =>
    intro σ o0 v3 H locs ls S hl ho0 hf
    rw [f_X2_start_85_s] at hf
    refine lv_iload_n C.1 C.2.1 dX2_start_85 rfl (lv_at hl 1 rfl) ?_
    refine lv_iconst (v := 4) C.1 C.2.1 dX2_start_86 (by decide) ?_
    refine lv_icmp_ge (tgt := 103) C.1 C.2.1 dX2_start_87 (by decide) (fun c_87 => ?_) (fun c_87 => ?_)
    · rw [if_pos c_87] at hf
      exact w_X2_start_103 C _ _ _ _ S (lv_sub hl [] rfl) hf
    · rw [if_neg c_87] at hf
      refine lv_aload_n C.1 C.2.1 dX2_start_90 rfl (lv_at hl 0 rfl) ?_
      refine z_getR C S 2 o0 rfl ho0 cf_2 13 (by decide) _ (gr_2_13 G ad o0) tw_1_126 dX2_start_91 ?_
      refine lv_iload_n C.1 C.2.1 dX2_start_94 rfl (lv_at hl 1 rfl) ?_
      refine lv_iconst (v := 0) C.1 C.2.1 dX2_start_95 (by decide) ?_
      obtain ⟨g_96, hf⟩ := gd hf
      obtain ⟨σ1, e_96, hf⟩ := stb hf
      refine z_iast C S 19 o0 rfl ho0 4 (fun _ => rfl) g_96 dX2_start_96 (fun H locs S => ?_)
      rw [← e_96] at S
      refine lv_iinc (v := (v3 + 1)) (lv' := [(3, .int (v3 + 1)), (0, .ref (ad 2 o0))]) C.1 C.2.1 dX2_start_97 hl (k := 1) rfl rfl (by decide) rfl (fun ls hl => ?_)
      refine lv_goto (tgt := 85) C.1 C.2.1 dX2_start_100 (by decide) ?_
      exact ih _ o0 (v3 + 1) _ _ _ S (lv_sub hl [1, 0] rfl) ho0 hf
set_option maxHeartbeats 4000000 in
set_option maxRecDepth 100000 in
theorem w_X2_start_83 {p : Program} {l : Launch} {e : Env} {s : State} {m : MethodId} {args : Array Value} {below : List Frame} {meth : Method} {c : Code} {G : Gx} {ad : Ad} {res : Sg} (C : Cx p s m args meth c yX2_start.cls cX2_start 4 none G)  : ∀ (σ : Sg) (o0 : Nat) (H : Heap) (locs : List Loc) (ls : Array Slot), z_S 0 G ad σ (z_A 0 ad s.heap.size) s.heap H locs → lv_has ls 4 [(0, .ref (ad 2 o0))] → (o0 < z_cnt 2) → f_X2_start_83  σ o0 = some res → W p l e { frames := 2, cells := 0, slots := 0, locals := 45 } s m args below meth c H locs 0 0 (MQ below (va_Qv (S := Unit) (fun _ => True) (fun _ t => z_W 0 G ad res t.heap) (z_A 0 ad s.heap.size)) args s 0 0 (z_A 0 ad s.heap.size)) (F0 m 83 ls []) := by
  intro σ o0 H locs ls S hl ho0 hf
  unfold f_X2_start_83 at hf
  refine lv_iconst (v := 0) C.1 C.2.1 dX2_start_83 (by decide) ?_
  refine lv_istore_n (lv' := [(3, .int 0), (0, .ref (ad 2 o0))]) C.1 C.2.1 dX2_start_84 rfl hl (by decide) rfl (fun ls hl => ?_)
  exact w_X2_start_85 C FU _ o0 0 _ _ _ S (lv_sub hl [1, 0] rfl) ho0 hf
set_option maxHeartbeats 4000000 in
set_option maxRecDepth 100000 in
theorem w_X2_start_52 {p : Program} {l : Launch} {e : Env} {s : State} {m : MethodId} {args : Array Value} {below : List Frame} {meth : Method} {c : Code} {G : Gx} {ad : Ad} {res : Sg} (C : Cx p s m args meth c yX2_start.cls cX2_start 4 none G)  : ∀ n : Nat, ∀ (σ : Sg) (o0 : Nat) (v3 : Int32) (H : Heap) (locs : List Loc) (ls : Array Slot), z_S 0 G ad σ (z_A 0 ad s.heap.size) s.heap H locs → lv_has ls 4 [(0, .ref (ad 2 o0)), (3, .int v3)] → (o0 < z_cnt 2) → f_X2_start_52  n σ o0 v3 = some res → W p l e { frames := 2, cells := 0, slots := 0, locals := 45 } s m args below meth c H locs 0 0 (MQ below (va_Qv (S := Unit) (fun _ => True) (fun _ t => z_W 0 G ad res t.heap) (z_A 0 ad s.heap.size)) args s 0 0 (z_A 0 ad s.heap.size)) (F0 m 52 ls []) := by
  intro n
  induction n with
  | zero => intro σ o0 v3 H locs ls S hl ho0 hf; cases hf
  | succ n ih =>
    intro σ o0 v3 H locs ls S hl ho0 hf
    rw [f_X2_start_52_s] at hf
    refine lv_iload_n C.1 C.2.1 dX2_start_52 rfl (lv_at hl 1 rfl) ?_
    refine lv_bipush (v := 24) C.1 C.2.1 dX2_start_53 (by decide) ?_
    refine lv_icmp_ge (tgt := 83) C.1 C.2.1 dX2_start_55 (by decide) (fun c_55 => ?_) (fun c_55 => ?_)
    · rw [if_pos c_55] at hf
      exact w_X2_start_83 C _ o0 _ _ _ S (lv_sub hl [0] rfl) ho0 hf
    · rw [if_neg c_55] at hf
      refine lv_aload_n C.1 C.2.1 dX2_start_58 rfl (lv_at hl 0 rfl) ?_
      refine z_getR C S 2 o0 rfl ho0 cf_2 10 (by decide) _ (gr_2_10 G ad o0) tw_1_120 dX2_start_59 ?_
      refine lv_iload_n C.1 C.2.1 dX2_start_62 rfl (lv_at hl 1 rfl) ?_
      refine lv_iconst (v := (-1)) C.1 C.2.1 dX2_start_63 (by decide) ?_
      obtain ⟨g_64, hf⟩ := gd hf
      obtain ⟨σ1, e_64, hf⟩ := stb hf
      refine z_iast C S 16 o0 rfl ho0 24 (fun _ => rfl) g_64 dX2_start_64 (fun H locs S => ?_)
      rw [← e_64] at S
      refine lv_aload_n C.1 C.2.1 dX2_start_65 rfl (lv_at hl 0 rfl) ?_
      refine z_getR C S 2 o0 rfl ho0 cf_2 11 (by decide) _ (gr_2_11 G ad o0) tw_1_122 dX2_start_66 ?_
      refine lv_iload_n C.1 C.2.1 dX2_start_69 rfl (lv_at hl 1 rfl) ?_
      refine lv_iconst (v := (-1)) C.1 C.2.1 dX2_start_70 (by decide) ?_
      obtain ⟨g_71, hf⟩ := gd hf
      obtain ⟨σ2, e_71, hf⟩ := stb hf
      refine z_iast C S 17 o0 rfl ho0 24 (fun _ => rfl) g_71 dX2_start_71 (fun H locs S => ?_)
      rw [← e_71] at S
      refine lv_aload_n C.1 C.2.1 dX2_start_72 rfl (lv_at hl 0 rfl) ?_
      refine lv_iload_n C.1 C.2.1 dX2_start_73 rfl (lv_at hl 1 rfl) ?_
      obtain ⟨σ3, q_74, hf⟩ := bvb hf
      refine z_callV C S 2 o0 rfl ho0 cf_2 ⟨_, rfl⟩ [.int v3] (m_X2_dropBids l G ad σ2 o0 v3 σ3 ho0 q_74 _) kv_X2_dropBids tw_2_128 ⟨Nat.le_of_ble_eq_true rfl, Nat.le_of_ble_eq_true rfl⟩ rfl rfl (Nat.le_of_ble_eq_true rfl) hl.1 ⟨Nat.le_of_ble_eq_true rfl, Nat.le_of_ble_eq_true rfl⟩ dX2_start_74 (fun H locs S => ?_)
      refine lv_iinc (v := (v3 + 1)) (lv' := [(3, .int (v3 + 1)), (0, .ref (ad 2 o0))]) C.1 C.2.1 dX2_start_77 hl (k := 1) rfl rfl (by decide) rfl (fun ls hl => ?_)
      refine lv_goto (tgt := 52) C.1 C.2.1 dX2_start_80 (by decide) ?_
      exact ih _ o0 (v3 + 1) _ _ _ S (lv_sub hl [1, 0] rfl) ho0 hf
set_option maxHeartbeats 4000000 in
set_option maxRecDepth 100000 in
theorem w_X2_start_0 {p : Program} {l : Launch} {e : Env} {s : State} {m : MethodId} {args : Array Value} {below : List Frame} {meth : Method} {c : Code} {G : Gx} {ad : Ad} {res : Sg} (C : Cx p s m args meth c yX2_start.cls cX2_start 4 none G)  : ∀ (σ : Sg) (o0 : Nat) (v1 : Int32) (v2 : Int32) (H : Heap) (locs : List Loc) (ls : Array Slot), z_S 0 G ad σ (z_A 0 ad s.heap.size) s.heap H locs → lv_has ls 4 [(0, .ref (ad 2 o0)), (1, .int v1), (2, .int v2)] → (o0 < z_cnt 2) → f_X2_start  σ o0 v1 v2 = some res → W p l e { frames := 2, cells := 0, slots := 0, locals := 45 } s m args below meth c H locs 0 0 (MQ below (va_Qv (S := Unit) (fun _ => True) (fun _ t => z_W 0 G ad res t.heap) (z_A 0 ad s.heap.size)) args s 0 0 (z_A 0 ad s.heap.size)) (F0 m 0 ls []) := by
  intro σ o0 v1 v2 H locs ls S hl ho0 hf
  unfold f_X2_start at hf
  refine lv_aload_n C.1 C.2.1 dX2_start_0 rfl (lv_at hl 0 rfl) ?_
  refine lv_iload_n C.1 C.2.1 dX2_start_1 rfl (lv_at hl 1 rfl) ?_
  obtain ⟨σ1, e_2, hf⟩ := stb hf
  refine z_putI C S 2 o0 rfl ho0 cf_2 0 (by decide) (pi_2_0 G ad o0) rfl rfl rfl tw_1_88 dX2_start_2 (fun H locs S => ?_)
  rw [← e_2] at S
  refine lv_aload_n C.1 C.2.1 dX2_start_5 rfl (lv_at hl 0 rfl) ?_
  refine lv_iload_n C.1 C.2.1 dX2_start_6 rfl (lv_at hl 2 rfl) ?_
  obtain ⟨σ2, e_7, hf⟩ := stb hf
  refine z_putI C S 2 o0 rfl ho0 cf_2 1 (by decide) (pi_2_1 G ad o0) rfl rfl rfl tw_1_92 dX2_start_7 (fun H locs S => ?_)
  rw [← e_7] at S
  refine lv_aload_n C.1 C.2.1 dX2_start_10 rfl (lv_at hl 0 rfl) ?_
  refine lv_iconst (v := 0) C.1 C.2.1 dX2_start_11 (by decide) ?_
  obtain ⟨σ3, e_12, hf⟩ := stb hf
  refine z_putI C S 2 o0 rfl ho0 cf_2 2 (by decide) (pi_2_2 G ad o0) rfl rfl rfl tw_1_94 dX2_start_12 (fun H locs S => ?_)
  rw [← e_12] at S
  refine lv_aload_n C.1 C.2.1 dX2_start_15 rfl (lv_at hl 0 rfl) ?_
  refine lv_iconst (v := 0) C.1 C.2.1 dX2_start_16 (by decide) ?_
  obtain ⟨σ4, e_17, hf⟩ := stb hf
  refine z_putI C S 2 o0 rfl ho0 cf_2 3 (by decide) (pi_2_3 G ad o0) rfl rfl rfl tw_1_97 dX2_start_17 (fun H locs S => ?_)
  rw [← e_17] at S
  refine lv_aload_n C.1 C.2.1 dX2_start_20 rfl (lv_at hl 0 rfl) ?_
  refine lv_iconst (v := 0) C.1 C.2.1 dX2_start_21 (by decide) ?_
  obtain ⟨σ5, e_22, hf⟩ := stb hf
  refine z_putI C S 2 o0 rfl ho0 cf_2 4 (by decide) (pi_2_4 G ad o0) rfl rfl rfl tw_1_100 dX2_start_22 (fun H locs S => ?_)
  rw [← e_22] at S
  refine lv_aload_n C.1 C.2.1 dX2_start_25 rfl (lv_at hl 0 rfl) ?_
  refine lv_iconst (v := 0) C.1 C.2.1 dX2_start_26 (by decide) ?_
  obtain ⟨σ6, e_27, hf⟩ := stb hf
  refine z_putI C S 2 o0 rfl ho0 cf_2 5 (by decide) (pi_2_5 G ad o0) rfl rfl rfl tw_1_103 dX2_start_27 (fun H locs S => ?_)
  rw [← e_27] at S
  refine lv_aload_n C.1 C.2.1 dX2_start_30 rfl (lv_at hl 0 rfl) ?_
  refine lv_iconst (v := 0) C.1 C.2.1 dX2_start_31 (by decide) ?_
  obtain ⟨σ7, e_32, hf⟩ := stb hf
  refine z_putI C S 2 o0 rfl ho0 cf_2 6 (by decide) (pi_2_6 G ad o0) rfl rfl rfl tw_1_106 dX2_start_32 (fun H locs S => ?_)
  rw [← e_32] at S
  refine lv_aload_n C.1 C.2.1 dX2_start_35 rfl (lv_at hl 0 rfl) ?_
  refine lv_iconst (v := 0) C.1 C.2.1 dX2_start_36 (by decide) ?_
  obtain ⟨σ8, e_37, hf⟩ := stb hf
  refine z_putI C S 2 o0 rfl ho0 cf_2 7 (by decide) (pi_2_7 G ad o0) rfl rfl rfl tw_1_109 dX2_start_37 (fun H locs S => ?_)
  rw [← e_37] at S
  refine lv_aload_n C.1 C.2.1 dX2_start_40 rfl (lv_at hl 0 rfl) ?_
  refine lv_iconst (v := 0) C.1 C.2.1 dX2_start_41 (by decide) ?_
  obtain ⟨σ9, e_42, hf⟩ := stb hf
  refine z_putI C S 2 o0 rfl ho0 cf_2 8 (by decide) (pi_2_8 G ad o0) rfl rfl rfl tw_1_112 dX2_start_42 (fun H locs S => ?_)
  rw [← e_42] at S
  refine lv_aload_n C.1 C.2.1 dX2_start_45 rfl (lv_at hl 0 rfl) ?_
  refine lv_iconst (v := 0) C.1 C.2.1 dX2_start_46 (by decide) ?_
  obtain ⟨σ10, e_47, hf⟩ := stb hf
  refine z_putI C S 2 o0 rfl ho0 cf_2 9 (by decide) (pi_2_9 G ad o0) rfl rfl rfl tw_1_116 dX2_start_47 (fun H locs S => ?_)
  rw [← e_47] at S
  refine lv_iconst (v := 0) C.1 C.2.1 dX2_start_50 (by decide) ?_
  refine lv_istore_n (lv' := [(3, .int 0), (0, .ref (ad 2 o0)), (1, .int v1), (2, .int v2)]) C.1 C.2.1 dX2_start_51 rfl hl (by decide) rfl (fun ls hl => ?_)
  exact w_X2_start_52 C FU _ o0 0 _ _ _ S (lv_sub hl [1, 0] rfl) ho0 hf
theorem kv_X2_start : KV yX2_start cX2_start 4 none 2 := ⟨tw_2_127, tw_2_125, tw_2_126, tw_1_14, by decide, by decide, by decide +kernel⟩
theorem m_X2_start (l : Launch) (G : Gx) (ad : Ad) (σ : Sg) (o0 : Nat) (v1 : Int32) (v2 : Int32) (σ' : Sg) (ho0 : o0 < z_cnt 2) (hf : f_X2_start σ o0 v1 v2 = some σ') (sz : Nat) : z_MV l yX2_start cX2_start 4 none 2 45 0 G ad σ sz [.ref (ad 2 o0), .int v1, .int v2] σ' := by
  refine z_begin (by decide +kernel) (Nat.le_of_ble_eq_true rfl) [(0, .ref (ad 2 o0)), (1, .int v1), (2, .int v2)] rfl (fun p e s m args below meth c ls C hz S hl => ?_)
  subst hz
  exact w_X2_start_0 (res := σ') C σ o0 v1 v2 _ _ _ S hl ho0 hf

theorem dX4_addCar_0 : decode cX4_addCar 0 = .ok (.aload_n 0, 1) := by decide +kernel
theorem dX4_addCar_1 : decode cX4_addCar 1 = .ok (.getfield 49, 3) := by decide +kernel
theorem dX4_addCar_4 : decode cX4_addCar 4 = .ok (.iconst 4, 1) := by decide +kernel
theorem dX4_addCar_5 : decode cX4_addCar 5 = .ok (.if_icmp .ge 27, 3) := by decide +kernel
theorem dX4_addCar_8 : decode cX4_addCar 8 = .ok (.aload_n 0, 1) := by decide +kernel
theorem dX4_addCar_9 : decode cX4_addCar 9 = .ok (.getfield 17, 3) := by decide +kernel
theorem dX4_addCar_12 : decode cX4_addCar 12 = .ok (.aload_n 0, 1) := by decide +kernel
theorem dX4_addCar_13 : decode cX4_addCar 13 = .ok (.getfield 49, 3) := by decide +kernel
theorem dX4_addCar_16 : decode cX4_addCar 16 = .ok (.aaload, 1) := by decide +kernel
theorem dX4_addCar_17 : decode cX4_addCar 17 = .ok (.iload_n 1, 1) := by decide +kernel
theorem dX4_addCar_18 : decode cX4_addCar 18 = .ok (.iload_n 2, 1) := by decide +kernel
theorem dX4_addCar_19 : decode cX4_addCar 19 = .ok (.invokevirtual 83, 3) := by decide +kernel
theorem dX4_addCar_22 : decode cX4_addCar 22 = .ok (.aload_n 0, 1) := by decide +kernel
theorem dX4_addCar_23 : decode cX4_addCar 23 = .ok (.dup, 1) := by decide +kernel
theorem dX4_addCar_24 : decode cX4_addCar 24 = .ok (.getfield 49, 3) := by decide +kernel
theorem dX4_addCar_27 : decode cX4_addCar 27 = .ok (.iconst 1, 1) := by decide +kernel
theorem dX4_addCar_28 : decode cX4_addCar 28 = .ok (.iadd, 1) := by decide +kernel
theorem dX4_addCar_29 : decode cX4_addCar 29 = .ok (.putfield 49, 3) := by decide +kernel
theorem dX4_addCar_32 : decode cX4_addCar 32 = .ok (.return_, 1) := by decide +kernel
/-! BusLifts$Lifts.addCar(II)V -/
noncomputable def f_X4_addCar_32  (σ : Sg)  : Option Sg := some σ
noncomputable def f_X4_addCar  (σ : Sg) (o0 : Nat) (v1 : Int32) (v2 : Int32) : Option Sg := if 4 ≤ (σ 4 o0 1) then (f_X4_addCar_32 σ) else (if (σ 4 o0 1) < 0 ∨ 4 ≤ ((σ 4 o0 1)).toNatClampNeg then none else (bv (f_X2_start σ (4 * o0 + ((σ 4 o0 1)).toNatClampNeg) v1 v2) fun σ1 => (st (sup σ1 4 o0 1 ((σ1 4 o0 1) + 1)) fun σ2 => (f_X4_addCar_32 σ2))))
set_option maxHeartbeats 4000000 in
set_option maxRecDepth 100000 in
theorem w_X4_addCar_32 {p : Program} {l : Launch} {e : Env} {s : State} {m : MethodId} {args : Array Value} {below : List Frame} {meth : Method} {c : Code} {G : Gx} {ad : Ad} {res : Sg} (C : Cx p s m args meth c yX4_addCar.cls cX4_addCar 3 none G)  : ∀ (σ : Sg)  (H : Heap) (locs : List Loc) (ls : Array Slot), z_S 0 G ad σ (z_A 0 ad s.heap.size) s.heap H locs → lv_has ls 3 [] → f_X4_addCar_32  σ  = some res → W p l e { frames := 3, cells := 0, slots := 0, locals := 68 } s m args below meth c H locs 0 0 (MQ below (va_Qv (S := Unit) (fun _ => True) (fun _ t => z_W 0 G ad res t.heap) (z_A 0 ad s.heap.size)) args s 0 0 (z_A 0 ad s.heap.size)) (F0 m 32 ls []) := by
  intro σ  H locs ls S hl  hf
  unfold f_X4_addCar_32 at hf
  exact z_vret C S hf dX4_addCar_32
set_option maxHeartbeats 4000000 in
set_option maxRecDepth 100000 in
theorem w_X4_addCar_0 {p : Program} {l : Launch} {e : Env} {s : State} {m : MethodId} {args : Array Value} {below : List Frame} {meth : Method} {c : Code} {G : Gx} {ad : Ad} {res : Sg} (C : Cx p s m args meth c yX4_addCar.cls cX4_addCar 3 none G)  : ∀ (σ : Sg) (o0 : Nat) (v1 : Int32) (v2 : Int32) (H : Heap) (locs : List Loc) (ls : Array Slot), z_S 0 G ad σ (z_A 0 ad s.heap.size) s.heap H locs → lv_has ls 3 [(0, .ref (ad 4 o0)), (1, .int v1), (2, .int v2)] → (o0 < z_cnt 4) → f_X4_addCar  σ o0 v1 v2 = some res → W p l e { frames := 3, cells := 0, slots := 0, locals := 68 } s m args below meth c H locs 0 0 (MQ below (va_Qv (S := Unit) (fun _ => True) (fun _ t => z_W 0 G ad res t.heap) (z_A 0 ad s.heap.size)) args s 0 0 (z_A 0 ad s.heap.size)) (F0 m 0 ls []) := by
  intro σ o0 v1 v2 H locs ls S hl ho0 hf
  unfold f_X4_addCar at hf
  refine lv_aload_n C.1 C.2.1 dX4_addCar_0 rfl (lv_at hl 0 rfl) ?_
  refine z_getI C S 4 o0 rfl ho0 cf_4 1 (by decide) (gi_4_1 G ad o0) tw_1_223 dX4_addCar_1 ?_
  refine lv_iconst (v := 4) C.1 C.2.1 dX4_addCar_4 (by decide) ?_
  refine lv_icmp_ge (tgt := 32) C.1 C.2.1 dX4_addCar_5 (by decide) (fun c_5 => ?_) (fun c_5 => ?_)
  · rw [if_pos c_5] at hf
    exact w_X4_addCar_32 C _ _ _ _ S (lv_sub hl [] rfl) hf
  · rw [if_neg c_5] at hf
    refine lv_aload_n C.1 C.2.1 dX4_addCar_8 rfl (lv_at hl 0 rfl) ?_
    refine z_getR C S 4 o0 rfl ho0 cf_4 6 (by decide) _ (gr_4_6 G ad o0) tw_2_1 dX4_addCar_9 ?_
    refine lv_aload_n C.1 C.2.1 dX4_addCar_12 rfl (lv_at hl 0 rfl) ?_
    refine z_getI C S 4 o0 rfl ho0 cf_4 1 (by decide) (gi_4_1 G ad o0) tw_1_223 dX4_addCar_13 ?_
    obtain ⟨g_16, hf⟩ := gd hf
    refine z_aald C S 25 o0 rfl ho0 4 1 2 (4 * o0) rfl (fun _ => rfl) g_16 dX4_addCar_16 ?_
    refine lv_iload_n C.1 C.2.1 dX4_addCar_17 rfl (lv_at hl 1 rfl) ?_
    refine lv_iload_n C.1 C.2.1 dX4_addCar_18 rfl (lv_at hl 2 rfl) ?_
    obtain ⟨σ1, q_19, hf⟩ := bvb hf
    refine z_callV C S 2 (4 * o0 + ((σ 4 o0 1)).toNatClampNeg) rfl (oc2 ho0 g_16) cf_2 ⟨_, rfl⟩ [.int v1, .int v2] (m_X2_start l G ad σ (4 * o0 + ((σ 4 o0 1)).toNatClampNeg) v1 v2 σ1 (oc2 ho0 g_16) q_19 _) kv_X2_start tw_2_124 ⟨Nat.le_of_ble_eq_true rfl, Nat.le_of_ble_eq_true rfl⟩ rfl rfl (Nat.le_of_ble_eq_true rfl) hl.1 ⟨Nat.le_of_ble_eq_true rfl, Nat.le_of_ble_eq_true rfl⟩ dX4_addCar_19 (fun H locs S => ?_)
    refine lv_aload_n C.1 C.2.1 dX4_addCar_22 rfl (lv_at hl 0 rfl) ?_
    refine lv_dup C.1 C.2.1 dX4_addCar_23 rfl ?_
    refine z_getI C S 4 o0 rfl ho0 cf_4 1 (by decide) (gi_4_1 G ad o0) tw_1_223 dX4_addCar_24 ?_
    refine lv_iconst (v := 1) C.1 C.2.1 dX4_addCar_27 (by decide) ?_
    refine lv_iadd C.1 C.2.1 dX4_addCar_28 ?_
    obtain ⟨σ2, e_29, hf⟩ := stb hf
    refine z_putI C S 4 o0 rfl ho0 cf_4 1 (by decide) (pi_4_1 G ad o0) rfl rfl rfl tw_1_223 dX4_addCar_29 (fun H locs S => ?_)
    rw [← e_29] at S
    exact w_X4_addCar_32 C _ _ _ _ S (lv_sub hl [] rfl) hf
theorem kv_X4_addCar : KV yX4_addCar cX4_addCar 3 none 2 := ⟨tw_2_123, tw_2_121, tw_2_122, tw_1_12, by decide, by decide, by decide +kernel⟩
theorem m_X4_addCar (l : Launch) (G : Gx) (ad : Ad) (σ : Sg) (o0 : Nat) (v1 : Int32) (v2 : Int32) (σ' : Sg) (ho0 : o0 < z_cnt 4) (hf : f_X4_addCar σ o0 v1 v2 = some σ') (sz : Nat) : z_MV l yX4_addCar cX4_addCar 3 none 3 68 0 G ad σ sz [.ref (ad 4 o0), .int v1, .int v2] σ' := by
  refine z_begin (by decide +kernel) (Nat.le_of_ble_eq_true rfl) [(0, .ref (ad 4 o0)), (1, .int v1), (2, .int v2)] rfl (fun p e s m args below meth c ls C hz S hl => ?_)
  subst hz
  exact w_X4_addCar_0 (res := σ') C σ o0 v1 v2 _ _ _ S hl ho0 hf

theorem dX1_start_0 : decode cX1_start 0 = .ok (.aload_n 0, 1) := by decide +kernel
theorem dX1_start_1 : decode cX1_start 1 = .ok (.iload_n 2, 1) := by decide +kernel
theorem dX1_start_2 : decode cX1_start 2 = .ok (.putfield 9, 3) := by decide +kernel
theorem dX1_start_5 : decode cX1_start 5 = .ok (.aload_n 0, 1) := by decide +kernel
theorem dX1_start_6 : decode cX1_start 6 = .ok (.iload_n 3, 1) := by decide +kernel
theorem dX1_start_7 : decode cX1_start 7 = .ok (.putfield 15, 3) := by decide +kernel
theorem dX1_start_10 : decode cX1_start 10 = .ok (.aload_n 0, 1) := by decide +kernel
theorem dX1_start_11 : decode cX1_start 11 = .ok (.iload_n 1, 1) := by decide +kernel
theorem dX1_start_12 : decode cX1_start 12 = .ok (.putfield 18, 3) := by decide +kernel
theorem dX1_start_15 : decode cX1_start 15 = .ok (.aload_n 0, 1) := by decide +kernel
theorem dX1_start_16 : decode cX1_start 16 = .ok (.iconst 0, 1) := by decide +kernel
theorem dX1_start_17 : decode cX1_start 17 = .ok (.putfield 21, 3) := by decide +kernel
theorem dX1_start_20 : decode cX1_start 20 = .ok (.aload_n 0, 1) := by decide +kernel
theorem dX1_start_21 : decode cX1_start 21 = .ok (.iconst (-1), 1) := by decide +kernel
theorem dX1_start_22 : decode cX1_start 22 = .ok (.putfield 24, 3) := by decide +kernel
theorem dX1_start_25 : decode cX1_start 25 = .ok (.aload_n 0, 1) := by decide +kernel
theorem dX1_start_26 : decode cX1_start 26 = .ok (.iconst (-1), 1) := by decide +kernel
theorem dX1_start_27 : decode cX1_start 27 = .ok (.putfield 27, 3) := by decide +kernel
theorem dX1_start_30 : decode cX1_start 30 = .ok (.aload_n 0, 1) := by decide +kernel
theorem dX1_start_31 : decode cX1_start 31 = .ok (.iconst (-1), 1) := by decide +kernel
theorem dX1_start_32 : decode cX1_start 32 = .ok (.putfield 30, 3) := by decide +kernel
theorem dX1_start_35 : decode cX1_start 35 = .ok (.aload_n 0, 1) := by decide +kernel
theorem dX1_start_36 : decode cX1_start 36 = .ok (.iconst 0, 1) := by decide +kernel
theorem dX1_start_37 : decode cX1_start 37 = .ok (.putfield 33, 3) := by decide +kernel
theorem dX1_start_40 : decode cX1_start 40 = .ok (.aload_n 0, 1) := by decide +kernel
theorem dX1_start_41 : decode cX1_start 41 = .ok (.iconst (-1), 1) := by decide +kernel
theorem dX1_start_42 : decode cX1_start 42 = .ok (.putfield 36, 3) := by decide +kernel
theorem dX1_start_45 : decode cX1_start 45 = .ok (.aload_n 0, 1) := by decide +kernel
theorem dX1_start_46 : decode cX1_start 46 = .ok (.iconst (-1), 1) := by decide +kernel
theorem dX1_start_47 : decode cX1_start 47 = .ok (.putfield 39, 3) := by decide +kernel
theorem dX1_start_50 : decode cX1_start 50 = .ok (.aload_n 0, 1) := by decide +kernel
theorem dX1_start_51 : decode cX1_start 51 = .ok (.iconst (-1), 1) := by decide +kernel
theorem dX1_start_52 : decode cX1_start 52 = .ok (.putfield 42, 3) := by decide +kernel
theorem dX1_start_55 : decode cX1_start 55 = .ok (.return_, 1) := by decide +kernel
/-! BusLifts$Call.start(III)V -/
noncomputable def f_X1_start  (σ : Sg) (o0 : Nat) (v1 : Int32) (v2 : Int32) (v3 : Int32) : Option Sg := st (sup σ 1 o0 0 v2) fun σ1 => (st (sup σ1 1 o0 1 v3) fun σ2 => (st (sup σ2 1 o0 2 v1) fun σ3 => (st (sup σ3 1 o0 3 0) fun σ4 => (st (sup σ4 1 o0 4 (-1)) fun σ5 => (st (sup σ5 1 o0 5 (-1)) fun σ6 => (st (sup σ6 1 o0 6 (-1)) fun σ7 => (st (sup σ7 1 o0 7 0) fun σ8 => (st (sup σ8 1 o0 8 (-1)) fun σ9 => (st (sup σ9 1 o0 9 (-1)) fun σ10 => (st (sup σ10 1 o0 10 (-1)) fun σ11 => (some σ11)))))))))))
set_option maxHeartbeats 4000000 in
set_option maxRecDepth 100000 in
theorem w_X1_start_0 {p : Program} {l : Launch} {e : Env} {s : State} {m : MethodId} {args : Array Value} {below : List Frame} {meth : Method} {c : Code} {G : Gx} {ad : Ad} {res : Sg} (C : Cx p s m args meth c yX1_start.cls cX1_start 4 none G)  : ∀ (σ : Sg) (o0 : Nat) (v1 : Int32) (v2 : Int32) (v3 : Int32) (H : Heap) (locs : List Loc) (ls : Array Slot), z_S 0 G ad σ (z_A 0 ad s.heap.size) s.heap H locs → lv_has ls 4 [(0, .ref (ad 1 o0)), (1, .int v1), (2, .int v2), (3, .int v3)] → (o0 < z_cnt 1) → f_X1_start  σ o0 v1 v2 v3 = some res → W p l e { frames := 0, cells := 0, slots := 0, locals := 0 } s m args below meth c H locs 0 0 (MQ below (va_Qv (S := Unit) (fun _ => True) (fun _ t => z_W 0 G ad res t.heap) (z_A 0 ad s.heap.size)) args s 0 0 (z_A 0 ad s.heap.size)) (F0 m 0 ls []) := by
  intro σ o0 v1 v2 v3 H locs ls S hl ho0 hf
  unfold f_X1_start at hf
  refine lv_aload_n C.1 C.2.1 dX1_start_0 rfl (lv_at hl 0 rfl) ?_
  refine lv_iload_n C.1 C.2.1 dX1_start_1 rfl (lv_at hl 2 rfl) ?_
  obtain ⟨σ1, e_2, hf⟩ := stb hf
  refine z_putI C S 1 o0 rfl ho0 cf_1 0 (by decide) (pi_1_0 G ad o0) rfl rfl rfl tw_1_162 dX1_start_2 (fun H locs S => ?_)
  rw [← e_2] at S
  refine lv_aload_n C.1 C.2.1 dX1_start_5 rfl (lv_at hl 0 rfl) ?_
  refine lv_iload_n C.1 C.2.1 dX1_start_6 rfl (lv_at hl 3 rfl) ?_
  obtain ⟨σ2, e_7, hf⟩ := stb hf
  refine z_putI C S 1 o0 rfl ho0 cf_1 1 (by decide) (pi_1_1 G ad o0) rfl rfl rfl tw_1_166 dX1_start_7 (fun H locs S => ?_)
  rw [← e_7] at S
  refine lv_aload_n C.1 C.2.1 dX1_start_10 rfl (lv_at hl 0 rfl) ?_
  refine lv_iload_n C.1 C.2.1 dX1_start_11 rfl (lv_at hl 1 rfl) ?_
  obtain ⟨σ3, e_12, hf⟩ := stb hf
  refine z_putI C S 1 o0 rfl ho0 cf_1 2 (by decide) (pi_1_2 G ad o0) rfl rfl rfl tw_1_170 dX1_start_12 (fun H locs S => ?_)
  rw [← e_12] at S
  refine lv_aload_n C.1 C.2.1 dX1_start_15 rfl (lv_at hl 0 rfl) ?_
  refine lv_iconst (v := 0) C.1 C.2.1 dX1_start_16 (by decide) ?_
  obtain ⟨σ4, e_17, hf⟩ := stb hf
  refine z_putI C S 1 o0 rfl ho0 cf_1 3 (by decide) (pi_1_3 G ad o0) rfl rfl rfl tw_1_173 dX1_start_17 (fun H locs S => ?_)
  rw [← e_17] at S
  refine lv_aload_n C.1 C.2.1 dX1_start_20 rfl (lv_at hl 0 rfl) ?_
  refine lv_iconst (v := (-1)) C.1 C.2.1 dX1_start_21 (by decide) ?_
  obtain ⟨σ5, e_22, hf⟩ := stb hf
  refine z_putI C S 1 o0 rfl ho0 cf_1 4 (by decide) (pi_1_4 G ad o0) rfl rfl rfl tw_1_177 dX1_start_22 (fun H locs S => ?_)
  rw [← e_22] at S
  refine lv_aload_n C.1 C.2.1 dX1_start_25 rfl (lv_at hl 0 rfl) ?_
  refine lv_iconst (v := (-1)) C.1 C.2.1 dX1_start_26 (by decide) ?_
  obtain ⟨σ6, e_27, hf⟩ := stb hf
  refine z_putI C S 1 o0 rfl ho0 cf_1 5 (by decide) (pi_1_5 G ad o0) rfl rfl rfl tw_1_180 dX1_start_27 (fun H locs S => ?_)
  rw [← e_27] at S
  refine lv_aload_n C.1 C.2.1 dX1_start_30 rfl (lv_at hl 0 rfl) ?_
  refine lv_iconst (v := (-1)) C.1 C.2.1 dX1_start_31 (by decide) ?_
  obtain ⟨σ7, e_32, hf⟩ := stb hf
  refine z_putI C S 1 o0 rfl ho0 cf_1 6 (by decide) (pi_1_6 G ad o0) rfl rfl rfl tw_1_183 dX1_start_32 (fun H locs S => ?_)
  rw [← e_32] at S
  refine lv_aload_n C.1 C.2.1 dX1_start_35 rfl (lv_at hl 0 rfl) ?_
  refine lv_iconst (v := 0) C.1 C.2.1 dX1_start_36 (by decide) ?_
  obtain ⟨σ8, e_37, hf⟩ := stb hf
  refine z_putI C S 1 o0 rfl ho0 cf_1 7 (by decide) (pi_1_7 G ad o0) rfl rfl rfl tw_1_186 dX1_start_37 (fun H locs S => ?_)
  rw [← e_37] at S
  refine lv_aload_n C.1 C.2.1 dX1_start_40 rfl (lv_at hl 0 rfl) ?_
  refine lv_iconst (v := (-1)) C.1 C.2.1 dX1_start_41 (by decide) ?_
  obtain ⟨σ9, e_42, hf⟩ := stb hf
  refine z_putI C S 1 o0 rfl ho0 cf_1 8 (by decide) (pi_1_8 G ad o0) rfl rfl rfl tw_1_189 dX1_start_42 (fun H locs S => ?_)
  rw [← e_42] at S
  refine lv_aload_n C.1 C.2.1 dX1_start_45 rfl (lv_at hl 0 rfl) ?_
  refine lv_iconst (v := (-1)) C.1 C.2.1 dX1_start_46 (by decide) ?_
  obtain ⟨σ10, e_47, hf⟩ := stb hf
  refine z_putI C S 1 o0 rfl ho0 cf_1 9 (by decide) (pi_1_9 G ad o0) rfl rfl rfl tw_1_192 dX1_start_47 (fun H locs S => ?_)
  rw [← e_47] at S
  refine lv_aload_n C.1 C.2.1 dX1_start_50 rfl (lv_at hl 0 rfl) ?_
  refine lv_iconst (v := (-1)) C.1 C.2.1 dX1_start_51 (by decide) ?_
  obtain ⟨σ11, e_52, hf⟩ := stb hf
  refine z_putI C S 1 o0 rfl ho0 cf_1 10 (by decide) (pi_1_10 G ad o0) rfl rfl rfl tw_1_194 dX1_start_52 (fun H locs S => ?_)
  rw [← e_52] at S
  exact z_vret C S hf dX1_start_55
theorem kv_X1_start : KV yX1_start cX1_start 4 none 3 := ⟨tw_3_62, tw_3_60, tw_3_61, tw_1_15, by decide, by decide, by decide +kernel⟩
theorem m_X1_start (l : Launch) (G : Gx) (ad : Ad) (σ : Sg) (o0 : Nat) (v1 : Int32) (v2 : Int32) (v3 : Int32) (σ' : Sg) (ho0 : o0 < z_cnt 1) (hf : f_X1_start σ o0 v1 v2 v3 = some σ') (sz : Nat) : z_MV l yX1_start cX1_start 4 none 0 0 0 G ad σ sz [.ref (ad 1 o0), .int v1, .int v2, .int v3] σ' := by
  refine z_begin (by decide +kernel) (Nat.le_of_ble_eq_true rfl) [(0, .ref (ad 1 o0)), (1, .int v1), (2, .int v2), (3, .int v3)] rfl (fun p e s m args below meth c ls C hz S hl => ?_)
  subst hz
  exact w_X1_start_0 (res := σ') C σ o0 v1 v2 v3 _ _ _ S hl ho0 hf

theorem dX4_addCall_0 : decode cX4_addCall 0 = .ok (.aload_n 0, 1) := by decide +kernel
theorem dX4_addCall_1 : decode cX4_addCall 1 = .ok (.getfield 52, 3) := by decide +kernel
theorem dX4_addCall_4 : decode cX4_addCall 4 = .ok (.bipush 24, 2) := by decide +kernel
theorem dX4_addCall_6 : decode cX4_addCall 6 = .ok (.if_icmp .lt 5, 3) := by decide +kernel
theorem dX4_addCall_9 : decode cX4_addCall 9 = .ok (.iconst (-1), 1) := by decide +kernel
theorem dX4_addCall_10 : decode cX4_addCall 10 = .ok (.ireturn, 1) := by decide +kernel
theorem dX4_addCall_11 : decode cX4_addCall 11 = .ok (.aload_n 0, 1) := by decide +kernel
theorem dX4_addCall_12 : decode cX4_addCall 12 = .ok (.getfield 23, 3) := by decide +kernel
theorem dX4_addCall_15 : decode cX4_addCall 15 = .ok (.aload_n 0, 1) := by decide +kernel
theorem dX4_addCall_16 : decode cX4_addCall 16 = .ok (.getfield 52, 3) := by decide +kernel
theorem dX4_addCall_19 : decode cX4_addCall 19 = .ok (.aaload, 1) := by decide +kernel
theorem dX4_addCall_20 : decode cX4_addCall 20 = .ok (.iload_n 1, 1) := by decide +kernel
theorem dX4_addCall_21 : decode cX4_addCall 21 = .ok (.iload_n 2, 1) := by decide +kernel
theorem dX4_addCall_22 : decode cX4_addCall 22 = .ok (.iload_n 3, 1) := by decide +kernel
theorem dX4_addCall_23 : decode cX4_addCall 23 = .ok (.invokevirtual 87, 3) := by decide +kernel
theorem dX4_addCall_26 : decode cX4_addCall 26 = .ok (.aload_n 0, 1) := by decide +kernel
theorem dX4_addCall_27 : decode cX4_addCall 27 = .ok (.dup, 1) := by decide +kernel
theorem dX4_addCall_28 : decode cX4_addCall 28 = .ok (.getfield 52, 3) := by decide +kernel
theorem dX4_addCall_31 : decode cX4_addCall 31 = .ok (.iconst 1, 1) := by decide +kernel
theorem dX4_addCall_32 : decode cX4_addCall 32 = .ok (.iadd, 1) := by decide +kernel
theorem dX4_addCall_33 : decode cX4_addCall 33 = .ok (.putfield 52, 3) := by decide +kernel
theorem dX4_addCall_36 : decode cX4_addCall 36 = .ok (.aload_n 0, 1) := by decide +kernel
theorem dX4_addCall_37 : decode cX4_addCall 37 = .ok (.getfield 52, 3) := by decide +kernel
theorem dX4_addCall_40 : decode cX4_addCall 40 = .ok (.iconst 1, 1) := by decide +kernel
theorem dX4_addCall_41 : decode cX4_addCall 41 = .ok (.isub, 1) := by decide +kernel
theorem dX4_addCall_42 : decode cX4_addCall 42 = .ok (.ireturn, 1) := by decide +kernel
/-! BusLifts$Lifts.addCall(III)I -/
noncomputable def f_X4_addCall  (σ : Sg) (o0 : Nat) (v1 : Int32) (v2 : Int32) (v3 : Int32) : Option (Int32 × Sg) := if (σ 4 o0 2) < 24 then (if (σ 4 o0 2) < 0 ∨ 24 ≤ ((σ 4 o0 2)).toNatClampNeg then none else (bv (f_X1_start σ (24 * o0 + ((σ 4 o0 2)).toNatClampNeg) v1 v2 v3) fun σ1 => (st (sup σ1 4 o0 2 ((σ1 4 o0 2) + 1)) fun σ2 => (some (((σ2 4 o0 2) - 1), σ2))))) else (some ((-1), σ))
set_option maxHeartbeats 4000000 in
set_option maxRecDepth 100000 in
theorem w_X4_addCall_0 {p : Program} {l : Launch} {e : Env} {s : State} {m : MethodId} {args : Array Value} {below : List Frame} {meth : Method} {c : Code} {G : Gx} {ad : Ad} {res : Int32 × Sg} (C : Cx p s m args meth c yX4_addCall.cls cX4_addCall 4 (Option.some FieldType.int) G)  : ∀ (σ : Sg) (o0 : Nat) (v1 : Int32) (v2 : Int32) (v3 : Int32) (H : Heap) (locs : List Loc) (ls : Array Slot), z_S 0 G ad σ (z_A 0 ad s.heap.size) s.heap H locs → lv_has ls 4 [(0, .ref (ad 4 o0)), (1, .int v1), (2, .int v2), (3, .int v3)] → (o0 < z_cnt 4) → f_X4_addCall  σ o0 v1 v2 v3 = some res → W p l e { frames := 1, cells := 0, slots := 0, locals := 23 } s m args below meth c H locs 0 0 (MQ below (va_Qi (S := Unit) (fun r1 _ => r1 = res.1) (fun _ t => z_W 0 G ad res.2 t.heap) (z_A 0 ad s.heap.size)) args s 0 0 (z_A 0 ad s.heap.size)) (F0 m 0 ls []) := by
  intro σ o0 v1 v2 v3 H locs ls S hl ho0 hf
  unfold f_X4_addCall at hf
  refine lv_aload_n C.1 C.2.1 dX4_addCall_0 rfl (lv_at hl 0 rfl) ?_
  refine z_getI C S 4 o0 rfl ho0 cf_4 2 (by decide) (gi_4_2 G ad o0) tw_1_227 dX4_addCall_1 ?_
  refine lv_bipush (v := 24) C.1 C.2.1 dX4_addCall_4 (by decide) ?_
  refine lv_icmp_lt (tgt := 11) C.1 C.2.1 dX4_addCall_6 (by decide) (fun c_6 => ?_) (fun c_6 => ?_)
  · rw [if_pos c_6] at hf
    refine lv_aload_n C.1 C.2.1 dX4_addCall_11 rfl (lv_at hl 0 rfl) ?_
    refine z_getR C S 4 o0 rfl ho0 cf_4 7 (by decide) _ (gr_4_7 G ad o0) tw_2_4 dX4_addCall_12 ?_
    refine lv_aload_n C.1 C.2.1 dX4_addCall_15 rfl (lv_at hl 0 rfl) ?_
    refine z_getI C S 4 o0 rfl ho0 cf_4 2 (by decide) (gi_4_2 G ad o0) tw_1_227 dX4_addCall_16 ?_
    obtain ⟨g_19, hf⟩ := gd hf
    refine z_aald C S 26 o0 rfl ho0 24 2 1 (24 * o0) rfl (fun _ => rfl) g_19 dX4_addCall_19 ?_
    refine lv_iload_n C.1 C.2.1 dX4_addCall_20 rfl (lv_at hl 1 rfl) ?_
    refine lv_iload_n C.1 C.2.1 dX4_addCall_21 rfl (lv_at hl 2 rfl) ?_
    refine lv_iload_n C.1 C.2.1 dX4_addCall_22 rfl (lv_at hl 3 rfl) ?_
    obtain ⟨σ1, q_23, hf⟩ := bvb hf
    refine z_callV C S 1 (24 * o0 + ((σ 4 o0 2)).toNatClampNeg) rfl (oc1 ho0 g_19) cf_1 ⟨_, rfl⟩ [.int v1, .int v2, .int v3] (m_X1_start l G ad σ (24 * o0 + ((σ 4 o0 2)).toNatClampNeg) v1 v2 v3 σ1 (oc1 ho0 g_19) q_23 _) kv_X1_start tw_3_59 ⟨Nat.le_of_ble_eq_true rfl, Nat.le_of_ble_eq_true rfl⟩ rfl rfl (Nat.le_of_ble_eq_true rfl) hl.1 ⟨Nat.le_of_ble_eq_true rfl, Nat.le_of_ble_eq_true rfl⟩ dX4_addCall_23 (fun H locs S => ?_)
    refine lv_aload_n C.1 C.2.1 dX4_addCall_26 rfl (lv_at hl 0 rfl) ?_
    refine lv_dup C.1 C.2.1 dX4_addCall_27 rfl ?_
    refine z_getI C S 4 o0 rfl ho0 cf_4 2 (by decide) (gi_4_2 G ad o0) tw_1_227 dX4_addCall_28 ?_
    refine lv_iconst (v := 1) C.1 C.2.1 dX4_addCall_31 (by decide) ?_
    refine lv_iadd C.1 C.2.1 dX4_addCall_32 ?_
    obtain ⟨σ2, e_33, hf⟩ := stb hf
    refine z_putI C S 4 o0 rfl ho0 cf_4 2 (by decide) (pi_4_2 G ad o0) rfl rfl rfl tw_1_227 dX4_addCall_33 (fun H locs S => ?_)
    rw [← e_33] at S
    refine lv_aload_n C.1 C.2.1 dX4_addCall_36 rfl (lv_at hl 0 rfl) ?_
    refine z_getI C S 4 o0 rfl ho0 cf_4 2 (by decide) (gi_4_2 G ad o0) tw_1_227 dX4_addCall_37 ?_
    refine lv_iconst (v := 1) C.1 C.2.1 dX4_addCall_40 (by decide) ?_
    refine lv_isub C.1 C.2.1 dX4_addCall_41 ?_
    exact z_iret C S hf dX4_addCall_42
  · rw [if_neg c_6] at hf
    refine lv_iconst (v := (-1)) C.1 C.2.1 dX4_addCall_9 (by decide) ?_
    exact z_iret C S hf dX4_addCall_10
theorem kv_X4_addCall : KV yX4_addCall cX4_addCall 4 (Option.some FieldType.int) 3 := ⟨tw_3_58, tw_3_56, tw_3_57, tw_1_12, by decide, by decide, by decide +kernel⟩
theorem m_X4_addCall (l : Launch) (G : Gx) (ad : Ad) (σ : Sg) (o0 : Nat) (v1 : Int32) (v2 : Int32) (v3 : Int32) (r : Int32) (σ' : Sg) (ho0 : o0 < z_cnt 4) (hf : f_X4_addCall σ o0 v1 v2 v3 = some (r, σ')) (sz : Nat) : z_MI l yX4_addCall cX4_addCall 4 (Option.some FieldType.int) 1 23 0 G ad σ sz [.ref (ad 4 o0), .int v1, .int v2, .int v3] r σ' := by
  refine z_begin (by decide +kernel) (Nat.le_of_ble_eq_true rfl) [(0, .ref (ad 4 o0)), (1, .int v1), (2, .int v2), (3, .int v3)] rfl (fun p e s m args below meth c ls C hz S hl => ?_)
  subst hz
  exact w_X4_addCall_0 (res := (r, σ')) C σ o0 v1 v2 v3 _ _ _ S hl ho0 hf

theorem dX2_copyFrom_0 : decode cX2_copyFrom 0 = .ok (.aload_n 0, 1) := by decide +kernel
theorem dX2_copyFrom_1 : decode cX2_copyFrom 1 = .ok (.aload_n 1, 1) := by decide +kernel
theorem dX2_copyFrom_2 : decode cX2_copyFrom 2 = .ok (.getfield 24, 3) := by decide +kernel
theorem dX2_copyFrom_5 : decode cX2_copyFrom 5 = .ok (.putfield 24, 3) := by decide +kernel
theorem dX2_copyFrom_8 : decode cX2_copyFrom 8 = .ok (.aload_n 0, 1) := by decide +kernel
theorem dX2_copyFrom_9 : decode cX2_copyFrom 9 = .ok (.aload_n 1, 1) := by decide +kernel
theorem dX2_copyFrom_10 : decode cX2_copyFrom 10 = .ok (.getfield 28, 3) := by decide +kernel
theorem dX2_copyFrom_13 : decode cX2_copyFrom 13 = .ok (.putfield 28, 3) := by decide +kernel
theorem dX2_copyFrom_16 : decode cX2_copyFrom 16 = .ok (.aload_n 0, 1) := by decide +kernel
theorem dX2_copyFrom_17 : decode cX2_copyFrom 17 = .ok (.aload_n 1, 1) := by decide +kernel
theorem dX2_copyFrom_18 : decode cX2_copyFrom 18 = .ok (.getfield 31, 3) := by decide +kernel
theorem dX2_copyFrom_21 : decode cX2_copyFrom 21 = .ok (.putfield 31, 3) := by decide +kernel
theorem dX2_copyFrom_24 : decode cX2_copyFrom 24 = .ok (.aload_n 0, 1) := by decide +kernel
theorem dX2_copyFrom_25 : decode cX2_copyFrom 25 = .ok (.aload_n 1, 1) := by decide +kernel
theorem dX2_copyFrom_26 : decode cX2_copyFrom 26 = .ok (.getfield 34, 3) := by decide +kernel
theorem dX2_copyFrom_29 : decode cX2_copyFrom 29 = .ok (.putfield 34, 3) := by decide +kernel
theorem dX2_copyFrom_32 : decode cX2_copyFrom 32 = .ok (.aload_n 0, 1) := by decide +kernel
theorem dX2_copyFrom_33 : decode cX2_copyFrom 33 = .ok (.aload_n 1, 1) := by decide +kernel
theorem dX2_copyFrom_34 : decode cX2_copyFrom 34 = .ok (.getfield 38, 3) := by decide +kernel
theorem dX2_copyFrom_37 : decode cX2_copyFrom 37 = .ok (.putfield 38, 3) := by decide +kernel
theorem dX2_copyFrom_40 : decode cX2_copyFrom 40 = .ok (.aload_n 0, 1) := by decide +kernel
theorem dX2_copyFrom_41 : decode cX2_copyFrom 41 = .ok (.aload_n 1, 1) := by decide +kernel
theorem dX2_copyFrom_42 : decode cX2_copyFrom 42 = .ok (.getfield 41, 3) := by decide +kernel
theorem dX2_copyFrom_45 : decode cX2_copyFrom 45 = .ok (.putfield 41, 3) := by decide +kernel
theorem dX2_copyFrom_48 : decode cX2_copyFrom 48 = .ok (.aload_n 0, 1) := by decide +kernel
theorem dX2_copyFrom_49 : decode cX2_copyFrom 49 = .ok (.aload_n 1, 1) := by decide +kernel
theorem dX2_copyFrom_50 : decode cX2_copyFrom 50 = .ok (.getfield 44, 3) := by decide +kernel
theorem dX2_copyFrom_53 : decode cX2_copyFrom 53 = .ok (.putfield 44, 3) := by decide +kernel
theorem dX2_copyFrom_56 : decode cX2_copyFrom 56 = .ok (.aload_n 0, 1) := by decide +kernel
theorem dX2_copyFrom_57 : decode cX2_copyFrom 57 = .ok (.aload_n 1, 1) := by decide +kernel
theorem dX2_copyFrom_58 : decode cX2_copyFrom 58 = .ok (.getfield 47, 3) := by decide +kernel
theorem dX2_copyFrom_61 : decode cX2_copyFrom 61 = .ok (.putfield 47, 3) := by decide +kernel
theorem dX2_copyFrom_64 : decode cX2_copyFrom 64 = .ok (.aload_n 0, 1) := by decide +kernel
theorem dX2_copyFrom_65 : decode cX2_copyFrom 65 = .ok (.aload_n 1, 1) := by decide +kernel
theorem dX2_copyFrom_66 : decode cX2_copyFrom 66 = .ok (.getfield 50, 3) := by decide +kernel
theorem dX2_copyFrom_69 : decode cX2_copyFrom 69 = .ok (.putfield 50, 3) := by decide +kernel
theorem dX2_copyFrom_72 : decode cX2_copyFrom 72 = .ok (.aload_n 0, 1) := by decide +kernel
theorem dX2_copyFrom_73 : decode cX2_copyFrom 73 = .ok (.aload_n 1, 1) := by decide +kernel
theorem dX2_copyFrom_74 : decode cX2_copyFrom 74 = .ok (.getfield 53, 3) := by decide +kernel
theorem dX2_copyFrom_77 : decode cX2_copyFrom 77 = .ok (.putfield 53, 3) := by decide +kernel
theorem dX2_copyFrom_80 : decode cX2_copyFrom 80 = .ok (.aload_n 1, 1) := by decide +kernel
theorem dX2_copyFrom_81 : decode cX2_copyFrom 81 = .ok (.getfield 9, 3) := by decide +kernel
theorem dX2_copyFrom_84 : decode cX2_copyFrom 84 = .ok (.iconst 0, 1) := by decide +kernel
theorem dX2_copyFrom_85 : decode cX2_copyFrom 85 = .ok (.aload_n 0, 1) := by decide +kernel
theorem dX2_copyFrom_86 : decode cX2_copyFrom 86 = .ok (.getfield 9, 3) := by decide +kernel
theorem dX2_copyFrom_89 : decode cX2_copyFrom 89 = .ok (.iconst 0, 1) := by decide +kernel
theorem dX2_copyFrom_90 : decode cX2_copyFrom 90 = .ok (.bipush 24, 2) := by decide +kernel
theorem dX2_copyFrom_92 : decode cX2_copyFrom 92 = .ok (.invokestatic 60, 3) := by decide +kernel
theorem dX2_copyFrom_95 : decode cX2_copyFrom 95 = .ok (.aload_n 1, 1) := by decide +kernel
theorem dX2_copyFrom_96 : decode cX2_copyFrom 96 = .ok (.getfield 15, 3) := by decide +kernel
theorem dX2_copyFrom_99 : decode cX2_copyFrom 99 = .ok (.iconst 0, 1) := by decide +kernel
theorem dX2_copyFrom_100 : decode cX2_copyFrom 100 = .ok (.aload_n 0, 1) := by decide +kernel
theorem dX2_copyFrom_101 : decode cX2_copyFrom 101 = .ok (.getfield 15, 3) := by decide +kernel
theorem dX2_copyFrom_104 : decode cX2_copyFrom 104 = .ok (.iconst 0, 1) := by decide +kernel
theorem dX2_copyFrom_105 : decode cX2_copyFrom 105 = .ok (.bipush 24, 2) := by decide +kernel
theorem dX2_copyFrom_107 : decode cX2_copyFrom 107 = .ok (.invokestatic 60, 3) := by decide +kernel
theorem dX2_copyFrom_110 : decode cX2_copyFrom 110 = .ok (.aload_n 1, 1) := by decide +kernel
theorem dX2_copyFrom_111 : decode cX2_copyFrom 111 = .ok (.getfield 18, 3) := by decide +kernel
theorem dX2_copyFrom_114 : decode cX2_copyFrom 114 = .ok (.iconst 0, 1) := by decide +kernel
theorem dX2_copyFrom_115 : decode cX2_copyFrom 115 = .ok (.aload_n 0, 1) := by decide +kernel
theorem dX2_copyFrom_116 : decode cX2_copyFrom 116 = .ok (.getfield 18, 3) := by decide +kernel
theorem dX2_copyFrom_119 : decode cX2_copyFrom 119 = .ok (.iconst 0, 1) := by decide +kernel
theorem dX2_copyFrom_120 : decode cX2_copyFrom 120 = .ok (.bipush 96, 2) := by decide +kernel
theorem dX2_copyFrom_122 : decode cX2_copyFrom 122 = .ok (.invokestatic 60, 3) := by decide +kernel
theorem dX2_copyFrom_125 : decode cX2_copyFrom 125 = .ok (.aload_n 1, 1) := by decide +kernel
theorem dX2_copyFrom_126 : decode cX2_copyFrom 126 = .ok (.getfield 21, 3) := by decide +kernel
theorem dX2_copyFrom_129 : decode cX2_copyFrom 129 = .ok (.iconst 0, 1) := by decide +kernel
theorem dX2_copyFrom_130 : decode cX2_copyFrom 130 = .ok (.aload_n 0, 1) := by decide +kernel
theorem dX2_copyFrom_131 : decode cX2_copyFrom 131 = .ok (.getfield 21, 3) := by decide +kernel
theorem dX2_copyFrom_134 : decode cX2_copyFrom 134 = .ok (.iconst 0, 1) := by decide +kernel
theorem dX2_copyFrom_135 : decode cX2_copyFrom 135 = .ok (.iconst 4, 1) := by decide +kernel
theorem dX2_copyFrom_136 : decode cX2_copyFrom 136 = .ok (.invokestatic 60, 3) := by decide +kernel
theorem dX2_copyFrom_139 : decode cX2_copyFrom 139 = .ok (.return_, 1) := by decide +kernel
/-! BusLifts$Car.copyFrom(LBusLifts$Car;)V -/
noncomputable def f_X2_copyFrom  (σ : Sg) (o0 : Nat) (o1 : Nat) : Option Sg := st (sup σ 2 o0 0 (σ 2 o1 0)) fun σ1 => (st (sup σ1 2 o0 1 (σ1 2 o1 1)) fun σ2 => (st (sup σ2 2 o0 2 (σ2 2 o1 2)) fun σ3 => (if ¬ ((σ3 2 o1 3) = 0 ∨ (σ3 2 o1 3) = 1) then none else (st (sup σ3 2 o0 3 (σ3 2 o1 3)) fun σ4 => (if ¬ ((σ4 2 o1 4) = 0 ∨ (σ4 2 o1 4) = 1) then none else (st (sup σ4 2 o0 4 (σ4 2 o1 4)) fun σ5 => (st (sup σ5 2 o0 5 (σ5 2 o1 5)) fun σ6 => (st (sup σ6 2 o0 6 (σ6 2 o1 6)) fun σ7 => (st (sup σ7 2 o0 7 (σ7 2 o1 7)) fun σ8 => (st (sup σ8 2 o0 8 (σ8 2 o1 8)) fun σ9 => (st (sup σ9 2 o0 9 (σ9 2 o1 9)) fun σ10 => (st (scp σ10 16 o1 0 16 o0 0 (24 : Int32).toNatClampNeg) fun σ11 => (st (scp σ11 17 o1 0 17 o0 0 (24 : Int32).toNatClampNeg) fun σ12 => (st (scp σ12 18 o1 0 18 o0 0 (96 : Int32).toNatClampNeg) fun σ13 => (st (scp σ13 19 o1 0 19 o0 0 (4 : Int32).toNatClampNeg) fun σ14 => (some σ14))))))))))))))))
set_option maxHeartbeats 4000000 in
set_option maxRecDepth 100000 in
theorem w_X2_copyFrom_0 {p : Program} {l : Launch} {e : Env} {s : State} {m : MethodId} {args : Array Value} {below : List Frame} {meth : Method} {c : Code} {G : Gx} {ad : Ad} {res : Sg} (C : Cx p s m args meth c yX2_copyFrom.cls cX2_copyFrom 2 none G)  : ∀ (σ : Sg) (o0 : Nat) (o1 : Nat) (H : Heap) (locs : List Loc) (ls : Array Slot), z_S 0 G ad σ (z_A 0 ad s.heap.size) s.heap H locs → lv_has ls 2 [(0, .ref (ad 2 o0)), (1, .ref (ad 2 o1))] → (o0 < z_cnt 2) → (o1 < z_cnt 2) → f_X2_copyFrom  σ o0 o1 = some res → W p l e { frames := 1, cells := 0, slots := 0, locals := 26 } s m args below meth c H locs 0 0 (MQ below (va_Qv (S := Unit) (fun _ => True) (fun _ t => z_W 0 G ad res t.heap) (z_A 0 ad s.heap.size)) args s 0 0 (z_A 0 ad s.heap.size)) (F0 m 0 ls []) := by
  intro σ o0 o1 H locs ls S hl ho0 ho1 hf
  unfold f_X2_copyFrom at hf
  refine lv_aload_n C.1 C.2.1 dX2_copyFrom_0 rfl (lv_at hl 0 rfl) ?_
  refine lv_aload_n C.1 C.2.1 dX2_copyFrom_1 rfl (lv_at hl 1 rfl) ?_
  refine z_getI C S 2 o1 rfl ho1 cf_2 0 (by decide) (gi_2_0 G ad o1) tw_1_88 dX2_copyFrom_2 ?_
  obtain ⟨σ1, e_5, hf⟩ := stb hf
  refine z_putI C S 2 o0 rfl ho0 cf_2 0 (by decide) (pi_2_0 G ad o0) rfl rfl rfl tw_1_88 dX2_copyFrom_5 (fun H locs S => ?_)
  rw [← e_5] at S
  refine lv_aload_n C.1 C.2.1 dX2_copyFrom_8 rfl (lv_at hl 0 rfl) ?_
  refine lv_aload_n C.1 C.2.1 dX2_copyFrom_9 rfl (lv_at hl 1 rfl) ?_
  refine z_getI C S 2 o1 rfl ho1 cf_2 1 (by decide) (gi_2_1 G ad o1) tw_1_92 dX2_copyFrom_10 ?_
  obtain ⟨σ2, e_13, hf⟩ := stb hf
  refine z_putI C S 2 o0 rfl ho0 cf_2 1 (by decide) (pi_2_1 G ad o0) rfl rfl rfl tw_1_92 dX2_copyFrom_13 (fun H locs S => ?_)
  rw [← e_13] at S
  refine lv_aload_n C.1 C.2.1 dX2_copyFrom_16 rfl (lv_at hl 0 rfl) ?_
  refine lv_aload_n C.1 C.2.1 dX2_copyFrom_17 rfl (lv_at hl 1 rfl) ?_
  refine z_getI C S 2 o1 rfl ho1 cf_2 2 (by decide) (gi_2_2 G ad o1) tw_1_94 dX2_copyFrom_18 ?_
  obtain ⟨σ3, e_21, hf⟩ := stb hf
  refine z_putI C S 2 o0 rfl ho0 cf_2 2 (by decide) (pi_2_2 G ad o0) rfl rfl rfl tw_1_94 dX2_copyFrom_21 (fun H locs S => ?_)
  rw [← e_21] at S
  refine lv_aload_n C.1 C.2.1 dX2_copyFrom_24 rfl (lv_at hl 0 rfl) ?_
  refine lv_aload_n C.1 C.2.1 dX2_copyFrom_25 rfl (lv_at hl 1 rfl) ?_
  refine z_getI C S 2 o1 rfl ho1 cf_2 3 (by decide) (gi_2_3 G ad o1) tw_1_97 dX2_copyFrom_26 ?_
  obtain ⟨g_29, hf⟩ := gd hf
  obtain ⟨σ4, e_29, hf⟩ := stb hf
  refine z_putI C S 2 o0 rfl ho0 cf_2 3 (by decide) (pi_2_3 G ad o0) rfl (nbz g_29).1 (nbz g_29).2 tw_1_97 dX2_copyFrom_29 (fun H locs S => ?_)
  rw [← e_29] at S
  refine lv_aload_n C.1 C.2.1 dX2_copyFrom_32 rfl (lv_at hl 0 rfl) ?_
  refine lv_aload_n C.1 C.2.1 dX2_copyFrom_33 rfl (lv_at hl 1 rfl) ?_
  refine z_getI C S 2 o1 rfl ho1 cf_2 4 (by decide) (gi_2_4 G ad o1) tw_1_100 dX2_copyFrom_34 ?_
  obtain ⟨g_37, hf⟩ := gd hf
  obtain ⟨σ5, e_37, hf⟩ := stb hf
  refine z_putI C S 2 o0 rfl ho0 cf_2 4 (by decide) (pi_2_4 G ad o0) rfl (nbz g_37).1 (nbz g_37).2 tw_1_100 dX2_copyFrom_37 (fun H locs S => ?_)
  rw [← e_37] at S
  refine lv_aload_n C.1 C.2.1 dX2_copyFrom_40 rfl (lv_at hl 0 rfl) ?_
  refine lv_aload_n C.1 C.2.1 dX2_copyFrom_41 rfl (lv_at hl 1 rfl) ?_
  refine z_getI C S 2 o1 rfl ho1 cf_2 5 (by decide) (gi_2_5 G ad o1) tw_1_103 dX2_copyFrom_42 ?_
  obtain ⟨σ6, e_45, hf⟩ := stb hf
  refine z_putI C S 2 o0 rfl ho0 cf_2 5 (by decide) (pi_2_5 G ad o0) rfl rfl rfl tw_1_103 dX2_copyFrom_45 (fun H locs S => ?_)
  rw [← e_45] at S
  refine lv_aload_n C.1 C.2.1 dX2_copyFrom_48 rfl (lv_at hl 0 rfl) ?_
  refine lv_aload_n C.1 C.2.1 dX2_copyFrom_49 rfl (lv_at hl 1 rfl) ?_
  refine z_getI C S 2 o1 rfl ho1 cf_2 6 (by decide) (gi_2_6 G ad o1) tw_1_106 dX2_copyFrom_50 ?_
  obtain ⟨σ7, e_53, hf⟩ := stb hf
  refine z_putI C S 2 o0 rfl ho0 cf_2 6 (by decide) (pi_2_6 G ad o0) rfl rfl rfl tw_1_106 dX2_copyFrom_53 (fun H locs S => ?_)
  rw [← e_53] at S
  refine lv_aload_n C.1 C.2.1 dX2_copyFrom_56 rfl (lv_at hl 0 rfl) ?_
  refine lv_aload_n C.1 C.2.1 dX2_copyFrom_57 rfl (lv_at hl 1 rfl) ?_
  refine z_getI C S 2 o1 rfl ho1 cf_2 7 (by decide) (gi_2_7 G ad o1) tw_1_109 dX2_copyFrom_58 ?_
  obtain ⟨σ8, e_61, hf⟩ := stb hf
  refine z_putI C S 2 o0 rfl ho0 cf_2 7 (by decide) (pi_2_7 G ad o0) rfl rfl rfl tw_1_109 dX2_copyFrom_61 (fun H locs S => ?_)
  rw [← e_61] at S
  refine lv_aload_n C.1 C.2.1 dX2_copyFrom_64 rfl (lv_at hl 0 rfl) ?_
  refine lv_aload_n C.1 C.2.1 dX2_copyFrom_65 rfl (lv_at hl 1 rfl) ?_
  refine z_getI C S 2 o1 rfl ho1 cf_2 8 (by decide) (gi_2_8 G ad o1) tw_1_112 dX2_copyFrom_66 ?_
  obtain ⟨σ9, e_69, hf⟩ := stb hf
  refine z_putI C S 2 o0 rfl ho0 cf_2 8 (by decide) (pi_2_8 G ad o0) rfl rfl rfl tw_1_112 dX2_copyFrom_69 (fun H locs S => ?_)
  rw [← e_69] at S
  refine lv_aload_n C.1 C.2.1 dX2_copyFrom_72 rfl (lv_at hl 0 rfl) ?_
  refine lv_aload_n C.1 C.2.1 dX2_copyFrom_73 rfl (lv_at hl 1 rfl) ?_
  refine z_getI C S 2 o1 rfl ho1 cf_2 9 (by decide) (gi_2_9 G ad o1) tw_1_116 dX2_copyFrom_74 ?_
  obtain ⟨σ10, e_77, hf⟩ := stb hf
  refine z_putI C S 2 o0 rfl ho0 cf_2 9 (by decide) (pi_2_9 G ad o0) rfl rfl rfl tw_1_116 dX2_copyFrom_77 (fun H locs S => ?_)
  rw [← e_77] at S
  refine lv_aload_n C.1 C.2.1 dX2_copyFrom_80 rfl (lv_at hl 1 rfl) ?_
  refine z_getR C S 2 o1 rfl ho1 cf_2 10 (by decide) _ (gr_2_10 G ad o1) tw_1_120 dX2_copyFrom_81 ?_
  refine lv_iconst (v := 0) C.1 C.2.1 dX2_copyFrom_84 (by decide) ?_
  refine lv_aload_n C.1 C.2.1 dX2_copyFrom_85 rfl (lv_at hl 0 rfl) ?_
  refine z_getR C S 2 o0 rfl ho0 cf_2 10 (by decide) _ (gr_2_10 G ad o0) tw_1_120 dX2_copyFrom_86 ?_
  refine lv_iconst (v := 0) C.1 C.2.1 dX2_copyFrom_89 (by decide) ?_
  refine lv_bipush (v := 24) C.1 C.2.1 dX2_copyFrom_90 (by decide) ?_
  obtain ⟨σ11, e_92, hf⟩ := stb hf
  refine z_copy C S hl.1 16 o1 16 o0 24 24 rfl ho1 rfl ho0 (fun _ => rfl) (fun _ => rfl) tw_3_89 (by decide) (by decide) (by decide) (by decide) (by decide) (Nat.le_of_ble_eq_true rfl) (Nat.le_of_ble_eq_true rfl) dX2_copyFrom_92 (fun H locs S => ?_)
  have S := z_cp0 e_92 S
  refine lv_aload_n C.1 C.2.1 dX2_copyFrom_95 rfl (lv_at hl 1 rfl) ?_
  refine z_getR C S 2 o1 rfl ho1 cf_2 11 (by decide) _ (gr_2_11 G ad o1) tw_1_122 dX2_copyFrom_96 ?_
  refine lv_iconst (v := 0) C.1 C.2.1 dX2_copyFrom_99 (by decide) ?_
  refine lv_aload_n C.1 C.2.1 dX2_copyFrom_100 rfl (lv_at hl 0 rfl) ?_
  refine z_getR C S 2 o0 rfl ho0 cf_2 11 (by decide) _ (gr_2_11 G ad o0) tw_1_122 dX2_copyFrom_101 ?_
  refine lv_iconst (v := 0) C.1 C.2.1 dX2_copyFrom_104 (by decide) ?_
  refine lv_bipush (v := 24) C.1 C.2.1 dX2_copyFrom_105 (by decide) ?_
  obtain ⟨σ12, e_107, hf⟩ := stb hf
  refine z_copy C S hl.1 17 o1 17 o0 24 24 rfl ho1 rfl ho0 (fun _ => rfl) (fun _ => rfl) tw_3_89 (by decide) (by decide) (by decide) (by decide) (by decide) (Nat.le_of_ble_eq_true rfl) (Nat.le_of_ble_eq_true rfl) dX2_copyFrom_107 (fun H locs S => ?_)
  have S := z_cp0 e_107 S
  refine lv_aload_n C.1 C.2.1 dX2_copyFrom_110 rfl (lv_at hl 1 rfl) ?_
  refine z_getR C S 2 o1 rfl ho1 cf_2 12 (by decide) _ (gr_2_12 G ad o1) tw_1_125 dX2_copyFrom_111 ?_
  refine lv_iconst (v := 0) C.1 C.2.1 dX2_copyFrom_114 (by decide) ?_
  refine lv_aload_n C.1 C.2.1 dX2_copyFrom_115 rfl (lv_at hl 0 rfl) ?_
  refine z_getR C S 2 o0 rfl ho0 cf_2 12 (by decide) _ (gr_2_12 G ad o0) tw_1_125 dX2_copyFrom_116 ?_
  refine lv_iconst (v := 0) C.1 C.2.1 dX2_copyFrom_119 (by decide) ?_
  refine lv_bipush (v := 96) C.1 C.2.1 dX2_copyFrom_120 (by decide) ?_
  obtain ⟨σ13, e_122, hf⟩ := stb hf
  refine z_copy C S hl.1 18 o1 18 o0 96 96 rfl ho1 rfl ho0 (fun _ => rfl) (fun _ => rfl) tw_3_89 (by decide) (by decide) (by decide) (by decide) (by decide) (Nat.le_of_ble_eq_true rfl) (Nat.le_of_ble_eq_true rfl) dX2_copyFrom_122 (fun H locs S => ?_)
  have S := z_cp0 e_122 S
  refine lv_aload_n C.1 C.2.1 dX2_copyFrom_125 rfl (lv_at hl 1 rfl) ?_
  refine z_getR C S 2 o1 rfl ho1 cf_2 13 (by decide) _ (gr_2_13 G ad o1) tw_1_126 dX2_copyFrom_126 ?_
  refine lv_iconst (v := 0) C.1 C.2.1 dX2_copyFrom_129 (by decide) ?_
  refine lv_aload_n C.1 C.2.1 dX2_copyFrom_130 rfl (lv_at hl 0 rfl) ?_
  refine z_getR C S 2 o0 rfl ho0 cf_2 13 (by decide) _ (gr_2_13 G ad o0) tw_1_126 dX2_copyFrom_131 ?_
  refine lv_iconst (v := 0) C.1 C.2.1 dX2_copyFrom_134 (by decide) ?_
  refine lv_iconst (v := 4) C.1 C.2.1 dX2_copyFrom_135 (by decide) ?_
  obtain ⟨σ14, e_136, hf⟩ := stb hf
  refine z_copy C S hl.1 19 o1 19 o0 4 4 rfl ho1 rfl ho0 (fun _ => rfl) (fun _ => rfl) tw_3_89 (by decide) (by decide) (by decide) (by decide) (by decide) (Nat.le_of_ble_eq_true rfl) (Nat.le_of_ble_eq_true rfl) dX2_copyFrom_136 (fun H locs S => ?_)
  have S := z_cp0 e_136 S
  exact z_vret C S hf dX2_copyFrom_139
theorem kv_X2_copyFrom : KV yX2_copyFrom cX2_copyFrom 2 none 1 := ⟨tw_3_88, tw_3_86, tw_3_87, tw_1_14, by decide, by decide, by decide +kernel⟩
theorem m_X2_copyFrom (l : Launch) (G : Gx) (ad : Ad) (σ : Sg) (o0 : Nat) (o1 : Nat) (σ' : Sg) (ho0 : o0 < z_cnt 2) (ho1 : o1 < z_cnt 2) (hf : f_X2_copyFrom σ o0 o1 = some σ') (sz : Nat) : z_MV l yX2_copyFrom cX2_copyFrom 2 none 1 26 0 G ad σ sz [.ref (ad 2 o0), .ref (ad 2 o1)] σ' := by
  refine z_begin (by decide +kernel) (Nat.le_of_ble_eq_true rfl) [(0, .ref (ad 2 o0)), (1, .ref (ad 2 o1))] rfl (fun p e s m args below meth c ls C hz S hl => ?_)
  subst hz
  exact w_X2_copyFrom_0 (res := σ') C σ o0 o1 _ _ _ S hl ho0 ho1 hf

theorem dX1_copyFrom_0 : decode cX1_copyFrom 0 = .ok (.aload_n 0, 1) := by decide +kernel
theorem dX1_copyFrom_1 : decode cX1_copyFrom 1 = .ok (.aload_n 1, 1) := by decide +kernel
theorem dX1_copyFrom_2 : decode cX1_copyFrom 2 = .ok (.getfield 9, 3) := by decide +kernel
theorem dX1_copyFrom_5 : decode cX1_copyFrom 5 = .ok (.putfield 9, 3) := by decide +kernel
theorem dX1_copyFrom_8 : decode cX1_copyFrom 8 = .ok (.aload_n 0, 1) := by decide +kernel
theorem dX1_copyFrom_9 : decode cX1_copyFrom 9 = .ok (.aload_n 1, 1) := by decide +kernel
theorem dX1_copyFrom_10 : decode cX1_copyFrom 10 = .ok (.getfield 15, 3) := by decide +kernel
theorem dX1_copyFrom_13 : decode cX1_copyFrom 13 = .ok (.putfield 15, 3) := by decide +kernel
theorem dX1_copyFrom_16 : decode cX1_copyFrom 16 = .ok (.aload_n 0, 1) := by decide +kernel
theorem dX1_copyFrom_17 : decode cX1_copyFrom 17 = .ok (.aload_n 1, 1) := by decide +kernel
theorem dX1_copyFrom_18 : decode cX1_copyFrom 18 = .ok (.getfield 18, 3) := by decide +kernel
theorem dX1_copyFrom_21 : decode cX1_copyFrom 21 = .ok (.putfield 18, 3) := by decide +kernel
theorem dX1_copyFrom_24 : decode cX1_copyFrom 24 = .ok (.aload_n 0, 1) := by decide +kernel
theorem dX1_copyFrom_25 : decode cX1_copyFrom 25 = .ok (.aload_n 1, 1) := by decide +kernel
theorem dX1_copyFrom_26 : decode cX1_copyFrom 26 = .ok (.getfield 21, 3) := by decide +kernel
theorem dX1_copyFrom_29 : decode cX1_copyFrom 29 = .ok (.putfield 21, 3) := by decide +kernel
theorem dX1_copyFrom_32 : decode cX1_copyFrom 32 = .ok (.aload_n 0, 1) := by decide +kernel
theorem dX1_copyFrom_33 : decode cX1_copyFrom 33 = .ok (.aload_n 1, 1) := by decide +kernel
theorem dX1_copyFrom_34 : decode cX1_copyFrom 34 = .ok (.getfield 24, 3) := by decide +kernel
theorem dX1_copyFrom_37 : decode cX1_copyFrom 37 = .ok (.putfield 24, 3) := by decide +kernel
theorem dX1_copyFrom_40 : decode cX1_copyFrom 40 = .ok (.aload_n 0, 1) := by decide +kernel
theorem dX1_copyFrom_41 : decode cX1_copyFrom 41 = .ok (.aload_n 1, 1) := by decide +kernel
theorem dX1_copyFrom_42 : decode cX1_copyFrom 42 = .ok (.getfield 27, 3) := by decide +kernel
theorem dX1_copyFrom_45 : decode cX1_copyFrom 45 = .ok (.putfield 27, 3) := by decide +kernel
theorem dX1_copyFrom_48 : decode cX1_copyFrom 48 = .ok (.aload_n 0, 1) := by decide +kernel
theorem dX1_copyFrom_49 : decode cX1_copyFrom 49 = .ok (.aload_n 1, 1) := by decide +kernel
theorem dX1_copyFrom_50 : decode cX1_copyFrom 50 = .ok (.getfield 30, 3) := by decide +kernel
theorem dX1_copyFrom_53 : decode cX1_copyFrom 53 = .ok (.putfield 30, 3) := by decide +kernel
theorem dX1_copyFrom_56 : decode cX1_copyFrom 56 = .ok (.aload_n 0, 1) := by decide +kernel
theorem dX1_copyFrom_57 : decode cX1_copyFrom 57 = .ok (.aload_n 1, 1) := by decide +kernel
theorem dX1_copyFrom_58 : decode cX1_copyFrom 58 = .ok (.getfield 33, 3) := by decide +kernel
theorem dX1_copyFrom_61 : decode cX1_copyFrom 61 = .ok (.putfield 33, 3) := by decide +kernel
theorem dX1_copyFrom_64 : decode cX1_copyFrom 64 = .ok (.aload_n 0, 1) := by decide +kernel
theorem dX1_copyFrom_65 : decode cX1_copyFrom 65 = .ok (.aload_n 1, 1) := by decide +kernel
theorem dX1_copyFrom_66 : decode cX1_copyFrom 66 = .ok (.getfield 36, 3) := by decide +kernel
theorem dX1_copyFrom_69 : decode cX1_copyFrom 69 = .ok (.putfield 36, 3) := by decide +kernel
theorem dX1_copyFrom_72 : decode cX1_copyFrom 72 = .ok (.aload_n 0, 1) := by decide +kernel
theorem dX1_copyFrom_73 : decode cX1_copyFrom 73 = .ok (.aload_n 1, 1) := by decide +kernel
theorem dX1_copyFrom_74 : decode cX1_copyFrom 74 = .ok (.getfield 39, 3) := by decide +kernel
theorem dX1_copyFrom_77 : decode cX1_copyFrom 77 = .ok (.putfield 39, 3) := by decide +kernel
theorem dX1_copyFrom_80 : decode cX1_copyFrom 80 = .ok (.aload_n 0, 1) := by decide +kernel
theorem dX1_copyFrom_81 : decode cX1_copyFrom 81 = .ok (.aload_n 1, 1) := by decide +kernel
theorem dX1_copyFrom_82 : decode cX1_copyFrom 82 = .ok (.getfield 42, 3) := by decide +kernel
theorem dX1_copyFrom_85 : decode cX1_copyFrom 85 = .ok (.putfield 42, 3) := by decide +kernel
theorem dX1_copyFrom_88 : decode cX1_copyFrom 88 = .ok (.return_, 1) := by decide +kernel
/-! BusLifts$Call.copyFrom(LBusLifts$Call;)V -/
noncomputable def f_X1_copyFrom  (σ : Sg) (o0 : Nat) (o1 : Nat) : Option Sg := st (sup σ 1 o0 0 (σ 1 o1 0)) fun σ1 => (st (sup σ1 1 o0 1 (σ1 1 o1 1)) fun σ2 => (st (sup σ2 1 o0 2 (σ2 1 o1 2)) fun σ3 => (st (sup σ3 1 o0 3 (σ3 1 o1 3)) fun σ4 => (st (sup σ4 1 o0 4 (σ4 1 o1 4)) fun σ5 => (st (sup σ5 1 o0 5 (σ5 1 o1 5)) fun σ6 => (st (sup σ6 1 o0 6 (σ6 1 o1 6)) fun σ7 => (st (sup σ7 1 o0 7 (σ7 1 o1 7)) fun σ8 => (st (sup σ8 1 o0 8 (σ8 1 o1 8)) fun σ9 => (st (sup σ9 1 o0 9 (σ9 1 o1 9)) fun σ10 => (st (sup σ10 1 o0 10 (σ10 1 o1 10)) fun σ11 => (some σ11)))))))))))
set_option maxHeartbeats 4000000 in
set_option maxRecDepth 100000 in
theorem w_X1_copyFrom_0 {p : Program} {l : Launch} {e : Env} {s : State} {m : MethodId} {args : Array Value} {below : List Frame} {meth : Method} {c : Code} {G : Gx} {ad : Ad} {res : Sg} (C : Cx p s m args meth c yX1_copyFrom.cls cX1_copyFrom 2 none G)  : ∀ (σ : Sg) (o0 : Nat) (o1 : Nat) (H : Heap) (locs : List Loc) (ls : Array Slot), z_S 0 G ad σ (z_A 0 ad s.heap.size) s.heap H locs → lv_has ls 2 [(0, .ref (ad 1 o0)), (1, .ref (ad 1 o1))] → (o0 < z_cnt 1) → (o1 < z_cnt 1) → f_X1_copyFrom  σ o0 o1 = some res → W p l e { frames := 0, cells := 0, slots := 0, locals := 0 } s m args below meth c H locs 0 0 (MQ below (va_Qv (S := Unit) (fun _ => True) (fun _ t => z_W 0 G ad res t.heap) (z_A 0 ad s.heap.size)) args s 0 0 (z_A 0 ad s.heap.size)) (F0 m 0 ls []) := by
  intro σ o0 o1 H locs ls S hl ho0 ho1 hf
  unfold f_X1_copyFrom at hf
  refine lv_aload_n C.1 C.2.1 dX1_copyFrom_0 rfl (lv_at hl 0 rfl) ?_
  refine lv_aload_n C.1 C.2.1 dX1_copyFrom_1 rfl (lv_at hl 1 rfl) ?_
  refine z_getI C S 1 o1 rfl ho1 cf_1 0 (by decide) (gi_1_0 G ad o1) tw_1_162 dX1_copyFrom_2 ?_
  obtain ⟨σ1, e_5, hf⟩ := stb hf
  refine z_putI C S 1 o0 rfl ho0 cf_1 0 (by decide) (pi_1_0 G ad o0) rfl rfl rfl tw_1_162 dX1_copyFrom_5 (fun H locs S => ?_)
  rw [← e_5] at S
  refine lv_aload_n C.1 C.2.1 dX1_copyFrom_8 rfl (lv_at hl 0 rfl) ?_
  refine lv_aload_n C.1 C.2.1 dX1_copyFrom_9 rfl (lv_at hl 1 rfl) ?_
  refine z_getI C S 1 o1 rfl ho1 cf_1 1 (by decide) (gi_1_1 G ad o1) tw_1_166 dX1_copyFrom_10 ?_
  obtain ⟨σ2, e_13, hf⟩ := stb hf
  refine z_putI C S 1 o0 rfl ho0 cf_1 1 (by decide) (pi_1_1 G ad o0) rfl rfl rfl tw_1_166 dX1_copyFrom_13 (fun H locs S => ?_)
  rw [← e_13] at S
  refine lv_aload_n C.1 C.2.1 dX1_copyFrom_16 rfl (lv_at hl 0 rfl) ?_
  refine lv_aload_n C.1 C.2.1 dX1_copyFrom_17 rfl (lv_at hl 1 rfl) ?_
  refine z_getI C S 1 o1 rfl ho1 cf_1 2 (by decide) (gi_1_2 G ad o1) tw_1_170 dX1_copyFrom_18 ?_
  obtain ⟨σ3, e_21, hf⟩ := stb hf
  refine z_putI C S 1 o0 rfl ho0 cf_1 2 (by decide) (pi_1_2 G ad o0) rfl rfl rfl tw_1_170 dX1_copyFrom_21 (fun H locs S => ?_)
  rw [← e_21] at S
  refine lv_aload_n C.1 C.2.1 dX1_copyFrom_24 rfl (lv_at hl 0 rfl) ?_
  refine lv_aload_n C.1 C.2.1 dX1_copyFrom_25 rfl (lv_at hl 1 rfl) ?_
  refine z_getI C S 1 o1 rfl ho1 cf_1 3 (by decide) (gi_1_3 G ad o1) tw_1_173 dX1_copyFrom_26 ?_
  obtain ⟨σ4, e_29, hf⟩ := stb hf
  refine z_putI C S 1 o0 rfl ho0 cf_1 3 (by decide) (pi_1_3 G ad o0) rfl rfl rfl tw_1_173 dX1_copyFrom_29 (fun H locs S => ?_)
  rw [← e_29] at S
  refine lv_aload_n C.1 C.2.1 dX1_copyFrom_32 rfl (lv_at hl 0 rfl) ?_
  refine lv_aload_n C.1 C.2.1 dX1_copyFrom_33 rfl (lv_at hl 1 rfl) ?_
  refine z_getI C S 1 o1 rfl ho1 cf_1 4 (by decide) (gi_1_4 G ad o1) tw_1_177 dX1_copyFrom_34 ?_
  obtain ⟨σ5, e_37, hf⟩ := stb hf
  refine z_putI C S 1 o0 rfl ho0 cf_1 4 (by decide) (pi_1_4 G ad o0) rfl rfl rfl tw_1_177 dX1_copyFrom_37 (fun H locs S => ?_)
  rw [← e_37] at S
  refine lv_aload_n C.1 C.2.1 dX1_copyFrom_40 rfl (lv_at hl 0 rfl) ?_
  refine lv_aload_n C.1 C.2.1 dX1_copyFrom_41 rfl (lv_at hl 1 rfl) ?_
  refine z_getI C S 1 o1 rfl ho1 cf_1 5 (by decide) (gi_1_5 G ad o1) tw_1_180 dX1_copyFrom_42 ?_
  obtain ⟨σ6, e_45, hf⟩ := stb hf
  refine z_putI C S 1 o0 rfl ho0 cf_1 5 (by decide) (pi_1_5 G ad o0) rfl rfl rfl tw_1_180 dX1_copyFrom_45 (fun H locs S => ?_)
  rw [← e_45] at S
  refine lv_aload_n C.1 C.2.1 dX1_copyFrom_48 rfl (lv_at hl 0 rfl) ?_
  refine lv_aload_n C.1 C.2.1 dX1_copyFrom_49 rfl (lv_at hl 1 rfl) ?_
  refine z_getI C S 1 o1 rfl ho1 cf_1 6 (by decide) (gi_1_6 G ad o1) tw_1_183 dX1_copyFrom_50 ?_
  obtain ⟨σ7, e_53, hf⟩ := stb hf
  refine z_putI C S 1 o0 rfl ho0 cf_1 6 (by decide) (pi_1_6 G ad o0) rfl rfl rfl tw_1_183 dX1_copyFrom_53 (fun H locs S => ?_)
  rw [← e_53] at S
  refine lv_aload_n C.1 C.2.1 dX1_copyFrom_56 rfl (lv_at hl 0 rfl) ?_
  refine lv_aload_n C.1 C.2.1 dX1_copyFrom_57 rfl (lv_at hl 1 rfl) ?_
  refine z_getI C S 1 o1 rfl ho1 cf_1 7 (by decide) (gi_1_7 G ad o1) tw_1_186 dX1_copyFrom_58 ?_
  obtain ⟨σ8, e_61, hf⟩ := stb hf
  refine z_putI C S 1 o0 rfl ho0 cf_1 7 (by decide) (pi_1_7 G ad o0) rfl rfl rfl tw_1_186 dX1_copyFrom_61 (fun H locs S => ?_)
  rw [← e_61] at S
  refine lv_aload_n C.1 C.2.1 dX1_copyFrom_64 rfl (lv_at hl 0 rfl) ?_
  refine lv_aload_n C.1 C.2.1 dX1_copyFrom_65 rfl (lv_at hl 1 rfl) ?_
  refine z_getI C S 1 o1 rfl ho1 cf_1 8 (by decide) (gi_1_8 G ad o1) tw_1_189 dX1_copyFrom_66 ?_
  obtain ⟨σ9, e_69, hf⟩ := stb hf
  refine z_putI C S 1 o0 rfl ho0 cf_1 8 (by decide) (pi_1_8 G ad o0) rfl rfl rfl tw_1_189 dX1_copyFrom_69 (fun H locs S => ?_)
  rw [← e_69] at S
  refine lv_aload_n C.1 C.2.1 dX1_copyFrom_72 rfl (lv_at hl 0 rfl) ?_
  refine lv_aload_n C.1 C.2.1 dX1_copyFrom_73 rfl (lv_at hl 1 rfl) ?_
  refine z_getI C S 1 o1 rfl ho1 cf_1 9 (by decide) (gi_1_9 G ad o1) tw_1_192 dX1_copyFrom_74 ?_
  obtain ⟨σ10, e_77, hf⟩ := stb hf
  refine z_putI C S 1 o0 rfl ho0 cf_1 9 (by decide) (pi_1_9 G ad o0) rfl rfl rfl tw_1_192 dX1_copyFrom_77 (fun H locs S => ?_)
  rw [← e_77] at S
  refine lv_aload_n C.1 C.2.1 dX1_copyFrom_80 rfl (lv_at hl 0 rfl) ?_
  refine lv_aload_n C.1 C.2.1 dX1_copyFrom_81 rfl (lv_at hl 1 rfl) ?_
  refine z_getI C S 1 o1 rfl ho1 cf_1 10 (by decide) (gi_1_10 G ad o1) tw_1_194 dX1_copyFrom_82 ?_
  obtain ⟨σ11, e_85, hf⟩ := stb hf
  refine z_putI C S 1 o0 rfl ho0 cf_1 10 (by decide) (pi_1_10 G ad o0) rfl rfl rfl tw_1_194 dX1_copyFrom_85 (fun H locs S => ?_)
  rw [← e_85] at S
  exact z_vret C S hf dX1_copyFrom_88
theorem kv_X1_copyFrom : KV yX1_copyFrom cX1_copyFrom 2 none 1 := ⟨tw_3_93, tw_3_91, tw_3_92, tw_1_15, by decide, by decide, by decide +kernel⟩
theorem m_X1_copyFrom (l : Launch) (G : Gx) (ad : Ad) (σ : Sg) (o0 : Nat) (o1 : Nat) (σ' : Sg) (ho0 : o0 < z_cnt 1) (ho1 : o1 < z_cnt 1) (hf : f_X1_copyFrom σ o0 o1 = some σ') (sz : Nat) : z_MV l yX1_copyFrom cX1_copyFrom 2 none 0 0 0 G ad σ sz [.ref (ad 1 o0), .ref (ad 1 o1)] σ' := by
  refine z_begin (by decide +kernel) (Nat.le_of_ble_eq_true rfl) [(0, .ref (ad 1 o0)), (1, .ref (ad 1 o1))] rfl (fun p e s m args below meth c ls C hz S hl => ?_)
  subst hz
  exact w_X1_copyFrom_0 (res := σ') C σ o0 o1 _ _ _ S hl ho0 ho1 hf

theorem dX5_copyFrom_0 : decode cX5_copyFrom 0 = .ok (.aload_n 0, 1) := by decide +kernel
theorem dX5_copyFrom_1 : decode cX5_copyFrom 1 = .ok (.aload_n 1, 1) := by decide +kernel
theorem dX5_copyFrom_2 : decode cX5_copyFrom 2 = .ok (.getfield 24, 3) := by decide +kernel
theorem dX5_copyFrom_5 : decode cX5_copyFrom 5 = .ok (.putfield 24, 3) := by decide +kernel
theorem dX5_copyFrom_8 : decode cX5_copyFrom 8 = .ok (.aload_n 1, 1) := by decide +kernel
theorem dX5_copyFrom_9 : decode cX5_copyFrom 9 = .ok (.getfield 9, 3) := by decide +kernel
theorem dX5_copyFrom_12 : decode cX5_copyFrom 12 = .ok (.iconst 0, 1) := by decide +kernel
theorem dX5_copyFrom_13 : decode cX5_copyFrom 13 = .ok (.aload_n 0, 1) := by decide +kernel
theorem dX5_copyFrom_14 : decode cX5_copyFrom 14 = .ok (.getfield 9, 3) := by decide +kernel
theorem dX5_copyFrom_17 : decode cX5_copyFrom 17 = .ok (.iconst 0, 1) := by decide +kernel
theorem dX5_copyFrom_18 : decode cX5_copyFrom 18 = .ok (.aload_n 0, 1) := by decide +kernel
theorem dX5_copyFrom_19 : decode cX5_copyFrom 19 = .ok (.getfield 24, 3) := by decide +kernel
theorem dX5_copyFrom_22 : decode cX5_copyFrom 22 = .ok (.invokestatic 28, 3) := by decide +kernel
theorem dX5_copyFrom_25 : decode cX5_copyFrom 25 = .ok (.aload_n 1, 1) := by decide +kernel
theorem dX5_copyFrom_26 : decode cX5_copyFrom 26 = .ok (.getfield 15, 3) := by decide +kernel
theorem dX5_copyFrom_29 : decode cX5_copyFrom 29 = .ok (.iconst 0, 1) := by decide +kernel
theorem dX5_copyFrom_30 : decode cX5_copyFrom 30 = .ok (.aload_n 0, 1) := by decide +kernel
theorem dX5_copyFrom_31 : decode cX5_copyFrom 31 = .ok (.getfield 15, 3) := by decide +kernel
theorem dX5_copyFrom_34 : decode cX5_copyFrom 34 = .ok (.iconst 0, 1) := by decide +kernel
theorem dX5_copyFrom_35 : decode cX5_copyFrom 35 = .ok (.aload_n 0, 1) := by decide +kernel
theorem dX5_copyFrom_36 : decode cX5_copyFrom 36 = .ok (.getfield 24, 3) := by decide +kernel
theorem dX5_copyFrom_39 : decode cX5_copyFrom 39 = .ok (.invokestatic 28, 3) := by decide +kernel
theorem dX5_copyFrom_42 : decode cX5_copyFrom 42 = .ok (.aload_n 1, 1) := by decide +kernel
theorem dX5_copyFrom_43 : decode cX5_copyFrom 43 = .ok (.getfield 18, 3) := by decide +kernel
theorem dX5_copyFrom_46 : decode cX5_copyFrom 46 = .ok (.iconst 0, 1) := by decide +kernel
theorem dX5_copyFrom_47 : decode cX5_copyFrom 47 = .ok (.aload_n 0, 1) := by decide +kernel
theorem dX5_copyFrom_48 : decode cX5_copyFrom 48 = .ok (.getfield 18, 3) := by decide +kernel
theorem dX5_copyFrom_51 : decode cX5_copyFrom 51 = .ok (.iconst 0, 1) := by decide +kernel
theorem dX5_copyFrom_52 : decode cX5_copyFrom 52 = .ok (.aload_n 0, 1) := by decide +kernel
theorem dX5_copyFrom_53 : decode cX5_copyFrom 53 = .ok (.getfield 24, 3) := by decide +kernel
theorem dX5_copyFrom_56 : decode cX5_copyFrom 56 = .ok (.invokestatic 28, 3) := by decide +kernel
theorem dX5_copyFrom_59 : decode cX5_copyFrom 59 = .ok (.aload_n 1, 1) := by decide +kernel
theorem dX5_copyFrom_60 : decode cX5_copyFrom 60 = .ok (.getfield 21, 3) := by decide +kernel
theorem dX5_copyFrom_63 : decode cX5_copyFrom 63 = .ok (.iconst 0, 1) := by decide +kernel
theorem dX5_copyFrom_64 : decode cX5_copyFrom 64 = .ok (.aload_n 0, 1) := by decide +kernel
theorem dX5_copyFrom_65 : decode cX5_copyFrom 65 = .ok (.getfield 21, 3) := by decide +kernel
theorem dX5_copyFrom_68 : decode cX5_copyFrom 68 = .ok (.iconst 0, 1) := by decide +kernel
theorem dX5_copyFrom_69 : decode cX5_copyFrom 69 = .ok (.aload_n 0, 1) := by decide +kernel
theorem dX5_copyFrom_70 : decode cX5_copyFrom 70 = .ok (.getfield 24, 3) := by decide +kernel
theorem dX5_copyFrom_73 : decode cX5_copyFrom 73 = .ok (.invokestatic 28, 3) := by decide +kernel
theorem dX5_copyFrom_76 : decode cX5_copyFrom 76 = .ok (.return_, 1) := by decide +kernel
/-! BusLifts$Messages.copyFrom(LBusLifts$Messages;)V -/
noncomputable def f_X5_copyFrom  (σ : Sg) (o0 : Nat) (o1 : Nat) : Option Sg := st (sup σ 5 o0 0 (σ 5 o1 0)) fun σ1 => (if (σ1 5 o0 0) < 0 ∨ 240 < ((σ1 5 o0 0)).toNatClampNeg then none else (st (scp σ1 20 o1 0 20 o0 0 ((σ1 5 o0 0)).toNatClampNeg) fun σ2 => (if (σ2 5 o0 0) < 0 ∨ 240 < ((σ2 5 o0 0)).toNatClampNeg then none else (st (scp σ2 21 o1 0 21 o0 0 ((σ2 5 o0 0)).toNatClampNeg) fun σ3 => (if (σ3 5 o0 0) < 0 ∨ 240 < ((σ3 5 o0 0)).toNatClampNeg then none else (st (scp σ3 22 o1 0 22 o0 0 ((σ3 5 o0 0)).toNatClampNeg) fun σ4 => (if (σ4 5 o0 0) < 0 ∨ 240 < ((σ4 5 o0 0)).toNatClampNeg then none else (st (scp σ4 23 o1 0 23 o0 0 ((σ4 5 o0 0)).toNatClampNeg) fun σ5 => (some σ5)))))))))
set_option maxHeartbeats 4000000 in
set_option maxRecDepth 100000 in
theorem w_X5_copyFrom_0 {p : Program} {l : Launch} {e : Env} {s : State} {m : MethodId} {args : Array Value} {below : List Frame} {meth : Method} {c : Code} {G : Gx} {ad : Ad} {res : Sg} (C : Cx p s m args meth c yX5_copyFrom.cls cX5_copyFrom 2 none G)  : ∀ (σ : Sg) (o0 : Nat) (o1 : Nat) (H : Heap) (locs : List Loc) (ls : Array Slot), z_S 0 G ad σ (z_A 0 ad s.heap.size) s.heap H locs → lv_has ls 2 [(0, .ref (ad 5 o0)), (1, .ref (ad 5 o1))] → (o0 < z_cnt 5) → (o1 < z_cnt 5) → f_X5_copyFrom  σ o0 o1 = some res → W p l e { frames := 1, cells := 0, slots := 0, locals := 26 } s m args below meth c H locs 0 0 (MQ below (va_Qv (S := Unit) (fun _ => True) (fun _ t => z_W 0 G ad res t.heap) (z_A 0 ad s.heap.size)) args s 0 0 (z_A 0 ad s.heap.size)) (F0 m 0 ls []) := by
  intro σ o0 o1 H locs ls S hl ho0 ho1 hf
  unfold f_X5_copyFrom at hf
  refine lv_aload_n C.1 C.2.1 dX5_copyFrom_0 rfl (lv_at hl 0 rfl) ?_
  refine lv_aload_n C.1 C.2.1 dX5_copyFrom_1 rfl (lv_at hl 1 rfl) ?_
  refine z_getI C S 5 o1 rfl ho1 cf_5 0 (by decide) (gi_5_0 G ad o1) tw_1_59 dX5_copyFrom_2 ?_
  obtain ⟨σ1, e_5, hf⟩ := stb hf
  refine z_putI C S 5 o0 rfl ho0 cf_5 0 (by decide) (pi_5_0 G ad o0) rfl rfl rfl tw_1_59 dX5_copyFrom_5 (fun H locs S => ?_)
  rw [← e_5] at S
  refine lv_aload_n C.1 C.2.1 dX5_copyFrom_8 rfl (lv_at hl 1 rfl) ?_
  refine z_getR C S 5 o1 rfl ho1 cf_5 1 (by decide) _ (gr_5_1 G ad o1) tw_1_63 dX5_copyFrom_9 ?_
  refine lv_iconst (v := 0) C.1 C.2.1 dX5_copyFrom_12 (by decide) ?_
  refine lv_aload_n C.1 C.2.1 dX5_copyFrom_13 rfl (lv_at hl 0 rfl) ?_
  refine z_getR C S 5 o0 rfl ho0 cf_5 1 (by decide) _ (gr_5_1 G ad o0) tw_1_63 dX5_copyFrom_14 ?_
  refine lv_iconst (v := 0) C.1 C.2.1 dX5_copyFrom_17 (by decide) ?_
  refine lv_aload_n C.1 C.2.1 dX5_copyFrom_18 rfl (lv_at hl 0 rfl) ?_
  refine z_getI C S 5 o0 rfl ho0 cf_5 0 (by decide) (gi_5_0 G ad o0) tw_1_59 dX5_copyFrom_19 ?_
  obtain ⟨g_22, hf⟩ := gd hf
  obtain ⟨σ2, e_22, hf⟩ := stb hf
  refine z_copy C S hl.1 20 o1 20 o0 240 240 rfl ho1 rfl ho0 (fun _ => rfl) (fun _ => rfl) tw_3_98 (by decide) (by decide) (fun q => g_22 (Or.inl q)) (zcp g_22) (zcp g_22) (Nat.le_of_ble_eq_true rfl) (Nat.le_of_ble_eq_true rfl) dX5_copyFrom_22 (fun H locs S => ?_)
  have S := z_cp0 e_22 S
  refine lv_aload_n C.1 C.2.1 dX5_copyFrom_25 rfl (lv_at hl 1 rfl) ?_
  refine z_getR C S 5 o1 rfl ho1 cf_5 2 (by decide) _ (gr_5_2 G ad o1) tw_1_65 dX5_copyFrom_26 ?_
  refine lv_iconst (v := 0) C.1 C.2.1 dX5_copyFrom_29 (by decide) ?_
  refine lv_aload_n C.1 C.2.1 dX5_copyFrom_30 rfl (lv_at hl 0 rfl) ?_
  refine z_getR C S 5 o0 rfl ho0 cf_5 2 (by decide) _ (gr_5_2 G ad o0) tw_1_65 dX5_copyFrom_31 ?_
  refine lv_iconst (v := 0) C.1 C.2.1 dX5_copyFrom_34 (by decide) ?_
  refine lv_aload_n C.1 C.2.1 dX5_copyFrom_35 rfl (lv_at hl 0 rfl) ?_
  refine z_getI C S 5 o0 rfl ho0 cf_5 0 (by decide) (gi_5_0 G ad o0) tw_1_59 dX5_copyFrom_36 ?_
  obtain ⟨g_39, hf⟩ := gd hf
  obtain ⟨σ3, e_39, hf⟩ := stb hf
  refine z_copy C S hl.1 21 o1 21 o0 240 240 rfl ho1 rfl ho0 (fun _ => rfl) (fun _ => rfl) tw_3_98 (by decide) (by decide) (fun q => g_39 (Or.inl q)) (zcp g_39) (zcp g_39) (Nat.le_of_ble_eq_true rfl) (Nat.le_of_ble_eq_true rfl) dX5_copyFrom_39 (fun H locs S => ?_)
  have S := z_cp0 e_39 S
  refine lv_aload_n C.1 C.2.1 dX5_copyFrom_42 rfl (lv_at hl 1 rfl) ?_
  refine z_getR C S 5 o1 rfl ho1 cf_5 3 (by decide) _ (gr_5_3 G ad o1) tw_1_67 dX5_copyFrom_43 ?_
  refine lv_iconst (v := 0) C.1 C.2.1 dX5_copyFrom_46 (by decide) ?_
  refine lv_aload_n C.1 C.2.1 dX5_copyFrom_47 rfl (lv_at hl 0 rfl) ?_
  refine z_getR C S 5 o0 rfl ho0 cf_5 3 (by decide) _ (gr_5_3 G ad o0) tw_1_67 dX5_copyFrom_48 ?_
  refine lv_iconst (v := 0) C.1 C.2.1 dX5_copyFrom_51 (by decide) ?_
  refine lv_aload_n C.1 C.2.1 dX5_copyFrom_52 rfl (lv_at hl 0 rfl) ?_
  refine z_getI C S 5 o0 rfl ho0 cf_5 0 (by decide) (gi_5_0 G ad o0) tw_1_59 dX5_copyFrom_53 ?_
  obtain ⟨g_56, hf⟩ := gd hf
  obtain ⟨σ4, e_56, hf⟩ := stb hf
  refine z_copy C S hl.1 22 o1 22 o0 240 240 rfl ho1 rfl ho0 (fun _ => rfl) (fun _ => rfl) tw_3_98 (by decide) (by decide) (fun q => g_56 (Or.inl q)) (zcp g_56) (zcp g_56) (Nat.le_of_ble_eq_true rfl) (Nat.le_of_ble_eq_true rfl) dX5_copyFrom_56 (fun H locs S => ?_)
  have S := z_cp0 e_56 S
  refine lv_aload_n C.1 C.2.1 dX5_copyFrom_59 rfl (lv_at hl 1 rfl) ?_
  refine z_getR C S 5 o1 rfl ho1 cf_5 4 (by decide) _ (gr_5_4 G ad o1) tw_1_69 dX5_copyFrom_60 ?_
  refine lv_iconst (v := 0) C.1 C.2.1 dX5_copyFrom_63 (by decide) ?_
  refine lv_aload_n C.1 C.2.1 dX5_copyFrom_64 rfl (lv_at hl 0 rfl) ?_
  refine z_getR C S 5 o0 rfl ho0 cf_5 4 (by decide) _ (gr_5_4 G ad o0) tw_1_69 dX5_copyFrom_65 ?_
  refine lv_iconst (v := 0) C.1 C.2.1 dX5_copyFrom_68 (by decide) ?_
  refine lv_aload_n C.1 C.2.1 dX5_copyFrom_69 rfl (lv_at hl 0 rfl) ?_
  refine z_getI C S 5 o0 rfl ho0 cf_5 0 (by decide) (gi_5_0 G ad o0) tw_1_59 dX5_copyFrom_70 ?_
  obtain ⟨g_73, hf⟩ := gd hf
  obtain ⟨σ5, e_73, hf⟩ := stb hf
  refine z_copy C S hl.1 23 o1 23 o0 240 240 rfl ho1 rfl ho0 (fun _ => rfl) (fun _ => rfl) tw_3_98 (by decide) (by decide) (fun q => g_73 (Or.inl q)) (zcp g_73) (zcp g_73) (Nat.le_of_ble_eq_true rfl) (Nat.le_of_ble_eq_true rfl) dX5_copyFrom_73 (fun H locs S => ?_)
  have S := z_cp0 e_73 S
  exact z_vret C S hf dX5_copyFrom_76
theorem kv_X5_copyFrom : KV yX5_copyFrom cX5_copyFrom 2 none 1 := ⟨tw_3_97, tw_3_95, tw_3_96, tw_1_13, by decide, by decide, by decide +kernel⟩
theorem m_X5_copyFrom (l : Launch) (G : Gx) (ad : Ad) (σ : Sg) (o0 : Nat) (o1 : Nat) (σ' : Sg) (ho0 : o0 < z_cnt 5) (ho1 : o1 < z_cnt 5) (hf : f_X5_copyFrom σ o0 o1 = some σ') (sz : Nat) : z_MV l yX5_copyFrom cX5_copyFrom 2 none 1 26 0 G ad σ sz [.ref (ad 5 o0), .ref (ad 5 o1)] σ' := by
  refine z_begin (by decide +kernel) (Nat.le_of_ble_eq_true rfl) [(0, .ref (ad 5 o0)), (1, .ref (ad 5 o1))] rfl (fun p e s m args below meth c ls C hz S hl => ?_)
  subst hz
  exact w_X5_copyFrom_0 (res := σ') C σ o0 o1 _ _ _ S hl ho0 ho1 hf

theorem dX4_copyFrom_0 : decode cX4_copyFrom 0 = .ok (.aload_n 0, 1) := by decide +kernel
theorem dX4_copyFrom_1 : decode cX4_copyFrom 1 = .ok (.aload_n 1, 1) := by decide +kernel
theorem dX4_copyFrom_2 : decode cX4_copyFrom 2 = .ok (.getfield 45, 3) := by decide +kernel
theorem dX4_copyFrom_5 : decode cX4_copyFrom 5 = .ok (.putfield 45, 3) := by decide +kernel
theorem dX4_copyFrom_8 : decode cX4_copyFrom 8 = .ok (.aload_n 0, 1) := by decide +kernel
theorem dX4_copyFrom_9 : decode cX4_copyFrom 9 = .ok (.aload_n 1, 1) := by decide +kernel
theorem dX4_copyFrom_10 : decode cX4_copyFrom 10 = .ok (.getfield 49, 3) := by decide +kernel
theorem dX4_copyFrom_13 : decode cX4_copyFrom 13 = .ok (.putfield 49, 3) := by decide +kernel
theorem dX4_copyFrom_16 : decode cX4_copyFrom 16 = .ok (.aload_n 0, 1) := by decide +kernel
theorem dX4_copyFrom_17 : decode cX4_copyFrom 17 = .ok (.aload_n 1, 1) := by decide +kernel
theorem dX4_copyFrom_18 : decode cX4_copyFrom 18 = .ok (.getfield 52, 3) := by decide +kernel
theorem dX4_copyFrom_21 : decode cX4_copyFrom 21 = .ok (.putfield 52, 3) := by decide +kernel
theorem dX4_copyFrom_24 : decode cX4_copyFrom 24 = .ok (.aload_n 0, 1) := by decide +kernel
theorem dX4_copyFrom_25 : decode cX4_copyFrom 25 = .ok (.aload_n 1, 1) := by decide +kernel
theorem dX4_copyFrom_26 : decode cX4_copyFrom 26 = .ok (.getfield 55, 3) := by decide +kernel
theorem dX4_copyFrom_29 : decode cX4_copyFrom 29 = .ok (.putfield 55, 3) := by decide +kernel
theorem dX4_copyFrom_32 : decode cX4_copyFrom 32 = .ok (.aload_n 0, 1) := by decide +kernel
theorem dX4_copyFrom_33 : decode cX4_copyFrom 33 = .ok (.aload_n 1, 1) := by decide +kernel
theorem dX4_copyFrom_34 : decode cX4_copyFrom 34 = .ok (.getfield 58, 3) := by decide +kernel
theorem dX4_copyFrom_37 : decode cX4_copyFrom 37 = .ok (.putfield 58, 3) := by decide +kernel
theorem dX4_copyFrom_40 : decode cX4_copyFrom 40 = .ok (.aload_n 1, 1) := by decide +kernel
theorem dX4_copyFrom_41 : decode cX4_copyFrom 41 = .ok (.getfield 9, 3) := by decide +kernel
theorem dX4_copyFrom_44 : decode cX4_copyFrom 44 = .ok (.iconst 0, 1) := by decide +kernel
theorem dX4_copyFrom_45 : decode cX4_copyFrom 45 = .ok (.aload_n 0, 1) := by decide +kernel
theorem dX4_copyFrom_46 : decode cX4_copyFrom 46 = .ok (.getfield 9, 3) := by decide +kernel
theorem dX4_copyFrom_49 : decode cX4_copyFrom 49 = .ok (.iconst 0, 1) := by decide +kernel
theorem dX4_copyFrom_50 : decode cX4_copyFrom 50 = .ok (.iconst 5, 1) := by decide +kernel
theorem dX4_copyFrom_51 : decode cX4_copyFrom 51 = .ok (.invokestatic 64, 3) := by decide +kernel
theorem dX4_copyFrom_54 : decode cX4_copyFrom 54 = .ok (.iconst 0, 1) := by decide +kernel
theorem dX4_copyFrom_55 : decode cX4_copyFrom 55 = .ok (.istore_n 2, 1) := by decide +kernel
theorem dX4_copyFrom_56 : decode cX4_copyFrom 56 = .ok (.iload_n 2, 1) := by decide +kernel
theorem dX4_copyFrom_57 : decode cX4_copyFrom 57 = .ok (.aload_n 0, 1) := by decide +kernel
theorem dX4_copyFrom_58 : decode cX4_copyFrom 58 = .ok (.getfield 49, 3) := by decide +kernel
theorem dX4_copyFrom_61 : decode cX4_copyFrom 61 = .ok (.if_icmp .ge 24, 3) := by decide +kernel
theorem dX4_copyFrom_64 : decode cX4_copyFrom 64 = .ok (.aload_n 0, 1) := by decide +kernel
theorem dX4_copyFrom_65 : decode cX4_copyFrom 65 = .ok (.getfield 17, 3) := by decide +kernel
theorem dX4_copyFrom_68 : decode cX4_copyFrom 68 = .ok (.iload_n 2, 1) := by decide +kernel
theorem dX4_copyFrom_69 : decode cX4_copyFrom 69 = .ok (.aaload, 1) := by decide +kernel
theorem dX4_copyFrom_70 : decode cX4_copyFrom 70 = .ok (.aload_n 1, 1) := by decide +kernel
theorem dX4_copyFrom_71 : decode cX4_copyFrom 71 = .ok (.getfield 17, 3) := by decide +kernel
theorem dX4_copyFrom_74 : decode cX4_copyFrom 74 = .ok (.iload_n 2, 1) := by decide +kernel
theorem dX4_copyFrom_75 : decode cX4_copyFrom 75 = .ok (.aaload, 1) := by decide +kernel
theorem dX4_copyFrom_76 : decode cX4_copyFrom 76 = .ok (.invokevirtual 73, 3) := by decide +kernel
theorem dX4_copyFrom_79 : decode cX4_copyFrom 79 = .ok (.iinc 2 1, 3) := by decide +kernel
theorem dX4_copyFrom_82 : decode cX4_copyFrom 82 = .ok (.goto (-26), 3) := by decide +kernel
theorem dX4_copyFrom_85 : decode cX4_copyFrom 85 = .ok (.iconst 0, 1) := by decide +kernel
theorem dX4_copyFrom_86 : decode cX4_copyFrom 86 = .ok (.istore_n 2, 1) := by decide +kernel
theorem dX4_copyFrom_87 : decode cX4_copyFrom 87 = .ok (.iload_n 2, 1) := by decide +kernel
theorem dX4_copyFrom_88 : decode cX4_copyFrom 88 = .ok (.aload_n 0, 1) := by decide +kernel
theorem dX4_copyFrom_89 : decode cX4_copyFrom 89 = .ok (.getfield 52, 3) := by decide +kernel
theorem dX4_copyFrom_92 : decode cX4_copyFrom 92 = .ok (.if_icmp .ge 24, 3) := by decide +kernel
theorem dX4_copyFrom_95 : decode cX4_copyFrom 95 = .ok (.aload_n 0, 1) := by decide +kernel
theorem dX4_copyFrom_96 : decode cX4_copyFrom 96 = .ok (.getfield 23, 3) := by decide +kernel
theorem dX4_copyFrom_99 : decode cX4_copyFrom 99 = .ok (.iload_n 2, 1) := by decide +kernel
theorem dX4_copyFrom_100 : decode cX4_copyFrom 100 = .ok (.aaload, 1) := by decide +kernel
theorem dX4_copyFrom_101 : decode cX4_copyFrom 101 = .ok (.aload_n 1, 1) := by decide +kernel
theorem dX4_copyFrom_102 : decode cX4_copyFrom 102 = .ok (.getfield 23, 3) := by decide +kernel
theorem dX4_copyFrom_105 : decode cX4_copyFrom 105 = .ok (.iload_n 2, 1) := by decide +kernel
theorem dX4_copyFrom_106 : decode cX4_copyFrom 106 = .ok (.aaload, 1) := by decide +kernel
theorem dX4_copyFrom_107 : decode cX4_copyFrom 107 = .ok (.invokevirtual 77, 3) := by decide +kernel
theorem dX4_copyFrom_110 : decode cX4_copyFrom 110 = .ok (.iinc 2 1, 3) := by decide +kernel
theorem dX4_copyFrom_113 : decode cX4_copyFrom 113 = .ok (.goto (-26), 3) := by decide +kernel
theorem dX4_copyFrom_116 : decode cX4_copyFrom 116 = .ok (.aload_n 0, 1) := by decide +kernel
theorem dX4_copyFrom_117 : decode cX4_copyFrom 117 = .ok (.getfield 30, 3) := by decide +kernel
theorem dX4_copyFrom_120 : decode cX4_copyFrom 120 = .ok (.aload_n 1, 1) := by decide +kernel
theorem dX4_copyFrom_121 : decode cX4_copyFrom 121 = .ok (.getfield 30, 3) := by decide +kernel
theorem dX4_copyFrom_124 : decode cX4_copyFrom 124 = .ok (.invokevirtual 80, 3) := by decide +kernel
theorem dX4_copyFrom_127 : decode cX4_copyFrom 127 = .ok (.aload_n 1, 1) := by decide +kernel
theorem dX4_copyFrom_128 : decode cX4_copyFrom 128 = .ok (.getfield 34, 3) := by decide +kernel
theorem dX4_copyFrom_131 : decode cX4_copyFrom 131 = .ok (.iconst 0, 1) := by decide +kernel
theorem dX4_copyFrom_132 : decode cX4_copyFrom 132 = .ok (.aload_n 0, 1) := by decide +kernel
theorem dX4_copyFrom_133 : decode cX4_copyFrom 133 = .ok (.getfield 34, 3) := by decide +kernel
theorem dX4_copyFrom_136 : decode cX4_copyFrom 136 = .ok (.iconst 0, 1) := by decide +kernel
theorem dX4_copyFrom_137 : decode cX4_copyFrom 137 = .ok (.iconst 4, 1) := by decide +kernel
theorem dX4_copyFrom_138 : decode cX4_copyFrom 138 = .ok (.invokestatic 64, 3) := by decide +kernel
theorem dX4_copyFrom_141 : decode cX4_copyFrom 141 = .ok (.aload_n 1, 1) := by decide +kernel
theorem dX4_copyFrom_142 : decode cX4_copyFrom 142 = .ok (.getfield 37, 3) := by decide +kernel
theorem dX4_copyFrom_145 : decode cX4_copyFrom 145 = .ok (.iconst 0, 1) := by decide +kernel
theorem dX4_copyFrom_146 : decode cX4_copyFrom 146 = .ok (.aload_n 0, 1) := by decide +kernel
theorem dX4_copyFrom_147 : decode cX4_copyFrom 147 = .ok (.getfield 37, 3) := by decide +kernel
theorem dX4_copyFrom_150 : decode cX4_copyFrom 150 = .ok (.iconst 0, 1) := by decide +kernel
theorem dX4_copyFrom_151 : decode cX4_copyFrom 151 = .ok (.iconst 4, 1) := by decide +kernel
theorem dX4_copyFrom_152 : decode cX4_copyFrom 152 = .ok (.invokestatic 64, 3) := by decide +kernel
theorem dX4_copyFrom_155 : decode cX4_copyFrom 155 = .ok (.aload_n 1, 1) := by decide +kernel
theorem dX4_copyFrom_156 : decode cX4_copyFrom 156 = .ok (.getfield 40, 3) := by decide +kernel
theorem dX4_copyFrom_159 : decode cX4_copyFrom 159 = .ok (.iconst 0, 1) := by decide +kernel
theorem dX4_copyFrom_160 : decode cX4_copyFrom 160 = .ok (.aload_n 0, 1) := by decide +kernel
theorem dX4_copyFrom_161 : decode cX4_copyFrom 161 = .ok (.getfield 40, 3) := by decide +kernel
theorem dX4_copyFrom_164 : decode cX4_copyFrom 164 = .ok (.iconst 0, 1) := by decide +kernel
theorem dX4_copyFrom_165 : decode cX4_copyFrom 165 = .ok (.iconst 5, 1) := by decide +kernel
theorem dX4_copyFrom_166 : decode cX4_copyFrom 166 = .ok (.invokestatic 64, 3) := by decide +kernel
theorem dX4_copyFrom_169 : decode cX4_copyFrom 169 = .ok (.return_, 1) := by decide +kernel
/-! BusLifts$Lifts.copyFrom(LBusLifts$Lifts;)V -/
noncomputable def f_X4_copyFrom_116  (σ : Sg) (o0 : Nat) (o1 : Nat) : Option Sg := bv (f_X5_copyFrom σ o0 o1) fun σ1 => (st (scp σ1 13 o1 0 13 o0 0 (4 : Int32).toNatClampNeg) fun σ2 => (st (scp σ2 14 o1 0 14 o0 0 (4 : Int32).toNatClampNeg) fun σ3 => (st (scp σ3 15 o1 0 15 o0 0 (5 : Int32).toNatClampNeg) fun σ4 => (some σ4))))
noncomputable def f_X4_copyFrom_87  : Nat → Sg → Nat → Nat → Int32 → Option Sg
  | 0, _, _, _, _ => none
  | n + 1, σ, o0, o1, v2 => if (σ 4 o0 2) ≤ v2 then (f_X4_copyFrom_116 σ o0 o1) else (if v2 < 0 ∨ 24 ≤ (v2).toNatClampNeg then none else (if v2 < 0 ∨ 24 ≤ (v2).toNatClampNeg then none else (bv (f_X1_copyFrom σ (24 * o0 + (v2).toNatClampNeg) (24 * o1 + (v2).toNatClampNeg)) fun σ1 => (f_X4_copyFrom_87  n σ1 o0 o1 (v2 + 1)))))
theorem f_X4_copyFrom_87_s  (n : Nat) (σ : Sg) (o0 : Nat) (o1 : Nat) (v2 : Int32) : f_X4_copyFrom_87  (n + 1) σ o0 o1 v2 = (if (σ 4 o0 2) ≤ v2 then (f_X4_copyFrom_116 σ o0 o1) else (if v2 < 0 ∨ 24 ≤ (v2).toNatClampNeg then none else (if v2 < 0 ∨ 24 ≤ (v2).toNatClampNeg then none else (bv (f_X1_copyFrom σ (24 * o0 + (v2).toNatClampNeg) (24 * o1 + (v2).toNatClampNeg)) fun σ1 => (f_X4_copyFrom_87  n σ1 o0 o1 (v2 + 1)))))) := rfl
noncomputable def f_X4_copyFrom_85  (σ : Sg) (o0 : Nat) (o1 : Nat) : Option Sg := f_X4_copyFrom_87 FU σ o0 o1 0
noncomputable def f_X4_copyFrom_56  : Nat → Sg → Nat → Nat → Int32 → Option Sg
  | 0, _, _, _, _ => none
  | n + 1, σ, o0, o1, v2 => if (σ 4 o0 1) ≤ v2 then (f_X4_copyFrom_85 σ o0 o1) else (if v2 < 0 ∨ 4 ≤ (v2).toNatClampNeg then none else (if v2 < 0 ∨ 4 ≤ (v2).toNatClampNeg then none else (bv (f_X2_copyFrom σ (4 * o0 + (v2).toNatClampNeg) (4 * o1 + (v2).toNatClampNeg)) fun σ1 => (f_X4_copyFrom_56  n σ1 o0 o1 (v2 + 1)))))
theorem f_X4_copyFrom_56_s  (n : Nat) (σ : Sg) (o0 : Nat) (o1 : Nat) (v2 : Int32) : f_X4_copyFrom_56  (n + 1) σ o0 o1 v2 = (if (σ 4 o0 1) ≤ v2 then (f_X4_copyFrom_85 σ o0 o1) else (if v2 < 0 ∨ 4 ≤ (v2).toNatClampNeg then none else (if v2 < 0 ∨ 4 ≤ (v2).toNatClampNeg then none else (bv (f_X2_copyFrom σ (4 * o0 + (v2).toNatClampNeg) (4 * o1 + (v2).toNatClampNeg)) fun σ1 => (f_X4_copyFrom_56  n σ1 o0 o1 (v2 + 1)))))) := rfl
noncomputable def f_X4_copyFrom  (σ : Sg) (o0 : Nat) (o1 : Nat) : Option Sg := st (sup σ 4 o0 0 (σ 4 o1 0)) fun σ1 => (st (sup σ1 4 o0 1 (σ1 4 o1 1)) fun σ2 => (st (sup σ2 4 o0 2 (σ2 4 o1 2)) fun σ3 => (st (sup σ3 4 o0 3 (σ3 4 o1 3)) fun σ4 => (st (sup σ4 4 o0 4 (σ4 4 o1 4)) fun σ5 => (st (scp σ5 12 o1 0 12 o0 0 (5 : Int32).toNatClampNeg) fun σ6 => (f_X4_copyFrom_56 FU σ6 o0 o1 0))))))
set_option maxHeartbeats 4000000 in
set_option maxRecDepth 100000 in
theorem w_X4_copyFrom_116 {p : Program} {l : Launch} {e : Env} {s : State} {m : MethodId} {args : Array Value} {below : List Frame} {meth : Method} {c : Code} {G : Gx} {ad : Ad} {res : Sg} (C : Cx p s m args meth c yX4_copyFrom.cls cX4_copyFrom 3 none G)  : ∀ (σ : Sg) (o0 : Nat) (o1 : Nat) (H : Heap) (locs : List Loc) (ls : Array Slot), z_S 0 G ad σ (z_A 0 ad s.heap.size) s.heap H locs → lv_has ls 3 [(0, .ref (ad 4 o0)), (1, .ref (ad 4 o1))] → (o0 < z_cnt 4) → (o1 < z_cnt 4) → f_X4_copyFrom_116  σ o0 o1 = some res → W p l e { frames := 2, cells := 0, slots := 0, locals := 47 } s m args below meth c H locs 0 0 (MQ below (va_Qv (S := Unit) (fun _ => True) (fun _ t => z_W 0 G ad res t.heap) (z_A 0 ad s.heap.size)) args s 0 0 (z_A 0 ad s.heap.size)) (F0 m 116 ls []) := by
  intro σ o0 o1 H locs ls S hl ho0 ho1 hf
  unfold f_X4_copyFrom_116 at hf
  refine lv_aload_n C.1 C.2.1 dX4_copyFrom_116 rfl (lv_at hl 0 rfl) ?_
  refine z_getR C S 4 o0 rfl ho0 cf_4 8 (by decide) _ (gr_4_8 G ad o0) tw_2_7 dX4_copyFrom_117 ?_
  refine lv_aload_n C.1 C.2.1 dX4_copyFrom_120 rfl (lv_at hl 1 rfl) ?_
  refine z_getR C S 4 o1 rfl ho1 cf_4 8 (by decide) _ (gr_4_8 G ad o1) tw_2_7 dX4_copyFrom_121 ?_
  obtain ⟨σ1, q_124, hf⟩ := bvb hf
  refine z_callV C S 5 o0 rfl (oc5 ho0) cf_5 ⟨_, rfl⟩ [.ref (ad 5 o1)] (m_X5_copyFrom l G ad σ o0 o1 σ1 (oc5 ho0) (oc5 ho1) q_124 _) kv_X5_copyFrom tw_3_94 ⟨Nat.le_of_ble_eq_true rfl, Nat.le_of_ble_eq_true rfl⟩ rfl rfl (Nat.le_of_ble_eq_true rfl) hl.1 ⟨Nat.le_of_ble_eq_true rfl, Nat.le_of_ble_eq_true rfl⟩ dX4_copyFrom_124 (fun H locs S => ?_)
  refine lv_aload_n C.1 C.2.1 dX4_copyFrom_127 rfl (lv_at hl 1 rfl) ?_
  refine z_getR C S 4 o1 rfl ho1 cf_4 9 (by decide) _ (gr_4_9 G ad o1) tw_2_10 dX4_copyFrom_128 ?_
  refine lv_iconst (v := 0) C.1 C.2.1 dX4_copyFrom_131 (by decide) ?_
  refine lv_aload_n C.1 C.2.1 dX4_copyFrom_132 rfl (lv_at hl 0 rfl) ?_
  refine z_getR C S 4 o0 rfl ho0 cf_4 9 (by decide) _ (gr_4_9 G ad o0) tw_2_10 dX4_copyFrom_133 ?_
  refine lv_iconst (v := 0) C.1 C.2.1 dX4_copyFrom_136 (by decide) ?_
  refine lv_iconst (v := 4) C.1 C.2.1 dX4_copyFrom_137 (by decide) ?_
  obtain ⟨σ2, e_138, hf⟩ := stb hf
  refine z_copy C S hl.1 13 o1 13 o0 4 4 rfl ho1 rfl ho0 (fun _ => rfl) (fun _ => rfl) tw_2_117 (by decide) (by decide) (by decide) (by decide) (by decide) (Nat.le_of_ble_eq_true rfl) (Nat.le_of_ble_eq_true rfl) dX4_copyFrom_138 (fun H locs S => ?_)
  have S := z_cp0 e_138 S
  refine lv_aload_n C.1 C.2.1 dX4_copyFrom_141 rfl (lv_at hl 1 rfl) ?_
  refine z_getR C S 4 o1 rfl ho1 cf_4 10 (by decide) _ (gr_4_10 G ad o1) tw_2_12 dX4_copyFrom_142 ?_
  refine lv_iconst (v := 0) C.1 C.2.1 dX4_copyFrom_145 (by decide) ?_
  refine lv_aload_n C.1 C.2.1 dX4_copyFrom_146 rfl (lv_at hl 0 rfl) ?_
  refine z_getR C S 4 o0 rfl ho0 cf_4 10 (by decide) _ (gr_4_10 G ad o0) tw_2_12 dX4_copyFrom_147 ?_
  refine lv_iconst (v := 0) C.1 C.2.1 dX4_copyFrom_150 (by decide) ?_
  refine lv_iconst (v := 4) C.1 C.2.1 dX4_copyFrom_151 (by decide) ?_
  obtain ⟨σ3, e_152, hf⟩ := stb hf
  refine z_copy C S hl.1 14 o1 14 o0 4 4 rfl ho1 rfl ho0 (fun _ => rfl) (fun _ => rfl) tw_2_117 (by decide) (by decide) (by decide) (by decide) (by decide) (Nat.le_of_ble_eq_true rfl) (Nat.le_of_ble_eq_true rfl) dX4_copyFrom_152 (fun H locs S => ?_)
  have S := z_cp0 e_152 S
  refine lv_aload_n C.1 C.2.1 dX4_copyFrom_155 rfl (lv_at hl 1 rfl) ?_
  refine z_getR C S 4 o1 rfl ho1 cf_4 11 (by decide) _ (gr_4_11 G ad o1) tw_2_15 dX4_copyFrom_156 ?_
  refine lv_iconst (v := 0) C.1 C.2.1 dX4_copyFrom_159 (by decide) ?_
  refine lv_aload_n C.1 C.2.1 dX4_copyFrom_160 rfl (lv_at hl 0 rfl) ?_
  refine z_getR C S 4 o0 rfl ho0 cf_4 11 (by decide) _ (gr_4_11 G ad o0) tw_2_15 dX4_copyFrom_161 ?_
  refine lv_iconst (v := 0) C.1 C.2.1 dX4_copyFrom_164 (by decide) ?_
  refine lv_iconst (v := 5) C.1 C.2.1 dX4_copyFrom_165 (by decide) ?_
  obtain ⟨σ4, e_166, hf⟩ := stb hf
  refine z_copy C S hl.1 15 o1 15 o0 5 5 rfl ho1 rfl ho0 (fun _ => rfl) (fun _ => rfl) tw_2_117 (by decide) (by decide) (by decide) (by decide) (by decide) (Nat.le_of_ble_eq_true rfl) (Nat.le_of_ble_eq_true rfl) dX4_copyFrom_166 (fun H locs S => ?_)
  have S := z_cp0 e_166 S
  exact z_vret C S hf dX4_copyFrom_169
set_option maxHeartbeats 4000000 in
set_option maxRecDepth 100000 in
theorem w_X4_copyFrom_87 {p : Program} {l : Launch} {e : Env} {s : State} {m : MethodId} {args : Array Value} {below : List Frame} {meth : Method} {c : Code} {G : Gx} {ad : Ad} {res : Sg} (C : Cx p s m args meth c yX4_copyFrom.cls cX4_copyFrom 3 none G)  : ∀ n : Nat, ∀ (σ : Sg) (o0 : Nat) (o1 : Nat) (v2 : Int32) (H : Heap) (locs : List Loc) (ls : Array Slot), z_S 0 G ad σ (z_A 0 ad s.heap.size) s.heap H locs → lv_has ls 3 [(0, .ref (ad 4 o0)), (1, .ref (ad 4 o1)), (2, .int v2)] → (o0 < z_cnt 4) → (o1 < z_cnt 4) → f_X4_copyFrom_87  n σ o0 o1 v2 = some res → W p l e { frames := 2, cells := 0, slots := 0, locals := 47 } s m args below meth c H locs 0 0 (MQ below (va_Qv (S := Unit) (fun _ => True) (fun _ t => z_W 0 G ad res t.heap) (z_A 0 ad s.heap.size)) args s 0 0 (z_A 0 ad s.heap.size)) (F0 m 87 ls []) := by
  intro n
  induction n with
  | zero => intro σ o0 o1 v2 H locs ls S hl ho0 ho1 hf; cases hf
  | succ n ih =>
    intro σ o0 o1 v2 H locs ls S hl ho0 ho1 hf
    rw [f_X4_copyFrom_87_s] at hf
    refine lv_iload_n C.1 C.2.1 dX4_copyFrom_87 rfl (lv_at hl 2 rfl) ?_
    refine lv_aload_n C.1 C.2.1 dX4_copyFrom_88 rfl (lv_at hl 0 rfl) ?_
    refine z_getI C S 4 o0 rfl ho0 cf_4 2 (by decide) (gi_4_2 G ad o0) tw_1_227 dX4_copyFrom_89 ?_
    refine lv_icmp_ge (tgt := 116) C.1 C.2.1 dX4_copyFrom_92 (by decide) (fun c_92 => ?_) (fun c_92 => ?_)
    · rw [if_pos c_92] at hf
      exact w_X4_copyFrom_116 C _ o0 o1 _ _ _ S (lv_sub hl [0, 1] rfl) ho0 ho1 hf
    · rw [if_neg c_92] at hf
      refine lv_aload_n C.1 C.2.1 dX4_copyFrom_95 rfl (lv_at hl 0 rfl) ?_
      refine z_getR C S 4 o0 rfl ho0 cf_4 7 (by decide) _ (gr_4_7 G ad o0) tw_2_4 dX4_copyFrom_96 ?_
      refine lv_iload_n C.1 C.2.1 dX4_copyFrom_99 rfl (lv_at hl 2 rfl) ?_
      obtain ⟨g_100, hf⟩ := gd hf
      refine z_aald C S 26 o0 rfl ho0 24 2 1 (24 * o0) rfl (fun _ => rfl) g_100 dX4_copyFrom_100 ?_
      refine lv_aload_n C.1 C.2.1 dX4_copyFrom_101 rfl (lv_at hl 1 rfl) ?_
      refine z_getR C S 4 o1 rfl ho1 cf_4 7 (by decide) _ (gr_4_7 G ad o1) tw_2_4 dX4_copyFrom_102 ?_
      refine lv_iload_n C.1 C.2.1 dX4_copyFrom_105 rfl (lv_at hl 2 rfl) ?_
      obtain ⟨g_106, hf⟩ := gd hf
      refine z_aald C S 26 o1 rfl ho1 24 2 1 (24 * o1) rfl (fun _ => rfl) g_106 dX4_copyFrom_106 ?_
      obtain ⟨σ1, q_107, hf⟩ := bvb hf
      refine z_callV C S 1 (24 * o0 + (v2).toNatClampNeg) rfl (oc1 ho0 g_100) cf_1 ⟨_, rfl⟩ [.ref (ad 1 (24 * o1 + (v2).toNatClampNeg))] (m_X1_copyFrom l G ad σ (24 * o0 + (v2).toNatClampNeg) (24 * o1 + (v2).toNatClampNeg) σ1 (oc1 ho0 g_100) (oc1 ho1 g_106) q_107 _) kv_X1_copyFrom tw_3_90 ⟨Nat.le_of_ble_eq_true rfl, Nat.le_of_ble_eq_true rfl⟩ rfl rfl (Nat.le_of_ble_eq_true rfl) hl.1 ⟨Nat.le_of_ble_eq_true rfl, Nat.le_of_ble_eq_true rfl⟩ dX4_copyFrom_107 (fun H locs S => ?_)
      refine lv_iinc (v := (v2 + 1)) (lv' := [(2, .int (v2 + 1)), (0, .ref (ad 4 o0)), (1, .ref (ad 4 o1))]) C.1 C.2.1 dX4_copyFrom_110 hl (k := 2) rfl rfl (by decide) rfl (fun ls hl => ?_)
      refine lv_goto (tgt := 87) C.1 C.2.1 dX4_copyFrom_113 (by decide) ?_
      exact ih _ o0 o1 (v2 + 1) _ _ _ S (lv_sub hl [1, 2, 0] rfl) ho0 ho1 hf
set_option maxHeartbeats 4000000 in
set_option maxRecDepth 100000 in
theorem w_X4_copyFrom_85 {p : Program} {l : Launch} {e : Env} {s : State} {m : MethodId} {args : Array Value} {below : List Frame} {meth : Method} {c : Code} {G : Gx} {ad : Ad} {res : Sg} (C : Cx p s m args meth c yX4_copyFrom.cls cX4_copyFrom 3 none G)  : ∀ (σ : Sg) (o0 : Nat) (o1 : Nat) (H : Heap) (locs : List Loc) (ls : Array Slot), z_S 0 G ad σ (z_A 0 ad s.heap.size) s.heap H locs → lv_has ls 3 [(0, .ref (ad 4 o0)), (1, .ref (ad 4 o1))] → (o0 < z_cnt 4) → (o1 < z_cnt 4) → f_X4_copyFrom_85  σ o0 o1 = some res → W p l e { frames := 2, cells := 0, slots := 0, locals := 47 } s m args below meth c H locs 0 0 (MQ below (va_Qv (S := Unit) (fun _ => True) (fun _ t => z_W 0 G ad res t.heap) (z_A 0 ad s.heap.size)) args s 0 0 (z_A 0 ad s.heap.size)) (F0 m 85 ls []) := by
  intro σ o0 o1 H locs ls S hl ho0 ho1 hf
  unfold f_X4_copyFrom_85 at hf
  refine lv_iconst (v := 0) C.1 C.2.1 dX4_copyFrom_85 (by decide) ?_
  refine lv_istore_n (lv' := [(2, .int 0), (0, .ref (ad 4 o0)), (1, .ref (ad 4 o1))]) C.1 C.2.1 dX4_copyFrom_86 rfl hl (by decide) rfl (fun ls hl => ?_)
  exact w_X4_copyFrom_87 C FU _ o0 o1 0 _ _ _ S (lv_sub hl [1, 2, 0] rfl) ho0 ho1 hf
set_option maxHeartbeats 4000000 in
set_option maxRecDepth 100000 in
theorem w_X4_copyFrom_56 {p : Program} {l : Launch} {e : Env} {s : State} {m : MethodId} {args : Array Value} {below : List Frame} {meth : Method} {c : Code} {G : Gx} {ad : Ad} {res : Sg} (C : Cx p s m args meth c yX4_copyFrom.cls cX4_copyFrom 3 none G)  : ∀ n : Nat, ∀ (σ : Sg) (o0 : Nat) (o1 : Nat) (v2 : Int32) (H : Heap) (locs : List Loc) (ls : Array Slot), z_S 0 G ad σ (z_A 0 ad s.heap.size) s.heap H locs → lv_has ls 3 [(0, .ref (ad 4 o0)), (1, .ref (ad 4 o1)), (2, .int v2)] → (o0 < z_cnt 4) → (o1 < z_cnt 4) → f_X4_copyFrom_56  n σ o0 o1 v2 = some res → W p l e { frames := 2, cells := 0, slots := 0, locals := 47 } s m args below meth c H locs 0 0 (MQ below (va_Qv (S := Unit) (fun _ => True) (fun _ t => z_W 0 G ad res t.heap) (z_A 0 ad s.heap.size)) args s 0 0 (z_A 0 ad s.heap.size)) (F0 m 56 ls []) := by
  intro n
  induction n with
  | zero => intro σ o0 o1 v2 H locs ls S hl ho0 ho1 hf; cases hf
  | succ n ih =>
    intro σ o0 o1 v2 H locs ls S hl ho0 ho1 hf
    rw [f_X4_copyFrom_56_s] at hf
    refine lv_iload_n C.1 C.2.1 dX4_copyFrom_56 rfl (lv_at hl 2 rfl) ?_
    refine lv_aload_n C.1 C.2.1 dX4_copyFrom_57 rfl (lv_at hl 0 rfl) ?_
    refine z_getI C S 4 o0 rfl ho0 cf_4 1 (by decide) (gi_4_1 G ad o0) tw_1_223 dX4_copyFrom_58 ?_
    refine lv_icmp_ge (tgt := 85) C.1 C.2.1 dX4_copyFrom_61 (by decide) (fun c_61 => ?_) (fun c_61 => ?_)
    · rw [if_pos c_61] at hf
      exact w_X4_copyFrom_85 C _ o0 o1 _ _ _ S (lv_sub hl [0, 1] rfl) ho0 ho1 hf
    · rw [if_neg c_61] at hf
      refine lv_aload_n C.1 C.2.1 dX4_copyFrom_64 rfl (lv_at hl 0 rfl) ?_
      refine z_getR C S 4 o0 rfl ho0 cf_4 6 (by decide) _ (gr_4_6 G ad o0) tw_2_1 dX4_copyFrom_65 ?_
      refine lv_iload_n C.1 C.2.1 dX4_copyFrom_68 rfl (lv_at hl 2 rfl) ?_
      obtain ⟨g_69, hf⟩ := gd hf
      refine z_aald C S 25 o0 rfl ho0 4 1 2 (4 * o0) rfl (fun _ => rfl) g_69 dX4_copyFrom_69 ?_
      refine lv_aload_n C.1 C.2.1 dX4_copyFrom_70 rfl (lv_at hl 1 rfl) ?_
      refine z_getR C S 4 o1 rfl ho1 cf_4 6 (by decide) _ (gr_4_6 G ad o1) tw_2_1 dX4_copyFrom_71 ?_
      refine lv_iload_n C.1 C.2.1 dX4_copyFrom_74 rfl (lv_at hl 2 rfl) ?_
      obtain ⟨g_75, hf⟩ := gd hf
      refine z_aald C S 25 o1 rfl ho1 4 1 2 (4 * o1) rfl (fun _ => rfl) g_75 dX4_copyFrom_75 ?_
      obtain ⟨σ1, q_76, hf⟩ := bvb hf
      refine z_callV C S 2 (4 * o0 + (v2).toNatClampNeg) rfl (oc2 ho0 g_69) cf_2 ⟨_, rfl⟩ [.ref (ad 2 (4 * o1 + (v2).toNatClampNeg))] (m_X2_copyFrom l G ad σ (4 * o0 + (v2).toNatClampNeg) (4 * o1 + (v2).toNatClampNeg) σ1 (oc2 ho0 g_69) (oc2 ho1 g_75) q_76 _) kv_X2_copyFrom tw_3_85 ⟨Nat.le_of_ble_eq_true rfl, Nat.le_of_ble_eq_true rfl⟩ rfl rfl (Nat.le_of_ble_eq_true rfl) hl.1 ⟨Nat.le_of_ble_eq_true rfl, Nat.le_of_ble_eq_true rfl⟩ dX4_copyFrom_76 (fun H locs S => ?_)
      refine lv_iinc (v := (v2 + 1)) (lv' := [(2, .int (v2 + 1)), (0, .ref (ad 4 o0)), (1, .ref (ad 4 o1))]) C.1 C.2.1 dX4_copyFrom_79 hl (k := 2) rfl rfl (by decide) rfl (fun ls hl => ?_)
      refine lv_goto (tgt := 56) C.1 C.2.1 dX4_copyFrom_82 (by decide) ?_
      exact ih _ o0 o1 (v2 + 1) _ _ _ S (lv_sub hl [1, 2, 0] rfl) ho0 ho1 hf
set_option maxHeartbeats 4000000 in
set_option maxRecDepth 100000 in
theorem w_X4_copyFrom_0 {p : Program} {l : Launch} {e : Env} {s : State} {m : MethodId} {args : Array Value} {below : List Frame} {meth : Method} {c : Code} {G : Gx} {ad : Ad} {res : Sg} (C : Cx p s m args meth c yX4_copyFrom.cls cX4_copyFrom 3 none G)  : ∀ (σ : Sg) (o0 : Nat) (o1 : Nat) (H : Heap) (locs : List Loc) (ls : Array Slot), z_S 0 G ad σ (z_A 0 ad s.heap.size) s.heap H locs → lv_has ls 3 [(0, .ref (ad 4 o0)), (1, .ref (ad 4 o1))] → (o0 < z_cnt 4) → (o1 < z_cnt 4) → f_X4_copyFrom  σ o0 o1 = some res → W p l e { frames := 2, cells := 0, slots := 0, locals := 47 } s m args below meth c H locs 0 0 (MQ below (va_Qv (S := Unit) (fun _ => True) (fun _ t => z_W 0 G ad res t.heap) (z_A 0 ad s.heap.size)) args s 0 0 (z_A 0 ad s.heap.size)) (F0 m 0 ls []) := by
  intro σ o0 o1 H locs ls S hl ho0 ho1 hf
  unfold f_X4_copyFrom at hf
  refine lv_aload_n C.1 C.2.1 dX4_copyFrom_0 rfl (lv_at hl 0 rfl) ?_
  refine lv_aload_n C.1 C.2.1 dX4_copyFrom_1 rfl (lv_at hl 1 rfl) ?_
  refine z_getI C S 4 o1 rfl ho1 cf_4 0 (by decide) (gi_4_0 G ad o1) tw_1_220 dX4_copyFrom_2 ?_
  obtain ⟨σ1, e_5, hf⟩ := stb hf
  refine z_putI C S 4 o0 rfl ho0 cf_4 0 (by decide) (pi_4_0 G ad o0) rfl rfl rfl tw_1_220 dX4_copyFrom_5 (fun H locs S => ?_)
  rw [← e_5] at S
  refine lv_aload_n C.1 C.2.1 dX4_copyFrom_8 rfl (lv_at hl 0 rfl) ?_
  refine lv_aload_n C.1 C.2.1 dX4_copyFrom_9 rfl (lv_at hl 1 rfl) ?_
  refine z_getI C S 4 o1 rfl ho1 cf_4 1 (by decide) (gi_4_1 G ad o1) tw_1_223 dX4_copyFrom_10 ?_
  obtain ⟨σ2, e_13, hf⟩ := stb hf
  refine z_putI C S 4 o0 rfl ho0 cf_4 1 (by decide) (pi_4_1 G ad o0) rfl rfl rfl tw_1_223 dX4_copyFrom_13 (fun H locs S => ?_)
  rw [← e_13] at S
  refine lv_aload_n C.1 C.2.1 dX4_copyFrom_16 rfl (lv_at hl 0 rfl) ?_
  refine lv_aload_n C.1 C.2.1 dX4_copyFrom_17 rfl (lv_at hl 1 rfl) ?_
  refine z_getI C S 4 o1 rfl ho1 cf_4 2 (by decide) (gi_4_2 G ad o1) tw_1_227 dX4_copyFrom_18 ?_
  obtain ⟨σ3, e_21, hf⟩ := stb hf
  refine z_putI C S 4 o0 rfl ho0 cf_4 2 (by decide) (pi_4_2 G ad o0) rfl rfl rfl tw_1_227 dX4_copyFrom_21 (fun H locs S => ?_)
  rw [← e_21] at S
  refine lv_aload_n C.1 C.2.1 dX4_copyFrom_24 rfl (lv_at hl 0 rfl) ?_
  refine lv_aload_n C.1 C.2.1 dX4_copyFrom_25 rfl (lv_at hl 1 rfl) ?_
  refine z_getI C S 4 o1 rfl ho1 cf_4 3 (by decide) (gi_4_3 G ad o1) tw_1_231 dX4_copyFrom_26 ?_
  obtain ⟨σ4, e_29, hf⟩ := stb hf
  refine z_putI C S 4 o0 rfl ho0 cf_4 3 (by decide) (pi_4_3 G ad o0) rfl rfl rfl tw_1_231 dX4_copyFrom_29 (fun H locs S => ?_)
  rw [← e_29] at S
  refine lv_aload_n C.1 C.2.1 dX4_copyFrom_32 rfl (lv_at hl 0 rfl) ?_
  refine lv_aload_n C.1 C.2.1 dX4_copyFrom_33 rfl (lv_at hl 1 rfl) ?_
  refine z_getI C S 4 o1 rfl ho1 cf_4 4 (by decide) (gi_4_4 G ad o1) tw_1_234 dX4_copyFrom_34 ?_
  obtain ⟨σ5, e_37, hf⟩ := stb hf
  refine z_putI C S 4 o0 rfl ho0 cf_4 4 (by decide) (pi_4_4 G ad o0) rfl rfl rfl tw_1_234 dX4_copyFrom_37 (fun H locs S => ?_)
  rw [← e_37] at S
  refine lv_aload_n C.1 C.2.1 dX4_copyFrom_40 rfl (lv_at hl 1 rfl) ?_
  refine z_getR C S 4 o1 rfl ho1 cf_4 5 (by decide) _ (gr_4_5 G ad o1) tw_1_237 dX4_copyFrom_41 ?_
  refine lv_iconst (v := 0) C.1 C.2.1 dX4_copyFrom_44 (by decide) ?_
  refine lv_aload_n C.1 C.2.1 dX4_copyFrom_45 rfl (lv_at hl 0 rfl) ?_
  refine z_getR C S 4 o0 rfl ho0 cf_4 5 (by decide) _ (gr_4_5 G ad o0) tw_1_237 dX4_copyFrom_46 ?_
  refine lv_iconst (v := 0) C.1 C.2.1 dX4_copyFrom_49 (by decide) ?_
  refine lv_iconst (v := 5) C.1 C.2.1 dX4_copyFrom_50 (by decide) ?_
  obtain ⟨σ6, e_51, hf⟩ := stb hf
  refine z_copy C S hl.1 12 o1 12 o0 5 5 rfl ho1 rfl ho0 (fun _ => rfl) (fun _ => rfl) tw_2_117 (by decide) (by decide) (by decide) (by decide) (by decide) (Nat.le_of_ble_eq_true rfl) (Nat.le_of_ble_eq_true rfl) dX4_copyFrom_51 (fun H locs S => ?_)
  have S := z_cp0 e_51 S
  refine lv_iconst (v := 0) C.1 C.2.1 dX4_copyFrom_54 (by decide) ?_
  refine lv_istore_n (lv' := [(2, .int 0), (0, .ref (ad 4 o0)), (1, .ref (ad 4 o1))]) C.1 C.2.1 dX4_copyFrom_55 rfl hl (by decide) rfl (fun ls hl => ?_)
  exact w_X4_copyFrom_56 C FU _ o0 o1 0 _ _ _ S (lv_sub hl [1, 2, 0] rfl) ho0 ho1 hf
theorem kv_X4_copyFrom : KV yX4_copyFrom cX4_copyFrom 3 none 1 := ⟨tw_3_84, tw_3_82, tw_3_83, tw_1_12, by decide, by decide, by decide +kernel⟩
theorem m_X4_copyFrom (l : Launch) (G : Gx) (ad : Ad) (σ : Sg) (o0 : Nat) (o1 : Nat) (σ' : Sg) (ho0 : o0 < z_cnt 4) (ho1 : o1 < z_cnt 4) (hf : f_X4_copyFrom σ o0 o1 = some σ') (sz : Nat) : z_MV l yX4_copyFrom cX4_copyFrom 3 none 2 47 0 G ad σ sz [.ref (ad 4 o0), .ref (ad 4 o1)] σ' := by
  refine z_begin (by decide +kernel) (Nat.le_of_ble_eq_true rfl) [(0, .ref (ad 4 o0)), (1, .ref (ad 4 o1))] rfl (fun p e s m args below meth c ls C hz S hl => ?_)
  subst hz
  exact w_X4_copyFrom_0 (res := σ') C σ o0 o1 _ _ _ S hl ho0 ho1 hf

theorem dX3_clear_0 : decode cX3_clear 0 = .ok (.aload_n 0, 1) := by decide +kernel
theorem dX3_clear_1 : decode cX3_clear 1 = .ok (.iconst 0, 1) := by decide +kernel
theorem dX3_clear_2 : decode cX3_clear 2 = .ok (.putfield 18, 3) := by decide +kernel
theorem dX3_clear_5 : decode cX3_clear 5 = .ok (.return_, 1) := by decide +kernel
/-! BusLifts$History.clear()V -/
noncomputable def f_X3_clear  (σ : Sg)  : Option Sg := st (sup σ 3 0 0 0) fun σ1 => (some σ1)
set_option maxHeartbeats 4000000 in
set_option maxRecDepth 100000 in
theorem w_X3_clear_0 {p : Program} {l : Launch} {e : Env} {s : State} {m : MethodId} {args : Array Value} {below : List Frame} {meth : Method} {c : Code} {G : Gx} {ad : Ad} {res : Sg} (C : Cx p s m args meth c yX3_clear.cls cX3_clear 1 none G)  : ∀ (σ : Sg)  (H : Heap) (locs : List Loc) (ls : Array Slot), z_S 0 G ad σ (z_A 0 ad s.heap.size) s.heap H locs → lv_has ls 1 [(0, .ref (ad 3 0))] → f_X3_clear  σ  = some res → W p l e { frames := 0, cells := 0, slots := 0, locals := 0 } s m args below meth c H locs 0 0 (MQ below (va_Qv (S := Unit) (fun _ => True) (fun _ t => z_W 0 G ad res t.heap) (z_A 0 ad s.heap.size)) args s 0 0 (z_A 0 ad s.heap.size)) (F0 m 0 ls []) := by
  intro σ  H locs ls S hl  hf
  unfold f_X3_clear at hf
  refine lv_aload_n C.1 C.2.1 dX3_clear_0 rfl (lv_at hl 0 rfl) ?_
  refine lv_iconst (v := 0) C.1 C.2.1 dX3_clear_1 (by decide) ?_
  obtain ⟨σ1, e_2, hf⟩ := stb hf
  refine z_putI C S 3 0 rfl (by decide) cf_3 0 (by decide) (pi_3_0 G ad 0) rfl rfl rfl tw_2_52 dX3_clear_2 (fun H locs S => ?_)
  rw [← e_2] at S
  exact z_vret C S hf dX3_clear_5
theorem kv_X3_clear : KV yX3_clear cX3_clear 1 none 0 := ⟨tw_3_102, tw_3_100, tw_3_101, tw_1_16, by decide, by decide, by decide +kernel⟩
theorem m_X3_clear (l : Launch) (G : Gx) (ad : Ad) (σ : Sg)  (σ' : Sg)  (hf : f_X3_clear σ  = some σ') (sz : Nat) : z_MV l yX3_clear cX3_clear 1 none 0 0 0 G ad σ sz [.ref (ad 3 0)] σ' := by
  refine z_begin (by decide +kernel) (Nat.le_of_ble_eq_true rfl) [(0, .ref (ad 3 0))] rfl (fun p e s m args below meth c ls C hz S hl => ?_)
  subst hz
  exact w_X3_clear_0 (res := σ') C σ  _ _ _ S hl  hf

theorem dJ6_bitCount_0f7a4_0 : decode cJ6_bitCount_0f7a4 0 = .ok (.iload_n 0, 1) := by decide +kernel
theorem dJ6_bitCount_0f7a4_1 : decode cJ6_bitCount_0f7a4 1 = .ok (.iload_n 0, 1) := by decide +kernel
theorem dJ6_bitCount_0f7a4_2 : decode cJ6_bitCount_0f7a4 2 = .ok (.iconst 1, 1) := by decide +kernel
theorem dJ6_bitCount_0f7a4_3 : decode cJ6_bitCount_0f7a4 3 = .ok (.iushr, 1) := by decide +kernel
theorem dJ6_bitCount_0f7a4_4 : decode cJ6_bitCount_0f7a4 4 = .ok (.ldc_w 265, 3) := by decide +kernel
theorem dJ6_bitCount_0f7a4_7 : decode cJ6_bitCount_0f7a4 7 = .ok (.iand, 1) := by decide +kernel
theorem dJ6_bitCount_0f7a4_8 : decode cJ6_bitCount_0f7a4 8 = .ok (.isub, 1) := by decide +kernel
theorem dJ6_bitCount_0f7a4_9 : decode cJ6_bitCount_0f7a4 9 = .ok (.istore_n 0, 1) := by decide +kernel
theorem dJ6_bitCount_0f7a4_10 : decode cJ6_bitCount_0f7a4 10 = .ok (.iload_n 0, 1) := by decide +kernel
theorem dJ6_bitCount_0f7a4_11 : decode cJ6_bitCount_0f7a4 11 = .ok (.ldc_w 266, 3) := by decide +kernel
theorem dJ6_bitCount_0f7a4_14 : decode cJ6_bitCount_0f7a4 14 = .ok (.iand, 1) := by decide +kernel
theorem dJ6_bitCount_0f7a4_15 : decode cJ6_bitCount_0f7a4 15 = .ok (.iload_n 0, 1) := by decide +kernel
theorem dJ6_bitCount_0f7a4_16 : decode cJ6_bitCount_0f7a4 16 = .ok (.iconst 2, 1) := by decide +kernel
theorem dJ6_bitCount_0f7a4_17 : decode cJ6_bitCount_0f7a4 17 = .ok (.iushr, 1) := by decide +kernel
theorem dJ6_bitCount_0f7a4_18 : decode cJ6_bitCount_0f7a4 18 = .ok (.ldc_w 266, 3) := by decide +kernel
theorem dJ6_bitCount_0f7a4_21 : decode cJ6_bitCount_0f7a4 21 = .ok (.iand, 1) := by decide +kernel
theorem dJ6_bitCount_0f7a4_22 : decode cJ6_bitCount_0f7a4 22 = .ok (.iadd, 1) := by decide +kernel
theorem dJ6_bitCount_0f7a4_23 : decode cJ6_bitCount_0f7a4 23 = .ok (.istore_n 0, 1) := by decide +kernel
theorem dJ6_bitCount_0f7a4_24 : decode cJ6_bitCount_0f7a4 24 = .ok (.iload_n 0, 1) := by decide +kernel
theorem dJ6_bitCount_0f7a4_25 : decode cJ6_bitCount_0f7a4 25 = .ok (.iload_n 0, 1) := by decide +kernel
theorem dJ6_bitCount_0f7a4_26 : decode cJ6_bitCount_0f7a4 26 = .ok (.iconst 4, 1) := by decide +kernel
theorem dJ6_bitCount_0f7a4_27 : decode cJ6_bitCount_0f7a4 27 = .ok (.iushr, 1) := by decide +kernel
theorem dJ6_bitCount_0f7a4_28 : decode cJ6_bitCount_0f7a4 28 = .ok (.iadd, 1) := by decide +kernel
theorem dJ6_bitCount_0f7a4_29 : decode cJ6_bitCount_0f7a4 29 = .ok (.ldc_w 267, 3) := by decide +kernel
theorem dJ6_bitCount_0f7a4_32 : decode cJ6_bitCount_0f7a4 32 = .ok (.iand, 1) := by decide +kernel
theorem dJ6_bitCount_0f7a4_33 : decode cJ6_bitCount_0f7a4 33 = .ok (.istore_n 0, 1) := by decide +kernel
theorem dJ6_bitCount_0f7a4_34 : decode cJ6_bitCount_0f7a4 34 = .ok (.iload_n 0, 1) := by decide +kernel
theorem dJ6_bitCount_0f7a4_35 : decode cJ6_bitCount_0f7a4 35 = .ok (.iload_n 0, 1) := by decide +kernel
theorem dJ6_bitCount_0f7a4_36 : decode cJ6_bitCount_0f7a4 36 = .ok (.bipush 8, 2) := by decide +kernel
theorem dJ6_bitCount_0f7a4_38 : decode cJ6_bitCount_0f7a4 38 = .ok (.iushr, 1) := by decide +kernel
theorem dJ6_bitCount_0f7a4_39 : decode cJ6_bitCount_0f7a4 39 = .ok (.iadd, 1) := by decide +kernel
theorem dJ6_bitCount_0f7a4_40 : decode cJ6_bitCount_0f7a4 40 = .ok (.istore_n 0, 1) := by decide +kernel
theorem dJ6_bitCount_0f7a4_41 : decode cJ6_bitCount_0f7a4 41 = .ok (.iload_n 0, 1) := by decide +kernel
theorem dJ6_bitCount_0f7a4_42 : decode cJ6_bitCount_0f7a4 42 = .ok (.iload_n 0, 1) := by decide +kernel
theorem dJ6_bitCount_0f7a4_43 : decode cJ6_bitCount_0f7a4 43 = .ok (.bipush 16, 2) := by decide +kernel
theorem dJ6_bitCount_0f7a4_45 : decode cJ6_bitCount_0f7a4 45 = .ok (.iushr, 1) := by decide +kernel
theorem dJ6_bitCount_0f7a4_46 : decode cJ6_bitCount_0f7a4 46 = .ok (.iadd, 1) := by decide +kernel
theorem dJ6_bitCount_0f7a4_47 : decode cJ6_bitCount_0f7a4 47 = .ok (.istore_n 0, 1) := by decide +kernel
theorem dJ6_bitCount_0f7a4_48 : decode cJ6_bitCount_0f7a4 48 = .ok (.iload_n 0, 1) := by decide +kernel
theorem dJ6_bitCount_0f7a4_49 : decode cJ6_bitCount_0f7a4 49 = .ok (.bipush 63, 2) := by decide +kernel
theorem dJ6_bitCount_0f7a4_51 : decode cJ6_bitCount_0f7a4 51 = .ok (.iand, 1) := by decide +kernel
theorem dJ6_bitCount_0f7a4_52 : decode cJ6_bitCount_0f7a4 52 = .ok (.ireturn, 1) := by decide +kernel
/-! java/lang/Integer.bitCount(I)I -/
noncomputable def f_J6_bitCount_0f7a4  (σ : Sg) (v0 : Int32) : Option (Int32 × Sg) := some (((((((((v0 - ((jush v0 1) &&& 1431655765)) &&& 858993459) + ((jush (v0 - ((jush v0 1) &&& 1431655765)) 2) &&& 858993459)) + (jush (((v0 - ((jush v0 1) &&& 1431655765)) &&& 858993459) + ((jush (v0 - ((jush v0 1) &&& 1431655765)) 2) &&& 858993459)) 4)) &&& 252645135) + (jush (((((v0 - ((jush v0 1) &&& 1431655765)) &&& 858993459) + ((jush (v0 - ((jush v0 1) &&& 1431655765)) 2) &&& 858993459)) + (jush (((v0 - ((jush v0 1) &&& 1431655765)) &&& 858993459) + ((jush (v0 - ((jush v0 1) &&& 1431655765)) 2) &&& 858993459)) 4)) &&& 252645135) 8)) + (jush ((((((v0 - ((jush v0 1) &&& 1431655765)) &&& 858993459) + ((jush (v0 - ((jush v0 1) &&& 1431655765)) 2) &&& 858993459)) + (jush (((v0 - ((jush v0 1) &&& 1431655765)) &&& 858993459) + ((jush (v0 - ((jush v0 1) &&& 1431655765)) 2) &&& 858993459)) 4)) &&& 252645135) + (jush (((((v0 - ((jush v0 1) &&& 1431655765)) &&& 858993459) + ((jush (v0 - ((jush v0 1) &&& 1431655765)) 2) &&& 858993459)) + (jush (((v0 - ((jush v0 1) &&& 1431655765)) &&& 858993459) + ((jush (v0 - ((jush v0 1) &&& 1431655765)) 2) &&& 858993459)) 4)) &&& 252645135) 8)) 16)) &&& 63), σ)
set_option maxHeartbeats 4000000 in
set_option maxRecDepth 100000 in
theorem w_J6_bitCount_0f7a4_0 {p : Program} {l : Launch} {e : Env} {s : State} {m : MethodId} {args : Array Value} {below : List Frame} {meth : Method} {c : Code} {G : Gx} {ad : Ad} {res : Int32 × Sg} (C : Cx p s m args meth c yJ6_bitCount_0f7a4.cls cJ6_bitCount_0f7a4 1 (Option.some FieldType.int) G)  : ∀ (σ : Sg) (v0 : Int32) (H : Heap) (locs : List Loc) (ls : Array Slot), z_S 0 G ad σ (z_A 0 ad s.heap.size) s.heap H locs → lv_has ls 1 [(0, .int v0)] → f_J6_bitCount_0f7a4  σ v0 = some res → W p l e { frames := 0, cells := 0, slots := 0, locals := 0 } s m args below meth c H locs 0 0 (MQ below (va_Qi (S := Unit) (fun r1 _ => r1 = res.1) (fun _ t => z_W 0 G ad res.2 t.heap) (z_A 0 ad s.heap.size)) args s 0 0 (z_A 0 ad s.heap.size)) (F0 m 0 ls []) := by
  intro σ v0 H locs ls S hl  hf
  unfold f_J6_bitCount_0f7a4 at hf
  refine lv_iload_n C.1 C.2.1 dJ6_bitCount_0f7a4_0 rfl (lv_at hl 0 rfl) ?_
  refine lv_iload_n C.1 C.2.1 dJ6_bitCount_0f7a4_1 rfl (lv_at hl 0 rfl) ?_
  refine lv_iconst (v := 1) C.1 C.2.1 dJ6_bitCount_0f7a4_2 (by decide) ?_
  refine lv_iushr (v := (jush v0 1)) C.1 C.2.1 dJ6_bitCount_0f7a4_3 rfl ?_
  refine z_ldcw (v := 1431655765) C tw_6_72 dJ6_bitCount_0f7a4_4 ?_
  refine lv_iand C.1 C.2.1 dJ6_bitCount_0f7a4_7 ?_
  refine lv_isub C.1 C.2.1 dJ6_bitCount_0f7a4_8 ?_
  refine lv_istore_n (lv' := [(0, .int (v0 - ((jush v0 1) &&& 1431655765)))]) C.1 C.2.1 dJ6_bitCount_0f7a4_9 rfl hl (by decide) rfl (fun ls hl => ?_)
  refine lv_iload_n C.1 C.2.1 dJ6_bitCount_0f7a4_10 rfl (lv_at hl 0 rfl) ?_
  refine z_ldcw (v := 858993459) C tw_6_73 dJ6_bitCount_0f7a4_11 ?_
  refine lv_iand C.1 C.2.1 dJ6_bitCount_0f7a4_14 ?_
  refine lv_iload_n C.1 C.2.1 dJ6_bitCount_0f7a4_15 rfl (lv_at hl 0 rfl) ?_
  refine lv_iconst (v := 2) C.1 C.2.1 dJ6_bitCount_0f7a4_16 (by decide) ?_
  refine lv_iushr (v := (jush (v0 - ((jush v0 1) &&& 1431655765)) 2)) C.1 C.2.1 dJ6_bitCount_0f7a4_17 rfl ?_
  refine z_ldcw (v := 858993459) C tw_6_73 dJ6_bitCount_0f7a4_18 ?_
  refine lv_iand C.1 C.2.1 dJ6_bitCount_0f7a4_21 ?_
  refine lv_iadd C.1 C.2.1 dJ6_bitCount_0f7a4_22 ?_
  refine lv_istore_n (lv' := [(0, .int (((v0 - ((jush v0 1) &&& 1431655765)) &&& 858993459) + ((jush (v0 - ((jush v0 1) &&& 1431655765)) 2) &&& 858993459)))]) C.1 C.2.1 dJ6_bitCount_0f7a4_23 rfl hl (by decide) rfl (fun ls hl => ?_)
  refine lv_iload_n C.1 C.2.1 dJ6_bitCount_0f7a4_24 rfl (lv_at hl 0 rfl) ?_
  refine lv_iload_n C.1 C.2.1 dJ6_bitCount_0f7a4_25 rfl (lv_at hl 0 rfl) ?_
  refine lv_iconst (v := 4) C.1 C.2.1 dJ6_bitCount_0f7a4_26 (by decide) ?_
  refine lv_iushr (v := (jush (((v0 - ((jush v0 1) &&& 1431655765)) &&& 858993459) + ((jush (v0 - ((jush v0 1) &&& 1431655765)) 2) &&& 858993459)) 4)) C.1 C.2.1 dJ6_bitCount_0f7a4_27 rfl ?_
  refine lv_iadd C.1 C.2.1 dJ6_bitCount_0f7a4_28 ?_
  refine z_ldcw (v := 252645135) C tw_6_74 dJ6_bitCount_0f7a4_29 ?_
  refine lv_iand C.1 C.2.1 dJ6_bitCount_0f7a4_32 ?_
  refine lv_istore_n (lv' := [(0, .int (((((v0 - ((jush v0 1) &&& 1431655765)) &&& 858993459) + ((jush (v0 - ((jush v0 1) &&& 1431655765)) 2) &&& 858993459)) + (jush (((v0 - ((jush v0 1) &&& 1431655765)) &&& 858993459) + ((jush (v0 - ((jush v0 1) &&& 1431655765)) 2) &&& 858993459)) 4)) &&& 252645135))]) C.1 C.2.1 dJ6_bitCount_0f7a4_33 rfl hl (by decide) rfl (fun ls hl => ?_)
  refine lv_iload_n C.1 C.2.1 dJ6_bitCount_0f7a4_34 rfl (lv_at hl 0 rfl) ?_
  refine lv_iload_n C.1 C.2.1 dJ6_bitCount_0f7a4_35 rfl (lv_at hl 0 rfl) ?_
  refine lv_bipush (v := 8) C.1 C.2.1 dJ6_bitCount_0f7a4_36 (by decide) ?_
  refine lv_iushr (v := (jush (((((v0 - ((jush v0 1) &&& 1431655765)) &&& 858993459) + ((jush (v0 - ((jush v0 1) &&& 1431655765)) 2) &&& 858993459)) + (jush (((v0 - ((jush v0 1) &&& 1431655765)) &&& 858993459) + ((jush (v0 - ((jush v0 1) &&& 1431655765)) 2) &&& 858993459)) 4)) &&& 252645135) 8)) C.1 C.2.1 dJ6_bitCount_0f7a4_38 rfl ?_
  refine lv_iadd C.1 C.2.1 dJ6_bitCount_0f7a4_39 ?_
  refine lv_istore_n (lv' := [(0, .int ((((((v0 - ((jush v0 1) &&& 1431655765)) &&& 858993459) + ((jush (v0 - ((jush v0 1) &&& 1431655765)) 2) &&& 858993459)) + (jush (((v0 - ((jush v0 1) &&& 1431655765)) &&& 858993459) + ((jush (v0 - ((jush v0 1) &&& 1431655765)) 2) &&& 858993459)) 4)) &&& 252645135) + (jush (((((v0 - ((jush v0 1) &&& 1431655765)) &&& 858993459) + ((jush (v0 - ((jush v0 1) &&& 1431655765)) 2) &&& 858993459)) + (jush (((v0 - ((jush v0 1) &&& 1431655765)) &&& 858993459) + ((jush (v0 - ((jush v0 1) &&& 1431655765)) 2) &&& 858993459)) 4)) &&& 252645135) 8)))]) C.1 C.2.1 dJ6_bitCount_0f7a4_40 rfl hl (by decide) rfl (fun ls hl => ?_)
  refine lv_iload_n C.1 C.2.1 dJ6_bitCount_0f7a4_41 rfl (lv_at hl 0 rfl) ?_
  refine lv_iload_n C.1 C.2.1 dJ6_bitCount_0f7a4_42 rfl (lv_at hl 0 rfl) ?_
  refine lv_bipush (v := 16) C.1 C.2.1 dJ6_bitCount_0f7a4_43 (by decide) ?_
  refine lv_iushr (v := (jush ((((((v0 - ((jush v0 1) &&& 1431655765)) &&& 858993459) + ((jush (v0 - ((jush v0 1) &&& 1431655765)) 2) &&& 858993459)) + (jush (((v0 - ((jush v0 1) &&& 1431655765)) &&& 858993459) + ((jush (v0 - ((jush v0 1) &&& 1431655765)) 2) &&& 858993459)) 4)) &&& 252645135) + (jush (((((v0 - ((jush v0 1) &&& 1431655765)) &&& 858993459) + ((jush (v0 - ((jush v0 1) &&& 1431655765)) 2) &&& 858993459)) + (jush (((v0 - ((jush v0 1) &&& 1431655765)) &&& 858993459) + ((jush (v0 - ((jush v0 1) &&& 1431655765)) 2) &&& 858993459)) 4)) &&& 252645135) 8)) 16)) C.1 C.2.1 dJ6_bitCount_0f7a4_45 rfl ?_
  refine lv_iadd C.1 C.2.1 dJ6_bitCount_0f7a4_46 ?_
  refine lv_istore_n (lv' := [(0, .int (((((((v0 - ((jush v0 1) &&& 1431655765)) &&& 858993459) + ((jush (v0 - ((jush v0 1) &&& 1431655765)) 2) &&& 858993459)) + (jush (((v0 - ((jush v0 1) &&& 1431655765)) &&& 858993459) + ((jush (v0 - ((jush v0 1) &&& 1431655765)) 2) &&& 858993459)) 4)) &&& 252645135) + (jush (((((v0 - ((jush v0 1) &&& 1431655765)) &&& 858993459) + ((jush (v0 - ((jush v0 1) &&& 1431655765)) 2) &&& 858993459)) + (jush (((v0 - ((jush v0 1) &&& 1431655765)) &&& 858993459) + ((jush (v0 - ((jush v0 1) &&& 1431655765)) 2) &&& 858993459)) 4)) &&& 252645135) 8)) + (jush ((((((v0 - ((jush v0 1) &&& 1431655765)) &&& 858993459) + ((jush (v0 - ((jush v0 1) &&& 1431655765)) 2) &&& 858993459)) + (jush (((v0 - ((jush v0 1) &&& 1431655765)) &&& 858993459) + ((jush (v0 - ((jush v0 1) &&& 1431655765)) 2) &&& 858993459)) 4)) &&& 252645135) + (jush (((((v0 - ((jush v0 1) &&& 1431655765)) &&& 858993459) + ((jush (v0 - ((jush v0 1) &&& 1431655765)) 2) &&& 858993459)) + (jush (((v0 - ((jush v0 1) &&& 1431655765)) &&& 858993459) + ((jush (v0 - ((jush v0 1) &&& 1431655765)) 2) &&& 858993459)) 4)) &&& 252645135) 8)) 16)))]) C.1 C.2.1 dJ6_bitCount_0f7a4_47 rfl hl (by decide) rfl (fun ls hl => ?_)
  refine lv_iload_n C.1 C.2.1 dJ6_bitCount_0f7a4_48 rfl (lv_at hl 0 rfl) ?_
  refine lv_bipush (v := 63) C.1 C.2.1 dJ6_bitCount_0f7a4_49 (by decide) ?_
  refine lv_iand C.1 C.2.1 dJ6_bitCount_0f7a4_51 ?_
  exact z_iret C S hf dJ6_bitCount_0f7a4_52
theorem kv_J6_bitCount_0f7a4 : KS yJ6_bitCount_0f7a4 cJ6_bitCount_0f7a4 1 (Option.some FieldType.int) 1 := ⟨tw_6_71, tw_6_70, tw_1_26, by decide, by decide, by decide +kernel⟩
theorem m_J6_bitCount_0f7a4 (l : Launch) (G : Gx) (ad : Ad) (σ : Sg) (v0 : Int32) (r : Int32) (σ' : Sg)  (hf : f_J6_bitCount_0f7a4 σ v0 = some (r, σ')) (sz : Nat) : z_MI l yJ6_bitCount_0f7a4 cJ6_bitCount_0f7a4 1 (Option.some FieldType.int) 0 0 0 G ad σ sz [.int v0] r σ' := by
  refine z_begin (by decide +kernel) (Nat.le_of_ble_eq_true rfl) [(0, .int v0)] rfl (fun p e s m args below meth c ls C hz S hl => ?_)
  subst hz
  exact w_J6_bitCount_0f7a4_0 (res := (r, σ')) C σ v0 _ _ _ S hl  hf

theorem dX2_hasRoom_0 : decode cX2_hasRoom 0 = .ok (.aload_n 0, 1) := by decide +kernel
theorem dX2_hasRoom_1 : decode cX2_hasRoom 1 = .ok (.getfield 53, 3) := by decide +kernel
theorem dX2_hasRoom_4 : decode cX2_hasRoom 4 = .ok (.invokestatic 66, 3) := by decide +kernel
theorem dX2_hasRoom_7 : decode cX2_hasRoom 7 = .ok (.aload_n 0, 1) := by decide +kernel
theorem dX2_hasRoom_8 : decode cX2_hasRoom 8 = .ok (.getfield 28, 3) := by decide +kernel
theorem dX2_hasRoom_11 : decode cX2_hasRoom 11 = .ok (.if_icmp .ge 7, 3) := by decide +kernel
theorem dX2_hasRoom_14 : decode cX2_hasRoom 14 = .ok (.iconst 1, 1) := by decide +kernel
theorem dX2_hasRoom_15 : decode cX2_hasRoom 15 = .ok (.goto 4, 3) := by decide +kernel
theorem dX2_hasRoom_18 : decode cX2_hasRoom 18 = .ok (.iconst 0, 1) := by decide +kernel
theorem dX2_hasRoom_19 : decode cX2_hasRoom 19 = .ok (.ireturn, 1) := by decide +kernel
/-! BusLifts$Car.hasRoom()Z -/
noncomputable def f_X2_hasRoom_19  (σ : Sg) (v100 : Int32) : Option (Int32 × Sg) := if ¬ (v100 = 0 ∨ v100 = 1) then none else (some (v100, σ))
noncomputable def f_X2_hasRoom  (σ : Sg) (o0 : Nat) : Option (Int32 × Sg) := bi (f_J6_bitCount_0f7a4 σ (σ 2 o0 9)) fun r2 σ1 => (if (σ1 2 o0 1) ≤ r2 then (f_X2_hasRoom_19 σ1 0) else (f_X2_hasRoom_19 σ1 1))
set_option maxHeartbeats 4000000 in
set_option maxRecDepth 100000 in
theorem w_X2_hasRoom_19 {p : Program} {l : Launch} {e : Env} {s : State} {m : MethodId} {args : Array Value} {below : List Frame} {meth : Method} {c : Code} {G : Gx} {ad : Ad} {res : Int32 × Sg} (C : Cx p s m args meth c yX2_hasRoom.cls cX2_hasRoom 1 (Option.some FieldType.boolean) G)  : ∀ (σ : Sg) (v100 : Int32) (H : Heap) (locs : List Loc) (ls : Array Slot), z_S 0 G ad σ (z_A 0 ad s.heap.size) s.heap H locs → lv_has ls 1 [] → f_X2_hasRoom_19  σ v100 = some res → W p l e { frames := 1, cells := 0, slots := 0, locals := 20 } s m args below meth c H locs 0 0 (MQ below (va_Qi (S := Unit) (fun r1 _ => r1 = res.1) (fun _ t => z_W 0 G ad res.2 t.heap) (z_A 0 ad s.heap.size)) args s 0 0 (z_A 0 ad s.heap.size)) (F0 m 19 ls [.int v100]) := by
  intro σ v100 H locs ls S hl  hf
  unfold f_X2_hasRoom_19 at hf
  obtain ⟨g_19, hf⟩ := gd hf
  exact z_zret C S (nbz g_19).1 hf dX2_hasRoom_19
set_option maxHeartbeats 4000000 in
set_option maxRecDepth 100000 in
theorem w_X2_hasRoom_0 {p : Program} {l : Launch} {e : Env} {s : State} {m : MethodId} {args : Array Value} {below : List Frame} {meth : Method} {c : Code} {G : Gx} {ad : Ad} {res : Int32 × Sg} (C : Cx p s m args meth c yX2_hasRoom.cls cX2_hasRoom 1 (Option.some FieldType.boolean) G)  : ∀ (σ : Sg) (o0 : Nat) (H : Heap) (locs : List Loc) (ls : Array Slot), z_S 0 G ad σ (z_A 0 ad s.heap.size) s.heap H locs → lv_has ls 1 [(0, .ref (ad 2 o0))] → (o0 < z_cnt 2) → f_X2_hasRoom  σ o0 = some res → W p l e { frames := 1, cells := 0, slots := 0, locals := 20 } s m args below meth c H locs 0 0 (MQ below (va_Qi (S := Unit) (fun r1 _ => r1 = res.1) (fun _ t => z_W 0 G ad res.2 t.heap) (z_A 0 ad s.heap.size)) args s 0 0 (z_A 0 ad s.heap.size)) (F0 m 0 ls []) := by
  intro σ o0 H locs ls S hl ho0 hf
  unfold f_X2_hasRoom at hf
  refine lv_aload_n C.1 C.2.1 dX2_hasRoom_0 rfl (lv_at hl 0 rfl) ?_
  refine z_getI C S 2 o0 rfl ho0 cf_2 9 (by decide) (gi_2_9 G ad o0) tw_1_116 dX2_hasRoom_1 ?_
  obtain ⟨r2, σ1, q_4, hf⟩ := bib hf
  refine z_callSI C S [.int (σ 2 o0 9)] (m_J6_bitCount_0f7a4 l G ad σ (σ 2 o0 9) r2 σ1 q_4 _) kv_J6_bitCount_0f7a4 tw_6_95 ⟨Nat.le_of_ble_eq_true rfl, Nat.le_of_ble_eq_true rfl⟩ rfl rfl (Nat.le_of_ble_eq_true rfl) hl.1 ⟨Nat.le_of_ble_eq_true rfl, Nat.le_of_ble_eq_true rfl⟩ dX2_hasRoom_4 (fun H locs S => ?_)
  refine lv_aload_n C.1 C.2.1 dX2_hasRoom_7 rfl (lv_at hl 0 rfl) ?_
  refine z_getI C S 2 o0 rfl ho0 cf_2 1 (by decide) (gi_2_1 G ad o0) tw_1_92 dX2_hasRoom_8 ?_
  refine lv_icmp_ge (tgt := 18) C.1 C.2.1 dX2_hasRoom_11 (by decide) (fun c_11 => ?_) (fun c_11 => ?_)
  · rw [if_pos c_11] at hf
    refine lv_iconst (v := 0) C.1 C.2.1 dX2_hasRoom_18 (by decide) ?_
    exact w_X2_hasRoom_19 C _ 0 _ _ _ S (lv_sub hl [] rfl) hf
  · rw [if_neg c_11] at hf
    refine lv_iconst (v := 1) C.1 C.2.1 dX2_hasRoom_14 (by decide) ?_
    refine lv_goto (tgt := 19) C.1 C.2.1 dX2_hasRoom_15 (by decide) ?_
    exact w_X2_hasRoom_19 C _ 1 _ _ _ S (lv_sub hl [] rfl) hf
theorem kv_X2_hasRoom : KV yX2_hasRoom cX2_hasRoom 1 (Option.some FieldType.boolean) 0 := ⟨tw_6_94, tw_6_92, tw_6_93, tw_1_14, by decide, by decide, by decide +kernel⟩
theorem m_X2_hasRoom (l : Launch) (G : Gx) (ad : Ad) (σ : Sg) (o0 : Nat) (r : Int32) (σ' : Sg) (ho0 : o0 < z_cnt 2) (hf : f_X2_hasRoom σ o0 = some (r, σ')) (sz : Nat) : z_MI l yX2_hasRoom cX2_hasRoom 1 (Option.some FieldType.boolean) 1 20 0 G ad σ sz [.ref (ad 2 o0)] r σ' := by
  refine z_begin (by decide +kernel) (Nat.le_of_ble_eq_true rfl) [(0, .ref (ad 2 o0))] rfl (fun p e s m args below meth c ls C hz S hl => ?_)
  subst hz
  exact w_X2_hasRoom_0 (res := (r, σ')) C σ o0 _ _ _ S hl ho0 hf

theorem dX2_isCarrying_0 : decode cX2_isCarrying 0 = .ok (.aload_n 0, 1) := by decide +kernel
theorem dX2_isCarrying_1 : decode cX2_isCarrying 1 = .ok (.getfield 53, 3) := by decide +kernel
theorem dX2_isCarrying_4 : decode cX2_isCarrying 4 = .ok (.iload_n 1, 1) := by decide +kernel
theorem dX2_isCarrying_5 : decode cX2_isCarrying 5 = .ok (.iushr, 1) := by decide +kernel
theorem dX2_isCarrying_6 : decode cX2_isCarrying 6 = .ok (.iconst 1, 1) := by decide +kernel
theorem dX2_isCarrying_7 : decode cX2_isCarrying 7 = .ok (.iand, 1) := by decide +kernel
theorem dX2_isCarrying_8 : decode cX2_isCarrying 8 = .ok (.ifCond .eq 7, 3) := by decide +kernel
theorem dX2_isCarrying_11 : decode cX2_isCarrying 11 = .ok (.iconst 1, 1) := by decide +kernel
theorem dX2_isCarrying_12 : decode cX2_isCarrying 12 = .ok (.goto 4, 3) := by decide +kernel
theorem dX2_isCarrying_15 : decode cX2_isCarrying 15 = .ok (.iconst 0, 1) := by decide +kernel
theorem dX2_isCarrying_16 : decode cX2_isCarrying 16 = .ok (.ireturn, 1) := by decide +kernel
/-! BusLifts$Car.isCarrying(I)Z -/
noncomputable def f_X2_isCarrying_16  (σ : Sg) (v100 : Int32) : Option (Int32 × Sg) := if ¬ (v100 = 0 ∨ v100 = 1) then none else (some (v100, σ))
noncomputable def f_X2_isCarrying  (σ : Sg) (o0 : Nat) (v1 : Int32) : Option (Int32 × Sg) := if ((jush (σ 2 o0 9) v1) &&& 1) = 0 then (f_X2_isCarrying_16 σ 0) else (f_X2_isCarrying_16 σ 1)
set_option maxHeartbeats 4000000 in
set_option maxRecDepth 100000 in
theorem w_X2_isCarrying_16 {p : Program} {l : Launch} {e : Env} {s : State} {m : MethodId} {args : Array Value} {below : List Frame} {meth : Method} {c : Code} {G : Gx} {ad : Ad} {res : Int32 × Sg} (C : Cx p s m args meth c yX2_isCarrying.cls cX2_isCarrying 2 (Option.some FieldType.boolean) G)  : ∀ (σ : Sg) (v100 : Int32) (H : Heap) (locs : List Loc) (ls : Array Slot), z_S 0 G ad σ (z_A 0 ad s.heap.size) s.heap H locs → lv_has ls 2 [] → f_X2_isCarrying_16  σ v100 = some res → W p l e { frames := 0, cells := 0, slots := 0, locals := 0 } s m args below meth c H locs 0 0 (MQ below (va_Qi (S := Unit) (fun r1 _ => r1 = res.1) (fun _ t => z_W 0 G ad res.2 t.heap) (z_A 0 ad s.heap.size)) args s 0 0 (z_A 0 ad s.heap.size)) (F0 m 16 ls [.int v100]) := by
  intro σ v100 H locs ls S hl  hf
  unfold f_X2_isCarrying_16 at hf
  obtain ⟨g_16, hf⟩ := gd hf
  exact z_zret C S (nbz g_16).1 hf dX2_isCarrying_16
set_option maxHeartbeats 4000000 in
set_option maxRecDepth 100000 in
theorem w_X2_isCarrying_0 {p : Program} {l : Launch} {e : Env} {s : State} {m : MethodId} {args : Array Value} {below : List Frame} {meth : Method} {c : Code} {G : Gx} {ad : Ad} {res : Int32 × Sg} (C : Cx p s m args meth c yX2_isCarrying.cls cX2_isCarrying 2 (Option.some FieldType.boolean) G)  : ∀ (σ : Sg) (o0 : Nat) (v1 : Int32) (H : Heap) (locs : List Loc) (ls : Array Slot), z_S 0 G ad σ (z_A 0 ad s.heap.size) s.heap H locs → lv_has ls 2 [(0, .ref (ad 2 o0)), (1, .int v1)] → (o0 < z_cnt 2) → f_X2_isCarrying  σ o0 v1 = some res → W p l e { frames := 0, cells := 0, slots := 0, locals := 0 } s m args below meth c H locs 0 0 (MQ below (va_Qi (S := Unit) (fun r1 _ => r1 = res.1) (fun _ t => z_W 0 G ad res.2 t.heap) (z_A 0 ad s.heap.size)) args s 0 0 (z_A 0 ad s.heap.size)) (F0 m 0 ls []) := by
  intro σ o0 v1 H locs ls S hl ho0 hf
  unfold f_X2_isCarrying at hf
  refine lv_aload_n C.1 C.2.1 dX2_isCarrying_0 rfl (lv_at hl 0 rfl) ?_
  refine z_getI C S 2 o0 rfl ho0 cf_2 9 (by decide) (gi_2_9 G ad o0) tw_1_116 dX2_isCarrying_1 ?_
  refine lv_iload_n C.1 C.2.1 dX2_isCarrying_4 rfl (lv_at hl 1 rfl) ?_
  refine lv_iushr (v := (jush (σ 2 o0 9) v1)) C.1 C.2.1 dX2_isCarrying_5 rfl ?_
  refine lv_iconst (v := 1) C.1 C.2.1 dX2_isCarrying_6 (by decide) ?_
  refine lv_iand C.1 C.2.1 dX2_isCarrying_7 ?_
  refine lv_if_eq (tgt := 15) C.1 C.2.1 dX2_isCarrying_8 (by decide) (fun c_8 => ?_) (fun c_8 => ?_)
  · rw [if_pos c_8] at hf
    refine lv_iconst (v := 0) C.1 C.2.1 dX2_isCarrying_15 (by decide) ?_
    exact w_X2_isCarrying_16 C _ 0 _ _ _ S (lv_sub hl [] rfl) hf
  · rw [if_neg c_8] at hf
    refine lv_iconst (v := 1) C.1 C.2.1 dX2_isCarrying_11 (by decide) ?_
    refine lv_goto (tgt := 16) C.1 C.2.1 dX2_isCarrying_12 (by decide) ?_
    exact w_X2_isCarrying_16 C _ 1 _ _ _ S (lv_sub hl [] rfl) hf
theorem kv_X2_isCarrying : KV yX2_isCarrying cX2_isCarrying 2 (Option.some FieldType.boolean) 1 := ⟨tw_6_99, tw_6_97, tw_6_98, tw_1_14, by decide, by decide, by decide +kernel⟩
theorem m_X2_isCarrying (l : Launch) (G : Gx) (ad : Ad) (σ : Sg) (o0 : Nat) (v1 : Int32) (r : Int32) (σ' : Sg) (ho0 : o0 < z_cnt 2) (hf : f_X2_isCarrying σ o0 v1 = some (r, σ')) (sz : Nat) : z_MI l yX2_isCarrying cX2_isCarrying 2 (Option.some FieldType.boolean) 0 0 0 G ad σ sz [.ref (ad 2 o0), .int v1] r σ' := by
  refine z_begin (by decide +kernel) (Nat.le_of_ble_eq_true rfl) [(0, .ref (ad 2 o0)), (1, .int v1)] rfl (fun p e s m args below meth c ls C hz S hl => ?_)
  subst hz
  exact w_X2_isCarrying_0 (res := (r, σ')) C σ o0 v1 _ _ _ S hl ho0 hf

theorem dX4_nearer_0 : decode cX4_nearer 0 = .ok (.iload_n 2, 1) := by decide +kernel
theorem dX4_nearer_1 : decode cX4_nearer 1 = .ok (.iload_n 0, 1) := by decide +kernel
theorem dX4_nearer_2 : decode cX4_nearer 2 = .ok (.isub, 1) := by decide +kernel
theorem dX4_nearer_3 : decode cX4_nearer 3 = .ok (.invokestatic 114, 3) := by decide +kernel
theorem dX4_nearer_6 : decode cX4_nearer 6 = .ok (.iload_n 1, 1) := by decide +kernel
theorem dX4_nearer_7 : decode cX4_nearer 7 = .ok (.iload_n 0, 1) := by decide +kernel
theorem dX4_nearer_8 : decode cX4_nearer 8 = .ok (.isub, 1) := by decide +kernel
theorem dX4_nearer_9 : decode cX4_nearer 9 = .ok (.invokestatic 114, 3) := by decide +kernel
theorem dX4_nearer_12 : decode cX4_nearer 12 = .ok (.isub, 1) := by decide +kernel
theorem dX4_nearer_13 : decode cX4_nearer 13 = .ok (.istore_n 3, 1) := by decide +kernel
theorem dX4_nearer_14 : decode cX4_nearer 14 = .ok (.iload_n 2, 1) := by decide +kernel
theorem dX4_nearer_15 : decode cX4_nearer 15 = .ok (.ifCond .lt 16, 3) := by decide +kernel
theorem dX4_nearer_18 : decode cX4_nearer 18 = .ok (.iload_n 3, 1) := by decide +kernel
theorem dX4_nearer_19 : decode cX4_nearer 19 = .ok (.ifCond .gt 12, 3) := by decide +kernel
theorem dX4_nearer_22 : decode cX4_nearer 22 = .ok (.iload_n 3, 1) := by decide +kernel
theorem dX4_nearer_23 : decode cX4_nearer 23 = .ok (.ifCond .ne 12, 3) := by decide +kernel
theorem dX4_nearer_26 : decode cX4_nearer 26 = .ok (.iload_n 1, 1) := by decide +kernel
theorem dX4_nearer_27 : decode cX4_nearer 27 = .ok (.iload_n 2, 1) := by decide +kernel
theorem dX4_nearer_28 : decode cX4_nearer 28 = .ok (.if_icmp .ge 7, 3) := by decide +kernel
theorem dX4_nearer_31 : decode cX4_nearer 31 = .ok (.iload_n 1, 1) := by decide +kernel
theorem dX4_nearer_32 : decode cX4_nearer 32 = .ok (.goto 4, 3) := by decide +kernel
theorem dX4_nearer_35 : decode cX4_nearer 35 = .ok (.iload_n 2, 1) := by decide +kernel
theorem dX4_nearer_36 : decode cX4_nearer 36 = .ok (.ireturn, 1) := by decide +kernel
/-! BusLifts$Lifts.nearer(III)I -/
noncomputable def f_X4_nearer_36  (σ : Sg) (v100 : Int32) : Option (Int32 × Sg) := some (v100, σ)
noncomputable def f_X4_nearer_31  (σ : Sg) (v1 : Int32) : Option (Int32 × Sg) := f_X4_nearer_36 σ v1
noncomputable def f_X4_nearer_35  (σ : Sg) (v2 : Int32) : Option (Int32 × Sg) := f_X4_nearer_36 σ v2
noncomputable def f_X4_nearer  (σ : Sg) (v0 : Int32) (v1 : Int32) (v2 : Int32) : Option (Int32 × Sg) := if v2 < 0 then (f_X4_nearer_31 σ v1) else (if 0 < ((jabs (v2 - v0)) - (jabs (v1 - v0))) then (f_X4_nearer_31 σ v1) else (if ((jabs (v2 - v0)) - (jabs (v1 - v0))) = 0 then (if v2 ≤ v1 then (f_X4_nearer_35 σ v2) else (f_X4_nearer_31 σ v1)) else (f_X4_nearer_35 σ v2)))
set_option maxHeartbeats 4000000 in
set_option maxRecDepth 100000 in
theorem w_X4_nearer_36 {p : Program} {l : Launch} {e : Env} {s : State} {m : MethodId} {args : Array Value} {below : List Frame} {meth : Method} {c : Code} {G : Gx} {ad : Ad} {res : Int32 × Sg} (C : Cx p s m args meth c yX4_nearer.cls cX4_nearer 4 (Option.some FieldType.int) G)  : ∀ (σ : Sg) (v100 : Int32) (H : Heap) (locs : List Loc) (ls : Array Slot), z_S 0 G ad σ (z_A 0 ad s.heap.size) s.heap H locs → lv_has ls 4 [] → f_X4_nearer_36  σ v100 = some res → W p l e { frames := 1, cells := 0, slots := 0, locals := 21 } s m args below meth c H locs 0 0 (MQ below (va_Qi (S := Unit) (fun r1 _ => r1 = res.1) (fun _ t => z_W 0 G ad res.2 t.heap) (z_A 0 ad s.heap.size)) args s 0 0 (z_A 0 ad s.heap.size)) (F0 m 36 ls [.int v100]) := by
  intro σ v100 H locs ls S hl  hf
  unfold f_X4_nearer_36 at hf
  exact z_iret C S hf dX4_nearer_36
set_option maxHeartbeats 4000000 in
set_option maxRecDepth 100000 in
theorem w_X4_nearer_31 {p : Program} {l : Launch} {e : Env} {s : State} {m : MethodId} {args : Array Value} {below : List Frame} {meth : Method} {c : Code} {G : Gx} {ad : Ad} {res : Int32 × Sg} (C : Cx p s m args meth c yX4_nearer.cls cX4_nearer 4 (Option.some FieldType.int) G)  : ∀ (σ : Sg) (v1 : Int32) (H : Heap) (locs : List Loc) (ls : Array Slot), z_S 0 G ad σ (z_A 0 ad s.heap.size) s.heap H locs → lv_has ls 4 [(1, .int v1)] → f_X4_nearer_31  σ v1 = some res → W p l e { frames := 1, cells := 0, slots := 0, locals := 21 } s m args below meth c H locs 0 0 (MQ below (va_Qi (S := Unit) (fun r1 _ => r1 = res.1) (fun _ t => z_W 0 G ad res.2 t.heap) (z_A 0 ad s.heap.size)) args s 0 0 (z_A 0 ad s.heap.size)) (F0 m 31 ls []) := by
  intro σ v1 H locs ls S hl  hf
  unfold f_X4_nearer_31 at hf
  refine lv_iload_n C.1 C.2.1 dX4_nearer_31 rfl (lv_at hl 0 rfl) ?_
  refine lv_goto (tgt := 36) C.1 C.2.1 dX4_nearer_32 (by decide) ?_
  exact w_X4_nearer_36 C _ v1 _ _ _ S (lv_sub hl [] rfl) hf
set_option maxHeartbeats 4000000 in
set_option maxRecDepth 100000 in
theorem w_X4_nearer_35 {p : Program} {l : Launch} {e : Env} {s : State} {m : MethodId} {args : Array Value} {below : List Frame} {meth : Method} {c : Code} {G : Gx} {ad : Ad} {res : Int32 × Sg} (C : Cx p s m args meth c yX4_nearer.cls cX4_nearer 4 (Option.some FieldType.int) G)  : ∀ (σ : Sg) (v2 : Int32) (H : Heap) (locs : List Loc) (ls : Array Slot), z_S 0 G ad σ (z_A 0 ad s.heap.size) s.heap H locs → lv_has ls 4 [(2, .int v2)] → f_X4_nearer_35  σ v2 = some res → W p l e { frames := 1, cells := 0, slots := 0, locals := 21 } s m args below meth c H locs 0 0 (MQ below (va_Qi (S := Unit) (fun r1 _ => r1 = res.1) (fun _ t => z_W 0 G ad res.2 t.heap) (z_A 0 ad s.heap.size)) args s 0 0 (z_A 0 ad s.heap.size)) (F0 m 35 ls []) := by
  intro σ v2 H locs ls S hl  hf
  unfold f_X4_nearer_35 at hf
  refine lv_iload_n C.1 C.2.1 dX4_nearer_35 rfl (lv_at hl 0 rfl) ?_
  exact w_X4_nearer_36 C _ v2 _ _ _ S (lv_sub hl [] rfl) hf
set_option maxHeartbeats 4000000 in
set_option maxRecDepth 100000 in
theorem w_X4_nearer_0 {p : Program} {l : Launch} {e : Env} {s : State} {m : MethodId} {args : Array Value} {below : List Frame} {meth : Method} {c : Code} {G : Gx} {ad : Ad} {res : Int32 × Sg} (C : Cx p s m args meth c yX4_nearer.cls cX4_nearer 4 (Option.some FieldType.int) G)  : ∀ (σ : Sg) (v0 : Int32) (v1 : Int32) (v2 : Int32) (H : Heap) (locs : List Loc) (ls : Array Slot), z_S 0 G ad σ (z_A 0 ad s.heap.size) s.heap H locs → lv_has ls 4 [(0, .int v0), (1, .int v1), (2, .int v2)] → f_X4_nearer  σ v0 v1 v2 = some res → W p l e { frames := 1, cells := 0, slots := 0, locals := 21 } s m args below meth c H locs 0 0 (MQ below (va_Qi (S := Unit) (fun r1 _ => r1 = res.1) (fun _ t => z_W 0 G ad res.2 t.heap) (z_A 0 ad s.heap.size)) args s 0 0 (z_A 0 ad s.heap.size)) (F0 m 0 ls []) := by
  intro σ v0 v1 v2 H locs ls S hl  hf
  unfold f_X4_nearer at hf
  refine lv_iload_n C.1 C.2.1 dX4_nearer_0 rfl (lv_at hl 2 rfl) ?_
  refine lv_iload_n C.1 C.2.1 dX4_nearer_1 rfl (lv_at hl 0 rfl) ?_
  refine lv_isub C.1 C.2.1 dX4_nearer_2 ?_
  refine z_abs C hl.1 tw_6_103 (Nat.le_of_ble_eq_true rfl) (Nat.le_of_ble_eq_true rfl) ⟨Nat.le_of_ble_eq_true rfl, Nat.le_of_ble_eq_true rfl⟩ dX4_nearer_3 ?_
  refine lv_iload_n C.1 C.2.1 dX4_nearer_6 rfl (lv_at hl 1 rfl) ?_
  refine lv_iload_n C.1 C.2.1 dX4_nearer_7 rfl (lv_at hl 0 rfl) ?_
  refine lv_isub C.1 C.2.1 dX4_nearer_8 ?_
  refine z_abs C hl.1 tw_6_103 (Nat.le_of_ble_eq_true rfl) (Nat.le_of_ble_eq_true rfl) ⟨Nat.le_of_ble_eq_true rfl, Nat.le_of_ble_eq_true rfl⟩ dX4_nearer_9 ?_
  refine lv_isub C.1 C.2.1 dX4_nearer_12 ?_
  refine lv_istore_n (lv' := [(3, .int ((jabs (v2 - v0)) - (jabs (v1 - v0)))), (0, .int v0), (1, .int v1), (2, .int v2)]) C.1 C.2.1 dX4_nearer_13 rfl hl (by decide) rfl (fun ls hl => ?_)
  refine lv_iload_n C.1 C.2.1 dX4_nearer_14 rfl (lv_at hl 3 rfl) ?_
  refine lv_if_lt (tgt := 31) C.1 C.2.1 dX4_nearer_15 (by decide) (fun c_15 => ?_) (fun c_15 => ?_)
  · rw [if_pos c_15] at hf
    exact w_X4_nearer_31 C _ v1 _ _ _ S (lv_sub hl [2] rfl) hf
  · rw [if_neg c_15] at hf
    refine lv_iload_n C.1 C.2.1 dX4_nearer_18 rfl (lv_at hl 0 rfl) ?_
    refine lv_if_gt (tgt := 31) C.1 C.2.1 dX4_nearer_19 (by decide) (fun c_19 => ?_) (fun c_19 => ?_)
    · rw [if_pos c_19] at hf
      exact w_X4_nearer_31 C _ v1 _ _ _ S (lv_sub hl [2] rfl) hf
    · rw [if_neg c_19] at hf
      refine lv_iload_n C.1 C.2.1 dX4_nearer_22 rfl (lv_at hl 0 rfl) ?_
      refine lv_if_ne (tgt := 35) C.1 C.2.1 dX4_nearer_23 (by decide) (fun c_23 => ?_) (fun c_23 => ?_)
      · rw [if_neg c_23] at hf
        exact w_X4_nearer_35 C _ v2 _ _ _ S (lv_sub hl [3] rfl) hf
      · rw [if_pos c_23] at hf
        refine lv_iload_n C.1 C.2.1 dX4_nearer_26 rfl (lv_at hl 2 rfl) ?_
        refine lv_iload_n C.1 C.2.1 dX4_nearer_27 rfl (lv_at hl 3 rfl) ?_
        refine lv_icmp_ge (tgt := 35) C.1 C.2.1 dX4_nearer_28 (by decide) (fun c_28 => ?_) (fun c_28 => ?_)
        · rw [if_pos c_28] at hf
          exact w_X4_nearer_35 C _ v2 _ _ _ S (lv_sub hl [3] rfl) hf
        · rw [if_neg c_28] at hf
          exact w_X4_nearer_31 C _ v1 _ _ _ S (lv_sub hl [2] rfl) hf
theorem kv_X4_nearer : KS yX4_nearer cX4_nearer 4 (Option.some FieldType.int) 3 := ⟨tw_6_102, tw_6_101, tw_1_12, by decide, by decide, by decide +kernel⟩
theorem m_X4_nearer (l : Launch) (G : Gx) (ad : Ad) (σ : Sg) (v0 : Int32) (v1 : Int32) (v2 : Int32) (r : Int32) (σ' : Sg)  (hf : f_X4_nearer σ v0 v1 v2 = some (r, σ')) (sz : Nat) : z_MI l yX4_nearer cX4_nearer 4 (Option.some FieldType.int) 1 21 0 G ad σ sz [.int v0, .int v1, .int v2] r σ' := by
  refine z_begin (by decide +kernel) (Nat.le_of_ble_eq_true rfl) [(0, .int v0), (1, .int v1), (2, .int v2)] rfl (fun p e s m args below meth c ls C hz S hl => ?_)
  subst hz
  exact w_X4_nearer_0 (res := (r, σ')) C σ v0 v1 v2 _ _ _ S hl  hf

theorem dX2_isHolding_0 : decode cX2_isHolding 0 = .ok (.aload_n 0, 1) := by decide +kernel
theorem dX2_isHolding_1 : decode cX2_isHolding 1 = .ok (.getfield 50, 3) := by decide +kernel
theorem dX2_isHolding_4 : decode cX2_isHolding 4 = .ok (.iload_n 1, 1) := by decide +kernel
theorem dX2_isHolding_5 : decode cX2_isHolding 5 = .ok (.iushr, 1) := by decide +kernel
theorem dX2_isHolding_6 : decode cX2_isHolding 6 = .ok (.iconst 1, 1) := by decide +kernel
theorem dX2_isHolding_7 : decode cX2_isHolding 7 = .ok (.iand, 1) := by decide +kernel
theorem dX2_isHolding_8 : decode cX2_isHolding 8 = .ok (.ifCond .eq 7, 3) := by decide +kernel
theorem dX2_isHolding_11 : decode cX2_isHolding 11 = .ok (.iconst 1, 1) := by decide +kernel
theorem dX2_isHolding_12 : decode cX2_isHolding 12 = .ok (.goto 4, 3) := by decide +kernel
theorem dX2_isHolding_15 : decode cX2_isHolding 15 = .ok (.iconst 0, 1) := by decide +kernel
theorem dX2_isHolding_16 : decode cX2_isHolding 16 = .ok (.ireturn, 1) := by decide +kernel
/-! BusLifts$Car.isHolding(I)Z -/
noncomputable def f_X2_isHolding_16  (σ : Sg) (v100 : Int32) : Option (Int32 × Sg) := if ¬ (v100 = 0 ∨ v100 = 1) then none else (some (v100, σ))
noncomputable def f_X2_isHolding  (σ : Sg) (o0 : Nat) (v1 : Int32) : Option (Int32 × Sg) := if ((jush (σ 2 o0 8) v1) &&& 1) = 0 then (f_X2_isHolding_16 σ 0) else (f_X2_isHolding_16 σ 1)
set_option maxHeartbeats 4000000 in
set_option maxRecDepth 100000 in
theorem w_X2_isHolding_16 {p : Program} {l : Launch} {e : Env} {s : State} {m : MethodId} {args : Array Value} {below : List Frame} {meth : Method} {c : Code} {G : Gx} {ad : Ad} {res : Int32 × Sg} (C : Cx p s m args meth c yX2_isHolding.cls cX2_isHolding 2 (Option.some FieldType.boolean) G)  : ∀ (σ : Sg) (v100 : Int32) (H : Heap) (locs : List Loc) (ls : Array Slot), z_S 0 G ad σ (z_A 0 ad s.heap.size) s.heap H locs → lv_has ls 2 [] → f_X2_isHolding_16  σ v100 = some res → W p l e { frames := 0, cells := 0, slots := 0, locals := 0 } s m args below meth c H locs 0 0 (MQ below (va_Qi (S := Unit) (fun r1 _ => r1 = res.1) (fun _ t => z_W 0 G ad res.2 t.heap) (z_A 0 ad s.heap.size)) args s 0 0 (z_A 0 ad s.heap.size)) (F0 m 16 ls [.int v100]) := by
  intro σ v100 H locs ls S hl  hf
  unfold f_X2_isHolding_16 at hf
  obtain ⟨g_16, hf⟩ := gd hf
  exact z_zret C S (nbz g_16).1 hf dX2_isHolding_16
set_option maxHeartbeats 4000000 in
set_option maxRecDepth 100000 in
theorem w_X2_isHolding_0 {p : Program} {l : Launch} {e : Env} {s : State} {m : MethodId} {args : Array Value} {below : List Frame} {meth : Method} {c : Code} {G : Gx} {ad : Ad} {res : Int32 × Sg} (C : Cx p s m args meth c yX2_isHolding.cls cX2_isHolding 2 (Option.some FieldType.boolean) G)  : ∀ (σ : Sg) (o0 : Nat) (v1 : Int32) (H : Heap) (locs : List Loc) (ls : Array Slot), z_S 0 G ad σ (z_A 0 ad s.heap.size) s.heap H locs → lv_has ls 2 [(0, .ref (ad 2 o0)), (1, .int v1)] → (o0 < z_cnt 2) → f_X2_isHolding  σ o0 v1 = some res → W p l e { frames := 0, cells := 0, slots := 0, locals := 0 } s m args below meth c H locs 0 0 (MQ below (va_Qi (S := Unit) (fun r1 _ => r1 = res.1) (fun _ t => z_W 0 G ad res.2 t.heap) (z_A 0 ad s.heap.size)) args s 0 0 (z_A 0 ad s.heap.size)) (F0 m 0 ls []) := by
  intro σ o0 v1 H locs ls S hl ho0 hf
  unfold f_X2_isHolding at hf
  refine lv_aload_n C.1 C.2.1 dX2_isHolding_0 rfl (lv_at hl 0 rfl) ?_
  refine z_getI C S 2 o0 rfl ho0 cf_2 8 (by decide) (gi_2_8 G ad o0) tw_1_112 dX2_isHolding_1 ?_
  refine lv_iload_n C.1 C.2.1 dX2_isHolding_4 rfl (lv_at hl 1 rfl) ?_
  refine lv_iushr (v := (jush (σ 2 o0 8) v1)) C.1 C.2.1 dX2_isHolding_5 rfl ?_
  refine lv_iconst (v := 1) C.1 C.2.1 dX2_isHolding_6 (by decide) ?_
  refine lv_iand C.1 C.2.1 dX2_isHolding_7 ?_
  refine lv_if_eq (tgt := 15) C.1 C.2.1 dX2_isHolding_8 (by decide) (fun c_8 => ?_) (fun c_8 => ?_)
  · rw [if_pos c_8] at hf
    refine lv_iconst (v := 0) C.1 C.2.1 dX2_isHolding_15 (by decide) ?_
    exact w_X2_isHolding_16 C _ 0 _ _ _ S (lv_sub hl [] rfl) hf
  · rw [if_neg c_8] at hf
    refine lv_iconst (v := 1) C.1 C.2.1 dX2_isHolding_11 (by decide) ?_
    refine lv_goto (tgt := 16) C.1 C.2.1 dX2_isHolding_12 (by decide) ?_
    exact w_X2_isHolding_16 C _ 1 _ _ _ S (lv_sub hl [] rfl) hf
theorem kv_X2_isHolding : KV yX2_isHolding cX2_isHolding 2 (Option.some FieldType.boolean) 1 := ⟨tw_6_109, tw_6_107, tw_6_108, tw_1_14, by decide, by decide, by decide +kernel⟩
theorem m_X2_isHolding (l : Launch) (G : Gx) (ad : Ad) (σ : Sg) (o0 : Nat) (v1 : Int32) (r : Int32) (σ' : Sg) (ho0 : o0 < z_cnt 2) (hf : f_X2_isHolding σ o0 v1 = some (r, σ')) (sz : Nat) : z_MI l yX2_isHolding cX2_isHolding 2 (Option.some FieldType.boolean) 0 0 0 G ad σ sz [.ref (ad 2 o0), .int v1] r σ' := by
  refine z_begin (by decide +kernel) (Nat.le_of_ble_eq_true rfl) [(0, .ref (ad 2 o0)), (1, .int v1)] rfl (fun p e s m args below meth c ls C hz S hl => ?_)
  subst hz
  exact w_X2_isHolding_0 (res := (r, σ')) C σ o0 v1 _ _ _ S hl ho0 hf

theorem dX4_nearestGoal_0 : decode cX4_nearestGoal 0 = .ok (.aload_n 1, 1) := by decide +kernel
theorem dX4_nearestGoal_1 : decode cX4_nearestGoal 1 = .ok (.invokevirtual 145, 3) := by decide +kernel
theorem dX4_nearestGoal_4 : decode cX4_nearestGoal 4 = .ok (.istore_n 2, 1) := by decide +kernel
theorem dX4_nearestGoal_5 : decode cX4_nearestGoal 5 = .ok (.iconst (-1), 1) := by decide +kernel
theorem dX4_nearestGoal_6 : decode cX4_nearestGoal 6 = .ok (.istore_n 3, 1) := by decide +kernel
theorem dX4_nearestGoal_7 : decode cX4_nearestGoal 7 = .ok (.iconst 0, 1) := by decide +kernel
theorem dX4_nearestGoal_8 : decode cX4_nearestGoal 8 = .ok (.istore 4, 2) := by decide +kernel
theorem dX4_nearestGoal_10 : decode cX4_nearestGoal 10 = .ok (.iload 4, 2) := by decide +kernel
theorem dX4_nearestGoal_12 : decode cX4_nearestGoal 12 = .ok (.aload_n 0, 1) := by decide +kernel
theorem dX4_nearestGoal_13 : decode cX4_nearestGoal 13 = .ok (.getfield 52, 3) := by decide +kernel
theorem dX4_nearestGoal_16 : decode cX4_nearestGoal 16 = .ok (.if_icmp .ge 69, 3) := by decide +kernel
theorem dX4_nearestGoal_19 : decode cX4_nearestGoal 19 = .ok (.aload_n 1, 1) := by decide +kernel
theorem dX4_nearestGoal_20 : decode cX4_nearestGoal 20 = .ok (.iload 4, 2) := by decide +kernel
theorem dX4_nearestGoal_22 : decode cX4_nearestGoal 22 = .ok (.invokevirtual 149, 3) := by decide +kernel
theorem dX4_nearestGoal_25 : decode cX4_nearestGoal 25 = .ok (.ifCond .eq 22, 3) := by decide +kernel
theorem dX4_nearestGoal_28 : decode cX4_nearestGoal 28 = .ok (.aload_n 1, 1) := by decide +kernel
theorem dX4_nearestGoal_29 : decode cX4_nearestGoal 29 = .ok (.getfield 111, 3) := by decide +kernel
theorem dX4_nearestGoal_32 : decode cX4_nearestGoal 32 = .ok (.aload_n 0, 1) := by decide +kernel
theorem dX4_nearestGoal_33 : decode cX4_nearestGoal 33 = .ok (.getfield 23, 3) := by decide +kernel
theorem dX4_nearestGoal_36 : decode cX4_nearestGoal 36 = .ok (.iload 4, 2) := by decide +kernel
theorem dX4_nearestGoal_38 : decode cX4_nearestGoal 38 = .ok (.aaload, 1) := by decide +kernel
theorem dX4_nearestGoal_39 : decode cX4_nearestGoal 39 = .ok (.getfield 152, 3) := by decide +kernel
theorem dX4_nearestGoal_42 : decode cX4_nearestGoal 42 = .ok (.iload_n 3, 1) := by decide +kernel
theorem dX4_nearestGoal_43 : decode cX4_nearestGoal 43 = .ok (.invokestatic 155, 3) := by decide +kernel
theorem dX4_nearestGoal_46 : decode cX4_nearestGoal 46 = .ok (.istore_n 3, 1) := by decide +kernel
theorem dX4_nearestGoal_47 : decode cX4_nearestGoal 47 = .ok (.iload_n 2, 1) := by decide +kernel
theorem dX4_nearestGoal_48 : decode cX4_nearestGoal 48 = .ok (.ifCond .eq 31, 3) := by decide +kernel
theorem dX4_nearestGoal_51 : decode cX4_nearestGoal 51 = .ok (.aload_n 1, 1) := by decide +kernel
theorem dX4_nearestGoal_52 : decode cX4_nearestGoal 52 = .ok (.iload 4, 2) := by decide +kernel
theorem dX4_nearestGoal_54 : decode cX4_nearestGoal 54 = .ok (.invokevirtual 141, 3) := by decide +kernel
theorem dX4_nearestGoal_57 : decode cX4_nearestGoal 57 = .ok (.ifCond .eq 22, 3) := by decide +kernel
theorem dX4_nearestGoal_60 : decode cX4_nearestGoal 60 = .ok (.aload_n 1, 1) := by decide +kernel
theorem dX4_nearestGoal_61 : decode cX4_nearestGoal 61 = .ok (.getfield 111, 3) := by decide +kernel
theorem dX4_nearestGoal_64 : decode cX4_nearestGoal 64 = .ok (.aload_n 0, 1) := by decide +kernel
theorem dX4_nearestGoal_65 : decode cX4_nearestGoal 65 = .ok (.getfield 23, 3) := by decide +kernel
theorem dX4_nearestGoal_68 : decode cX4_nearestGoal 68 = .ok (.iload 4, 2) := by decide +kernel
theorem dX4_nearestGoal_70 : decode cX4_nearestGoal 70 = .ok (.aaload, 1) := by decide +kernel
theorem dX4_nearestGoal_71 : decode cX4_nearestGoal 71 = .ok (.getfield 138, 3) := by decide +kernel
theorem dX4_nearestGoal_74 : decode cX4_nearestGoal 74 = .ok (.iload_n 3, 1) := by decide +kernel
theorem dX4_nearestGoal_75 : decode cX4_nearestGoal 75 = .ok (.invokestatic 155, 3) := by decide +kernel
theorem dX4_nearestGoal_78 : decode cX4_nearestGoal 78 = .ok (.istore_n 3, 1) := by decide +kernel
theorem dX4_nearestGoal_79 : decode cX4_nearestGoal 79 = .ok (.iinc 4 1, 3) := by decide +kernel
theorem dX4_nearestGoal_82 : decode cX4_nearestGoal 82 = .ok (.goto (-72), 3) := by decide +kernel
theorem dX4_nearestGoal_85 : decode cX4_nearestGoal 85 = .ok (.iload_n 3, 1) := by decide +kernel
theorem dX4_nearestGoal_86 : decode cX4_nearestGoal 86 = .ok (.ireturn, 1) := by decide +kernel
/-! BusLifts$Lifts.nearestGoal(LBusLifts$Car;)I -/
noncomputable def f_X4_nearestGoal_85  (σ : Sg) (v3 : Int32) : Option (Int32 × Sg) := some (v3, σ)
noncomputable def f_X4_nearestGoal_79 (k10 : Sg → Nat → Nat → Int32 → Int32 → Int32 → Option (Int32 × Sg)) (σ : Sg) (o0 : Nat) (o1 : Nat) (v2 : Int32) (v3 : Int32) (v4 : Int32) : Option (Int32 × Sg) := k10 σ o0 o1 v2 v3 (v4 + 1)
noncomputable def f_X4_nearestGoal_47 (k10 : Sg → Nat → Nat → Int32 → Int32 → Int32 → Option (Int32 × Sg)) (σ : Sg) (o0 : Nat) (o1 : Nat) (v2 : Int32) (v3 : Int32) (v4 : Int32) : Option (Int32 × Sg) := if v2 = 0 then (f_X4_nearestGoal_79 k10 σ o0 o1 v2 v3 v4) else (bi (f_X2_isHolding σ o1 v4) fun r2 σ1 => (if r2 = 0 then (f_X4_nearestGoal_79 k10 σ1 o0 o1 v2 v3 v4) else (if v4 < 0 ∨ 24 ≤ (v4).toNatClampNeg then none else (bi (f_X4_nearer σ1 (σ1 2 o1 0) (σ1 1 (24 * o0 + (v4).toNatClampNeg) 0) v3) fun r4 σ3 => (f_X4_nearestGoal_79 k10 σ3 o0 o1 v2 r4 v4)))))
noncomputable def f_X4_nearestGoal_10  : Nat → Sg → Nat → Nat → Int32 → Int32 → Int32 → Option (Int32 × Sg)
  | 0, _, _, _, _, _, _ => none
  | n + 1, σ, o0, o1, v2, v3, v4 => if (σ 4 o0 2) ≤ v4 then (f_X4_nearestGoal_85 σ v3) else (bi (f_X2_isCarrying σ o1 v4) fun r2 σ1 => (if r2 = 0 then (f_X4_nearestGoal_47 (f_X4_nearestGoal_10 n) σ1 o0 o1 v2 v3 v4) else (if v4 < 0 ∨ 24 ≤ (v4).toNatClampNeg then none else (bi (f_X4_nearer σ1 (σ1 2 o1 0) (σ1 1 (24 * o0 + (v4).toNatClampNeg) 1) v3) fun r4 σ3 => (f_X4_nearestGoal_47 (f_X4_nearestGoal_10 n) σ3 o0 o1 v2 r4 v4)))))
theorem f_X4_nearestGoal_10_s  (n : Nat) (σ : Sg) (o0 : Nat) (o1 : Nat) (v2 : Int32) (v3 : Int32) (v4 : Int32) : f_X4_nearestGoal_10  (n + 1) σ o0 o1 v2 v3 v4 = (if (σ 4 o0 2) ≤ v4 then (f_X4_nearestGoal_85 σ v3) else (bi (f_X2_isCarrying σ o1 v4) fun r2 σ1 => (if r2 = 0 then (f_X4_nearestGoal_47 (f_X4_nearestGoal_10 n) σ1 o0 o1 v2 v3 v4) else (if v4 < 0 ∨ 24 ≤ (v4).toNatClampNeg then none else (bi (f_X4_nearer σ1 (σ1 2 o1 0) (σ1 1 (24 * o0 + (v4).toNatClampNeg) 1) v3) fun r4 σ3 => (f_X4_nearestGoal_47 (f_X4_nearestGoal_10 n) σ3 o0 o1 v2 r4 v4)))))) := rfl
noncomputable def f_X4_nearestGoal  (σ : Sg) (o0 : Nat) (o1 : Nat) : Option (Int32 × Sg) := bi (f_X2_hasRoom σ o1) fun r2 σ1 => (f_X4_nearestGoal_10 FU σ1 o0 o1 r2 (-1) 0)
set_option maxHeartbeats 4000000 in
set_option maxRecDepth 100000 in
theorem w_X4_nearestGoal_85 {p : Program} {l : Launch} {e : Env} {s : State} {m : MethodId} {args : Array Value} {below : List Frame} {meth : Method} {c : Code} {G : Gx} {ad : Ad} {res : Int32 × Sg} (C : Cx p s m args meth c yX4_nearestGoal.cls cX4_nearestGoal 5 (Option.some FieldType.int) G)  : ∀ (σ : Sg) (v3 : Int32) (H : Heap) (locs : List Loc) (ls : Array Slot), z_S 0 G ad σ (z_A 0 ad s.heap.size) s.heap H locs → lv_has ls 5 [(3, .int v3)] → f_X4_nearestGoal_85  σ v3 = some res → W p l e { frames := 2, cells := 0, slots := 0, locals := 44 } s m args below meth c H locs 0 0 (MQ below (va_Qi (S := Unit) (fun r1 _ => r1 = res.1) (fun _ t => z_W 0 G ad res.2 t.heap) (z_A 0 ad s.heap.size)) args s 0 0 (z_A 0 ad s.heap.size)) (F0 m 85 ls []) := by
  intro σ v3 H locs ls S hl  hf
  unfold f_X4_nearestGoal_85 at hf
  refine lv_iload_n C.1 C.2.1 dX4_nearestGoal_85 rfl (lv_at hl 0 rfl) ?_
  exact z_iret C S hf dX4_nearestGoal_86
set_option maxHeartbeats 4000000 in
set_option maxRecDepth 100000 in
theorem w_X4_nearestGoal_79 {p : Program} {l : Launch} {e : Env} {s : State} {m : MethodId} {args : Array Value} {below : List Frame} {meth : Method} {c : Code} {G : Gx} {ad : Ad} {res : Int32 × Sg} (C : Cx p s m args meth c yX4_nearestGoal.cls cX4_nearestGoal 5 (Option.some FieldType.int) G) (k10 : Sg → Nat → Nat → Int32 → Int32 → Int32 → Option (Int32 × Sg)) (hk10 : ∀ (σ : Sg) (o0 : Nat) (o1 : Nat) (v2 : Int32) (v3 : Int32) (v4 : Int32) (H : Heap) (locs : List Loc) (ls : Array Slot), z_S 0 G ad σ (z_A 0 ad s.heap.size) s.heap H locs → lv_has ls 5 [(0, .ref (ad 4 o0)), (1, .ref (ad 2 o1)), (2, .int v2), (3, .int v3), (4, .int v4)] → (o0 < z_cnt 4) → (o1 < z_cnt 2) → k10 σ o0 o1 v2 v3 v4 = some res → W p l e { frames := 2, cells := 0, slots := 0, locals := 44 } s m args below meth c H locs 0 0 (MQ below (va_Qi (S := Unit) (fun r1 _ => r1 = res.1) (fun _ t => z_W 0 G ad res.2 t.heap) (z_A 0 ad s.heap.size)) args s 0 0 (z_A 0 ad s.heap.size)) (F0 m 10 ls [])) : ∀ (σ : Sg) (o0 : Nat) (o1 : Nat) (v2 : Int32) (v3 : Int32) (v4 : Int32) (H : Heap) (locs : List Loc) (ls : Array Slot), z_S 0 G ad σ (z_A 0 ad s.heap.size) s.heap H locs → lv_has ls 5 [(0, .ref (ad 4 o0)), (1, .ref (ad 2 o1)), (2, .int v2), (3, .int v3), (4, .int v4)] → (o0 < z_cnt 4) → (o1 < z_cnt 2) → f_X4_nearestGoal_79 k10 σ o0 o1 v2 v3 v4 = some res → W p l e { frames := 2, cells := 0, slots := 0, locals := 44 } s m args below meth c H locs 0 0 (MQ below (va_Qi (S := Unit) (fun r1 _ => r1 = res.1) (fun _ t => z_W 0 G ad res.2 t.heap) (z_A 0 ad s.heap.size)) args s 0 0 (z_A 0 ad s.heap.size)) (F0 m 79 ls []) := by
  intro σ o0 o1 v2 v3 v4 H locs ls S hl ho0 ho1 hf
  unfold f_X4_nearestGoal_79 at hf
  refine lv_iinc (v := (v4 + 1)) (lv' := [(4, .int (v4 + 1)), (0, .ref (ad 4 o0)), (1, .ref (ad 2 o1)), (2, .int v2), (3, .int v3)]) C.1 C.2.1 dX4_nearestGoal_79 hl (k := 4) rfl rfl (by decide) rfl (fun ls hl => ?_)
  refine lv_goto (tgt := 10) C.1 C.2.1 dX4_nearestGoal_82 (by decide) ?_
  exact hk10 _ o0 o1 v2 v3 (v4 + 1) _ _ _ S (lv_sub hl [1, 2, 3, 4, 0] rfl) ho0 ho1 hf
set_option maxHeartbeats 4000000 in
set_option maxRecDepth 100000 in
theorem w_X4_nearestGoal_47 {p : Program} {l : Launch} {e : Env} {s : State} {m : MethodId} {args : Array Value} {below : List Frame} {meth : Method} {c : Code} {G : Gx} {ad : Ad} {res : Int32 × Sg} (C : Cx p s m args meth c yX4_nearestGoal.cls cX4_nearestGoal 5 (Option.some FieldType.int) G) (k10 : Sg → Nat → Nat → Int32 → Int32 → Int32 → Option (Int32 × Sg)) (hk10 : ∀ (σ : Sg) (o0 : Nat) (o1 : Nat) (v2 : Int32) (v3 : Int32) (v4 : Int32) (H : Heap) (locs : List Loc) (ls : Array Slot), z_S 0 G ad σ (z_A 0 ad s.heap.size) s.heap H locs → lv_has ls 5 [(0, .ref (ad 4 o0)), (1, .ref (ad 2 o1)), (2, .int v2), (3, .int v3), (4, .int v4)] → (o0 < z_cnt 4) → (o1 < z_cnt 2) → k10 σ o0 o1 v2 v3 v4 = some res → W p l e { frames := 2, cells := 0, slots := 0, locals := 44 } s m args below meth c H locs 0 0 (MQ below (va_Qi (S := Unit) (fun r1 _ => r1 = res.1) (fun _ t => z_W 0 G ad res.2 t.heap) (z_A 0 ad s.heap.size)) args s 0 0 (z_A 0 ad s.heap.size)) (F0 m 10 ls [])) : ∀ (σ : Sg) (o0 : Nat) (o1 : Nat) (v2 : Int32) (v3 : Int32) (v4 : Int32) (H : Heap) (locs : List Loc) (ls : Array Slot), z_S 0 G ad σ (z_A 0 ad s.heap.size) s.heap H locs → lv_has ls 5 [(0, .ref (ad 4 o0)), (1, .ref (ad 2 o1)), (2, .int v2), (3, .int v3), (4, .int v4)] → (o0 < z_cnt 4) → (o1 < z_cnt 2) → f_X4_nearestGoal_47 k10 σ o0 o1 v2 v3 v4 = some res → W p l e { frames := 2, cells := 0, slots := 0, locals := 44 } s m args below meth c H locs 0 0 (MQ below (va_Qi (S := Unit) (fun r1 _ => r1 = res.1) (fun _ t => z_W 0 G ad res.2 t.heap) (z_A 0 ad s.heap.size)) args s 0 0 (z_A 0 ad s.heap.size)) (F0 m 47 ls []) := by
  intro σ o0 o1 v2 v3 v4 H locs ls S hl ho0 ho1 hf
  unfold f_X4_nearestGoal_47 at hf
  refine lv_iload_n C.1 C.2.1 dX4_nearestGoal_47 rfl (lv_at hl 2 rfl) ?_
  refine lv_if_eq (tgt := 79) C.1 C.2.1 dX4_nearestGoal_48 (by decide) (fun c_48 => ?_) (fun c_48 => ?_)
  · rw [if_pos c_48] at hf
    exact w_X4_nearestGoal_79 C k10 hk10 _ o0 o1 v2 v3 v4 _ _ _ S (lv_sub hl [0, 1, 2, 3, 4] rfl) ho0 ho1 hf
  · rw [if_neg c_48] at hf
    refine lv_aload_n C.1 C.2.1 dX4_nearestGoal_51 rfl (lv_at hl 1 rfl) ?_
    refine lv_iload C.1 C.2.1 dX4_nearestGoal_52 (lv_at hl 4 rfl) ?_
    obtain ⟨r2, σ1, q_54, hf⟩ := bib hf
    refine z_callI C S 2 o1 rfl ho1 cf_2 ⟨_, rfl⟩ [.int v4] (m_X2_isHolding l G ad σ o1 v4 r2 σ1 ho1 q_54 _) kv_X2_isHolding tw_6_106 ⟨Nat.le_of_ble_eq_true rfl, Nat.le_of_ble_eq_true rfl⟩ rfl rfl (Nat.le_of_ble_eq_true rfl) hl.1 ⟨Nat.le_of_ble_eq_true rfl, Nat.le_of_ble_eq_true rfl⟩ dX4_nearestGoal_54 (fun H locs S => ?_)
    refine lv_if_eq (tgt := 79) C.1 C.2.1 dX4_nearestGoal_57 (by decide) (fun c_57 => ?_) (fun c_57 => ?_)
    · rw [if_pos c_57] at hf
      exact w_X4_nearestGoal_79 C k10 hk10 _ o0 o1 v2 v3 v4 _ _ _ S (lv_sub hl [0, 1, 2, 3, 4] rfl) ho0 ho1 hf
    · rw [if_neg c_57] at hf
      refine lv_aload_n C.1 C.2.1 dX4_nearestGoal_60 rfl (lv_at hl 1 rfl) ?_
      refine z_getI C S 2 o1 rfl ho1 cf_2 0 (by decide) (gi_2_0 G ad o1) tw_1_89 dX4_nearestGoal_61 ?_
      refine lv_aload_n C.1 C.2.1 dX4_nearestGoal_64 rfl (lv_at hl 0 rfl) ?_
      refine z_getR C S 4 o0 rfl ho0 cf_4 7 (by decide) _ (gr_4_7 G ad o0) tw_2_4 dX4_nearestGoal_65 ?_
      refine lv_iload C.1 C.2.1 dX4_nearestGoal_68 (lv_at hl 4 rfl) ?_
      obtain ⟨g_70, hf⟩ := gd hf
      refine z_aald C S 26 o0 rfl ho0 24 2 1 (24 * o0) rfl (fun _ => rfl) g_70 dX4_nearestGoal_70 ?_
      refine z_getI C S 1 (24 * o0 + (v4).toNatClampNeg) rfl (oc1 ho0 g_70) cf_1 0 (by decide) (gi_1_0 G ad (24 * o0 + (v4).toNatClampNeg)) tw_1_165 dX4_nearestGoal_71 ?_
      refine lv_iload_n C.1 C.2.1 dX4_nearestGoal_74 rfl (lv_at hl 3 rfl) ?_
      obtain ⟨r4, σ3, q_75, hf⟩ := bib hf
      refine z_callSI C S [.int (σ1 2 o1 0), .int (σ1 1 (24 * o0 + (v4).toNatClampNeg) 0), .int v3] (m_X4_nearer l G ad σ1 (σ1 2 o1 0) (σ1 1 (24 * o0 + (v4).toNatClampNeg) 0) v3 r4 σ3 q_75 _) kv_X4_nearer tw_6_100 ⟨Nat.le_of_ble_eq_true rfl, Nat.le_of_ble_eq_true rfl⟩ rfl rfl (Nat.le_of_ble_eq_true rfl) hl.1 ⟨Nat.le_of_ble_eq_true rfl, Nat.le_of_ble_eq_true rfl⟩ dX4_nearestGoal_75 (fun H locs S => ?_)
      refine lv_istore_n (lv' := [(3, .int r4), (0, .ref (ad 4 o0)), (1, .ref (ad 2 o1)), (2, .int v2), (4, .int v4)]) C.1 C.2.1 dX4_nearestGoal_78 rfl hl (by decide) rfl (fun ls hl => ?_)
      exact w_X4_nearestGoal_79 C k10 hk10 _ o0 o1 v2 r4 v4 _ _ _ S (lv_sub hl [1, 2, 3, 0, 4] rfl) ho0 ho1 hf
set_option maxHeartbeats 4000000 in
set_option maxRecDepth 100000 in
theorem w_X4_nearestGoal_10 {p : Program} {l : Launch} {e : Env} {s : State} {m : MethodId} {args : Array Value} {below : List Frame} {meth : Method} {c : Code} {G : Gx} {ad : Ad} {res : Int32 × Sg} (C : Cx p s m args meth c yX4_nearestGoal.cls cX4_nearestGoal 5 (Option.some FieldType.int) G)  : ∀ n : Nat, ∀ (σ : Sg) (o0 : Nat) (o1 : Nat) (v2 : Int32) (v3 : Int32) (v4 : Int32) (H : Heap) (locs : List Loc) (ls : Array Slot), z_S 0 G ad σ (z_A 0 ad s.heap.size) s.heap H locs → lv_has ls 5 [(0, .ref (ad 4 o0)), (1, .ref (ad 2 o1)), (2, .int v2), (3, .int v3), (4, .int v4)] → (o0 < z_cnt 4) → (o1 < z_cnt 2) → f_X4_nearestGoal_10  n σ o0 o1 v2 v3 v4 = some res → W p l e { frames := 2, cells := 0, slots := 0, locals := 44 } s m args below meth c H locs 0 0 (MQ below (va_Qi (S := Unit) (fun r1 _ => r1 = res.1) (fun _ t => z_W 0 G ad res.2 t.heap) (z_A 0 ad s.heap.size)) args s 0 0 (z_A 0 ad s.heap.size)) (F0 m 10 ls []) := by
  intro n
  induction n with
  | zero => intro σ o0 o1 v2 v3 v4 H locs ls S hl ho0 ho1 hf; cases hf
  | succ n ih =>
    intro σ o0 o1 v2 v3 v4 H locs ls S hl ho0 ho1 hf
    rw [f_X4_nearestGoal_10_s] at hf
    refine lv_iload C.1 C.2.1 dX4_nearestGoal_10 (lv_at hl 4 rfl) ?_
    refine lv_aload_n C.1 C.2.1 dX4_nearestGoal_12 rfl (lv_at hl 0 rfl) ?_
    refine z_getI C S 4 o0 rfl ho0 cf_4 2 (by decide) (gi_4_2 G ad o0) tw_1_227 dX4_nearestGoal_13 ?_
    refine lv_icmp_ge (tgt := 85) C.1 C.2.1 dX4_nearestGoal_16 (by decide) (fun c_16 => ?_) (fun c_16 => ?_)
    · rw [if_pos c_16] at hf
      exact w_X4_nearestGoal_85 C _ v3 _ _ _ S (lv_sub hl [3] rfl) hf
    · rw [if_neg c_16] at hf
      refine lv_aload_n C.1 C.2.1 dX4_nearestGoal_19 rfl (lv_at hl 1 rfl) ?_
      refine lv_iload C.1 C.2.1 dX4_nearestGoal_20 (lv_at hl 4 rfl) ?_
      obtain ⟨r2, σ1, q_22, hf⟩ := bib hf
      refine z_callI C S 2 o1 rfl ho1 cf_2 ⟨_, rfl⟩ [.int v4] (m_X2_isCarrying l G ad σ o1 v4 r2 σ1 ho1 q_22 _) kv_X2_isCarrying tw_6_96 ⟨Nat.le_of_ble_eq_true rfl, Nat.le_of_ble_eq_true rfl⟩ rfl rfl (Nat.le_of_ble_eq_true rfl) hl.1 ⟨Nat.le_of_ble_eq_true rfl, Nat.le_of_ble_eq_true rfl⟩ dX4_nearestGoal_22 (fun H locs S => ?_)
      refine lv_if_eq (tgt := 47) C.1 C.2.1 dX4_nearestGoal_25 (by decide) (fun c_25 => ?_) (fun c_25 => ?_)
      · rw [if_pos c_25] at hf
        exact w_X4_nearestGoal_47 C (f_X4_nearestGoal_10 n) ih _ o0 o1 v2 v3 v4 _ _ _ S (lv_sub hl [0, 1, 2, 3, 4] rfl) ho0 ho1 hf
      · rw [if_neg c_25] at hf
        refine lv_aload_n C.1 C.2.1 dX4_nearestGoal_28 rfl (lv_at hl 1 rfl) ?_
        refine z_getI C S 2 o1 rfl ho1 cf_2 0 (by decide) (gi_2_0 G ad o1) tw_1_89 dX4_nearestGoal_29 ?_
        refine lv_aload_n C.1 C.2.1 dX4_nearestGoal_32 rfl (lv_at hl 0 rfl) ?_
        refine z_getR C S 4 o0 rfl ho0 cf_4 7 (by decide) _ (gr_4_7 G ad o0) tw_2_4 dX4_nearestGoal_33 ?_
        refine lv_iload C.1 C.2.1 dX4_nearestGoal_36 (lv_at hl 4 rfl) ?_
        obtain ⟨g_38, hf⟩ := gd hf
        refine z_aald C S 26 o0 rfl ho0 24 2 1 (24 * o0) rfl (fun _ => rfl) g_38 dX4_nearestGoal_38 ?_
        refine z_getI C S 1 (24 * o0 + (v4).toNatClampNeg) rfl (oc1 ho0 g_38) cf_1 1 (by decide) (gi_1_1 G ad (24 * o0 + (v4).toNatClampNeg)) tw_1_169 dX4_nearestGoal_39 ?_
        refine lv_iload_n C.1 C.2.1 dX4_nearestGoal_42 rfl (lv_at hl 3 rfl) ?_
        obtain ⟨r4, σ3, q_43, hf⟩ := bib hf
        refine z_callSI C S [.int (σ1 2 o1 0), .int (σ1 1 (24 * o0 + (v4).toNatClampNeg) 1), .int v3] (m_X4_nearer l G ad σ1 (σ1 2 o1 0) (σ1 1 (24 * o0 + (v4).toNatClampNeg) 1) v3 r4 σ3 q_43 _) kv_X4_nearer tw_6_100 ⟨Nat.le_of_ble_eq_true rfl, Nat.le_of_ble_eq_true rfl⟩ rfl rfl (Nat.le_of_ble_eq_true rfl) hl.1 ⟨Nat.le_of_ble_eq_true rfl, Nat.le_of_ble_eq_true rfl⟩ dX4_nearestGoal_43 (fun H locs S => ?_)
        refine lv_istore_n (lv' := [(3, .int r4), (0, .ref (ad 4 o0)), (1, .ref (ad 2 o1)), (2, .int v2), (4, .int v4)]) C.1 C.2.1 dX4_nearestGoal_46 rfl hl (by decide) rfl (fun ls hl => ?_)
        exact w_X4_nearestGoal_47 C (f_X4_nearestGoal_10 n) ih _ o0 o1 v2 r4 v4 _ _ _ S (lv_sub hl [1, 2, 3, 0, 4] rfl) ho0 ho1 hf
set_option maxHeartbeats 4000000 in
set_option maxRecDepth 100000 in
theorem w_X4_nearestGoal_0 {p : Program} {l : Launch} {e : Env} {s : State} {m : MethodId} {args : Array Value} {below : List Frame} {meth : Method} {c : Code} {G : Gx} {ad : Ad} {res : Int32 × Sg} (C : Cx p s m args meth c yX4_nearestGoal.cls cX4_nearestGoal 5 (Option.some FieldType.int) G)  : ∀ (σ : Sg) (o0 : Nat) (o1 : Nat) (H : Heap) (locs : List Loc) (ls : Array Slot), z_S 0 G ad σ (z_A 0 ad s.heap.size) s.heap H locs → lv_has ls 5 [(0, .ref (ad 4 o0)), (1, .ref (ad 2 o1))] → (o0 < z_cnt 4) → (o1 < z_cnt 2) → f_X4_nearestGoal  σ o0 o1 = some res → W p l e { frames := 2, cells := 0, slots := 0, locals := 44 } s m args below meth c H locs 0 0 (MQ below (va_Qi (S := Unit) (fun r1 _ => r1 = res.1) (fun _ t => z_W 0 G ad res.2 t.heap) (z_A 0 ad s.heap.size)) args s 0 0 (z_A 0 ad s.heap.size)) (F0 m 0 ls []) := by
  intro σ o0 o1 H locs ls S hl ho0 ho1 hf
  unfold f_X4_nearestGoal at hf
  refine lv_aload_n C.1 C.2.1 dX4_nearestGoal_0 rfl (lv_at hl 1 rfl) ?_
  obtain ⟨r2, σ1, q_1, hf⟩ := bib hf
  refine z_callI C S 2 o1 rfl ho1 cf_2 ⟨_, rfl⟩ [] (m_X2_hasRoom l G ad σ o1 r2 σ1 ho1 q_1 _) kv_X2_hasRoom tw_6_91 ⟨Nat.le_of_ble_eq_true rfl, Nat.le_of_ble_eq_true rfl⟩ rfl rfl (Nat.le_of_ble_eq_true rfl) hl.1 ⟨Nat.le_of_ble_eq_true rfl, Nat.le_of_ble_eq_true rfl⟩ dX4_nearestGoal_1 (fun H locs S => ?_)
  refine lv_istore_n (lv' := [(2, .int r2), (0, .ref (ad 4 o0)), (1, .ref (ad 2 o1))]) C.1 C.2.1 dX4_nearestGoal_4 rfl hl (by decide) rfl (fun ls hl => ?_)
  refine lv_iconst (v := (-1)) C.1 C.2.1 dX4_nearestGoal_5 (by decide) ?_
  refine lv_istore_n (lv' := [(3, .int (-1)), (2, .int r2), (0, .ref (ad 4 o0)), (1, .ref (ad 2 o1))]) C.1 C.2.1 dX4_nearestGoal_6 rfl hl (by decide) rfl (fun ls hl => ?_)
  refine lv_iconst (v := 0) C.1 C.2.1 dX4_nearestGoal_7 (by decide) ?_
  refine lv_istore (lv' := [(4, .int 0), (3, .int (-1)), (2, .int r2), (0, .ref (ad 4 o0)), (1, .ref (ad 2 o1))]) C.1 C.2.1 dX4_nearestGoal_8 hl (by decide) rfl (fun ls hl => ?_)
  exact w_X4_nearestGoal_10 C FU _ o0 o1 r2 (-1) 0 _ _ _ S (lv_sub hl [3, 4, 2, 1, 0] rfl) ho0 ho1 hf
theorem kv_X4_nearestGoal : KV yX4_nearestGoal cX4_nearestGoal 5 (Option.some FieldType.int) 1 := ⟨tw_6_90, tw_6_88, tw_6_89, tw_1_12, by decide, by decide, by decide +kernel⟩
theorem m_X4_nearestGoal (l : Launch) (G : Gx) (ad : Ad) (σ : Sg) (o0 : Nat) (o1 : Nat) (r : Int32) (σ' : Sg) (ho0 : o0 < z_cnt 4) (ho1 : o1 < z_cnt 2) (hf : f_X4_nearestGoal σ o0 o1 = some (r, σ')) (sz : Nat) : z_MI l yX4_nearestGoal cX4_nearestGoal 5 (Option.some FieldType.int) 2 44 0 G ad σ sz [.ref (ad 4 o0), .ref (ad 2 o1)] r σ' := by
  refine z_begin (by decide +kernel) (Nat.le_of_ble_eq_true rfl) [(0, .ref (ad 4 o0)), (1, .ref (ad 2 o1))] rfl (fun p e s m args below meth c ls C hz S hl => ?_)
  subst hz
  exact w_X4_nearestGoal_0 (res := (r, σ')) C σ o0 o1 _ _ _ S hl ho0 ho1 hf

theorem dX4_holders_0 : decode cX4_holders 0 = .ok (.iconst 0, 1) := by decide +kernel
theorem dX4_holders_1 : decode cX4_holders 1 = .ok (.istore_n 2, 1) := by decide +kernel
theorem dX4_holders_2 : decode cX4_holders 2 = .ok (.iconst 0, 1) := by decide +kernel
theorem dX4_holders_3 : decode cX4_holders 3 = .ok (.istore_n 3, 1) := by decide +kernel
theorem dX4_holders_4 : decode cX4_holders 4 = .ok (.iload_n 3, 1) := by decide +kernel
theorem dX4_holders_5 : decode cX4_holders 5 = .ok (.aload_n 0, 1) := by decide +kernel
theorem dX4_holders_6 : decode cX4_holders 6 = .ok (.getfield 49, 3) := by decide +kernel
theorem dX4_holders_9 : decode cX4_holders 9 = .ok (.if_icmp .ge 25, 3) := by decide +kernel
theorem dX4_holders_12 : decode cX4_holders 12 = .ok (.aload_n 0, 1) := by decide +kernel
theorem dX4_holders_13 : decode cX4_holders 13 = .ok (.getfield 17, 3) := by decide +kernel
theorem dX4_holders_16 : decode cX4_holders 16 = .ok (.iload_n 3, 1) := by decide +kernel
theorem dX4_holders_17 : decode cX4_holders 17 = .ok (.aaload, 1) := by decide +kernel
theorem dX4_holders_18 : decode cX4_holders 18 = .ok (.iload_n 1, 1) := by decide +kernel
theorem dX4_holders_19 : decode cX4_holders 19 = .ok (.invokevirtual 141, 3) := by decide +kernel
theorem dX4_holders_22 : decode cX4_holders 22 = .ok (.ifCond .eq 6, 3) := by decide +kernel
theorem dX4_holders_25 : decode cX4_holders 25 = .ok (.iinc 2 1, 3) := by decide +kernel
theorem dX4_holders_28 : decode cX4_holders 28 = .ok (.iinc 3 1, 3) := by decide +kernel
theorem dX4_holders_31 : decode cX4_holders 31 = .ok (.goto (-27), 3) := by decide +kernel
theorem dX4_holders_34 : decode cX4_holders 34 = .ok (.iload_n 2, 1) := by decide +kernel
theorem dX4_holders_35 : decode cX4_holders 35 = .ok (.ireturn, 1) := by decide +kernel
/-! BusLifts$Lifts.holders(I)I -/
noncomputable def f_X4_holders_34  (σ : Sg) (v2 : Int32) : Option (Int32 × Sg) := some (v2, σ)
noncomputable def f_X4_holders_28 (k4 : Sg → Nat → Int32 → Int32 → Int32 → Option (Int32 × Sg)) (σ : Sg) (o0 : Nat) (v1 : Int32) (v2 : Int32) (v3 : Int32) : Option (Int32 × Sg) := k4 σ o0 v1 v2 (v3 + 1)
noncomputable def f_X4_holders_4  : Nat → Sg → Nat → Int32 → Int32 → Int32 → Option (Int32 × Sg)
  | 0, _, _, _, _, _ => none
  | n + 1, σ, o0, v1, v2, v3 => if (σ 4 o0 1) ≤ v3 then (f_X4_holders_34 σ v2) else (if v3 < 0 ∨ 4 ≤ (v3).toNatClampNeg then none else (bi (f_X2_isHolding σ (4 * o0 + (v3).toNatClampNeg) v1) fun r2 σ1 => (if r2 = 0 then (f_X4_holders_28 (f_X4_holders_4 n) σ1 o0 v1 v2 v3) else (f_X4_holders_28 (f_X4_holders_4 n) σ1 o0 v1 (v2 + 1) v3))))
theorem f_X4_holders_4_s  (n : Nat) (σ : Sg) (o0 : Nat) (v1 : Int32) (v2 : Int32) (v3 : Int32) : f_X4_holders_4  (n + 1) σ o0 v1 v2 v3 = (if (σ 4 o0 1) ≤ v3 then (f_X4_holders_34 σ v2) else (if v3 < 0 ∨ 4 ≤ (v3).toNatClampNeg then none else (bi (f_X2_isHolding σ (4 * o0 + (v3).toNatClampNeg) v1) fun r2 σ1 => (if r2 = 0 then (f_X4_holders_28 (f_X4_holders_4 n) σ1 o0 v1 v2 v3) else (f_X4_holders_28 (f_X4_holders_4 n) σ1 o0 v1 (v2 + 1) v3))))) := rfl
noncomputable def f_X4_holders  (σ : Sg) (o0 : Nat) (v1 : Int32) : Option (Int32 × Sg) := f_X4_holders_4 FU σ o0 v1 0 0
set_option maxHeartbeats 4000000 in
set_option maxRecDepth 100000 in
theorem w_X4_holders_34 {p : Program} {l : Launch} {e : Env} {s : State} {m : MethodId} {args : Array Value} {below : List Frame} {meth : Method} {c : Code} {G : Gx} {ad : Ad} {res : Int32 × Sg} (C : Cx p s m args meth c yX4_holders.cls cX4_holders 4 (Option.some FieldType.int) G)  : ∀ (σ : Sg) (v2 : Int32) (H : Heap) (locs : List Loc) (ls : Array Slot), z_S 0 G ad σ (z_A 0 ad s.heap.size) s.heap H locs → lv_has ls 4 [(2, .int v2)] → f_X4_holders_34  σ v2 = some res → W p l e { frames := 1, cells := 0, slots := 0, locals := 21 } s m args below meth c H locs 0 0 (MQ below (va_Qi (S := Unit) (fun r1 _ => r1 = res.1) (fun _ t => z_W 0 G ad res.2 t.heap) (z_A 0 ad s.heap.size)) args s 0 0 (z_A 0 ad s.heap.size)) (F0 m 34 ls []) := by
  intro σ v2 H locs ls S hl  hf
  unfold f_X4_holders_34 at hf
  refine lv_iload_n C.1 C.2.1 dX4_holders_34 rfl (lv_at hl 0 rfl) ?_
  exact z_iret C S hf dX4_holders_35
set_option maxHeartbeats 4000000 in
set_option maxRecDepth 100000 in
theorem w_X4_holders_28 {p : Program} {l : Launch} {e : Env} {s : State} {m : MethodId} {args : Array Value} {below : List Frame} {meth : Method} {c : Code} {G : Gx} {ad : Ad} {res : Int32 × Sg} (C : Cx p s m args meth c yX4_holders.cls cX4_holders 4 (Option.some FieldType.int) G) (k4 : Sg → Nat → Int32 → Int32 → Int32 → Option (Int32 × Sg)) (hk4 : ∀ (σ : Sg) (o0 : Nat) (v1 : Int32) (v2 : Int32) (v3 : Int32) (H : Heap) (locs : List Loc) (ls : Array Slot), z_S 0 G ad σ (z_A 0 ad s.heap.size) s.heap H locs → lv_has ls 4 [(0, .ref (ad 4 o0)), (1, .int v1), (2, .int v2), (3, .int v3)] → (o0 < z_cnt 4) → k4 σ o0 v1 v2 v3 = some res → W p l e { frames := 1, cells := 0, slots := 0, locals := 21 } s m args below meth c H locs 0 0 (MQ below (va_Qi (S := Unit) (fun r1 _ => r1 = res.1) (fun _ t => z_W 0 G ad res.2 t.heap) (z_A 0 ad s.heap.size)) args s 0 0 (z_A 0 ad s.heap.size)) (F0 m 4 ls [])) : ∀ (σ : Sg) (o0 : Nat) (v1 : Int32) (v2 : Int32) (v3 : Int32) (H : Heap) (locs : List Loc) (ls : Array Slot), z_S 0 G ad σ (z_A 0 ad s.heap.size) s.heap H locs → lv_has ls 4 [(0, .ref (ad 4 o0)), (1, .int v1), (2, .int v2), (3, .int v3)] → (o0 < z_cnt 4) → f_X4_holders_28 k4 σ o0 v1 v2 v3 = some res → W p l e { frames := 1, cells := 0, slots := 0, locals := 21 } s m args below meth c H locs 0 0 (MQ below (va_Qi (S := Unit) (fun r1 _ => r1 = res.1) (fun _ t => z_W 0 G ad res.2 t.heap) (z_A 0 ad s.heap.size)) args s 0 0 (z_A 0 ad s.heap.size)) (F0 m 28 ls []) := by
  intro σ o0 v1 v2 v3 H locs ls S hl ho0 hf
  unfold f_X4_holders_28 at hf
  refine lv_iinc (v := (v3 + 1)) (lv' := [(3, .int (v3 + 1)), (0, .ref (ad 4 o0)), (1, .int v1), (2, .int v2)]) C.1 C.2.1 dX4_holders_28 hl (k := 3) rfl rfl (by decide) rfl (fun ls hl => ?_)
  refine lv_goto (tgt := 4) C.1 C.2.1 dX4_holders_31 (by decide) ?_
  exact hk4 _ o0 v1 v2 (v3 + 1) _ _ _ S (lv_sub hl [1, 2, 3, 0] rfl) ho0 hf
set_option maxHeartbeats 4000000 in
set_option maxRecDepth 100000 in
theorem w_X4_holders_4 {p : Program} {l : Launch} {e : Env} {s : State} {m : MethodId} {args : Array Value} {below : List Frame} {meth : Method} {c : Code} {G : Gx} {ad : Ad} {res : Int32 × Sg} (C : Cx p s m args meth c yX4_holders.cls cX4_holders 4 (Option.some FieldType.int) G)  : ∀ n : Nat, ∀ (σ : Sg) (o0 : Nat) (v1 : Int32) (v2 : Int32) (v3 : Int32) (H : Heap) (locs : List Loc) (ls : Array Slot), z_S 0 G ad σ (z_A 0 ad s.heap.size) s.heap H locs → lv_has ls 4 [(0, .ref (ad 4 o0)), (1, .int v1), (2, .int v2), (3, .int v3)] → (o0 < z_cnt 4) → f_X4_holders_4  n σ o0 v1 v2 v3 = some res → W p l e { frames := 1, cells := 0, slots := 0, locals := 21 } s m args below meth c H locs 0 0 (MQ below (va_Qi (S := Unit) (fun r1 _ => r1 = res.1) (fun _ t => z_W 0 G ad res.2 t.heap) (z_A 0 ad s.heap.size)) args s 0 0 (z_A 0 ad s.heap.size)) (F0 m 4 ls []) := by
  intro n
  induction n with
  | zero => intro σ o0 v1 v2 v3 H locs ls S hl ho0 hf; cases hf
  | succ n ih =>
    intro σ o0 v1 v2 v3 H locs ls S hl ho0 hf
    rw [f_X4_holders_4_s] at hf
    refine lv_iload_n C.1 C.2.1 dX4_holders_4 rfl (lv_at hl 3 rfl) ?_
    refine lv_aload_n C.1 C.2.1 dX4_holders_5 rfl (lv_at hl 0 rfl) ?_
    refine z_getI C S 4 o0 rfl ho0 cf_4 1 (by decide) (gi_4_1 G ad o0) tw_1_223 dX4_holders_6 ?_
    refine lv_icmp_ge (tgt := 34) C.1 C.2.1 dX4_holders_9 (by decide) (fun c_9 => ?_) (fun c_9 => ?_)
    · rw [if_pos c_9] at hf
      exact w_X4_holders_34 C _ v2 _ _ _ S (lv_sub hl [2] rfl) hf
    · rw [if_neg c_9] at hf
      refine lv_aload_n C.1 C.2.1 dX4_holders_12 rfl (lv_at hl 0 rfl) ?_
      refine z_getR C S 4 o0 rfl ho0 cf_4 6 (by decide) _ (gr_4_6 G ad o0) tw_2_1 dX4_holders_13 ?_
      refine lv_iload_n C.1 C.2.1 dX4_holders_16 rfl (lv_at hl 3 rfl) ?_
      obtain ⟨g_17, hf⟩ := gd hf
      refine z_aald C S 25 o0 rfl ho0 4 1 2 (4 * o0) rfl (fun _ => rfl) g_17 dX4_holders_17 ?_
      refine lv_iload_n C.1 C.2.1 dX4_holders_18 rfl (lv_at hl 1 rfl) ?_
      obtain ⟨r2, σ1, q_19, hf⟩ := bib hf
      refine z_callI C S 2 (4 * o0 + (v3).toNatClampNeg) rfl (oc2 ho0 g_17) cf_2 ⟨_, rfl⟩ [.int v1] (m_X2_isHolding l G ad σ (4 * o0 + (v3).toNatClampNeg) v1 r2 σ1 (oc2 ho0 g_17) q_19 _) kv_X2_isHolding tw_6_106 ⟨Nat.le_of_ble_eq_true rfl, Nat.le_of_ble_eq_true rfl⟩ rfl rfl (Nat.le_of_ble_eq_true rfl) hl.1 ⟨Nat.le_of_ble_eq_true rfl, Nat.le_of_ble_eq_true rfl⟩ dX4_holders_19 (fun H locs S => ?_)
      refine lv_if_eq (tgt := 28) C.1 C.2.1 dX4_holders_22 (by decide) (fun c_22 => ?_) (fun c_22 => ?_)
      · rw [if_pos c_22] at hf
        exact w_X4_holders_28 C (f_X4_holders_4 n) ih _ o0 v1 v2 v3 _ _ _ S (lv_sub hl [0, 1, 2, 3] rfl) ho0 hf
      · rw [if_neg c_22] at hf
        refine lv_iinc (v := (v2 + 1)) (lv' := [(2, .int (v2 + 1)), (0, .ref (ad 4 o0)), (1, .int v1), (3, .int v3)]) C.1 C.2.1 dX4_holders_25 hl (k := 2) rfl rfl (by decide) rfl (fun ls hl => ?_)
        exact w_X4_holders_28 C (f_X4_holders_4 n) ih _ o0 v1 (v2 + 1) v3 _ _ _ S (lv_sub hl [1, 2, 0, 3] rfl) ho0 hf
set_option maxHeartbeats 4000000 in
set_option maxRecDepth 100000 in
theorem w_X4_holders_0 {p : Program} {l : Launch} {e : Env} {s : State} {m : MethodId} {args : Array Value} {below : List Frame} {meth : Method} {c : Code} {G : Gx} {ad : Ad} {res : Int32 × Sg} (C : Cx p s m args meth c yX4_holders.cls cX4_holders 4 (Option.some FieldType.int) G)  : ∀ (σ : Sg) (o0 : Nat) (v1 : Int32) (H : Heap) (locs : List Loc) (ls : Array Slot), z_S 0 G ad σ (z_A 0 ad s.heap.size) s.heap H locs → lv_has ls 4 [(0, .ref (ad 4 o0)), (1, .int v1)] → (o0 < z_cnt 4) → f_X4_holders  σ o0 v1 = some res → W p l e { frames := 1, cells := 0, slots := 0, locals := 21 } s m args below meth c H locs 0 0 (MQ below (va_Qi (S := Unit) (fun r1 _ => r1 = res.1) (fun _ t => z_W 0 G ad res.2 t.heap) (z_A 0 ad s.heap.size)) args s 0 0 (z_A 0 ad s.heap.size)) (F0 m 0 ls []) := by
  intro σ o0 v1 H locs ls S hl ho0 hf
  unfold f_X4_holders at hf
  refine lv_iconst (v := 0) C.1 C.2.1 dX4_holders_0 (by decide) ?_
  refine lv_istore_n (lv' := [(2, .int 0), (0, .ref (ad 4 o0)), (1, .int v1)]) C.1 C.2.1 dX4_holders_1 rfl hl (by decide) rfl (fun ls hl => ?_)
  refine lv_iconst (v := 0) C.1 C.2.1 dX4_holders_2 (by decide) ?_
  refine lv_istore_n (lv' := [(3, .int 0), (2, .int 0), (0, .ref (ad 4 o0)), (1, .int v1)]) C.1 C.2.1 dX4_holders_3 rfl hl (by decide) rfl (fun ls hl => ?_)
  exact w_X4_holders_4 C FU _ o0 v1 0 0 _ _ _ S (lv_sub hl [2, 3, 1, 0] rfl) ho0 hf
theorem kv_X4_holders : KV yX4_holders cX4_holders 4 (Option.some FieldType.int) 1 := ⟨tw_6_127, tw_6_125, tw_6_126, tw_1_12, by decide, by decide, by decide +kernel⟩
theorem m_X4_holders (l : Launch) (G : Gx) (ad : Ad) (σ : Sg) (o0 : Nat) (v1 : Int32) (r : Int32) (σ' : Sg) (ho0 : o0 < z_cnt 4) (hf : f_X4_holders σ o0 v1 = some (r, σ')) (sz : Nat) : z_MI l yX4_holders cX4_holders 4 (Option.some FieldType.int) 1 21 0 G ad σ sz [.ref (ad 4 o0), .int v1] r σ' := by
  refine z_begin (by decide +kernel) (Nat.le_of_ble_eq_true rfl) [(0, .ref (ad 4 o0)), (1, .int v1)] rfl (fun p e s m args below meth c ls C hz S hl => ?_)
  subst hz
  exact w_X4_holders_0 (res := (r, σ')) C σ o0 v1 _ _ _ S hl ho0 hf

theorem dX4_costFrom_0 : decode cX4_costFrom 0 = .ok (.aload_n 0, 1) := by decide +kernel
theorem dX4_costFrom_1 : decode cX4_costFrom 1 = .ok (.getfield 17, 3) := by decide +kernel
theorem dX4_costFrom_4 : decode cX4_costFrom 4 = .ok (.iload_n 1, 1) := by decide +kernel
theorem dX4_costFrom_5 : decode cX4_costFrom 5 = .ok (.aaload, 1) := by decide +kernel
theorem dX4_costFrom_6 : decode cX4_costFrom 6 = .ok (.astore_n 3, 1) := by decide +kernel
theorem dX4_costFrom_7 : decode cX4_costFrom 7 = .ok (.aload_n 3, 1) := by decide +kernel
theorem dX4_costFrom_8 : decode cX4_costFrom 8 = .ok (.getfield 99, 3) := by decide +kernel
theorem dX4_costFrom_11 : decode cX4_costFrom 11 = .ok (.invokestatic 102, 3) := by decide +kernel
theorem dX4_costFrom_14 : decode cX4_costFrom 14 = .ok (.aload_n 3, 1) := by decide +kernel
theorem dX4_costFrom_15 : decode cX4_costFrom 15 = .ok (.getfield 108, 3) := by decide +kernel
theorem dX4_costFrom_18 : decode cX4_costFrom 18 = .ok (.invokestatic 102, 3) := by decide +kernel
theorem dX4_costFrom_21 : decode cX4_costFrom 21 = .ok (.iadd, 1) := by decide +kernel
theorem dX4_costFrom_22 : decode cX4_costFrom 22 = .ok (.istore 4, 2) := by decide +kernel
theorem dX4_costFrom_24 : decode cX4_costFrom 24 = .ok (.aload_n 3, 1) := by decide +kernel
theorem dX4_costFrom_25 : decode cX4_costFrom 25 = .ok (.getfield 111, 3) := by decide +kernel
theorem dX4_costFrom_28 : decode cX4_costFrom 28 = .ok (.iload_n 2, 1) := by decide +kernel
theorem dX4_costFrom_29 : decode cX4_costFrom 29 = .ok (.isub, 1) := by decide +kernel
theorem dX4_costFrom_30 : decode cX4_costFrom 30 = .ok (.invokestatic 114, 3) := by decide +kernel
theorem dX4_costFrom_33 : decode cX4_costFrom 33 = .ok (.aload_n 0, 1) := by decide +kernel
theorem dX4_costFrom_34 : decode cX4_costFrom 34 = .ok (.getfield 9, 3) := by decide +kernel
theorem dX4_costFrom_37 : decode cX4_costFrom 37 = .ok (.iconst 2, 1) := by decide +kernel
theorem dX4_costFrom_38 : decode cX4_costFrom 38 = .ok (.iaload, 1) := by decide +kernel
theorem dX4_costFrom_39 : decode cX4_costFrom 39 = .ok (.iload 4, 2) := by decide +kernel
theorem dX4_costFrom_41 : decode cX4_costFrom 41 = .ok (.imul, 1) := by decide +kernel
theorem dX4_costFrom_42 : decode cX4_costFrom 42 = .ok (.iadd, 1) := by decide +kernel
theorem dX4_costFrom_43 : decode cX4_costFrom 43 = .ok (.ireturn, 1) := by decide +kernel
/-! BusLifts$Lifts.costFrom(II)I -/
noncomputable def f_X4_costFrom  (σ : Sg) (o0 : Nat) (v1 : Int32) (v2 : Int32) : Option (Int32 × Sg) := if v1 < 0 ∨ 4 ≤ (v1).toNatClampNeg then none else (bi (f_J6_bitCount_0f7a4 σ (σ 2 (4 * o0 + (v1).toNatClampNeg) 8)) fun r2 σ1 => (bi (f_J6_bitCount_0f7a4 σ1 (σ1 2 (4 * o0 + (v1).toNatClampNeg) 9)) fun r4 σ3 => (some (((jabs ((σ3 2 (4 * o0 + (v1).toNatClampNeg) 0) - v2)) + ((σ3 12 o0 2) * (r2 + r4))), σ3))))
set_option maxHeartbeats 4000000 in
set_option maxRecDepth 100000 in
theorem w_X4_costFrom_0 {p : Program} {l : Launch} {e : Env} {s : State} {m : MethodId} {args : Array Value} {below : List Frame} {meth : Method} {c : Code} {G : Gx} {ad : Ad} {res : Int32 × Sg} (C : Cx p s m args meth c yX4_costFrom.cls cX4_costFrom 5 (Option.some FieldType.int) G)  : ∀ (σ : Sg) (o0 : Nat) (v1 : Int32) (v2 : Int32) (H : Heap) (locs : List Loc) (ls : Array Slot), z_S 0 G ad σ (z_A 0 ad s.heap.size) s.heap H locs → lv_has ls 5 [(0, .ref (ad 4 o0)), (1, .int v1), (2, .int v2)] → (o0 < z_cnt 4) → f_X4_costFrom  σ o0 v1 v2 = some res → W p l e { frames := 1, cells := 0, slots := 0, locals := 21 } s m args below meth c H locs 0 0 (MQ below (va_Qi (S := Unit) (fun r1 _ => r1 = res.1) (fun _ t => z_W 0 G ad res.2 t.heap) (z_A 0 ad s.heap.size)) args s 0 0 (z_A 0 ad s.heap.size)) (F0 m 0 ls []) := by
  intro σ o0 v1 v2 H locs ls S hl ho0 hf
  unfold f_X4_costFrom at hf
  refine lv_aload_n C.1 C.2.1 dX4_costFrom_0 rfl (lv_at hl 0 rfl) ?_
  refine z_getR C S 4 o0 rfl ho0 cf_4 6 (by decide) _ (gr_4_6 G ad o0) tw_2_1 dX4_costFrom_1 ?_
  refine lv_iload_n C.1 C.2.1 dX4_costFrom_4 rfl (lv_at hl 1 rfl) ?_
  obtain ⟨g_5, hf⟩ := gd hf
  refine z_aald C S 25 o0 rfl ho0 4 1 2 (4 * o0) rfl (fun _ => rfl) g_5 dX4_costFrom_5 ?_
  refine lv_astore_n (lv' := [(3, .ref (ad 2 (4 * o0 + (v1).toNatClampNeg))), (0, .ref (ad 4 o0)), (1, .int v1), (2, .int v2)]) C.1 C.2.1 dX4_costFrom_6 rfl hl (by decide) rfl (fun ls hl => ?_)
  refine lv_aload_n C.1 C.2.1 dX4_costFrom_7 rfl (lv_at hl 0 rfl) ?_
  refine z_getI C S 2 (4 * o0 + (v1).toNatClampNeg) rfl (oc2 ho0 g_5) cf_2 8 (by decide) (gi_2_8 G ad (4 * o0 + (v1).toNatClampNeg)) tw_1_113 dX4_costFrom_8 ?_
  obtain ⟨r2, σ1, q_11, hf⟩ := bib hf
  refine z_callSI C S [.int (σ 2 (4 * o0 + (v1).toNatClampNeg) 8)] (m_J6_bitCount_0f7a4 l G ad σ (σ 2 (4 * o0 + (v1).toNatClampNeg) 8) r2 σ1 q_11 _) kv_J6_bitCount_0f7a4 tw_6_145 ⟨Nat.le_of_ble_eq_true rfl, Nat.le_of_ble_eq_true rfl⟩ rfl rfl (Nat.le_of_ble_eq_true rfl) hl.1 ⟨Nat.le_of_ble_eq_true rfl, Nat.le_of_ble_eq_true rfl⟩ dX4_costFrom_11 (fun H locs S => ?_)
  refine lv_aload_n C.1 C.2.1 dX4_costFrom_14 rfl (lv_at hl 0 rfl) ?_
  refine z_getI C S 2 (4 * o0 + (v1).toNatClampNeg) rfl (oc2 ho0 g_5) cf_2 9 (by decide) (gi_2_9 G ad (4 * o0 + (v1).toNatClampNeg)) tw_1_117 dX4_costFrom_15 ?_
  obtain ⟨r4, σ3, q_18, hf⟩ := bib hf
  refine z_callSI C S [.int (σ1 2 (4 * o0 + (v1).toNatClampNeg) 9)] (m_J6_bitCount_0f7a4 l G ad σ1 (σ1 2 (4 * o0 + (v1).toNatClampNeg) 9) r4 σ3 q_18 _) kv_J6_bitCount_0f7a4 tw_6_145 ⟨Nat.le_of_ble_eq_true rfl, Nat.le_of_ble_eq_true rfl⟩ rfl rfl (Nat.le_of_ble_eq_true rfl) hl.1 ⟨Nat.le_of_ble_eq_true rfl, Nat.le_of_ble_eq_true rfl⟩ dX4_costFrom_18 (fun H locs S => ?_)
  refine lv_iadd C.1 C.2.1 dX4_costFrom_21 ?_
  refine lv_istore (lv' := [(4, .int (r2 + r4)), (3, .ref (ad 2 (4 * o0 + (v1).toNatClampNeg))), (0, .ref (ad 4 o0)), (1, .int v1), (2, .int v2)]) C.1 C.2.1 dX4_costFrom_22 hl (by decide) rfl (fun ls hl => ?_)
  refine lv_aload_n C.1 C.2.1 dX4_costFrom_24 rfl (lv_at hl 1 rfl) ?_
  refine z_getI C S 2 (4 * o0 + (v1).toNatClampNeg) rfl (oc2 ho0 g_5) cf_2 0 (by decide) (gi_2_0 G ad (4 * o0 + (v1).toNatClampNeg)) tw_1_89 dX4_costFrom_25 ?_
  refine lv_iload_n C.1 C.2.1 dX4_costFrom_28 rfl (lv_at hl 4 rfl) ?_
  refine lv_isub C.1 C.2.1 dX4_costFrom_29 ?_
  refine z_abs C hl.1 tw_6_103 (Nat.le_of_ble_eq_true rfl) (Nat.le_of_ble_eq_true rfl) ⟨Nat.le_of_ble_eq_true rfl, Nat.le_of_ble_eq_true rfl⟩ dX4_costFrom_30 ?_
  refine lv_aload_n C.1 C.2.1 dX4_costFrom_33 rfl (lv_at hl 2 rfl) ?_
  refine z_getR C S 4 o0 rfl ho0 cf_4 5 (by decide) _ (gr_4_5 G ad o0) tw_1_237 dX4_costFrom_34 ?_
  refine lv_iconst (v := 2) C.1 C.2.1 dX4_costFrom_37 (by decide) ?_
  refine z_ialdL C S 12 o0 rfl ho0 5 (fun _ => rfl) 2 (by decide) (by decide) (by decide) dX4_costFrom_38 ?_
  refine lv_iload C.1 C.2.1 dX4_costFrom_39 (lv_at hl 0 rfl) ?_
  refine lv_imul C.1 C.2.1 dX4_costFrom_41 ?_
  refine lv_iadd C.1 C.2.1 dX4_costFrom_42 ?_
  exact z_iret C S hf dX4_costFrom_43
theorem kv_X4_costFrom : KV yX4_costFrom cX4_costFrom 5 (Option.some FieldType.int) 2 := ⟨tw_6_144, tw_6_142, tw_6_143, tw_1_12, by decide, by decide, by decide +kernel⟩
theorem m_X4_costFrom (l : Launch) (G : Gx) (ad : Ad) (σ : Sg) (o0 : Nat) (v1 : Int32) (v2 : Int32) (r : Int32) (σ' : Sg) (ho0 : o0 < z_cnt 4) (hf : f_X4_costFrom σ o0 v1 v2 = some (r, σ')) (sz : Nat) : z_MI l yX4_costFrom cX4_costFrom 5 (Option.some FieldType.int) 1 21 0 G ad σ sz [.ref (ad 4 o0), .int v1, .int v2] r σ' := by
  refine z_begin (by decide +kernel) (Nat.le_of_ble_eq_true rfl) [(0, .ref (ad 4 o0)), (1, .int v1), (2, .int v2)] rfl (fun p e s m args below meth c ls C hz S hl => ?_)
  subst hz
  exact w_X4_costFrom_0 (res := (r, σ')) C σ o0 v1 v2 _ _ _ S hl ho0 hf

theorem dX2_knownOwnCost_0 : decode cX2_knownOwnCost 0 = .ok (.aload_n 0, 1) := by decide +kernel
theorem dX2_knownOwnCost_1 : decode cX2_knownOwnCost 1 = .ok (.iload_n 1, 1) := by decide +kernel
theorem dX2_knownOwnCost_2 : decode cX2_knownOwnCost 2 = .ok (.invokevirtual 72, 3) := by decide +kernel
theorem dX2_knownOwnCost_5 : decode cX2_knownOwnCost 5 = .ok (.ifCond .ne 12, 3) := by decide +kernel
theorem dX2_knownOwnCost_8 : decode cX2_knownOwnCost 8 = .ok (.aload_n 0, 1) := by decide +kernel
theorem dX2_knownOwnCost_9 : decode cX2_knownOwnCost 9 = .ok (.getfield 15, 3) := by decide +kernel
theorem dX2_knownOwnCost_12 : decode cX2_knownOwnCost 12 = .ok (.iload_n 1, 1) := by decide +kernel
theorem dX2_knownOwnCost_13 : decode cX2_knownOwnCost 13 = .ok (.iaload, 1) := by decide +kernel
theorem dX2_knownOwnCost_14 : decode cX2_knownOwnCost 14 = .ok (.ifCond .lt 12, 3) := by decide +kernel
theorem dX2_knownOwnCost_17 : decode cX2_knownOwnCost 17 = .ok (.aload_n 0, 1) := by decide +kernel
theorem dX2_knownOwnCost_18 : decode cX2_knownOwnCost 18 = .ok (.getfield 9, 3) := by decide +kernel
theorem dX2_knownOwnCost_21 : decode cX2_knownOwnCost 21 = .ok (.iload_n 1, 1) := by decide +kernel
theorem dX2_knownOwnCost_22 : decode cX2_knownOwnCost 22 = .ok (.iaload, 1) := by decide +kernel
theorem dX2_knownOwnCost_23 : decode cX2_knownOwnCost 23 = .ok (.goto 4, 3) := by decide +kernel
theorem dX2_knownOwnCost_26 : decode cX2_knownOwnCost 26 = .ok (.iconst (-1), 1) := by decide +kernel
theorem dX2_knownOwnCost_27 : decode cX2_knownOwnCost 27 = .ok (.ireturn, 1) := by decide +kernel
/-! BusLifts$Car.knownOwnCost(I)I -/
noncomputable def f_X2_knownOwnCost_27  (σ : Sg) (v100 : Int32) : Option (Int32 × Sg) := some (v100, σ)
noncomputable def f_X2_knownOwnCost_17  (σ : Sg) (o0 : Nat) (v1 : Int32) : Option (Int32 × Sg) := if v1 < 0 ∨ 24 ≤ (v1).toNatClampNeg then none else (f_X2_knownOwnCost_27 σ (σ 16 o0 (v1).toNatClampNeg))
noncomputable def f_X2_knownOwnCost  (σ : Sg) (o0 : Nat) (v1 : Int32) : Option (Int32 × Sg) := bi (f_X2_isHolding σ o0 v1) fun r2 σ1 => (if r2 = 0 then (if v1 < 0 ∨ 24 ≤ (v1).toNatClampNeg then none else (if (σ1 17 o0 (v1).toNatClampNeg) < 0 then (f_X2_knownOwnCost_27 σ1 (-1)) else (f_X2_knownOwnCost_17 σ1 o0 v1))) else (f_X2_knownOwnCost_17 σ1 o0 v1))
set_option maxHeartbeats 4000000 in
set_option maxRecDepth 100000 in
theorem w_X2_knownOwnCost_27 {p : Program} {l : Launch} {e : Env} {s : State} {m : MethodId} {args : Array Value} {below : List Frame} {meth : Method} {c : Code} {G : Gx} {ad : Ad} {res : Int32 × Sg} (C : Cx p s m args meth c yX2_knownOwnCost.cls cX2_knownOwnCost 2 (Option.some FieldType.int) G)  : ∀ (σ : Sg) (v100 : Int32) (H : Heap) (locs : List Loc) (ls : Array Slot), z_S 0 G ad σ (z_A 0 ad s.heap.size) s.heap H locs → lv_has ls 2 [] → f_X2_knownOwnCost_27  σ v100 = some res → W p l e { frames := 1, cells := 0, slots := 0, locals := 21 } s m args below meth c H locs 0 0 (MQ below (va_Qi (S := Unit) (fun r1 _ => r1 = res.1) (fun _ t => z_W 0 G ad res.2 t.heap) (z_A 0 ad s.heap.size)) args s 0 0 (z_A 0 ad s.heap.size)) (F0 m 27 ls [.int v100]) := by
  intro σ v100 H locs ls S hl  hf
  unfold f_X2_knownOwnCost_27 at hf
  exact z_iret C S hf dX2_knownOwnCost_27
set_option maxHeartbeats 4000000 in
set_option maxRecDepth 100000 in
theorem w_X2_knownOwnCost_17 {p : Program} {l : Launch} {e : Env} {s : State} {m : MethodId} {args : Array Value} {below : List Frame} {meth : Method} {c : Code} {G : Gx} {ad : Ad} {res : Int32 × Sg} (C : Cx p s m args meth c yX2_knownOwnCost.cls cX2_knownOwnCost 2 (Option.some FieldType.int) G)  : ∀ (σ : Sg) (o0 : Nat) (v1 : Int32) (H : Heap) (locs : List Loc) (ls : Array Slot), z_S 0 G ad σ (z_A 0 ad s.heap.size) s.heap H locs → lv_has ls 2 [(0, .ref (ad 2 o0)), (1, .int v1)] → (o0 < z_cnt 2) → f_X2_knownOwnCost_17  σ o0 v1 = some res → W p l e { frames := 1, cells := 0, slots := 0, locals := 21 } s m args below meth c H locs 0 0 (MQ below (va_Qi (S := Unit) (fun r1 _ => r1 = res.1) (fun _ t => z_W 0 G ad res.2 t.heap) (z_A 0 ad s.heap.size)) args s 0 0 (z_A 0 ad s.heap.size)) (F0 m 17 ls []) := by
  intro σ o0 v1 H locs ls S hl ho0 hf
  unfold f_X2_knownOwnCost_17 at hf
  refine lv_aload_n C.1 C.2.1 dX2_knownOwnCost_17 rfl (lv_at hl 0 rfl) ?_
  refine z_getR C S 2 o0 rfl ho0 cf_2 10 (by decide) _ (gr_2_10 G ad o0) tw_1_120 dX2_knownOwnCost_18 ?_
  refine lv_iload_n C.1 C.2.1 dX2_knownOwnCost_21 rfl (lv_at hl 1 rfl) ?_
  obtain ⟨g_22, hf⟩ := gd hf
  refine z_iald C S 16 o0 rfl ho0 24 (fun _ => rfl) g_22 dX2_knownOwnCost_22 ?_
  refine lv_goto (tgt := 27) C.1 C.2.1 dX2_knownOwnCost_23 (by decide) ?_
  exact w_X2_knownOwnCost_27 C _ (σ 16 o0 (v1).toNatClampNeg) _ _ _ S (lv_sub hl [] rfl) hf
set_option maxHeartbeats 4000000 in
set_option maxRecDepth 100000 in
theorem w_X2_knownOwnCost_0 {p : Program} {l : Launch} {e : Env} {s : State} {m : MethodId} {args : Array Value} {below : List Frame} {meth : Method} {c : Code} {G : Gx} {ad : Ad} {res : Int32 × Sg} (C : Cx p s m args meth c yX2_knownOwnCost.cls cX2_knownOwnCost 2 (Option.some FieldType.int) G)  : ∀ (σ : Sg) (o0 : Nat) (v1 : Int32) (H : Heap) (locs : List Loc) (ls : Array Slot), z_S 0 G ad σ (z_A 0 ad s.heap.size) s.heap H locs → lv_has ls 2 [(0, .ref (ad 2 o0)), (1, .int v1)] → (o0 < z_cnt 2) → f_X2_knownOwnCost  σ o0 v1 = some res → W p l e { frames := 1, cells := 0, slots := 0, locals := 21 } s m args below meth c H locs 0 0 (MQ below (va_Qi (S := Unit) (fun r1 _ => r1 = res.1) (fun _ t => z_W 0 G ad res.2 t.heap) (z_A 0 ad s.heap.size)) args s 0 0 (z_A 0 ad s.heap.size)) (F0 m 0 ls []) := by
  intro σ o0 v1 H locs ls S hl ho0 hf
  unfold f_X2_knownOwnCost at hf
  refine lv_aload_n C.1 C.2.1 dX2_knownOwnCost_0 rfl (lv_at hl 0 rfl) ?_
  refine lv_iload_n C.1 C.2.1 dX2_knownOwnCost_1 rfl (lv_at hl 1 rfl) ?_
  obtain ⟨r2, σ1, q_2, hf⟩ := bib hf
  refine z_callI C S 2 o0 rfl ho0 cf_2 ⟨_, rfl⟩ [.int v1] (m_X2_isHolding l G ad σ o0 v1 r2 σ1 ho0 q_2 _) kv_X2_isHolding tw_6_158 ⟨Nat.le_of_ble_eq_true rfl, Nat.le_of_ble_eq_true rfl⟩ rfl rfl (Nat.le_of_ble_eq_true rfl) hl.1 ⟨Nat.le_of_ble_eq_true rfl, Nat.le_of_ble_eq_true rfl⟩ dX2_knownOwnCost_2 (fun H locs S => ?_)
  refine lv_if_ne (tgt := 17) C.1 C.2.1 dX2_knownOwnCost_5 (by decide) (fun c_5 => ?_) (fun c_5 => ?_)
  · rw [if_neg c_5] at hf
    exact w_X2_knownOwnCost_17 C _ o0 v1 _ _ _ S (lv_sub hl [0, 1] rfl) ho0 hf
  · rw [if_pos c_5] at hf
    refine lv_aload_n C.1 C.2.1 dX2_knownOwnCost_8 rfl (lv_at hl 0 rfl) ?_
    refine z_getR C S 2 o0 rfl ho0 cf_2 11 (by decide) _ (gr_2_11 G ad o0) tw_1_122 dX2_knownOwnCost_9 ?_
    refine lv_iload_n C.1 C.2.1 dX2_knownOwnCost_12 rfl (lv_at hl 1 rfl) ?_
    obtain ⟨g_13, hf⟩ := gd hf
    refine z_iald C S 17 o0 rfl ho0 24 (fun _ => rfl) g_13 dX2_knownOwnCost_13 ?_
    refine lv_if_lt (tgt := 26) C.1 C.2.1 dX2_knownOwnCost_14 (by decide) (fun c_14 => ?_) (fun c_14 => ?_)
    · rw [if_pos c_14] at hf
      refine lv_iconst (v := (-1)) C.1 C.2.1 dX2_knownOwnCost_26 (by decide) ?_
      exact w_X2_knownOwnCost_27 C _ (-1) _ _ _ S (lv_sub hl [] rfl) hf
    · rw [if_neg c_14] at hf
      exact w_X2_knownOwnCost_17 C _ o0 v1 _ _ _ S (lv_sub hl [0, 1] rfl) ho0 hf
theorem kv_X2_knownOwnCost : KV yX2_knownOwnCost cX2_knownOwnCost 2 (Option.some FieldType.int) 1 := ⟨tw_6_157, tw_6_155, tw_6_156, tw_1_14, by decide, by decide, by decide +kernel⟩
theorem m_X2_knownOwnCost (l : Launch) (G : Gx) (ad : Ad) (σ : Sg) (o0 : Nat) (v1 : Int32) (r : Int32) (σ' : Sg) (ho0 : o0 < z_cnt 2) (hf : f_X2_knownOwnCost σ o0 v1 = some (r, σ')) (sz : Nat) : z_MI l yX2_knownOwnCost cX2_knownOwnCost 2 (Option.some FieldType.int) 1 21 0 G ad σ sz [.ref (ad 2 o0), .int v1] r σ' := by
  refine z_begin (by decide +kernel) (Nat.le_of_ble_eq_true rfl) [(0, .ref (ad 2 o0)), (1, .int v1)] rfl (fun p e s m args below meth c ls C hz S hl => ?_)
  subst hz
  exact w_X2_knownOwnCost_0 (res := (r, σ')) C σ o0 v1 _ _ _ S hl ho0 hf

theorem dX2_notedBid_0 : decode cX2_notedBid 0 = .ok (.aload_n 0, 1) := by decide +kernel
theorem dX2_notedBid_1 : decode cX2_notedBid 1 = .ok (.getfield 18, 3) := by decide +kernel
theorem dX2_notedBid_4 : decode cX2_notedBid 4 = .ok (.iload_n 1, 1) := by decide +kernel
theorem dX2_notedBid_5 : decode cX2_notedBid 5 = .ok (.iconst 4, 1) := by decide +kernel
theorem dX2_notedBid_6 : decode cX2_notedBid 6 = .ok (.imul, 1) := by decide +kernel
theorem dX2_notedBid_7 : decode cX2_notedBid 7 = .ok (.iload_n 2, 1) := by decide +kernel
theorem dX2_notedBid_8 : decode cX2_notedBid 8 = .ok (.iadd, 1) := by decide +kernel
theorem dX2_notedBid_9 : decode cX2_notedBid 9 = .ok (.iaload, 1) := by decide +kernel
theorem dX2_notedBid_10 : decode cX2_notedBid 10 = .ok (.ireturn, 1) := by decide +kernel
/-! BusLifts$Car.notedBid(II)I -/
noncomputable def f_X2_notedBid  (σ : Sg) (o0 : Nat) (v1 : Int32) (v2 : Int32) : Option (Int32 × Sg) := if ((v1 * 4) + v2) < 0 ∨ 96 ≤ (((v1 * 4) + v2)).toNatClampNeg then none else (some ((σ 18 o0 (((v1 * 4) + v2)).toNatClampNeg), σ))
set_option maxHeartbeats 4000000 in
set_option maxRecDepth 100000 in
theorem w_X2_notedBid_0 {p : Program} {l : Launch} {e : Env} {s : State} {m : MethodId} {args : Array Value} {below : List Frame} {meth : Method} {c : Code} {G : Gx} {ad : Ad} {res : Int32 × Sg} (C : Cx p s m args meth c yX2_notedBid.cls cX2_notedBid 3 (Option.some FieldType.int) G)  : ∀ (σ : Sg) (o0 : Nat) (v1 : Int32) (v2 : Int32) (H : Heap) (locs : List Loc) (ls : Array Slot), z_S 0 G ad σ (z_A 0 ad s.heap.size) s.heap H locs → lv_has ls 3 [(0, .ref (ad 2 o0)), (1, .int v1), (2, .int v2)] → (o0 < z_cnt 2) → f_X2_notedBid  σ o0 v1 v2 = some res → W p l e { frames := 0, cells := 0, slots := 0, locals := 0 } s m args below meth c H locs 0 0 (MQ below (va_Qi (S := Unit) (fun r1 _ => r1 = res.1) (fun _ t => z_W 0 G ad res.2 t.heap) (z_A 0 ad s.heap.size)) args s 0 0 (z_A 0 ad s.heap.size)) (F0 m 0 ls []) := by
  intro σ o0 v1 v2 H locs ls S hl ho0 hf
  unfold f_X2_notedBid at hf
  refine lv_aload_n C.1 C.2.1 dX2_notedBid_0 rfl (lv_at hl 0 rfl) ?_
  refine z_getR C S 2 o0 rfl ho0 cf_2 12 (by decide) _ (gr_2_12 G ad o0) tw_1_125 dX2_notedBid_1 ?_
  refine lv_iload_n C.1 C.2.1 dX2_notedBid_4 rfl (lv_at hl 1 rfl) ?_
  refine lv_iconst (v := 4) C.1 C.2.1 dX2_notedBid_5 (by decide) ?_
  refine lv_imul C.1 C.2.1 dX2_notedBid_6 ?_
  refine lv_iload_n C.1 C.2.1 dX2_notedBid_7 rfl (lv_at hl 2 rfl) ?_
  refine lv_iadd C.1 C.2.1 dX2_notedBid_8 ?_
  obtain ⟨g_9, hf⟩ := gd hf
  refine z_iald C S 18 o0 rfl ho0 96 (fun _ => rfl) g_9 dX2_notedBid_9 ?_
  exact z_iret C S hf dX2_notedBid_10
theorem kv_X2_notedBid : KV yX2_notedBid cX2_notedBid 3 (Option.some FieldType.int) 2 := ⟨tw_6_166, tw_6_164, tw_6_165, tw_1_14, by decide, by decide, by decide +kernel⟩
theorem m_X2_notedBid (l : Launch) (G : Gx) (ad : Ad) (σ : Sg) (o0 : Nat) (v1 : Int32) (v2 : Int32) (r : Int32) (σ' : Sg) (ho0 : o0 < z_cnt 2) (hf : f_X2_notedBid σ o0 v1 v2 = some (r, σ')) (sz : Nat) : z_MI l yX2_notedBid cX2_notedBid 3 (Option.some FieldType.int) 0 0 0 G ad σ sz [.ref (ad 2 o0), .int v1, .int v2] r σ' := by
  refine z_begin (by decide +kernel) (Nat.le_of_ble_eq_true rfl) [(0, .ref (ad 2 o0)), (1, .int v1), (2, .int v2)] rfl (fun p e s m args below meth c ls C hz S hl => ?_)
  subst hz
  exact w_X2_notedBid_0 (res := (r, σ')) C σ o0 v1 v2 _ _ _ S hl ho0 hf

theorem dX2_lost_0 : decode cX2_lost 0 = .ok (.aload_n 0, 1) := by decide +kernel
theorem dX2_lost_1 : decode cX2_lost 1 = .ok (.getfield 21, 3) := by decide +kernel
theorem dX2_lost_4 : decode cX2_lost 4 = .ok (.iload_n 2, 1) := by decide +kernel
theorem dX2_lost_5 : decode cX2_lost 5 = .ok (.iaload, 1) := by decide +kernel
theorem dX2_lost_6 : decode cX2_lost 6 = .ok (.iload_n 1, 1) := by decide +kernel
theorem dX2_lost_7 : decode cX2_lost 7 = .ok (.iushr, 1) := by decide +kernel
theorem dX2_lost_8 : decode cX2_lost 8 = .ok (.iconst 1, 1) := by decide +kernel
theorem dX2_lost_9 : decode cX2_lost 9 = .ok (.iand, 1) := by decide +kernel
theorem dX2_lost_10 : decode cX2_lost 10 = .ok (.ifCond .eq 7, 3) := by decide +kernel
theorem dX2_lost_13 : decode cX2_lost 13 = .ok (.iconst 1, 1) := by decide +kernel
theorem dX2_lost_14 : decode cX2_lost 14 = .ok (.goto 4, 3) := by decide +kernel
theorem dX2_lost_17 : decode cX2_lost 17 = .ok (.iconst 0, 1) := by decide +kernel
theorem dX2_lost_18 : decode cX2_lost 18 = .ok (.ireturn, 1) := by decide +kernel
/-! BusLifts$Car.lost(II)Z -/
noncomputable def f_X2_lost_18  (σ : Sg) (v100 : Int32) : Option (Int32 × Sg) := if ¬ (v100 = 0 ∨ v100 = 1) then none else (some (v100, σ))
noncomputable def f_X2_lost  (σ : Sg) (o0 : Nat) (v1 : Int32) (v2 : Int32) : Option (Int32 × Sg) := if v2 < 0 ∨ 4 ≤ (v2).toNatClampNeg then none else (if ((jush (σ 19 o0 (v2).toNatClampNeg) v1) &&& 1) = 0 then (f_X2_lost_18 σ 0) else (f_X2_lost_18 σ 1))
set_option maxHeartbeats 4000000 in
set_option maxRecDepth 100000 in
theorem w_X2_lost_18 {p : Program} {l : Launch} {e : Env} {s : State} {m : MethodId} {args : Array Value} {below : List Frame} {meth : Method} {c : Code} {G : Gx} {ad : Ad} {res : Int32 × Sg} (C : Cx p s m args meth c yX2_lost.cls cX2_lost 3 (Option.some FieldType.boolean) G)  : ∀ (σ : Sg) (v100 : Int32) (H : Heap) (locs : List Loc) (ls : Array Slot), z_S 0 G ad σ (z_A 0 ad s.heap.size) s.heap H locs → lv_has ls 3 [] → f_X2_lost_18  σ v100 = some res → W p l e { frames := 0, cells := 0, slots := 0, locals := 0 } s m args below meth c H locs 0 0 (MQ below (va_Qi (S := Unit) (fun r1 _ => r1 = res.1) (fun _ t => z_W 0 G ad res.2 t.heap) (z_A 0 ad s.heap.size)) args s 0 0 (z_A 0 ad s.heap.size)) (F0 m 18 ls [.int v100]) := by
  intro σ v100 H locs ls S hl  hf
  unfold f_X2_lost_18 at hf
  obtain ⟨g_18, hf⟩ := gd hf
  exact z_zret C S (nbz g_18).1 hf dX2_lost_18
set_option maxHeartbeats 4000000 in
set_option maxRecDepth 100000 in
theorem w_X2_lost_0 {p : Program} {l : Launch} {e : Env} {s : State} {m : MethodId} {args : Array Value} {below : List Frame} {meth : Method} {c : Code} {G : Gx} {ad : Ad} {res : Int32 × Sg} (C : Cx p s m args meth c yX2_lost.cls cX2_lost 3 (Option.some FieldType.boolean) G)  : ∀ (σ : Sg) (o0 : Nat) (v1 : Int32) (v2 : Int32) (H : Heap) (locs : List Loc) (ls : Array Slot), z_S 0 G ad σ (z_A 0 ad s.heap.size) s.heap H locs → lv_has ls 3 [(0, .ref (ad 2 o0)), (1, .int v1), (2, .int v2)] → (o0 < z_cnt 2) → f_X2_lost  σ o0 v1 v2 = some res → W p l e { frames := 0, cells := 0, slots := 0, locals := 0 } s m args below meth c H locs 0 0 (MQ below (va_Qi (S := Unit) (fun r1 _ => r1 = res.1) (fun _ t => z_W 0 G ad res.2 t.heap) (z_A 0 ad s.heap.size)) args s 0 0 (z_A 0 ad s.heap.size)) (F0 m 0 ls []) := by
  intro σ o0 v1 v2 H locs ls S hl ho0 hf
  unfold f_X2_lost at hf
  refine lv_aload_n C.1 C.2.1 dX2_lost_0 rfl (lv_at hl 0 rfl) ?_
  refine z_getR C S 2 o0 rfl ho0 cf_2 13 (by decide) _ (gr_2_13 G ad o0) tw_1_126 dX2_lost_1 ?_
  refine lv_iload_n C.1 C.2.1 dX2_lost_4 rfl (lv_at hl 2 rfl) ?_
  obtain ⟨g_5, hf⟩ := gd hf
  refine z_iald C S 19 o0 rfl ho0 4 (fun _ => rfl) g_5 dX2_lost_5 ?_
  refine lv_iload_n C.1 C.2.1 dX2_lost_6 rfl (lv_at hl 1 rfl) ?_
  refine lv_iushr (v := (jush (σ 19 o0 (v2).toNatClampNeg) v1)) C.1 C.2.1 dX2_lost_7 rfl ?_
  refine lv_iconst (v := 1) C.1 C.2.1 dX2_lost_8 (by decide) ?_
  refine lv_iand C.1 C.2.1 dX2_lost_9 ?_
  refine lv_if_eq (tgt := 17) C.1 C.2.1 dX2_lost_10 (by decide) (fun c_10 => ?_) (fun c_10 => ?_)
  · rw [if_pos c_10] at hf
    refine lv_iconst (v := 0) C.1 C.2.1 dX2_lost_17 (by decide) ?_
    exact w_X2_lost_18 C _ 0 _ _ _ S (lv_sub hl [] rfl) hf
  · rw [if_neg c_10] at hf
    refine lv_iconst (v := 1) C.1 C.2.1 dX2_lost_13 (by decide) ?_
    refine lv_goto (tgt := 18) C.1 C.2.1 dX2_lost_14 (by decide) ?_
    exact w_X2_lost_18 C _ 1 _ _ _ S (lv_sub hl [] rfl) hf
theorem kv_X2_lost : KV yX2_lost cX2_lost 3 (Option.some FieldType.boolean) 2 := ⟨tw_6_174, tw_6_172, tw_6_173, tw_1_14, by decide, by decide, by decide +kernel⟩
theorem m_X2_lost (l : Launch) (G : Gx) (ad : Ad) (σ : Sg) (o0 : Nat) (v1 : Int32) (v2 : Int32) (r : Int32) (σ' : Sg) (ho0 : o0 < z_cnt 2) (hf : f_X2_lost σ o0 v1 v2 = some (r, σ')) (sz : Nat) : z_MI l yX2_lost cX2_lost 3 (Option.some FieldType.boolean) 0 0 0 G ad σ sz [.ref (ad 2 o0), .int v1, .int v2] r σ' := by
  refine z_begin (by decide +kernel) (Nat.le_of_ble_eq_true rfl) [(0, .ref (ad 2 o0)), (1, .int v1), (2, .int v2)] rfl (fun p e s m args below meth c ls C hz S hl => ?_)
  subst hz
  exact w_X2_lost_0 (res := (r, σ')) C σ o0 v1 v2 _ _ _ S hl ho0 hf

theorem dX4_countInState_0 : decode cX4_countInState 0 = .ok (.iconst 0, 1) := by decide +kernel
theorem dX4_countInState_1 : decode cX4_countInState 1 = .ok (.istore_n 2, 1) := by decide +kernel
theorem dX4_countInState_2 : decode cX4_countInState 2 = .ok (.iconst 0, 1) := by decide +kernel
theorem dX4_countInState_3 : decode cX4_countInState 3 = .ok (.istore_n 3, 1) := by decide +kernel
theorem dX4_countInState_4 : decode cX4_countInState 4 = .ok (.iload_n 3, 1) := by decide +kernel
theorem dX4_countInState_5 : decode cX4_countInState 5 = .ok (.aload_n 0, 1) := by decide +kernel
theorem dX4_countInState_6 : decode cX4_countInState 6 = .ok (.getfield 52, 3) := by decide +kernel
theorem dX4_countInState_9 : decode cX4_countInState 9 = .ok (.if_icmp .ge 25, 3) := by decide +kernel
theorem dX4_countInState_12 : decode cX4_countInState 12 = .ok (.aload_n 0, 1) := by decide +kernel
theorem dX4_countInState_13 : decode cX4_countInState 13 = .ok (.getfield 23, 3) := by decide +kernel
theorem dX4_countInState_16 : decode cX4_countInState 16 = .ok (.iload_n 3, 1) := by decide +kernel
theorem dX4_countInState_17 : decode cX4_countInState 17 = .ok (.aaload, 1) := by decide +kernel
theorem dX4_countInState_18 : decode cX4_countInState 18 = .ok (.getfield 119, 3) := by decide +kernel
theorem dX4_countInState_21 : decode cX4_countInState 21 = .ok (.iload_n 1, 1) := by decide +kernel
theorem dX4_countInState_22 : decode cX4_countInState 22 = .ok (.if_icmp .ne 6, 3) := by decide +kernel
theorem dX4_countInState_25 : decode cX4_countInState 25 = .ok (.iinc 2 1, 3) := by decide +kernel
theorem dX4_countInState_28 : decode cX4_countInState 28 = .ok (.iinc 3 1, 3) := by decide +kernel
theorem dX4_countInState_31 : decode cX4_countInState 31 = .ok (.goto (-27), 3) := by decide +kernel
theorem dX4_countInState_34 : decode cX4_countInState 34 = .ok (.iload_n 2, 1) := by decide +kernel
theorem dX4_countInState_35 : decode cX4_countInState 35 = .ok (.ireturn, 1) := by decide +kernel
/-! BusLifts$Lifts.countInState(I)I -/
noncomputable def f_X4_countInState_34  (σ : Sg) (v2 : Int32) : Option (Int32 × Sg) := some (v2, σ)
noncomputable def f_X4_countInState_28 (k4 : Sg → Nat → Int32 → Int32 → Int32 → Option (Int32 × Sg)) (σ : Sg) (o0 : Nat) (v1 : Int32) (v2 : Int32) (v3 : Int32) : Option (Int32 × Sg) := k4 σ o0 v1 v2 (v3 + 1)
noncomputable def f_X4_countInState_4  : Nat → Sg → Nat → Int32 → Int32 → Int32 → Option (Int32 × Sg)
  | 0, _, _, _, _, _ => none
  | n + 1, σ, o0, v1, v2, v3 => if (σ 4 o0 2) ≤ v3 then (f_X4_countInState_34 σ v2) else (if v3 < 0 ∨ 24 ≤ (v3).toNatClampNeg then none else (if (σ 1 (24 * o0 + (v3).toNatClampNeg) 3) = v1 then (f_X4_countInState_28 (f_X4_countInState_4 n) σ o0 v1 (v2 + 1) v3) else (f_X4_countInState_28 (f_X4_countInState_4 n) σ o0 v1 v2 v3)))
theorem f_X4_countInState_4_s  (n : Nat) (σ : Sg) (o0 : Nat) (v1 : Int32) (v2 : Int32) (v3 : Int32) : f_X4_countInState_4  (n + 1) σ o0 v1 v2 v3 = (if (σ 4 o0 2) ≤ v3 then (f_X4_countInState_34 σ v2) else (if v3 < 0 ∨ 24 ≤ (v3).toNatClampNeg then none else (if (σ 1 (24 * o0 + (v3).toNatClampNeg) 3) = v1 then (f_X4_countInState_28 (f_X4_countInState_4 n) σ o0 v1 (v2 + 1) v3) else (f_X4_countInState_28 (f_X4_countInState_4 n) σ o0 v1 v2 v3)))) := rfl
noncomputable def f_X4_countInState  (σ : Sg) (o0 : Nat) (v1 : Int32) : Option (Int32 × Sg) := f_X4_countInState_4 FU σ o0 v1 0 0
set_option maxHeartbeats 4000000 in
set_option maxRecDepth 100000 in
theorem w_X4_countInState_34 {p : Program} {l : Launch} {e : Env} {s : State} {m : MethodId} {args : Array Value} {below : List Frame} {meth : Method} {c : Code} {G : Gx} {ad : Ad} {res : Int32 × Sg} (C : Cx p s m args meth c yX4_countInState.cls cX4_countInState 4 (Option.some FieldType.int) G)  : ∀ (σ : Sg) (v2 : Int32) (H : Heap) (locs : List Loc) (ls : Array Slot), z_S 0 G ad σ (z_A 0 ad s.heap.size) s.heap H locs → lv_has ls 4 [(2, .int v2)] → f_X4_countInState_34  σ v2 = some res → W p l e { frames := 0, cells := 0, slots := 0, locals := 0 } s m args below meth c H locs 0 0 (MQ below (va_Qi (S := Unit) (fun r1 _ => r1 = res.1) (fun _ t => z_W 0 G ad res.2 t.heap) (z_A 0 ad s.heap.size)) args s 0 0 (z_A 0 ad s.heap.size)) (F0 m 34 ls []) := by
  intro σ v2 H locs ls S hl  hf
  unfold f_X4_countInState_34 at hf
  refine lv_iload_n C.1 C.2.1 dX4_countInState_34 rfl (lv_at hl 0 rfl) ?_
  exact z_iret C S hf dX4_countInState_35
set_option maxHeartbeats 4000000 in
set_option maxRecDepth 100000 in
theorem w_X4_countInState_28 {p : Program} {l : Launch} {e : Env} {s : State} {m : MethodId} {args : Array Value} {below : List Frame} {meth : Method} {c : Code} {G : Gx} {ad : Ad} {res : Int32 × Sg} (C : Cx p s m args meth c yX4_countInState.cls cX4_countInState 4 (Option.some FieldType.int) G) (k4 : Sg → Nat → Int32 → Int32 → Int32 → Option (Int32 × Sg)) (hk4 : ∀ (σ : Sg) (o0 : Nat) (v1 : Int32) (v2 : Int32) (v3 : Int32) (H : Heap) (locs : List Loc) (ls : Array Slot), z_S 0 G ad σ (z_A 0 ad s.heap.size) s.heap H locs → lv_has ls 4 [(0, .ref (ad 4 o0)), (1, .int v1), (2, .int v2), (3, .int v3)] → (o0 < z_cnt 4) → k4 σ o0 v1 v2 v3 = some res → W p l e { frames := 0, cells := 0, slots := 0, locals := 0 } s m args below meth c H locs 0 0 (MQ below (va_Qi (S := Unit) (fun r1 _ => r1 = res.1) (fun _ t => z_W 0 G ad res.2 t.heap) (z_A 0 ad s.heap.size)) args s 0 0 (z_A 0 ad s.heap.size)) (F0 m 4 ls [])) : ∀ (σ : Sg) (o0 : Nat) (v1 : Int32) (v2 : Int32) (v3 : Int32) (H : Heap) (locs : List Loc) (ls : Array Slot), z_S 0 G ad σ (z_A 0 ad s.heap.size) s.heap H locs → lv_has ls 4 [(0, .ref (ad 4 o0)), (1, .int v1), (2, .int v2), (3, .int v3)] → (o0 < z_cnt 4) → f_X4_countInState_28 k4 σ o0 v1 v2 v3 = some res → W p l e { frames := 0, cells := 0, slots := 0, locals := 0 } s m args below meth c H locs 0 0 (MQ below (va_Qi (S := Unit) (fun r1 _ => r1 = res.1) (fun _ t => z_W 0 G ad res.2 t.heap) (z_A 0 ad s.heap.size)) args s 0 0 (z_A 0 ad s.heap.size)) (F0 m 28 ls []) := by
  intro σ o0 v1 v2 v3 H locs ls S hl ho0 hf
  unfold f_X4_countInState_28 at hf
  refine lv_iinc (v := (v3 + 1)) (lv' := [(3, .int (v3 + 1)), (0, .ref (ad 4 o0)), (1, .int v1), (2, .int v2)]) C.1 C.2.1 dX4_countInState_28 hl (k := 3) rfl rfl (by decide) rfl (fun ls hl => ?_)
  refine lv_goto (tgt := 4) C.1 C.2.1 dX4_countInState_31 (by decide) ?_
  exact hk4 _ o0 v1 v2 (v3 + 1) _ _ _ S (lv_sub hl [1, 2, 3, 0] rfl) ho0 hf
set_option maxHeartbeats 4000000 in
set_option maxRecDepth 100000 in
theorem w_X4_countInState_4 {p : Program} {l : Launch} {e : Env} {s : State} {m : MethodId} {args : Array Value} {below : List Frame} {meth : Method} {c : Code} {G : Gx} {ad : Ad} {res : Int32 × Sg} (C : Cx p s m args meth c yX4_countInState.cls cX4_countInState 4 (Option.some FieldType.int) G)  : ∀ n : Nat, ∀ (σ : Sg) (o0 : Nat) (v1 : Int32) (v2 : Int32) (v3 : Int32) (H : Heap) (locs : List Loc) (ls : Array Slot), z_S 0 G ad σ (z_A 0 ad s.heap.size) s.heap H locs → lv_has ls 4 [(0, .ref (ad 4 o0)), (1, .int v1), (2, .int v2), (3, .int v3)] → (o0 < z_cnt 4) → f_X4_countInState_4  n σ o0 v1 v2 v3 = some res → W p l e { frames := 0, cells := 0, slots := 0, locals := 0 } s m args below meth c H locs 0 0 (MQ below (va_Qi (S := Unit) (fun r1 _ => r1 = res.1) (fun _ t => z_W 0 G ad res.2 t.heap) (z_A 0 ad s.heap.size)) args s 0 0 (z_A 0 ad s.heap.size)) (F0 m 4 ls []) := by
  intro n
  induction n with
  | zero => intro σ o0 v1 v2 v3 H locs ls S hl ho0 hf; cases hf
  | succ n ih =>
    intro σ o0 v1 v2 v3 H locs ls S hl ho0 hf
    rw [f_X4_countInState_4_s] at hf
    refine lv_iload_n C.1 C.2.1 dX4_countInState_4 rfl (lv_at hl 3 rfl) ?_
    refine lv_aload_n C.1 C.2.1 dX4_countInState_5 rfl (lv_at hl 0 rfl) ?_
    refine z_getI C S 4 o0 rfl ho0 cf_4 2 (by decide) (gi_4_2 G ad o0) tw_1_227 dX4_countInState_6 ?_
    refine lv_icmp_ge (tgt := 34) C.1 C.2.1 dX4_countInState_9 (by decide) (fun c_9 => ?_) (fun c_9 => ?_)
    · rw [if_pos c_9] at hf
      exact w_X4_countInState_34 C _ v2 _ _ _ S (lv_sub hl [2] rfl) hf
    · rw [if_neg c_9] at hf
      refine lv_aload_n C.1 C.2.1 dX4_countInState_12 rfl (lv_at hl 0 rfl) ?_
      refine z_getR C S 4 o0 rfl ho0 cf_4 7 (by decide) _ (gr_4_7 G ad o0) tw_2_4 dX4_countInState_13 ?_
      refine lv_iload_n C.1 C.2.1 dX4_countInState_16 rfl (lv_at hl 3 rfl) ?_
      obtain ⟨g_17, hf⟩ := gd hf
      refine z_aald C S 26 o0 rfl ho0 24 2 1 (24 * o0) rfl (fun _ => rfl) g_17 dX4_countInState_17 ?_
      refine z_getI C S 1 (24 * o0 + (v3).toNatClampNeg) rfl (oc1 ho0 g_17) cf_1 3 (by decide) (gi_1_3 G ad (24 * o0 + (v3).toNatClampNeg)) tw_1_175 dX4_countInState_18 ?_
      refine lv_iload_n C.1 C.2.1 dX4_countInState_21 rfl (lv_at hl 1 rfl) ?_
      refine lv_icmp_ne (tgt := 28) C.1 C.2.1 dX4_countInState_22 (by decide) (fun c_22 => ?_) (fun c_22 => ?_)
      · rw [if_neg c_22] at hf
        exact w_X4_countInState_28 C (f_X4_countInState_4 n) ih _ o0 v1 v2 v3 _ _ _ S (lv_sub hl [0, 1, 2, 3] rfl) ho0 hf
      · rw [if_pos c_22] at hf
        refine lv_iinc (v := (v2 + 1)) (lv' := [(2, .int (v2 + 1)), (0, .ref (ad 4 o0)), (1, .int v1), (3, .int v3)]) C.1 C.2.1 dX4_countInState_25 hl (k := 2) rfl rfl (by decide) rfl (fun ls hl => ?_)
        exact w_X4_countInState_28 C (f_X4_countInState_4 n) ih _ o0 v1 (v2 + 1) v3 _ _ _ S (lv_sub hl [1, 2, 0, 3] rfl) ho0 hf
set_option maxHeartbeats 4000000 in
set_option maxRecDepth 100000 in
theorem w_X4_countInState_0 {p : Program} {l : Launch} {e : Env} {s : State} {m : MethodId} {args : Array Value} {below : List Frame} {meth : Method} {c : Code} {G : Gx} {ad : Ad} {res : Int32 × Sg} (C : Cx p s m args meth c yX4_countInState.cls cX4_countInState 4 (Option.some FieldType.int) G)  : ∀ (σ : Sg) (o0 : Nat) (v1 : Int32) (H : Heap) (locs : List Loc) (ls : Array Slot), z_S 0 G ad σ (z_A 0 ad s.heap.size) s.heap H locs → lv_has ls 4 [(0, .ref (ad 4 o0)), (1, .int v1)] → (o0 < z_cnt 4) → f_X4_countInState  σ o0 v1 = some res → W p l e { frames := 0, cells := 0, slots := 0, locals := 0 } s m args below meth c H locs 0 0 (MQ below (va_Qi (S := Unit) (fun r1 _ => r1 = res.1) (fun _ t => z_W 0 G ad res.2 t.heap) (z_A 0 ad s.heap.size)) args s 0 0 (z_A 0 ad s.heap.size)) (F0 m 0 ls []) := by
  intro σ o0 v1 H locs ls S hl ho0 hf
  unfold f_X4_countInState at hf
  refine lv_iconst (v := 0) C.1 C.2.1 dX4_countInState_0 (by decide) ?_
  refine lv_istore_n (lv' := [(2, .int 0), (0, .ref (ad 4 o0)), (1, .int v1)]) C.1 C.2.1 dX4_countInState_1 rfl hl (by decide) rfl (fun ls hl => ?_)
  refine lv_iconst (v := 0) C.1 C.2.1 dX4_countInState_2 (by decide) ?_
  refine lv_istore_n (lv' := [(3, .int 0), (2, .int 0), (0, .ref (ad 4 o0)), (1, .int v1)]) C.1 C.2.1 dX4_countInState_3 rfl hl (by decide) rfl (fun ls hl => ?_)
  exact w_X4_countInState_4 C FU _ o0 v1 0 0 _ _ _ S (lv_sub hl [2, 3, 1, 0] rfl) ho0 hf
theorem kv_X4_countInState : KV yX4_countInState cX4_countInState 4 (Option.some FieldType.int) 1 := ⟨tw_6_193, tw_6_191, tw_6_192, tw_1_12, by decide, by decide, by decide +kernel⟩
theorem m_X4_countInState (l : Launch) (G : Gx) (ad : Ad) (σ : Sg) (o0 : Nat) (v1 : Int32) (r : Int32) (σ' : Sg) (ho0 : o0 < z_cnt 4) (hf : f_X4_countInState σ o0 v1 = some (r, σ')) (sz : Nat) : z_MI l yX4_countInState cX4_countInState 4 (Option.some FieldType.int) 0 0 0 G ad σ sz [.ref (ad 4 o0), .int v1] r σ' := by
  refine z_begin (by decide +kernel) (Nat.le_of_ble_eq_true rfl) [(0, .ref (ad 4 o0)), (1, .int v1)] rfl (fun p e s m args below meth c ls C hz S hl => ?_)
  subst hz
  exact w_X4_countInState_0 (res := (r, σ')) C σ o0 v1 _ _ _ S hl ho0 hf

theorem dX3_remember_0 : decode cX3_remember 0 = .ok (.aload_n 0, 1) := by decide +kernel
theorem dX3_remember_1 : decode cX3_remember 1 = .ok (.getfield 11, 3) := by decide +kernel
theorem dX3_remember_4 : decode cX3_remember 4 = .ok (.aload_n 0, 1) := by decide +kernel
theorem dX3_remember_5 : decode cX3_remember 5 = .ok (.getfield 22, 3) := by decide +kernel
theorem dX3_remember_8 : decode cX3_remember 8 = .ok (.aaload, 1) := by decide +kernel
theorem dX3_remember_9 : decode cX3_remember 9 = .ok (.aload_n 1, 1) := by decide +kernel
theorem dX3_remember_10 : decode cX3_remember 10 = .ok (.invokevirtual 25, 3) := by decide +kernel
theorem dX3_remember_13 : decode cX3_remember 13 = .ok (.aload_n 0, 1) := by decide +kernel
theorem dX3_remember_14 : decode cX3_remember 14 = .ok (.aload_n 0, 1) := by decide +kernel
theorem dX3_remember_15 : decode cX3_remember 15 = .ok (.getfield 22, 3) := by decide +kernel
theorem dX3_remember_18 : decode cX3_remember 18 = .ok (.iconst 1, 1) := by decide +kernel
theorem dX3_remember_19 : decode cX3_remember 19 = .ok (.iadd, 1) := by decide +kernel
theorem dX3_remember_20 : decode cX3_remember 20 = .ok (.bipush 10, 2) := by decide +kernel
theorem dX3_remember_22 : decode cX3_remember 22 = .ok (.irem, 1) := by decide +kernel
theorem dX3_remember_23 : decode cX3_remember 23 = .ok (.putfield 22, 3) := by decide +kernel
theorem dX3_remember_26 : decode cX3_remember 26 = .ok (.aload_n 0, 1) := by decide +kernel
theorem dX3_remember_27 : decode cX3_remember 27 = .ok (.aload_n 0, 1) := by decide +kernel
theorem dX3_remember_28 : decode cX3_remember 28 = .ok (.getfield 18, 3) := by decide +kernel
theorem dX3_remember_31 : decode cX3_remember 31 = .ok (.iconst 1, 1) := by decide +kernel
theorem dX3_remember_32 : decode cX3_remember 32 = .ok (.iadd, 1) := by decide +kernel
theorem dX3_remember_33 : decode cX3_remember 33 = .ok (.bipush 10, 2) := by decide +kernel
theorem dX3_remember_35 : decode cX3_remember 35 = .ok (.invokestatic 29, 3) := by decide +kernel
theorem dX3_remember_38 : decode cX3_remember 38 = .ok (.putfield 18, 3) := by decide +kernel
theorem dX3_remember_41 : decode cX3_remember 41 = .ok (.return_, 1) := by decide +kernel
/-! BusLifts$History.remember(LBusLifts$Lifts;)V -/
noncomputable def f_X3_remember  (σ : Sg) (o1 : Nat) : Option Sg := if (σ 3 0 1) < 0 ∨ 10 ≤ ((σ 3 0 1)).toNatClampNeg then none else (bv (f_X4_copyFrom σ (3 + ((σ 3 0 1)).toNatClampNeg) o1) fun σ1 => (st (sup σ1 3 0 1 (jrem ((σ1 3 0 1) + 1) 10)) fun σ2 => (st (sup σ2 3 0 0 (jmin ((σ2 3 0 0) + 1) 10)) fun σ3 => (some σ3))))
set_option maxHeartbeats 4000000 in
set_option maxRecDepth 100000 in
theorem w_X3_remember_0 {p : Program} {l : Launch} {e : Env} {s : State} {m : MethodId} {args : Array Value} {below : List Frame} {meth : Method} {c : Code} {G : Gx} {ad : Ad} {res : Sg} (C : Cx p s m args meth c yX3_remember.cls cX3_remember 2 none G)  : ∀ (σ : Sg) (o1 : Nat) (H : Heap) (locs : List Loc) (ls : Array Slot), z_S 0 G ad σ (z_A 0 ad s.heap.size) s.heap H locs → lv_has ls 2 [(0, .ref (ad 3 0)), (1, .ref (ad 4 o1))] → (o1 < z_cnt 4) → f_X3_remember  σ o1 = some res → W p l e { frames := 3, cells := 0, slots := 0, locals := 69 } s m args below meth c H locs 0 0 (MQ below (va_Qv (S := Unit) (fun _ => True) (fun _ t => z_W 0 G ad res t.heap) (z_A 0 ad s.heap.size)) args s 0 0 (z_A 0 ad s.heap.size)) (F0 m 0 ls []) := by
  intro σ o1 H locs ls S hl ho1 hf
  unfold f_X3_remember at hf
  refine lv_aload_n C.1 C.2.1 dX3_remember_0 rfl (lv_at hl 0 rfl) ?_
  refine z_getR C S 3 0 rfl (by decide) cf_3 2 (by decide) _ (gr_3_2 G ad 0) tw_2_55 dX3_remember_1 ?_
  refine lv_aload_n C.1 C.2.1 dX3_remember_4 rfl (lv_at hl 0 rfl) ?_
  refine z_getI C S 3 0 rfl (by decide) cf_3 1 (by decide) (gi_3_1 G ad 0) tw_2_54 dX3_remember_5 ?_
  obtain ⟨g_8, hf⟩ := gd hf
  refine z_aald C S 27 0 rfl (by decide) 10 3 4 (3) rfl (fun _ => rfl) g_8 dX3_remember_8 ?_
  refine lv_aload_n C.1 C.2.1 dX3_remember_9 rfl (lv_at hl 1 rfl) ?_
  obtain ⟨σ1, q_10, hf⟩ := bvb hf
  refine z_callV C S 4 (3 + ((σ 3 0 1)).toNatClampNeg) rfl (oc4 g_8) cf_4 ⟨_, rfl⟩ [.ref (ad 4 o1)] (m_X4_copyFrom l G ad σ (3 + ((σ 3 0 1)).toNatClampNeg) o1 σ1 (oc4 g_8) ho1 q_10 _) kv_X4_copyFrom tw_6_210 ⟨Nat.le_of_ble_eq_true rfl, Nat.le_of_ble_eq_true rfl⟩ rfl rfl (Nat.le_of_ble_eq_true rfl) hl.1 ⟨Nat.le_of_ble_eq_true rfl, Nat.le_of_ble_eq_true rfl⟩ dX3_remember_10 (fun H locs S => ?_)
  refine lv_aload_n C.1 C.2.1 dX3_remember_13 rfl (lv_at hl 0 rfl) ?_
  refine lv_aload_n C.1 C.2.1 dX3_remember_14 rfl (lv_at hl 0 rfl) ?_
  refine z_getI C S 3 0 rfl (by decide) cf_3 1 (by decide) (gi_3_1 G ad 0) tw_2_54 dX3_remember_15 ?_
  refine lv_iconst (v := 1) C.1 C.2.1 dX3_remember_18 (by decide) ?_
  refine lv_iadd C.1 C.2.1 dX3_remember_19 ?_
  refine lv_bipush (v := 10) C.1 C.2.1 dX3_remember_20 (by decide) ?_
  refine lv_irem C.1 C.2.1 dX3_remember_22 (by decide) ?_
  show W _ _ _ _ _ _ _ _ _ _ _ _ _ _ _ (F0 m _ ls (.int (jrem ((σ1 3 0 1) + 1) 10) :: _))
  obtain ⟨σ2, e_23, hf⟩ := stb hf
  refine z_putI C S 3 0 rfl (by decide) cf_3 1 (by decide) (pi_3_1 G ad 0) rfl rfl rfl tw_2_54 dX3_remember_23 (fun H locs S => ?_)
  rw [← e_23] at S
  refine lv_aload_n C.1 C.2.1 dX3_remember_26 rfl (lv_at hl 0 rfl) ?_
  refine lv_aload_n C.1 C.2.1 dX3_remember_27 rfl (lv_at hl 0 rfl) ?_
  refine z_getI C S 3 0 rfl (by decide) cf_3 0 (by decide) (gi_3_0 G ad 0) tw_2_52 dX3_remember_28 ?_
  refine lv_iconst (v := 1) C.1 C.2.1 dX3_remember_31 (by decide) ?_
  refine lv_iadd C.1 C.2.1 dX3_remember_32 ?_
  refine lv_bipush (v := 10) C.1 C.2.1 dX3_remember_33 (by decide) ?_
  refine z_min C hl.1 tw_6_211 (Nat.le_of_ble_eq_true rfl) (Nat.le_of_ble_eq_true rfl) ⟨Nat.le_of_ble_eq_true rfl, Nat.le_of_ble_eq_true rfl⟩ dX3_remember_35 ?_
  obtain ⟨σ3, e_38, hf⟩ := stb hf
  refine z_putI C S 3 0 rfl (by decide) cf_3 0 (by decide) (pi_3_0 G ad 0) rfl rfl rfl tw_2_52 dX3_remember_38 (fun H locs S => ?_)
  rw [← e_38] at S
  exact z_vret C S hf dX3_remember_41
theorem kv_X3_remember : KV yX3_remember cX3_remember 2 none 1 := ⟨tw_6_209, tw_6_207, tw_6_208, tw_1_16, by decide, by decide, by decide +kernel⟩
theorem m_X3_remember (l : Launch) (G : Gx) (ad : Ad) (σ : Sg) (o1 : Nat) (σ' : Sg) (ho1 : o1 < z_cnt 4) (hf : f_X3_remember σ o1 = some σ') (sz : Nat) : z_MV l yX3_remember cX3_remember 2 none 3 69 0 G ad σ sz [.ref (ad 3 0), .ref (ad 4 o1)] σ' := by
  refine z_begin (by decide +kernel) (Nat.le_of_ble_eq_true rfl) [(0, .ref (ad 3 0)), (1, .ref (ad 4 o1))] rfl (fun p e s m args below meth c ls C hz S hl => ?_)
  subst hz
  exact w_X3_remember_0 (res := σ') C σ o1 _ _ _ S hl ho1 hf

theorem dX2_dropDecisions_0 : decode cX2_dropDecisions 0 = .ok (.iconst 0, 1) := by decide +kernel
theorem dX2_dropDecisions_1 : decode cX2_dropDecisions 1 = .ok (.istore_n 1, 1) := by decide +kernel
theorem dX2_dropDecisions_2 : decode cX2_dropDecisions 2 = .ok (.iload_n 1, 1) := by decide +kernel
theorem dX2_dropDecisions_3 : decode cX2_dropDecisions 3 = .ok (.bipush 24, 2) := by decide +kernel
theorem dX2_dropDecisions_5 : decode cX2_dropDecisions 5 = .ok (.if_icmp .ge 16, 3) := by decide +kernel
theorem dX2_dropDecisions_8 : decode cX2_dropDecisions 8 = .ok (.aload_n 0, 1) := by decide +kernel
theorem dX2_dropDecisions_9 : decode cX2_dropDecisions 9 = .ok (.getfield 15, 3) := by decide +kernel
theorem dX2_dropDecisions_12 : decode cX2_dropDecisions 12 = .ok (.iload_n 1, 1) := by decide +kernel
theorem dX2_dropDecisions_13 : decode cX2_dropDecisions 13 = .ok (.iconst (-1), 1) := by decide +kernel
theorem dX2_dropDecisions_14 : decode cX2_dropDecisions 14 = .ok (.iastore, 1) := by decide +kernel
theorem dX2_dropDecisions_15 : decode cX2_dropDecisions 15 = .ok (.iinc 1 1, 3) := by decide +kernel
theorem dX2_dropDecisions_18 : decode cX2_dropDecisions 18 = .ok (.goto (-16), 3) := by decide +kernel
theorem dX2_dropDecisions_21 : decode cX2_dropDecisions 21 = .ok (.return_, 1) := by decide +kernel
/-! BusLifts$Car.dropDecisions()V -/
noncomputable def f_X2_dropDecisions_21  (σ : Sg)  : Option Sg := some σ
noncomputable def f_X2_dropDecisions_2  : Nat → Sg → Nat → Int32 → Option Sg
  | 0, _, _, _ => none
  | n + 1, σ, o0, v1 => if 24 ≤ v1 then (f_X2_dropDecisions_21 σ) else (if v1 < 0 ∨ 24 ≤ (v1).toNatClampNeg then none else (st (sup σ 17 o0 (v1).toNatClampNeg (-1)) fun σ1 => (f_X2_dropDecisions_2  n σ1 o0 (v1 + 1))))
theorem f_X2_dropDecisions_2_s  (n : Nat) (σ : Sg) (o0 : Nat) (v1 : Int32) : f_X2_dropDecisions_2  (n + 1) σ o0 v1 = (if 24 ≤ v1 then (f_X2_dropDecisions_21 σ) else (if v1 < 0 ∨ 24 ≤ (v1).toNatClampNeg then none else (st (sup σ 17 o0 (v1).toNatClampNeg (-1)) fun σ1 => (f_X2_dropDecisions_2  n σ1 o0 (v1 + 1))))) := rfl
noncomputable def f_X2_dropDecisions  (σ : Sg) (o0 : Nat) : Option Sg := f_X2_dropDecisions_2 FU σ o0 0
set_option maxHeartbeats 4000000 in
set_option maxRecDepth 100000 in
theorem w_X2_dropDecisions_21 {p : Program} {l : Launch} {e : Env} {s : State} {m : MethodId} {args : Array Value} {below : List Frame} {meth : Method} {c : Code} {G : Gx} {ad : Ad} {res : Sg} (C : Cx p s m args meth c yX2_dropDecisions.cls cX2_dropDecisions 2 none G)  : ∀ (σ : Sg)  (H : Heap) (locs : List Loc) (ls : Array Slot), z_S 0 G ad σ (z_A 0 ad s.heap.size) s.heap H locs → lv_has ls 2 [] → f_X2_dropDecisions_21  σ  = some res → W p l e { frames := 0, cells := 0, slots := 0, locals := 0 } s m args below meth c H locs 0 0 (MQ below (va_Qv (S := Unit) (fun _ => True) (fun _ t => z_W 0 G ad res t.heap) (z_A 0 ad s.heap.size)) args s 0 0 (z_A 0 ad s.heap.size)) (F0 m 21 ls []) := by
  intro σ  H locs ls S hl  hf
  unfold f_X2_dropDecisions_21 at hf
  exact z_vret C S hf dX2_dropDecisions_21
set_option maxHeartbeats 4000000 in
set_option maxRecDepth 100000 in
theorem w_X2_dropDecisions_2 {p : Program} {l : Launch} {e : Env} {s : State} {m : MethodId} {args : Array Value} {below : List Frame} {meth : Method} {c : Code} {G : Gx} {ad : Ad} {res : Sg} (C : Cx p s m args meth c yX2_dropDecisions.cls cX2_dropDecisions 2 none G)  : ∀ n : Nat, ∀ (σ : Sg) (o0 : Nat) (v1 : Int32) (H : Heap) (locs : List Loc) (ls : Array Slot), z_S 0 G ad σ (z_A 0 ad s.heap.size) s.heap H locs → lv_has ls 2 [(0, .ref (ad 2 o0)), (1, .int v1)] → (o0 < z_cnt 2) → f_X2_dropDecisions_2  n σ o0 v1 = some res → W p l e { frames := 0, cells := 0, slots := 0, locals := 0 } s m args below meth c H locs 0 0 (MQ below (va_Qv (S := Unit) (fun _ => True) (fun _ t => z_W 0 G ad res t.heap) (z_A 0 ad s.heap.size)) args s 0 0 (z_A 0 ad s.heap.size)) (F0 m 2 ls []) := by
  intro n
  induction n with
  | zero => intro σ o0 v1 H locs ls S hl ho0 hf; cases hf
  | succ n ih =>
    intro σ o0 v1 H locs ls S hl ho0 hf
    rw [f_X2_dropDecisions_2_s] at hf
    refine lv_iload_n C.1 C.2.1 dX2_dropDecisions_2 rfl (lv_at hl 1 rfl) ?_
    refine lv_bipush (v := 24) C.1 C.2.1 dX2_dropDecisions_3 (by decide) ?_
    refine lv_icmp_ge (tgt := 21) C.1 C.2.1 dX2_dropDecisions_5 (by decide) (fun c_5 => ?_) (fun c_5 => ?_)
    · rw [if_pos c_5] at hf
      exact w_X2_dropDecisions_21 C _ _ _ _ S (lv_sub hl [] rfl) hf
    · rw [if_neg c_5] at hf
      refine lv_aload_n C.1 C.2.1 dX2_dropDecisions_8 rfl (lv_at hl 0 rfl) ?_
      refine z_getR C S 2 o0 rfl ho0 cf_2 11 (by decide) _ (gr_2_11 G ad o0) tw_1_122 dX2_dropDecisions_9 ?_
      refine lv_iload_n C.1 C.2.1 dX2_dropDecisions_12 rfl (lv_at hl 1 rfl) ?_
      refine lv_iconst (v := (-1)) C.1 C.2.1 dX2_dropDecisions_13 (by decide) ?_
      obtain ⟨g_14, hf⟩ := gd hf
      obtain ⟨σ1, e_14, hf⟩ := stb hf
      refine z_iast C S 17 o0 rfl ho0 24 (fun _ => rfl) g_14 dX2_dropDecisions_14 (fun H locs S => ?_)
      rw [← e_14] at S
      refine lv_iinc (v := (v1 + 1)) (lv' := [(1, .int (v1 + 1)), (0, .ref (ad 2 o0))]) C.1 C.2.1 dX2_dropDecisions_15 hl (k := 1) rfl rfl (by decide) rfl (fun ls hl => ?_)
      refine lv_goto (tgt := 2) C.1 C.2.1 dX2_dropDecisions_18 (by decide) ?_
      exact ih _ o0 (v1 + 1) _ _ _ S (lv_sub hl [1, 0] rfl) ho0 hf
set_option maxHeartbeats 4000000 in
set_option maxRecDepth 100000 in
theorem w_X2_dropDecisions_0 {p : Program} {l : Launch} {e : Env} {s : State} {m : MethodId} {args : Array Value} {below : List Frame} {meth : Method} {c : Code} {G : Gx} {ad : Ad} {res : Sg} (C : Cx p s m args meth c yX2_dropDecisions.cls cX2_dropDecisions 2 none G)  : ∀ (σ : Sg) (o0 : Nat) (H : Heap) (locs : List Loc) (ls : Array Slot), z_S 0 G ad σ (z_A 0 ad s.heap.size) s.heap H locs → lv_has ls 2 [(0, .ref (ad 2 o0))] → (o0 < z_cnt 2) → f_X2_dropDecisions  σ o0 = some res → W p l e { frames := 0, cells := 0, slots := 0, locals := 0 } s m args below meth c H locs 0 0 (MQ below (va_Qv (S := Unit) (fun _ => True) (fun _ t => z_W 0 G ad res t.heap) (z_A 0 ad s.heap.size)) args s 0 0 (z_A 0 ad s.heap.size)) (F0 m 0 ls []) := by
  intro σ o0 H locs ls S hl ho0 hf
  unfold f_X2_dropDecisions at hf
  refine lv_iconst (v := 0) C.1 C.2.1 dX2_dropDecisions_0 (by decide) ?_
  refine lv_istore_n (lv' := [(1, .int 0), (0, .ref (ad 2 o0))]) C.1 C.2.1 dX2_dropDecisions_1 rfl hl (by decide) rfl (fun ls hl => ?_)
  exact w_X2_dropDecisions_2 C FU _ o0 0 _ _ _ S (lv_sub hl [1, 0] rfl) ho0 hf
theorem kv_X2_dropDecisions : KV yX2_dropDecisions cX2_dropDecisions 2 none 0 := ⟨tw_6_215, tw_6_213, tw_6_214, tw_1_14, by decide, by decide, by decide +kernel⟩
theorem m_X2_dropDecisions (l : Launch) (G : Gx) (ad : Ad) (σ : Sg) (o0 : Nat) (σ' : Sg) (ho0 : o0 < z_cnt 2) (hf : f_X2_dropDecisions σ o0 = some σ') (sz : Nat) : z_MV l yX2_dropDecisions cX2_dropDecisions 2 none 0 0 0 G ad σ sz [.ref (ad 2 o0)] σ' := by
  refine z_begin (by decide +kernel) (Nat.le_of_ble_eq_true rfl) [(0, .ref (ad 2 o0))] rfl (fun p e s m args below meth c ls C hz S hl => ?_)
  subst hz
  exact w_X2_dropDecisions_0 (res := σ') C σ o0 _ _ _ S hl ho0 hf

theorem dX2_dropCall_0 : decode cX2_dropCall 0 = .ok (.aload_n 0, 1) := by decide +kernel
theorem dX2_dropCall_1 : decode cX2_dropCall 1 = .ok (.dup, 1) := by decide +kernel
theorem dX2_dropCall_2 : decode cX2_dropCall 2 = .ok (.getfield 50, 3) := by decide +kernel
theorem dX2_dropCall_5 : decode cX2_dropCall 5 = .ok (.iconst 1, 1) := by decide +kernel
theorem dX2_dropCall_6 : decode cX2_dropCall 6 = .ok (.iload_n 1, 1) := by decide +kernel
theorem dX2_dropCall_7 : decode cX2_dropCall 7 = .ok (.ishl, 1) := by decide +kernel
theorem dX2_dropCall_8 : decode cX2_dropCall 8 = .ok (.iconst (-1), 1) := by decide +kernel
theorem dX2_dropCall_9 : decode cX2_dropCall 9 = .ok (.ixor, 1) := by decide +kernel
theorem dX2_dropCall_10 : decode cX2_dropCall 10 = .ok (.iand, 1) := by decide +kernel
theorem dX2_dropCall_11 : decode cX2_dropCall 11 = .ok (.putfield 50, 3) := by decide +kernel
theorem dX2_dropCall_14 : decode cX2_dropCall 14 = .ok (.return_, 1) := by decide +kernel
/-! BusLifts$Car.dropCall(I)V -/
noncomputable def f_X2_dropCall  (σ : Sg) (o0 : Nat) (v1 : Int32) : Option Sg := st (sup σ 2 o0 8 ((σ 2 o0 8) &&& ((1 <<< (v1 &&& 31)) ^^^ (-1)))) fun σ1 => (some σ1)
set_option maxHeartbeats 4000000 in
set_option maxRecDepth 100000 in
theorem w_X2_dropCall_0 {p : Program} {l : Launch} {e : Env} {s : State} {m : MethodId} {args : Array Value} {below : List Frame} {meth : Method} {c : Code} {G : Gx} {ad : Ad} {res : Sg} (C : Cx p s m args meth c yX2_dropCall.cls cX2_dropCall 2 none G)  : ∀ (σ : Sg) (o0 : Nat) (v1 : Int32) (H : Heap) (locs : List Loc) (ls : Array Slot), z_S 0 G ad σ (z_A 0 ad s.heap.size) s.heap H locs → lv_has ls 2 [(0, .ref (ad 2 o0)), (1, .int v1)] → (o0 < z_cnt 2) → f_X2_dropCall  σ o0 v1 = some res → W p l e { frames := 0, cells := 0, slots := 0, locals := 0 } s m args below meth c H locs 0 0 (MQ below (va_Qv (S := Unit) (fun _ => True) (fun _ t => z_W 0 G ad res t.heap) (z_A 0 ad s.heap.size)) args s 0 0 (z_A 0 ad s.heap.size)) (F0 m 0 ls []) := by
  intro σ o0 v1 H locs ls S hl ho0 hf
  unfold f_X2_dropCall at hf
  refine lv_aload_n C.1 C.2.1 dX2_dropCall_0 rfl (lv_at hl 0 rfl) ?_
  refine lv_dup C.1 C.2.1 dX2_dropCall_1 rfl ?_
  refine z_getI C S 2 o0 rfl ho0 cf_2 8 (by decide) (gi_2_8 G ad o0) tw_1_112 dX2_dropCall_2 ?_
  refine lv_iconst (v := 1) C.1 C.2.1 dX2_dropCall_5 (by decide) ?_
  refine lv_iload_n C.1 C.2.1 dX2_dropCall_6 rfl (lv_at hl 1 rfl) ?_
  refine lv_ishl C.1 C.2.1 dX2_dropCall_7 ?_
  refine lv_iconst (v := (-1)) C.1 C.2.1 dX2_dropCall_8 (by decide) ?_
  refine lv_ixor C.1 C.2.1 dX2_dropCall_9 ?_
  refine lv_iand C.1 C.2.1 dX2_dropCall_10 ?_
  obtain ⟨σ1, e_11, hf⟩ := stb hf
  refine z_putI C S 2 o0 rfl ho0 cf_2 8 (by decide) (pi_2_8 G ad o0) rfl rfl rfl tw_1_112 dX2_dropCall_11 (fun H locs S => ?_)
  rw [← e_11] at S
  exact z_vret C S hf dX2_dropCall_14
theorem kv_X2_dropCall : KV yX2_dropCall cX2_dropCall 2 none 1 := ⟨tw_7_13, tw_7_11, tw_7_12, tw_1_14, by decide, by decide, by decide +kernel⟩
theorem m_X2_dropCall (l : Launch) (G : Gx) (ad : Ad) (σ : Sg) (o0 : Nat) (v1 : Int32) (σ' : Sg) (ho0 : o0 < z_cnt 2) (hf : f_X2_dropCall σ o0 v1 = some σ') (sz : Nat) : z_MV l yX2_dropCall cX2_dropCall 2 none 0 0 0 G ad σ sz [.ref (ad 2 o0), .int v1] σ' := by
  refine z_begin (by decide +kernel) (Nat.le_of_ble_eq_true rfl) [(0, .ref (ad 2 o0)), (1, .int v1)] rfl (fun p e s m args below meth c ls C hz S hl => ?_)
  subst hz
  exact w_X2_dropCall_0 (res := σ') C σ o0 v1 _ _ _ S hl ho0 hf

theorem dX2_hearReport_0 : decode cX2_hearReport 0 = .ok (.aload_n 0, 1) := by decide +kernel
theorem dX2_hearReport_1 : decode cX2_hearReport 1 = .ok (.getfield 15, 3) := by decide +kernel
theorem dX2_hearReport_4 : decode cX2_hearReport 4 = .ok (.iload_n 1, 1) := by decide +kernel
theorem dX2_hearReport_5 : decode cX2_hearReport 5 = .ok (.iconst (-1), 1) := by decide +kernel
theorem dX2_hearReport_6 : decode cX2_hearReport 6 = .ok (.iastore, 1) := by decide +kernel
theorem dX2_hearReport_7 : decode cX2_hearReport 7 = .ok (.aload_n 0, 1) := by decide +kernel
theorem dX2_hearReport_8 : decode cX2_hearReport 8 = .ok (.iload_n 1, 1) := by decide +kernel
theorem dX2_hearReport_9 : decode cX2_hearReport 9 = .ok (.invokevirtual 80, 3) := by decide +kernel
theorem dX2_hearReport_12 : decode cX2_hearReport 12 = .ok (.return_, 1) := by decide +kernel
/-! BusLifts$Car.hearReport(I)V -/
noncomputable def f_X2_hearReport  (σ : Sg) (o0 : Nat) (v1 : Int32) : Option Sg := if v1 < 0 ∨ 24 ≤ (v1).toNatClampNeg then none else (st (sup σ 17 o0 (v1).toNatClampNeg (-1)) fun σ1 => (bv (f_X2_dropCall σ1 o0 v1) fun σ2 => (some σ2)))
set_option maxHeartbeats 4000000 in
set_option maxRecDepth 100000 in
theorem w_X2_hearReport_0 {p : Program} {l : Launch} {e : Env} {s : State} {m : MethodId} {args : Array Value} {below : List Frame} {meth : Method} {c : Code} {G : Gx} {ad : Ad} {res : Sg} (C : Cx p s m args meth c yX2_hearReport.cls cX2_hearReport 2 none G)  : ∀ (σ : Sg) (o0 : Nat) (v1 : Int32) (H : Heap) (locs : List Loc) (ls : Array Slot), z_S 0 G ad σ (z_A 0 ad s.heap.size) s.heap H locs → lv_has ls 2 [(0, .ref (ad 2 o0)), (1, .int v1)] → (o0 < z_cnt 2) → f_X2_hearReport  σ o0 v1 = some res → W p l e { frames := 1, cells := 0, slots := 0, locals := 21 } s m args below meth c H locs 0 0 (MQ below (va_Qv (S := Unit) (fun _ => True) (fun _ t => z_W 0 G ad res t.heap) (z_A 0 ad s.heap.size)) args s 0 0 (z_A 0 ad s.heap.size)) (F0 m 0 ls []) := by
  intro σ o0 v1 H locs ls S hl ho0 hf
  unfold f_X2_hearReport at hf
  refine lv_aload_n C.1 C.2.1 dX2_hearReport_0 rfl (lv_at hl 0 rfl) ?_
  refine z_getR C S 2 o0 rfl ho0 cf_2 11 (by decide) _ (gr_2_11 G ad o0) tw_1_122 dX2_hearReport_1 ?_
  refine lv_iload_n C.1 C.2.1 dX2_hearReport_4 rfl (lv_at hl 1 rfl) ?_
  refine lv_iconst (v := (-1)) C.1 C.2.1 dX2_hearReport_5 (by decide) ?_
  obtain ⟨g_6, hf⟩ := gd hf
  obtain ⟨σ1, e_6, hf⟩ := stb hf
  refine z_iast C S 17 o0 rfl ho0 24 (fun _ => rfl) g_6 dX2_hearReport_6 (fun H locs S => ?_)
  rw [← e_6] at S
  refine lv_aload_n C.1 C.2.1 dX2_hearReport_7 rfl (lv_at hl 0 rfl) ?_
  refine lv_iload_n C.1 C.2.1 dX2_hearReport_8 rfl (lv_at hl 1 rfl) ?_
  obtain ⟨σ2, q_9, hf⟩ := bvb hf
  refine z_callV C S 2 o0 rfl ho0 cf_2 ⟨_, rfl⟩ [.int v1] (m_X2_dropCall l G ad σ1 o0 v1 σ2 ho0 q_9 _) kv_X2_dropCall tw_7_10 ⟨Nat.le_of_ble_eq_true rfl, Nat.le_of_ble_eq_true rfl⟩ rfl rfl (Nat.le_of_ble_eq_true rfl) hl.1 ⟨Nat.le_of_ble_eq_true rfl, Nat.le_of_ble_eq_true rfl⟩ dX2_hearReport_9 (fun H locs S => ?_)
  exact z_vret C S hf dX2_hearReport_12
theorem kv_X2_hearReport : KV yX2_hearReport cX2_hearReport 2 none 1 := ⟨tw_7_9, tw_7_7, tw_7_8, tw_1_14, by decide, by decide, by decide +kernel⟩
theorem m_X2_hearReport (l : Launch) (G : Gx) (ad : Ad) (σ : Sg) (o0 : Nat) (v1 : Int32) (σ' : Sg) (ho0 : o0 < z_cnt 2) (hf : f_X2_hearReport σ o0 v1 = some σ') (sz : Nat) : z_MV l yX2_hearReport cX2_hearReport 2 none 1 21 0 G ad σ sz [.ref (ad 2 o0), .int v1] σ' := by
  refine z_begin (by decide +kernel) (Nat.le_of_ble_eq_true rfl) [(0, .ref (ad 2 o0)), (1, .int v1)] rfl (fun p e s m args below meth c ls C hz S hl => ?_)
  subst hz
  exact w_X2_hearReport_0 (res := σ') C σ o0 v1 _ _ _ S hl ho0 hf

theorem dX5_append_0 : decode cX5_append 0 = .ok (.aload_n 0, 1) := by decide +kernel
theorem dX5_append_1 : decode cX5_append 1 = .ok (.getfield 24, 3) := by decide +kernel
theorem dX5_append_4 : decode cX5_append 4 = .ok (.sipush 240, 3) := by decide +kernel
theorem dX5_append_7 : decode cX5_append 7 = .ok (.if_icmp .ge 54, 3) := by decide +kernel
theorem dX5_append_10 : decode cX5_append 10 = .ok (.aload_n 0, 1) := by decide +kernel
theorem dX5_append_11 : decode cX5_append 11 = .ok (.getfield 9, 3) := by decide +kernel
theorem dX5_append_14 : decode cX5_append 14 = .ok (.aload_n 0, 1) := by decide +kernel
theorem dX5_append_15 : decode cX5_append 15 = .ok (.getfield 24, 3) := by decide +kernel
theorem dX5_append_18 : decode cX5_append 18 = .ok (.iload_n 1, 1) := by decide +kernel
theorem dX5_append_19 : decode cX5_append 19 = .ok (.iastore, 1) := by decide +kernel
theorem dX5_append_20 : decode cX5_append 20 = .ok (.aload_n 0, 1) := by decide +kernel
theorem dX5_append_21 : decode cX5_append 21 = .ok (.getfield 15, 3) := by decide +kernel
theorem dX5_append_24 : decode cX5_append 24 = .ok (.aload_n 0, 1) := by decide +kernel
theorem dX5_append_25 : decode cX5_append 25 = .ok (.getfield 24, 3) := by decide +kernel
theorem dX5_append_28 : decode cX5_append 28 = .ok (.iload_n 2, 1) := by decide +kernel
theorem dX5_append_29 : decode cX5_append 29 = .ok (.iastore, 1) := by decide +kernel
theorem dX5_append_30 : decode cX5_append 30 = .ok (.aload_n 0, 1) := by decide +kernel
theorem dX5_append_31 : decode cX5_append 31 = .ok (.getfield 18, 3) := by decide +kernel
theorem dX5_append_34 : decode cX5_append 34 = .ok (.aload_n 0, 1) := by decide +kernel
theorem dX5_append_35 : decode cX5_append 35 = .ok (.getfield 24, 3) := by decide +kernel
theorem dX5_append_38 : decode cX5_append 38 = .ok (.iload_n 3, 1) := by decide +kernel
theorem dX5_append_39 : decode cX5_append 39 = .ok (.iastore, 1) := by decide +kernel
theorem dX5_append_40 : decode cX5_append 40 = .ok (.aload_n 0, 1) := by decide +kernel
theorem dX5_append_41 : decode cX5_append 41 = .ok (.getfield 21, 3) := by decide +kernel
theorem dX5_append_44 : decode cX5_append 44 = .ok (.aload_n 0, 1) := by decide +kernel
theorem dX5_append_45 : decode cX5_append 45 = .ok (.getfield 24, 3) := by decide +kernel
theorem dX5_append_48 : decode cX5_append 48 = .ok (.iload 4, 2) := by decide +kernel
theorem dX5_append_50 : decode cX5_append 50 = .ok (.iastore, 1) := by decide +kernel
theorem dX5_append_51 : decode cX5_append 51 = .ok (.aload_n 0, 1) := by decide +kernel
theorem dX5_append_52 : decode cX5_append 52 = .ok (.dup, 1) := by decide +kernel
theorem dX5_append_53 : decode cX5_append 53 = .ok (.getfield 24, 3) := by decide +kernel
theorem dX5_append_56 : decode cX5_append 56 = .ok (.iconst 1, 1) := by decide +kernel
theorem dX5_append_57 : decode cX5_append 57 = .ok (.iadd, 1) := by decide +kernel
theorem dX5_append_58 : decode cX5_append 58 = .ok (.putfield 24, 3) := by decide +kernel
theorem dX5_append_61 : decode cX5_append 61 = .ok (.return_, 1) := by decide +kernel
/-! BusLifts$Messages.append(IIII)V -/
noncomputable def f_X5_append_61  (σ : Sg)  : Option Sg := some σ
noncomputable def f_X5_append  (σ : Sg) (o0 : Nat) (v1 : Int32) (v2 : Int32) (v3 : Int32) (v4 : Int32) : Option Sg := if 240 ≤ (σ 5 o0 0) then (f_X5_append_61 σ) else (if (σ 5 o0 0) < 0 ∨ 240 ≤ ((σ 5 o0 0)).toNatClampNeg then none else (st (sup σ 20 o0 ((σ 5 o0 0)).toNatClampNeg v1) fun σ1 => (if (σ1 5 o0 0) < 0 ∨ 240 ≤ ((σ1 5 o0 0)).toNatClampNeg then none else (st (sup σ1 21 o0 ((σ1 5 o0 0)).toNatClampNeg v2) fun σ2 => (if (σ2 5 o0 0) < 0 ∨ 240 ≤ ((σ2 5 o0 0)).toNatClampNeg then none else (st (sup σ2 22 o0 ((σ2 5 o0 0)).toNatClampNeg v3) fun σ3 => (if (σ3 5 o0 0) < 0 ∨ 240 ≤ ((σ3 5 o0 0)).toNatClampNeg then none else (st (sup σ3 23 o0 ((σ3 5 o0 0)).toNatClampNeg v4) fun σ4 => (st (sup σ4 5 o0 0 ((σ4 5 o0 0) + 1)) fun σ5 => (f_X5_append_61 σ5))))))))))
set_option maxHeartbeats 4000000 in
set_option maxRecDepth 100000 in
theorem w_X5_append_61 {p : Program} {l : Launch} {e : Env} {s : State} {m : MethodId} {args : Array Value} {below : List Frame} {meth : Method} {c : Code} {G : Gx} {ad : Ad} {res : Sg} (C : Cx p s m args meth c yX5_append.cls cX5_append 5 none G)  : ∀ (σ : Sg)  (H : Heap) (locs : List Loc) (ls : Array Slot), z_S 0 G ad σ (z_A 0 ad s.heap.size) s.heap H locs → lv_has ls 5 [] → f_X5_append_61  σ  = some res → W p l e { frames := 0, cells := 0, slots := 0, locals := 0 } s m args below meth c H locs 0 0 (MQ below (va_Qv (S := Unit) (fun _ => True) (fun _ t => z_W 0 G ad res t.heap) (z_A 0 ad s.heap.size)) args s 0 0 (z_A 0 ad s.heap.size)) (F0 m 61 ls []) := by
  intro σ  H locs ls S hl  hf
  unfold f_X5_append_61 at hf
  exact z_vret C S hf dX5_append_61
set_option maxHeartbeats 4000000 in
set_option maxRecDepth 100000 in
theorem w_X5_append_0 {p : Program} {l : Launch} {e : Env} {s : State} {m : MethodId} {args : Array Value} {below : List Frame} {meth : Method} {c : Code} {G : Gx} {ad : Ad} {res : Sg} (C : Cx p s m args meth c yX5_append.cls cX5_append 5 none G)  : ∀ (σ : Sg) (o0 : Nat) (v1 : Int32) (v2 : Int32) (v3 : Int32) (v4 : Int32) (H : Heap) (locs : List Loc) (ls : Array Slot), z_S 0 G ad σ (z_A 0 ad s.heap.size) s.heap H locs → lv_has ls 5 [(0, .ref (ad 5 o0)), (1, .int v1), (2, .int v2), (3, .int v3), (4, .int v4)] → (o0 < z_cnt 5) → f_X5_append  σ o0 v1 v2 v3 v4 = some res → W p l e { frames := 0, cells := 0, slots := 0, locals := 0 } s m args below meth c H locs 0 0 (MQ below (va_Qv (S := Unit) (fun _ => True) (fun _ t => z_W 0 G ad res t.heap) (z_A 0 ad s.heap.size)) args s 0 0 (z_A 0 ad s.heap.size)) (F0 m 0 ls []) := by
  intro σ o0 v1 v2 v3 v4 H locs ls S hl ho0 hf
  unfold f_X5_append at hf
  refine lv_aload_n C.1 C.2.1 dX5_append_0 rfl (lv_at hl 0 rfl) ?_
  refine z_getI C S 5 o0 rfl ho0 cf_5 0 (by decide) (gi_5_0 G ad o0) tw_1_59 dX5_append_1 ?_
  refine lv_sipush (v := 240) C.1 C.2.1 dX5_append_4 (by decide) ?_
  refine lv_icmp_ge (tgt := 61) C.1 C.2.1 dX5_append_7 (by decide) (fun c_7 => ?_) (fun c_7 => ?_)
  · rw [if_pos c_7] at hf
    exact w_X5_append_61 C _ _ _ _ S (lv_sub hl [] rfl) hf
  · rw [if_neg c_7] at hf
    refine lv_aload_n C.1 C.2.1 dX5_append_10 rfl (lv_at hl 0 rfl) ?_
    refine z_getR C S 5 o0 rfl ho0 cf_5 1 (by decide) _ (gr_5_1 G ad o0) tw_1_63 dX5_append_11 ?_
    refine lv_aload_n C.1 C.2.1 dX5_append_14 rfl (lv_at hl 0 rfl) ?_
    refine z_getI C S 5 o0 rfl ho0 cf_5 0 (by decide) (gi_5_0 G ad o0) tw_1_59 dX5_append_15 ?_
    refine lv_iload_n C.1 C.2.1 dX5_append_18 rfl (lv_at hl 1 rfl) ?_
    obtain ⟨g_19, hf⟩ := gd hf
    obtain ⟨σ1, e_19, hf⟩ := stb hf
    refine z_iast C S 20 o0 rfl ho0 240 (fun _ => rfl) g_19 dX5_append_19 (fun H locs S => ?_)
    rw [← e_19] at S
    refine lv_aload_n C.1 C.2.1 dX5_append_20 rfl (lv_at hl 0 rfl) ?_
    refine z_getR C S 5 o0 rfl ho0 cf_5 2 (by decide) _ (gr_5_2 G ad o0) tw_1_65 dX5_append_21 ?_
    refine lv_aload_n C.1 C.2.1 dX5_append_24 rfl (lv_at hl 0 rfl) ?_
    refine z_getI C S 5 o0 rfl ho0 cf_5 0 (by decide) (gi_5_0 G ad o0) tw_1_59 dX5_append_25 ?_
    refine lv_iload_n C.1 C.2.1 dX5_append_28 rfl (lv_at hl 2 rfl) ?_
    obtain ⟨g_29, hf⟩ := gd hf
    obtain ⟨σ2, e_29, hf⟩ := stb hf
    refine z_iast C S 21 o0 rfl ho0 240 (fun _ => rfl) g_29 dX5_append_29 (fun H locs S => ?_)
    rw [← e_29] at S
    refine lv_aload_n C.1 C.2.1 dX5_append_30 rfl (lv_at hl 0 rfl) ?_
    refine z_getR C S 5 o0 rfl ho0 cf_5 3 (by decide) _ (gr_5_3 G ad o0) tw_1_67 dX5_append_31 ?_
    refine lv_aload_n C.1 C.2.1 dX5_append_34 rfl (lv_at hl 0 rfl) ?_
    refine z_getI C S 5 o0 rfl ho0 cf_5 0 (by decide) (gi_5_0 G ad o0) tw_1_59 dX5_append_35 ?_
    refine lv_iload_n C.1 C.2.1 dX5_append_38 rfl (lv_at hl 3 rfl) ?_
    obtain ⟨g_39, hf⟩ := gd hf
    obtain ⟨σ3, e_39, hf⟩ := stb hf
    refine z_iast C S 22 o0 rfl ho0 240 (fun _ => rfl) g_39 dX5_append_39 (fun H locs S => ?_)
    rw [← e_39] at S
    refine lv_aload_n C.1 C.2.1 dX5_append_40 rfl (lv_at hl 0 rfl) ?_
    refine z_getR C S 5 o0 rfl ho0 cf_5 4 (by decide) _ (gr_5_4 G ad o0) tw_1_69 dX5_append_41 ?_
    refine lv_aload_n C.1 C.2.1 dX5_append_44 rfl (lv_at hl 0 rfl) ?_
    refine z_getI C S 5 o0 rfl ho0 cf_5 0 (by decide) (gi_5_0 G ad o0) tw_1_59 dX5_append_45 ?_
    refine lv_iload C.1 C.2.1 dX5_append_48 (lv_at hl 4 rfl) ?_
    obtain ⟨g_50, hf⟩ := gd hf
    obtain ⟨σ4, e_50, hf⟩ := stb hf
    refine z_iast C S 23 o0 rfl ho0 240 (fun _ => rfl) g_50 dX5_append_50 (fun H locs S => ?_)
    rw [← e_50] at S
    refine lv_aload_n C.1 C.2.1 dX5_append_51 rfl (lv_at hl 0 rfl) ?_
    refine lv_dup C.1 C.2.1 dX5_append_52 rfl ?_
    refine z_getI C S 5 o0 rfl ho0 cf_5 0 (by decide) (gi_5_0 G ad o0) tw_1_59 dX5_append_53 ?_
    refine lv_iconst (v := 1) C.1 C.2.1 dX5_append_56 (by decide) ?_
    refine lv_iadd C.1 C.2.1 dX5_append_57 ?_
    obtain ⟨σ5, e_58, hf⟩ := stb hf
    refine z_putI C S 5 o0 rfl ho0 cf_5 0 (by decide) (pi_5_0 G ad o0) rfl rfl rfl tw_1_59 dX5_append_58 (fun H locs S => ?_)
    rw [← e_58] at S
    exact w_X5_append_61 C _ _ _ _ S (lv_sub hl [] rfl) hf
theorem kv_X5_append : KV yX5_append cX5_append 5 none 4 := ⟨tw_7_95, tw_7_93, tw_7_94, tw_1_13, by decide, by decide, by decide +kernel⟩
theorem m_X5_append (l : Launch) (G : Gx) (ad : Ad) (σ : Sg) (o0 : Nat) (v1 : Int32) (v2 : Int32) (v3 : Int32) (v4 : Int32) (σ' : Sg) (ho0 : o0 < z_cnt 5) (hf : f_X5_append σ o0 v1 v2 v3 v4 = some σ') (sz : Nat) : z_MV l yX5_append cX5_append 5 none 0 0 0 G ad σ sz [.ref (ad 5 o0), .int v1, .int v2, .int v3, .int v4] σ' := by
  refine z_begin (by decide +kernel) (Nat.le_of_ble_eq_true rfl) [(0, .ref (ad 5 o0)), (1, .int v1), (2, .int v2), (3, .int v3), (4, .int v4)] rfl (fun p e s m args below meth c ls C hz S hl => ?_)
  subst hz
  exact w_X5_append_0 (res := σ') C σ o0 v1 v2 v3 v4 _ _ _ S hl ho0 hf

theorem dX4_send_0 : decode cX4_send 0 = .ok (.aload_n 0, 1) := by decide +kernel
theorem dX4_send_1 : decode cX4_send 1 = .ok (.getfield 30, 3) := by decide +kernel
theorem dX4_send_4 : decode cX4_send 4 = .ok (.iload_n 1, 1) := by decide +kernel
theorem dX4_send_5 : decode cX4_send 5 = .ok (.iload_n 2, 1) := by decide +kernel
theorem dX4_send_6 : decode cX4_send 6 = .ok (.iload_n 3, 1) := by decide +kernel
theorem dX4_send_7 : decode cX4_send 7 = .ok (.iload 4, 2) := by decide +kernel
theorem dX4_send_9 : decode cX4_send 9 = .ok (.invokevirtual 90, 3) := by decide +kernel
theorem dX4_send_12 : decode cX4_send 12 = .ok (.aload_n 0, 1) := by decide +kernel
theorem dX4_send_13 : decode cX4_send 13 = .ok (.getfield 34, 3) := by decide +kernel
theorem dX4_send_16 : decode cX4_send 16 = .ok (.iload_n 2, 1) := by decide +kernel
theorem dX4_send_17 : decode cX4_send 17 = .ok (.dup2, 1) := by decide +kernel
theorem dX4_send_18 : decode cX4_send 18 = .ok (.iaload, 1) := by decide +kernel
theorem dX4_send_19 : decode cX4_send 19 = .ok (.iconst 1, 1) := by decide +kernel
theorem dX4_send_20 : decode cX4_send 20 = .ok (.iadd, 1) := by decide +kernel
theorem dX4_send_21 : decode cX4_send 21 = .ok (.iastore, 1) := by decide +kernel
theorem dX4_send_22 : decode cX4_send 22 = .ok (.return_, 1) := by decide +kernel
/-! BusLifts$Lifts.send(IIII)V -/
noncomputable def f_X4_send  (σ : Sg) (o0 : Nat) (v1 : Int32) (v2 : Int32) (v3 : Int32) (v4 : Int32) : Option Sg := bv (f_X5_append σ o0 v1 v2 v3 v4) fun σ1 => (if v2 < 0 ∨ 4 ≤ (v2).toNatClampNeg then none else (if v2 < 0 ∨ 4 ≤ (v2).toNatClampNeg then none else (st (sup σ1 13 o0 (v2).toNatClampNeg ((σ1 13 o0 (v2).toNatClampNeg) + 1)) fun σ2 => (some σ2))))
set_option maxHeartbeats 4000000 in
set_option maxRecDepth 100000 in
theorem w_X4_send_0 {p : Program} {l : Launch} {e : Env} {s : State} {m : MethodId} {args : Array Value} {below : List Frame} {meth : Method} {c : Code} {G : Gx} {ad : Ad} {res : Sg} (C : Cx p s m args meth c yX4_send.cls cX4_send 5 none G)  : ∀ (σ : Sg) (o0 : Nat) (v1 : Int32) (v2 : Int32) (v3 : Int32) (v4 : Int32) (H : Heap) (locs : List Loc) (ls : Array Slot), z_S 0 G ad σ (z_A 0 ad s.heap.size) s.heap H locs → lv_has ls 5 [(0, .ref (ad 4 o0)), (1, .int v1), (2, .int v2), (3, .int v3), (4, .int v4)] → (o0 < z_cnt 4) → f_X4_send  σ o0 v1 v2 v3 v4 = some res → W p l e { frames := 1, cells := 0, slots := 0, locals := 24 } s m args below meth c H locs 0 0 (MQ below (va_Qv (S := Unit) (fun _ => True) (fun _ t => z_W 0 G ad res t.heap) (z_A 0 ad s.heap.size)) args s 0 0 (z_A 0 ad s.heap.size)) (F0 m 0 ls []) := by
  intro σ o0 v1 v2 v3 v4 H locs ls S hl ho0 hf
  unfold f_X4_send at hf
  refine lv_aload_n C.1 C.2.1 dX4_send_0 rfl (lv_at hl 0 rfl) ?_
  refine z_getR C S 4 o0 rfl ho0 cf_4 8 (by decide) _ (gr_4_8 G ad o0) tw_2_7 dX4_send_1 ?_
  refine lv_iload_n C.1 C.2.1 dX4_send_4 rfl (lv_at hl 1 rfl) ?_
  refine lv_iload_n C.1 C.2.1 dX4_send_5 rfl (lv_at hl 2 rfl) ?_
  refine lv_iload_n C.1 C.2.1 dX4_send_6 rfl (lv_at hl 3 rfl) ?_
  refine lv_iload C.1 C.2.1 dX4_send_7 (lv_at hl 4 rfl) ?_
  obtain ⟨σ1, q_9, hf⟩ := bvb hf
  refine z_callV C S 5 o0 rfl (oc5 ho0) cf_5 ⟨_, rfl⟩ [.int v1, .int v2, .int v3, .int v4] (m_X5_append l G ad σ o0 v1 v2 v3 v4 σ1 (oc5 ho0) q_9 _) kv_X5_append tw_7_92 ⟨Nat.le_of_ble_eq_true rfl, Nat.le_of_ble_eq_true rfl⟩ rfl rfl (Nat.le_of_ble_eq_true rfl) hl.1 ⟨Nat.le_of_ble_eq_true rfl, Nat.le_of_ble_eq_true rfl⟩ dX4_send_9 (fun H locs S => ?_)
  refine lv_aload_n C.1 C.2.1 dX4_send_12 rfl (lv_at hl 0 rfl) ?_
  refine z_getR C S 4 o0 rfl ho0 cf_4 9 (by decide) _ (gr_4_9 G ad o0) tw_2_10 dX4_send_13 ?_
  refine lv_iload_n C.1 C.2.1 dX4_send_16 rfl (lv_at hl 2 rfl) ?_
  refine lv_dup2_11 C.1 C.2.1 dX4_send_17 rfl rfl ?_
  obtain ⟨g_18, hf⟩ := gd hf
  refine z_iald C S 13 o0 rfl ho0 4 (fun _ => rfl) g_18 dX4_send_18 ?_
  refine lv_iconst (v := 1) C.1 C.2.1 dX4_send_19 (by decide) ?_
  refine lv_iadd C.1 C.2.1 dX4_send_20 ?_
  obtain ⟨g_21, hf⟩ := gd hf
  obtain ⟨σ2, e_21, hf⟩ := stb hf
  refine z_iast C S 13 o0 rfl ho0 4 (fun _ => rfl) g_21 dX4_send_21 (fun H locs S => ?_)
  rw [← e_21] at S
  exact z_vret C S hf dX4_send_22
theorem kv_X4_send : KV yX4_send cX4_send 5 none 4 := ⟨tw_7_91, tw_7_89, tw_7_90, tw_1_12, by decide, by decide, by decide +kernel⟩
theorem m_X4_send (l : Launch) (G : Gx) (ad : Ad) (σ : Sg) (o0 : Nat) (v1 : Int32) (v2 : Int32) (v3 : Int32) (v4 : Int32) (σ' : Sg) (ho0 : o0 < z_cnt 4) (hf : f_X4_send σ o0 v1 v2 v3 v4 = some σ') (sz : Nat) : z_MV l yX4_send cX4_send 5 none 1 24 0 G ad σ sz [.ref (ad 4 o0), .int v1, .int v2, .int v3, .int v4] σ' := by
  refine z_begin (by decide +kernel) (Nat.le_of_ble_eq_true rfl) [(0, .ref (ad 4 o0)), (1, .int v1), (2, .int v2), (3, .int v3), (4, .int v4)] rfl (fun p e s m args below meth c ls C hz S hl => ?_)
  subst hz
  exact w_X4_send_0 (res := σ') C σ o0 v1 v2 v3 v4 _ _ _ S hl ho0 hf

theorem dX4_drawn_0 : decode cX4_drawn 0 = .ok (.aload_n 0, 1) := by decide +kernel
theorem dX4_drawn_1 : decode cX4_drawn 1 = .ok (.ldc 94, 2) := by decide +kernel
theorem dX4_drawn_3 : decode cX4_drawn 3 = .ok (.aload_n 0, 1) := by decide +kernel
theorem dX4_drawn_4 : decode cX4_drawn 4 = .ok (.getfield 58, 3) := by decide +kernel
theorem dX4_drawn_7 : decode cX4_drawn 7 = .ok (.imul, 1) := by decide +kernel
theorem dX4_drawn_8 : decode cX4_drawn 8 = .ok (.sipush 12345, 3) := by decide +kernel
theorem dX4_drawn_11 : decode cX4_drawn 11 = .ok (.iadd, 1) := by decide +kernel
theorem dX4_drawn_12 : decode cX4_drawn 12 = .ok (.putfield 58, 3) := by decide +kernel
theorem dX4_drawn_15 : decode cX4_drawn 15 = .ok (.aload_n 0, 1) := by decide +kernel
theorem dX4_drawn_16 : decode cX4_drawn 16 = .ok (.getfield 58, 3) := by decide +kernel
theorem dX4_drawn_19 : decode cX4_drawn 19 = .ok (.bipush 16, 2) := by decide +kernel
theorem dX4_drawn_21 : decode cX4_drawn 21 = .ok (.iushr, 1) := by decide +kernel
theorem dX4_drawn_22 : decode cX4_drawn 22 = .ok (.bipush 100, 2) := by decide +kernel
theorem dX4_drawn_24 : decode cX4_drawn 24 = .ok (.irem, 1) := by decide +kernel
theorem dX4_drawn_25 : decode cX4_drawn 25 = .ok (.ireturn, 1) := by decide +kernel
/-! BusLifts$Lifts.drawn()I -/
noncomputable def f_X4_drawn  (σ : Sg) (o0 : Nat) : Option (Int32 × Sg) := st (sup σ 4 o0 4 ((1103515245 * (σ 4 o0 4)) + 12345)) fun σ1 => (some ((jrem (jush (σ1 4 o0 4) 16) 100), σ1))
set_option maxHeartbeats 4000000 in
set_option maxRecDepth 100000 in
theorem w_X4_drawn_0 {p : Program} {l : Launch} {e : Env} {s : State} {m : MethodId} {args : Array Value} {below : List Frame} {meth : Method} {c : Code} {G : Gx} {ad : Ad} {res : Int32 × Sg} (C : Cx p s m args meth c yX4_drawn.cls cX4_drawn 1 (Option.some FieldType.int) G)  : ∀ (σ : Sg) (o0 : Nat) (H : Heap) (locs : List Loc) (ls : Array Slot), z_S 0 G ad σ (z_A 0 ad s.heap.size) s.heap H locs → lv_has ls 1 [(0, .ref (ad 4 o0))] → (o0 < z_cnt 4) → f_X4_drawn  σ o0 = some res → W p l e { frames := 0, cells := 0, slots := 0, locals := 0 } s m args below meth c H locs 0 0 (MQ below (va_Qi (S := Unit) (fun r1 _ => r1 = res.1) (fun _ t => z_W 0 G ad res.2 t.heap) (z_A 0 ad s.heap.size)) args s 0 0 (z_A 0 ad s.heap.size)) (F0 m 0 ls []) := by
  intro σ o0 H locs ls S hl ho0 hf
  unfold f_X4_drawn at hf
  refine lv_aload_n C.1 C.2.1 dX4_drawn_0 rfl (lv_at hl 0 rfl) ?_
  refine z_ldc (v := 1103515245) C tw_7_112 dX4_drawn_1 ?_
  refine lv_aload_n C.1 C.2.1 dX4_drawn_3 rfl (lv_at hl 0 rfl) ?_
  refine z_getI C S 4 o0 rfl ho0 cf_4 4 (by decide) (gi_4_4 G ad o0) tw_1_234 dX4_drawn_4 ?_
  refine lv_imul C.1 C.2.1 dX4_drawn_7 ?_
  refine lv_sipush (v := 12345) C.1 C.2.1 dX4_drawn_8 (by decide) ?_
  refine lv_iadd C.1 C.2.1 dX4_drawn_11 ?_
  obtain ⟨σ1, e_12, hf⟩ := stb hf
  refine z_putI C S 4 o0 rfl ho0 cf_4 4 (by decide) (pi_4_4 G ad o0) rfl rfl rfl tw_1_234 dX4_drawn_12 (fun H locs S => ?_)
  rw [← e_12] at S
  refine lv_aload_n C.1 C.2.1 dX4_drawn_15 rfl (lv_at hl 0 rfl) ?_
  refine z_getI C S 4 o0 rfl ho0 cf_4 4 (by decide) (gi_4_4 G ad o0) tw_1_234 dX4_drawn_16 ?_
  refine lv_bipush (v := 16) C.1 C.2.1 dX4_drawn_19 (by decide) ?_
  refine lv_iushr (v := (jush (σ1 4 o0 4) 16)) C.1 C.2.1 dX4_drawn_21 rfl ?_
  refine lv_bipush (v := 100) C.1 C.2.1 dX4_drawn_22 (by decide) ?_
  refine lv_irem C.1 C.2.1 dX4_drawn_24 (by decide) ?_
  show W _ _ _ _ _ _ _ _ _ _ _ _ _ _ _ (F0 m _ ls (.int (jrem (jush (σ1 4 o0 4) 16) 100) :: _))
  exact z_iret C S hf dX4_drawn_25
theorem kv_X4_drawn : KV yX4_drawn cX4_drawn 1 (Option.some FieldType.int) 0 := ⟨tw_7_111, tw_7_109, tw_7_110, tw_1_12, by decide, by decide, by decide +kernel⟩
theorem m_X4_drawn (l : Launch) (G : Gx) (ad : Ad) (σ : Sg) (o0 : Nat) (r : Int32) (σ' : Sg) (ho0 : o0 < z_cnt 4) (hf : f_X4_drawn σ o0 = some (r, σ')) (sz : Nat) : z_MI l yX4_drawn cX4_drawn 1 (Option.some FieldType.int) 0 0 0 G ad σ sz [.ref (ad 4 o0)] r σ' := by
  refine z_begin (by decide +kernel) (Nat.le_of_ble_eq_true rfl) [(0, .ref (ad 4 o0))] rfl (fun p e s m args below meth c ls C hz S hl => ?_)
  subst hz
  exact w_X4_drawn_0 (res := (r, σ')) C σ o0 _ _ _ S hl ho0 hf

theorem dX4_isJammedCar_0 : decode cX4_isJammedCar 0 = .ok (.iload_n 1, 1) := by decide +kernel
theorem dX4_isJammedCar_1 : decode cX4_isJammedCar 1 = .ok (.ifCond .lt 27, 3) := by decide +kernel
theorem dX4_isJammedCar_4 : decode cX4_isJammedCar 4 = .ok (.iload_n 1, 1) := by decide +kernel
theorem dX4_isJammedCar_5 : decode cX4_isJammedCar 5 = .ok (.aload_n 0, 1) := by decide +kernel
theorem dX4_isJammedCar_6 : decode cX4_isJammedCar 6 = .ok (.getfield 49, 3) := by decide +kernel
theorem dX4_isJammedCar_9 : decode cX4_isJammedCar 9 = .ok (.if_icmp .ge 19, 3) := by decide +kernel
theorem dX4_isJammedCar_12 : decode cX4_isJammedCar 12 = .ok (.aload_n 0, 1) := by decide +kernel
theorem dX4_isJammedCar_13 : decode cX4_isJammedCar 13 = .ok (.getfield 17, 3) := by decide +kernel
theorem dX4_isJammedCar_16 : decode cX4_isJammedCar 16 = .ok (.iload_n 1, 1) := by decide +kernel
theorem dX4_isJammedCar_17 : decode cX4_isJammedCar 17 = .ok (.aaload, 1) := by decide +kernel
theorem dX4_isJammedCar_18 : decode cX4_isJammedCar 18 = .ok (.getfield 95, 3) := by decide +kernel
theorem dX4_isJammedCar_21 : decode cX4_isJammedCar 21 = .ok (.ifCond .eq 7, 3) := by decide +kernel
theorem dX4_isJammedCar_24 : decode cX4_isJammedCar 24 = .ok (.iconst 1, 1) := by decide +kernel
theorem dX4_isJammedCar_25 : decode cX4_isJammedCar 25 = .ok (.goto 4, 3) := by decide +kernel
theorem dX4_isJammedCar_28 : decode cX4_isJammedCar 28 = .ok (.iconst 0, 1) := by decide +kernel
theorem dX4_isJammedCar_29 : decode cX4_isJammedCar 29 = .ok (.ireturn, 1) := by decide +kernel
/-! BusLifts$Lifts.isJammedCar(I)Z -/
noncomputable def f_X4_isJammedCar_29  (σ : Sg) (v100 : Int32) : Option (Int32 × Sg) := if ¬ (v100 = 0 ∨ v100 = 1) then none else (some (v100, σ))
noncomputable def f_X4_isJammedCar_28  (σ : Sg)  : Option (Int32 × Sg) := f_X4_isJammedCar_29 σ 0
noncomputable def f_X4_isJammedCar  (σ : Sg) (o0 : Nat) (v1 : Int32) : Option (Int32 × Sg) := if v1 < 0 then (f_X4_isJammedCar_28 σ) else (if (σ 4 o0 1) ≤ v1 then (f_X4_isJammedCar_28 σ) else (if v1 < 0 ∨ 4 ≤ (v1).toNatClampNeg then none else (if (σ 2 (4 * o0 + (v1).toNatClampNeg) 4) = 0 then (f_X4_isJammedCar_28 σ) else (f_X4_isJammedCar_29 σ 1))))
set_option maxHeartbeats 4000000 in
set_option maxRecDepth 100000 in
theorem w_X4_isJammedCar_29 {p : Program} {l : Launch} {e : Env} {s : State} {m : MethodId} {args : Array Value} {below : List Frame} {meth : Method} {c : Code} {G : Gx} {ad : Ad} {res : Int32 × Sg} (C : Cx p s m args meth c yX4_isJammedCar.cls cX4_isJammedCar 2 (Option.some FieldType.boolean) G)  : ∀ (σ : Sg) (v100 : Int32) (H : Heap) (locs : List Loc) (ls : Array Slot), z_S 0 G ad σ (z_A 0 ad s.heap.size) s.heap H locs → lv_has ls 2 [] → f_X4_isJammedCar_29  σ v100 = some res → W p l e { frames := 0, cells := 0, slots := 0, locals := 0 } s m args below meth c H locs 0 0 (MQ below (va_Qi (S := Unit) (fun r1 _ => r1 = res.1) (fun _ t => z_W 0 G ad res.2 t.heap) (z_A 0 ad s.heap.size)) args s 0 0 (z_A 0 ad s.heap.size)) (F0 m 29 ls [.int v100]) := by
  intro σ v100 H locs ls S hl  hf
  unfold f_X4_isJammedCar_29 at hf
  obtain ⟨g_29, hf⟩ := gd hf
  exact z_zret C S (nbz g_29).1 hf dX4_isJammedCar_29
set_option maxHeartbeats 4000000 in
set_option maxRecDepth 100000 in
theorem w_X4_isJammedCar_28 {p : Program} {l : Launch} {e : Env} {s : State} {m : MethodId} {args : Array Value} {below : List Frame} {meth : Method} {c : Code} {G : Gx} {ad : Ad} {res : Int32 × Sg} (C : Cx p s m args meth c yX4_isJammedCar.cls cX4_isJammedCar 2 (Option.some FieldType.boolean) G)  : ∀ (σ : Sg)  (H : Heap) (locs : List Loc) (ls : Array Slot), z_S 0 G ad σ (z_A 0 ad s.heap.size) s.heap H locs → lv_has ls 2 [] → f_X4_isJammedCar_28  σ  = some res → W p l e { frames := 0, cells := 0, slots := 0, locals := 0 } s m args below meth c H locs 0 0 (MQ below (va_Qi (S := Unit) (fun r1 _ => r1 = res.1) (fun _ t => z_W 0 G ad res.2 t.heap) (z_A 0 ad s.heap.size)) args s 0 0 (z_A 0 ad s.heap.size)) (F0 m 28 ls []) := by
  intro σ  H locs ls S hl  hf
  unfold f_X4_isJammedCar_28 at hf
  refine lv_iconst (v := 0) C.1 C.2.1 dX4_isJammedCar_28 (by decide) ?_
  exact w_X4_isJammedCar_29 C _ 0 _ _ _ S (lv_sub hl [] rfl) hf
set_option maxHeartbeats 4000000 in
set_option maxRecDepth 100000 in
theorem w_X4_isJammedCar_0 {p : Program} {l : Launch} {e : Env} {s : State} {m : MethodId} {args : Array Value} {below : List Frame} {meth : Method} {c : Code} {G : Gx} {ad : Ad} {res : Int32 × Sg} (C : Cx p s m args meth c yX4_isJammedCar.cls cX4_isJammedCar 2 (Option.some FieldType.boolean) G)  : ∀ (σ : Sg) (o0 : Nat) (v1 : Int32) (H : Heap) (locs : List Loc) (ls : Array Slot), z_S 0 G ad σ (z_A 0 ad s.heap.size) s.heap H locs → lv_has ls 2 [(0, .ref (ad 4 o0)), (1, .int v1)] → (o0 < z_cnt 4) → f_X4_isJammedCar  σ o0 v1 = some res → W p l e { frames := 0, cells := 0, slots := 0, locals := 0 } s m args below meth c H locs 0 0 (MQ below (va_Qi (S := Unit) (fun r1 _ => r1 = res.1) (fun _ t => z_W 0 G ad res.2 t.heap) (z_A 0 ad s.heap.size)) args s 0 0 (z_A 0 ad s.heap.size)) (F0 m 0 ls []) := by
  intro σ o0 v1 H locs ls S hl ho0 hf
  unfold f_X4_isJammedCar at hf
  refine lv_iload_n C.1 C.2.1 dX4_isJammedCar_0 rfl (lv_at hl 1 rfl) ?_
  refine lv_if_lt (tgt := 28) C.1 C.2.1 dX4_isJammedCar_1 (by decide) (fun c_1 => ?_) (fun c_1 => ?_)
  · rw [if_pos c_1] at hf
    exact w_X4_isJammedCar_28 C _ _ _ _ S (lv_sub hl [] rfl) hf
  · rw [if_neg c_1] at hf
    refine lv_iload_n C.1 C.2.1 dX4_isJammedCar_4 rfl (lv_at hl 1 rfl) ?_
    refine lv_aload_n C.1 C.2.1 dX4_isJammedCar_5 rfl (lv_at hl 0 rfl) ?_
    refine z_getI C S 4 o0 rfl ho0 cf_4 1 (by decide) (gi_4_1 G ad o0) tw_1_223 dX4_isJammedCar_6 ?_
    refine lv_icmp_ge (tgt := 28) C.1 C.2.1 dX4_isJammedCar_9 (by decide) (fun c_9 => ?_) (fun c_9 => ?_)
    · rw [if_pos c_9] at hf
      exact w_X4_isJammedCar_28 C _ _ _ _ S (lv_sub hl [] rfl) hf
    · rw [if_neg c_9] at hf
      refine lv_aload_n C.1 C.2.1 dX4_isJammedCar_12 rfl (lv_at hl 0 rfl) ?_
      refine z_getR C S 4 o0 rfl ho0 cf_4 6 (by decide) _ (gr_4_6 G ad o0) tw_2_1 dX4_isJammedCar_13 ?_
      refine lv_iload_n C.1 C.2.1 dX4_isJammedCar_16 rfl (lv_at hl 1 rfl) ?_
      obtain ⟨g_17, hf⟩ := gd hf
      refine z_aald C S 25 o0 rfl ho0 4 1 2 (4 * o0) rfl (fun _ => rfl) g_17 dX4_isJammedCar_17 ?_
      refine z_getI C S 2 (4 * o0 + (v1).toNatClampNeg) rfl (oc2 ho0 g_17) cf_2 4 (by decide) (gi_2_4 G ad (4 * o0 + (v1).toNatClampNeg)) tw_1_101 dX4_isJammedCar_18 ?_
      refine lv_if_eq (tgt := 28) C.1 C.2.1 dX4_isJammedCar_21 (by decide) (fun c_21 => ?_) (fun c_21 => ?_)
      · rw [if_pos c_21] at hf
        exact w_X4_isJammedCar_28 C _ _ _ _ S (lv_sub hl [] rfl) hf
      · rw [if_neg c_21] at hf
        refine lv_iconst (v := 1) C.1 C.2.1 dX4_isJammedCar_24 (by decide) ?_
        refine lv_goto (tgt := 29) C.1 C.2.1 dX4_isJammedCar_25 (by decide) ?_
        exact w_X4_isJammedCar_29 C _ 1 _ _ _ S (lv_sub hl [] rfl) hf
theorem kv_X4_isJammedCar : KV yX4_isJammedCar cX4_isJammedCar 2 (Option.some FieldType.boolean) 1 := ⟨tw_7_116, tw_7_114, tw_7_115, tw_1_12, by decide, by decide, by decide +kernel⟩
theorem m_X4_isJammedCar (l : Launch) (G : Gx) (ad : Ad) (σ : Sg) (o0 : Nat) (v1 : Int32) (r : Int32) (σ' : Sg) (ho0 : o0 < z_cnt 4) (hf : f_X4_isJammedCar σ o0 v1 = some (r, σ')) (sz : Nat) : z_MI l yX4_isJammedCar cX4_isJammedCar 2 (Option.some FieldType.boolean) 0 0 0 G ad σ sz [.ref (ad 4 o0), .int v1] r σ' := by
  refine z_begin (by decide +kernel) (Nat.le_of_ble_eq_true rfl) [(0, .ref (ad 4 o0)), (1, .int v1)] rfl (fun p e s m args below meth c ls C hz S hl => ?_)
  subst hz
  exact w_X4_isJammedCar_0 (res := (r, σ')) C σ o0 v1 _ _ _ S hl ho0 hf

theorem dX2_causeOf_0 : decode cX2_causeOf 0 = .ok (.aload_n 0, 1) := by decide +kernel
theorem dX2_causeOf_1 : decode cX2_causeOf 1 = .ok (.iload_n 1, 1) := by decide +kernel
theorem dX2_causeOf_2 : decode cX2_causeOf 2 = .ok (.iconst 3, 1) := by decide +kernel
theorem dX2_causeOf_3 : decode cX2_causeOf 3 = .ok (.invokevirtual 83, 3) := by decide +kernel
theorem dX2_causeOf_6 : decode cX2_causeOf 6 = .ok (.ifCond .eq 5, 3) := by decide +kernel
theorem dX2_causeOf_9 : decode cX2_causeOf 9 = .ok (.iconst 1, 1) := by decide +kernel
theorem dX2_causeOf_10 : decode cX2_causeOf 10 = .ok (.ireturn, 1) := by decide +kernel
theorem dX2_causeOf_11 : decode cX2_causeOf 11 = .ok (.aload_n 0, 1) := by decide +kernel
theorem dX2_causeOf_12 : decode cX2_causeOf 12 = .ok (.iload_n 1, 1) := by decide +kernel
theorem dX2_causeOf_13 : decode cX2_causeOf 13 = .ok (.iconst 2, 1) := by decide +kernel
theorem dX2_causeOf_14 : decode cX2_causeOf 14 = .ok (.invokevirtual 83, 3) := by decide +kernel
theorem dX2_causeOf_17 : decode cX2_causeOf 17 = .ok (.ifCond .eq 5, 3) := by decide +kernel
theorem dX2_causeOf_20 : decode cX2_causeOf 20 = .ok (.iconst 2, 1) := by decide +kernel
theorem dX2_causeOf_21 : decode cX2_causeOf 21 = .ok (.ireturn, 1) := by decide +kernel
theorem dX2_causeOf_22 : decode cX2_causeOf 22 = .ok (.aload_n 0, 1) := by decide +kernel
theorem dX2_causeOf_23 : decode cX2_causeOf 23 = .ok (.iload_n 1, 1) := by decide +kernel
theorem dX2_causeOf_24 : decode cX2_causeOf 24 = .ok (.iconst 1, 1) := by decide +kernel
theorem dX2_causeOf_25 : decode cX2_causeOf 25 = .ok (.invokevirtual 83, 3) := by decide +kernel
theorem dX2_causeOf_28 : decode cX2_causeOf 28 = .ok (.ifCond .eq 7, 3) := by decide +kernel
theorem dX2_causeOf_31 : decode cX2_causeOf 31 = .ok (.iconst 3, 1) := by decide +kernel
theorem dX2_causeOf_32 : decode cX2_causeOf 32 = .ok (.goto 4, 3) := by decide +kernel
theorem dX2_causeOf_35 : decode cX2_causeOf 35 = .ok (.iconst 4, 1) := by decide +kernel
theorem dX2_causeOf_36 : decode cX2_causeOf 36 = .ok (.ireturn, 1) := by decide +kernel
/-! BusLifts$Car.causeOf(I)I -/
noncomputable def f_X2_causeOf_36  (σ : Sg) (v100 : Int32) : Option (Int32 × Sg) := some (v100, σ)
noncomputable def f_X2_causeOf  (σ : Sg) (o0 : Nat) (v1 : Int32) : Option (Int32 × Sg) := bi (f_X2_lost σ o0 v1 3) fun r2 σ1 => (if r2 = 0 then (bi (f_X2_lost σ1 o0 v1 2) fun r4 σ3 => (if r4 = 0 then (bi (f_X2_lost σ3 o0 v1 1) fun r6 σ5 => (if r6 = 0 then (f_X2_causeOf_36 σ5 4) else (f_X2_causeOf_36 σ5 3))) else (some (2, σ3)))) else (some (1, σ1)))
set_option maxHeartbeats 4000000 in
set_option maxRecDepth 100000 in
theorem w_X2_causeOf_36 {p : Program} {l : Launch} {e : Env} {s : State} {m : MethodId} {args : Array Value} {below : List Frame} {meth : Method} {c : Code} {G : Gx} {ad : Ad} {res : Int32 × Sg} (C : Cx p s m args meth c yX2_causeOf.cls cX2_causeOf 2 (Option.some FieldType.int) G)  : ∀ (σ : Sg) (v100 : Int32) (H : Heap) (locs : List Loc) (ls : Array Slot), z_S 0 G ad σ (z_A 0 ad s.heap.size) s.heap H locs → lv_has ls 2 [] → f_X2_causeOf_36  σ v100 = some res → W p l e { frames := 1, cells := 0, slots := 0, locals := 22 } s m args below meth c H locs 0 0 (MQ below (va_Qi (S := Unit) (fun r1 _ => r1 = res.1) (fun _ t => z_W 0 G ad res.2 t.heap) (z_A 0 ad s.heap.size)) args s 0 0 (z_A 0 ad s.heap.size)) (F0 m 36 ls [.int v100]) := by
  intro σ v100 H locs ls S hl  hf
  unfold f_X2_causeOf_36 at hf
  exact z_iret C S hf dX2_causeOf_36
set_option maxHeartbeats 4000000 in
set_option maxRecDepth 100000 in
theorem w_X2_causeOf_0 {p : Program} {l : Launch} {e : Env} {s : State} {m : MethodId} {args : Array Value} {below : List Frame} {meth : Method} {c : Code} {G : Gx} {ad : Ad} {res : Int32 × Sg} (C : Cx p s m args meth c yX2_causeOf.cls cX2_causeOf 2 (Option.some FieldType.int) G)  : ∀ (σ : Sg) (o0 : Nat) (v1 : Int32) (H : Heap) (locs : List Loc) (ls : Array Slot), z_S 0 G ad σ (z_A 0 ad s.heap.size) s.heap H locs → lv_has ls 2 [(0, .ref (ad 2 o0)), (1, .int v1)] → (o0 < z_cnt 2) → f_X2_causeOf  σ o0 v1 = some res → W p l e { frames := 1, cells := 0, slots := 0, locals := 22 } s m args below meth c H locs 0 0 (MQ below (va_Qi (S := Unit) (fun r1 _ => r1 = res.1) (fun _ t => z_W 0 G ad res.2 t.heap) (z_A 0 ad s.heap.size)) args s 0 0 (z_A 0 ad s.heap.size)) (F0 m 0 ls []) := by
  intro σ o0 v1 H locs ls S hl ho0 hf
  unfold f_X2_causeOf at hf
  refine lv_aload_n C.1 C.2.1 dX2_causeOf_0 rfl (lv_at hl 0 rfl) ?_
  refine lv_iload_n C.1 C.2.1 dX2_causeOf_1 rfl (lv_at hl 1 rfl) ?_
  refine lv_iconst (v := 3) C.1 C.2.1 dX2_causeOf_2 (by decide) ?_
  obtain ⟨r2, σ1, q_3, hf⟩ := bib hf
  refine z_callI C S 2 o0 rfl ho0 cf_2 ⟨_, rfl⟩ [.int v1, .int 3] (m_X2_lost l G ad σ o0 v1 3 r2 σ1 ho0 q_3 _) kv_X2_lost tw_7_177 ⟨Nat.le_of_ble_eq_true rfl, Nat.le_of_ble_eq_true rfl⟩ rfl rfl (Nat.le_of_ble_eq_true rfl) hl.1 ⟨Nat.le_of_ble_eq_true rfl, Nat.le_of_ble_eq_true rfl⟩ dX2_causeOf_3 (fun H locs S => ?_)
  refine lv_if_eq (tgt := 11) C.1 C.2.1 dX2_causeOf_6 (by decide) (fun c_6 => ?_) (fun c_6 => ?_)
  · rw [if_pos c_6] at hf
    refine lv_aload_n C.1 C.2.1 dX2_causeOf_11 rfl (lv_at hl 0 rfl) ?_
    refine lv_iload_n C.1 C.2.1 dX2_causeOf_12 rfl (lv_at hl 1 rfl) ?_
    refine lv_iconst (v := 2) C.1 C.2.1 dX2_causeOf_13 (by decide) ?_
    obtain ⟨r4, σ3, q_14, hf⟩ := bib hf
    refine z_callI C S 2 o0 rfl ho0 cf_2 ⟨_, rfl⟩ [.int v1, .int 2] (m_X2_lost l G ad σ1 o0 v1 2 r4 σ3 ho0 q_14 _) kv_X2_lost tw_7_177 ⟨Nat.le_of_ble_eq_true rfl, Nat.le_of_ble_eq_true rfl⟩ rfl rfl (Nat.le_of_ble_eq_true rfl) hl.1 ⟨Nat.le_of_ble_eq_true rfl, Nat.le_of_ble_eq_true rfl⟩ dX2_causeOf_14 (fun H locs S => ?_)
    refine lv_if_eq (tgt := 22) C.1 C.2.1 dX2_causeOf_17 (by decide) (fun c_17 => ?_) (fun c_17 => ?_)
    · rw [if_pos c_17] at hf
      refine lv_aload_n C.1 C.2.1 dX2_causeOf_22 rfl (lv_at hl 0 rfl) ?_
      refine lv_iload_n C.1 C.2.1 dX2_causeOf_23 rfl (lv_at hl 1 rfl) ?_
      refine lv_iconst (v := 1) C.1 C.2.1 dX2_causeOf_24 (by decide) ?_
      obtain ⟨r6, σ5, q_25, hf⟩ := bib hf
      refine z_callI C S 2 o0 rfl ho0 cf_2 ⟨_, rfl⟩ [.int v1, .int 1] (m_X2_lost l G ad σ3 o0 v1 1 r6 σ5 ho0 q_25 _) kv_X2_lost tw_7_177 ⟨Nat.le_of_ble_eq_true rfl, Nat.le_of_ble_eq_true rfl⟩ rfl rfl (Nat.le_of_ble_eq_true rfl) hl.1 ⟨Nat.le_of_ble_eq_true rfl, Nat.le_of_ble_eq_true rfl⟩ dX2_causeOf_25 (fun H locs S => ?_)
      refine lv_if_eq (tgt := 35) C.1 C.2.1 dX2_causeOf_28 (by decide) (fun c_28 => ?_) (fun c_28 => ?_)
      · rw [if_pos c_28] at hf
        refine lv_iconst (v := 4) C.1 C.2.1 dX2_causeOf_35 (by decide) ?_
        exact w_X2_causeOf_36 C _ 4 _ _ _ S (lv_sub hl [] rfl) hf
      · rw [if_neg c_28] at hf
        refine lv_iconst (v := 3) C.1 C.2.1 dX2_causeOf_31 (by decide) ?_
        refine lv_goto (tgt := 36) C.1 C.2.1 dX2_causeOf_32 (by decide) ?_
        exact w_X2_causeOf_36 C _ 3 _ _ _ S (lv_sub hl [] rfl) hf
    · rw [if_neg c_17] at hf
      refine lv_iconst (v := 2) C.1 C.2.1 dX2_causeOf_20 (by decide) ?_
      exact z_iret C S hf dX2_causeOf_21
  · rw [if_neg c_6] at hf
    refine lv_iconst (v := 1) C.1 C.2.1 dX2_causeOf_9 (by decide) ?_
    exact z_iret C S hf dX2_causeOf_10
theorem kv_X2_causeOf : KV yX2_causeOf cX2_causeOf 2 (Option.some FieldType.int) 1 := ⟨tw_7_176, tw_7_174, tw_7_175, tw_1_14, by decide, by decide, by decide +kernel⟩
theorem m_X2_causeOf (l : Launch) (G : Gx) (ad : Ad) (σ : Sg) (o0 : Nat) (v1 : Int32) (r : Int32) (σ' : Sg) (ho0 : o0 < z_cnt 2) (hf : f_X2_causeOf σ o0 v1 = some (r, σ')) (sz : Nat) : z_MI l yX2_causeOf cX2_causeOf 2 (Option.some FieldType.int) 1 22 0 G ad σ sz [.ref (ad 2 o0), .int v1] r σ' := by
  refine z_begin (by decide +kernel) (Nat.le_of_ble_eq_true rfl) [(0, .ref (ad 2 o0)), (1, .int v1)] rfl (fun p e s m args below meth c ls C hz S hl => ?_)
  subst hz
  exact w_X2_causeOf_0 (res := (r, σ')) C σ o0 v1 _ _ _ S hl ho0 hf
