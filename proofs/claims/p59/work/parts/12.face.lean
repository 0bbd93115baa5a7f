theorem dX6_isBlank_0 : decode cX6_isBlank 0 = .ok (.iload_n 0, 1) := by decide +kernel
theorem dX6_isBlank_1 : decode cX6_isBlank 1 = .ok (.bipush 32, 2) := by decide +kernel
theorem dX6_isBlank_3 : decode cX6_isBlank 3 = .ok (.if_icmp .eq 9, 3) := by decide +kernel
theorem dX6_isBlank_6 : decode cX6_isBlank 6 = .ok (.iload_n 0, 1) := by decide +kernel
theorem dX6_isBlank_7 : decode cX6_isBlank 7 = .ok (.bipush 10, 2) := by decide +kernel
theorem dX6_isBlank_9 : decode cX6_isBlank 9 = .ok (.if_icmp .ne 7, 3) := by decide +kernel
theorem dX6_isBlank_12 : decode cX6_isBlank 12 = .ok (.iconst 1, 1) := by decide +kernel
theorem dX6_isBlank_13 : decode cX6_isBlank 13 = .ok (.goto 4, 3) := by decide +kernel
theorem dX6_isBlank_16 : decode cX6_isBlank 16 = .ok (.iconst 0, 1) := by decide +kernel
theorem dX6_isBlank_17 : decode cX6_isBlank 17 = .ok (.ireturn, 1) := by decide +kernel
/-! BusLifts$SetupReader.isBlank(I)Z -/
noncomputable def f_X6_isBlank_17  (σ : Sg) (v100 : Int32) : Option (Int32 × Sg) := if ¬ (v100 = 0 ∨ v100 = 1) then none else (some (v100, σ))
noncomputable def f_X6_isBlank_12  (σ : Sg)  : Option (Int32 × Sg) := f_X6_isBlank_17 σ 1
noncomputable def f_X6_isBlank  (σ : Sg) (v0 : Int32) : Option (Int32 × Sg) := if v0 = 32 then (f_X6_isBlank_12 σ) else (if v0 = 10 then (f_X6_isBlank_12 σ) else (f_X6_isBlank_17 σ 0))
set_option maxHeartbeats 4000000 in
set_option maxRecDepth 100000 in
theorem w_X6_isBlank_17 {p : Program} {l : Launch} {e : Env} {s : State} {m : MethodId} {args : Array Value} {below : List Frame} {meth : Method} {c : Code} {G : Gx} {ad : Ad} {res : Int32 × Sg} (C : Cx p s m args meth c yX6_isBlank.cls cX6_isBlank 1 (Option.some FieldType.boolean) G)  : ∀ (σ : Sg) (v100 : Int32) (H : Heap) (locs : List Loc) (ls : Array Slot), z_S 0 G ad σ (z_A 0 ad s.heap.size) s.heap H locs → lv_has ls 1 [] → f_X6_isBlank_17  σ v100 = some res → W p l e { frames := 0, cells := 0, slots := 0, locals := 0 } s m args below meth c H locs 0 0 (MQ below (va_Qi (S := Unit) (fun r1 _ => r1 = res.1) (fun _ t => z_W 0 G ad res.2 t.heap) (z_A 0 ad s.heap.size)) args s 0 0 (z_A 0 ad s.heap.size)) (F0 m 17 ls [.int v100]) := by
  intro σ v100 H locs ls S hl  hf
  unfold f_X6_isBlank_17 at hf
  obtain ⟨g_17, hf⟩ := gd hf
  exact z_zret C S (nbz g_17).1 hf dX6_isBlank_17
set_option maxHeartbeats 4000000 in
set_option maxRecDepth 100000 in
theorem w_X6_isBlank_12 {p : Program} {l : Launch} {e : Env} {s : State} {m : MethodId} {args : Array Value} {below : List Frame} {meth : Method} {c : Code} {G : Gx} {ad : Ad} {res : Int32 × Sg} (C : Cx p s m args meth c yX6_isBlank.cls cX6_isBlank 1 (Option.some FieldType.boolean) G)  : ∀ (σ : Sg)  (H : Heap) (locs : List Loc) (ls : Array Slot), z_S 0 G ad σ (z_A 0 ad s.heap.size) s.heap H locs → lv_has ls 1 [] → f_X6_isBlank_12  σ  = some res → W p l e { frames := 0, cells := 0, slots := 0, locals := 0 } s m args below meth c H locs 0 0 (MQ below (va_Qi (S := Unit) (fun r1 _ => r1 = res.1) (fun _ t => z_W 0 G ad res.2 t.heap) (z_A 0 ad s.heap.size)) args s 0 0 (z_A 0 ad s.heap.size)) (F0 m 12 ls []) := by
  intro σ  H locs ls S hl  hf
  unfold f_X6_isBlank_12 at hf
  refine lv_iconst (v := 1) C.1 C.2.1 dX6_isBlank_12 (by decide) ?_
  refine lv_goto (tgt := 17) C.1 C.2.1 dX6_isBlank_13 (by decide) ?_
  exact w_X6_isBlank_17 C _ 1 _ _ _ S (lv_sub hl [] rfl) hf
set_option maxHeartbeats 4000000 in
set_option maxRecDepth 100000 in
theorem w_X6_isBlank_0 {p : Program} {l : Launch} {e : Env} {s : State} {m : MethodId} {args : Array Value} {below : List Frame} {meth : Method} {c : Code} {G : Gx} {ad : Ad} {res : Int32 × Sg} (C : Cx p s m args meth c yX6_isBlank.cls cX6_isBlank 1 (Option.some FieldType.boolean) G)  : ∀ (σ : Sg) (v0 : Int32) (H : Heap) (locs : List Loc) (ls : Array Slot), z_S 0 G ad σ (z_A 0 ad s.heap.size) s.heap H locs → lv_has ls 1 [(0, .int v0)] → f_X6_isBlank  σ v0 = some res → W p l e { frames := 0, cells := 0, slots := 0, locals := 0 } s m args below meth c H locs 0 0 (MQ below (va_Qi (S := Unit) (fun r1 _ => r1 = res.1) (fun _ t => z_W 0 G ad res.2 t.heap) (z_A 0 ad s.heap.size)) args s 0 0 (z_A 0 ad s.heap.size)) (F0 m 0 ls []) := by
  intro σ v0 H locs ls S hl  hf
  unfold f_X6_isBlank at hf
  refine lv_iload_n C.1 C.2.1 dX6_isBlank_0 rfl (lv_at hl 0 rfl) ?_
  refine lv_bipush (v := 32) C.1 C.2.1 dX6_isBlank_1 (by decide) ?_
  refine lv_icmp_eq (tgt := 12) C.1 C.2.1 dX6_isBlank_3 (by decide) (fun c_3 => ?_) (fun c_3 => ?_)
  · rw [if_pos c_3] at hf
    exact w_X6_isBlank_12 C _ _ _ _ S (lv_sub hl [] rfl) hf
  · rw [if_neg c_3] at hf
    refine lv_iload_n C.1 C.2.1 dX6_isBlank_6 rfl (lv_at hl 0 rfl) ?_
    refine lv_bipush (v := 10) C.1 C.2.1 dX6_isBlank_7 (by decide) ?_
    refine lv_icmp_ne (tgt := 16) C.1 C.2.1 dX6_isBlank_9 (by decide) (fun c_9 => ?_) (fun c_9 => ?_)
    · rw [if_neg c_9] at hf
      refine lv_iconst (v := 0) C.1 C.2.1 dX6_isBlank_16 (by decide) ?_
      exact w_X6_isBlank_17 C _ 0 _ _ _ S (lv_sub hl [] rfl) hf
    · rw [if_pos c_9] at hf
      exact w_X6_isBlank_12 C _ _ _ _ S (lv_sub hl [] rfl) hf
theorem kv_X6_isBlank : KS yX6_isBlank cX6_isBlank 1 (Option.some FieldType.boolean) 1 := ⟨tw_2_199, tw_2_198, tw_1_18, by decide, by decide, by decide +kernel⟩
theorem m_X6_isBlank (l : Launch) (G : Gx) (ad : Ad) (σ : Sg) (v0 : Int32) (r : Int32) (σ' : Sg)  (hf : f_X6_isBlank σ v0 = some (r, σ')) (sz : Nat) : z_MI l yX6_isBlank cX6_isBlank 1 (Option.some FieldType.boolean) 0 0 0 G ad σ sz [.int v0] r σ' := by
  refine z_begin (by decide +kernel) (Nat.le_of_ble_eq_true rfl) [(0, .int v0)] rfl (fun p e s m args below meth c ls C hz S hl => ?_)
  subst hz
  exact w_X6_isBlank_0 (res := (r, σ')) C σ v0 _ _ _ S hl  hf

theorem dX6_isLetter_0 : decode cX6_isLetter 0 = .ok (.iload_n 0, 1) := by decide +kernel
theorem dX6_isLetter_1 : decode cX6_isLetter 1 = .ok (.bipush 97, 2) := by decide +kernel
theorem dX6_isLetter_3 : decode cX6_isLetter 3 = .ok (.if_icmp .lt 13, 3) := by decide +kernel
theorem dX6_isLetter_6 : decode cX6_isLetter 6 = .ok (.iload_n 0, 1) := by decide +kernel
theorem dX6_isLetter_7 : decode cX6_isLetter 7 = .ok (.bipush 122, 2) := by decide +kernel
theorem dX6_isLetter_9 : decode cX6_isLetter 9 = .ok (.if_icmp .gt 7, 3) := by decide +kernel
theorem dX6_isLetter_12 : decode cX6_isLetter 12 = .ok (.iconst 1, 1) := by decide +kernel
theorem dX6_isLetter_13 : decode cX6_isLetter 13 = .ok (.goto 4, 3) := by decide +kernel
theorem dX6_isLetter_16 : decode cX6_isLetter 16 = .ok (.iconst 0, 1) := by decide +kernel
theorem dX6_isLetter_17 : decode cX6_isLetter 17 = .ok (.ireturn, 1) := by decide +kernel
/-! BusLifts$SetupReader.isLetter(I)Z -/
noncomputable def f_X6_isLetter_17  (σ : Sg) (v100 : Int32) : Option (Int32 × Sg) := if ¬ (v100 = 0 ∨ v100 = 1) then none else (some (v100, σ))
noncomputable def f_X6_isLetter_16  (σ : Sg)  : Option (Int32 × Sg) := f_X6_isLetter_17 σ 0
noncomputable def f_X6_isLetter  (σ : Sg) (v0 : Int32) : Option (Int32 × Sg) := if v0 < 97 then (f_X6_isLetter_16 σ) else (if 122 < v0 then (f_X6_isLetter_16 σ) else (f_X6_isLetter_17 σ 1))
set_option maxHeartbeats 4000000 in
set_option maxRecDepth 100000 in
theorem w_X6_isLetter_17 {p : Program} {l : Launch} {e : Env} {s : State} {m : MethodId} {args : Array Value} {below : List Frame} {meth : Method} {c : Code} {G : Gx} {ad : Ad} {res : Int32 × Sg} (C : Cx p s m args meth c yX6_isLetter.cls cX6_isLetter 1 (Option.some FieldType.boolean) G)  : ∀ (σ : Sg) (v100 : Int32) (H : Heap) (locs : List Loc) (ls : Array Slot), z_S 0 G ad σ (z_A 0 ad s.heap.size) s.heap H locs → lv_has ls 1 [] → f_X6_isLetter_17  σ v100 = some res → W p l e { frames := 0, cells := 0, slots := 0, locals := 0 } s m args below meth c H locs 0 0 (MQ below (va_Qi (S := Unit) (fun r1 _ => r1 = res.1) (fun _ t => z_W 0 G ad res.2 t.heap) (z_A 0 ad s.heap.size)) args s 0 0 (z_A 0 ad s.heap.size)) (F0 m 17 ls [.int v100]) := by
  intro σ v100 H locs ls S hl  hf
  unfold f_X6_isLetter_17 at hf
  obtain ⟨g_17, hf⟩ := gd hf
  exact z_zret C S (nbz g_17).1 hf dX6_isLetter_17
set_option maxHeartbeats 4000000 in
set_option maxRecDepth 100000 in
theorem w_X6_isLetter_16 {p : Program} {l : Launch} {e : Env} {s : State} {m : MethodId} {args : Array Value} {below : List Frame} {meth : Method} {c : Code} {G : Gx} {ad : Ad} {res : Int32 × Sg} (C : Cx p s m args meth c yX6_isLetter.cls cX6_isLetter 1 (Option.some FieldType.boolean) G)  : ∀ (σ : Sg)  (H : Heap) (locs : List Loc) (ls : Array Slot), z_S 0 G ad σ (z_A 0 ad s.heap.size) s.heap H locs → lv_has ls 1 [] → f_X6_isLetter_16  σ  = some res → W p l e { frames := 0, cells := 0, slots := 0, locals := 0 } s m args below meth c H locs 0 0 (MQ below (va_Qi (S := Unit) (fun r1 _ => r1 = res.1) (fun _ t => z_W 0 G ad res.2 t.heap) (z_A 0 ad s.heap.size)) args s 0 0 (z_A 0 ad s.heap.size)) (F0 m 16 ls []) := by
  intro σ  H locs ls S hl  hf
  unfold f_X6_isLetter_16 at hf
  refine lv_iconst (v := 0) C.1 C.2.1 dX6_isLetter_16 (by decide) ?_
  exact w_X6_isLetter_17 C _ 0 _ _ _ S (lv_sub hl [] rfl) hf
set_option maxHeartbeats 4000000 in
set_option maxRecDepth 100000 in
theorem w_X6_isLetter_0 {p : Program} {l : Launch} {e : Env} {s : State} {m : MethodId} {args : Array Value} {below : List Frame} {meth : Method} {c : Code} {G : Gx} {ad : Ad} {res : Int32 × Sg} (C : Cx p s m args meth c yX6_isLetter.cls cX6_isLetter 1 (Option.some FieldType.boolean) G)  : ∀ (σ : Sg) (v0 : Int32) (H : Heap) (locs : List Loc) (ls : Array Slot), z_S 0 G ad σ (z_A 0 ad s.heap.size) s.heap H locs → lv_has ls 1 [(0, .int v0)] → f_X6_isLetter  σ v0 = some res → W p l e { frames := 0, cells := 0, slots := 0, locals := 0 } s m args below meth c H locs 0 0 (MQ below (va_Qi (S := Unit) (fun r1 _ => r1 = res.1) (fun _ t => z_W 0 G ad res.2 t.heap) (z_A 0 ad s.heap.size)) args s 0 0 (z_A 0 ad s.heap.size)) (F0 m 0 ls []) := by
  intro σ v0 H locs ls S hl  hf
  unfold f_X6_isLetter at hf
  refine lv_iload_n C.1 C.2.1 dX6_isLetter_0 rfl (lv_at hl 0 rfl) ?_
  refine lv_bipush (v := 97) C.1 C.2.1 dX6_isLetter_1 (by decide) ?_
  refine lv_icmp_lt (tgt := 16) C.1 C.2.1 dX6_isLetter_3 (by decide) (fun c_3 => ?_) (fun c_3 => ?_)
  · rw [if_pos c_3] at hf
    exact w_X6_isLetter_16 C _ _ _ _ S (lv_sub hl [] rfl) hf
  · rw [if_neg c_3] at hf
    refine lv_iload_n C.1 C.2.1 dX6_isLetter_6 rfl (lv_at hl 0 rfl) ?_
    refine lv_bipush (v := 122) C.1 C.2.1 dX6_isLetter_7 (by decide) ?_
    refine lv_icmp_gt (tgt := 16) C.1 C.2.1 dX6_isLetter_9 (by decide) (fun c_9 => ?_) (fun c_9 => ?_)
    · rw [if_pos c_9] at hf
      exact w_X6_isLetter_16 C _ _ _ _ S (lv_sub hl [] rfl) hf
    · rw [if_neg c_9] at hf
      refine lv_iconst (v := 1) C.1 C.2.1 dX6_isLetter_12 (by decide) ?_
      refine lv_goto (tgt := 17) C.1 C.2.1 dX6_isLetter_13 (by decide) ?_
      exact w_X6_isLetter_17 C _ 1 _ _ _ S (lv_sub hl [] rfl) hf
theorem kv_X6_isLetter : KS yX6_isLetter cX6_isLetter 1 (Option.some FieldType.boolean) 1 := ⟨tw_2_202, tw_2_201, tw_1_18, by decide, by decide, by decide +kernel⟩
theorem m_X6_isLetter (l : Launch) (G : Gx) (ad : Ad) (σ : Sg) (v0 : Int32) (r : Int32) (σ' : Sg)  (hf : f_X6_isLetter σ v0 = some (r, σ')) (sz : Nat) : z_MI l yX6_isLetter cX6_isLetter 1 (Option.some FieldType.boolean) 0 0 0 G ad σ sz [.int v0] r σ' := by
  refine z_begin (by decide +kernel) (Nat.le_of_ble_eq_true rfl) [(0, .int v0)] rfl (fun p e s m args below meth c ls C hz S hl => ?_)
  subst hz
  exact w_X6_isLetter_0 (res := (r, σ')) C σ v0 _ _ _ S hl  hf

theorem dX6_skipLetters_0 : decode cX6_skipLetters 0 = .ok (.aload_n 0, 1) := by decide +kernel
theorem dX6_skipLetters_1 : decode cX6_skipLetters 1 = .ok (.iconst 1, 1) := by decide +kernel
theorem dX6_skipLetters_2 : decode cX6_skipLetters 2 = .ok (.putfield 47, 3) := by decide +kernel
theorem dX6_skipLetters_5 : decode cX6_skipLetters 5 = .ok (.aload_n 0, 1) := by decide +kernel
theorem dX6_skipLetters_6 : decode cX6_skipLetters 6 = .ok (.getfield 28, 3) := by decide +kernel
theorem dX6_skipLetters_9 : decode cX6_skipLetters 9 = .ok (.aload_n 0, 1) := by decide +kernel
theorem dX6_skipLetters_10 : decode cX6_skipLetters 10 = .ok (.getfield 24, 3) := by decide +kernel
theorem dX6_skipLetters_13 : decode cX6_skipLetters 13 = .ok (.if_icmp .ge 31, 3) := by decide +kernel
theorem dX6_skipLetters_16 : decode cX6_skipLetters 16 = .ok (.aload_n 0, 1) := by decide +kernel
theorem dX6_skipLetters_17 : decode cX6_skipLetters 17 = .ok (.getfield 9, 3) := by decide +kernel
theorem dX6_skipLetters_20 : decode cX6_skipLetters 20 = .ok (.aload_n 0, 1) := by decide +kernel
theorem dX6_skipLetters_21 : decode cX6_skipLetters 21 = .ok (.getfield 28, 3) := by decide +kernel
theorem dX6_skipLetters_24 : decode cX6_skipLetters 24 = .ok (.iaload, 1) := by decide +kernel
theorem dX6_skipLetters_25 : decode cX6_skipLetters 25 = .ok (.invokestatic 151, 3) := by decide +kernel
theorem dX6_skipLetters_28 : decode cX6_skipLetters 28 = .ok (.ifCond .eq 16, 3) := by decide +kernel
theorem dX6_skipLetters_31 : decode cX6_skipLetters 31 = .ok (.aload_n 0, 1) := by decide +kernel
theorem dX6_skipLetters_32 : decode cX6_skipLetters 32 = .ok (.dup, 1) := by decide +kernel
theorem dX6_skipLetters_33 : decode cX6_skipLetters 33 = .ok (.getfield 28, 3) := by decide +kernel
theorem dX6_skipLetters_36 : decode cX6_skipLetters 36 = .ok (.iconst 1, 1) := by decide +kernel
theorem dX6_skipLetters_37 : decode cX6_skipLetters 37 = .ok (.iadd, 1) := by decide +kernel
theorem dX6_skipLetters_38 : decode cX6_skipLetters 38 = .ok (.putfield 28, 3) := by decide +kernel
theorem dX6_skipLetters_41 : decode cX6_skipLetters 41 = .ok (.goto (-36), 3) := by decide +kernel
theorem dX6_skipLetters_44 : decode cX6_skipLetters 44 = .ok (.return_, 1) := by decide +kernel
/-! BusLifts$SetupReader.skipLetters()V -/
noncomputable def f_X6_skipLetters_44  (σ : Sg)  : Option Sg := some σ
noncomputable def f_X6_skipLetters_5  : Nat → Sg → Option Sg
  | 0, _ => none
  | n + 1, σ => if (σ 6 0 3) ≤ (σ 6 0 4) then (f_X6_skipLetters_44 σ) else (if σ 6 0 2 = 0 then none else (if (σ 6 0 4) < 0 ∨ 700 ≤ ((σ 6 0 4)).toNatClampNeg then none else (bi (f_X6_isLetter σ (σ 10 0 ((σ 6 0 4)).toNatClampNeg)) fun r2 σ1 => (if r2 = 0 then (f_X6_skipLetters_44 σ1) else (st (sup σ1 6 0 4 ((σ1 6 0 4) + 1)) fun σ3 => (f_X6_skipLetters_5  n σ3))))))
theorem f_X6_skipLetters_5_s  (n : Nat) (σ : Sg)  : f_X6_skipLetters_5  (n + 1) σ  = (if (σ 6 0 3) ≤ (σ 6 0 4) then (f_X6_skipLetters_44 σ) else (if σ 6 0 2 = 0 then none else (if (σ 6 0 4) < 0 ∨ 700 ≤ ((σ 6 0 4)).toNatClampNeg then none else (bi (f_X6_isLetter σ (σ 10 0 ((σ 6 0 4)).toNatClampNeg)) fun r2 σ1 => (if r2 = 0 then (f_X6_skipLetters_44 σ1) else (st (sup σ1 6 0 4 ((σ1 6 0 4) + 1)) fun σ3 => (f_X6_skipLetters_5  n σ3))))))) := rfl
noncomputable def f_X6_skipLetters  (σ : Sg)  : Option Sg := st (sup σ 6 0 5 1) fun σ1 => (f_X6_skipLetters_5 FU σ1)
set_option maxHeartbeats 4000000 in
set_option maxRecDepth 100000 in
theorem w_X6_skipLetters_44 {p : Program} {l : Launch} {e : Env} {s : State} {m : MethodId} {args : Array Value} {below : List Frame} {meth : Method} {c : Code} {G : Gx} {ad : Ad} {res : Sg} (C : Cx p s m args meth c yX6_skipLetters.cls cX6_skipLetters 1 none G)  : ∀ (σ : Sg)  (H : Heap) (locs : List Loc) (ls : Array Slot), z_S 0 G ad σ (z_A 0 ad s.heap.size) s.heap H locs → lv_has ls 1 [] → f_X6_skipLetters_44  σ  = some res → W p l e { frames := 1, cells := 0, slots := 0, locals := 20 } s m args below meth c H locs 0 0 (MQ below (va_Qv (S := Unit) (fun _ => True) (fun _ t => z_W 0 G ad res t.heap) (z_A 0 ad s.heap.size)) args s 0 0 (z_A 0 ad s.heap.size)) (F0 m 44 ls []) := by
  intro σ  H locs ls S hl  hf
  unfold f_X6_skipLetters_44 at hf
  exact z_vret C S hf dX6_skipLetters_44
set_option maxHeartbeats 4000000 in
set_option maxRecDepth 100000 in
theorem w_X6_skipLetters_5 {p : Program} {l : Launch} {e : Env} {s : State} {m : MethodId} {args : Array Value} {below : List Frame} {meth : Method} {c : Code} {G : Gx} {ad : Ad} {res : Sg} (C : Cx p s m args meth c yX6_skipLetters.cls cX6_skipLetters 1 none G)  : ∀ n : Nat, ∀ (σ : Sg)  (H : Heap) (locs : List Loc) (ls : Array Slot), z_S 0 G ad σ (z_A 0 ad s.heap.size) s.heap H locs → lv_has ls 1 [(0, .ref (ad 6 0))] → f_X6_skipLetters_5  n σ  = some res → W p l e { frames := 1, cells := 0, slots := 0, locals := 20 } s m args below meth c H locs 0 0 (MQ below (va_Qv (S := Unit) (fun _ => True) (fun _ t => z_W 0 G ad res t.heap) (z_A 0 ad s.heap.size)) args s 0 0 (z_A 0 ad s.heap.size)) (F0 m 5 ls []) := by
  intro n
  induction n with
  | zero => intro σ  H locs ls S hl  hf; cases hf
  | succ n ih =>
    intro σ  H locs ls S hl  hf
    rw [f_X6_skipLetters_5_s] at hf
    refine lv_aload_n C.1 C.2.1 dX6_skipLetters_5 rfl (lv_at hl 0 rfl) ?_
    refine z_getI C S 6 0 rfl (by decide) cf_6 4 (by decide) (gi_6_4 G ad 0) tw_2_87 dX6_skipLetters_6 ?_
    refine lv_aload_n C.1 C.2.1 dX6_skipLetters_9 rfl (lv_at hl 0 rfl) ?_
    refine z_getI C S 6 0 rfl (by decide) cf_6 3 (by decide) (gi_6_3 G ad 0) tw_2_86 dX6_skipLetters_10 ?_
    refine lv_icmp_ge (tgt := 44) C.1 C.2.1 dX6_skipLetters_13 (by decide) (fun c_13 => ?_) (fun c_13 => ?_)
    · rw [if_pos c_13] at hf
      exact w_X6_skipLetters_44 C _ _ _ _ S (lv_sub hl [] rfl) hf
    · rw [if_neg c_13] at hf
      refine lv_aload_n C.1 C.2.1 dX6_skipLetters_16 rfl (lv_at hl 0 rfl) ?_
      obtain ⟨g_17, hf⟩ := gd hf
      refine z_getT C S 0 rfl (by decide) cf_6 g_17 tw_2_85 dX6_skipLetters_17 ?_
      refine lv_aload_n C.1 C.2.1 dX6_skipLetters_20 rfl (lv_at hl 0 rfl) ?_
      refine z_getI C S 6 0 rfl (by decide) cf_6 4 (by decide) (gi_6_4 G ad 0) tw_2_87 dX6_skipLetters_21 ?_
      obtain ⟨g_24, hf⟩ := gd hf
      refine z_iald C S 10 0 rfl (by decide) 700 (fun _ => rfl) g_24 dX6_skipLetters_24 ?_
      obtain ⟨r2, σ1, q_25, hf⟩ := bib hf
      refine z_callSI C S [.int (σ 10 0 ((σ 6 0 4)).toNatClampNeg)] (m_X6_isLetter l G ad σ (σ 10 0 ((σ 6 0 4)).toNatClampNeg) r2 σ1 q_25 _) kv_X6_isLetter tw_2_200 ⟨Nat.le_of_ble_eq_true rfl, Nat.le_of_ble_eq_true rfl⟩ rfl rfl (Nat.le_of_ble_eq_true rfl) hl.1 ⟨Nat.le_of_ble_eq_true rfl, Nat.le_of_ble_eq_true rfl⟩ dX6_skipLetters_25 (fun H locs S => ?_)
      refine lv_if_eq (tgt := 44) C.1 C.2.1 dX6_skipLetters_28 (by decide) (fun c_28 => ?_) (fun c_28 => ?_)
      · rw [if_pos c_28] at hf
        exact w_X6_skipLetters_44 C _ _ _ _ S (lv_sub hl [] rfl) hf
      · rw [if_neg c_28] at hf
        refine lv_aload_n C.1 C.2.1 dX6_skipLetters_31 rfl (lv_at hl 0 rfl) ?_
        refine lv_dup C.1 C.2.1 dX6_skipLetters_32 rfl ?_
        refine z_getI C S 6 0 rfl (by decide) cf_6 4 (by decide) (gi_6_4 G ad 0) tw_2_87 dX6_skipLetters_33 ?_
        refine lv_iconst (v := 1) C.1 C.2.1 dX6_skipLetters_36 (by decide) ?_
        refine lv_iadd C.1 C.2.1 dX6_skipLetters_37 ?_
        obtain ⟨σ3, e_38, hf⟩ := stb hf
        refine z_putI C S 6 0 rfl (by decide) cf_6 4 (by decide) (pi_6_4 G ad 0) rfl rfl rfl tw_2_87 dX6_skipLetters_38 (fun H locs S => ?_)
        rw [← e_38] at S
        refine lv_goto (tgt := 5) C.1 C.2.1 dX6_skipLetters_41 (by decide) ?_
        exact ih _  _ _ _ S (lv_sub hl [0] rfl)  hf
set_option maxHeartbeats 4000000 in
set_option maxRecDepth 100000 in
theorem w_X6_skipLetters_0 {p : Program} {l : Launch} {e : Env} {s : State} {m : MethodId} {args : Array Value} {below : List Frame} {meth : Method} {c : Code} {G : Gx} {ad : Ad} {res : Sg} (C : Cx p s m args meth c yX6_skipLetters.cls cX6_skipLetters 1 none G)  : ∀ (σ : Sg)  (H : Heap) (locs : List Loc) (ls : Array Slot), z_S 0 G ad σ (z_A 0 ad s.heap.size) s.heap H locs → lv_has ls 1 [(0, .ref (ad 6 0))] → f_X6_skipLetters  σ  = some res → W p l e { frames := 1, cells := 0, slots := 0, locals := 20 } s m args below meth c H locs 0 0 (MQ below (va_Qv (S := Unit) (fun _ => True) (fun _ t => z_W 0 G ad res t.heap) (z_A 0 ad s.heap.size)) args s 0 0 (z_A 0 ad s.heap.size)) (F0 m 0 ls []) := by
  intro σ  H locs ls S hl  hf
  unfold f_X6_skipLetters at hf
  refine lv_aload_n C.1 C.2.1 dX6_skipLetters_0 rfl (lv_at hl 0 rfl) ?_
  refine lv_iconst (v := 1) C.1 C.2.1 dX6_skipLetters_1 (by decide) ?_
  obtain ⟨σ1, e_2, hf⟩ := stb hf
  refine z_putI C S 6 0 rfl (by decide) cf_6 5 (by decide) (pi_6_5 G ad 0) rfl rfl rfl tw_2_88 dX6_skipLetters_2 (fun H locs S => ?_)
  rw [← e_2] at S
  exact w_X6_skipLetters_5 C FU _ _ _ _ S (lv_sub hl [0] rfl) hf
theorem kv_X6_skipLetters : KV yX6_skipLetters cX6_skipLetters 1 none 0 := ⟨tw_2_206, tw_2_205, tw_p_2, tw_1_18, by decide, by decide, by decide +kernel⟩
theorem m_X6_skipLetters (l : Launch) (G : Gx) (ad : Ad) (σ : Sg)  (σ' : Sg)  (hf : f_X6_skipLetters σ  = some σ') (sz : Nat) : z_MV l yX6_skipLetters cX6_skipLetters 1 none 1 20 0 G ad σ sz [.ref (ad 6 0)] σ' := by
  refine z_begin (by decide +kernel) (Nat.le_of_ble_eq_true rfl) [(0, .ref (ad 6 0))] rfl (fun p e s m args below meth c ls C hz S hl => ?_)
  subst hz
  exact w_X6_skipLetters_0 (res := σ') C σ  _ _ _ S hl  hf

theorem dX6_isDigit_0 : decode cX6_isDigit 0 = .ok (.iload_n 0, 1) := by decide +kernel
theorem dX6_isDigit_1 : decode cX6_isDigit 1 = .ok (.bipush 48, 2) := by decide +kernel
theorem dX6_isDigit_3 : decode cX6_isDigit 3 = .ok (.if_icmp .lt 13, 3) := by decide +kernel
theorem dX6_isDigit_6 : decode cX6_isDigit 6 = .ok (.iload_n 0, 1) := by decide +kernel
theorem dX6_isDigit_7 : decode cX6_isDigit 7 = .ok (.bipush 57, 2) := by decide +kernel
theorem dX6_isDigit_9 : decode cX6_isDigit 9 = .ok (.if_icmp .gt 7, 3) := by decide +kernel
theorem dX6_isDigit_12 : decode cX6_isDigit 12 = .ok (.iconst 1, 1) := by decide +kernel
theorem dX6_isDigit_13 : decode cX6_isDigit 13 = .ok (.goto 4, 3) := by decide +kernel
theorem dX6_isDigit_16 : decode cX6_isDigit 16 = .ok (.iconst 0, 1) := by decide +kernel
theorem dX6_isDigit_17 : decode cX6_isDigit 17 = .ok (.ireturn, 1) := by decide +kernel
/-! BusLifts$SetupReader.isDigit(I)Z -/
noncomputable def f_X6_isDigit_17  (σ : Sg) (v100 : Int32) : Option (Int32 × Sg) := if ¬ (v100 = 0 ∨ v100 = 1) then none else (some (v100, σ))
noncomputable def f_X6_isDigit_16  (σ : Sg)  : Option (Int32 × Sg) := f_X6_isDigit_17 σ 0
noncomputable def f_X6_isDigit  (σ : Sg) (v0 : Int32) : Option (Int32 × Sg) := if v0 < 48 then (f_X6_isDigit_16 σ) else (if 57 < v0 then (f_X6_isDigit_16 σ) else (f_X6_isDigit_17 σ 1))
set_option maxHeartbeats 4000000 in
set_option maxRecDepth 100000 in
theorem w_X6_isDigit_17 {p : Program} {l : Launch} {e : Env} {s : State} {m : MethodId} {args : Array Value} {below : List Frame} {meth : Method} {c : Code} {G : Gx} {ad : Ad} {res : Int32 × Sg} (C : Cx p s m args meth c yX6_isDigit.cls cX6_isDigit 1 (Option.some FieldType.boolean) G)  : ∀ (σ : Sg) (v100 : Int32) (H : Heap) (locs : List Loc) (ls : Array Slot), z_S 0 G ad σ (z_A 0 ad s.heap.size) s.heap H locs → lv_has ls 1 [] → f_X6_isDigit_17  σ v100 = some res → W p l e { frames := 0, cells := 0, slots := 0, locals := 0 } s m args below meth c H locs 0 0 (MQ below (va_Qi (S := Unit) (fun r1 _ => r1 = res.1) (fun _ t => z_W 0 G ad res.2 t.heap) (z_A 0 ad s.heap.size)) args s 0 0 (z_A 0 ad s.heap.size)) (F0 m 17 ls [.int v100]) := by
  intro σ v100 H locs ls S hl  hf
  unfold f_X6_isDigit_17 at hf
  obtain ⟨g_17, hf⟩ := gd hf
  exact z_zret C S (nbz g_17).1 hf dX6_isDigit_17
set_option maxHeartbeats 4000000 in
set_option maxRecDepth 100000 in
theorem w_X6_isDigit_16 {p : Program} {l : Launch} {e : Env} {s : State} {m : MethodId} {args : Array Value} {below : List Frame} {meth : Method} {c : Code} {G : Gx} {ad : Ad} {res : Int32 × Sg} (C : Cx p s m args meth c yX6_isDigit.cls cX6_isDigit 1 (Option.some FieldType.boolean) G)  : ∀ (σ : Sg)  (H : Heap) (locs : List Loc) (ls : Array Slot), z_S 0 G ad σ (z_A 0 ad s.heap.size) s.heap H locs → lv_has ls 1 [] → f_X6_isDigit_16  σ  = some res → W p l e { frames := 0, cells := 0, slots := 0, locals := 0 } s m args below meth c H locs 0 0 (MQ below (va_Qi (S := Unit) (fun r1 _ => r1 = res.1) (fun _ t => z_W 0 G ad res.2 t.heap) (z_A 0 ad s.heap.size)) args s 0 0 (z_A 0 ad s.heap.size)) (F0 m 16 ls []) := by
  intro σ  H locs ls S hl  hf
  unfold f_X6_isDigit_16 at hf
  refine lv_iconst (v := 0) C.1 C.2.1 dX6_isDigit_16 (by decide) ?_
  exact w_X6_isDigit_17 C _ 0 _ _ _ S (lv_sub hl [] rfl) hf
set_option maxHeartbeats 4000000 in
set_option maxRecDepth 100000 in
theorem w_X6_isDigit_0 {p : Program} {l : Launch} {e : Env} {s : State} {m : MethodId} {args : Array Value} {below : List Frame} {meth : Method} {c : Code} {G : Gx} {ad : Ad} {res : Int32 × Sg} (C : Cx p s m args meth c yX6_isDigit.cls cX6_isDigit 1 (Option.some FieldType.boolean) G)  : ∀ (σ : Sg) (v0 : Int32) (H : Heap) (locs : List Loc) (ls : Array Slot), z_S 0 G ad σ (z_A 0 ad s.heap.size) s.heap H locs → lv_has ls 1 [(0, .int v0)] → f_X6_isDigit  σ v0 = some res → W p l e { frames := 0, cells := 0, slots := 0, locals := 0 } s m args below meth c H locs 0 0 (MQ below (va_Qi (S := Unit) (fun r1 _ => r1 = res.1) (fun _ t => z_W 0 G ad res.2 t.heap) (z_A 0 ad s.heap.size)) args s 0 0 (z_A 0 ad s.heap.size)) (F0 m 0 ls []) := by
  intro σ v0 H locs ls S hl  hf
  unfold f_X6_isDigit at hf
  refine lv_iload_n C.1 C.2.1 dX6_isDigit_0 rfl (lv_at hl 0 rfl) ?_
  refine lv_bipush (v := 48) C.1 C.2.1 dX6_isDigit_1 (by decide) ?_
  refine lv_icmp_lt (tgt := 16) C.1 C.2.1 dX6_isDigit_3 (by decide) (fun c_3 => ?_) (fun c_3 => ?_)
  · rw [if_pos c_3] at hf
    exact w_X6_isDigit_16 C _ _ _ _ S (lv_sub hl [] rfl) hf
  · rw [if_neg c_3] at hf
    refine lv_iload_n C.1 C.2.1 dX6_isDigit_6 rfl (lv_at hl 0 rfl) ?_
    refine lv_bipush (v := 57) C.1 C.2.1 dX6_isDigit_7 (by decide) ?_
    refine lv_icmp_gt (tgt := 16) C.1 C.2.1 dX6_isDigit_9 (by decide) (fun c_9 => ?_) (fun c_9 => ?_)
    · rw [if_pos c_9] at hf
      exact w_X6_isDigit_16 C _ _ _ _ S (lv_sub hl [] rfl) hf
    · rw [if_neg c_9] at hf
      refine lv_iconst (v := 1) C.1 C.2.1 dX6_isDigit_12 (by decide) ?_
      refine lv_goto (tgt := 17) C.1 C.2.1 dX6_isDigit_13 (by decide) ?_
      exact w_X6_isDigit_17 C _ 1 _ _ _ S (lv_sub hl [] rfl) hf
theorem kv_X6_isDigit : KS yX6_isDigit cX6_isDigit 1 (Option.some FieldType.boolean) 1 := ⟨tw_2_209, tw_2_208, tw_1_18, by decide, by decide, by decide +kernel⟩
theorem m_X6_isDigit (l : Launch) (G : Gx) (ad : Ad) (σ : Sg) (v0 : Int32) (r : Int32) (σ' : Sg)  (hf : f_X6_isDigit σ v0 = some (r, σ')) (sz : Nat) : z_MI l yX6_isDigit cX6_isDigit 1 (Option.some FieldType.boolean) 0 0 0 G ad σ sz [.int v0] r σ' := by
  refine z_begin (by decide +kernel) (Nat.le_of_ble_eq_true rfl) [(0, .int v0)] rfl (fun p e s m args below meth c ls C hz S hl => ?_)
  subst hz
  exact w_X6_isDigit_0 (res := (r, σ')) C σ v0 _ _ _ S hl  hf

theorem dX6_skipDigits_0 : decode cX6_skipDigits 0 = .ok (.aload_n 0, 1) := by decide +kernel
theorem dX6_skipDigits_1 : decode cX6_skipDigits 1 = .ok (.iconst 0, 1) := by decide +kernel
theorem dX6_skipDigits_2 : decode cX6_skipDigits 2 = .ok (.putfield 72, 3) := by decide +kernel
theorem dX6_skipDigits_5 : decode cX6_skipDigits 5 = .ok (.aload_n 0, 1) := by decide +kernel
theorem dX6_skipDigits_6 : decode cX6_skipDigits 6 = .ok (.getfield 28, 3) := by decide +kernel
theorem dX6_skipDigits_9 : decode cX6_skipDigits 9 = .ok (.aload_n 0, 1) := by decide +kernel
theorem dX6_skipDigits_10 : decode cX6_skipDigits 10 = .ok (.getfield 24, 3) := by decide +kernel
theorem dX6_skipDigits_13 : decode cX6_skipDigits 13 = .ok (.if_icmp .ge 68, 3) := by decide +kernel
theorem dX6_skipDigits_16 : decode cX6_skipDigits 16 = .ok (.aload_n 0, 1) := by decide +kernel
theorem dX6_skipDigits_17 : decode cX6_skipDigits 17 = .ok (.getfield 9, 3) := by decide +kernel
theorem dX6_skipDigits_20 : decode cX6_skipDigits 20 = .ok (.aload_n 0, 1) := by decide +kernel
theorem dX6_skipDigits_21 : decode cX6_skipDigits 21 = .ok (.getfield 28, 3) := by decide +kernel
theorem dX6_skipDigits_24 : decode cX6_skipDigits 24 = .ok (.iaload, 1) := by decide +kernel
theorem dX6_skipDigits_25 : decode cX6_skipDigits 25 = .ok (.invokestatic 157, 3) := by decide +kernel
theorem dX6_skipDigits_28 : decode cX6_skipDigits 28 = .ok (.ifCond .eq 53, 3) := by decide +kernel
theorem dX6_skipDigits_31 : decode cX6_skipDigits 31 = .ok (.aload_n 0, 1) := by decide +kernel
theorem dX6_skipDigits_32 : decode cX6_skipDigits 32 = .ok (.getfield 28, 3) := by decide +kernel
theorem dX6_skipDigits_35 : decode cX6_skipDigits 35 = .ok (.aload_n 0, 1) := by decide +kernel
theorem dX6_skipDigits_36 : decode cX6_skipDigits 36 = .ok (.getfield 137, 3) := by decide +kernel
theorem dX6_skipDigits_39 : decode cX6_skipDigits 39 = .ok (.isub, 1) := by decide +kernel
theorem dX6_skipDigits_40 : decode cX6_skipDigits 40 = .ok (.iconst 4, 1) := by decide +kernel
theorem dX6_skipDigits_41 : decode cX6_skipDigits 41 = .ok (.if_icmp .ge 27, 3) := by decide +kernel
theorem dX6_skipDigits_44 : decode cX6_skipDigits 44 = .ok (.aload_n 0, 1) := by decide +kernel
theorem dX6_skipDigits_45 : decode cX6_skipDigits 45 = .ok (.bipush 10, 2) := by decide +kernel
theorem dX6_skipDigits_47 : decode cX6_skipDigits 47 = .ok (.aload_n 0, 1) := by decide +kernel
theorem dX6_skipDigits_48 : decode cX6_skipDigits 48 = .ok (.getfield 72, 3) := by decide +kernel
theorem dX6_skipDigits_51 : decode cX6_skipDigits 51 = .ok (.imul, 1) := by decide +kernel
theorem dX6_skipDigits_52 : decode cX6_skipDigits 52 = .ok (.aload_n 0, 1) := by decide +kernel
theorem dX6_skipDigits_53 : decode cX6_skipDigits 53 = .ok (.getfield 9, 3) := by decide +kernel
theorem dX6_skipDigits_56 : decode cX6_skipDigits 56 = .ok (.aload_n 0, 1) := by decide +kernel
theorem dX6_skipDigits_57 : decode cX6_skipDigits 57 = .ok (.getfield 28, 3) := by decide +kernel
theorem dX6_skipDigits_60 : decode cX6_skipDigits 60 = .ok (.iaload, 1) := by decide +kernel
theorem dX6_skipDigits_61 : decode cX6_skipDigits 61 = .ok (.iadd, 1) := by decide +kernel
theorem dX6_skipDigits_62 : decode cX6_skipDigits 62 = .ok (.bipush 48, 2) := by decide +kernel
theorem dX6_skipDigits_64 : decode cX6_skipDigits 64 = .ok (.isub, 1) := by decide +kernel
theorem dX6_skipDigits_65 : decode cX6_skipDigits 65 = .ok (.putfield 72, 3) := by decide +kernel
theorem dX6_skipDigits_68 : decode cX6_skipDigits 68 = .ok (.aload_n 0, 1) := by decide +kernel
theorem dX6_skipDigits_69 : decode cX6_skipDigits 69 = .ok (.dup, 1) := by decide +kernel
theorem dX6_skipDigits_70 : decode cX6_skipDigits 70 = .ok (.getfield 28, 3) := by decide +kernel
theorem dX6_skipDigits_73 : decode cX6_skipDigits 73 = .ok (.iconst 1, 1) := by decide +kernel
theorem dX6_skipDigits_74 : decode cX6_skipDigits 74 = .ok (.iadd, 1) := by decide +kernel
theorem dX6_skipDigits_75 : decode cX6_skipDigits 75 = .ok (.putfield 28, 3) := by decide +kernel
theorem dX6_skipDigits_78 : decode cX6_skipDigits 78 = .ok (.goto (-73), 3) := by decide +kernel
theorem dX6_skipDigits_81 : decode cX6_skipDigits 81 = .ok (.aload_n 0, 1) := by decide +kernel
theorem dX6_skipDigits_82 : decode cX6_skipDigits 82 = .ok (.aload_n 0, 1) := by decide +kernel
theorem dX6_skipDigits_83 : decode cX6_skipDigits 83 = .ok (.getfield 28, 3) := by decide +kernel
theorem dX6_skipDigits_86 : decode cX6_skipDigits 86 = .ok (.aload_n 0, 1) := by decide +kernel
theorem dX6_skipDigits_87 : decode cX6_skipDigits 87 = .ok (.getfield 137, 3) := by decide +kernel
theorem dX6_skipDigits_90 : decode cX6_skipDigits 90 = .ok (.isub, 1) := by decide +kernel
theorem dX6_skipDigits_91 : decode cX6_skipDigits 91 = .ok (.iconst 4, 1) := by decide +kernel
theorem dX6_skipDigits_92 : decode cX6_skipDigits 92 = .ok (.if_icmp .gt 7, 3) := by decide +kernel
theorem dX6_skipDigits_95 : decode cX6_skipDigits 95 = .ok (.iconst 2, 1) := by decide +kernel
theorem dX6_skipDigits_96 : decode cX6_skipDigits 96 = .ok (.goto 4, 3) := by decide +kernel
theorem dX6_skipDigits_99 : decode cX6_skipDigits 99 = .ok (.iconst 4, 1) := by decide +kernel
theorem dX6_skipDigits_100 : decode cX6_skipDigits 100 = .ok (.putfield 47, 3) := by decide +kernel
theorem dX6_skipDigits_103 : decode cX6_skipDigits 103 = .ok (.return_, 1) := by decide +kernel
/-! BusLifts$SetupReader.skipDigits()V -/
noncomputable def f_X6_skipDigits_100  (σ : Sg) (v101 : Int32) : Option Sg := st (sup σ 6 0 5 v101) fun σ1 => (some σ1)
noncomputable def f_X6_skipDigits_81  (σ : Sg)  : Option Sg := if 4 < ((σ 6 0 4) - (σ 6 0 6)) then (f_X6_skipDigits_100 σ 4) else (f_X6_skipDigits_100 σ 2)
noncomputable def f_X6_skipDigits_68 (k5 : Sg → Option Sg) (σ : Sg)  : Option Sg := st (sup σ 6 0 4 ((σ 6 0 4) + 1)) fun σ1 => (k5 σ1)
noncomputable def f_X6_skipDigits_5  : Nat → Sg → Option Sg
  | 0, _ => none
  | n + 1, σ => if (σ 6 0 3) ≤ (σ 6 0 4) then (f_X6_skipDigits_81 σ) else (if σ 6 0 2 = 0 then none else (if (σ 6 0 4) < 0 ∨ 700 ≤ ((σ 6 0 4)).toNatClampNeg then none else (bi (f_X6_isDigit σ (σ 10 0 ((σ 6 0 4)).toNatClampNeg)) fun r2 σ1 => (if r2 = 0 then (f_X6_skipDigits_81 σ1) else (if 4 ≤ ((σ1 6 0 4) - (σ1 6 0 6)) then (f_X6_skipDigits_68 (f_X6_skipDigits_5 n) σ1) else (if σ1 6 0 2 = 0 then none else (if (σ1 6 0 4) < 0 ∨ 700 ≤ ((σ1 6 0 4)).toNatClampNeg then none else (st (sup σ1 6 0 7 (((10 * (σ1 6 0 7)) + (σ1 10 0 ((σ1 6 0 4)).toNatClampNeg)) - 48)) fun σ3 => (f_X6_skipDigits_68 (f_X6_skipDigits_5 n) σ3)))))))))
theorem f_X6_skipDigits_5_s  (n : Nat) (σ : Sg)  : f_X6_skipDigits_5  (n + 1) σ  = (if (σ 6 0 3) ≤ (σ 6 0 4) then (f_X6_skipDigits_81 σ) else (if σ 6 0 2 = 0 then none else (if (σ 6 0 4) < 0 ∨ 700 ≤ ((σ 6 0 4)).toNatClampNeg then none else (bi (f_X6_isDigit σ (σ 10 0 ((σ 6 0 4)).toNatClampNeg)) fun r2 σ1 => (if r2 = 0 then (f_X6_skipDigits_81 σ1) else (if 4 ≤ ((σ1 6 0 4) - (σ1 6 0 6)) then (f_X6_skipDigits_68 (f_X6_skipDigits_5 n) σ1) else (if σ1 6 0 2 = 0 then none else (if (σ1 6 0 4) < 0 ∨ 700 ≤ ((σ1 6 0 4)).toNatClampNeg then none else (st (sup σ1 6 0 7 (((10 * (σ1 6 0 7)) + (σ1 10 0 ((σ1 6 0 4)).toNatClampNeg)) - 48)) fun σ3 => (f_X6_skipDigits_68 (f_X6_skipDigits_5 n) σ3)))))))))) := rfl
noncomputable def f_X6_skipDigits  (σ : Sg)  : Option Sg := st (sup σ 6 0 7 0) fun σ1 => (f_X6_skipDigits_5 FU σ1)
set_option maxHeartbeats 4000000 in
set_option maxRecDepth 100000 in
theorem w_X6_skipDigits_100 {p : Program} {l : Launch} {e : Env} {s : State} {m : MethodId} {args : Array Value} {below : List Frame} {meth : Method} {c : Code} {G : Gx} {ad : Ad} {res : Sg} (C : Cx p s m args meth c yX6_skipDigits.cls cX6_skipDigits 1 none G)  : ∀ (σ : Sg) (v101 : Int32) (H : Heap) (locs : List Loc) (ls : Array Slot), z_S 0 G ad σ (z_A 0 ad s.heap.size) s.heap H locs → lv_has ls 1 [] → f_X6_skipDigits_100  σ v101 = some res → W p l e { frames := 1, cells := 0, slots := 0, locals := 20 } s m args below meth c H locs 0 0 (MQ below (va_Qv (S := Unit) (fun _ => True) (fun _ t => z_W 0 G ad res t.heap) (z_A 0 ad s.heap.size)) args s 0 0 (z_A 0 ad s.heap.size)) (F0 m 100 ls [.int v101, .ref (ad 6 0)]) := by
  intro σ v101 H locs ls S hl  hf
  unfold f_X6_skipDigits_100 at hf
  obtain ⟨σ1, e_100, hf⟩ := stb hf
  refine z_putI C S 6 0 rfl (by decide) cf_6 5 (by decide) (pi_6_5 G ad 0) rfl rfl rfl tw_2_88 dX6_skipDigits_100 (fun H locs S => ?_)
  rw [← e_100] at S
  exact z_vret C S hf dX6_skipDigits_103
set_option maxHeartbeats 4000000 in
set_option maxRecDepth 100000 in
theorem w_X6_skipDigits_81 {p : Program} {l : Launch} {e : Env} {s : State} {m : MethodId} {args : Array Value} {below : List Frame} {meth : Method} {c : Code} {G : Gx} {ad : Ad} {res : Sg} (C : Cx p s m args meth c yX6_skipDigits.cls cX6_skipDigits 1 none G)  : ∀ (σ : Sg)  (H : Heap) (locs : List Loc) (ls : Array Slot), z_S 0 G ad σ (z_A 0 ad s.heap.size) s.heap H locs → lv_has ls 1 [(0, .ref (ad 6 0))] → f_X6_skipDigits_81  σ  = some res → W p l e { frames := 1, cells := 0, slots := 0, locals := 20 } s m args below meth c H locs 0 0 (MQ below (va_Qv (S := Unit) (fun _ => True) (fun _ t => z_W 0 G ad res t.heap) (z_A 0 ad s.heap.size)) args s 0 0 (z_A 0 ad s.heap.size)) (F0 m 81 ls []) := by
  intro σ  H locs ls S hl  hf
  unfold f_X6_skipDigits_81 at hf
  refine lv_aload_n C.1 C.2.1 dX6_skipDigits_81 rfl (lv_at hl 0 rfl) ?_
  refine lv_aload_n C.1 C.2.1 dX6_skipDigits_82 rfl (lv_at hl 0 rfl) ?_
  refine z_getI C S 6 0 rfl (by decide) cf_6 4 (by decide) (gi_6_4 G ad 0) tw_2_87 dX6_skipDigits_83 ?_
  refine lv_aload_n C.1 C.2.1 dX6_skipDigits_86 rfl (lv_at hl 0 rfl) ?_
  refine z_getI C S 6 0 rfl (by decide) cf_6 6 (by decide) (gi_6_6 G ad 0) tw_2_89 dX6_skipDigits_87 ?_
  refine lv_isub C.1 C.2.1 dX6_skipDigits_90 ?_
  refine lv_iconst (v := 4) C.1 C.2.1 dX6_skipDigits_91 (by decide) ?_
  refine lv_icmp_gt (tgt := 99) C.1 C.2.1 dX6_skipDigits_92 (by decide) (fun c_92 => ?_) (fun c_92 => ?_)
  · rw [if_pos c_92] at hf
    refine lv_iconst (v := 4) C.1 C.2.1 dX6_skipDigits_99 (by decide) ?_
    exact w_X6_skipDigits_100 C _ 4 _ _ _ S (lv_sub hl [] rfl) hf
  · rw [if_neg c_92] at hf
    refine lv_iconst (v := 2) C.1 C.2.1 dX6_skipDigits_95 (by decide) ?_
    refine lv_goto (tgt := 100) C.1 C.2.1 dX6_skipDigits_96 (by decide) ?_
    exact w_X6_skipDigits_100 C _ 2 _ _ _ S (lv_sub hl [] rfl) hf
set_option maxHeartbeats 4000000 in
set_option maxRecDepth 100000 in
theorem w_X6_skipDigits_68 {p : Program} {l : Launch} {e : Env} {s : State} {m : MethodId} {args : Array Value} {below : List Frame} {meth : Method} {c : Code} {G : Gx} {ad : Ad} {res : Sg} (C : Cx p s m args meth c yX6_skipDigits.cls cX6_skipDigits 1 none G) (k5 : Sg → Option Sg) (hk5 : ∀ (σ : Sg)  (H : Heap) (locs : List Loc) (ls : Array Slot), z_S 0 G ad σ (z_A 0 ad s.heap.size) s.heap H locs → lv_has ls 1 [(0, .ref (ad 6 0))] → k5 σ  = some res → W p l e { frames := 1, cells := 0, slots := 0, locals := 20 } s m args below meth c H locs 0 0 (MQ below (va_Qv (S := Unit) (fun _ => True) (fun _ t => z_W 0 G ad res t.heap) (z_A 0 ad s.heap.size)) args s 0 0 (z_A 0 ad s.heap.size)) (F0 m 5 ls [])) : ∀ (σ : Sg)  (H : Heap) (locs : List Loc) (ls : Array Slot), z_S 0 G ad σ (z_A 0 ad s.heap.size) s.heap H locs → lv_has ls 1 [(0, .ref (ad 6 0))] → f_X6_skipDigits_68 k5 σ  = some res → W p l e { frames := 1, cells := 0, slots := 0, locals := 20 } s m args below meth c H locs 0 0 (MQ below (va_Qv (S := Unit) (fun _ => True) (fun _ t => z_W 0 G ad res t.heap) (z_A 0 ad s.heap.size)) args s 0 0 (z_A 0 ad s.heap.size)) (F0 m 68 ls []) := by
  intro σ  H locs ls S hl  hf
  unfold f_X6_skipDigits_68 at hf
  refine lv_aload_n C.1 C.2.1 dX6_skipDigits_68 rfl (lv_at hl 0 rfl) ?_
  refine lv_dup C.1 C.2.1 dX6_skipDigits_69 rfl ?_
  refine z_getI C S 6 0 rfl (by decide) cf_6 4 (by decide) (gi_6_4 G ad 0) tw_2_87 dX6_skipDigits_70 ?_
  refine lv_iconst (v := 1) C.1 C.2.1 dX6_skipDigits_73 (by decide) ?_
  refine lv_iadd C.1 C.2.1 dX6_skipDigits_74 ?_
  obtain ⟨σ1, e_75, hf⟩ := stb hf
  refine z_putI C S 6 0 rfl (by decide) cf_6 4 (by decide) (pi_6_4 G ad 0) rfl rfl rfl tw_2_87 dX6_skipDigits_75 (fun H locs S => ?_)
  rw [← e_75] at S
  refine lv_goto (tgt := 5) C.1 C.2.1 dX6_skipDigits_78 (by decide) ?_
  exact hk5 _  _ _ _ S (lv_sub hl [0] rfl)  hf
set_option maxHeartbeats 4000000 in
set_option maxRecDepth 100000 in
theorem w_X6_skipDigits_5 {p : Program} {l : Launch} {e : Env} {s : State} {m : MethodId} {args : Array Value} {below : List Frame} {meth : Method} {c : Code} {G : Gx} {ad : Ad} {res : Sg} (C : Cx p s m args meth c yX6_skipDigits.cls cX6_skipDigits 1 none G)  : ∀ n : Nat, ∀ (σ : Sg)  (H : Heap) (locs : List Loc) (ls : Array Slot), z_S 0 G ad σ (z_A 0 ad s.heap.size) s.heap H locs → lv_has ls 1 [(0, .ref (ad 6 0))] → f_X6_skipDigits_5  n σ  = some res → W p l e { frames := 1, cells := 0, slots := 0, locals := 20 } s m args below meth c H locs 0 0 (MQ below (va_Qv (S := Unit) (fun _ => True) (fun _ t => z_W 0 G ad res t.heap) (z_A 0 ad s.heap.size)) args s 0 0 (z_A 0 ad s.heap.size)) (F0 m 5 ls []) := by
  intro n
  induction n with
  | zero => intro σ  H locs ls S hl  hf; cases hf
  | succ n ih =>
    intro σ  H locs ls S hl  hf
    rw [f_X6_skipDigits_5_s] at hf
    refine lv_aload_n C.1 C.2.1 dX6_skipDigits_5 rfl (lv_at hl 0 rfl) ?_
    refine z_getI C S 6 0 rfl (by decide) cf_6 4 (by decide) (gi_6_4 G ad 0) tw_2_87 dX6_skipDigits_6 ?_
    refine lv_aload_n C.1 C.2.1 dX6_skipDigits_9 rfl (lv_at hl 0 rfl) ?_
    refine z_getI C S 6 0 rfl (by decide) cf_6 3 (by decide) (gi_6_3 G ad 0) tw_2_86 dX6_skipDigits_10 ?_
    refine lv_icmp_ge (tgt := 81) C.1 C.2.1 dX6_skipDigits_13 (by decide) (fun c_13 => ?_) (fun c_13 => ?_)
    · rw [if_pos c_13] at hf
      exact w_X6_skipDigits_81 C _ _ _ _ S (lv_sub hl [0] rfl) hf
    · rw [if_neg c_13] at hf
      refine lv_aload_n C.1 C.2.1 dX6_skipDigits_16 rfl (lv_at hl 0 rfl) ?_
      obtain ⟨g_17, hf⟩ := gd hf
      refine z_getT C S 0 rfl (by decide) cf_6 g_17 tw_2_85 dX6_skipDigits_17 ?_
      refine lv_aload_n C.1 C.2.1 dX6_skipDigits_20 rfl (lv_at hl 0 rfl) ?_
      refine z_getI C S 6 0 rfl (by decide) cf_6 4 (by decide) (gi_6_4 G ad 0) tw_2_87 dX6_skipDigits_21 ?_
      obtain ⟨g_24, hf⟩ := gd hf
      refine z_iald C S 10 0 rfl (by decide) 700 (fun _ => rfl) g_24 dX6_skipDigits_24 ?_
      obtain ⟨r2, σ1, q_25, hf⟩ := bib hf
      refine z_callSI C S [.int (σ 10 0 ((σ 6 0 4)).toNatClampNeg)] (m_X6_isDigit l G ad σ (σ 10 0 ((σ 6 0 4)).toNatClampNeg) r2 σ1 q_25 _) kv_X6_isDigit tw_2_207 ⟨Nat.le_of_ble_eq_true rfl, Nat.le_of_ble_eq_true rfl⟩ rfl rfl (Nat.le_of_ble_eq_true rfl) hl.1 ⟨Nat.le_of_ble_eq_true rfl, Nat.le_of_ble_eq_true rfl⟩ dX6_skipDigits_25 (fun H locs S => ?_)
      refine lv_if_eq (tgt := 81) C.1 C.2.1 dX6_skipDigits_28 (by decide) (fun c_28 => ?_) (fun c_28 => ?_)
      · rw [if_pos c_28] at hf
        exact w_X6_skipDigits_81 C _ _ _ _ S (lv_sub hl [0] rfl) hf
      · rw [if_neg c_28] at hf
        refine lv_aload_n C.1 C.2.1 dX6_skipDigits_31 rfl (lv_at hl 0 rfl) ?_
        refine z_getI C S 6 0 rfl (by decide) cf_6 4 (by decide) (gi_6_4 G ad 0) tw_2_87 dX6_skipDigits_32 ?_
        refine lv_aload_n C.1 C.2.1 dX6_skipDigits_35 rfl (lv_at hl 0 rfl) ?_
        refine z_getI C S 6 0 rfl (by decide) cf_6 6 (by decide) (gi_6_6 G ad 0) tw_2_89 dX6_skipDigits_36 ?_
        refine lv_isub C.1 C.2.1 dX6_skipDigits_39 ?_
        refine lv_iconst (v := 4) C.1 C.2.1 dX6_skipDigits_40 (by decide) ?_
        refine lv_icmp_ge (tgt := 68) C.1 C.2.1 dX6_skipDigits_41 (by decide) (fun c_41 => ?_) (fun c_41 => ?_)
        · rw [if_pos c_41] at hf
          exact w_X6_skipDigits_68 C (f_X6_skipDigits_5 n) ih _ _ _ _ S (lv_sub hl [0] rfl) hf
        · rw [if_neg c_41] at hf
          refine lv_aload_n C.1 C.2.1 dX6_skipDigits_44 rfl (lv_at hl 0 rfl) ?_
          refine lv_bipush (v := 10) C.1 C.2.1 dX6_skipDigits_45 (by decide) ?_
          refine lv_aload_n C.1 C.2.1 dX6_skipDigits_47 rfl (lv_at hl 0 rfl) ?_
          refine z_getI C S 6 0 rfl (by decide) cf_6 7 (by decide) (gi_6_7 G ad 0) tw_2_90 dX6_skipDigits_48 ?_
          refine lv_imul C.1 C.2.1 dX6_skipDigits_51 ?_
          refine lv_aload_n C.1 C.2.1 dX6_skipDigits_52 rfl (lv_at hl 0 rfl) ?_
          obtain ⟨g_53, hf⟩ := gd hf
          refine z_getT C S 0 rfl (by decide) cf_6 g_53 tw_2_85 dX6_skipDigits_53 ?_
          refine lv_aload_n C.1 C.2.1 dX6_skipDigits_56 rfl (lv_at hl 0 rfl) ?_
          refine z_getI C S 6 0 rfl (by decide) cf_6 4 (by decide) (gi_6_4 G ad 0) tw_2_87 dX6_skipDigits_57 ?_
          obtain ⟨g_60, hf⟩ := gd hf
          refine z_iald C S 10 0 rfl (by decide) 700 (fun _ => rfl) g_60 dX6_skipDigits_60 ?_
          refine lv_iadd C.1 C.2.1 dX6_skipDigits_61 ?_
          refine lv_bipush (v := 48) C.1 C.2.1 dX6_skipDigits_62 (by decide) ?_
          refine lv_isub C.1 C.2.1 dX6_skipDigits_64 ?_
          obtain ⟨σ3, e_65, hf⟩ := stb hf
          refine z_putI C S 6 0 rfl (by decide) cf_6 7 (by decide) (pi_6_7 G ad 0) rfl rfl rfl tw_2_90 dX6_skipDigits_65 (fun H locs S => ?_)
          rw [← e_65] at S
          exact w_X6_skipDigits_68 C (f_X6_skipDigits_5 n) ih _ _ _ _ S (lv_sub hl [0] rfl) hf
set_option maxHeartbeats 4000000 in
set_option maxRecDepth 100000 in
theorem w_X6_skipDigits_0 {p : Program} {l : Launch} {e : Env} {s : State} {m : MethodId} {args : Array Value} {below : List Frame} {meth : Method} {c : Code} {G : Gx} {ad : Ad} {res : Sg} (C : Cx p s m args meth c yX6_skipDigits.cls cX6_skipDigits 1 none G)  : ∀ (σ : Sg)  (H : Heap) (locs : List Loc) (ls : Array Slot), z_S 0 G ad σ (z_A 0 ad s.heap.size) s.heap H locs → lv_has ls 1 [(0, .ref (ad 6 0))] → f_X6_skipDigits  σ  = some res → W p l e { frames := 1, cells := 0, slots := 0, locals := 20 } s m args below meth c H locs 0 0 (MQ below (va_Qv (S := Unit) (fun _ => True) (fun _ t => z_W 0 G ad res t.heap) (z_A 0 ad s.heap.size)) args s 0 0 (z_A 0 ad s.heap.size)) (F0 m 0 ls []) := by
  intro σ  H locs ls S hl  hf
  unfold f_X6_skipDigits at hf
  refine lv_aload_n C.1 C.2.1 dX6_skipDigits_0 rfl (lv_at hl 0 rfl) ?_
  refine lv_iconst (v := 0) C.1 C.2.1 dX6_skipDigits_1 (by decide) ?_
  obtain ⟨σ1, e_2, hf⟩ := stb hf
  refine z_putI C S 6 0 rfl (by decide) cf_6 7 (by decide) (pi_6_7 G ad 0) rfl rfl rfl tw_2_90 dX6_skipDigits_2 (fun H locs S => ?_)
  rw [← e_2] at S
  exact w_X6_skipDigits_5 C FU _ _ _ _ S (lv_sub hl [0] rfl) hf
theorem kv_X6_skipDigits : KV yX6_skipDigits cX6_skipDigits 1 none 0 := ⟨tw_2_213, tw_2_212, tw_p_3, tw_1_18, by decide, by decide, by decide +kernel⟩
theorem m_X6_skipDigits (l : Launch) (G : Gx) (ad : Ad) (σ : Sg)  (σ' : Sg)  (hf : f_X6_skipDigits σ  = some σ') (sz : Nat) : z_MV l yX6_skipDigits cX6_skipDigits 1 none 1 20 0 G ad σ sz [.ref (ad 6 0)] σ' := by
  refine z_begin (by decide +kernel) (Nat.le_of_ble_eq_true rfl) [(0, .ref (ad 6 0))] rfl (fun p e s m args below meth c ls C hz S hl => ?_)
  subst hz
  exact w_X6_skipDigits_0 (res := σ') C σ  _ _ _ S hl  hf

theorem dX6_nextToken_0 : decode cX6_nextToken 0 = .ok (.aload_n 0, 1) := by decide +kernel
theorem dX6_nextToken_1 : decode cX6_nextToken 1 = .ok (.getfield 28, 3) := by decide +kernel
theorem dX6_nextToken_4 : decode cX6_nextToken 4 = .ok (.aload_n 0, 1) := by decide +kernel
theorem dX6_nextToken_5 : decode cX6_nextToken 5 = .ok (.getfield 24, 3) := by decide +kernel
theorem dX6_nextToken_8 : decode cX6_nextToken 8 = .ok (.if_icmp .ge 31, 3) := by decide +kernel
theorem dX6_nextToken_11 : decode cX6_nextToken 11 = .ok (.aload_n 0, 1) := by decide +kernel
theorem dX6_nextToken_12 : decode cX6_nextToken 12 = .ok (.getfield 9, 3) := by decide +kernel
theorem dX6_nextToken_15 : decode cX6_nextToken 15 = .ok (.aload_n 0, 1) := by decide +kernel
theorem dX6_nextToken_16 : decode cX6_nextToken 16 = .ok (.getfield 28, 3) := by decide +kernel
theorem dX6_nextToken_19 : decode cX6_nextToken 19 = .ok (.iaload, 1) := by decide +kernel
theorem dX6_nextToken_20 : decode cX6_nextToken 20 = .ok (.invokestatic 148, 3) := by decide +kernel
theorem dX6_nextToken_23 : decode cX6_nextToken 23 = .ok (.ifCond .eq 16, 3) := by decide +kernel
theorem dX6_nextToken_26 : decode cX6_nextToken 26 = .ok (.aload_n 0, 1) := by decide +kernel
theorem dX6_nextToken_27 : decode cX6_nextToken 27 = .ok (.dup, 1) := by decide +kernel
theorem dX6_nextToken_28 : decode cX6_nextToken 28 = .ok (.getfield 28, 3) := by decide +kernel
theorem dX6_nextToken_31 : decode cX6_nextToken 31 = .ok (.iconst 1, 1) := by decide +kernel
theorem dX6_nextToken_32 : decode cX6_nextToken 32 = .ok (.iadd, 1) := by decide +kernel
theorem dX6_nextToken_33 : decode cX6_nextToken 33 = .ok (.putfield 28, 3) := by decide +kernel
theorem dX6_nextToken_36 : decode cX6_nextToken 36 = .ok (.goto (-36), 3) := by decide +kernel
theorem dX6_nextToken_39 : decode cX6_nextToken 39 = .ok (.aload_n 0, 1) := by decide +kernel
theorem dX6_nextToken_40 : decode cX6_nextToken 40 = .ok (.aload_n 0, 1) := by decide +kernel
theorem dX6_nextToken_41 : decode cX6_nextToken 41 = .ok (.getfield 28, 3) := by decide +kernel
theorem dX6_nextToken_44 : decode cX6_nextToken 44 = .ok (.putfield 137, 3) := by decide +kernel
theorem dX6_nextToken_47 : decode cX6_nextToken 47 = .ok (.aload_n 0, 1) := by decide +kernel
theorem dX6_nextToken_48 : decode cX6_nextToken 48 = .ok (.getfield 28, 3) := by decide +kernel
theorem dX6_nextToken_51 : decode cX6_nextToken 51 = .ok (.aload_n 0, 1) := by decide +kernel
theorem dX6_nextToken_52 : decode cX6_nextToken 52 = .ok (.getfield 24, 3) := by decide +kernel
theorem dX6_nextToken_55 : decode cX6_nextToken 55 = .ok (.if_icmp .lt 11, 3) := by decide +kernel
theorem dX6_nextToken_58 : decode cX6_nextToken 58 = .ok (.aload_n 0, 1) := by decide +kernel
theorem dX6_nextToken_59 : decode cX6_nextToken 59 = .ok (.iconst 0, 1) := by decide +kernel
theorem dX6_nextToken_60 : decode cX6_nextToken 60 = .ok (.putfield 47, 3) := by decide +kernel
theorem dX6_nextToken_63 : decode cX6_nextToken 63 = .ok (.goto 80, 3) := by decide +kernel
theorem dX6_nextToken_66 : decode cX6_nextToken 66 = .ok (.aload_n 0, 1) := by decide +kernel
theorem dX6_nextToken_67 : decode cX6_nextToken 67 = .ok (.getfield 9, 3) := by decide +kernel
theorem dX6_nextToken_70 : decode cX6_nextToken 70 = .ok (.aload_n 0, 1) := by decide +kernel
theorem dX6_nextToken_71 : decode cX6_nextToken 71 = .ok (.getfield 28, 3) := by decide +kernel
theorem dX6_nextToken_74 : decode cX6_nextToken 74 = .ok (.iaload, 1) := by decide +kernel
theorem dX6_nextToken_75 : decode cX6_nextToken 75 = .ok (.invokestatic 151, 3) := by decide +kernel
theorem dX6_nextToken_78 : decode cX6_nextToken 78 = .ok (.ifCond .eq 10, 3) := by decide +kernel
theorem dX6_nextToken_81 : decode cX6_nextToken 81 = .ok (.aload_n 0, 1) := by decide +kernel
theorem dX6_nextToken_82 : decode cX6_nextToken 82 = .ok (.invokevirtual 154, 3) := by decide +kernel
theorem dX6_nextToken_85 : decode cX6_nextToken 85 = .ok (.goto 58, 3) := by decide +kernel
theorem dX6_nextToken_88 : decode cX6_nextToken 88 = .ok (.aload_n 0, 1) := by decide +kernel
theorem dX6_nextToken_89 : decode cX6_nextToken 89 = .ok (.getfield 9, 3) := by decide +kernel
theorem dX6_nextToken_92 : decode cX6_nextToken 92 = .ok (.aload_n 0, 1) := by decide +kernel
theorem dX6_nextToken_93 : decode cX6_nextToken 93 = .ok (.getfield 28, 3) := by decide +kernel
theorem dX6_nextToken_96 : decode cX6_nextToken 96 = .ok (.iaload, 1) := by decide +kernel
theorem dX6_nextToken_97 : decode cX6_nextToken 97 = .ok (.invokestatic 157, 3) := by decide +kernel
theorem dX6_nextToken_100 : decode cX6_nextToken 100 = .ok (.ifCond .eq 10, 3) := by decide +kernel
theorem dX6_nextToken_103 : decode cX6_nextToken 103 = .ok (.aload_n 0, 1) := by decide +kernel
theorem dX6_nextToken_104 : decode cX6_nextToken 104 = .ok (.invokevirtual 160, 3) := by decide +kernel
theorem dX6_nextToken_107 : decode cX6_nextToken 107 = .ok (.goto 36, 3) := by decide +kernel
theorem dX6_nextToken_110 : decode cX6_nextToken 110 = .ok (.aload_n 0, 1) := by decide +kernel
theorem dX6_nextToken_111 : decode cX6_nextToken 111 = .ok (.aload_n 0, 1) := by decide +kernel
theorem dX6_nextToken_112 : decode cX6_nextToken 112 = .ok (.getfield 9, 3) := by decide +kernel
theorem dX6_nextToken_115 : decode cX6_nextToken 115 = .ok (.aload_n 0, 1) := by decide +kernel
theorem dX6_nextToken_116 : decode cX6_nextToken 116 = .ok (.getfield 28, 3) := by decide +kernel
theorem dX6_nextToken_119 : decode cX6_nextToken 119 = .ok (.iaload, 1) := by decide +kernel
theorem dX6_nextToken_120 : decode cX6_nextToken 120 = .ok (.bipush 59, 2) := by decide +kernel
theorem dX6_nextToken_122 : decode cX6_nextToken 122 = .ok (.if_icmp .ne 7, 3) := by decide +kernel
theorem dX6_nextToken_125 : decode cX6_nextToken 125 = .ok (.iconst 3, 1) := by decide +kernel
theorem dX6_nextToken_126 : decode cX6_nextToken 126 = .ok (.goto 4, 3) := by decide +kernel
theorem dX6_nextToken_129 : decode cX6_nextToken 129 = .ok (.iconst 4, 1) := by decide +kernel
theorem dX6_nextToken_130 : decode cX6_nextToken 130 = .ok (.putfield 47, 3) := by decide +kernel
theorem dX6_nextToken_133 : decode cX6_nextToken 133 = .ok (.aload_n 0, 1) := by decide +kernel
theorem dX6_nextToken_134 : decode cX6_nextToken 134 = .ok (.dup, 1) := by decide +kernel
theorem dX6_nextToken_135 : decode cX6_nextToken 135 = .ok (.getfield 28, 3) := by decide +kernel
theorem dX6_nextToken_138 : decode cX6_nextToken 138 = .ok (.iconst 1, 1) := by decide +kernel
theorem dX6_nextToken_139 : decode cX6_nextToken 139 = .ok (.iadd, 1) := by decide +kernel
theorem dX6_nextToken_140 : decode cX6_nextToken 140 = .ok (.putfield 28, 3) := by decide +kernel
theorem dX6_nextToken_143 : decode cX6_nextToken 143 = .ok (.return_, 1) := by decide +kernel
/-! BusLifts$SetupReader.nextToken()V -/
noncomputable def f_X6_nextToken_143  (σ : Sg)  : Option Sg := some σ
noncomputable def f_X6_nextToken_130  (σ : Sg) (v101 : Int32) : Option Sg := st (sup σ 6 0 5 v101) fun σ1 => (st (sup σ1 6 0 4 ((σ1 6 0 4) + 1)) fun σ2 => (f_X6_nextToken_143 σ2))
noncomputable def f_X6_nextToken_39  (σ : Sg)  : Option Sg := st (sup σ 6 0 6 (σ 6 0 4)) fun σ1 => (if (σ1 6 0 4) < (σ1 6 0 3) then (if σ1 6 0 2 = 0 then none else (if (σ1 6 0 4) < 0 ∨ 700 ≤ ((σ1 6 0 4)).toNatClampNeg then none else (bi (f_X6_isLetter σ1 (σ1 10 0 ((σ1 6 0 4)).toNatClampNeg)) fun r3 σ2 => (if r3 = 0 then (if σ2 6 0 2 = 0 then none else (if (σ2 6 0 4) < 0 ∨ 700 ≤ ((σ2 6 0 4)).toNatClampNeg then none else (bi (f_X6_isDigit σ2 (σ2 10 0 ((σ2 6 0 4)).toNatClampNeg)) fun r5 σ4 => (if r5 = 0 then (if σ4 6 0 2 = 0 then none else (if (σ4 6 0 4) < 0 ∨ 700 ≤ ((σ4 6 0 4)).toNatClampNeg then none else (if (σ4 10 0 ((σ4 6 0 4)).toNatClampNeg) = 59 then (f_X6_nextToken_130 σ4 3) else (f_X6_nextToken_130 σ4 4)))) else (bv (f_X6_skipDigits σ4) fun σ6 => (f_X6_nextToken_143 σ6)))))) else (bv (f_X6_skipLetters σ2) fun σ7 => (f_X6_nextToken_143 σ7)))))) else (st (sup σ1 6 0 5 0) fun σ8 => (f_X6_nextToken_143 σ8)))
noncomputable def f_X6_nextToken_0  : Nat → Sg → Option Sg
  | 0, _ => none
  | n + 1, σ => if (σ 6 0 3) ≤ (σ 6 0 4) then (f_X6_nextToken_39 σ) else (if σ 6 0 2 = 0 then none else (if (σ 6 0 4) < 0 ∨ 700 ≤ ((σ 6 0 4)).toNatClampNeg then none else (bi (f_X6_isBlank σ (σ 10 0 ((σ 6 0 4)).toNatClampNeg)) fun r2 σ1 => (if r2 = 0 then (f_X6_nextToken_39 σ1) else (st (sup σ1 6 0 4 ((σ1 6 0 4) + 1)) fun σ3 => (f_X6_nextToken_0  n σ3))))))
theorem f_X6_nextToken_0_s  (n : Nat) (σ : Sg)  : f_X6_nextToken_0  (n + 1) σ  = (if (σ 6 0 3) ≤ (σ 6 0 4) then (f_X6_nextToken_39 σ) else (if σ 6 0 2 = 0 then none else (if (σ 6 0 4) < 0 ∨ 700 ≤ ((σ 6 0 4)).toNatClampNeg then none else (bi (f_X6_isBlank σ (σ 10 0 ((σ 6 0 4)).toNatClampNeg)) fun r2 σ1 => (if r2 = 0 then (f_X6_nextToken_39 σ1) else (st (sup σ1 6 0 4 ((σ1 6 0 4) + 1)) fun σ3 => (f_X6_nextToken_0  n σ3))))))) := rfl
set_option maxHeartbeats 4000000 in
set_option maxRecDepth 100000 in
theorem w_X6_nextToken_143 {p : Program} {l : Launch} {e : Env} {s : State} {m : MethodId} {args : Array Value} {below : List Frame} {meth : Method} {c : Code} {G : Gx} {ad : Ad} {res : Sg} (C : Cx p s m args meth c yX6_nextToken.cls cX6_nextToken 1 none G)  : ∀ (σ : Sg)  (H : Heap) (locs : List Loc) (ls : Array Slot), z_S 0 G ad σ (z_A 0 ad s.heap.size) s.heap H locs → lv_has ls 1 [] → f_X6_nextToken_143  σ  = some res → W p l e { frames := 2, cells := 0, slots := 0, locals := 40 } s m args below meth c H locs 0 0 (MQ below (va_Qv (S := Unit) (fun _ => True) (fun _ t => z_W 0 G ad res t.heap) (z_A 0 ad s.heap.size)) args s 0 0 (z_A 0 ad s.heap.size)) (F0 m 143 ls []) := by
  intro σ  H locs ls S hl  hf
  unfold f_X6_nextToken_143 at hf
  exact z_vret C S hf dX6_nextToken_143
set_option maxHeartbeats 4000000 in
set_option maxRecDepth 100000 in
theorem w_X6_nextToken_130 {p : Program} {l : Launch} {e : Env} {s : State} {m : MethodId} {args : Array Value} {below : List Frame} {meth : Method} {c : Code} {G : Gx} {ad : Ad} {res : Sg} (C : Cx p s m args meth c yX6_nextToken.cls cX6_nextToken 1 none G)  : ∀ (σ : Sg) (v101 : Int32) (H : Heap) (locs : List Loc) (ls : Array Slot), z_S 0 G ad σ (z_A 0 ad s.heap.size) s.heap H locs → lv_has ls 1 [(0, .ref (ad 6 0))] → f_X6_nextToken_130  σ v101 = some res → W p l e { frames := 2, cells := 0, slots := 0, locals := 40 } s m args below meth c H locs 0 0 (MQ below (va_Qv (S := Unit) (fun _ => True) (fun _ t => z_W 0 G ad res t.heap) (z_A 0 ad s.heap.size)) args s 0 0 (z_A 0 ad s.heap.size)) (F0 m 130 ls [.int v101, .ref (ad 6 0)]) := by
  intro σ v101 H locs ls S hl  hf
  unfold f_X6_nextToken_130 at hf
  obtain ⟨σ1, e_130, hf⟩ := stb hf
  refine z_putI C S 6 0 rfl (by decide) cf_6 5 (by decide) (pi_6_5 G ad 0) rfl rfl rfl tw_2_88 dX6_nextToken_130 (fun H locs S => ?_)
  rw [← e_130] at S
  refine lv_aload_n C.1 C.2.1 dX6_nextToken_133 rfl (lv_at hl 0 rfl) ?_
  refine lv_dup C.1 C.2.1 dX6_nextToken_134 rfl ?_
  refine z_getI C S 6 0 rfl (by decide) cf_6 4 (by decide) (gi_6_4 G ad 0) tw_2_87 dX6_nextToken_135 ?_
  refine lv_iconst (v := 1) C.1 C.2.1 dX6_nextToken_138 (by decide) ?_
  refine lv_iadd C.1 C.2.1 dX6_nextToken_139 ?_
  obtain ⟨σ2, e_140, hf⟩ := stb hf
  refine z_putI C S 6 0 rfl (by decide) cf_6 4 (by decide) (pi_6_4 G ad 0) rfl rfl rfl tw_2_87 dX6_nextToken_140 (fun H locs S => ?_)
  rw [← e_140] at S
  exact w_X6_nextToken_143 C _ _ _ _ S (lv_sub hl [] rfl) hf
set_option maxHeartbeats 4000000 in
set_option maxRecDepth 100000 in
theorem w_X6_nextToken_39 {p : Program} {l : Launch} {e : Env} {s : State} {m : MethodId} {args : Array Value} {below : List Frame} {meth : Method} {c : Code} {G : Gx} {ad : Ad} {res : Sg} (C : Cx p s m args meth c yX6_nextToken.cls cX6_nextToken 1 none G)  : ∀ (σ : Sg)  (H : Heap) (locs : List Loc) (ls : Array Slot), z_S 0 G ad σ (z_A 0 ad s.heap.size) s.heap H locs → lv_has ls 1 [(0, .ref (ad 6 0))] → f_X6_nextToken_39  σ  = some res → W p l e { frames := 2, cells := 0, slots := 0, locals := 40 } s m args below meth c H locs 0 0 (MQ below (va_Qv (S := Unit) (fun _ => True) (fun _ t => z_W 0 G ad res t.heap) (z_A 0 ad s.heap.size)) args s 0 0 (z_A 0 ad s.heap.size)) (F0 m 39 ls []) := by
  intro σ  H locs ls S hl  hf
  unfold f_X6_nextToken_39 at hf
  refine lv_aload_n C.1 C.2.1 dX6_nextToken_39 rfl (lv_at hl 0 rfl) ?_
  refine lv_aload_n C.1 C.2.1 dX6_nextToken_40 rfl (lv_at hl 0 rfl) ?_
  refine z_getI C S 6 0 rfl (by decide) cf_6 4 (by decide) (gi_6_4 G ad 0) tw_2_87 dX6_nextToken_41 ?_
  obtain ⟨σ1, e_44, hf⟩ := stb hf
  refine z_putI C S 6 0 rfl (by decide) cf_6 6 (by decide) (pi_6_6 G ad 0) rfl rfl rfl tw_2_89 dX6_nextToken_44 (fun H locs S => ?_)
  rw [← e_44] at S
  refine lv_aload_n C.1 C.2.1 dX6_nextToken_47 rfl (lv_at hl 0 rfl) ?_
  refine z_getI C S 6 0 rfl (by decide) cf_6 4 (by decide) (gi_6_4 G ad 0) tw_2_87 dX6_nextToken_48 ?_
  refine lv_aload_n C.1 C.2.1 dX6_nextToken_51 rfl (lv_at hl 0 rfl) ?_
  refine z_getI C S 6 0 rfl (by decide) cf_6 3 (by decide) (gi_6_3 G ad 0) tw_2_86 dX6_nextToken_52 ?_
  refine lv_icmp_lt (tgt := 66) C.1 C.2.1 dX6_nextToken_55 (by decide) (fun c_55 => ?_) (fun c_55 => ?_)
  · rw [if_pos c_55] at hf
    refine lv_aload_n C.1 C.2.1 dX6_nextToken_66 rfl (lv_at hl 0 rfl) ?_
    obtain ⟨g_67, hf⟩ := gd hf
    refine z_getT C S 0 rfl (by decide) cf_6 g_67 tw_2_85 dX6_nextToken_67 ?_
    refine lv_aload_n C.1 C.2.1 dX6_nextToken_70 rfl (lv_at hl 0 rfl) ?_
    refine z_getI C S 6 0 rfl (by decide) cf_6 4 (by decide) (gi_6_4 G ad 0) tw_2_87 dX6_nextToken_71 ?_
    obtain ⟨g_74, hf⟩ := gd hf
    refine z_iald C S 10 0 rfl (by decide) 700 (fun _ => rfl) g_74 dX6_nextToken_74 ?_
    obtain ⟨r3, σ2, q_75, hf⟩ := bib hf
    refine z_callSI C S [.int (σ1 10 0 ((σ1 6 0 4)).toNatClampNeg)] (m_X6_isLetter l G ad σ1 (σ1 10 0 ((σ1 6 0 4)).toNatClampNeg) r3 σ2 q_75 _) kv_X6_isLetter tw_2_200 ⟨Nat.le_of_ble_eq_true rfl, Nat.le_of_ble_eq_true rfl⟩ rfl rfl (Nat.le_of_ble_eq_true rfl) hl.1 ⟨Nat.le_of_ble_eq_true rfl, Nat.le_of_ble_eq_true rfl⟩ dX6_nextToken_75 (fun H locs S => ?_)
    refine lv_if_eq (tgt := 88) C.1 C.2.1 dX6_nextToken_78 (by decide) (fun c_78 => ?_) (fun c_78 => ?_)
    · rw [if_pos c_78] at hf
      refine lv_aload_n C.1 C.2.1 dX6_nextToken_88 rfl (lv_at hl 0 rfl) ?_
      obtain ⟨g_89, hf⟩ := gd hf
      refine z_getT C S 0 rfl (by decide) cf_6 g_89 tw_2_85 dX6_nextToken_89 ?_
      refine lv_aload_n C.1 C.2.1 dX6_nextToken_92 rfl (lv_at hl 0 rfl) ?_
      refine z_getI C S 6 0 rfl (by decide) cf_6 4 (by decide) (gi_6_4 G ad 0) tw_2_87 dX6_nextToken_93 ?_
      obtain ⟨g_96, hf⟩ := gd hf
      refine z_iald C S 10 0 rfl (by decide) 700 (fun _ => rfl) g_96 dX6_nextToken_96 ?_
      obtain ⟨r5, σ4, q_97, hf⟩ := bib hf
      refine z_callSI C S [.int (σ2 10 0 ((σ2 6 0 4)).toNatClampNeg)] (m_X6_isDigit l G ad σ2 (σ2 10 0 ((σ2 6 0 4)).toNatClampNeg) r5 σ4 q_97 _) kv_X6_isDigit tw_2_207 ⟨Nat.le_of_ble_eq_true rfl, Nat.le_of_ble_eq_true rfl⟩ rfl rfl (Nat.le_of_ble_eq_true rfl) hl.1 ⟨Nat.le_of_ble_eq_true rfl, Nat.le_of_ble_eq_true rfl⟩ dX6_nextToken_97 (fun H locs S => ?_)
      refine lv_if_eq (tgt := 110) C.1 C.2.1 dX6_nextToken_100 (by decide) (fun c_100 => ?_) (fun c_100 => ?_)
      · rw [if_pos c_100] at hf
        refine lv_aload_n C.1 C.2.1 dX6_nextToken_110 rfl (lv_at hl 0 rfl) ?_
        refine lv_aload_n C.1 C.2.1 dX6_nextToken_111 rfl (lv_at hl 0 rfl) ?_
        obtain ⟨g_112, hf⟩ := gd hf
        refine z_getT C S 0 rfl (by decide) cf_6 g_112 tw_2_85 dX6_nextToken_112 ?_
        refine lv_aload_n C.1 C.2.1 dX6_nextToken_115 rfl (lv_at hl 0 rfl) ?_
        refine z_getI C S 6 0 rfl (by decide) cf_6 4 (by decide) (gi_6_4 G ad 0) tw_2_87 dX6_nextToken_116 ?_
        obtain ⟨g_119, hf⟩ := gd hf
        refine z_iald C S 10 0 rfl (by decide) 700 (fun _ => rfl) g_119 dX6_nextToken_119 ?_
        refine lv_bipush (v := 59) C.1 C.2.1 dX6_nextToken_120 (by decide) ?_
        refine lv_icmp_ne (tgt := 129) C.1 C.2.1 dX6_nextToken_122 (by decide) (fun c_122 => ?_) (fun c_122 => ?_)
        · rw [if_neg c_122] at hf
          refine lv_iconst (v := 4) C.1 C.2.1 dX6_nextToken_129 (by decide) ?_
          exact w_X6_nextToken_130 C _ 4 _ _ _ S (lv_sub hl [0] rfl) hf
        · rw [if_pos c_122] at hf
          refine lv_iconst (v := 3) C.1 C.2.1 dX6_nextToken_125 (by decide) ?_
          refine lv_goto (tgt := 130) C.1 C.2.1 dX6_nextToken_126 (by decide) ?_
          exact w_X6_nextToken_130 C _ 3 _ _ _ S (lv_sub hl [0] rfl) hf
      · rw [if_neg c_100] at hf
        refine lv_aload_n C.1 C.2.1 dX6_nextToken_103 rfl (lv_at hl 0 rfl) ?_
        obtain ⟨σ6, q_104, hf⟩ := bvb hf
        refine z_callV C S 6 0 rfl (by decide) cf_6 ⟨_, rfl⟩ [] (m_X6_skipDigits l G ad σ4 σ6 q_104 _) kv_X6_skipDigits tw_2_210 ⟨Nat.le_of_ble_eq_true rfl, Nat.le_of_ble_eq_true rfl⟩ rfl rfl (Nat.le_of_ble_eq_true rfl) hl.1 ⟨Nat.le_of_ble_eq_true rfl, Nat.le_of_ble_eq_true rfl⟩ dX6_nextToken_104 (fun H locs S => ?_)
        refine lv_goto (tgt := 143) C.1 C.2.1 dX6_nextToken_107 (by decide) ?_
        exact w_X6_nextToken_143 C _ _ _ _ S (lv_sub hl [] rfl) hf
    · rw [if_neg c_78] at hf
      refine lv_aload_n C.1 C.2.1 dX6_nextToken_81 rfl (lv_at hl 0 rfl) ?_
      obtain ⟨σ7, q_82, hf⟩ := bvb hf
      refine z_callV C S 6 0 rfl (by decide) cf_6 ⟨_, rfl⟩ [] (m_X6_skipLetters l G ad σ2 σ7 q_82 _) kv_X6_skipLetters tw_2_203 ⟨Nat.le_of_ble_eq_true rfl, Nat.le_of_ble_eq_true rfl⟩ rfl rfl (Nat.le_of_ble_eq_true rfl) hl.1 ⟨Nat.le_of_ble_eq_true rfl, Nat.le_of_ble_eq_true rfl⟩ dX6_nextToken_82 (fun H locs S => ?_)
      refine lv_goto (tgt := 143) C.1 C.2.1 dX6_nextToken_85 (by decide) ?_
      exact w_X6_nextToken_143 C _ _ _ _ S (lv_sub hl [] rfl) hf
  · rw [if_neg c_55] at hf
    refine lv_aload_n C.1 C.2.1 dX6_nextToken_58 rfl (lv_at hl 0 rfl) ?_
    refine lv_iconst (v := 0) C.1 C.2.1 dX6_nextToken_59 (by decide) ?_
    obtain ⟨σ8, e_60, hf⟩ := stb hf
    refine z_putI C S 6 0 rfl (by decide) cf_6 5 (by decide) (pi_6_5 G ad 0) rfl rfl rfl tw_2_88 dX6_nextToken_60 (fun H locs S => ?_)
    rw [← e_60] at S
    refine lv_goto (tgt := 143) C.1 C.2.1 dX6_nextToken_63 (by decide) ?_
    exact w_X6_nextToken_143 C _ _ _ _ S (lv_sub hl [] rfl) hf
set_option maxHeartbeats 4000000 in
set_option maxRecDepth 100000 in
theorem w_X6_nextToken_0 {p : Program} {l : Launch} {e : Env} {s : State} {m : MethodId} {args : Array Value} {below : List Frame} {meth : Method} {c : Code} {G : Gx} {ad : Ad} {res : Sg} (C : Cx p s m args meth c yX6_nextToken.cls cX6_nextToken 1 none G)  : ∀ n : Nat, ∀ (σ : Sg)  (H : Heap) (locs : List Loc) (ls : Array Slot), z_S 0 G ad σ (z_A 0 ad s.heap.size) s.heap H locs → lv_has ls 1 [(0, .ref (ad 6 0))] → f_X6_nextToken_0  n σ  = some res → W p l e { frames := 2, cells := 0, slots := 0, locals := 40 } s m args below meth c H locs 0 0 (MQ below (va_Qv (S := Unit) (fun _ => True) (fun _ t => z_W 0 G ad res t.heap) (z_A 0 ad s.heap.size)) args s 0 0 (z_A 0 ad s.heap.size)) (F0 m 0 ls []) := by
  intro n
  induction n with
  | zero => intro σ  H locs ls S hl  hf; cases hf
  | succ n ih =>
    intro σ  H locs ls S hl  hf
    rw [f_X6_nextToken_0_s] at hf
    refine lv_aload_n C.1 C.2.1 dX6_nextToken_0 rfl (lv_at hl 0 rfl) ?_
    refine z_getI C S 6 0 rfl (by decide) cf_6 4 (by decide) (gi_6_4 G ad 0) tw_2_87 dX6_nextToken_1 ?_
    refine lv_aload_n C.1 C.2.1 dX6_nextToken_4 rfl (lv_at hl 0 rfl) ?_
    refine z_getI C S 6 0 rfl (by decide) cf_6 3 (by decide) (gi_6_3 G ad 0) tw_2_86 dX6_nextToken_5 ?_
    refine lv_icmp_ge (tgt := 39) C.1 C.2.1 dX6_nextToken_8 (by decide) (fun c_8 => ?_) (fun c_8 => ?_)
    · rw [if_pos c_8] at hf
      exact w_X6_nextToken_39 C _ _ _ _ S (lv_sub hl [0] rfl) hf
    · rw [if_neg c_8] at hf
      refine lv_aload_n C.1 C.2.1 dX6_nextToken_11 rfl (lv_at hl 0 rfl) ?_
      obtain ⟨g_12, hf⟩ := gd hf
      refine z_getT C S 0 rfl (by decide) cf_6 g_12 tw_2_85 dX6_nextToken_12 ?_
      refine lv_aload_n C.1 C.2.1 dX6_nextToken_15 rfl (lv_at hl 0 rfl) ?_
      refine z_getI C S 6 0 rfl (by decide) cf_6 4 (by decide) (gi_6_4 G ad 0) tw_2_87 dX6_nextToken_16 ?_
      obtain ⟨g_19, hf⟩ := gd hf
      refine z_iald C S 10 0 rfl (by decide) 700 (fun _ => rfl) g_19 dX6_nextToken_19 ?_
      obtain ⟨r2, σ1, q_20, hf⟩ := bib hf
      refine z_callSI C S [.int (σ 10 0 ((σ 6 0 4)).toNatClampNeg)] (m_X6_isBlank l G ad σ (σ 10 0 ((σ 6 0 4)).toNatClampNeg) r2 σ1 q_20 _) kv_X6_isBlank tw_2_197 ⟨Nat.le_of_ble_eq_true rfl, Nat.le_of_ble_eq_true rfl⟩ rfl rfl (Nat.le_of_ble_eq_true rfl) hl.1 ⟨Nat.le_of_ble_eq_true rfl, Nat.le_of_ble_eq_true rfl⟩ dX6_nextToken_20 (fun H locs S => ?_)
      refine lv_if_eq (tgt := 39) C.1 C.2.1 dX6_nextToken_23 (by decide) (fun c_23 => ?_) (fun c_23 => ?_)
      · rw [if_pos c_23] at hf
        exact w_X6_nextToken_39 C _ _ _ _ S (lv_sub hl [0] rfl) hf
      · rw [if_neg c_23] at hf
        refine lv_aload_n C.1 C.2.1 dX6_nextToken_26 rfl (lv_at hl 0 rfl) ?_
        refine lv_dup C.1 C.2.1 dX6_nextToken_27 rfl ?_
        refine z_getI C S 6 0 rfl (by decide) cf_6 4 (by decide) (gi_6_4 G ad 0) tw_2_87 dX6_nextToken_28 ?_
        refine lv_iconst (v := 1) C.1 C.2.1 dX6_nextToken_31 (by decide) ?_
        refine lv_iadd C.1 C.2.1 dX6_nextToken_32 ?_
        obtain ⟨σ3, e_33, hf⟩ := stb hf
        refine z_putI C S 6 0 rfl (by decide) cf_6 4 (by decide) (pi_6_4 G ad 0) rfl rfl rfl tw_2_87 dX6_nextToken_33 (fun H locs S => ?_)
        rw [← e_33] at S
        refine lv_goto (tgt := 0) C.1 C.2.1 dX6_nextToken_36 (by decide) ?_
        exact ih _  _ _ _ S (lv_sub hl [0] rfl)  hf
theorem kv_X6_nextToken : KV yX6_nextToken cX6_nextToken 1 none 0 := ⟨tw_2_196, tw_2_195, tw_p_1, tw_1_18, by decide, by decide, by decide +kernel⟩
noncomputable def f_X6_nextToken (σ : Sg)  : Option Sg := f_X6_nextToken_0 FU σ 
theorem m_X6_nextToken (l : Launch) (G : Gx) (ad : Ad) (σ : Sg)  (σ' : Sg)  (hf : f_X6_nextToken σ  = some σ') (sz : Nat) : z_MV l yX6_nextToken cX6_nextToken 1 none 2 40 0 G ad σ sz [.ref (ad 6 0)] σ' := by
  refine z_begin (by decide +kernel) (Nat.le_of_ble_eq_true rfl) [(0, .ref (ad 6 0))] rfl (fun p e s m args below meth c ls C hz S hl => ?_)
  subst hz
  exact w_X6_nextToken_0 (res := σ') C FU σ  _ _ _ S hl  hf

theorem dX6_isWord_0 : decode cX6_isWord 0 = .ok (.aload_n 0, 1) := by decide +kernel
theorem dX6_isWord_1 : decode cX6_isWord 1 = .ok (.getfield 47, 3) := by decide +kernel
theorem dX6_isWord_4 : decode cX6_isWord 4 = .ok (.iconst 1, 1) := by decide +kernel
theorem dX6_isWord_5 : decode cX6_isWord 5 = .ok (.if_icmp .ne 19, 3) := by decide +kernel
theorem dX6_isWord_8 : decode cX6_isWord 8 = .ok (.aload_n 0, 1) := by decide +kernel
theorem dX6_isWord_9 : decode cX6_isWord 9 = .ok (.getfield 28, 3) := by decide +kernel
theorem dX6_isWord_12 : decode cX6_isWord 12 = .ok (.aload_n 0, 1) := by decide +kernel
theorem dX6_isWord_13 : decode cX6_isWord 13 = .ok (.getfield 137, 3) := by decide +kernel
theorem dX6_isWord_16 : decode cX6_isWord 16 = .ok (.isub, 1) := by decide +kernel
theorem dX6_isWord_17 : decode cX6_isWord 17 = .ok (.aload_n 1, 1) := by decide +kernel
theorem dX6_isWord_18 : decode cX6_isWord 18 = .ok (.invokevirtual 140, 3) := by decide +kernel
theorem dX6_isWord_21 : decode cX6_isWord 21 = .ok (.if_icmp .eq 5, 3) := by decide +kernel
theorem dX6_isWord_24 : decode cX6_isWord 24 = .ok (.iconst 0, 1) := by decide +kernel
theorem dX6_isWord_25 : decode cX6_isWord 25 = .ok (.ireturn, 1) := by decide +kernel
theorem dX6_isWord_26 : decode cX6_isWord 26 = .ok (.iconst 0, 1) := by decide +kernel
theorem dX6_isWord_27 : decode cX6_isWord 27 = .ok (.istore_n 2, 1) := by decide +kernel
theorem dX6_isWord_28 : decode cX6_isWord 28 = .ok (.iload_n 2, 1) := by decide +kernel
theorem dX6_isWord_29 : decode cX6_isWord 29 = .ok (.aload_n 1, 1) := by decide +kernel
theorem dX6_isWord_30 : decode cX6_isWord 30 = .ok (.invokevirtual 140, 3) := by decide +kernel
theorem dX6_isWord_33 : decode cX6_isWord 33 = .ok (.if_icmp .ge 30, 3) := by decide +kernel
theorem dX6_isWord_36 : decode cX6_isWord 36 = .ok (.aload_n 0, 1) := by decide +kernel
theorem dX6_isWord_37 : decode cX6_isWord 37 = .ok (.getfield 9, 3) := by decide +kernel
theorem dX6_isWord_40 : decode cX6_isWord 40 = .ok (.aload_n 0, 1) := by decide +kernel
theorem dX6_isWord_41 : decode cX6_isWord 41 = .ok (.getfield 137, 3) := by decide +kernel
theorem dX6_isWord_44 : decode cX6_isWord 44 = .ok (.iload_n 2, 1) := by decide +kernel
theorem dX6_isWord_45 : decode cX6_isWord 45 = .ok (.iadd, 1) := by decide +kernel
theorem dX6_isWord_46 : decode cX6_isWord 46 = .ok (.iaload, 1) := by decide +kernel
theorem dX6_isWord_47 : decode cX6_isWord 47 = .ok (.aload_n 1, 1) := by decide +kernel
theorem dX6_isWord_48 : decode cX6_isWord 48 = .ok (.iload_n 2, 1) := by decide +kernel
theorem dX6_isWord_49 : decode cX6_isWord 49 = .ok (.invokevirtual 144, 3) := by decide +kernel
theorem dX6_isWord_52 : decode cX6_isWord 52 = .ok (.if_icmp .eq 5, 3) := by decide +kernel
theorem dX6_isWord_55 : decode cX6_isWord 55 = .ok (.iconst 0, 1) := by decide +kernel
theorem dX6_isWord_56 : decode cX6_isWord 56 = .ok (.ireturn, 1) := by decide +kernel
theorem dX6_isWord_57 : decode cX6_isWord 57 = .ok (.iinc 2 1, 3) := by decide +kernel
theorem dX6_isWord_60 : decode cX6_isWord 60 = .ok (.goto (-32), 3) := by decide +kernel
theorem dX6_isWord_63 : decode cX6_isWord 63 = .ok (.iconst 1, 1) := by decide +kernel
theorem dX6_isWord_64 : decode cX6_isWord 64 = .ok (.ireturn, 1) := by decide +kernel
/-! BusLifts$SetupReader.isWord(Ljava/lang/String;)Z -/
noncomputable def f_X6_isWord_24  (σ : Sg)  : Option (Int32 × Sg) := some (0, σ)
noncomputable def f_X6_isWord_63  (σ : Sg)  : Option (Int32 × Sg) := some (1, σ)
noncomputable def f_X6_isWord_55  (σ : Sg)  : Option (Int32 × Sg) := some (0, σ)
noncomputable def f_X6_isWord_28  : Nat → Sg → Nat → Int32 → Option (Int32 × Sg)
  | 0, _, _, _ => none
  | n + 1, σ, w1, v2 => if (slen w1) ≤ v2 then (f_X6_isWord_63 σ) else (if σ 6 0 2 = 0 then none else (if ((σ 6 0 6) + v2) < 0 ∨ 700 ≤ (((σ 6 0 6) + v2)).toNatClampNeg then none else (if v2 < 0 ∨ (z_lens.getD w1 0) ≤ (v2).toNatClampNeg then none else (if (σ 10 0 (((σ 6 0 6) + v2)).toNatClampNeg) = (jchr w1 v2) then (f_X6_isWord_28  n σ w1 (v2 + 1)) else (f_X6_isWord_55 σ)))))
theorem f_X6_isWord_28_s  (n : Nat) (σ : Sg) (w1 : Nat) (v2 : Int32) : f_X6_isWord_28  (n + 1) σ w1 v2 = (if (slen w1) ≤ v2 then (f_X6_isWord_63 σ) else (if σ 6 0 2 = 0 then none else (if ((σ 6 0 6) + v2) < 0 ∨ 700 ≤ (((σ 6 0 6) + v2)).toNatClampNeg then none else (if v2 < 0 ∨ (z_lens.getD w1 0) ≤ (v2).toNatClampNeg then none else (if (σ 10 0 (((σ 6 0 6) + v2)).toNatClampNeg) = (jchr w1 v2) then (f_X6_isWord_28  n σ w1 (v2 + 1)) else (f_X6_isWord_55 σ)))))) := rfl
noncomputable def f_X6_isWord  (σ : Sg) (w1 : Nat) : Option (Int32 × Sg) := if (σ 6 0 5) = 1 then (if ((σ 6 0 4) - (σ 6 0 6)) = (slen w1) then (f_X6_isWord_28 FU σ w1 0) else (f_X6_isWord_24 σ)) else (f_X6_isWord_24 σ)
set_option maxHeartbeats 4000000 in
set_option maxRecDepth 100000 in
theorem w_X6_isWord_24 {p : Program} {l : Launch} {e : Env} {s : State} {m : MethodId} {args : Array Value} {below : List Frame} {meth : Method} {c : Code} {G : Gx} {ad : Ad} {res : Int32 × Sg} (C : Cx p s m args meth c yX6_isWord.cls cX6_isWord 3 (Option.some FieldType.boolean) G)  : ∀ (σ : Sg)  (H : Heap) (locs : List Loc) (ls : Array Slot), z_S 0 G ad σ (z_A 0 ad s.heap.size) s.heap H locs → lv_has ls 3 [] → f_X6_isWord_24  σ  = some res → W p l e { frames := 4, cells := 0, slots := 0, locals := 100 } s m args below meth c H locs 0 0 (MQ below (va_Qi (S := Unit) (fun r1 _ => r1 = res.1) (fun _ t => z_W 0 G ad res.2 t.heap) (z_A 0 ad s.heap.size)) args s 0 0 (z_A 0 ad s.heap.size)) (F0 m 24 ls []) := by
  intro σ  H locs ls S hl  hf
  unfold f_X6_isWord_24 at hf
  refine lv_iconst (v := 0) C.1 C.2.1 dX6_isWord_24 (by decide) ?_
  exact z_zret C S rfl hf dX6_isWord_25
set_option maxHeartbeats 4000000 in
set_option maxRecDepth 100000 in
theorem w_X6_isWord_63 {p : Program} {l : Launch} {e : Env} {s : State} {m : MethodId} {args : Array Value} {below : List Frame} {meth : Method} {c : Code} {G : Gx} {ad : Ad} {res : Int32 × Sg} (C : Cx p s m args meth c yX6_isWord.cls cX6_isWord 3 (Option.some FieldType.boolean) G)  : ∀ (σ : Sg)  (H : Heap) (locs : List Loc) (ls : Array Slot), z_S 0 G ad σ (z_A 0 ad s.heap.size) s.heap H locs → lv_has ls 3 [] → f_X6_isWord_63  σ  = some res → W p l e { frames := 4, cells := 0, slots := 0, locals := 100 } s m args below meth c H locs 0 0 (MQ below (va_Qi (S := Unit) (fun r1 _ => r1 = res.1) (fun _ t => z_W 0 G ad res.2 t.heap) (z_A 0 ad s.heap.size)) args s 0 0 (z_A 0 ad s.heap.size)) (F0 m 63 ls []) := by
  intro σ  H locs ls S hl  hf
  unfold f_X6_isWord_63 at hf
  refine lv_iconst (v := 1) C.1 C.2.1 dX6_isWord_63 (by decide) ?_
  exact z_zret C S rfl hf dX6_isWord_64
set_option maxHeartbeats 4000000 in
set_option maxRecDepth 100000 in
theorem w_X6_isWord_55 {p : Program} {l : Launch} {e : Env} {s : State} {m : MethodId} {args : Array Value} {below : List Frame} {meth : Method} {c : Code} {G : Gx} {ad : Ad} {res : Int32 × Sg} (C : Cx p s m args meth c yX6_isWord.cls cX6_isWord 3 (Option.some FieldType.boolean) G)  : ∀ (σ : Sg)  (H : Heap) (locs : List Loc) (ls : Array Slot), z_S 0 G ad σ (z_A 0 ad s.heap.size) s.heap H locs → lv_has ls 3 [] → f_X6_isWord_55  σ  = some res → W p l e { frames := 4, cells := 0, slots := 0, locals := 100 } s m args below meth c H locs 0 0 (MQ below (va_Qi (S := Unit) (fun r1 _ => r1 = res.1) (fun _ t => z_W 0 G ad res.2 t.heap) (z_A 0 ad s.heap.size)) args s 0 0 (z_A 0 ad s.heap.size)) (F0 m 55 ls []) := by
  intro σ  H locs ls S hl  hf
  unfold f_X6_isWord_55 at hf
  refine lv_iconst (v := 0) C.1 C.2.1 dX6_isWord_55 (by decide) ?_
  exact z_zret C S rfl hf dX6_isWord_56
set_option maxHeartbeats 4000000 in
set_option maxRecDepth 100000 in
theorem w_X6_isWord_28 {p : Program} {l : Launch} {e : Env} {s : State} {m : MethodId} {args : Array Value} {below : List Frame} {meth : Method} {c : Code} {G : Gx} {ad : Ad} {res : Int32 × Sg} (C : Cx p s m args meth c yX6_isWord.cls cX6_isWord 3 (Option.some FieldType.boolean) G)  : ∀ n : Nat, ∀ (σ : Sg) (w1 : Nat) (v2 : Int32) (H : Heap) (locs : List Loc) (ls : Array Slot), z_S 0 G ad σ (z_A 0 ad s.heap.size) s.heap H locs → lv_has ls 3 [(0, .ref (ad 6 0)), (1, .ref (G.2.2.2 (10 + w1))), (2, .int v2)] → (w1 < 18) → f_X6_isWord_28  n σ w1 v2 = some res → W p l e { frames := 4, cells := 0, slots := 0, locals := 100 } s m args below meth c H locs 0 0 (MQ below (va_Qi (S := Unit) (fun r1 _ => r1 = res.1) (fun _ t => z_W 0 G ad res.2 t.heap) (z_A 0 ad s.heap.size)) args s 0 0 (z_A 0 ad s.heap.size)) (F0 m 28 ls []) := by
  intro n
  induction n with
  | zero => intro σ w1 v2 H locs ls S hl hw1 hf; cases hf
  | succ n ih =>
    intro σ w1 v2 H locs ls S hl hw1 hf
    rw [f_X6_isWord_28_s] at hf
    refine lv_iload_n C.1 C.2.1 dX6_isWord_28 rfl (lv_at hl 2 rfl) ?_
    refine lv_aload_n C.1 C.2.1 dX6_isWord_29 rfl (lv_at hl 1 rfl) ?_
    refine z_callSt C S (z_smove C S w1 hw1) [] (m_J0_length_8abf5 l 0 G ad σ w1 hw1 _) kv_J0_length_8abf5 tw_2_219 ⟨(Nat.le_of_ble_eq_true rfl), (Nat.le_of_ble_eq_true rfl)⟩ rfl rfl (Nat.le_of_ble_eq_true rfl) hl.1 ⟨(Nat.le_of_ble_eq_true rfl), (Nat.le_of_ble_eq_true rfl)⟩ dX6_isWord_30 (fun H locs S => ?_)
    refine lv_icmp_ge (tgt := 63) C.1 C.2.1 dX6_isWord_33 (by decide) (fun c_33 => ?_) (fun c_33 => ?_)
    · rw [if_pos c_33] at hf
      exact w_X6_isWord_63 C _ _ _ _ S (lv_sub hl [] rfl) hf
    · rw [if_neg c_33] at hf
      refine lv_aload_n C.1 C.2.1 dX6_isWord_36 rfl (lv_at hl 0 rfl) ?_
      obtain ⟨g_37, hf⟩ := gd hf
      refine z_getT C S 0 rfl (by decide) cf_6 g_37 tw_2_85 dX6_isWord_37 ?_
      refine lv_aload_n C.1 C.2.1 dX6_isWord_40 rfl (lv_at hl 0 rfl) ?_
      refine z_getI C S 6 0 rfl (by decide) cf_6 6 (by decide) (gi_6_6 G ad 0) tw_2_89 dX6_isWord_41 ?_
      refine lv_iload_n C.1 C.2.1 dX6_isWord_44 rfl (lv_at hl 2 rfl) ?_
      refine lv_iadd C.1 C.2.1 dX6_isWord_45 ?_
      obtain ⟨g_46, hf⟩ := gd hf
      refine z_iald C S 10 0 rfl (by decide) 700 (fun _ => rfl) g_46 dX6_isWord_46 ?_
      refine lv_aload_n C.1 C.2.1 dX6_isWord_47 rfl (lv_at hl 1 rfl) ?_
      refine lv_iload_n C.1 C.2.1 dX6_isWord_48 rfl (lv_at hl 2 rfl) ?_
      obtain ⟨g_49, hf⟩ := gd hf
      refine z_callSt C S (z_smove C S w1 hw1) [.int v2] (m_J0_charAt_5068e l 0 G ad σ w1 v2 hw1 g_49 _) kv_J0_charAt_5068e tw_2_229 ⟨(Nat.le_of_ble_eq_true rfl), (Nat.le_of_ble_eq_true rfl)⟩ rfl rfl (Nat.le_of_ble_eq_true rfl) hl.1 ⟨(Nat.le_of_ble_eq_true rfl), (Nat.le_of_ble_eq_true rfl)⟩ dX6_isWord_49 (fun H locs S => ?_)
      refine lv_icmp_eq (tgt := 57) C.1 C.2.1 dX6_isWord_52 (by decide) (fun c_52 => ?_) (fun c_52 => ?_)
      · rw [if_pos c_52] at hf
        refine lv_iinc (v := (v2 + 1)) (lv' := [(2, .int (v2 + 1)), (0, .ref (ad 6 0)), (1, .ref (G.2.2.2 (10 + w1)))]) C.1 C.2.1 dX6_isWord_57 hl (k := 2) rfl rfl (by decide) rfl (fun ls hl => ?_)
        refine lv_goto (tgt := 28) C.1 C.2.1 dX6_isWord_60 (by decide) ?_
        exact ih _ w1 (v2 + 1) _ _ _ S (lv_sub hl [1, 2, 0] rfl) hw1 hf
      · rw [if_neg c_52] at hf
        exact w_X6_isWord_55 C _ _ _ _ S (lv_sub hl [] rfl) hf
set_option maxHeartbeats 4000000 in
set_option maxRecDepth 100000 in
theorem w_X6_isWord_0 {p : Program} {l : Launch} {e : Env} {s : State} {m : MethodId} {args : Array Value} {below : List Frame} {meth : Method} {c : Code} {G : Gx} {ad : Ad} {res : Int32 × Sg} (C : Cx p s m args meth c yX6_isWord.cls cX6_isWord 3 (Option.some FieldType.boolean) G)  : ∀ (σ : Sg) (w1 : Nat) (H : Heap) (locs : List Loc) (ls : Array Slot), z_S 0 G ad σ (z_A 0 ad s.heap.size) s.heap H locs → lv_has ls 3 [(0, .ref (ad 6 0)), (1, .ref (G.2.2.2 (10 + w1)))] → (w1 < 18) → f_X6_isWord  σ w1 = some res → W p l e { frames := 4, cells := 0, slots := 0, locals := 100 } s m args below meth c H locs 0 0 (MQ below (va_Qi (S := Unit) (fun r1 _ => r1 = res.1) (fun _ t => z_W 0 G ad res.2 t.heap) (z_A 0 ad s.heap.size)) args s 0 0 (z_A 0 ad s.heap.size)) (F0 m 0 ls []) := by
  intro σ w1 H locs ls S hl hw1 hf
  unfold f_X6_isWord at hf
  refine lv_aload_n C.1 C.2.1 dX6_isWord_0 rfl (lv_at hl 0 rfl) ?_
  refine z_getI C S 6 0 rfl (by decide) cf_6 5 (by decide) (gi_6_5 G ad 0) tw_2_88 dX6_isWord_1 ?_
  refine lv_iconst (v := 1) C.1 C.2.1 dX6_isWord_4 (by decide) ?_
  refine lv_icmp_ne (tgt := 24) C.1 C.2.1 dX6_isWord_5 (by decide) (fun c_5 => ?_) (fun c_5 => ?_)
  · rw [if_neg c_5] at hf
    exact w_X6_isWord_24 C _ _ _ _ S (lv_sub hl [] rfl) hf
  · rw [if_pos c_5] at hf
    refine lv_aload_n C.1 C.2.1 dX6_isWord_8 rfl (lv_at hl 0 rfl) ?_
    refine z_getI C S 6 0 rfl (by decide) cf_6 4 (by decide) (gi_6_4 G ad 0) tw_2_87 dX6_isWord_9 ?_
    refine lv_aload_n C.1 C.2.1 dX6_isWord_12 rfl (lv_at hl 0 rfl) ?_
    refine z_getI C S 6 0 rfl (by decide) cf_6 6 (by decide) (gi_6_6 G ad 0) tw_2_89 dX6_isWord_13 ?_
    refine lv_isub C.1 C.2.1 dX6_isWord_16 ?_
    refine lv_aload_n C.1 C.2.1 dX6_isWord_17 rfl (lv_at hl 1 rfl) ?_
    refine z_callSt C S (z_smove C S w1 hw1) [] (m_J0_length_8abf5 l 0 G ad σ w1 hw1 _) kv_J0_length_8abf5 tw_2_219 ⟨(Nat.le_of_ble_eq_true rfl), (Nat.le_of_ble_eq_true rfl)⟩ rfl rfl (Nat.le_of_ble_eq_true rfl) hl.1 ⟨(Nat.le_of_ble_eq_true rfl), (Nat.le_of_ble_eq_true rfl)⟩ dX6_isWord_18 (fun H locs S => ?_)
    refine lv_icmp_eq (tgt := 26) C.1 C.2.1 dX6_isWord_21 (by decide) (fun c_21 => ?_) (fun c_21 => ?_)
    · rw [if_pos c_21] at hf
      refine lv_iconst (v := 0) C.1 C.2.1 dX6_isWord_26 (by decide) ?_
      refine lv_istore_n (lv' := [(2, .int 0), (0, .ref (ad 6 0)), (1, .ref (G.2.2.2 (10 + w1)))]) C.1 C.2.1 dX6_isWord_27 rfl hl (by decide) rfl (fun ls hl => ?_)
      exact w_X6_isWord_28 C FU _ w1 0 _ _ _ S (lv_sub hl [1, 2, 0] rfl) hw1 hf
    · rw [if_neg c_21] at hf
      exact w_X6_isWord_24 C _ _ _ _ S (lv_sub hl [] rfl) hf
theorem kv_X6_isWord : KV yX6_isWord cX6_isWord 3 (Option.some FieldType.boolean) 1 := ⟨tw_2_218, tw_2_217, tw_p_4, tw_1_18, by decide, by decide, by decide +kernel⟩
theorem m_X6_isWord (l : Launch) (G : Gx) (ad : Ad) (σ : Sg) (w1 : Nat) (r : Int32) (σ' : Sg) (hw1 : w1 < 18) (hf : f_X6_isWord σ w1 = some (r, σ')) (sz : Nat) : z_MI l yX6_isWord cX6_isWord 3 (Option.some FieldType.boolean) 4 100 0 G ad σ sz [.ref (ad 6 0), .ref (G.2.2.2 (10 + w1))] r σ' := by
  refine z_begin (by decide +kernel) (Nat.le_of_ble_eq_true rfl) [(0, .ref (ad 6 0)), (1, .ref (G.2.2.2 (10 + w1)))] rfl (fun p e s m args below meth c ls C hz S hl => ?_)
  subst hz
  exact w_X6_isWord_0 (res := (r, σ')) C σ w1 _ _ _ S hl hw1 hf

theorem dX6_fail_0 : decode cX6_fail 0 = .ok (.aload_n 0, 1) := by decide +kernel
theorem dX6_fail_1 : decode cX6_fail 1 = .ok (.iload_n 1, 1) := by decide +kernel
theorem dX6_fail_2 : decode cX6_fail 2 = .ok (.putfield 34, 3) := by decide +kernel
theorem dX6_fail_5 : decode cX6_fail 5 = .ok (.aload_n 0, 1) := by decide +kernel
theorem dX6_fail_6 : decode cX6_fail 6 = .ok (.aload_n 0, 1) := by decide +kernel
theorem dX6_fail_7 : decode cX6_fail 7 = .ok (.getfield 137, 3) := by decide +kernel
theorem dX6_fail_10 : decode cX6_fail 10 = .ok (.putfield 37, 3) := by decide +kernel
theorem dX6_fail_13 : decode cX6_fail 13 = .ok (.iconst 0, 1) := by decide +kernel
theorem dX6_fail_14 : decode cX6_fail 14 = .ok (.ireturn, 1) := by decide +kernel
/-! BusLifts$SetupReader.fail(I)Z -/
noncomputable def f_X6_fail  (σ : Sg) (v1 : Int32) : Option (Int32 × Sg) := st (sup σ 6 0 0 v1) fun σ1 => (st (sup σ1 6 0 1 (σ1 6 0 6)) fun σ2 => (some (0, σ2)))
set_option maxHeartbeats 4000000 in
set_option maxRecDepth 100000 in
theorem w_X6_fail_0 {p : Program} {l : Launch} {e : Env} {s : State} {m : MethodId} {args : Array Value} {below : List Frame} {meth : Method} {c : Code} {G : Gx} {ad : Ad} {res : Int32 × Sg} (C : Cx p s m args meth c yX6_fail.cls cX6_fail 2 (Option.some FieldType.boolean) G)  : ∀ (σ : Sg) (v1 : Int32) (H : Heap) (locs : List Loc) (ls : Array Slot), z_S 0 G ad σ (z_A 0 ad s.heap.size) s.heap H locs → lv_has ls 2 [(0, .ref (ad 6 0)), (1, .int v1)] → f_X6_fail  σ v1 = some res → W p l e { frames := 0, cells := 0, slots := 0, locals := 0 } s m args below meth c H locs 0 0 (MQ below (va_Qi (S := Unit) (fun r1 _ => r1 = res.1) (fun _ t => z_W 0 G ad res.2 t.heap) (z_A 0 ad s.heap.size)) args s 0 0 (z_A 0 ad s.heap.size)) (F0 m 0 ls []) := by
  intro σ v1 H locs ls S hl  hf
  unfold f_X6_fail at hf
  refine lv_aload_n C.1 C.2.1 dX6_fail_0 rfl (lv_at hl 0 rfl) ?_
  refine lv_iload_n C.1 C.2.1 dX6_fail_1 rfl (lv_at hl 1 rfl) ?_
  obtain ⟨σ1, e_2, hf⟩ := stb hf
  refine z_putI C S 6 0 rfl (by decide) cf_6 0 (by decide) (pi_6_0 G ad 0) rfl rfl rfl tw_2_81 dX6_fail_2 (fun H locs S => ?_)
  rw [← e_2] at S
  refine lv_aload_n C.1 C.2.1 dX6_fail_5 rfl (lv_at hl 0 rfl) ?_
  refine lv_aload_n C.1 C.2.1 dX6_fail_6 rfl (lv_at hl 0 rfl) ?_
  refine z_getI C S 6 0 rfl (by decide) cf_6 6 (by decide) (gi_6_6 G ad 0) tw_2_89 dX6_fail_7 ?_
  obtain ⟨σ2, e_10, hf⟩ := stb hf
  refine z_putI C S 6 0 rfl (by decide) cf_6 1 (by decide) (pi_6_1 G ad 0) rfl rfl rfl tw_2_83 dX6_fail_10 (fun H locs S => ?_)
  rw [← e_10] at S
  refine lv_iconst (v := 0) C.1 C.2.1 dX6_fail_13 (by decide) ?_
  exact z_zret C S rfl hf dX6_fail_14
theorem kv_X6_fail : KV yX6_fail cX6_fail 2 (Option.some FieldType.boolean) 1 := ⟨tw_3_30, tw_3_29, tw_p_5, tw_1_18, by decide, by decide, by decide +kernel⟩
theorem m_X6_fail (l : Launch) (G : Gx) (ad : Ad) (σ : Sg) (v1 : Int32) (r : Int32) (σ' : Sg)  (hf : f_X6_fail σ v1 = some (r, σ')) (sz : Nat) : z_MI l yX6_fail cX6_fail 2 (Option.some FieldType.boolean) 0 0 0 G ad σ sz [.ref (ad 6 0), .int v1] r σ' := by
  refine z_begin (by decide +kernel) (Nat.le_of_ble_eq_true rfl) [(0, .ref (ad 6 0)), (1, .int v1)] rfl (fun p e s m args below meth c ls C hz S hl => ?_)
  subst hz
  exact w_X6_fail_0 (res := (r, σ')) C σ v1 _ _ _ S hl  hf

theorem dX6_readNumber_0 : decode cX6_readNumber 0 = .ok (.aload_n 0, 1) := by decide +kernel
theorem dX6_readNumber_1 : decode cX6_readNumber 1 = .ok (.invokevirtual 44, 3) := by decide +kernel
theorem dX6_readNumber_4 : decode cX6_readNumber 4 = .ok (.aload_n 0, 1) := by decide +kernel
theorem dX6_readNumber_5 : decode cX6_readNumber 5 = .ok (.getfield 47, 3) := by decide +kernel
theorem dX6_readNumber_8 : decode cX6_readNumber 8 = .ok (.iconst 2, 1) := by decide +kernel
theorem dX6_readNumber_9 : decode cX6_readNumber 9 = .ok (.if_icmp .eq 9, 3) := by decide +kernel
theorem dX6_readNumber_12 : decode cX6_readNumber 12 = .ok (.aload_n 0, 1) := by decide +kernel
theorem dX6_readNumber_13 : decode cX6_readNumber 13 = .ok (.iconst 1, 1) := by decide +kernel
theorem dX6_readNumber_14 : decode cX6_readNumber 14 = .ok (.invokevirtual 55, 3) := by decide +kernel
theorem dX6_readNumber_17 : decode cX6_readNumber 17 = .ok (.ireturn, 1) := by decide +kernel
theorem dX6_readNumber_18 : decode cX6_readNumber 18 = .ok (.aload_n 0, 1) := by decide +kernel
theorem dX6_readNumber_19 : decode cX6_readNumber 19 = .ok (.getfield 72, 3) := by decide +kernel
theorem dX6_readNumber_22 : decode cX6_readNumber 22 = .ok (.iload_n 1, 1) := by decide +kernel
theorem dX6_readNumber_23 : decode cX6_readNumber 23 = .ok (.if_icmp .lt 11, 3) := by decide +kernel
theorem dX6_readNumber_26 : decode cX6_readNumber 26 = .ok (.aload_n 0, 1) := by decide +kernel
theorem dX6_readNumber_27 : decode cX6_readNumber 27 = .ok (.getfield 72, 3) := by decide +kernel
theorem dX6_readNumber_30 : decode cX6_readNumber 30 = .ok (.iload_n 2, 1) := by decide +kernel
theorem dX6_readNumber_31 : decode cX6_readNumber 31 = .ok (.if_icmp .le 9, 3) := by decide +kernel
theorem dX6_readNumber_34 : decode cX6_readNumber 34 = .ok (.aload_n 0, 1) := by decide +kernel
theorem dX6_readNumber_35 : decode cX6_readNumber 35 = .ok (.iconst 2, 1) := by decide +kernel
theorem dX6_readNumber_36 : decode cX6_readNumber 36 = .ok (.invokevirtual 55, 3) := by decide +kernel
theorem dX6_readNumber_39 : decode cX6_readNumber 39 = .ok (.ireturn, 1) := by decide +kernel
theorem dX6_readNumber_40 : decode cX6_readNumber 40 = .ok (.iconst 1, 1) := by decide +kernel
theorem dX6_readNumber_41 : decode cX6_readNumber 41 = .ok (.ireturn, 1) := by decide +kernel
/-! BusLifts$SetupReader.readNumber(II)Z -/
noncomputable def f_X6_readNumber_34  (σ : Sg)  : Option (Int32 × Sg) := bi (f_X6_fail σ 2) fun r2 σ1 => (if ¬ (r2 = 0 ∨ r2 = 1) then none else (some (r2, σ1)))
noncomputable def f_X6_readNumber  (σ : Sg) (v1 : Int32) (v2 : Int32) : Option (Int32 × Sg) := bv (f_X6_nextToken σ) fun σ1 => (if (σ1 6 0 5) = 2 then (if (σ1 6 0 7) < v1 then (f_X6_readNumber_34 σ1) else (if (σ1 6 0 7) ≤ v2 then (some (1, σ1)) else (f_X6_readNumber_34 σ1))) else (bi (f_X6_fail σ1 1) fun r3 σ2 => (if ¬ (r3 = 0 ∨ r3 = 1) then none else (some (r3, σ2)))))
set_option maxHeartbeats 4000000 in
set_option maxRecDepth 100000 in
theorem w_X6_readNumber_34 {p : Program} {l : Launch} {e : Env} {s : State} {m : MethodId} {args : Array Value} {below : List Frame} {meth : Method} {c : Code} {G : Gx} {ad : Ad} {res : Int32 × Sg} (C : Cx p s m args meth c yX6_readNumber.cls cX6_readNumber 3 (Option.some FieldType.boolean) G)  : ∀ (σ : Sg)  (H : Heap) (locs : List Loc) (ls : Array Slot), z_S 0 G ad σ (z_A 0 ad s.heap.size) s.heap H locs → lv_has ls 3 [(0, .ref (ad 6 0))] → f_X6_readNumber_34  σ  = some res → W p l e { frames := 3, cells := 0, slots := 0, locals := 60 } s m args below meth c H locs 0 0 (MQ below (va_Qi (S := Unit) (fun r1 _ => r1 = res.1) (fun _ t => z_W 0 G ad res.2 t.heap) (z_A 0 ad s.heap.size)) args s 0 0 (z_A 0 ad s.heap.size)) (F0 m 34 ls []) := by
  intro σ  H locs ls S hl  hf
  unfold f_X6_readNumber_34 at hf
  refine lv_aload_n C.1 C.2.1 dX6_readNumber_34 rfl (lv_at hl 0 rfl) ?_
  refine lv_iconst (v := 2) C.1 C.2.1 dX6_readNumber_35 (by decide) ?_
  obtain ⟨r2, σ1, q_36, hf⟩ := bib hf
  refine z_callI C S 6 0 rfl (by decide) cf_6 ⟨_, rfl⟩ [.int 2] (m_X6_fail l G ad σ 2 r2 σ1 q_36 _) kv_X6_fail tw_3_27 ⟨Nat.le_of_ble_eq_true rfl, Nat.le_of_ble_eq_true rfl⟩ rfl rfl (Nat.le_of_ble_eq_true rfl) hl.1 ⟨Nat.le_of_ble_eq_true rfl, Nat.le_of_ble_eq_true rfl⟩ dX6_readNumber_36 (fun H locs S => ?_)
  obtain ⟨g_39, hf⟩ := gd hf
  exact z_zret C S (nbz g_39).1 hf dX6_readNumber_39
set_option maxHeartbeats 4000000 in
set_option maxRecDepth 100000 in
theorem w_X6_readNumber_0 {p : Program} {l : Launch} {e : Env} {s : State} {m : MethodId} {args : Array Value} {below : List Frame} {meth : Method} {c : Code} {G : Gx} {ad : Ad} {res : Int32 × Sg} (C : Cx p s m args meth c yX6_readNumber.cls cX6_readNumber 3 (Option.some FieldType.boolean) G)  : ∀ (σ : Sg) (v1 : Int32) (v2 : Int32) (H : Heap) (locs : List Loc) (ls : Array Slot), z_S 0 G ad σ (z_A 0 ad s.heap.size) s.heap H locs → lv_has ls 3 [(0, .ref (ad 6 0)), (1, .int v1), (2, .int v2)] → f_X6_readNumber  σ v1 v2 = some res → W p l e { frames := 3, cells := 0, slots := 0, locals := 60 } s m args below meth c H locs 0 0 (MQ below (va_Qi (S := Unit) (fun r1 _ => r1 = res.1) (fun _ t => z_W 0 G ad res.2 t.heap) (z_A 0 ad s.heap.size)) args s 0 0 (z_A 0 ad s.heap.size)) (F0 m 0 ls []) := by
  intro σ v1 v2 H locs ls S hl  hf
  unfold f_X6_readNumber at hf
  refine lv_aload_n C.1 C.2.1 dX6_readNumber_0 rfl (lv_at hl 0 rfl) ?_
  obtain ⟨σ1, q_1, hf⟩ := bvb hf
  refine z_callV C S 6 0 rfl (by decide) cf_6 ⟨_, rfl⟩ [] (m_X6_nextToken l G ad σ σ1 q_1 _) kv_X6_nextToken tw_2_193 ⟨Nat.le_of_ble_eq_true rfl, Nat.le_of_ble_eq_true rfl⟩ rfl rfl (Nat.le_of_ble_eq_true rfl) hl.1 ⟨Nat.le_of_ble_eq_true rfl, Nat.le_of_ble_eq_true rfl⟩ dX6_readNumber_1 (fun H locs S => ?_)
  refine lv_aload_n C.1 C.2.1 dX6_readNumber_4 rfl (lv_at hl 0 rfl) ?_
  refine z_getI C S 6 0 rfl (by decide) cf_6 5 (by decide) (gi_6_5 G ad 0) tw_2_88 dX6_readNumber_5 ?_
  refine lv_iconst (v := 2) C.1 C.2.1 dX6_readNumber_8 (by decide) ?_
  refine lv_icmp_eq (tgt := 18) C.1 C.2.1 dX6_readNumber_9 (by decide) (fun c_9 => ?_) (fun c_9 => ?_)
  · rw [if_pos c_9] at hf
    refine lv_aload_n C.1 C.2.1 dX6_readNumber_18 rfl (lv_at hl 0 rfl) ?_
    refine z_getI C S 6 0 rfl (by decide) cf_6 7 (by decide) (gi_6_7 G ad 0) tw_2_90 dX6_readNumber_19 ?_
    refine lv_iload_n C.1 C.2.1 dX6_readNumber_22 rfl (lv_at hl 1 rfl) ?_
    refine lv_icmp_lt (tgt := 34) C.1 C.2.1 dX6_readNumber_23 (by decide) (fun c_23 => ?_) (fun c_23 => ?_)
    · rw [if_pos c_23] at hf
      exact w_X6_readNumber_34 C _ _ _ _ S (lv_sub hl [0] rfl) hf
    · rw [if_neg c_23] at hf
      refine lv_aload_n C.1 C.2.1 dX6_readNumber_26 rfl (lv_at hl 0 rfl) ?_
      refine z_getI C S 6 0 rfl (by decide) cf_6 7 (by decide) (gi_6_7 G ad 0) tw_2_90 dX6_readNumber_27 ?_
      refine lv_iload_n C.1 C.2.1 dX6_readNumber_30 rfl (lv_at hl 2 rfl) ?_
      refine lv_icmp_le (tgt := 40) C.1 C.2.1 dX6_readNumber_31 (by decide) (fun c_31 => ?_) (fun c_31 => ?_)
      · rw [if_pos c_31] at hf
        refine lv_iconst (v := 1) C.1 C.2.1 dX6_readNumber_40 (by decide) ?_
        exact z_zret C S rfl hf dX6_readNumber_41
      · rw [if_neg c_31] at hf
        exact w_X6_readNumber_34 C _ _ _ _ S (lv_sub hl [0] rfl) hf
  · rw [if_neg c_9] at hf
    refine lv_aload_n C.1 C.2.1 dX6_readNumber_12 rfl (lv_at hl 0 rfl) ?_
    refine lv_iconst (v := 1) C.1 C.2.1 dX6_readNumber_13 (by decide) ?_
    obtain ⟨r3, σ2, q_14, hf⟩ := bib hf
    refine z_callI C S 6 0 rfl (by decide) cf_6 ⟨_, rfl⟩ [.int 1] (m_X6_fail l G ad σ1 1 r3 σ2 q_14 _) kv_X6_fail tw_3_27 ⟨Nat.le_of_ble_eq_true rfl, Nat.le_of_ble_eq_true rfl⟩ rfl rfl (Nat.le_of_ble_eq_true rfl) hl.1 ⟨Nat.le_of_ble_eq_true rfl, Nat.le_of_ble_eq_true rfl⟩ dX6_readNumber_14 (fun H locs S => ?_)
    obtain ⟨g_17, hf⟩ := gd hf
    exact z_zret C S (nbz g_17).1 hf dX6_readNumber_17
theorem kv_X6_readNumber : KV yX6_readNumber cX6_readNumber 3 (Option.some FieldType.boolean) 2 := ⟨tw_3_34, tw_3_33, tw_p_6, tw_1_18, by decide, by decide, by decide +kernel⟩
theorem m_X6_readNumber (l : Launch) (G : Gx) (ad : Ad) (σ : Sg) (v1 : Int32) (v2 : Int32) (r : Int32) (σ' : Sg)  (hf : f_X6_readNumber σ v1 v2 = some (r, σ')) (sz : Nat) : z_MI l yX6_readNumber cX6_readNumber 3 (Option.some FieldType.boolean) 3 60 0 G ad σ sz [.ref (ad 6 0), .int v1, .int v2] r σ' := by
  refine z_begin (by decide +kernel) (Nat.le_of_ble_eq_true rfl) [(0, .ref (ad 6 0)), (1, .int v1), (2, .int v2)] rfl (fun p e s m args below meth c ls C hz S hl => ?_)
  subst hz
  exact w_X6_readNumber_0 (res := (r, σ')) C σ v1 v2 _ _ _ S hl  hf

theorem dX6_readSemicolon_0 : decode cX6_readSemicolon 0 = .ok (.aload_n 0, 1) := by decide +kernel
theorem dX6_readSemicolon_1 : decode cX6_readSemicolon 1 = .ok (.invokevirtual 44, 3) := by decide +kernel
theorem dX6_readSemicolon_4 : decode cX6_readSemicolon 4 = .ok (.aload_n 0, 1) := by decide +kernel
theorem dX6_readSemicolon_5 : decode cX6_readSemicolon 5 = .ok (.getfield 47, 3) := by decide +kernel
theorem dX6_readSemicolon_8 : decode cX6_readSemicolon 8 = .ok (.iconst 3, 1) := by decide +kernel
theorem dX6_readSemicolon_9 : decode cX6_readSemicolon 9 = .ok (.if_icmp .eq 11, 3) := by decide +kernel
theorem dX6_readSemicolon_12 : decode cX6_readSemicolon 12 = .ok (.aload_n 0, 1) := by decide +kernel
theorem dX6_readSemicolon_13 : decode cX6_readSemicolon 13 = .ok (.iconst 1, 1) := by decide +kernel
theorem dX6_readSemicolon_14 : decode cX6_readSemicolon 14 = .ok (.invokevirtual 55, 3) := by decide +kernel
theorem dX6_readSemicolon_17 : decode cX6_readSemicolon 17 = .ok (.ifCond .eq 7, 3) := by decide +kernel
theorem dX6_readSemicolon_20 : decode cX6_readSemicolon 20 = .ok (.iconst 1, 1) := by decide +kernel
theorem dX6_readSemicolon_21 : decode cX6_readSemicolon 21 = .ok (.goto 4, 3) := by decide +kernel
theorem dX6_readSemicolon_24 : decode cX6_readSemicolon 24 = .ok (.iconst 0, 1) := by decide +kernel
theorem dX6_readSemicolon_25 : decode cX6_readSemicolon 25 = .ok (.ireturn, 1) := by decide +kernel
/-! BusLifts$SetupReader.readSemicolon()Z -/
noncomputable def f_X6_readSemicolon_25  (σ : Sg) (v100 : Int32) : Option (Int32 × Sg) := if ¬ (v100 = 0 ∨ v100 = 1) then none else (some (v100, σ))
noncomputable def f_X6_readSemicolon_20  (σ : Sg)  : Option (Int32 × Sg) := f_X6_readSemicolon_25 σ 1
noncomputable def f_X6_readSemicolon  (σ : Sg)  : Option (Int32 × Sg) := bv (f_X6_nextToken σ) fun σ1 => (if (σ1 6 0 5) = 3 then (f_X6_readSemicolon_20 σ1) else (bi (f_X6_fail σ1 1) fun r3 σ2 => (if r3 = 0 then (f_X6_readSemicolon_25 σ2 0) else (f_X6_readSemicolon_20 σ2))))
set_option maxHeartbeats 4000000 in
set_option maxRecDepth 100000 in
theorem w_X6_readSemicolon_25 {p : Program} {l : Launch} {e : Env} {s : State} {m : MethodId} {args : Array Value} {below : List Frame} {meth : Method} {c : Code} {G : Gx} {ad : Ad} {res : Int32 × Sg} (C : Cx p s m args meth c yX6_readSemicolon.cls cX6_readSemicolon 1 (Option.some FieldType.boolean) G)  : ∀ (σ : Sg) (v100 : Int32) (H : Heap) (locs : List Loc) (ls : Array Slot), z_S 0 G ad σ (z_A 0 ad s.heap.size) s.heap H locs → lv_has ls 1 [] → f_X6_readSemicolon_25  σ v100 = some res → W p l e { frames := 3, cells := 0, slots := 0, locals := 60 } s m args below meth c H locs 0 0 (MQ below (va_Qi (S := Unit) (fun r1 _ => r1 = res.1) (fun _ t => z_W 0 G ad res.2 t.heap) (z_A 0 ad s.heap.size)) args s 0 0 (z_A 0 ad s.heap.size)) (F0 m 25 ls [.int v100]) := by
  intro σ v100 H locs ls S hl  hf
  unfold f_X6_readSemicolon_25 at hf
  obtain ⟨g_25, hf⟩ := gd hf
  exact z_zret C S (nbz g_25).1 hf dX6_readSemicolon_25
set_option maxHeartbeats 4000000 in
set_option maxRecDepth 100000 in
theorem w_X6_readSemicolon_20 {p : Program} {l : Launch} {e : Env} {s : State} {m : MethodId} {args : Array Value} {below : List Frame} {meth : Method} {c : Code} {G : Gx} {ad : Ad} {res : Int32 × Sg} (C : Cx p s m args meth c yX6_readSemicolon.cls cX6_readSemicolon 1 (Option.some FieldType.boolean) G)  : ∀ (σ : Sg)  (H : Heap) (locs : List Loc) (ls : Array Slot), z_S 0 G ad σ (z_A 0 ad s.heap.size) s.heap H locs → lv_has ls 1 [] → f_X6_readSemicolon_20  σ  = some res → W p l e { frames := 3, cells := 0, slots := 0, locals := 60 } s m args below meth c H locs 0 0 (MQ below (va_Qi (S := Unit) (fun r1 _ => r1 = res.1) (fun _ t => z_W 0 G ad res.2 t.heap) (z_A 0 ad s.heap.size)) args s 0 0 (z_A 0 ad s.heap.size)) (F0 m 20 ls []) := by
  intro σ  H locs ls S hl  hf
  unfold f_X6_readSemicolon_20 at hf
  refine lv_iconst (v := 1) C.1 C.2.1 dX6_readSemicolon_20 (by decide) ?_
  refine lv_goto (tgt := 25) C.1 C.2.1 dX6_readSemicolon_21 (by decide) ?_
  exact w_X6_readSemicolon_25 C _ 1 _ _ _ S (lv_sub hl [] rfl) hf
set_option maxHeartbeats 4000000 in
set_option maxRecDepth 100000 in
theorem w_X6_readSemicolon_0 {p : Program} {l : Launch} {e : Env} {s : State} {m : MethodId} {args : Array Value} {below : List Frame} {meth : Method} {c : Code} {G : Gx} {ad : Ad} {res : Int32 × Sg} (C : Cx p s m args meth c yX6_readSemicolon.cls cX6_readSemicolon 1 (Option.some FieldType.boolean) G)  : ∀ (σ : Sg)  (H : Heap) (locs : List Loc) (ls : Array Slot), z_S 0 G ad σ (z_A 0 ad s.heap.size) s.heap H locs → lv_has ls 1 [(0, .ref (ad 6 0))] → f_X6_readSemicolon  σ  = some res → W p l e { frames := 3, cells := 0, slots := 0, locals := 60 } s m args below meth c H locs 0 0 (MQ below (va_Qi (S := Unit) (fun r1 _ => r1 = res.1) (fun _ t => z_W 0 G ad res.2 t.heap) (z_A 0 ad s.heap.size)) args s 0 0 (z_A 0 ad s.heap.size)) (F0 m 0 ls []) := by
  intro σ  H locs ls S hl  hf
  unfold f_X6_readSemicolon at hf
  refine lv_aload_n C.1 C.2.1 dX6_readSemicolon_0 rfl (lv_at hl 0 rfl) ?_
  obtain ⟨σ1, q_1, hf⟩ := bvb hf
  refine z_callV C S 6 0 rfl (by decide) cf_6 ⟨_, rfl⟩ [] (m_X6_nextToken l G ad σ σ1 q_1 _) kv_X6_nextToken tw_2_193 ⟨Nat.le_of_ble_eq_true rfl, Nat.le_of_ble_eq_true rfl⟩ rfl rfl (Nat.le_of_ble_eq_true rfl) hl.1 ⟨Nat.le_of_ble_eq_true rfl, Nat.le_of_ble_eq_true rfl⟩ dX6_readSemicolon_1 (fun H locs S => ?_)
  refine lv_aload_n C.1 C.2.1 dX6_readSemicolon_4 rfl (lv_at hl 0 rfl) ?_
  refine z_getI C S 6 0 rfl (by decide) cf_6 5 (by decide) (gi_6_5 G ad 0) tw_2_88 dX6_readSemicolon_5 ?_
  refine lv_iconst (v := 3) C.1 C.2.1 dX6_readSemicolon_8 (by decide) ?_
  refine lv_icmp_eq (tgt := 20) C.1 C.2.1 dX6_readSemicolon_9 (by decide) (fun c_9 => ?_) (fun c_9 => ?_)
  · rw [if_pos c_9] at hf
    exact w_X6_readSemicolon_20 C _ _ _ _ S (lv_sub hl [] rfl) hf
  · rw [if_neg c_9] at hf
    refine lv_aload_n C.1 C.2.1 dX6_readSemicolon_12 rfl (lv_at hl 0 rfl) ?_
    refine lv_iconst (v := 1) C.1 C.2.1 dX6_readSemicolon_13 (by decide) ?_
    obtain ⟨r3, σ2, q_14, hf⟩ := bib hf
    refine z_callI C S 6 0 rfl (by decide) cf_6 ⟨_, rfl⟩ [.int 1] (m_X6_fail l G ad σ1 1 r3 σ2 q_14 _) kv_X6_fail tw_3_27 ⟨Nat.le_of_ble_eq_true rfl, Nat.le_of_ble_eq_true rfl⟩ rfl rfl (Nat.le_of_ble_eq_true rfl) hl.1 ⟨Nat.le_of_ble_eq_true rfl, Nat.le_of_ble_eq_true rfl⟩ dX6_readSemicolon_14 (fun H locs S => ?_)
    refine lv_if_eq (tgt := 24) C.1 C.2.1 dX6_readSemicolon_17 (by decide) (fun c_17 => ?_) (fun c_17 => ?_)
    · rw [if_pos c_17] at hf
      refine lv_iconst (v := 0) C.1 C.2.1 dX6_readSemicolon_24 (by decide) ?_
      exact w_X6_readSemicolon_25 C _ 0 _ _ _ S (lv_sub hl [] rfl) hf
    · rw [if_neg c_17] at hf
      exact w_X6_readSemicolon_20 C _ _ _ _ S (lv_sub hl [] rfl) hf
theorem kv_X6_readSemicolon : KV yX6_readSemicolon cX6_readSemicolon 1 (Option.some FieldType.boolean) 0 := ⟨tw_3_39, tw_3_38, tw_p_7, tw_1_18, by decide, by decide, by decide +kernel⟩
theorem m_X6_readSemicolon (l : Launch) (G : Gx) (ad : Ad) (σ : Sg)  (r : Int32) (σ' : Sg)  (hf : f_X6_readSemicolon σ  = some (r, σ')) (sz : Nat) : z_MI l yX6_readSemicolon cX6_readSemicolon 1 (Option.some FieldType.boolean) 3 60 0 G ad σ sz [.ref (ad 6 0)] r σ' := by
  refine z_begin (by decide +kernel) (Nat.le_of_ble_eq_true rfl) [(0, .ref (ad 6 0))] rfl (fun p e s m args below meth c ls C hz S hl => ?_)
  subst hz
  exact w_X6_readSemicolon_0 (res := (r, σ')) C σ  _ _ _ S hl  hf

theorem dX6_readFloors_0 : decode cX6_readFloors 0 = .ok (.aload_n 0, 1) := by decide +kernel
theorem dX6_readFloors_1 : decode cX6_readFloors 1 = .ok (.invokevirtual 44, 3) := by decide +kernel
theorem dX6_readFloors_4 : decode cX6_readFloors 4 = .ok (.aload_n 0, 1) := by decide +kernel
theorem dX6_readFloors_5 : decode cX6_readFloors 5 = .ok (.ldc 62, 2) := by decide +kernel
theorem dX6_readFloors_7 : decode cX6_readFloors 7 = .ok (.invokevirtual 64, 3) := by decide +kernel
theorem dX6_readFloors_10 : decode cX6_readFloors 10 = .ok (.ifCond .ne 9, 3) := by decide +kernel
theorem dX6_readFloors_13 : decode cX6_readFloors 13 = .ok (.aload_n 0, 1) := by decide +kernel
theorem dX6_readFloors_14 : decode cX6_readFloors 14 = .ok (.iconst 1, 1) := by decide +kernel
theorem dX6_readFloors_15 : decode cX6_readFloors 15 = .ok (.invokevirtual 55, 3) := by decide +kernel
theorem dX6_readFloors_18 : decode cX6_readFloors 18 = .ok (.ireturn, 1) := by decide +kernel
theorem dX6_readFloors_19 : decode cX6_readFloors 19 = .ok (.aload_n 0, 1) := by decide +kernel
theorem dX6_readFloors_20 : decode cX6_readFloors 20 = .ok (.iconst 2, 1) := by decide +kernel
theorem dX6_readFloors_21 : decode cX6_readFloors 21 = .ok (.bipush 30, 2) := by decide +kernel
theorem dX6_readFloors_23 : decode cX6_readFloors 23 = .ok (.invokevirtual 68, 3) := by decide +kernel
theorem dX6_readFloors_26 : decode cX6_readFloors 26 = .ok (.ifCond .ne 5, 3) := by decide +kernel
theorem dX6_readFloors_29 : decode cX6_readFloors 29 = .ok (.iconst 0, 1) := by decide +kernel
theorem dX6_readFloors_30 : decode cX6_readFloors 30 = .ok (.ireturn, 1) := by decide +kernel
theorem dX6_readFloors_31 : decode cX6_readFloors 31 = .ok (.aload_n 1, 1) := by decide +kernel
theorem dX6_readFloors_32 : decode cX6_readFloors 32 = .ok (.aload_n 0, 1) := by decide +kernel
theorem dX6_readFloors_33 : decode cX6_readFloors 33 = .ok (.getfield 72, 3) := by decide +kernel
theorem dX6_readFloors_36 : decode cX6_readFloors 36 = .ok (.invokevirtual 75, 3) := by decide +kernel
theorem dX6_readFloors_39 : decode cX6_readFloors 39 = .ok (.aload_n 0, 1) := by decide +kernel
theorem dX6_readFloors_40 : decode cX6_readFloors 40 = .ok (.invokevirtual 79, 3) := by decide +kernel
theorem dX6_readFloors_43 : decode cX6_readFloors 43 = .ok (.ireturn, 1) := by decide +kernel
/-! BusLifts$SetupReader.readFloors(LBusLifts$Lifts;)Z -/
noncomputable def f_X6_readFloors  (σ : Sg) (o1 : Nat) : Option (Int32 × Sg) := bv (f_X6_nextToken σ) fun σ1 => (bi (f_X6_isWord σ1 0) fun r3 σ2 => (if r3 = 0 then (bi (f_X6_fail σ2 1) fun r10 σ9 => (if ¬ (r10 = 0 ∨ r10 = 1) then none else (some (r10, σ9)))) else (bi (f_X6_readNumber σ2 2 30) fun r5 σ4 => (if r5 = 0 then (some (0, σ4)) else (bv (f_X4_clear σ4 o1 (σ4 6 0 7)) fun σ6 => (bi (f_X6_readSemicolon σ6) fun r8 σ7 => (if ¬ (r8 = 0 ∨ r8 = 1) then none else (some (r8, σ7)))))))))
set_option maxHeartbeats 4000000 in
set_option maxRecDepth 100000 in
theorem w_X6_readFloors_0 {p : Program} {l : Launch} {e : Env} {s : State} {m : MethodId} {args : Array Value} {below : List Frame} {meth : Method} {c : Code} {G : Gx} {ad : Ad} {res : Int32 × Sg} (C : Cx p s m args meth c yX6_readFloors.cls cX6_readFloors 2 (Option.some FieldType.boolean) G)  : ∀ (σ : Sg) (o1 : Nat) (H : Heap) (locs : List Loc) (ls : Array Slot), z_S 0 G ad σ (z_A 0 ad s.heap.size) s.heap H locs → lv_has ls 2 [(0, .ref (ad 6 0)), (1, .ref (ad 4 o1))] → (o1 < z_cnt 4) → f_X6_readFloors  σ o1 = some res → W p l e { frames := 5, cells := 0, slots := 0, locals := 122 } s m args below meth c H locs 0 0 (MQ below (va_Qi (S := Unit) (fun r1 _ => r1 = res.1) (fun _ t => z_W 0 G ad res.2 t.heap) (z_A 0 ad s.heap.size)) args s 0 0 (z_A 0 ad s.heap.size)) (F0 m 0 ls []) := by
  intro σ o1 H locs ls S hl ho1 hf
  unfold f_X6_readFloors at hf
  refine lv_aload_n C.1 C.2.1 dX6_readFloors_0 rfl (lv_at hl 0 rfl) ?_
  obtain ⟨σ1, q_1, hf⟩ := bvb hf
  refine z_callV C S 6 0 rfl (by decide) cf_6 ⟨_, rfl⟩ [] (m_X6_nextToken l G ad σ σ1 q_1 _) kv_X6_nextToken tw_2_193 ⟨Nat.le_of_ble_eq_true rfl, Nat.le_of_ble_eq_true rfl⟩ rfl rfl (Nat.le_of_ble_eq_true rfl) hl.1 ⟨Nat.le_of_ble_eq_true rfl, Nat.le_of_ble_eq_true rfl⟩ dX6_readFloors_1 (fun H locs S => ?_)
  refine lv_aload_n C.1 C.2.1 dX6_readFloors_4 rfl (lv_at hl 0 rfl) ?_
  refine z_sldc (sa := 10 + 0) C (List.mem_of_getElem? (i := 0) rfl) dX6_readFloors_5 ?_
  obtain ⟨r3, σ2, q_7, hf⟩ := bib hf
  refine z_callI C S 6 0 rfl (by decide) cf_6 ⟨_, rfl⟩ [.ref (G.2.2.2 (10 + 0))] (m_X6_isWord l G ad σ1 0 r3 σ2 (by decide) q_7 _) kv_X6_isWord tw_2_215 ⟨Nat.le_of_ble_eq_true rfl, Nat.le_of_ble_eq_true rfl⟩ rfl rfl (Nat.le_of_ble_eq_true rfl) hl.1 ⟨Nat.le_of_ble_eq_true rfl, Nat.le_of_ble_eq_true rfl⟩ dX6_readFloors_7 (fun H locs S => ?_)
  refine lv_if_ne (tgt := 19) C.1 C.2.1 dX6_readFloors_10 (by decide) (fun c_10 => ?_) (fun c_10 => ?_)
  · rw [if_neg c_10] at hf
    refine lv_aload_n C.1 C.2.1 dX6_readFloors_19 rfl (lv_at hl 0 rfl) ?_
    refine lv_iconst (v := 2) C.1 C.2.1 dX6_readFloors_20 (by decide) ?_
    refine lv_bipush (v := 30) C.1 C.2.1 dX6_readFloors_21 (by decide) ?_
    obtain ⟨r5, σ4, q_23, hf⟩ := bib hf
    refine z_callI C S 6 0 rfl (by decide) cf_6 ⟨_, rfl⟩ [.int 2, .int 30] (m_X6_readNumber l G ad σ2 2 30 r5 σ4 q_23 _) kv_X6_readNumber tw_3_31 ⟨Nat.le_of_ble_eq_true rfl, Nat.le_of_ble_eq_true rfl⟩ rfl rfl (Nat.le_of_ble_eq_true rfl) hl.1 ⟨Nat.le_of_ble_eq_true rfl, Nat.le_of_ble_eq_true rfl⟩ dX6_readFloors_23 (fun H locs S => ?_)
    refine lv_if_ne (tgt := 31) C.1 C.2.1 dX6_readFloors_26 (by decide) (fun c_26 => ?_) (fun c_26 => ?_)
    · rw [if_neg c_26] at hf
      refine lv_aload_n C.1 C.2.1 dX6_readFloors_31 rfl (lv_at hl 1 rfl) ?_
      refine lv_aload_n C.1 C.2.1 dX6_readFloors_32 rfl (lv_at hl 0 rfl) ?_
      refine z_getI C S 6 0 rfl (by decide) cf_6 7 (by decide) (gi_6_7 G ad 0) tw_2_90 dX6_readFloors_33 ?_
      obtain ⟨σ6, q_36, hf⟩ := bvb hf
      refine z_callV C S 4 o1 rfl ho1 cf_4 ⟨_, rfl⟩ [.int (σ4 6 0 7)] (m_X4_clear l G ad σ4 o1 (σ4 6 0 7) σ6 ho1 q_36 _) kv_X4_clear tw_3_35 ⟨Nat.le_of_ble_eq_true rfl, Nat.le_of_ble_eq_true rfl⟩ rfl rfl (Nat.le_of_ble_eq_true rfl) hl.1 ⟨Nat.le_of_ble_eq_true rfl, Nat.le_of_ble_eq_true rfl⟩ dX6_readFloors_36 (fun H locs S => ?_)
      refine lv_aload_n C.1 C.2.1 dX6_readFloors_39 rfl (lv_at hl 0 rfl) ?_
      obtain ⟨r8, σ7, q_40, hf⟩ := bib hf
      refine z_callI C S 6 0 rfl (by decide) cf_6 ⟨_, rfl⟩ [] (m_X6_readSemicolon l G ad σ6 r8 σ7 q_40 _) kv_X6_readSemicolon tw_3_36 ⟨Nat.le_of_ble_eq_true rfl, Nat.le_of_ble_eq_true rfl⟩ rfl rfl (Nat.le_of_ble_eq_true rfl) hl.1 ⟨Nat.le_of_ble_eq_true rfl, Nat.le_of_ble_eq_true rfl⟩ dX6_readFloors_40 (fun H locs S => ?_)
      obtain ⟨g_43, hf⟩ := gd hf
      exact z_zret C S (nbz g_43).1 hf dX6_readFloors_43
    · rw [if_pos c_26] at hf
      refine lv_iconst (v := 0) C.1 C.2.1 dX6_readFloors_29 (by decide) ?_
      exact z_zret C S rfl hf dX6_readFloors_30
  · rw [if_pos c_10] at hf
    refine lv_aload_n C.1 C.2.1 dX6_readFloors_13 rfl (lv_at hl 0 rfl) ?_
    refine lv_iconst (v := 1) C.1 C.2.1 dX6_readFloors_14 (by decide) ?_
    obtain ⟨r10, σ9, q_15, hf⟩ := bib hf
    refine z_callI C S 6 0 rfl (by decide) cf_6 ⟨_, rfl⟩ [.int 1] (m_X6_fail l G ad σ2 1 r10 σ9 q_15 _) kv_X6_fail tw_3_27 ⟨Nat.le_of_ble_eq_true rfl, Nat.le_of_ble_eq_true rfl⟩ rfl rfl (Nat.le_of_ble_eq_true rfl) hl.1 ⟨Nat.le_of_ble_eq_true rfl, Nat.le_of_ble_eq_true rfl⟩ dX6_readFloors_15 (fun H locs S => ?_)
    obtain ⟨g_18, hf⟩ := gd hf
    exact z_zret C S (nbz g_18).1 hf dX6_readFloors_18
theorem kv_X6_readFloors : KV yX6_readFloors cX6_readFloors 2 (Option.some FieldType.boolean) 1 := ⟨tw_2_192, tw_2_191, tw_p_0, tw_1_18, by decide, by decide, by decide +kernel⟩
theorem m_X6_readFloors (l : Launch) (G : Gx) (ad : Ad) (σ : Sg) (o1 : Nat) (r : Int32) (σ' : Sg) (ho1 : o1 < z_cnt 4) (hf : f_X6_readFloors σ o1 = some (r, σ')) (sz : Nat) : z_MI l yX6_readFloors cX6_readFloors 2 (Option.some FieldType.boolean) 5 122 0 G ad σ sz [.ref (ad 6 0), .ref (ad 4 o1)] r σ' := by
  refine z_begin (by decide +kernel) (Nat.le_of_ble_eq_true rfl) [(0, .ref (ad 6 0)), (1, .ref (ad 4 o1))] rfl (fun p e s m args below meth c ls C hz S hl => ?_)
  subst hz
  exact w_X6_readFloors_0 (res := (r, σ')) C σ o1 _ _ _ S hl ho1 hf

theorem dX6_readCar_0 : decode cX6_readCar 0 = .ok (.aload_n 1, 1) := by decide +kernel
theorem dX6_readCar_1 : decode cX6_readCar 1 = .ok (.getfield 50, 3) := by decide +kernel
theorem dX6_readCar_4 : decode cX6_readCar 4 = .ok (.iconst 4, 1) := by decide +kernel
theorem dX6_readCar_5 : decode cX6_readCar 5 = .ok (.if_icmp .lt 9, 3) := by decide +kernel
theorem dX6_readCar_8 : decode cX6_readCar 8 = .ok (.aload_n 0, 1) := by decide +kernel
theorem dX6_readCar_9 : decode cX6_readCar 9 = .ok (.iconst 3, 1) := by decide +kernel
theorem dX6_readCar_10 : decode cX6_readCar 10 = .ok (.invokevirtual 55, 3) := by decide +kernel
theorem dX6_readCar_13 : decode cX6_readCar 13 = .ok (.ireturn, 1) := by decide +kernel
theorem dX6_readCar_14 : decode cX6_readCar 14 = .ok (.aload_n 0, 1) := by decide +kernel
theorem dX6_readCar_15 : decode cX6_readCar 15 = .ok (.iconst 0, 1) := by decide +kernel
theorem dX6_readCar_16 : decode cX6_readCar 16 = .ok (.aload_n 1, 1) := by decide +kernel
theorem dX6_readCar_17 : decode cX6_readCar 17 = .ok (.getfield 101, 3) := by decide +kernel
theorem dX6_readCar_20 : decode cX6_readCar 20 = .ok (.iconst 1, 1) := by decide +kernel
theorem dX6_readCar_21 : decode cX6_readCar 21 = .ok (.isub, 1) := by decide +kernel
theorem dX6_readCar_22 : decode cX6_readCar 22 = .ok (.invokevirtual 68, 3) := by decide +kernel
theorem dX6_readCar_25 : decode cX6_readCar 25 = .ok (.ifCond .ne 5, 3) := by decide +kernel
theorem dX6_readCar_28 : decode cX6_readCar 28 = .ok (.iconst 0, 1) := by decide +kernel
theorem dX6_readCar_29 : decode cX6_readCar 29 = .ok (.ireturn, 1) := by decide +kernel
theorem dX6_readCar_30 : decode cX6_readCar 30 = .ok (.aload_n 0, 1) := by decide +kernel
theorem dX6_readCar_31 : decode cX6_readCar 31 = .ok (.getfield 72, 3) := by decide +kernel
theorem dX6_readCar_34 : decode cX6_readCar 34 = .ok (.istore_n 2, 1) := by decide +kernel
theorem dX6_readCar_35 : decode cX6_readCar 35 = .ok (.aload_n 0, 1) := by decide +kernel
theorem dX6_readCar_36 : decode cX6_readCar 36 = .ok (.iconst 1, 1) := by decide +kernel
theorem dX6_readCar_37 : decode cX6_readCar 37 = .ok (.bipush 8, 2) := by decide +kernel
theorem dX6_readCar_39 : decode cX6_readCar 39 = .ok (.invokevirtual 68, 3) := by decide +kernel
theorem dX6_readCar_42 : decode cX6_readCar 42 = .ok (.ifCond .ne 5, 3) := by decide +kernel
theorem dX6_readCar_45 : decode cX6_readCar 45 = .ok (.iconst 0, 1) := by decide +kernel
theorem dX6_readCar_46 : decode cX6_readCar 46 = .ok (.ireturn, 1) := by decide +kernel
theorem dX6_readCar_47 : decode cX6_readCar 47 = .ok (.aload_n 1, 1) := by decide +kernel
theorem dX6_readCar_48 : decode cX6_readCar 48 = .ok (.iload_n 2, 1) := by decide +kernel
theorem dX6_readCar_49 : decode cX6_readCar 49 = .ok (.aload_n 0, 1) := by decide +kernel
theorem dX6_readCar_50 : decode cX6_readCar 50 = .ok (.getfield 72, 3) := by decide +kernel
theorem dX6_readCar_53 : decode cX6_readCar 53 = .ok (.invokevirtual 103, 3) := by decide +kernel
theorem dX6_readCar_56 : decode cX6_readCar 56 = .ok (.aload_n 0, 1) := by decide +kernel
theorem dX6_readCar_57 : decode cX6_readCar 57 = .ok (.invokevirtual 79, 3) := by decide +kernel
theorem dX6_readCar_60 : decode cX6_readCar 60 = .ok (.ireturn, 1) := by decide +kernel
/-! BusLifts$SetupReader.readCar(LBusLifts$Lifts;)Z -/
noncomputable def f_X6_readCar  (σ : Sg) (o1 : Nat) : Option (Int32 × Sg) := if (σ 4 o1 1) < 4 then (bi (f_X6_readNumber σ 0 ((σ 4 o1 0) - 1)) fun r2 σ1 => (if r2 = 0 then (some (0, σ1)) else (bi (f_X6_readNumber σ1 1 8) fun r4 σ3 => (if r4 = 0 then (some (0, σ3)) else (bv (f_X4_addCar σ3 o1 (σ1 6 0 7) (σ3 6 0 7)) fun σ5 => (bi (f_X6_readSemicolon σ5) fun r7 σ6 => (if ¬ (r7 = 0 ∨ r7 = 1) then none else (some (r7, σ6))))))))) else (bi (f_X6_fail σ 3) fun r9 σ8 => (if ¬ (r9 = 0 ∨ r9 = 1) then none else (some (r9, σ8))))
set_option maxHeartbeats 4000000 in
set_option maxRecDepth 100000 in
theorem w_X6_readCar_0 {p : Program} {l : Launch} {e : Env} {s : State} {m : MethodId} {args : Array Value} {below : List Frame} {meth : Method} {c : Code} {G : Gx} {ad : Ad} {res : Int32 × Sg} (C : Cx p s m args meth c yX6_readCar.cls cX6_readCar 3 (Option.some FieldType.boolean) G)  : ∀ (σ : Sg) (o1 : Nat) (H : Heap) (locs : List Loc) (ls : Array Slot), z_S 0 G ad σ (z_A 0 ad s.heap.size) s.heap H locs → lv_has ls 3 [(0, .ref (ad 6 0)), (1, .ref (ad 4 o1))] → (o1 < z_cnt 4) → f_X6_readCar  σ o1 = some res → W p l e { frames := 4, cells := 0, slots := 0, locals := 90 } s m args below meth c H locs 0 0 (MQ below (va_Qi (S := Unit) (fun r1 _ => r1 = res.1) (fun _ t => z_W 0 G ad res.2 t.heap) (z_A 0 ad s.heap.size)) args s 0 0 (z_A 0 ad s.heap.size)) (F0 m 0 ls []) := by
  intro σ o1 H locs ls S hl ho1 hf
  unfold f_X6_readCar at hf
  refine lv_aload_n C.1 C.2.1 dX6_readCar_0 rfl (lv_at hl 1 rfl) ?_
  refine z_getI C S 4 o1 rfl ho1 cf_4 1 (by decide) (gi_4_1 G ad o1) tw_1_224 dX6_readCar_1 ?_
  refine lv_iconst (v := 4) C.1 C.2.1 dX6_readCar_4 (by decide) ?_
  refine lv_icmp_lt (tgt := 14) C.1 C.2.1 dX6_readCar_5 (by decide) (fun c_5 => ?_) (fun c_5 => ?_)
  · rw [if_pos c_5] at hf
    refine lv_aload_n C.1 C.2.1 dX6_readCar_14 rfl (lv_at hl 0 rfl) ?_
    refine lv_iconst (v := 0) C.1 C.2.1 dX6_readCar_15 (by decide) ?_
    refine lv_aload_n C.1 C.2.1 dX6_readCar_16 rfl (lv_at hl 1 rfl) ?_
    refine z_getI C S 4 o1 rfl ho1 cf_4 0 (by decide) (gi_4_0 G ad o1) tw_1_221 dX6_readCar_17 ?_
    refine lv_iconst (v := 1) C.1 C.2.1 dX6_readCar_20 (by decide) ?_
    refine lv_isub C.1 C.2.1 dX6_readCar_21 ?_
    obtain ⟨r2, σ1, q_22, hf⟩ := bib hf
    refine z_callI C S 6 0 rfl (by decide) cf_6 ⟨_, rfl⟩ [.int 0, .int ((σ 4 o1 0) - 1)] (m_X6_readNumber l G ad σ 0 ((σ 4 o1 0) - 1) r2 σ1 q_22 _) kv_X6_readNumber tw_3_31 ⟨Nat.le_of_ble_eq_true rfl, Nat.le_of_ble_eq_true rfl⟩ rfl rfl (Nat.le_of_ble_eq_true rfl) hl.1 ⟨Nat.le_of_ble_eq_true rfl, Nat.le_of_ble_eq_true rfl⟩ dX6_readCar_22 (fun H locs S => ?_)
    refine lv_if_ne (tgt := 30) C.1 C.2.1 dX6_readCar_25 (by decide) (fun c_25 => ?_) (fun c_25 => ?_)
    · rw [if_neg c_25] at hf
      refine lv_aload_n C.1 C.2.1 dX6_readCar_30 rfl (lv_at hl 0 rfl) ?_
      refine z_getI C S 6 0 rfl (by decide) cf_6 7 (by decide) (gi_6_7 G ad 0) tw_2_90 dX6_readCar_31 ?_
      refine lv_istore_n (lv' := [(2, .int (σ1 6 0 7)), (0, .ref (ad 6 0)), (1, .ref (ad 4 o1))]) C.1 C.2.1 dX6_readCar_34 rfl hl (by decide) rfl (fun ls hl => ?_)
      refine lv_aload_n C.1 C.2.1 dX6_readCar_35 rfl (lv_at hl 1 rfl) ?_
      refine lv_iconst (v := 1) C.1 C.2.1 dX6_readCar_36 (by decide) ?_
      refine lv_bipush (v := 8) C.1 C.2.1 dX6_readCar_37 (by decide) ?_
      obtain ⟨r4, σ3, q_39, hf⟩ := bib hf
      refine z_callI C S 6 0 rfl (by decide) cf_6 ⟨_, rfl⟩ [.int 1, .int 8] (m_X6_readNumber l G ad σ1 1 8 r4 σ3 q_39 _) kv_X6_readNumber tw_3_31 ⟨Nat.le_of_ble_eq_true rfl, Nat.le_of_ble_eq_true rfl⟩ rfl rfl (Nat.le_of_ble_eq_true rfl) hl.1 ⟨Nat.le_of_ble_eq_true rfl, Nat.le_of_ble_eq_true rfl⟩ dX6_readCar_39 (fun H locs S => ?_)
      refine lv_if_ne (tgt := 47) C.1 C.2.1 dX6_readCar_42 (by decide) (fun c_42 => ?_) (fun c_42 => ?_)
      · rw [if_neg c_42] at hf
        refine lv_aload_n C.1 C.2.1 dX6_readCar_47 rfl (lv_at hl 2 rfl) ?_
        refine lv_iload_n C.1 C.2.1 dX6_readCar_48 rfl (lv_at hl 0 rfl) ?_
        refine lv_aload_n C.1 C.2.1 dX6_readCar_49 rfl (lv_at hl 1 rfl) ?_
        refine z_getI C S 6 0 rfl (by decide) cf_6 7 (by decide) (gi_6_7 G ad 0) tw_2_90 dX6_readCar_50 ?_
        obtain ⟨σ5, q_53, hf⟩ := bvb hf
        refine z_callV C S 4 o1 rfl ho1 cf_4 ⟨_, rfl⟩ [.int (σ1 6 0 7), .int (σ3 6 0 7)] (m_X4_addCar l G ad σ3 o1 (σ1 6 0 7) (σ3 6 0 7) σ5 ho1 q_53 _) kv_X4_addCar tw_3_49 ⟨Nat.le_of_ble_eq_true rfl, Nat.le_of_ble_eq_true rfl⟩ rfl rfl (Nat.le_of_ble_eq_true rfl) hl.1 ⟨Nat.le_of_ble_eq_true rfl, Nat.le_of_ble_eq_true rfl⟩ dX6_readCar_53 (fun H locs S => ?_)
        refine lv_aload_n C.1 C.2.1 dX6_readCar_56 rfl (lv_at hl 1 rfl) ?_
        obtain ⟨r7, σ6, q_57, hf⟩ := bib hf
        refine z_callI C S 6 0 rfl (by decide) cf_6 ⟨_, rfl⟩ [] (m_X6_readSemicolon l G ad σ5 r7 σ6 q_57 _) kv_X6_readSemicolon tw_3_36 ⟨Nat.le_of_ble_eq_true rfl, Nat.le_of_ble_eq_true rfl⟩ rfl rfl (Nat.le_of_ble_eq_true rfl) hl.1 ⟨Nat.le_of_ble_eq_true rfl, Nat.le_of_ble_eq_true rfl⟩ dX6_readCar_57 (fun H locs S => ?_)
        obtain ⟨g_60, hf⟩ := gd hf
        exact z_zret C S (nbz g_60).1 hf dX6_readCar_60
      · rw [if_pos c_42] at hf
        refine lv_iconst (v := 0) C.1 C.2.1 dX6_readCar_45 (by decide) ?_
        exact z_zret C S rfl hf dX6_readCar_46
    · rw [if_pos c_25] at hf
      refine lv_iconst (v := 0) C.1 C.2.1 dX6_readCar_28 (by decide) ?_
      exact z_zret C S rfl hf dX6_readCar_29
  · rw [if_neg c_5] at hf
    refine lv_aload_n C.1 C.2.1 dX6_readCar_8 rfl (lv_at hl 0 rfl) ?_
    refine lv_iconst (v := 3) C.1 C.2.1 dX6_readCar_9 (by decide) ?_
    obtain ⟨r9, σ8, q_10, hf⟩ := bib hf
    refine z_callI C S 6 0 rfl (by decide) cf_6 ⟨_, rfl⟩ [.int 3] (m_X6_fail l G ad σ 3 r9 σ8 q_10 _) kv_X6_fail tw_3_27 ⟨Nat.le_of_ble_eq_true rfl, Nat.le_of_ble_eq_true rfl⟩ rfl rfl (Nat.le_of_ble_eq_true rfl) hl.1 ⟨Nat.le_of_ble_eq_true rfl, Nat.le_of_ble_eq_true rfl⟩ dX6_readCar_10 (fun H locs S => ?_)
    obtain ⟨g_13, hf⟩ := gd hf
    exact z_zret C S (nbz g_13).1 hf dX6_readCar_13
theorem kv_X6_readCar : KV yX6_readCar cX6_readCar 3 (Option.some FieldType.boolean) 1 := ⟨tw_3_48, tw_3_47, tw_p_9, tw_1_18, by decide, by decide, by decide +kernel⟩
theorem m_X6_readCar (l : Launch) (G : Gx) (ad : Ad) (σ : Sg) (o1 : Nat) (r : Int32) (σ' : Sg) (ho1 : o1 < z_cnt 4) (hf : f_X6_readCar σ o1 = some (r, σ')) (sz : Nat) : z_MI l yX6_readCar cX6_readCar 3 (Option.some FieldType.boolean) 4 90 0 G ad σ sz [.ref (ad 6 0), .ref (ad 4 o1)] r σ' := by
  refine z_begin (by decide +kernel) (Nat.le_of_ble_eq_true rfl) [(0, .ref (ad 6 0)), (1, .ref (ad 4 o1))] rfl (fun p e s m args below meth c ls C hz S hl => ?_)
  subst hz
  exact w_X6_readCar_0 (res := (r, σ')) C σ o1 _ _ _ S hl ho1 hf

theorem dX6_readCall_0 : decode cX6_readCall 0 = .ok (.aload_n 1, 1) := by decide +kernel
theorem dX6_readCall_1 : decode cX6_readCall 1 = .ok (.getfield 107, 3) := by decide +kernel
theorem dX6_readCall_4 : decode cX6_readCall 4 = .ok (.bipush 24, 2) := by decide +kernel
theorem dX6_readCall_6 : decode cX6_readCall 6 = .ok (.if_icmp .lt 9, 3) := by decide +kernel
theorem dX6_readCall_9 : decode cX6_readCall 9 = .ok (.aload_n 0, 1) := by decide +kernel
theorem dX6_readCall_10 : decode cX6_readCall 10 = .ok (.iconst 3, 1) := by decide +kernel
theorem dX6_readCall_11 : decode cX6_readCall 11 = .ok (.invokevirtual 55, 3) := by decide +kernel
theorem dX6_readCall_14 : decode cX6_readCall 14 = .ok (.ireturn, 1) := by decide +kernel
theorem dX6_readCall_15 : decode cX6_readCall 15 = .ok (.aload_n 0, 1) := by decide +kernel
theorem dX6_readCall_16 : decode cX6_readCall 16 = .ok (.iconst 0, 1) := by decide +kernel
theorem dX6_readCall_17 : decode cX6_readCall 17 = .ok (.sipush 999, 3) := by decide +kernel
theorem dX6_readCall_20 : decode cX6_readCall 20 = .ok (.invokevirtual 68, 3) := by decide +kernel
theorem dX6_readCall_23 : decode cX6_readCall 23 = .ok (.ifCond .ne 5, 3) := by decide +kernel
theorem dX6_readCall_26 : decode cX6_readCall 26 = .ok (.iconst 0, 1) := by decide +kernel
theorem dX6_readCall_27 : decode cX6_readCall 27 = .ok (.ireturn, 1) := by decide +kernel
theorem dX6_readCall_28 : decode cX6_readCall 28 = .ok (.aload_n 0, 1) := by decide +kernel
theorem dX6_readCall_29 : decode cX6_readCall 29 = .ok (.getfield 72, 3) := by decide +kernel
theorem dX6_readCall_32 : decode cX6_readCall 32 = .ok (.istore_n 2, 1) := by decide +kernel
theorem dX6_readCall_33 : decode cX6_readCall 33 = .ok (.aload_n 0, 1) := by decide +kernel
theorem dX6_readCall_34 : decode cX6_readCall 34 = .ok (.iconst 0, 1) := by decide +kernel
theorem dX6_readCall_35 : decode cX6_readCall 35 = .ok (.aload_n 1, 1) := by decide +kernel
theorem dX6_readCall_36 : decode cX6_readCall 36 = .ok (.getfield 101, 3) := by decide +kernel
theorem dX6_readCall_39 : decode cX6_readCall 39 = .ok (.iconst 1, 1) := by decide +kernel
theorem dX6_readCall_40 : decode cX6_readCall 40 = .ok (.isub, 1) := by decide +kernel
theorem dX6_readCall_41 : decode cX6_readCall 41 = .ok (.invokevirtual 68, 3) := by decide +kernel
theorem dX6_readCall_44 : decode cX6_readCall 44 = .ok (.ifCond .ne 5, 3) := by decide +kernel
theorem dX6_readCall_47 : decode cX6_readCall 47 = .ok (.iconst 0, 1) := by decide +kernel
theorem dX6_readCall_48 : decode cX6_readCall 48 = .ok (.ireturn, 1) := by decide +kernel
theorem dX6_readCall_49 : decode cX6_readCall 49 = .ok (.aload_n 0, 1) := by decide +kernel
theorem dX6_readCall_50 : decode cX6_readCall 50 = .ok (.getfield 72, 3) := by decide +kernel
theorem dX6_readCall_53 : decode cX6_readCall 53 = .ok (.istore_n 3, 1) := by decide +kernel
theorem dX6_readCall_54 : decode cX6_readCall 54 = .ok (.aload_n 0, 1) := by decide +kernel
theorem dX6_readCall_55 : decode cX6_readCall 55 = .ok (.iconst 0, 1) := by decide +kernel
theorem dX6_readCall_56 : decode cX6_readCall 56 = .ok (.aload_n 1, 1) := by decide +kernel
theorem dX6_readCall_57 : decode cX6_readCall 57 = .ok (.getfield 101, 3) := by decide +kernel
theorem dX6_readCall_60 : decode cX6_readCall 60 = .ok (.iconst 1, 1) := by decide +kernel
theorem dX6_readCall_61 : decode cX6_readCall 61 = .ok (.isub, 1) := by decide +kernel
theorem dX6_readCall_62 : decode cX6_readCall 62 = .ok (.invokevirtual 68, 3) := by decide +kernel
theorem dX6_readCall_65 : decode cX6_readCall 65 = .ok (.ifCond .ne 5, 3) := by decide +kernel
theorem dX6_readCall_68 : decode cX6_readCall 68 = .ok (.iconst 0, 1) := by decide +kernel
theorem dX6_readCall_69 : decode cX6_readCall 69 = .ok (.ireturn, 1) := by decide +kernel
theorem dX6_readCall_70 : decode cX6_readCall 70 = .ok (.aload_n 0, 1) := by decide +kernel
theorem dX6_readCall_71 : decode cX6_readCall 71 = .ok (.getfield 72, 3) := by decide +kernel
theorem dX6_readCall_74 : decode cX6_readCall 74 = .ok (.iload_n 3, 1) := by decide +kernel
theorem dX6_readCall_75 : decode cX6_readCall 75 = .ok (.if_icmp .ne 9, 3) := by decide +kernel
theorem dX6_readCall_78 : decode cX6_readCall 78 = .ok (.aload_n 0, 1) := by decide +kernel
theorem dX6_readCall_79 : decode cX6_readCall 79 = .ok (.iconst 2, 1) := by decide +kernel
theorem dX6_readCall_80 : decode cX6_readCall 80 = .ok (.invokevirtual 55, 3) := by decide +kernel
theorem dX6_readCall_83 : decode cX6_readCall 83 = .ok (.ireturn, 1) := by decide +kernel
theorem dX6_readCall_84 : decode cX6_readCall 84 = .ok (.aload_n 1, 1) := by decide +kernel
theorem dX6_readCall_85 : decode cX6_readCall 85 = .ok (.iload_n 2, 1) := by decide +kernel
theorem dX6_readCall_86 : decode cX6_readCall 86 = .ok (.iload_n 3, 1) := by decide +kernel
theorem dX6_readCall_87 : decode cX6_readCall 87 = .ok (.aload_n 0, 1) := by decide +kernel
theorem dX6_readCall_88 : decode cX6_readCall 88 = .ok (.getfield 72, 3) := by decide +kernel
theorem dX6_readCall_91 : decode cX6_readCall 91 = .ok (.invokevirtual 110, 3) := by decide +kernel
theorem dX6_readCall_94 : decode cX6_readCall 94 = .ok (.pop, 1) := by decide +kernel
theorem dX6_readCall_95 : decode cX6_readCall 95 = .ok (.aload_n 0, 1) := by decide +kernel
theorem dX6_readCall_96 : decode cX6_readCall 96 = .ok (.invokevirtual 79, 3) := by decide +kernel
theorem dX6_readCall_99 : decode cX6_readCall 99 = .ok (.ireturn, 1) := by decide +kernel
/-! BusLifts$SetupReader.readCall(LBusLifts$Lifts;)Z -/
noncomputable def f_X6_readCall  (σ : Sg) (o1 : Nat) : Option (Int32 × Sg) := if (σ 4 o1 2) < 24 then (bi (f_X6_readNumber σ 0 999) fun r2 σ1 => (if r2 = 0 then (some (0, σ1)) else (bi (f_X6_readNumber σ1 0 ((σ1 4 o1 0) - 1)) fun r4 σ3 => (if r4 = 0 then (some (0, σ3)) else (bi (f_X6_readNumber σ3 0 ((σ3 4 o1 0) - 1)) fun r6 σ5 => (if r6 = 0 then (some (0, σ5)) else (if (σ5 6 0 7) = (σ3 6 0 7) then (bi (f_X6_fail σ5 2) fun r12 σ11 => (if ¬ (r12 = 0 ∨ r12 = 1) then none else (some (r12, σ11)))) else (bi (f_X4_addCall σ5 o1 (σ1 6 0 7) (σ3 6 0 7) (σ5 6 0 7)) fun r8 σ7 => (bi (f_X6_readSemicolon σ7) fun r10 σ9 => (if ¬ (r10 = 0 ∨ r10 = 1) then none else (some (r10, σ9)))))))))))) else (bi (f_X6_fail σ 3) fun r14 σ13 => (if ¬ (r14 = 0 ∨ r14 = 1) then none else (some (r14, σ13))))
set_option maxHeartbeats 4000000 in
set_option maxRecDepth 100000 in
theorem w_X6_readCall_0 {p : Program} {l : Launch} {e : Env} {s : State} {m : MethodId} {args : Array Value} {below : List Frame} {meth : Method} {c : Code} {G : Gx} {ad : Ad} {res : Int32 × Sg} (C : Cx p s m args meth c yX6_readCall.cls cX6_readCall 4 (Option.some FieldType.boolean) G)  : ∀ (σ : Sg) (o1 : Nat) (H : Heap) (locs : List Loc) (ls : Array Slot), z_S 0 G ad σ (z_A 0 ad s.heap.size) s.heap H locs → lv_has ls 4 [(0, .ref (ad 6 0)), (1, .ref (ad 4 o1))] → (o1 < z_cnt 4) → f_X6_readCall  σ o1 = some res → W p l e { frames := 4, cells := 0, slots := 0, locals := 82 } s m args below meth c H locs 0 0 (MQ below (va_Qi (S := Unit) (fun r1 _ => r1 = res.1) (fun _ t => z_W 0 G ad res.2 t.heap) (z_A 0 ad s.heap.size)) args s 0 0 (z_A 0 ad s.heap.size)) (F0 m 0 ls []) := by
  intro σ o1 H locs ls S hl ho1 hf
  unfold f_X6_readCall at hf
  refine lv_aload_n C.1 C.2.1 dX6_readCall_0 rfl (lv_at hl 1 rfl) ?_
  refine z_getI C S 4 o1 rfl ho1 cf_4 2 (by decide) (gi_4_2 G ad o1) tw_1_229 dX6_readCall_1 ?_
  refine lv_bipush (v := 24) C.1 C.2.1 dX6_readCall_4 (by decide) ?_
  refine lv_icmp_lt (tgt := 15) C.1 C.2.1 dX6_readCall_6 (by decide) (fun c_6 => ?_) (fun c_6 => ?_)
  · rw [if_pos c_6] at hf
    refine lv_aload_n C.1 C.2.1 dX6_readCall_15 rfl (lv_at hl 0 rfl) ?_
    refine lv_iconst (v := 0) C.1 C.2.1 dX6_readCall_16 (by decide) ?_
    refine lv_sipush (v := 999) C.1 C.2.1 dX6_readCall_17 (by decide) ?_
    obtain ⟨r2, σ1, q_20, hf⟩ := bib hf
    refine z_callI C S 6 0 rfl (by decide) cf_6 ⟨_, rfl⟩ [.int 0, .int 999] (m_X6_readNumber l G ad σ 0 999 r2 σ1 q_20 _) kv_X6_readNumber tw_3_31 ⟨Nat.le_of_ble_eq_true rfl, Nat.le_of_ble_eq_true rfl⟩ rfl rfl (Nat.le_of_ble_eq_true rfl) hl.1 ⟨Nat.le_of_ble_eq_true rfl, Nat.le_of_ble_eq_true rfl⟩ dX6_readCall_20 (fun H locs S => ?_)
    refine lv_if_ne (tgt := 28) C.1 C.2.1 dX6_readCall_23 (by decide) (fun c_23 => ?_) (fun c_23 => ?_)
    · rw [if_neg c_23] at hf
      refine lv_aload_n C.1 C.2.1 dX6_readCall_28 rfl (lv_at hl 0 rfl) ?_
      refine z_getI C S 6 0 rfl (by decide) cf_6 7 (by decide) (gi_6_7 G ad 0) tw_2_90 dX6_readCall_29 ?_
      refine lv_istore_n (lv' := [(2, .int (σ1 6 0 7)), (0, .ref (ad 6 0)), (1, .ref (ad 4 o1))]) C.1 C.2.1 dX6_readCall_32 rfl hl (by decide) rfl (fun ls hl => ?_)
      refine lv_aload_n C.1 C.2.1 dX6_readCall_33 rfl (lv_at hl 1 rfl) ?_
      refine lv_iconst (v := 0) C.1 C.2.1 dX6_readCall_34 (by decide) ?_
      refine lv_aload_n C.1 C.2.1 dX6_readCall_35 rfl (lv_at hl 2 rfl) ?_
      refine z_getI C S 4 o1 rfl ho1 cf_4 0 (by decide) (gi_4_0 G ad o1) tw_1_221 dX6_readCall_36 ?_
      refine lv_iconst (v := 1) C.1 C.2.1 dX6_readCall_39 (by decide) ?_
      refine lv_isub C.1 C.2.1 dX6_readCall_40 ?_
      obtain ⟨r4, σ3, q_41, hf⟩ := bib hf
      refine z_callI C S 6 0 rfl (by decide) cf_6 ⟨_, rfl⟩ [.int 0, .int ((σ1 4 o1 0) - 1)] (m_X6_readNumber l G ad σ1 0 ((σ1 4 o1 0) - 1) r4 σ3 q_41 _) kv_X6_readNumber tw_3_31 ⟨Nat.le_of_ble_eq_true rfl, Nat.le_of_ble_eq_true rfl⟩ rfl rfl (Nat.le_of_ble_eq_true rfl) hl.1 ⟨Nat.le_of_ble_eq_true rfl, Nat.le_of_ble_eq_true rfl⟩ dX6_readCall_41 (fun H locs S => ?_)
      refine lv_if_ne (tgt := 49) C.1 C.2.1 dX6_readCall_44 (by decide) (fun c_44 => ?_) (fun c_44 => ?_)
      · rw [if_neg c_44] at hf
        refine lv_aload_n C.1 C.2.1 dX6_readCall_49 rfl (lv_at hl 1 rfl) ?_
        refine z_getI C S 6 0 rfl (by decide) cf_6 7 (by decide) (gi_6_7 G ad 0) tw_2_90 dX6_readCall_50 ?_
        refine lv_istore_n (lv' := [(3, .int (σ3 6 0 7)), (2, .int (σ1 6 0 7)), (0, .ref (ad 6 0)), (1, .ref (ad 4 o1))]) C.1 C.2.1 dX6_readCall_53 rfl hl (by decide) rfl (fun ls hl => ?_)
        refine lv_aload_n C.1 C.2.1 dX6_readCall_54 rfl (lv_at hl 2 rfl) ?_
        refine lv_iconst (v := 0) C.1 C.2.1 dX6_readCall_55 (by decide) ?_
        refine lv_aload_n C.1 C.2.1 dX6_readCall_56 rfl (lv_at hl 3 rfl) ?_
        refine z_getI C S 4 o1 rfl ho1 cf_4 0 (by decide) (gi_4_0 G ad o1) tw_1_221 dX6_readCall_57 ?_
        refine lv_iconst (v := 1) C.1 C.2.1 dX6_readCall_60 (by decide) ?_
        refine lv_isub C.1 C.2.1 dX6_readCall_61 ?_
        obtain ⟨r6, σ5, q_62, hf⟩ := bib hf
        refine z_callI C S 6 0 rfl (by decide) cf_6 ⟨_, rfl⟩ [.int 0, .int ((σ3 4 o1 0) - 1)] (m_X6_readNumber l G ad σ3 0 ((σ3 4 o1 0) - 1) r6 σ5 q_62 _) kv_X6_readNumber tw_3_31 ⟨Nat.le_of_ble_eq_true rfl, Nat.le_of_ble_eq_true rfl⟩ rfl rfl (Nat.le_of_ble_eq_true rfl) hl.1 ⟨Nat.le_of_ble_eq_true rfl, Nat.le_of_ble_eq_true rfl⟩ dX6_readCall_62 (fun H locs S => ?_)
        refine lv_if_ne (tgt := 70) C.1 C.2.1 dX6_readCall_65 (by decide) (fun c_65 => ?_) (fun c_65 => ?_)
        · rw [if_neg c_65] at hf
          refine lv_aload_n C.1 C.2.1 dX6_readCall_70 rfl (lv_at hl 2 rfl) ?_
          refine z_getI C S 6 0 rfl (by decide) cf_6 7 (by decide) (gi_6_7 G ad 0) tw_2_90 dX6_readCall_71 ?_
          refine lv_iload_n C.1 C.2.1 dX6_readCall_74 rfl (lv_at hl 0 rfl) ?_
          refine lv_icmp_ne (tgt := 84) C.1 C.2.1 dX6_readCall_75 (by decide) (fun c_75 => ?_) (fun c_75 => ?_)
          · rw [if_neg c_75] at hf
            refine lv_aload_n C.1 C.2.1 dX6_readCall_84 rfl (lv_at hl 3 rfl) ?_
            refine lv_iload_n C.1 C.2.1 dX6_readCall_85 rfl (lv_at hl 1 rfl) ?_
            refine lv_iload_n C.1 C.2.1 dX6_readCall_86 rfl (lv_at hl 0 rfl) ?_
            refine lv_aload_n C.1 C.2.1 dX6_readCall_87 rfl (lv_at hl 2 rfl) ?_
            refine z_getI C S 6 0 rfl (by decide) cf_6 7 (by decide) (gi_6_7 G ad 0) tw_2_90 dX6_readCall_88 ?_
            obtain ⟨r8, σ7, q_91, hf⟩ := bib hf
            refine z_callI C S 4 o1 rfl ho1 cf_4 ⟨_, rfl⟩ [.int (σ1 6 0 7), .int (σ3 6 0 7), .int (σ5 6 0 7)] (m_X4_addCall l G ad σ5 o1 (σ1 6 0 7) (σ3 6 0 7) (σ5 6 0 7) r8 σ7 ho1 q_91 _) kv_X4_addCall tw_3_55 ⟨Nat.le_of_ble_eq_true rfl, Nat.le_of_ble_eq_true rfl⟩ rfl rfl (Nat.le_of_ble_eq_true rfl) hl.1 ⟨Nat.le_of_ble_eq_true rfl, Nat.le_of_ble_eq_true rfl⟩ dX6_readCall_91 (fun H locs S => ?_)
            refine lv_pop C.1 C.2.1 dX6_readCall_94 rfl ?_
            refine lv_aload_n C.1 C.2.1 dX6_readCall_95 rfl (lv_at hl 2 rfl) ?_
            obtain ⟨r10, σ9, q_96, hf⟩ := bib hf
            refine z_callI C S 6 0 rfl (by decide) cf_6 ⟨_, rfl⟩ [] (m_X6_readSemicolon l G ad σ7 r10 σ9 q_96 _) kv_X6_readSemicolon tw_3_36 ⟨Nat.le_of_ble_eq_true rfl, Nat.le_of_ble_eq_true rfl⟩ rfl rfl (Nat.le_of_ble_eq_true rfl) hl.1 ⟨Nat.le_of_ble_eq_true rfl, Nat.le_of_ble_eq_true rfl⟩ dX6_readCall_96 (fun H locs S => ?_)
            obtain ⟨g_99, hf⟩ := gd hf
            exact z_zret C S (nbz g_99).1 hf dX6_readCall_99
          · rw [if_pos c_75] at hf
            refine lv_aload_n C.1 C.2.1 dX6_readCall_78 rfl (lv_at hl 2 rfl) ?_
            refine lv_iconst (v := 2) C.1 C.2.1 dX6_readCall_79 (by decide) ?_
            obtain ⟨r12, σ11, q_80, hf⟩ := bib hf
            refine z_callI C S 6 0 rfl (by decide) cf_6 ⟨_, rfl⟩ [.int 2] (m_X6_fail l G ad σ5 2 r12 σ11 q_80 _) kv_X6_fail tw_3_27 ⟨Nat.le_of_ble_eq_true rfl, Nat.le_of_ble_eq_true rfl⟩ rfl rfl (Nat.le_of_ble_eq_true rfl) hl.1 ⟨Nat.le_of_ble_eq_true rfl, Nat.le_of_ble_eq_true rfl⟩ dX6_readCall_80 (fun H locs S => ?_)
            obtain ⟨g_83, hf⟩ := gd hf
            exact z_zret C S (nbz g_83).1 hf dX6_readCall_83
        · rw [if_pos c_65] at hf
          refine lv_iconst (v := 0) C.1 C.2.1 dX6_readCall_68 (by decide) ?_
          exact z_zret C S rfl hf dX6_readCall_69
      · rw [if_pos c_44] at hf
        refine lv_iconst (v := 0) C.1 C.2.1 dX6_readCall_47 (by decide) ?_
        exact z_zret C S rfl hf dX6_readCall_48
    · rw [if_pos c_23] at hf
      refine lv_iconst (v := 0) C.1 C.2.1 dX6_readCall_26 (by decide) ?_
      exact z_zret C S rfl hf dX6_readCall_27
  · rw [if_neg c_6] at hf
    refine lv_aload_n C.1 C.2.1 dX6_readCall_9 rfl (lv_at hl 0 rfl) ?_
    refine lv_iconst (v := 3) C.1 C.2.1 dX6_readCall_10 (by decide) ?_
    obtain ⟨r14, σ13, q_11, hf⟩ := bib hf
    refine z_callI C S 6 0 rfl (by decide) cf_6 ⟨_, rfl⟩ [.int 3] (m_X6_fail l G ad σ 3 r14 σ13 q_11 _) kv_X6_fail tw_3_27 ⟨Nat.le_of_ble_eq_true rfl, Nat.le_of_ble_eq_true rfl⟩ rfl rfl (Nat.le_of_ble_eq_true rfl) hl.1 ⟨Nat.le_of_ble_eq_true rfl, Nat.le_of_ble_eq_true rfl⟩ dX6_readCall_11 (fun H locs S => ?_)
    obtain ⟨g_14, hf⟩ := gd hf
    exact z_zret C S (nbz g_14).1 hf dX6_readCall_14
theorem kv_X6_readCall : KV yX6_readCall cX6_readCall 4 (Option.some FieldType.boolean) 1 := ⟨tw_3_54, tw_3_53, tw_p_10, tw_1_18, by decide, by decide, by decide +kernel⟩
theorem m_X6_readCall (l : Launch) (G : Gx) (ad : Ad) (σ : Sg) (o1 : Nat) (r : Int32) (σ' : Sg) (ho1 : o1 < z_cnt 4) (hf : f_X6_readCall σ o1 = some (r, σ')) (sz : Nat) : z_MI l yX6_readCall cX6_readCall 4 (Option.some FieldType.boolean) 4 82 0 G ad σ sz [.ref (ad 6 0), .ref (ad 4 o1)] r σ' := by
  refine z_begin (by decide +kernel) (Nat.le_of_ble_eq_true rfl) [(0, .ref (ad 6 0)), (1, .ref (ad 4 o1))] rfl (fun p e s m args below meth c ls C hz S hl => ?_)
  subst hz
  exact w_X6_readCall_0 (res := (r, σ')) C σ o1 _ _ _ S hl ho1 hf

theorem dX6_settingOfWord_0 : decode cX6_settingOfWord 0 = .ok (.aload_n 0, 1) := by decide +kernel
theorem dX6_settingOfWord_1 : decode cX6_settingOfWord 1 = .ok (.ldc 126, 2) := by decide +kernel
theorem dX6_settingOfWord_3 : decode cX6_settingOfWord 3 = .ok (.invokevirtual 64, 3) := by decide +kernel
theorem dX6_settingOfWord_6 : decode cX6_settingOfWord 6 = .ok (.ifCond .eq 5, 3) := by decide +kernel
theorem dX6_settingOfWord_9 : decode cX6_settingOfWord 9 = .ok (.iconst 0, 1) := by decide +kernel
theorem dX6_settingOfWord_10 : decode cX6_settingOfWord 10 = .ok (.ireturn, 1) := by decide +kernel
theorem dX6_settingOfWord_11 : decode cX6_settingOfWord 11 = .ok (.aload_n 0, 1) := by decide +kernel
theorem dX6_settingOfWord_12 : decode cX6_settingOfWord 12 = .ok (.ldc 128, 2) := by decide +kernel
theorem dX6_settingOfWord_14 : decode cX6_settingOfWord 14 = .ok (.invokevirtual 64, 3) := by decide +kernel
theorem dX6_settingOfWord_17 : decode cX6_settingOfWord 17 = .ok (.ifCond .eq 5, 3) := by decide +kernel
theorem dX6_settingOfWord_20 : decode cX6_settingOfWord 20 = .ok (.iconst 1, 1) := by decide +kernel
theorem dX6_settingOfWord_21 : decode cX6_settingOfWord 21 = .ok (.ireturn, 1) := by decide +kernel
theorem dX6_settingOfWord_22 : decode cX6_settingOfWord 22 = .ok (.aload_n 0, 1) := by decide +kernel
theorem dX6_settingOfWord_23 : decode cX6_settingOfWord 23 = .ok (.ldc 130, 2) := by decide +kernel
theorem dX6_settingOfWord_25 : decode cX6_settingOfWord 25 = .ok (.invokevirtual 64, 3) := by decide +kernel
theorem dX6_settingOfWord_28 : decode cX6_settingOfWord 28 = .ok (.ifCond .eq 5, 3) := by decide +kernel
theorem dX6_settingOfWord_31 : decode cX6_settingOfWord 31 = .ok (.iconst 2, 1) := by decide +kernel
theorem dX6_settingOfWord_32 : decode cX6_settingOfWord 32 = .ok (.ireturn, 1) := by decide +kernel
theorem dX6_settingOfWord_33 : decode cX6_settingOfWord 33 = .ok (.aload_n 0, 1) := by decide +kernel
theorem dX6_settingOfWord_34 : decode cX6_settingOfWord 34 = .ok (.ldc 132, 2) := by decide +kernel
theorem dX6_settingOfWord_36 : decode cX6_settingOfWord 36 = .ok (.invokevirtual 64, 3) := by decide +kernel
theorem dX6_settingOfWord_39 : decode cX6_settingOfWord 39 = .ok (.ifCond .eq 5, 3) := by decide +kernel
theorem dX6_settingOfWord_42 : decode cX6_settingOfWord 42 = .ok (.iconst 3, 1) := by decide +kernel
theorem dX6_settingOfWord_43 : decode cX6_settingOfWord 43 = .ok (.ireturn, 1) := by decide +kernel
theorem dX6_settingOfWord_44 : decode cX6_settingOfWord 44 = .ok (.aload_n 0, 1) := by decide +kernel
theorem dX6_settingOfWord_45 : decode cX6_settingOfWord 45 = .ok (.ldc 134, 2) := by decide +kernel
theorem dX6_settingOfWord_47 : decode cX6_settingOfWord 47 = .ok (.invokevirtual 64, 3) := by decide +kernel
theorem dX6_settingOfWord_50 : decode cX6_settingOfWord 50 = .ok (.ifCond .eq 5, 3) := by decide +kernel
theorem dX6_settingOfWord_53 : decode cX6_settingOfWord 53 = .ok (.iconst 4, 1) := by decide +kernel
theorem dX6_settingOfWord_54 : decode cX6_settingOfWord 54 = .ok (.ireturn, 1) := by decide +kernel
theorem dX6_settingOfWord_55 : decode cX6_settingOfWord 55 = .ok (.aload_n 0, 1) := by decide +kernel
theorem dX6_settingOfWord_56 : decode cX6_settingOfWord 56 = .ok (.ldc 136, 2) := by decide +kernel
theorem dX6_settingOfWord_58 : decode cX6_settingOfWord 58 = .ok (.invokevirtual 64, 3) := by decide +kernel
theorem dX6_settingOfWord_61 : decode cX6_settingOfWord 61 = .ok (.ifCond .eq 7, 3) := by decide +kernel
theorem dX6_settingOfWord_64 : decode cX6_settingOfWord 64 = .ok (.iconst 5, 1) := by decide +kernel
theorem dX6_settingOfWord_65 : decode cX6_settingOfWord 65 = .ok (.goto 4, 3) := by decide +kernel
theorem dX6_settingOfWord_68 : decode cX6_settingOfWord 68 = .ok (.iconst (-1), 1) := by decide +kernel
theorem dX6_settingOfWord_69 : decode cX6_settingOfWord 69 = .ok (.ireturn, 1) := by decide +kernel
/-! BusLifts$SetupReader.settingOfWord()I -/
noncomputable def f_X6_settingOfWord_69  (σ : Sg) (v100 : Int32) : Option (Int32 × Sg) := some (v100, σ)
noncomputable def f_X6_settingOfWord  (σ : Sg)  : Option (Int32 × Sg) := bi (f_X6_isWord σ 3) fun r2 σ1 => (if r2 = 0 then (bi (f_X6_isWord σ1 4) fun r4 σ3 => (if r4 = 0 then (bi (f_X6_isWord σ3 5) fun r6 σ5 => (if r6 = 0 then (bi (f_X6_isWord σ5 6) fun r8 σ7 => (if r8 = 0 then (bi (f_X6_isWord σ7 7) fun r10 σ9 => (if r10 = 0 then (bi (f_X6_isWord σ9 8) fun r12 σ11 => (if r12 = 0 then (f_X6_settingOfWord_69 σ11 (-1)) else (f_X6_settingOfWord_69 σ11 5))) else (some (4, σ9)))) else (some (3, σ7)))) else (some (2, σ5)))) else (some (1, σ3)))) else (some (0, σ1)))
set_option maxHeartbeats 4000000 in
set_option maxRecDepth 100000 in
theorem w_X6_settingOfWord_69 {p : Program} {l : Launch} {e : Env} {s : State} {m : MethodId} {args : Array Value} {below : List Frame} {meth : Method} {c : Code} {G : Gx} {ad : Ad} {res : Int32 × Sg} (C : Cx p s m args meth c yX6_settingOfWord.cls cX6_settingOfWord 1 (Option.some FieldType.int) G)  : ∀ (σ : Sg) (v100 : Int32) (H : Heap) (locs : List Loc) (ls : Array Slot), z_S 0 G ad σ (z_A 0 ad s.heap.size) s.heap H locs → lv_has ls 1 [] → f_X6_settingOfWord_69  σ v100 = some res → W p l e { frames := 5, cells := 0, slots := 0, locals := 122 } s m args below meth c H locs 0 0 (MQ below (va_Qi (S := Unit) (fun r1 _ => r1 = res.1) (fun _ t => z_W 0 G ad res.2 t.heap) (z_A 0 ad s.heap.size)) args s 0 0 (z_A 0 ad s.heap.size)) (F0 m 69 ls [.int v100]) := by
  intro σ v100 H locs ls S hl  hf
  unfold f_X6_settingOfWord_69 at hf
  exact z_iret C S hf dX6_settingOfWord_69
set_option maxHeartbeats 4000000 in
set_option maxRecDepth 100000 in
theorem w_X6_settingOfWord_0 {p : Program} {l : Launch} {e : Env} {s : State} {m : MethodId} {args : Array Value} {below : List Frame} {meth : Method} {c : Code} {G : Gx} {ad : Ad} {res : Int32 × Sg} (C : Cx p s m args meth c yX6_settingOfWord.cls cX6_settingOfWord 1 (Option.some FieldType.int) G)  : ∀ (σ : Sg)  (H : Heap) (locs : List Loc) (ls : Array Slot), z_S 0 G ad σ (z_A 0 ad s.heap.size) s.heap H locs → lv_has ls 1 [(0, .ref (ad 6 0))] → f_X6_settingOfWord  σ  = some res → W p l e { frames := 5, cells := 0, slots := 0, locals := 122 } s m args below meth c H locs 0 0 (MQ below (va_Qi (S := Unit) (fun r1 _ => r1 = res.1) (fun _ t => z_W 0 G ad res.2 t.heap) (z_A 0 ad s.heap.size)) args s 0 0 (z_A 0 ad s.heap.size)) (F0 m 0 ls []) := by
  intro σ  H locs ls S hl  hf
  unfold f_X6_settingOfWord at hf
  refine lv_aload_n C.1 C.2.1 dX6_settingOfWord_0 rfl (lv_at hl 0 rfl) ?_
  refine z_sldc (sa := 10 + 3) C (List.mem_of_getElem? (i := 3) rfl) dX6_settingOfWord_1 ?_
  obtain ⟨r2, σ1, q_3, hf⟩ := bib hf
  refine z_callI C S 6 0 rfl (by decide) cf_6 ⟨_, rfl⟩ [.ref (G.2.2.2 (10 + 3))] (m_X6_isWord l G ad σ 3 r2 σ1 (by decide) q_3 _) kv_X6_isWord tw_2_215 ⟨Nat.le_of_ble_eq_true rfl, Nat.le_of_ble_eq_true rfl⟩ rfl rfl (Nat.le_of_ble_eq_true rfl) hl.1 ⟨Nat.le_of_ble_eq_true rfl, Nat.le_of_ble_eq_true rfl⟩ dX6_settingOfWord_3 (fun H locs S => ?_)
  refine lv_if_eq (tgt := 11) C.1 C.2.1 dX6_settingOfWord_6 (by decide) (fun c_6 => ?_) (fun c_6 => ?_)
  · rw [if_pos c_6] at hf
    refine lv_aload_n C.1 C.2.1 dX6_settingOfWord_11 rfl (lv_at hl 0 rfl) ?_
    refine z_sldc (sa := 10 + 4) C (List.mem_of_getElem? (i := 4) rfl) dX6_settingOfWord_12 ?_
    obtain ⟨r4, σ3, q_14, hf⟩ := bib hf
    refine z_callI C S 6 0 rfl (by decide) cf_6 ⟨_, rfl⟩ [.ref (G.2.2.2 (10 + 4))] (m_X6_isWord l G ad σ1 4 r4 σ3 (by decide) q_14 _) kv_X6_isWord tw_2_215 ⟨Nat.le_of_ble_eq_true rfl, Nat.le_of_ble_eq_true rfl⟩ rfl rfl (Nat.le_of_ble_eq_true rfl) hl.1 ⟨Nat.le_of_ble_eq_true rfl, Nat.le_of_ble_eq_true rfl⟩ dX6_settingOfWord_14 (fun H locs S => ?_)
    refine lv_if_eq (tgt := 22) C.1 C.2.1 dX6_settingOfWord_17 (by decide) (fun c_17 => ?_) (fun c_17 => ?_)
    · rw [if_pos c_17] at hf
      refine lv_aload_n C.1 C.2.1 dX6_settingOfWord_22 rfl (lv_at hl 0 rfl) ?_
      refine z_sldc (sa := 10 + 5) C (List.mem_of_getElem? (i := 5) rfl) dX6_settingOfWord_23 ?_
      obtain ⟨r6, σ5, q_25, hf⟩ := bib hf
      refine z_callI C S 6 0 rfl (by decide) cf_6 ⟨_, rfl⟩ [.ref (G.2.2.2 (10 + 5))] (m_X6_isWord l G ad σ3 5 r6 σ5 (by decide) q_25 _) kv_X6_isWord tw_2_215 ⟨Nat.le_of_ble_eq_true rfl, Nat.le_of_ble_eq_true rfl⟩ rfl rfl (Nat.le_of_ble_eq_true rfl) hl.1 ⟨Nat.le_of_ble_eq_true rfl, Nat.le_of_ble_eq_true rfl⟩ dX6_settingOfWord_25 (fun H locs S => ?_)
      refine lv_if_eq (tgt := 33) C.1 C.2.1 dX6_settingOfWord_28 (by decide) (fun c_28 => ?_) (fun c_28 => ?_)
      · rw [if_pos c_28] at hf
        refine lv_aload_n C.1 C.2.1 dX6_settingOfWord_33 rfl (lv_at hl 0 rfl) ?_
        refine z_sldc (sa := 10 + 6) C (List.mem_of_getElem? (i := 6) rfl) dX6_settingOfWord_34 ?_
        obtain ⟨r8, σ7, q_36, hf⟩ := bib hf
        refine z_callI C S 6 0 rfl (by decide) cf_6 ⟨_, rfl⟩ [.ref (G.2.2.2 (10 + 6))] (m_X6_isWord l G ad σ5 6 r8 σ7 (by decide) q_36 _) kv_X6_isWord tw_2_215 ⟨Nat.le_of_ble_eq_true rfl, Nat.le_of_ble_eq_true rfl⟩ rfl rfl (Nat.le_of_ble_eq_true rfl) hl.1 ⟨Nat.le_of_ble_eq_true rfl, Nat.le_of_ble_eq_true rfl⟩ dX6_settingOfWord_36 (fun H locs S => ?_)
        refine lv_if_eq (tgt := 44) C.1 C.2.1 dX6_settingOfWord_39 (by decide) (fun c_39 => ?_) (fun c_39 => ?_)
        · rw [if_pos c_39] at hf
          refine lv_aload_n C.1 C.2.1 dX6_settingOfWord_44 rfl (lv_at hl 0 rfl) ?_
          refine z_sldc (sa := 10 + 7) C (List.mem_of_getElem? (i := 7) rfl) dX6_settingOfWord_45 ?_
          obtain ⟨r10, σ9, q_47, hf⟩ := bib hf
          refine z_callI C S 6 0 rfl (by decide) cf_6 ⟨_, rfl⟩ [.ref (G.2.2.2 (10 + 7))] (m_X6_isWord l G ad σ7 7 r10 σ9 (by decide) q_47 _) kv_X6_isWord tw_2_215 ⟨Nat.le_of_ble_eq_true rfl, Nat.le_of_ble_eq_true rfl⟩ rfl rfl (Nat.le_of_ble_eq_true rfl) hl.1 ⟨Nat.le_of_ble_eq_true rfl, Nat.le_of_ble_eq_true rfl⟩ dX6_settingOfWord_47 (fun H locs S => ?_)
          refine lv_if_eq (tgt := 55) C.1 C.2.1 dX6_settingOfWord_50 (by decide) (fun c_50 => ?_) (fun c_50 => ?_)
          · rw [if_pos c_50] at hf
            refine lv_aload_n C.1 C.2.1 dX6_settingOfWord_55 rfl (lv_at hl 0 rfl) ?_
            refine z_sldc (sa := 10 + 8) C (List.mem_of_getElem? (i := 8) rfl) dX6_settingOfWord_56 ?_
            obtain ⟨r12, σ11, q_58, hf⟩ := bib hf
            refine z_callI C S 6 0 rfl (by decide) cf_6 ⟨_, rfl⟩ [.ref (G.2.2.2 (10 + 8))] (m_X6_isWord l G ad σ9 8 r12 σ11 (by decide) q_58 _) kv_X6_isWord tw_2_215 ⟨Nat.le_of_ble_eq_true rfl, Nat.le_of_ble_eq_true rfl⟩ rfl rfl (Nat.le_of_ble_eq_true rfl) hl.1 ⟨Nat.le_of_ble_eq_true rfl, Nat.le_of_ble_eq_true rfl⟩ dX6_settingOfWord_58 (fun H locs S => ?_)
            refine lv_if_eq (tgt := 68) C.1 C.2.1 dX6_settingOfWord_61 (by decide) (fun c_61 => ?_) (fun c_61 => ?_)
            · rw [if_pos c_61] at hf
              refine lv_iconst (v := (-1)) C.1 C.2.1 dX6_settingOfWord_68 (by decide) ?_
              exact w_X6_settingOfWord_69 C _ (-1) _ _ _ S (lv_sub hl [] rfl) hf
            · rw [if_neg c_61] at hf
              refine lv_iconst (v := 5) C.1 C.2.1 dX6_settingOfWord_64 (by decide) ?_
              refine lv_goto (tgt := 69) C.1 C.2.1 dX6_settingOfWord_65 (by decide) ?_
              exact w_X6_settingOfWord_69 C _ 5 _ _ _ S (lv_sub hl [] rfl) hf
          · rw [if_neg c_50] at hf
            refine lv_iconst (v := 4) C.1 C.2.1 dX6_settingOfWord_53 (by decide) ?_
            exact z_iret C S hf dX6_settingOfWord_54
        · rw [if_neg c_39] at hf
          refine lv_iconst (v := 3) C.1 C.2.1 dX6_settingOfWord_42 (by decide) ?_
          exact z_iret C S hf dX6_settingOfWord_43
      · rw [if_neg c_28] at hf
        refine lv_iconst (v := 2) C.1 C.2.1 dX6_settingOfWord_31 (by decide) ?_
        exact z_iret C S hf dX6_settingOfWord_32
    · rw [if_neg c_17] at hf
      refine lv_iconst (v := 1) C.1 C.2.1 dX6_settingOfWord_20 (by decide) ?_
      exact z_iret C S hf dX6_settingOfWord_21
  · rw [if_neg c_6] at hf
    refine lv_iconst (v := 0) C.1 C.2.1 dX6_settingOfWord_9 (by decide) ?_
    exact z_iret C S hf dX6_settingOfWord_10
theorem kv_X6_settingOfWord : KV yX6_settingOfWord cX6_settingOfWord 1 (Option.some FieldType.int) 0 := ⟨tw_3_66, tw_3_65, tw_p_11, tw_1_18, by decide, by decide, by decide +kernel⟩
theorem m_X6_settingOfWord (l : Launch) (G : Gx) (ad : Ad) (σ : Sg)  (r : Int32) (σ' : Sg)  (hf : f_X6_settingOfWord σ  = some (r, σ')) (sz : Nat) : z_MI l yX6_settingOfWord cX6_settingOfWord 1 (Option.some FieldType.int) 5 122 0 G ad σ sz [.ref (ad 6 0)] r σ' := by
  refine z_begin (by decide +kernel) (Nat.le_of_ble_eq_true rfl) [(0, .ref (ad 6 0))] rfl (fun p e s m args below meth c ls C hz S hl => ?_)
  subst hz
  exact w_X6_settingOfWord_0 (res := (r, σ')) C σ  _ _ _ S hl  hf

theorem dX6_readSetting_0 : decode cX6_readSetting 0 = .ok (.aload_n 0, 1) := by decide +kernel
theorem dX6_readSetting_1 : decode cX6_readSetting 1 = .ok (.getfield 31, 3) := by decide +kernel
theorem dX6_readSetting_4 : decode cX6_readSetting 4 = .ok (.iload_n 2, 1) := by decide +kernel
theorem dX6_readSetting_5 : decode cX6_readSetting 5 = .ok (.iushr, 1) := by decide +kernel
theorem dX6_readSetting_6 : decode cX6_readSetting 6 = .ok (.iconst 1, 1) := by decide +kernel
theorem dX6_readSetting_7 : decode cX6_readSetting 7 = .ok (.iand, 1) := by decide +kernel
theorem dX6_readSetting_8 : decode cX6_readSetting 8 = .ok (.ifCond .eq 9, 3) := by decide +kernel
theorem dX6_readSetting_11 : decode cX6_readSetting 11 = .ok (.aload_n 0, 1) := by decide +kernel
theorem dX6_readSetting_12 : decode cX6_readSetting 12 = .ok (.iconst 3, 1) := by decide +kernel
theorem dX6_readSetting_13 : decode cX6_readSetting 13 = .ok (.invokevirtual 55, 3) := by decide +kernel
theorem dX6_readSetting_16 : decode cX6_readSetting 16 = .ok (.ireturn, 1) := by decide +kernel
theorem dX6_readSetting_17 : decode cX6_readSetting 17 = .ok (.aload_n 0, 1) := by decide +kernel
theorem dX6_readSetting_18 : decode cX6_readSetting 18 = .ok (.dup, 1) := by decide +kernel
theorem dX6_readSetting_19 : decode cX6_readSetting 19 = .ok (.getfield 31, 3) := by decide +kernel
theorem dX6_readSetting_22 : decode cX6_readSetting 22 = .ok (.iconst 1, 1) := by decide +kernel
theorem dX6_readSetting_23 : decode cX6_readSetting 23 = .ok (.iload_n 2, 1) := by decide +kernel
theorem dX6_readSetting_24 : decode cX6_readSetting 24 = .ok (.ishl, 1) := by decide +kernel
theorem dX6_readSetting_25 : decode cX6_readSetting 25 = .ok (.ior, 1) := by decide +kernel
theorem dX6_readSetting_26 : decode cX6_readSetting 26 = .ok (.putfield 31, 3) := by decide +kernel
theorem dX6_readSetting_29 : decode cX6_readSetting 29 = .ok (.iload_n 2, 1) := by decide +kernel
theorem dX6_readSetting_30 : decode cX6_readSetting 30 = .ok (.iconst 5, 1) := by decide +kernel
theorem dX6_readSetting_31 : decode cX6_readSetting 31 = .ok (.if_icmp .ne 27, 3) := by decide +kernel
theorem dX6_readSetting_34 : decode cX6_readSetting 34 = .ok (.aload_n 0, 1) := by decide +kernel
theorem dX6_readSetting_35 : decode cX6_readSetting 35 = .ok (.iconst 0, 1) := by decide +kernel
theorem dX6_readSetting_36 : decode cX6_readSetting 36 = .ok (.sipush 9999, 3) := by decide +kernel
theorem dX6_readSetting_39 : decode cX6_readSetting 39 = .ok (.invokevirtual 68, 3) := by decide +kernel
theorem dX6_readSetting_42 : decode cX6_readSetting 42 = .ok (.ifCond .ne 5, 3) := by decide +kernel
theorem dX6_readSetting_45 : decode cX6_readSetting 45 = .ok (.iconst 0, 1) := by decide +kernel
theorem dX6_readSetting_46 : decode cX6_readSetting 46 = .ok (.ireturn, 1) := by decide +kernel
theorem dX6_readSetting_47 : decode cX6_readSetting 47 = .ok (.aload_n 1, 1) := by decide +kernel
theorem dX6_readSetting_48 : decode cX6_readSetting 48 = .ok (.aload_n 0, 1) := by decide +kernel
theorem dX6_readSetting_49 : decode cX6_readSetting 49 = .ok (.getfield 72, 3) := by decide +kernel
theorem dX6_readSetting_52 : decode cX6_readSetting 52 = .ok (.putfield 114, 3) := by decide +kernel
theorem dX6_readSetting_55 : decode cX6_readSetting 55 = .ok (.goto 32, 3) := by decide +kernel
theorem dX6_readSetting_58 : decode cX6_readSetting 58 = .ok (.aload_n 0, 1) := by decide +kernel
theorem dX6_readSetting_59 : decode cX6_readSetting 59 = .ok (.getstatic 117, 3) := by decide +kernel
theorem dX6_readSetting_62 : decode cX6_readSetting 62 = .ok (.iload_n 2, 1) := by decide +kernel
theorem dX6_readSetting_63 : decode cX6_readSetting 63 = .ok (.iaload, 1) := by decide +kernel
theorem dX6_readSetting_64 : decode cX6_readSetting 64 = .ok (.getstatic 120, 3) := by decide +kernel
theorem dX6_readSetting_67 : decode cX6_readSetting 67 = .ok (.iload_n 2, 1) := by decide +kernel
theorem dX6_readSetting_68 : decode cX6_readSetting 68 = .ok (.iaload, 1) := by decide +kernel
theorem dX6_readSetting_69 : decode cX6_readSetting 69 = .ok (.invokevirtual 68, 3) := by decide +kernel
theorem dX6_readSetting_72 : decode cX6_readSetting 72 = .ok (.ifCond .ne 5, 3) := by decide +kernel
theorem dX6_readSetting_75 : decode cX6_readSetting 75 = .ok (.iconst 0, 1) := by decide +kernel
theorem dX6_readSetting_76 : decode cX6_readSetting 76 = .ok (.ireturn, 1) := by decide +kernel
theorem dX6_readSetting_77 : decode cX6_readSetting 77 = .ok (.aload_n 1, 1) := by decide +kernel
theorem dX6_readSetting_78 : decode cX6_readSetting 78 = .ok (.getfield 123, 3) := by decide +kernel
theorem dX6_readSetting_81 : decode cX6_readSetting 81 = .ok (.iload_n 2, 1) := by decide +kernel
theorem dX6_readSetting_82 : decode cX6_readSetting 82 = .ok (.aload_n 0, 1) := by decide +kernel
theorem dX6_readSetting_83 : decode cX6_readSetting 83 = .ok (.getfield 72, 3) := by decide +kernel
theorem dX6_readSetting_86 : decode cX6_readSetting 86 = .ok (.iastore, 1) := by decide +kernel
theorem dX6_readSetting_87 : decode cX6_readSetting 87 = .ok (.aload_n 0, 1) := by decide +kernel
theorem dX6_readSetting_88 : decode cX6_readSetting 88 = .ok (.invokevirtual 79, 3) := by decide +kernel
theorem dX6_readSetting_91 : decode cX6_readSetting 91 = .ok (.ireturn, 1) := by decide +kernel
/-! BusLifts$SetupReader.readSetting(LBusLifts$Lifts;I)Z -/
noncomputable def f_X6_readSetting_87  (σ : Sg)  : Option (Int32 × Sg) := bi (f_X6_readSemicolon σ) fun r2 σ1 => (if ¬ (r2 = 0 ∨ r2 = 1) then none else (some (r2, σ1)))
noncomputable def f_X6_readSetting  (σ : Sg) (o1 : Nat) (v2 : Int32) : Option (Int32 × Sg) := if ((jush (σ 6 0 8) v2) &&& 1) = 0 then (st (sup σ 6 0 8 ((σ 6 0 8) ||| (1 <<< (v2 &&& 31)))) fun σ1 => (if v2 = 5 then (bi (f_X6_readNumber σ1 0 9999) fun r6 σ5 => (if r6 = 0 then (some (0, σ5)) else (st (sup σ5 4 o1 4 (σ5 6 0 7)) fun σ7 => (f_X6_readSetting_87 σ7)))) else (if v2 < 0 ∨ 5 ≤ (v2).toNatClampNeg then none else (if v2 < 0 ∨ 5 ≤ (v2).toNatClampNeg then none else (bi (f_X6_readNumber σ1 (stab 0 (v2).toNatClampNeg) (stab 1 (v2).toNatClampNeg)) fun r3 σ2 => (if r3 = 0 then (some (0, σ2)) else (if v2 < 0 ∨ 5 ≤ (v2).toNatClampNeg then none else (st (sup σ2 12 o1 (v2).toNatClampNeg (σ2 6 0 7)) fun σ4 => (f_X6_readSetting_87 σ4))))))))) else (bi (f_X6_fail σ 3) fun r9 σ8 => (if ¬ (r9 = 0 ∨ r9 = 1) then none else (some (r9, σ8))))
set_option maxHeartbeats 4000000 in
set_option maxRecDepth 100000 in
theorem w_X6_readSetting_87 {p : Program} {l : Launch} {e : Env} {s : State} {m : MethodId} {args : Array Value} {below : List Frame} {meth : Method} {c : Code} {G : Gx} {ad : Ad} {res : Int32 × Sg} (C : Cx p s m args meth c yX6_readSetting.cls cX6_readSetting 3 (Option.some FieldType.boolean) G)  : ∀ (σ : Sg)  (H : Heap) (locs : List Loc) (ls : Array Slot), z_S 0 G ad σ (z_A 0 ad s.heap.size) s.heap H locs → lv_has ls 3 [(0, .ref (ad 6 0))] → f_X6_readSetting_87  σ  = some res → W p l e { frames := 4, cells := 0, slots := 0, locals := 82 } s m args below meth c H locs 0 0 (MQ below (va_Qi (S := Unit) (fun r1 _ => r1 = res.1) (fun _ t => z_W 0 G ad res.2 t.heap) (z_A 0 ad s.heap.size)) args s 0 0 (z_A 0 ad s.heap.size)) (F0 m 87 ls []) := by
  intro σ  H locs ls S hl  hf
  unfold f_X6_readSetting_87 at hf
  refine lv_aload_n C.1 C.2.1 dX6_readSetting_87 rfl (lv_at hl 0 rfl) ?_
  obtain ⟨r2, σ1, q_88, hf⟩ := bib hf
  refine z_callI C S 6 0 rfl (by decide) cf_6 ⟨_, rfl⟩ [] (m_X6_readSemicolon l G ad σ r2 σ1 q_88 _) kv_X6_readSemicolon tw_3_36 ⟨Nat.le_of_ble_eq_true rfl, Nat.le_of_ble_eq_true rfl⟩ rfl rfl (Nat.le_of_ble_eq_true rfl) hl.1 ⟨Nat.le_of_ble_eq_true rfl, Nat.le_of_ble_eq_true rfl⟩ dX6_readSetting_88 (fun H locs S => ?_)
  obtain ⟨g_91, hf⟩ := gd hf
  exact z_zret C S (nbz g_91).1 hf dX6_readSetting_91
set_option maxHeartbeats 4000000 in
set_option maxRecDepth 100000 in
theorem w_X6_readSetting_0 {p : Program} {l : Launch} {e : Env} {s : State} {m : MethodId} {args : Array Value} {below : List Frame} {meth : Method} {c : Code} {G : Gx} {ad : Ad} {res : Int32 × Sg} (C : Cx p s m args meth c yX6_readSetting.cls cX6_readSetting 3 (Option.some FieldType.boolean) G)  : ∀ (σ : Sg) (o1 : Nat) (v2 : Int32) (H : Heap) (locs : List Loc) (ls : Array Slot), z_S 0 G ad σ (z_A 0 ad s.heap.size) s.heap H locs → lv_has ls 3 [(0, .ref (ad 6 0)), (1, .ref (ad 4 o1)), (2, .int v2)] → (o1 < z_cnt 4) → f_X6_readSetting  σ o1 v2 = some res → W p l e { frames := 4, cells := 0, slots := 0, locals := 82 } s m args below meth c H locs 0 0 (MQ below (va_Qi (S := Unit) (fun r1 _ => r1 = res.1) (fun _ t => z_W 0 G ad res.2 t.heap) (z_A 0 ad s.heap.size)) args s 0 0 (z_A 0 ad s.heap.size)) (F0 m 0 ls []) := by
  intro σ o1 v2 H locs ls S hl ho1 hf
  unfold f_X6_readSetting at hf
  refine lv_aload_n C.1 C.2.1 dX6_readSetting_0 rfl (lv_at hl 0 rfl) ?_
  refine z_getI C S 6 0 rfl (by decide) cf_6 8 (by decide) (gi_6_8 G ad 0) tw_2_91 dX6_readSetting_1 ?_
  refine lv_iload_n C.1 C.2.1 dX6_readSetting_4 rfl (lv_at hl 2 rfl) ?_
  refine lv_iushr (v := (jush (σ 6 0 8) v2)) C.1 C.2.1 dX6_readSetting_5 rfl ?_
  refine lv_iconst (v := 1) C.1 C.2.1 dX6_readSetting_6 (by decide) ?_
  refine lv_iand C.1 C.2.1 dX6_readSetting_7 ?_
  refine lv_if_eq (tgt := 17) C.1 C.2.1 dX6_readSetting_8 (by decide) (fun c_8 => ?_) (fun c_8 => ?_)
  · rw [if_pos c_8] at hf
    refine lv_aload_n C.1 C.2.1 dX6_readSetting_17 rfl (lv_at hl 0 rfl) ?_
    refine lv_dup C.1 C.2.1 dX6_readSetting_18 rfl ?_
    refine z_getI C S 6 0 rfl (by decide) cf_6 8 (by decide) (gi_6_8 G ad 0) tw_2_91 dX6_readSetting_19 ?_
    refine lv_iconst (v := 1) C.1 C.2.1 dX6_readSetting_22 (by decide) ?_
    refine lv_iload_n C.1 C.2.1 dX6_readSetting_23 rfl (lv_at hl 2 rfl) ?_
    refine lv_ishl C.1 C.2.1 dX6_readSetting_24 ?_
    refine lv_ior C.1 C.2.1 dX6_readSetting_25 ?_
    obtain ⟨σ1, e_26, hf⟩ := stb hf
    refine z_putI C S 6 0 rfl (by decide) cf_6 8 (by decide) (pi_6_8 G ad 0) rfl rfl rfl tw_2_91 dX6_readSetting_26 (fun H locs S => ?_)
    rw [← e_26] at S
    refine lv_iload_n C.1 C.2.1 dX6_readSetting_29 rfl (lv_at hl 2 rfl) ?_
    refine lv_iconst (v := 5) C.1 C.2.1 dX6_readSetting_30 (by decide) ?_
    refine lv_icmp_ne (tgt := 58) C.1 C.2.1 dX6_readSetting_31 (by decide) (fun c_31 => ?_) (fun c_31 => ?_)
    · rw [if_neg c_31] at hf
      refine lv_aload_n C.1 C.2.1 dX6_readSetting_58 rfl (lv_at hl 0 rfl) ?_
      refine z_getsN C S "LEAST_SETTING" 0 _ (List.mem_of_getElem? (i := 0) rfl) (List.mem_of_getElem? (i := 7) rfl) dX6_readSetting_59 ?_
      refine lv_iload_n C.1 C.2.1 dX6_readSetting_62 rfl (lv_at hl 2 rfl) ?_
      obtain ⟨g_63, hf⟩ := gd hf
      refine z_tld C S 0 (by decide) g_63 dX6_readSetting_63 ?_
      refine z_getsN C S "MOST_SETTING" 1 _ (List.mem_of_getElem? (i := 1) rfl) (List.mem_of_getElem? (i := 8) rfl) dX6_readSetting_64 ?_
      refine lv_iload_n C.1 C.2.1 dX6_readSetting_67 rfl (lv_at hl 2 rfl) ?_
      obtain ⟨g_68, hf⟩ := gd hf
      refine z_tld C S 1 (by decide) g_68 dX6_readSetting_68 ?_
      obtain ⟨r3, σ2, q_69, hf⟩ := bib hf
      refine z_callI C S 6 0 rfl (by decide) cf_6 ⟨_, rfl⟩ [.int (stab 0 (v2).toNatClampNeg), .int (stab 1 (v2).toNatClampNeg)] (m_X6_readNumber l G ad σ1 (stab 0 (v2).toNatClampNeg) (stab 1 (v2).toNatClampNeg) r3 σ2 q_69 _) kv_X6_readNumber tw_3_31 ⟨Nat.le_of_ble_eq_true rfl, Nat.le_of_ble_eq_true rfl⟩ rfl rfl (Nat.le_of_ble_eq_true rfl) hl.1 ⟨Nat.le_of_ble_eq_true rfl, Nat.le_of_ble_eq_true rfl⟩ dX6_readSetting_69 (fun H locs S => ?_)
      refine lv_if_ne (tgt := 77) C.1 C.2.1 dX6_readSetting_72 (by decide) (fun c_72 => ?_) (fun c_72 => ?_)
      · rw [if_neg c_72] at hf
        refine lv_aload_n C.1 C.2.1 dX6_readSetting_77 rfl (lv_at hl 1 rfl) ?_
        refine z_getR C S 4 o1 rfl ho1 cf_4 5 (by decide) _ (gr_4_5 G ad o1) tw_1_238 dX6_readSetting_78 ?_
        refine lv_iload_n C.1 C.2.1 dX6_readSetting_81 rfl (lv_at hl 2 rfl) ?_
        refine lv_aload_n C.1 C.2.1 dX6_readSetting_82 rfl (lv_at hl 0 rfl) ?_
        refine z_getI C S 6 0 rfl (by decide) cf_6 7 (by decide) (gi_6_7 G ad 0) tw_2_90 dX6_readSetting_83 ?_
        obtain ⟨g_86, hf⟩ := gd hf
        obtain ⟨σ4, e_86, hf⟩ := stb hf
        refine z_iast C S 12 o1 rfl ho1 5 (fun _ => rfl) g_86 dX6_readSetting_86 (fun H locs S => ?_)
        rw [← e_86] at S
        exact w_X6_readSetting_87 C _ _ _ _ S (lv_sub hl [0] rfl) hf
      · rw [if_pos c_72] at hf
        refine lv_iconst (v := 0) C.1 C.2.1 dX6_readSetting_75 (by decide) ?_
        exact z_zret C S rfl hf dX6_readSetting_76
    · rw [if_pos c_31] at hf
      refine lv_aload_n C.1 C.2.1 dX6_readSetting_34 rfl (lv_at hl 0 rfl) ?_
      refine lv_iconst (v := 0) C.1 C.2.1 dX6_readSetting_35 (by decide) ?_
      refine lv_sipush (v := 9999) C.1 C.2.1 dX6_readSetting_36 (by decide) ?_
      obtain ⟨r6, σ5, q_39, hf⟩ := bib hf
      refine z_callI C S 6 0 rfl (by decide) cf_6 ⟨_, rfl⟩ [.int 0, .int 9999] (m_X6_readNumber l G ad σ1 0 9999 r6 σ5 q_39 _) kv_X6_readNumber tw_3_31 ⟨Nat.le_of_ble_eq_true rfl, Nat.le_of_ble_eq_true rfl⟩ rfl rfl (Nat.le_of_ble_eq_true rfl) hl.1 ⟨Nat.le_of_ble_eq_true rfl, Nat.le_of_ble_eq_true rfl⟩ dX6_readSetting_39 (fun H locs S => ?_)
      refine lv_if_ne (tgt := 47) C.1 C.2.1 dX6_readSetting_42 (by decide) (fun c_42 => ?_) (fun c_42 => ?_)
      · rw [if_neg c_42] at hf
        refine lv_aload_n C.1 C.2.1 dX6_readSetting_47 rfl (lv_at hl 1 rfl) ?_
        refine lv_aload_n C.1 C.2.1 dX6_readSetting_48 rfl (lv_at hl 0 rfl) ?_
        refine z_getI C S 6 0 rfl (by decide) cf_6 7 (by decide) (gi_6_7 G ad 0) tw_2_90 dX6_readSetting_49 ?_
        obtain ⟨σ7, e_52, hf⟩ := stb hf
        refine z_putI C S 4 o1 rfl ho1 cf_4 4 (by decide) (pi_4_4 G ad o1) rfl rfl rfl tw_1_235 dX6_readSetting_52 (fun H locs S => ?_)
        rw [← e_52] at S
        refine lv_goto (tgt := 87) C.1 C.2.1 dX6_readSetting_55 (by decide) ?_
        exact w_X6_readSetting_87 C _ _ _ _ S (lv_sub hl [0] rfl) hf
      · rw [if_pos c_42] at hf
        refine lv_iconst (v := 0) C.1 C.2.1 dX6_readSetting_45 (by decide) ?_
        exact z_zret C S rfl hf dX6_readSetting_46
  · rw [if_neg c_8] at hf
    refine lv_aload_n C.1 C.2.1 dX6_readSetting_11 rfl (lv_at hl 0 rfl) ?_
    refine lv_iconst (v := 3) C.1 C.2.1 dX6_readSetting_12 (by decide) ?_
    obtain ⟨r9, σ8, q_13, hf⟩ := bib hf
    refine z_callI C S 6 0 rfl (by decide) cf_6 ⟨_, rfl⟩ [.int 3] (m_X6_fail l G ad σ 3 r9 σ8 q_13 _) kv_X6_fail tw_3_27 ⟨Nat.le_of_ble_eq_true rfl, Nat.le_of_ble_eq_true rfl⟩ rfl rfl (Nat.le_of_ble_eq_true rfl) hl.1 ⟨Nat.le_of_ble_eq_true rfl, Nat.le_of_ble_eq_true rfl⟩ dX6_readSetting_13 (fun H locs S => ?_)
    obtain ⟨g_16, hf⟩ := gd hf
    exact z_zret C S (nbz g_16).1 hf dX6_readSetting_16
theorem kv_X6_readSetting : KV yX6_readSetting cX6_readSetting 3 (Option.some FieldType.boolean) 2 := ⟨tw_3_76, tw_3_75, tw_p_12, tw_1_18, by decide, by decide, by decide +kernel⟩
theorem m_X6_readSetting (l : Launch) (G : Gx) (ad : Ad) (σ : Sg) (o1 : Nat) (v2 : Int32) (r : Int32) (σ' : Sg) (ho1 : o1 < z_cnt 4) (hf : f_X6_readSetting σ o1 v2 = some (r, σ')) (sz : Nat) : z_MI l yX6_readSetting cX6_readSetting 3 (Option.some FieldType.boolean) 4 82 0 G ad σ sz [.ref (ad 6 0), .ref (ad 4 o1), .int v2] r σ' := by
  refine z_begin (by decide +kernel) (Nat.le_of_ble_eq_true rfl) [(0, .ref (ad 6 0)), (1, .ref (ad 4 o1)), (2, .int v2)] rfl (fun p e s m args below meth c ls C hz S hl => ?_)
  subst hz
  exact w_X6_readSetting_0 (res := (r, σ')) C σ o1 v2 _ _ _ S hl ho1 hf

theorem dX6_readStatement_0 : decode cX6_readStatement 0 = .ok (.aload_n 0, 1) := by decide +kernel
theorem dX6_readStatement_1 : decode cX6_readStatement 1 = .ok (.ldc 83, 2) := by decide +kernel
theorem dX6_readStatement_3 : decode cX6_readStatement 3 = .ok (.invokevirtual 64, 3) := by decide +kernel
theorem dX6_readStatement_6 : decode cX6_readStatement 6 = .ok (.ifCond .eq 9, 3) := by decide +kernel
theorem dX6_readStatement_9 : decode cX6_readStatement 9 = .ok (.aload_n 0, 1) := by decide +kernel
theorem dX6_readStatement_10 : decode cX6_readStatement 10 = .ok (.aload_n 1, 1) := by decide +kernel
theorem dX6_readStatement_11 : decode cX6_readStatement 11 = .ok (.invokevirtual 85, 3) := by decide +kernel
theorem dX6_readStatement_14 : decode cX6_readStatement 14 = .ok (.ireturn, 1) := by decide +kernel
theorem dX6_readStatement_15 : decode cX6_readStatement 15 = .ok (.aload_n 0, 1) := by decide +kernel
theorem dX6_readStatement_16 : decode cX6_readStatement 16 = .ok (.ldc 88, 2) := by decide +kernel
theorem dX6_readStatement_18 : decode cX6_readStatement 18 = .ok (.invokevirtual 64, 3) := by decide +kernel
theorem dX6_readStatement_21 : decode cX6_readStatement 21 = .ok (.ifCond .eq 9, 3) := by decide +kernel
theorem dX6_readStatement_24 : decode cX6_readStatement 24 = .ok (.aload_n 0, 1) := by decide +kernel
theorem dX6_readStatement_25 : decode cX6_readStatement 25 = .ok (.aload_n 1, 1) := by decide +kernel
theorem dX6_readStatement_26 : decode cX6_readStatement 26 = .ok (.invokevirtual 90, 3) := by decide +kernel
theorem dX6_readStatement_29 : decode cX6_readStatement 29 = .ok (.ireturn, 1) := by decide +kernel
theorem dX6_readStatement_30 : decode cX6_readStatement 30 = .ok (.aload_n 0, 1) := by decide +kernel
theorem dX6_readStatement_31 : decode cX6_readStatement 31 = .ok (.invokevirtual 93, 3) := by decide +kernel
theorem dX6_readStatement_34 : decode cX6_readStatement 34 = .ok (.istore_n 2, 1) := by decide +kernel
theorem dX6_readStatement_35 : decode cX6_readStatement 35 = .ok (.iload_n 2, 1) := by decide +kernel
theorem dX6_readStatement_36 : decode cX6_readStatement 36 = .ok (.ifCond .ge 11, 3) := by decide +kernel
theorem dX6_readStatement_39 : decode cX6_readStatement 39 = .ok (.aload_n 0, 1) := by decide +kernel
theorem dX6_readStatement_40 : decode cX6_readStatement 40 = .ok (.iconst 1, 1) := by decide +kernel
theorem dX6_readStatement_41 : decode cX6_readStatement 41 = .ok (.invokevirtual 55, 3) := by decide +kernel
theorem dX6_readStatement_44 : decode cX6_readStatement 44 = .ok (.goto 9, 3) := by decide +kernel
theorem dX6_readStatement_47 : decode cX6_readStatement 47 = .ok (.aload_n 0, 1) := by decide +kernel
theorem dX6_readStatement_48 : decode cX6_readStatement 48 = .ok (.aload_n 1, 1) := by decide +kernel
theorem dX6_readStatement_49 : decode cX6_readStatement 49 = .ok (.iload_n 2, 1) := by decide +kernel
theorem dX6_readStatement_50 : decode cX6_readStatement 50 = .ok (.invokevirtual 97, 3) := by decide +kernel
theorem dX6_readStatement_53 : decode cX6_readStatement 53 = .ok (.ireturn, 1) := by decide +kernel
/-! BusLifts$SetupReader.readStatement(LBusLifts$Lifts;)Z -/
noncomputable def f_X6_readStatement_53  (σ : Sg) (v100 : Int32) : Option (Int32 × Sg) := if ¬ (v100 = 0 ∨ v100 = 1) then none else (some (v100, σ))
noncomputable def f_X6_readStatement  (σ : Sg) (o1 : Nat) : Option (Int32 × Sg) := bi (f_X6_isWord σ 1) fun r2 σ1 => (if r2 = 0 then (bi (f_X6_isWord σ1 2) fun r4 σ3 => (if r4 = 0 then (bi (f_X6_settingOfWord σ3) fun r6 σ5 => (if 0 ≤ r6 then (bi (f_X6_readSetting σ5 o1 r6) fun r8 σ7 => (f_X6_readStatement_53 σ7 r8)) else (bi (f_X6_fail σ5 1) fun r10 σ9 => (f_X6_readStatement_53 σ9 r10)))) else (bi (f_X6_readCall σ3 o1) fun r12 σ11 => (if ¬ (r12 = 0 ∨ r12 = 1) then none else (some (r12, σ11)))))) else (bi (f_X6_readCar σ1 o1) fun r14 σ13 => (if ¬ (r14 = 0 ∨ r14 = 1) then none else (some (r14, σ13)))))
set_option maxHeartbeats 4000000 in
set_option maxRecDepth 100000 in
theorem w_X6_readStatement_53 {p : Program} {l : Launch} {e : Env} {s : State} {m : MethodId} {args : Array Value} {below : List Frame} {meth : Method} {c : Code} {G : Gx} {ad : Ad} {res : Int32 × Sg} (C : Cx p s m args meth c yX6_readStatement.cls cX6_readStatement 3 (Option.some FieldType.boolean) G)  : ∀ (σ : Sg) (v100 : Int32) (H : Heap) (locs : List Loc) (ls : Array Slot), z_S 0 G ad σ (z_A 0 ad s.heap.size) s.heap H locs → lv_has ls 3 [] → f_X6_readStatement_53  σ v100 = some res → W p l e { frames := 6, cells := 0, slots := 0, locals := 142 } s m args below meth c H locs 0 0 (MQ below (va_Qi (S := Unit) (fun r1 _ => r1 = res.1) (fun _ t => z_W 0 G ad res.2 t.heap) (z_A 0 ad s.heap.size)) args s 0 0 (z_A 0 ad s.heap.size)) (F0 m 53 ls [.int v100]) := by
  intro σ v100 H locs ls S hl  hf
  unfold f_X6_readStatement_53 at hf
  obtain ⟨g_53, hf⟩ := gd hf
  exact z_zret C S (nbz g_53).1 hf dX6_readStatement_53
set_option maxHeartbeats 4000000 in
set_option maxRecDepth 100000 in
theorem w_X6_readStatement_0 {p : Program} {l : Launch} {e : Env} {s : State} {m : MethodId} {args : Array Value} {below : List Frame} {meth : Method} {c : Code} {G : Gx} {ad : Ad} {res : Int32 × Sg} (C : Cx p s m args meth c yX6_readStatement.cls cX6_readStatement 3 (Option.some FieldType.boolean) G)  : ∀ (σ : Sg) (o1 : Nat) (H : Heap) (locs : List Loc) (ls : Array Slot), z_S 0 G ad σ (z_A 0 ad s.heap.size) s.heap H locs → lv_has ls 3 [(0, .ref (ad 6 0)), (1, .ref (ad 4 o1))] → (o1 < z_cnt 4) → f_X6_readStatement  σ o1 = some res → W p l e { frames := 6, cells := 0, slots := 0, locals := 142 } s m args below meth c H locs 0 0 (MQ below (va_Qi (S := Unit) (fun r1 _ => r1 = res.1) (fun _ t => z_W 0 G ad res.2 t.heap) (z_A 0 ad s.heap.size)) args s 0 0 (z_A 0 ad s.heap.size)) (F0 m 0 ls []) := by
  intro σ o1 H locs ls S hl ho1 hf
  unfold f_X6_readStatement at hf
  refine lv_aload_n C.1 C.2.1 dX6_readStatement_0 rfl (lv_at hl 0 rfl) ?_
  refine z_sldc (sa := 10 + 1) C (List.mem_of_getElem? (i := 1) rfl) dX6_readStatement_1 ?_
  obtain ⟨r2, σ1, q_3, hf⟩ := bib hf
  refine z_callI C S 6 0 rfl (by decide) cf_6 ⟨_, rfl⟩ [.ref (G.2.2.2 (10 + 1))] (m_X6_isWord l G ad σ 1 r2 σ1 (by decide) q_3 _) kv_X6_isWord tw_2_215 ⟨Nat.le_of_ble_eq_true rfl, Nat.le_of_ble_eq_true rfl⟩ rfl rfl (Nat.le_of_ble_eq_true rfl) hl.1 ⟨Nat.le_of_ble_eq_true rfl, Nat.le_of_ble_eq_true rfl⟩ dX6_readStatement_3 (fun H locs S => ?_)
  refine lv_if_eq (tgt := 15) C.1 C.2.1 dX6_readStatement_6 (by decide) (fun c_6 => ?_) (fun c_6 => ?_)
  · rw [if_pos c_6] at hf
    refine lv_aload_n C.1 C.2.1 dX6_readStatement_15 rfl (lv_at hl 0 rfl) ?_
    refine z_sldc (sa := 10 + 2) C (List.mem_of_getElem? (i := 2) rfl) dX6_readStatement_16 ?_
    obtain ⟨r4, σ3, q_18, hf⟩ := bib hf
    refine z_callI C S 6 0 rfl (by decide) cf_6 ⟨_, rfl⟩ [.ref (G.2.2.2 (10 + 2))] (m_X6_isWord l G ad σ1 2 r4 σ3 (by decide) q_18 _) kv_X6_isWord tw_2_215 ⟨Nat.le_of_ble_eq_true rfl, Nat.le_of_ble_eq_true rfl⟩ rfl rfl (Nat.le_of_ble_eq_true rfl) hl.1 ⟨Nat.le_of_ble_eq_true rfl, Nat.le_of_ble_eq_true rfl⟩ dX6_readStatement_18 (fun H locs S => ?_)
    refine lv_if_eq (tgt := 30) C.1 C.2.1 dX6_readStatement_21 (by decide) (fun c_21 => ?_) (fun c_21 => ?_)
    · rw [if_pos c_21] at hf
      refine lv_aload_n C.1 C.2.1 dX6_readStatement_30 rfl (lv_at hl 0 rfl) ?_
      obtain ⟨r6, σ5, q_31, hf⟩ := bib hf
      refine z_callI C S 6 0 rfl (by decide) cf_6 ⟨_, rfl⟩ [] (m_X6_settingOfWord l G ad σ3 r6 σ5 q_31 _) kv_X6_settingOfWord tw_3_63 ⟨Nat.le_of_ble_eq_true rfl, Nat.le_of_ble_eq_true rfl⟩ rfl rfl (Nat.le_of_ble_eq_true rfl) hl.1 ⟨Nat.le_of_ble_eq_true rfl, Nat.le_of_ble_eq_true rfl⟩ dX6_readStatement_31 (fun H locs S => ?_)
      refine lv_istore_n (lv' := [(2, .int r6), (0, .ref (ad 6 0)), (1, .ref (ad 4 o1))]) C.1 C.2.1 dX6_readStatement_34 rfl hl (by decide) rfl (fun ls hl => ?_)
      refine lv_iload_n C.1 C.2.1 dX6_readStatement_35 rfl (lv_at hl 0 rfl) ?_
      refine lv_if_ge (tgt := 47) C.1 C.2.1 dX6_readStatement_36 (by decide) (fun c_36 => ?_) (fun c_36 => ?_)
      · rw [if_pos c_36] at hf
        refine lv_aload_n C.1 C.2.1 dX6_readStatement_47 rfl (lv_at hl 1 rfl) ?_
        refine lv_aload_n C.1 C.2.1 dX6_readStatement_48 rfl (lv_at hl 2 rfl) ?_
        refine lv_iload_n C.1 C.2.1 dX6_readStatement_49 rfl (lv_at hl 0 rfl) ?_
        obtain ⟨r8, σ7, q_50, hf⟩ := bib hf
        refine z_callI C S 6 0 rfl (by decide) cf_6 ⟨_, rfl⟩ [.ref (ad 4 o1), .int r6] (m_X6_readSetting l G ad σ5 o1 r6 r8 σ7 ho1 q_50 _) kv_X6_readSetting tw_3_73 ⟨Nat.le_of_ble_eq_true rfl, Nat.le_of_ble_eq_true rfl⟩ rfl rfl (Nat.le_of_ble_eq_true rfl) hl.1 ⟨Nat.le_of_ble_eq_true rfl, Nat.le_of_ble_eq_true rfl⟩ dX6_readStatement_50 (fun H locs S => ?_)
        exact w_X6_readStatement_53 C _ r8 _ _ _ S (lv_sub hl [] rfl) hf
      · rw [if_neg c_36] at hf
        refine lv_aload_n C.1 C.2.1 dX6_readStatement_39 rfl (lv_at hl 1 rfl) ?_
        refine lv_iconst (v := 1) C.1 C.2.1 dX6_readStatement_40 (by decide) ?_
        obtain ⟨r10, σ9, q_41, hf⟩ := bib hf
        refine z_callI C S 6 0 rfl (by decide) cf_6 ⟨_, rfl⟩ [.int 1] (m_X6_fail l G ad σ5 1 r10 σ9 q_41 _) kv_X6_fail tw_3_27 ⟨Nat.le_of_ble_eq_true rfl, Nat.le_of_ble_eq_true rfl⟩ rfl rfl (Nat.le_of_ble_eq_true rfl) hl.1 ⟨Nat.le_of_ble_eq_true rfl, Nat.le_of_ble_eq_true rfl⟩ dX6_readStatement_41 (fun H locs S => ?_)
        refine lv_goto (tgt := 53) C.1 C.2.1 dX6_readStatement_44 (by decide) ?_
        exact w_X6_readStatement_53 C _ r10 _ _ _ S (lv_sub hl [] rfl) hf
    · rw [if_neg c_21] at hf
      refine lv_aload_n C.1 C.2.1 dX6_readStatement_24 rfl (lv_at hl 0 rfl) ?_
      refine lv_aload_n C.1 C.2.1 dX6_readStatement_25 rfl (lv_at hl 1 rfl) ?_
      obtain ⟨r12, σ11, q_26, hf⟩ := bib hf
      refine z_callI C S 6 0 rfl (by decide) cf_6 ⟨_, rfl⟩ [.ref (ad 4 o1)] (m_X6_readCall l G ad σ3 o1 r12 σ11 ho1 q_26 _) kv_X6_readCall tw_3_51 ⟨Nat.le_of_ble_eq_true rfl, Nat.le_of_ble_eq_true rfl⟩ rfl rfl (Nat.le_of_ble_eq_true rfl) hl.1 ⟨Nat.le_of_ble_eq_true rfl, Nat.le_of_ble_eq_true rfl⟩ dX6_readStatement_26 (fun H locs S => ?_)
      obtain ⟨g_29, hf⟩ := gd hf
      exact z_zret C S (nbz g_29).1 hf dX6_readStatement_29
  · rw [if_neg c_6] at hf
    refine lv_aload_n C.1 C.2.1 dX6_readStatement_9 rfl (lv_at hl 0 rfl) ?_
    refine lv_aload_n C.1 C.2.1 dX6_readStatement_10 rfl (lv_at hl 1 rfl) ?_
    obtain ⟨r14, σ13, q_11, hf⟩ := bib hf
    refine z_callI C S 6 0 rfl (by decide) cf_6 ⟨_, rfl⟩ [.ref (ad 4 o1)] (m_X6_readCar l G ad σ1 o1 r14 σ13 ho1 q_11 _) kv_X6_readCar tw_3_45 ⟨Nat.le_of_ble_eq_true rfl, Nat.le_of_ble_eq_true rfl⟩ rfl rfl (Nat.le_of_ble_eq_true rfl) hl.1 ⟨Nat.le_of_ble_eq_true rfl, Nat.le_of_ble_eq_true rfl⟩ dX6_readStatement_11 (fun H locs S => ?_)
    obtain ⟨g_14, hf⟩ := gd hf
    exact z_zret C S (nbz g_14).1 hf dX6_readStatement_14
theorem kv_X6_readStatement : KV yX6_readStatement cX6_readStatement 3 (Option.some FieldType.boolean) 1 := ⟨tw_3_43, tw_3_42, tw_p_8, tw_1_18, by decide, by decide, by decide +kernel⟩
theorem m_X6_readStatement (l : Launch) (G : Gx) (ad : Ad) (σ : Sg) (o1 : Nat) (r : Int32) (σ' : Sg) (ho1 : o1 < z_cnt 4) (hf : f_X6_readStatement σ o1 = some (r, σ')) (sz : Nat) : z_MI l yX6_readStatement cX6_readStatement 3 (Option.some FieldType.boolean) 6 142 0 G ad σ sz [.ref (ad 6 0), .ref (ad 4 o1)] r σ' := by
  refine z_begin (by decide +kernel) (Nat.le_of_ble_eq_true rfl) [(0, .ref (ad 6 0)), (1, .ref (ad 4 o1))] rfl (fun p e s m args below meth c ls C hz S hl => ?_)
  subst hz
  exact w_X6_readStatement_0 (res := (r, σ')) C σ o1 _ _ _ S hl ho1 hf

theorem dX6_read_0 : decode cX6_read 0 = .ok (.aload_n 0, 1) := by decide +kernel
theorem dX6_read_1 : decode cX6_read 1 = .ok (.aload_n 1, 1) := by decide +kernel
theorem dX6_read_2 : decode cX6_read 2 = .ok (.putfield 9, 3) := by decide +kernel
theorem dX6_read_5 : decode cX6_read 5 = .ok (.aload_n 0, 1) := by decide +kernel
theorem dX6_read_6 : decode cX6_read 6 = .ok (.iconst 0, 1) := by decide +kernel
theorem dX6_read_7 : decode cX6_read 7 = .ok (.iload_n 2, 1) := by decide +kernel
theorem dX6_read_8 : decode cX6_read 8 = .ok (.aload_n 1, 1) := by decide +kernel
theorem dX6_read_9 : decode cX6_read 9 = .ok (.arraylength, 1) := by decide +kernel
theorem dX6_read_10 : decode cX6_read 10 = .ok (.invokestatic 15, 3) := by decide +kernel
theorem dX6_read_13 : decode cX6_read 13 = .ok (.invokestatic 21, 3) := by decide +kernel
theorem dX6_read_16 : decode cX6_read 16 = .ok (.putfield 24, 3) := by decide +kernel
theorem dX6_read_19 : decode cX6_read 19 = .ok (.aload_n 0, 1) := by decide +kernel
theorem dX6_read_20 : decode cX6_read 20 = .ok (.iconst 0, 1) := by decide +kernel
theorem dX6_read_21 : decode cX6_read 21 = .ok (.putfield 28, 3) := by decide +kernel
theorem dX6_read_24 : decode cX6_read 24 = .ok (.aload_n 0, 1) := by decide +kernel
theorem dX6_read_25 : decode cX6_read 25 = .ok (.iconst 0, 1) := by decide +kernel
theorem dX6_read_26 : decode cX6_read 26 = .ok (.putfield 31, 3) := by decide +kernel
theorem dX6_read_29 : decode cX6_read 29 = .ok (.aload_n 0, 1) := by decide +kernel
theorem dX6_read_30 : decode cX6_read 30 = .ok (.iconst 0, 1) := by decide +kernel
theorem dX6_read_31 : decode cX6_read 31 = .ok (.putfield 34, 3) := by decide +kernel
theorem dX6_read_34 : decode cX6_read 34 = .ok (.aload_n 0, 1) := by decide +kernel
theorem dX6_read_35 : decode cX6_read 35 = .ok (.iconst (-1), 1) := by decide +kernel
theorem dX6_read_36 : decode cX6_read 36 = .ok (.putfield 37, 3) := by decide +kernel
theorem dX6_read_39 : decode cX6_read 39 = .ok (.aload_n 0, 1) := by decide +kernel
theorem dX6_read_40 : decode cX6_read 40 = .ok (.aload_n 3, 1) := by decide +kernel
theorem dX6_read_41 : decode cX6_read 41 = .ok (.invokevirtual 40, 3) := by decide +kernel
theorem dX6_read_44 : decode cX6_read 44 = .ok (.ifCond .ne 5, 3) := by decide +kernel
theorem dX6_read_47 : decode cX6_read 47 = .ok (.iconst 0, 1) := by decide +kernel
theorem dX6_read_48 : decode cX6_read 48 = .ok (.ireturn, 1) := by decide +kernel
theorem dX6_read_49 : decode cX6_read 49 = .ok (.iconst 0, 1) := by decide +kernel
theorem dX6_read_50 : decode cX6_read 50 = .ok (.istore 4, 2) := by decide +kernel
theorem dX6_read_52 : decode cX6_read 52 = .ok (.iload 4, 2) := by decide +kernel
theorem dX6_read_54 : decode cX6_read 54 = .ok (.aload_n 0, 1) := by decide +kernel
theorem dX6_read_55 : decode cX6_read 55 = .ok (.getfield 24, 3) := by decide +kernel
theorem dX6_read_58 : decode cX6_read 58 = .ok (.if_icmp .gt 51, 3) := by decide +kernel
theorem dX6_read_61 : decode cX6_read 61 = .ok (.aload_n 0, 1) := by decide +kernel
theorem dX6_read_62 : decode cX6_read 62 = .ok (.invokevirtual 44, 3) := by decide +kernel
theorem dX6_read_65 : decode cX6_read 65 = .ok (.aload_n 0, 1) := by decide +kernel
theorem dX6_read_66 : decode cX6_read 66 = .ok (.getfield 47, 3) := by decide +kernel
theorem dX6_read_69 : decode cX6_read 69 = .ok (.ifCond .ne 24, 3) := by decide +kernel
theorem dX6_read_72 : decode cX6_read 72 = .ok (.aload_n 3, 1) := by decide +kernel
theorem dX6_read_73 : decode cX6_read 73 = .ok (.getfield 50, 3) := by decide +kernel
theorem dX6_read_76 : decode cX6_read 76 = .ok (.ifCond .gt 11, 3) := by decide +kernel
theorem dX6_read_79 : decode cX6_read 79 = .ok (.aload_n 0, 1) := by decide +kernel
theorem dX6_read_80 : decode cX6_read 80 = .ok (.iconst 4, 1) := by decide +kernel
theorem dX6_read_81 : decode cX6_read 81 = .ok (.invokevirtual 55, 3) := by decide +kernel
theorem dX6_read_84 : decode cX6_read 84 = .ok (.ifCond .eq 7, 3) := by decide +kernel
theorem dX6_read_87 : decode cX6_read 87 = .ok (.iconst 1, 1) := by decide +kernel
theorem dX6_read_88 : decode cX6_read 88 = .ok (.goto 4, 3) := by decide +kernel
theorem dX6_read_91 : decode cX6_read 91 = .ok (.iconst 0, 1) := by decide +kernel
theorem dX6_read_92 : decode cX6_read 92 = .ok (.ireturn, 1) := by decide +kernel
theorem dX6_read_93 : decode cX6_read 93 = .ok (.aload_n 0, 1) := by decide +kernel
theorem dX6_read_94 : decode cX6_read 94 = .ok (.aload_n 3, 1) := by decide +kernel
theorem dX6_read_95 : decode cX6_read 95 = .ok (.invokevirtual 59, 3) := by decide +kernel
theorem dX6_read_98 : decode cX6_read 98 = .ok (.ifCond .ne 5, 3) := by decide +kernel
theorem dX6_read_101 : decode cX6_read 101 = .ok (.iconst 0, 1) := by decide +kernel
theorem dX6_read_102 : decode cX6_read 102 = .ok (.ireturn, 1) := by decide +kernel
theorem dX6_read_103 : decode cX6_read 103 = .ok (.iinc 4 1, 3) := by decide +kernel
theorem dX6_read_106 : decode cX6_read 106 = .ok (.goto (-54), 3) := by decide +kernel
theorem dX6_read_109 : decode cX6_read 109 = .ok (.aload_n 0, 1) := by decide +kernel
theorem dX6_read_110 : decode cX6_read 110 = .ok (.iconst 1, 1) := by decide +kernel
theorem dX6_read_111 : decode cX6_read 111 = .ok (.invokevirtual 55, 3) := by decide +kernel
theorem dX6_read_114 : decode cX6_read 114 = .ok (.ireturn, 1) := by decide +kernel
/-! BusLifts$SetupReader.read([IILBusLifts$Lifts;)Z -/
noncomputable def f_X6_read_109  (σ : Sg)  : Option (Int32 × Sg) := bi (f_X6_fail σ 1) fun r2 σ1 => (if ¬ (r2 = 0 ∨ r2 = 1) then none else (some (r2, σ1)))
noncomputable def f_X6_read_101  (σ : Sg)  : Option (Int32 × Sg) := some (0, σ)
noncomputable def f_X6_read_92  (σ : Sg) (v100 : Int32) : Option (Int32 × Sg) := if ¬ (v100 = 0 ∨ v100 = 1) then none else (some (v100, σ))
noncomputable def f_X6_read_87  (σ : Sg)  : Option (Int32 × Sg) := f_X6_read_92 σ 1
noncomputable def f_X6_read_72  (σ : Sg) (o3 : Nat) : Option (Int32 × Sg) := if 0 < (σ 4 o3 1) then (f_X6_read_87 σ) else (bi (f_X6_fail σ 4) fun r2 σ1 => (if r2 = 0 then (f_X6_read_92 σ1 0) else (f_X6_read_87 σ1)))
noncomputable def f_X6_read_52  : Nat → Sg → Nat → Int32 → Option (Int32 × Sg)
  | 0, _, _, _ => none
  | n + 1, σ, o3, v4 => if (σ 6 0 3) < v4 then (f_X6_read_109 σ) else (bv (f_X6_nextToken σ) fun σ1 => (if (σ1 6 0 5) = 0 then (f_X6_read_72 σ1 o3) else (bi (f_X6_readStatement σ1 o3) fun r3 σ2 => (if r3 = 0 then (f_X6_read_101 σ2) else (f_X6_read_52  n σ2 o3 (v4 + 1))))))
theorem f_X6_read_52_s  (n : Nat) (σ : Sg) (o3 : Nat) (v4 : Int32) : f_X6_read_52  (n + 1) σ o3 v4 = (if (σ 6 0 3) < v4 then (f_X6_read_109 σ) else (bv (f_X6_nextToken σ) fun σ1 => (if (σ1 6 0 5) = 0 then (f_X6_read_72 σ1 o3) else (bi (f_X6_readStatement σ1 o3) fun r3 σ2 => (if r3 = 0 then (f_X6_read_101 σ2) else (f_X6_read_52  n σ2 o3 (v4 + 1))))))) := rfl
noncomputable def f_X6_read  (σ : Sg) (v2 : Int32) (o3 : Nat) : Option (Int32 × Sg) := st (sup σ 6 0 2 1) fun σ1 => (st (sup σ1 6 0 3 (jmax 0 (jmin v2 700))) fun σ2 => (st (sup σ2 6 0 4 0) fun σ3 => (st (sup σ3 6 0 8 0) fun σ4 => (st (sup σ4 6 0 0 0) fun σ5 => (st (sup σ5 6 0 1 (-1)) fun σ6 => (bi (f_X6_readFloors σ6 o3) fun r8 σ7 => (if r8 = 0 then (some (0, σ7)) else (f_X6_read_52 FU σ7 o3 0))))))))
set_option maxHeartbeats 4000000 in
set_option maxRecDepth 100000 in
theorem w_X6_read_109 {p : Program} {l : Launch} {e : Env} {s : State} {m : MethodId} {args : Array Value} {below : List Frame} {meth : Method} {c : Code} {G : Gx} {ad : Ad} {res : Int32 × Sg} (C : Cx p s m args meth c yX6_read.cls cX6_read 5 (Option.some FieldType.boolean) G)  : ∀ (σ : Sg)  (H : Heap) (locs : List Loc) (ls : Array Slot), z_S 0 G ad σ (z_A 0 ad s.heap.size) s.heap H locs → lv_has ls 5 [(0, .ref (ad 6 0))] → f_X6_read_109  σ  = some res → W p l e { frames := 7, cells := 0, slots := 0, locals := 164 } s m args below meth c H locs 0 0 (MQ below (va_Qi (S := Unit) (fun r1 _ => r1 = res.1) (fun _ t => z_W 0 G ad res.2 t.heap) (z_A 0 ad s.heap.size)) args s 0 0 (z_A 0 ad s.heap.size)) (F0 m 109 ls []) := by
  intro σ  H locs ls S hl  hf
  unfold f_X6_read_109 at hf
  refine lv_aload_n C.1 C.2.1 dX6_read_109 rfl (lv_at hl 0 rfl) ?_
  refine lv_iconst (v := 1) C.1 C.2.1 dX6_read_110 (by decide) ?_
  obtain ⟨r2, σ1, q_111, hf⟩ := bib hf
  refine z_callI C S 6 0 rfl (by decide) cf_6 ⟨_, rfl⟩ [.int 1] (m_X6_fail l G ad σ 1 r2 σ1 q_111 _) kv_X6_fail tw_3_27 ⟨Nat.le_of_ble_eq_true rfl, Nat.le_of_ble_eq_true rfl⟩ rfl rfl (Nat.le_of_ble_eq_true rfl) hl.1 ⟨Nat.le_of_ble_eq_true rfl, Nat.le_of_ble_eq_true rfl⟩ dX6_read_111 (fun H locs S => ?_)
  obtain ⟨g_114, hf⟩ := gd hf
  exact z_zret C S (nbz g_114).1 hf dX6_read_114
set_option maxHeartbeats 4000000 in
set_option maxRecDepth 100000 in
theorem w_X6_read_101 {p : Program} {l : Launch} {e : Env} {s : State} {m : MethodId} {args : Array Value} {below : List Frame} {meth : Method} {c : Code} {G : Gx} {ad : Ad} {res : Int32 × Sg} (C : Cx p s m args meth c yX6_read.cls cX6_read 5 (Option.some FieldType.boolean) G)  : ∀ (σ : Sg)  (H : Heap) (locs : List Loc) (ls : Array Slot), z_S 0 G ad σ (z_A 0 ad s.heap.size) s.heap H locs → lv_has ls 5 [] → f_X6_read_101  σ  = some res → W p l e { frames := 7, cells := 0, slots := 0, locals := 164 } s m args below meth c H locs 0 0 (MQ below (va_Qi (S := Unit) (fun r1 _ => r1 = res.1) (fun _ t => z_W 0 G ad res.2 t.heap) (z_A 0 ad s.heap.size)) args s 0 0 (z_A 0 ad s.heap.size)) (F0 m 101 ls []) := by
  intro σ  H locs ls S hl  hf
  unfold f_X6_read_101 at hf
  refine lv_iconst (v := 0) C.1 C.2.1 dX6_read_101 (by decide) ?_
  exact z_zret C S rfl hf dX6_read_102
set_option maxHeartbeats 4000000 in
set_option maxRecDepth 100000 in
theorem w_X6_read_92 {p : Program} {l : Launch} {e : Env} {s : State} {m : MethodId} {args : Array Value} {below : List Frame} {meth : Method} {c : Code} {G : Gx} {ad : Ad} {res : Int32 × Sg} (C : Cx p s m args meth c yX6_read.cls cX6_read 5 (Option.some FieldType.boolean) G)  : ∀ (σ : Sg) (v100 : Int32) (H : Heap) (locs : List Loc) (ls : Array Slot), z_S 0 G ad σ (z_A 0 ad s.heap.size) s.heap H locs → lv_has ls 5 [] → f_X6_read_92  σ v100 = some res → W p l e { frames := 7, cells := 0, slots := 0, locals := 164 } s m args below meth c H locs 0 0 (MQ below (va_Qi (S := Unit) (fun r1 _ => r1 = res.1) (fun _ t => z_W 0 G ad res.2 t.heap) (z_A 0 ad s.heap.size)) args s 0 0 (z_A 0 ad s.heap.size)) (F0 m 92 ls [.int v100]) := by
  intro σ v100 H locs ls S hl  hf
  unfold f_X6_read_92 at hf
  obtain ⟨g_92, hf⟩ := gd hf
  exact z_zret C S (nbz g_92).1 hf dX6_read_92
set_option maxHeartbeats 4000000 in
set_option maxRecDepth 100000 in
theorem w_X6_read_87 {p : Program} {l : Launch} {e : Env} {s : State} {m : MethodId} {args : Array Value} {below : List Frame} {meth : Method} {c : Code} {G : Gx} {ad : Ad} {res : Int32 × Sg} (C : Cx p s m args meth c yX6_read.cls cX6_read 5 (Option.some FieldType.boolean) G)  : ∀ (σ : Sg)  (H : Heap) (locs : List Loc) (ls : Array Slot), z_S 0 G ad σ (z_A 0 ad s.heap.size) s.heap H locs → lv_has ls 5 [] → f_X6_read_87  σ  = some res → W p l e { frames := 7, cells := 0, slots := 0, locals := 164 } s m args below meth c H locs 0 0 (MQ below (va_Qi (S := Unit) (fun r1 _ => r1 = res.1) (fun _ t => z_W 0 G ad res.2 t.heap) (z_A 0 ad s.heap.size)) args s 0 0 (z_A 0 ad s.heap.size)) (F0 m 87 ls []) := by
  intro σ  H locs ls S hl  hf
  unfold f_X6_read_87 at hf
  refine lv_iconst (v := 1) C.1 C.2.1 dX6_read_87 (by decide) ?_
  refine lv_goto (tgt := 92) C.1 C.2.1 dX6_read_88 (by decide) ?_
  exact w_X6_read_92 C _ 1 _ _ _ S (lv_sub hl [] rfl) hf
set_option maxHeartbeats 4000000 in
set_option maxRecDepth 100000 in
theorem w_X6_read_72 {p : Program} {l : Launch} {e : Env} {s : State} {m : MethodId} {args : Array Value} {below : List Frame} {meth : Method} {c : Code} {G : Gx} {ad : Ad} {res : Int32 × Sg} (C : Cx p s m args meth c yX6_read.cls cX6_read 5 (Option.some FieldType.boolean) G)  : ∀ (σ : Sg) (o3 : Nat) (H : Heap) (locs : List Loc) (ls : Array Slot), z_S 0 G ad σ (z_A 0 ad s.heap.size) s.heap H locs → lv_has ls 5 [(0, .ref (ad 6 0)), (3, .ref (ad 4 o3))] → (o3 < z_cnt 4) → f_X6_read_72  σ o3 = some res → W p l e { frames := 7, cells := 0, slots := 0, locals := 164 } s m args below meth c H locs 0 0 (MQ below (va_Qi (S := Unit) (fun r1 _ => r1 = res.1) (fun _ t => z_W 0 G ad res.2 t.heap) (z_A 0 ad s.heap.size)) args s 0 0 (z_A 0 ad s.heap.size)) (F0 m 72 ls []) := by
  intro σ o3 H locs ls S hl ho3 hf
  unfold f_X6_read_72 at hf
  refine lv_aload_n C.1 C.2.1 dX6_read_72 rfl (lv_at hl 1 rfl) ?_
  refine z_getI C S 4 o3 rfl ho3 cf_4 1 (by decide) (gi_4_1 G ad o3) tw_1_224 dX6_read_73 ?_
  refine lv_if_gt (tgt := 87) C.1 C.2.1 dX6_read_76 (by decide) (fun c_76 => ?_) (fun c_76 => ?_)
  · rw [if_pos c_76] at hf
    exact w_X6_read_87 C _ _ _ _ S (lv_sub hl [] rfl) hf
  · rw [if_neg c_76] at hf
    refine lv_aload_n C.1 C.2.1 dX6_read_79 rfl (lv_at hl 0 rfl) ?_
    refine lv_iconst (v := 4) C.1 C.2.1 dX6_read_80 (by decide) ?_
    obtain ⟨r2, σ1, q_81, hf⟩ := bib hf
    refine z_callI C S 6 0 rfl (by decide) cf_6 ⟨_, rfl⟩ [.int 4] (m_X6_fail l G ad σ 4 r2 σ1 q_81 _) kv_X6_fail tw_3_27 ⟨Nat.le_of_ble_eq_true rfl, Nat.le_of_ble_eq_true rfl⟩ rfl rfl (Nat.le_of_ble_eq_true rfl) hl.1 ⟨Nat.le_of_ble_eq_true rfl, Nat.le_of_ble_eq_true rfl⟩ dX6_read_81 (fun H locs S => ?_)
    refine lv_if_eq (tgt := 91) C.1 C.2.1 dX6_read_84 (by decide) (fun c_84 => ?_) (fun c_84 => ?_)
    · rw [if_pos c_84] at hf
      refine lv_iconst (v := 0) C.1 C.2.1 dX6_read_91 (by decide) ?_
      exact w_X6_read_92 C _ 0 _ _ _ S (lv_sub hl [] rfl) hf
    · rw [if_neg c_84] at hf
      exact w_X6_read_87 C _ _ _ _ S (lv_sub hl [] rfl) hf
set_option maxHeartbeats 4000000 in
set_option maxRecDepth 100000 in
theorem w_X6_read_52 {p : Program} {l : Launch} {e : Env} {s : State} {m : MethodId} {args : Array Value} {below : List Frame} {meth : Method} {c : Code} {G : Gx} {ad : Ad} {res : Int32 × Sg} (C : Cx p s m args meth c yX6_read.cls cX6_read 5 (Option.some FieldType.boolean) G)  : ∀ n : Nat, ∀ (σ : Sg) (o3 : Nat) (v4 : Int32) (H : Heap) (locs : List Loc) (ls : Array Slot), z_S 0 G ad σ (z_A 0 ad s.heap.size) s.heap H locs → lv_has ls 5 [(0, .ref (ad 6 0)), (3, .ref (ad 4 o3)), (4, .int v4)] → (o3 < z_cnt 4) → f_X6_read_52  n σ o3 v4 = some res → W p l e { frames := 7, cells := 0, slots := 0, locals := 164 } s m args below meth c H locs 0 0 (MQ below (va_Qi (S := Unit) (fun r1 _ => r1 = res.1) (fun _ t => z_W 0 G ad res.2 t.heap) (z_A 0 ad s.heap.size)) args s 0 0 (z_A 0 ad s.heap.size)) (F0 m 52 ls []) := by
  intro n
  induction n with
  | zero => intro σ o3 v4 H locs ls S hl ho3 hf; cases hf
  | succ n ih =>
    intro σ o3 v4 H locs ls S hl ho3 hf
    rw [f_X6_read_52_s] at hf
    refine lv_iload C.1 C.2.1 dX6_read_52 (lv_at hl 2 rfl) ?_
    refine lv_aload_n C.1 C.2.1 dX6_read_54 rfl (lv_at hl 0 rfl) ?_
    refine z_getI C S 6 0 rfl (by decide) cf_6 3 (by decide) (gi_6_3 G ad 0) tw_2_86 dX6_read_55 ?_
    refine lv_icmp_gt (tgt := 109) C.1 C.2.1 dX6_read_58 (by decide) (fun c_58 => ?_) (fun c_58 => ?_)
    · rw [if_pos c_58] at hf
      exact w_X6_read_109 C _ _ _ _ S (lv_sub hl [0] rfl) hf
    · rw [if_neg c_58] at hf
      refine lv_aload_n C.1 C.2.1 dX6_read_61 rfl (lv_at hl 0 rfl) ?_
      obtain ⟨σ1, q_62, hf⟩ := bvb hf
      refine z_callV C S 6 0 rfl (by decide) cf_6 ⟨_, rfl⟩ [] (m_X6_nextToken l G ad σ σ1 q_62 _) kv_X6_nextToken tw_2_193 ⟨Nat.le_of_ble_eq_true rfl, Nat.le_of_ble_eq_true rfl⟩ rfl rfl (Nat.le_of_ble_eq_true rfl) hl.1 ⟨Nat.le_of_ble_eq_true rfl, Nat.le_of_ble_eq_true rfl⟩ dX6_read_62 (fun H locs S => ?_)
      refine lv_aload_n C.1 C.2.1 dX6_read_65 rfl (lv_at hl 0 rfl) ?_
      refine z_getI C S 6 0 rfl (by decide) cf_6 5 (by decide) (gi_6_5 G ad 0) tw_2_88 dX6_read_66 ?_
      refine lv_if_ne (tgt := 93) C.1 C.2.1 dX6_read_69 (by decide) (fun c_69 => ?_) (fun c_69 => ?_)
      · rw [if_neg c_69] at hf
        refine lv_aload_n C.1 C.2.1 dX6_read_93 rfl (lv_at hl 0 rfl) ?_
        refine lv_aload_n C.1 C.2.1 dX6_read_94 rfl (lv_at hl 1 rfl) ?_
        obtain ⟨r3, σ2, q_95, hf⟩ := bib hf
        refine z_callI C S 6 0 rfl (by decide) cf_6 ⟨_, rfl⟩ [.ref (ad 4 o3)] (m_X6_readStatement l G ad σ1 o3 r3 σ2 ho3 q_95 _) kv_X6_readStatement tw_3_40 ⟨Nat.le_of_ble_eq_true rfl, Nat.le_of_ble_eq_true rfl⟩ rfl rfl (Nat.le_of_ble_eq_true rfl) hl.1 ⟨Nat.le_of_ble_eq_true rfl, Nat.le_of_ble_eq_true rfl⟩ dX6_read_95 (fun H locs S => ?_)
        refine lv_if_ne (tgt := 103) C.1 C.2.1 dX6_read_98 (by decide) (fun c_98 => ?_) (fun c_98 => ?_)
        · rw [if_neg c_98] at hf
          refine lv_iinc (v := (v4 + 1)) (lv' := [(4, .int (v4 + 1)), (0, .ref (ad 6 0)), (3, .ref (ad 4 o3))]) C.1 C.2.1 dX6_read_103 hl (k := 2) rfl rfl (by decide) rfl (fun ls hl => ?_)
          refine lv_goto (tgt := 52) C.1 C.2.1 dX6_read_106 (by decide) ?_
          exact ih _ o3 (v4 + 1) _ _ _ S (lv_sub hl [1, 2, 0] rfl) ho3 hf
        · rw [if_pos c_98] at hf
          exact w_X6_read_101 C _ _ _ _ S (lv_sub hl [] rfl) hf
      · rw [if_pos c_69] at hf
        exact w_X6_read_72 C _ o3 _ _ _ S (lv_sub hl [0, 1] rfl) ho3 hf
set_option maxHeartbeats 4000000 in
set_option maxRecDepth 100000 in
theorem w_X6_read_0 {p : Program} {l : Launch} {e : Env} {s : State} {m : MethodId} {args : Array Value} {below : List Frame} {meth : Method} {c : Code} {G : Gx} {ad : Ad} {res : Int32 × Sg} (C : Cx p s m args meth c yX6_read.cls cX6_read 5 (Option.some FieldType.boolean) G)  : ∀ (σ : Sg) (v2 : Int32) (o3 : Nat) (H : Heap) (locs : List Loc) (ls : Array Slot), z_S 0 G ad σ (z_A 0 ad s.heap.size) s.heap H locs → lv_has ls 5 [(0, .ref (ad 6 0)), (1, .ref (ad 10 0)), (2, .int v2), (3, .ref (ad 4 o3))] → (o3 < z_cnt 4) → f_X6_read  σ v2 o3 = some res → W p l e { frames := 7, cells := 0, slots := 0, locals := 164 } s m args below meth c H locs 0 0 (MQ below (va_Qi (S := Unit) (fun r1 _ => r1 = res.1) (fun _ t => z_W 0 G ad res.2 t.heap) (z_A 0 ad s.heap.size)) args s 0 0 (z_A 0 ad s.heap.size)) (F0 m 0 ls []) := by
  intro σ v2 o3 H locs ls S hl ho3 hf
  unfold f_X6_read at hf
  refine lv_aload_n C.1 C.2.1 dX6_read_0 rfl (lv_at hl 0 rfl) ?_
  refine lv_aload_n C.1 C.2.1 dX6_read_1 rfl (lv_at hl 1 rfl) ?_
  obtain ⟨σ1, e_2, hf⟩ := stb hf
  refine z_putT C S rfl tw_2_85 dX6_read_2 (fun H locs S => ?_)
  rw [← e_2] at S
  refine lv_aload_n C.1 C.2.1 dX6_read_5 rfl (lv_at hl 0 rfl) ?_
  refine lv_iconst (v := 0) C.1 C.2.1 dX6_read_6 (by decide) ?_
  refine lv_iload_n C.1 C.2.1 dX6_read_7 rfl (lv_at hl 2 rfl) ?_
  refine lv_aload_n C.1 C.2.1 dX6_read_8 rfl (lv_at hl 1 rfl) ?_
  refine z_alen C S 10 0 rfl (by decide) 700 (fun _ => rfl) (v := 700) rfl dX6_read_9 ?_
  refine z_min C hl.1 tw_2_183 (Nat.le_of_ble_eq_true rfl) (Nat.le_of_ble_eq_true rfl) ⟨Nat.le_of_ble_eq_true rfl, Nat.le_of_ble_eq_true rfl⟩ dX6_read_10 ?_
  refine z_max C hl.1 tw_2_186 (Nat.le_of_ble_eq_true rfl) (Nat.le_of_ble_eq_true rfl) ⟨Nat.le_of_ble_eq_true rfl, Nat.le_of_ble_eq_true rfl⟩ dX6_read_13 ?_
  obtain ⟨σ2, e_16, hf⟩ := stb hf
  refine z_putI C S 6 0 rfl (by decide) cf_6 3 (by decide) (pi_6_3 G ad 0) rfl rfl rfl tw_2_86 dX6_read_16 (fun H locs S => ?_)
  rw [← e_16] at S
  refine lv_aload_n C.1 C.2.1 dX6_read_19 rfl (lv_at hl 0 rfl) ?_
  refine lv_iconst (v := 0) C.1 C.2.1 dX6_read_20 (by decide) ?_
  obtain ⟨σ3, e_21, hf⟩ := stb hf
  refine z_putI C S 6 0 rfl (by decide) cf_6 4 (by decide) (pi_6_4 G ad 0) rfl rfl rfl tw_2_87 dX6_read_21 (fun H locs S => ?_)
  rw [← e_21] at S
  refine lv_aload_n C.1 C.2.1 dX6_read_24 rfl (lv_at hl 0 rfl) ?_
  refine lv_iconst (v := 0) C.1 C.2.1 dX6_read_25 (by decide) ?_
  obtain ⟨σ4, e_26, hf⟩ := stb hf
  refine z_putI C S 6 0 rfl (by decide) cf_6 8 (by decide) (pi_6_8 G ad 0) rfl rfl rfl tw_2_91 dX6_read_26 (fun H locs S => ?_)
  rw [← e_26] at S
  refine lv_aload_n C.1 C.2.1 dX6_read_29 rfl (lv_at hl 0 rfl) ?_
  refine lv_iconst (v := 0) C.1 C.2.1 dX6_read_30 (by decide) ?_
  obtain ⟨σ5, e_31, hf⟩ := stb hf
  refine z_putI C S 6 0 rfl (by decide) cf_6 0 (by decide) (pi_6_0 G ad 0) rfl rfl rfl tw_2_81 dX6_read_31 (fun H locs S => ?_)
  rw [← e_31] at S
  refine lv_aload_n C.1 C.2.1 dX6_read_34 rfl (lv_at hl 0 rfl) ?_
  refine lv_iconst (v := (-1)) C.1 C.2.1 dX6_read_35 (by decide) ?_
  obtain ⟨σ6, e_36, hf⟩ := stb hf
  refine z_putI C S 6 0 rfl (by decide) cf_6 1 (by decide) (pi_6_1 G ad 0) rfl rfl rfl tw_2_83 dX6_read_36 (fun H locs S => ?_)
  rw [← e_36] at S
  refine lv_aload_n C.1 C.2.1 dX6_read_39 rfl (lv_at hl 0 rfl) ?_
  refine lv_aload_n C.1 C.2.1 dX6_read_40 rfl (lv_at hl 3 rfl) ?_
  obtain ⟨r8, σ7, q_41, hf⟩ := bib hf
  refine z_callI C S 6 0 rfl (by decide) cf_6 ⟨_, rfl⟩ [.ref (ad 4 o3)] (m_X6_readFloors l G ad σ6 o3 r8 σ7 ho3 q_41 _) kv_X6_readFloors tw_2_189 ⟨Nat.le_of_ble_eq_true rfl, Nat.le_of_ble_eq_true rfl⟩ rfl rfl (Nat.le_of_ble_eq_true rfl) hl.1 ⟨Nat.le_of_ble_eq_true rfl, Nat.le_of_ble_eq_true rfl⟩ dX6_read_41 (fun H locs S => ?_)
  refine lv_if_ne (tgt := 49) C.1 C.2.1 dX6_read_44 (by decide) (fun c_44 => ?_) (fun c_44 => ?_)
  · rw [if_neg c_44] at hf
    refine lv_iconst (v := 0) C.1 C.2.1 dX6_read_49 (by decide) ?_
    refine lv_istore (lv' := [(4, .int 0), (0, .ref (ad 6 0)), (1, .ref (ad 10 0)), (2, .int v2), (3, .ref (ad 4 o3))]) C.1 C.2.1 dX6_read_50 hl (by decide) rfl (fun ls hl => ?_)
    exact w_X6_read_52 C FU _ o3 0 _ _ _ S (lv_sub hl [1, 4, 0] rfl) ho3 hf
  · rw [if_pos c_44] at hf
    refine lv_iconst (v := 0) C.1 C.2.1 dX6_read_47 (by decide) ?_
    exact z_zret C S rfl hf dX6_read_48
theorem kv_X6_read : KV yX6_read cX6_read 5 (Option.some FieldType.boolean) 3 := ⟨tw_2_182, tw_2_180, tw_2_181, tw_1_18, by decide, by decide, by decide +kernel⟩
theorem m_X6_read (l : Launch) (G : Gx) (ad : Ad) (σ : Sg) (v2 : Int32) (o3 : Nat) (r : Int32) (σ' : Sg) (ho3 : o3 < z_cnt 4) (hf : f_X6_read σ v2 o3 = some (r, σ')) (sz : Nat) : z_MI l yX6_read cX6_read 5 (Option.some FieldType.boolean) 7 164 0 G ad σ sz [.ref (ad 6 0), .ref (ad 10 0), .int v2, .ref (ad 4 o3)] r σ' := by
  refine z_begin (by decide +kernel) (Nat.le_of_ble_eq_true rfl) [(0, .ref (ad 6 0)), (1, .ref (ad 10 0)), (2, .int v2), (3, .ref (ad 4 o3))] rfl (fun p e s m args below meth c ls C hz S hl => ?_)
  subst hz
  exact w_X6_read_0 (res := (r, σ')) C σ v2 o3 _ _ _ S hl ho3 hf

theorem dX7_loadLifts_0 : decode cX7_loadLifts 0 = .ok (.aload_n 0, 1) := by decide +kernel
theorem dX7_loadLifts_1 : decode cX7_loadLifts 1 = .ok (.getfield 53, 3) := by decide +kernel
theorem dX7_loadLifts_4 : decode cX7_loadLifts 4 = .ok (.aload_n 0, 1) := by decide +kernel
theorem dX7_loadLifts_5 : decode cX7_loadLifts 5 = .ok (.getfield 9, 3) := by decide +kernel
theorem dX7_loadLifts_8 : decode cX7_loadLifts 8 = .ok (.aload_n 0, 1) := by decide +kernel
theorem dX7_loadLifts_9 : decode cX7_loadLifts 9 = .ok (.getfield 65, 3) := by decide +kernel
theorem dX7_loadLifts_12 : decode cX7_loadLifts 12 = .ok (.aload_n 0, 1) := by decide +kernel
theorem dX7_loadLifts_13 : decode cX7_loadLifts 13 = .ok (.getfield 30, 3) := by decide +kernel
theorem dX7_loadLifts_16 : decode cX7_loadLifts 16 = .ok (.invokevirtual 71, 3) := by decide +kernel
theorem dX7_loadLifts_19 : decode cX7_loadLifts 19 = .ok (.istore_n 1, 1) := by decide +kernel
theorem dX7_loadLifts_20 : decode cX7_loadLifts 20 = .ok (.aload_n 0, 1) := by decide +kernel
theorem dX7_loadLifts_21 : decode cX7_loadLifts 21 = .ok (.iconst 0, 1) := by decide +kernel
theorem dX7_loadLifts_22 : decode cX7_loadLifts 22 = .ok (.putfield 65, 3) := by decide +kernel
theorem dX7_loadLifts_25 : decode cX7_loadLifts 25 = .ok (.aload_n 0, 1) := by decide +kernel
theorem dX7_loadLifts_26 : decode cX7_loadLifts 26 = .ok (.aload_n 0, 1) := by decide +kernel
theorem dX7_loadLifts_27 : decode cX7_loadLifts 27 = .ok (.getfield 53, 3) := by decide +kernel
theorem dX7_loadLifts_30 : decode cX7_loadLifts 30 = .ok (.getfield 75, 3) := by decide +kernel
theorem dX7_loadLifts_33 : decode cX7_loadLifts 33 = .ok (.putfield 13, 3) := by decide +kernel
theorem dX7_loadLifts_36 : decode cX7_loadLifts 36 = .ok (.aload_n 0, 1) := by decide +kernel
theorem dX7_loadLifts_37 : decode cX7_loadLifts 37 = .ok (.aload_n 0, 1) := by decide +kernel
theorem dX7_loadLifts_38 : decode cX7_loadLifts 38 = .ok (.getfield 53, 3) := by decide +kernel
theorem dX7_loadLifts_41 : decode cX7_loadLifts 41 = .ok (.getfield 76, 3) := by decide +kernel
theorem dX7_loadLifts_44 : decode cX7_loadLifts 44 = .ok (.putfield 17, 3) := by decide +kernel
theorem dX7_loadLifts_47 : decode cX7_loadLifts 47 = .ok (.iload_n 1, 1) := by decide +kernel
theorem dX7_loadLifts_48 : decode cX7_loadLifts 48 = .ok (.ifCond .ne 5, 3) := by decide +kernel
theorem dX7_loadLifts_51 : decode cX7_loadLifts 51 = .ok (.iconst (-1), 1) := by decide +kernel
theorem dX7_loadLifts_52 : decode cX7_loadLifts 52 = .ok (.ireturn, 1) := by decide +kernel
theorem dX7_loadLifts_53 : decode cX7_loadLifts 53 = .ok (.aload_n 0, 1) := by decide +kernel
theorem dX7_loadLifts_54 : decode cX7_loadLifts 54 = .ok (.getfield 26, 3) := by decide +kernel
theorem dX7_loadLifts_57 : decode cX7_loadLifts 57 = .ok (.aload_n 0, 1) := by decide +kernel
theorem dX7_loadLifts_58 : decode cX7_loadLifts 58 = .ok (.getfield 30, 3) := by decide +kernel
theorem dX7_loadLifts_61 : decode cX7_loadLifts 61 = .ok (.invokevirtual 77, 3) := by decide +kernel
theorem dX7_loadLifts_64 : decode cX7_loadLifts 64 = .ok (.aload_n 0, 1) := by decide +kernel
theorem dX7_loadLifts_65 : decode cX7_loadLifts 65 = .ok (.getfield 39, 3) := by decide +kernel
theorem dX7_loadLifts_68 : decode cX7_loadLifts 68 = .ok (.invokevirtual 81, 3) := by decide +kernel
theorem dX7_loadLifts_71 : decode cX7_loadLifts 71 = .ok (.aload_n 0, 1) := by decide +kernel
theorem dX7_loadLifts_72 : decode cX7_loadLifts 72 = .ok (.iconst 0, 1) := by decide +kernel
theorem dX7_loadLifts_73 : decode cX7_loadLifts 73 = .ok (.putfield 83, 3) := by decide +kernel
theorem dX7_loadLifts_76 : decode cX7_loadLifts 76 = .ok (.aload_n 0, 1) := by decide +kernel
theorem dX7_loadLifts_77 : decode cX7_loadLifts 77 = .ok (.getfield 26, 3) := by decide +kernel
theorem dX7_loadLifts_80 : decode cX7_loadLifts 80 = .ok (.getfield 87, 3) := by decide +kernel
theorem dX7_loadLifts_83 : decode cX7_loadLifts 83 = .ok (.ireturn, 1) := by decide +kernel
/-! BusLifts.loadLifts()I -/
noncomputable def f_X7_loadLifts  (σ : Sg)  : Option (Int32 × Sg) := bi (f_X6_read σ (σ 7 0 1) 1) fun r2 σ1 => (st (sup σ1 7 0 1 0) fun σ3 => (st (sup σ3 7 0 2 (σ3 6 0 0)) fun σ4 => (st (sup σ4 7 0 3 (σ4 6 0 1)) fun σ5 => (if r2 = 0 then (some ((-1), σ5)) else (bv (f_X4_copyFrom σ5 0 1) fun σ6 => (bv (f_X3_clear σ6) fun σ7 => (st (sup σ7 7 0 9 0) fun σ8 => (some ((σ8 4 0 1), σ8)))))))))
set_option maxHeartbeats 4000000 in
set_option maxRecDepth 100000 in
theorem w_X7_loadLifts_0 {p : Program} {l : Launch} {e : Env} {s : State} {m : MethodId} {args : Array Value} {below : List Frame} {meth : Method} {c : Code} {G : Gx} {ad : Ad} {res : Int32 × Sg} (C : Cx p s m args meth c yX7_loadLifts.cls cX7_loadLifts 2 (Option.some FieldType.int) G)  : ∀ (σ : Sg)  (H : Heap) (locs : List Loc) (ls : Array Slot), z_S 0 G ad σ (z_A 0 ad s.heap.size) s.heap H locs → lv_has ls 2 [(0, .ref (ad 7 0))] → f_X7_loadLifts  σ  = some res → W p l e { frames := 8, cells := 0, slots := 0, locals := 188 } s m args below meth c H locs 0 0 (MQ below (va_Qi (S := Unit) (fun r1 _ => r1 = res.1) (fun _ t => z_W 0 G ad res.2 t.heap) (z_A 0 ad s.heap.size)) args s 0 0 (z_A 0 ad s.heap.size)) (F0 m 0 ls []) := by
  intro σ  H locs ls S hl  hf
  unfold f_X7_loadLifts at hf
  refine lv_aload_n C.1 C.2.1 dX7_loadLifts_0 rfl (lv_at hl 0 rfl) ?_
  refine z_getR C S 7 0 rfl (by decide) cf_7 12 (by decide) _ (gr_7_12 G ad 0) tw_2_147 dX7_loadLifts_1 ?_
  refine lv_aload_n C.1 C.2.1 dX7_loadLifts_4 rfl (lv_at hl 0 rfl) ?_
  refine z_getR C S 7 0 rfl (by decide) cf_7 0 (by decide) _ (gr_7_0 G ad 0) tw_2_136 dX7_loadLifts_5 ?_
  refine lv_aload_n C.1 C.2.1 dX7_loadLifts_8 rfl (lv_at hl 0 rfl) ?_
  refine z_getI C S 7 0 rfl (by decide) cf_7 1 (by decide) (gi_7_1 G ad 0) tw_2_137 dX7_loadLifts_9 ?_
  refine lv_aload_n C.1 C.2.1 dX7_loadLifts_12 rfl (lv_at hl 0 rfl) ?_
  refine z_getR C S 7 0 rfl (by decide) cf_7 7 (by decide) _ (gr_7_7 G ad 0) tw_2_142 dX7_loadLifts_13 ?_
  obtain ⟨r2, σ1, q_16, hf⟩ := bib hf
  refine z_callI C S 6 0 rfl (by decide) cf_6 ⟨_, rfl⟩ [.ref (ad 10 0), .int (σ 7 0 1), .ref (ad 4 1)] (m_X6_read l G ad σ (σ 7 0 1) 1 r2 σ1 (by decide) q_16 _) kv_X6_read tw_2_179 ⟨Nat.le_of_ble_eq_true rfl, Nat.le_of_ble_eq_true rfl⟩ rfl rfl (Nat.le_of_ble_eq_true rfl) hl.1 ⟨Nat.le_of_ble_eq_true rfl, Nat.le_of_ble_eq_true rfl⟩ dX7_loadLifts_16 (fun H locs S => ?_)
  refine lv_istore_n (lv' := [(1, .int r2), (0, .ref (ad 7 0))]) C.1 C.2.1 dX7_loadLifts_19 rfl hl (by decide) rfl (fun ls hl => ?_)
  refine lv_aload_n C.1 C.2.1 dX7_loadLifts_20 rfl (lv_at hl 1 rfl) ?_
  refine lv_iconst (v := 0) C.1 C.2.1 dX7_loadLifts_21 (by decide) ?_
  obtain ⟨σ3, e_22, hf⟩ := stb hf
  refine z_putI C S 7 0 rfl (by decide) cf_7 1 (by decide) (pi_7_1 G ad 0) rfl rfl rfl tw_2_137 dX7_loadLifts_22 (fun H locs S => ?_)
  rw [← e_22] at S
  refine lv_aload_n C.1 C.2.1 dX7_loadLifts_25 rfl (lv_at hl 1 rfl) ?_
  refine lv_aload_n C.1 C.2.1 dX7_loadLifts_26 rfl (lv_at hl 1 rfl) ?_
  refine z_getR C S 7 0 rfl (by decide) cf_7 12 (by decide) _ (gr_7_12 G ad 0) tw_2_147 dX7_loadLifts_27 ?_
  refine z_getI C S 6 0 rfl (by decide) cf_6 0 (by decide) (gi_6_0 G ad 0) tw_2_82 dX7_loadLifts_30 ?_
  obtain ⟨σ4, e_33, hf⟩ := stb hf
  refine z_putI C S 7 0 rfl (by decide) cf_7 2 (by decide) (pi_7_2 G ad 0) rfl rfl rfl tw_2_138 dX7_loadLifts_33 (fun H locs S => ?_)
  rw [← e_33] at S
  refine lv_aload_n C.1 C.2.1 dX7_loadLifts_36 rfl (lv_at hl 1 rfl) ?_
  refine lv_aload_n C.1 C.2.1 dX7_loadLifts_37 rfl (lv_at hl 1 rfl) ?_
  refine z_getR C S 7 0 rfl (by decide) cf_7 12 (by decide) _ (gr_7_12 G ad 0) tw_2_147 dX7_loadLifts_38 ?_
  refine z_getI C S 6 0 rfl (by decide) cf_6 1 (by decide) (gi_6_1 G ad 0) tw_2_84 dX7_loadLifts_41 ?_
  obtain ⟨σ5, e_44, hf⟩ := stb hf
  refine z_putI C S 7 0 rfl (by decide) cf_7 3 (by decide) (pi_7_3 G ad 0) rfl rfl rfl tw_2_139 dX7_loadLifts_44 (fun H locs S => ?_)
  rw [← e_44] at S
  refine lv_iload_n C.1 C.2.1 dX7_loadLifts_47 rfl (lv_at hl 0 rfl) ?_
  refine lv_if_ne (tgt := 53) C.1 C.2.1 dX7_loadLifts_48 (by decide) (fun c_48 => ?_) (fun c_48 => ?_)
  · rw [if_neg c_48] at hf
    refine lv_aload_n C.1 C.2.1 dX7_loadLifts_53 rfl (lv_at hl 1 rfl) ?_
    refine z_getR C S 7 0 rfl (by decide) cf_7 6 (by decide) _ (gr_7_6 G ad 0) tw_2_141 dX7_loadLifts_54 ?_
    refine lv_aload_n C.1 C.2.1 dX7_loadLifts_57 rfl (lv_at hl 1 rfl) ?_
    refine z_getR C S 7 0 rfl (by decide) cf_7 7 (by decide) _ (gr_7_7 G ad 0) tw_2_142 dX7_loadLifts_58 ?_
    obtain ⟨σ6, q_61, hf⟩ := bvb hf
    refine z_callV C S 4 0 rfl (by decide) cf_4 ⟨_, rfl⟩ [.ref (ad 4 1)] (m_X4_copyFrom l G ad σ5 0 1 σ6 (by decide) (by decide) q_61 _) kv_X4_copyFrom tw_3_81 ⟨Nat.le_of_ble_eq_true rfl, Nat.le_of_ble_eq_true rfl⟩ rfl rfl (Nat.le_of_ble_eq_true rfl) hl.1 ⟨Nat.le_of_ble_eq_true rfl, Nat.le_of_ble_eq_true rfl⟩ dX7_loadLifts_61 (fun H locs S => ?_)
    refine lv_aload_n C.1 C.2.1 dX7_loadLifts_64 rfl (lv_at hl 1 rfl) ?_
    refine z_getR C S 7 0 rfl (by decide) cf_7 10 (by decide) _ (gr_7_10 G ad 0) tw_2_145 dX7_loadLifts_65 ?_
    obtain ⟨σ7, q_68, hf⟩ := bvb hf
    refine z_callV C S 3 0 rfl (by decide) cf_3 ⟨_, rfl⟩ [] (m_X3_clear l G ad σ6 σ7 q_68 _) kv_X3_clear tw_3_99 ⟨Nat.le_of_ble_eq_true rfl, Nat.le_of_ble_eq_true rfl⟩ rfl rfl (Nat.le_of_ble_eq_true rfl) hl.1 ⟨Nat.le_of_ble_eq_true rfl, Nat.le_of_ble_eq_true rfl⟩ dX7_loadLifts_68 (fun H locs S => ?_)
    refine lv_aload_n C.1 C.2.1 dX7_loadLifts_71 rfl (lv_at hl 1 rfl) ?_
    refine lv_iconst (v := 0) C.1 C.2.1 dX7_loadLifts_72 (by decide) ?_
    obtain ⟨σ8, e_73, hf⟩ := stb hf
    refine z_putI C S 7 0 rfl (by decide) cf_7 9 (by decide) (pi_7_9 G ad 0) rfl rfl rfl tw_2_144 dX7_loadLifts_73 (fun H locs S => ?_)
    rw [← e_73] at S
    refine lv_aload_n C.1 C.2.1 dX7_loadLifts_76 rfl (lv_at hl 1 rfl) ?_
    refine z_getR C S 7 0 rfl (by decide) cf_7 6 (by decide) _ (gr_7_6 G ad 0) tw_2_141 dX7_loadLifts_77 ?_
    refine z_getI C S 4 0 rfl (by decide) cf_4 1 (by decide) (gi_4_1 G ad 0) tw_1_226 dX7_loadLifts_80 ?_
    exact z_iret C S hf dX7_loadLifts_83
  · rw [if_pos c_48] at hf
    refine lv_iconst (v := (-1)) C.1 C.2.1 dX7_loadLifts_51 (by decide) ?_
    exact z_iret C S hf dX7_loadLifts_52
theorem kv_X7_loadLifts : KV yX7_loadLifts cX7_loadLifts 2 (Option.some FieldType.int) 0 := ⟨tw_2_178, tw_2_176, tw_2_177, tw_1_11, by decide, by decide, by decide +kernel⟩
theorem m_X7_loadLifts (l : Launch) (G : Gx) (ad : Ad) (σ : Sg)  (r : Int32) (σ' : Sg)  (hf : f_X7_loadLifts σ  = some (r, σ')) (sz : Nat) : z_MI l yX7_loadLifts cX7_loadLifts 2 (Option.some FieldType.int) 8 188 0 G ad σ sz [.ref (ad 7 0)] r σ' := by
  refine z_begin (by decide +kernel) (Nat.le_of_ble_eq_true rfl) [(0, .ref (ad 7 0))] rfl (fun p e s m args below meth c ls C hz S hl => ?_)
  subst hz
  exact w_X7_loadLifts_0 (res := (r, σ')) C σ  _ _ _ S hl  hf

theorem dX7_appendFour_0 : decode cX7_appendFour 0 = .ok (.bipush 24, 2) := by decide +kernel
theorem dX7_appendFour_2 : decode cX7_appendFour 2 = .ok (.istore_n 2, 1) := by decide +kernel
theorem dX7_appendFour_3 : decode cX7_appendFour 3 = .ok (.iload_n 2, 1) := by decide +kernel
theorem dX7_appendFour_4 : decode cX7_appendFour 4 = .ok (.ifCond .lt 47, 3) := by decide +kernel
theorem dX7_appendFour_7 : decode cX7_appendFour 7 = .ok (.aload_n 0, 1) := by decide +kernel
theorem dX7_appendFour_8 : decode cX7_appendFour 8 = .ok (.getfield 65, 3) := by decide +kernel
theorem dX7_appendFour_11 : decode cX7_appendFour 11 = .ok (.aload_n 0, 1) := by decide +kernel
theorem dX7_appendFour_12 : decode cX7_appendFour 12 = .ok (.getfield 9, 3) := by decide +kernel
theorem dX7_appendFour_15 : decode cX7_appendFour 15 = .ok (.arraylength, 1) := by decide +kernel
theorem dX7_appendFour_16 : decode cX7_appendFour 16 = .ok (.if_icmp .ge 35, 3) := by decide +kernel
theorem dX7_appendFour_19 : decode cX7_appendFour 19 = .ok (.aload_n 0, 1) := by decide +kernel
theorem dX7_appendFour_20 : decode cX7_appendFour 20 = .ok (.getfield 9, 3) := by decide +kernel
theorem dX7_appendFour_23 : decode cX7_appendFour 23 = .ok (.aload_n 0, 1) := by decide +kernel
theorem dX7_appendFour_24 : decode cX7_appendFour 24 = .ok (.getfield 65, 3) := by decide +kernel
theorem dX7_appendFour_27 : decode cX7_appendFour 27 = .ok (.iload_n 1, 1) := by decide +kernel
theorem dX7_appendFour_28 : decode cX7_appendFour 28 = .ok (.iload_n 2, 1) := by decide +kernel
theorem dX7_appendFour_29 : decode cX7_appendFour 29 = .ok (.iushr, 1) := by decide +kernel
theorem dX7_appendFour_30 : decode cX7_appendFour 30 = .ok (.sipush 255, 3) := by decide +kernel
theorem dX7_appendFour_33 : decode cX7_appendFour 33 = .ok (.iand, 1) := by decide +kernel
theorem dX7_appendFour_34 : decode cX7_appendFour 34 = .ok (.iastore, 1) := by decide +kernel
theorem dX7_appendFour_35 : decode cX7_appendFour 35 = .ok (.aload_n 0, 1) := by decide +kernel
theorem dX7_appendFour_36 : decode cX7_appendFour 36 = .ok (.dup, 1) := by decide +kernel
theorem dX7_appendFour_37 : decode cX7_appendFour 37 = .ok (.getfield 65, 3) := by decide +kernel
theorem dX7_appendFour_40 : decode cX7_appendFour 40 = .ok (.iconst 1, 1) := by decide +kernel
theorem dX7_appendFour_41 : decode cX7_appendFour 41 = .ok (.iadd, 1) := by decide +kernel
theorem dX7_appendFour_42 : decode cX7_appendFour 42 = .ok (.putfield 65, 3) := by decide +kernel
theorem dX7_appendFour_45 : decode cX7_appendFour 45 = .ok (.iinc 2 (-8), 3) := by decide +kernel
theorem dX7_appendFour_48 : decode cX7_appendFour 48 = .ok (.goto (-45), 3) := by decide +kernel
theorem dX7_appendFour_51 : decode cX7_appendFour 51 = .ok (.return_, 1) := by decide +kernel
/-! BusLifts.appendFour(I)V -/
noncomputable def f_X7_appendFour_51  (σ : Sg)  : Option Sg := some σ
noncomputable def f_X7_appendFour_3  : Nat → Sg → Int32 → Int32 → Option Sg
  | 0, _, _, _ => none
  | n + 1, σ, v1, v2 => if v2 < 0 then (f_X7_appendFour_51 σ) else (if 700 ≤ (σ 7 0 1) then (f_X7_appendFour_51 σ) else (if (σ 7 0 1) < 0 ∨ 700 ≤ ((σ 7 0 1)).toNatClampNeg then none else (st (sup σ 10 0 ((σ 7 0 1)).toNatClampNeg ((jush v1 v2) &&& 255)) fun σ1 => (st (sup σ1 7 0 1 ((σ1 7 0 1) + 1)) fun σ2 => (f_X7_appendFour_3  n σ2 v1 (v2 + (-8)))))))
theorem f_X7_appendFour_3_s  (n : Nat) (σ : Sg) (v1 : Int32) (v2 : Int32) : f_X7_appendFour_3  (n + 1) σ v1 v2 = (if v2 < 0 then (f_X7_appendFour_51 σ) else (if 700 ≤ (σ 7 0 1) then (f_X7_appendFour_51 σ) else (if (σ 7 0 1) < 0 ∨ 700 ≤ ((σ 7 0 1)).toNatClampNeg then none else (st (sup σ 10 0 ((σ 7 0 1)).toNatClampNeg ((jush v1 v2) &&& 255)) fun σ1 => (st (sup σ1 7 0 1 ((σ1 7 0 1) + 1)) fun σ2 => (f_X7_appendFour_3  n σ2 v1 (v2 + (-8)))))))) := rfl
noncomputable def f_X7_appendFour  (σ : Sg) (v1 : Int32) : Option Sg := f_X7_appendFour_3 FU σ v1 24
set_option maxHeartbeats 4000000 in
set_option maxRecDepth 100000 in
theorem w_X7_appendFour_51 {p : Program} {l : Launch} {e : Env} {s : State} {m : MethodId} {args : Array Value} {below : List Frame} {meth : Method} {c : Code} {G : Gx} {ad : Ad} {res : Sg} (C : Cx p s m args meth c yX7_appendFour.cls cX7_appendFour 3 none G)  : ∀ (σ : Sg)  (H : Heap) (locs : List Loc) (ls : Array Slot), z_S 0 G ad σ (z_A 0 ad s.heap.size) s.heap H locs → lv_has ls 3 [] → f_X7_appendFour_51  σ  = some res → W p l e { frames := 0, cells := 0, slots := 0, locals := 0 } s m args below meth c H locs 0 0 (MQ below (va_Qv (S := Unit) (fun _ => True) (fun _ t => z_W 0 G ad res t.heap) (z_A 0 ad s.heap.size)) args s 0 0 (z_A 0 ad s.heap.size)) (F0 m 51 ls []) := by
  intro σ  H locs ls S hl  hf
  unfold f_X7_appendFour_51 at hf
  exact z_vret C S hf dX7_appendFour_51
set_option maxHeartbeats 4000000 in
set_option maxRecDepth 100000 in
theorem w_X7_appendFour_3 {p : Program} {l : Launch} {e : Env} {s : State} {m : MethodId} {args : Array Value} {below : List Frame} {meth : Method} {c : Code} {G : Gx} {ad : Ad} {res : Sg} (C : Cx p s m args meth c yX7_appendFour.cls cX7_appendFour 3 none G)  : ∀ n : Nat, ∀ (σ : Sg) (v1 : Int32) (v2 : Int32) (H : Heap) (locs : List Loc) (ls : Array Slot), z_S 0 G ad σ (z_A 0 ad s.heap.size) s.heap H locs → lv_has ls 3 [(0, .ref (ad 7 0)), (1, .int v1), (2, .int v2)] → f_X7_appendFour_3  n σ v1 v2 = some res → W p l e { frames := 0, cells := 0, slots := 0, locals := 0 } s m args below meth c H locs 0 0 (MQ below (va_Qv (S := Unit) (fun _ => True) (fun _ t => z_W 0 G ad res t.heap) (z_A 0 ad s.heap.size)) args s 0 0 (z_A 0 ad s.heap.size)) (F0 m 3 ls []) := by
  intro n
  induction n with
  | zero => intro σ v1 v2 H locs ls S hl  hf; cases hf
  | succ n ih =>
    intro σ v1 v2 H locs ls S hl  hf
    rw [f_X7_appendFour_3_s] at hf
    refine lv_iload_n C.1 C.2.1 dX7_appendFour_3 rfl (lv_at hl 2 rfl) ?_
    refine lv_if_lt (tgt := 51) C.1 C.2.1 dX7_appendFour_4 (by decide) (fun c_4 => ?_) (fun c_4 => ?_)
    · rw [if_pos c_4] at hf
      exact w_X7_appendFour_51 C _ _ _ _ S (lv_sub hl [] rfl) hf
    · rw [if_neg c_4] at hf
      refine lv_aload_n C.1 C.2.1 dX7_appendFour_7 rfl (lv_at hl 0 rfl) ?_
      refine z_getI C S 7 0 rfl (by decide) cf_7 1 (by decide) (gi_7_1 G ad 0) tw_2_137 dX7_appendFour_8 ?_
      refine lv_aload_n C.1 C.2.1 dX7_appendFour_11 rfl (lv_at hl 0 rfl) ?_
      refine z_getR C S 7 0 rfl (by decide) cf_7 0 (by decide) _ (gr_7_0 G ad 0) tw_2_136 dX7_appendFour_12 ?_
      refine z_alen C S 10 0 rfl (by decide) 700 (fun _ => rfl) (v := 700) rfl dX7_appendFour_15 ?_
      refine lv_icmp_ge (tgt := 51) C.1 C.2.1 dX7_appendFour_16 (by decide) (fun c_16 => ?_) (fun c_16 => ?_)
      · rw [if_pos c_16] at hf
        exact w_X7_appendFour_51 C _ _ _ _ S (lv_sub hl [] rfl) hf
      · rw [if_neg c_16] at hf
        refine lv_aload_n C.1 C.2.1 dX7_appendFour_19 rfl (lv_at hl 0 rfl) ?_
        refine z_getR C S 7 0 rfl (by decide) cf_7 0 (by decide) _ (gr_7_0 G ad 0) tw_2_136 dX7_appendFour_20 ?_
        refine lv_aload_n C.1 C.2.1 dX7_appendFour_23 rfl (lv_at hl 0 rfl) ?_
        refine z_getI C S 7 0 rfl (by decide) cf_7 1 (by decide) (gi_7_1 G ad 0) tw_2_137 dX7_appendFour_24 ?_
        refine lv_iload_n C.1 C.2.1 dX7_appendFour_27 rfl (lv_at hl 1 rfl) ?_
        refine lv_iload_n C.1 C.2.1 dX7_appendFour_28 rfl (lv_at hl 2 rfl) ?_
        refine lv_iushr (v := (jush v1 v2)) C.1 C.2.1 dX7_appendFour_29 rfl ?_
        refine lv_sipush (v := 255) C.1 C.2.1 dX7_appendFour_30 (by decide) ?_
        refine lv_iand C.1 C.2.1 dX7_appendFour_33 ?_
        obtain ⟨g_34, hf⟩ := gd hf
        obtain ⟨σ1, e_34, hf⟩ := stb hf
        refine z_iast C S 10 0 rfl (by decide) 700 (fun _ => rfl) g_34 dX7_appendFour_34 (fun H locs S => ?_)
        rw [← e_34] at S
        refine lv_aload_n C.1 C.2.1 dX7_appendFour_35 rfl (lv_at hl 0 rfl) ?_
        refine lv_dup C.1 C.2.1 dX7_appendFour_36 rfl ?_
        refine z_getI C S 7 0 rfl (by decide) cf_7 1 (by decide) (gi_7_1 G ad 0) tw_2_137 dX7_appendFour_37 ?_
        refine lv_iconst (v := 1) C.1 C.2.1 dX7_appendFour_40 (by decide) ?_
        refine lv_iadd C.1 C.2.1 dX7_appendFour_41 ?_
        obtain ⟨σ2, e_42, hf⟩ := stb hf
        refine z_putI C S 7 0 rfl (by decide) cf_7 1 (by decide) (pi_7_1 G ad 0) rfl rfl rfl tw_2_137 dX7_appendFour_42 (fun H locs S => ?_)
        rw [← e_42] at S
        refine lv_iinc (v := (v2 + (-8))) (lv' := [(2, .int (v2 + (-8))), (0, .ref (ad 7 0)), (1, .int v1)]) C.1 C.2.1 dX7_appendFour_45 hl (k := 2) rfl rfl (by decide) rfl (fun ls hl => ?_)
        refine lv_goto (tgt := 3) C.1 C.2.1 dX7_appendFour_48 (by decide) ?_
        exact ih _ v1 (v2 + (-8)) _ _ _ S (lv_sub hl [1, 2, 0] rfl)  hf
set_option maxHeartbeats 4000000 in
set_option maxRecDepth 100000 in
theorem w_X7_appendFour_0 {p : Program} {l : Launch} {e : Env} {s : State} {m : MethodId} {args : Array Value} {below : List Frame} {meth : Method} {c : Code} {G : Gx} {ad : Ad} {res : Sg} (C : Cx p s m args meth c yX7_appendFour.cls cX7_appendFour 3 none G)  : ∀ (σ : Sg) (v1 : Int32) (H : Heap) (locs : List Loc) (ls : Array Slot), z_S 0 G ad σ (z_A 0 ad s.heap.size) s.heap H locs → lv_has ls 3 [(0, .ref (ad 7 0)), (1, .int v1)] → f_X7_appendFour  σ v1 = some res → W p l e { frames := 0, cells := 0, slots := 0, locals := 0 } s m args below meth c H locs 0 0 (MQ below (va_Qv (S := Unit) (fun _ => True) (fun _ t => z_W 0 G ad res t.heap) (z_A 0 ad s.heap.size)) args s 0 0 (z_A 0 ad s.heap.size)) (F0 m 0 ls []) := by
  intro σ v1 H locs ls S hl  hf
  unfold f_X7_appendFour at hf
  refine lv_bipush (v := 24) C.1 C.2.1 dX7_appendFour_0 (by decide) ?_
  refine lv_istore_n (lv' := [(2, .int 24), (0, .ref (ad 7 0)), (1, .int v1)]) C.1 C.2.1 dX7_appendFour_2 rfl hl (by decide) rfl (fun ls hl => ?_)
  exact w_X7_appendFour_3 C FU _ v1 24 _ _ _ S (lv_sub hl [1, 2, 0] rfl) hf
theorem kv_X7_appendFour : KV yX7_appendFour cX7_appendFour 3 none 1 := ⟨tw_3_119, tw_3_118, tw_p_13, tw_1_11, by decide, by decide, by decide +kernel⟩
theorem m_X7_appendFour (l : Launch) (G : Gx) (ad : Ad) (σ : Sg) (v1 : Int32) (σ' : Sg)  (hf : f_X7_appendFour σ v1 = some σ') (sz : Nat) : z_MV l yX7_appendFour cX7_appendFour 3 none 0 0 0 G ad σ sz [.ref (ad 7 0), .int v1] σ' := by
  refine z_begin (by decide +kernel) (Nat.le_of_ble_eq_true rfl) [(0, .ref (ad 7 0)), (1, .int v1)] rfl (fun p e s m args below meth c ls C hz S hl => ?_)
  subst hz
  exact w_X7_appendFour_0 (res := σ') C σ v1 _ _ _ S hl  hf

theorem dX7_appendInput_0 : decode cX7_appendInput 0 = .ok (.aload_n 0, 1) := by decide +kernel
theorem dX7_appendInput_1 : decode cX7_appendInput 1 = .ok (.getfield 65, 3) := by decide +kernel
theorem dX7_appendInput_4 : decode cX7_appendInput 4 = .ok (.sipush 680, 3) := by decide +kernel
theorem dX7_appendInput_7 : decode cX7_appendInput 7 = .ok (.if_icmp .le 5, 3) := by decide +kernel
theorem dX7_appendInput_10 : decode cX7_appendInput 10 = .ok (.iconst (-1), 1) := by decide +kernel
theorem dX7_appendInput_11 : decode cX7_appendInput 11 = .ok (.ireturn, 1) := by decide +kernel
theorem dX7_appendInput_12 : decode cX7_appendInput 12 = .ok (.aload_n 0, 1) := by decide +kernel
theorem dX7_appendInput_13 : decode cX7_appendInput 13 = .ok (.iload_n 1, 1) := by decide +kernel
theorem dX7_appendInput_14 : decode cX7_appendInput 14 = .ok (.invokevirtual 68, 3) := by decide +kernel
theorem dX7_appendInput_17 : decode cX7_appendInput 17 = .ok (.aload_n 0, 1) := by decide +kernel
theorem dX7_appendInput_18 : decode cX7_appendInput 18 = .ok (.iload_n 2, 1) := by decide +kernel
theorem dX7_appendInput_19 : decode cX7_appendInput 19 = .ok (.invokevirtual 68, 3) := by decide +kernel
theorem dX7_appendInput_22 : decode cX7_appendInput 22 = .ok (.aload_n 0, 1) := by decide +kernel
theorem dX7_appendInput_23 : decode cX7_appendInput 23 = .ok (.iload_n 3, 1) := by decide +kernel
theorem dX7_appendInput_24 : decode cX7_appendInput 24 = .ok (.invokevirtual 68, 3) := by decide +kernel
theorem dX7_appendInput_27 : decode cX7_appendInput 27 = .ok (.aload_n 0, 1) := by decide +kernel
theorem dX7_appendInput_28 : decode cX7_appendInput 28 = .ok (.iload 4, 2) := by decide +kernel
theorem dX7_appendInput_30 : decode cX7_appendInput 30 = .ok (.invokevirtual 68, 3) := by decide +kernel
theorem dX7_appendInput_33 : decode cX7_appendInput 33 = .ok (.aload_n 0, 1) := by decide +kernel
theorem dX7_appendInput_34 : decode cX7_appendInput 34 = .ok (.iload 5, 2) := by decide +kernel
theorem dX7_appendInput_36 : decode cX7_appendInput 36 = .ok (.invokevirtual 68, 3) := by decide +kernel
theorem dX7_appendInput_39 : decode cX7_appendInput 39 = .ok (.aload_n 0, 1) := by decide +kernel
theorem dX7_appendInput_40 : decode cX7_appendInput 40 = .ok (.getfield 65, 3) := by decide +kernel
theorem dX7_appendInput_43 : decode cX7_appendInput 43 = .ok (.ireturn, 1) := by decide +kernel
/-! BusLifts.appendInput(IIIII)I -/
noncomputable def f_X7_appendInput  (σ : Sg) (v1 : Int32) (v2 : Int32) (v3 : Int32) (v4 : Int32) (v5 : Int32) : Option (Int32 × Sg) := if (σ 7 0 1) ≤ 680 then (bv (f_X7_appendFour σ v1) fun σ1 => (bv (f_X7_appendFour σ1 v2) fun σ2 => (bv (f_X7_appendFour σ2 v3) fun σ3 => (bv (f_X7_appendFour σ3 v4) fun σ4 => (bv (f_X7_appendFour σ4 v5) fun σ5 => (some ((σ5 7 0 1), σ5))))))) else (some ((-1), σ))
set_option maxHeartbeats 4000000 in
set_option maxRecDepth 100000 in
theorem w_X7_appendInput_0 {p : Program} {l : Launch} {e : Env} {s : State} {m : MethodId} {args : Array Value} {below : List Frame} {meth : Method} {c : Code} {G : Gx} {ad : Ad} {res : Int32 × Sg} (C : Cx p s m args meth c yX7_appendInput.cls cX7_appendInput 6 (Option.some FieldType.int) G)  : ∀ (σ : Sg) (v1 : Int32) (v2 : Int32) (v3 : Int32) (v4 : Int32) (v5 : Int32) (H : Heap) (locs : List Loc) (ls : Array Slot), z_S 0 G ad σ (z_A 0 ad s.heap.size) s.heap H locs → lv_has ls 6 [(0, .ref (ad 7 0)), (1, .int v1), (2, .int v2), (3, .int v3), (4, .int v4), (5, .int v5)] → f_X7_appendInput  σ v1 v2 v3 v4 v5 = some res → W p l e { frames := 1, cells := 0, slots := 0, locals := 22 } s m args below meth c H locs 0 0 (MQ below (va_Qi (S := Unit) (fun r1 _ => r1 = res.1) (fun _ t => z_W 0 G ad res.2 t.heap) (z_A 0 ad s.heap.size)) args s 0 0 (z_A 0 ad s.heap.size)) (F0 m 0 ls []) := by
  intro σ v1 v2 v3 v4 v5 H locs ls S hl  hf
  unfold f_X7_appendInput at hf
  refine lv_aload_n C.1 C.2.1 dX7_appendInput_0 rfl (lv_at hl 0 rfl) ?_
  refine z_getI C S 7 0 rfl (by decide) cf_7 1 (by decide) (gi_7_1 G ad 0) tw_2_137 dX7_appendInput_1 ?_
  refine lv_sipush (v := 680) C.1 C.2.1 dX7_appendInput_4 (by decide) ?_
  refine lv_icmp_le (tgt := 12) C.1 C.2.1 dX7_appendInput_7 (by decide) (fun c_7 => ?_) (fun c_7 => ?_)
  · rw [if_pos c_7] at hf
    refine lv_aload_n C.1 C.2.1 dX7_appendInput_12 rfl (lv_at hl 0 rfl) ?_
    refine lv_iload_n C.1 C.2.1 dX7_appendInput_13 rfl (lv_at hl 1 rfl) ?_
    obtain ⟨σ1, q_14, hf⟩ := bvb hf
    refine z_callV C S 7 0 rfl (by decide) cf_7 ⟨_, rfl⟩ [.int v1] (m_X7_appendFour l G ad σ v1 σ1 q_14 _) kv_X7_appendFour tw_3_116 ⟨Nat.le_of_ble_eq_true rfl, Nat.le_of_ble_eq_true rfl⟩ rfl rfl (Nat.le_of_ble_eq_true rfl) hl.1 ⟨Nat.le_of_ble_eq_true rfl, Nat.le_of_ble_eq_true rfl⟩ dX7_appendInput_14 (fun H locs S => ?_)
    refine lv_aload_n C.1 C.2.1 dX7_appendInput_17 rfl (lv_at hl 0 rfl) ?_
    refine lv_iload_n C.1 C.2.1 dX7_appendInput_18 rfl (lv_at hl 2 rfl) ?_
    obtain ⟨σ2, q_19, hf⟩ := bvb hf
    refine z_callV C S 7 0 rfl (by decide) cf_7 ⟨_, rfl⟩ [.int v2] (m_X7_appendFour l G ad σ1 v2 σ2 q_19 _) kv_X7_appendFour tw_3_116 ⟨Nat.le_of_ble_eq_true rfl, Nat.le_of_ble_eq_true rfl⟩ rfl rfl (Nat.le_of_ble_eq_true rfl) hl.1 ⟨Nat.le_of_ble_eq_true rfl, Nat.le_of_ble_eq_true rfl⟩ dX7_appendInput_19 (fun H locs S => ?_)
    refine lv_aload_n C.1 C.2.1 dX7_appendInput_22 rfl (lv_at hl 0 rfl) ?_
    refine lv_iload_n C.1 C.2.1 dX7_appendInput_23 rfl (lv_at hl 3 rfl) ?_
    obtain ⟨σ3, q_24, hf⟩ := bvb hf
    refine z_callV C S 7 0 rfl (by decide) cf_7 ⟨_, rfl⟩ [.int v3] (m_X7_appendFour l G ad σ2 v3 σ3 q_24 _) kv_X7_appendFour tw_3_116 ⟨Nat.le_of_ble_eq_true rfl, Nat.le_of_ble_eq_true rfl⟩ rfl rfl (Nat.le_of_ble_eq_true rfl) hl.1 ⟨Nat.le_of_ble_eq_true rfl, Nat.le_of_ble_eq_true rfl⟩ dX7_appendInput_24 (fun H locs S => ?_)
    refine lv_aload_n C.1 C.2.1 dX7_appendInput_27 rfl (lv_at hl 0 rfl) ?_
    refine lv_iload C.1 C.2.1 dX7_appendInput_28 (lv_at hl 4 rfl) ?_
    obtain ⟨σ4, q_30, hf⟩ := bvb hf
    refine z_callV C S 7 0 rfl (by decide) cf_7 ⟨_, rfl⟩ [.int v4] (m_X7_appendFour l G ad σ3 v4 σ4 q_30 _) kv_X7_appendFour tw_3_116 ⟨Nat.le_of_ble_eq_true rfl, Nat.le_of_ble_eq_true rfl⟩ rfl rfl (Nat.le_of_ble_eq_true rfl) hl.1 ⟨Nat.le_of_ble_eq_true rfl, Nat.le_of_ble_eq_true rfl⟩ dX7_appendInput_30 (fun H locs S => ?_)
    refine lv_aload_n C.1 C.2.1 dX7_appendInput_33 rfl (lv_at hl 0 rfl) ?_
    refine lv_iload C.1 C.2.1 dX7_appendInput_34 (lv_at hl 5 rfl) ?_
    obtain ⟨σ5, q_36, hf⟩ := bvb hf
    refine z_callV C S 7 0 rfl (by decide) cf_7 ⟨_, rfl⟩ [.int v5] (m_X7_appendFour l G ad σ4 v5 σ5 q_36 _) kv_X7_appendFour tw_3_116 ⟨Nat.le_of_ble_eq_true rfl, Nat.le_of_ble_eq_true rfl⟩ rfl rfl (Nat.le_of_ble_eq_true rfl) hl.1 ⟨Nat.le_of_ble_eq_true rfl, Nat.le_of_ble_eq_true rfl⟩ dX7_appendInput_36 (fun H locs S => ?_)
    refine lv_aload_n C.1 C.2.1 dX7_appendInput_39 rfl (lv_at hl 0 rfl) ?_
    refine z_getI C S 7 0 rfl (by decide) cf_7 1 (by decide) (gi_7_1 G ad 0) tw_2_137 dX7_appendInput_40 ?_
    exact z_iret C S hf dX7_appendInput_43
  · rw [if_neg c_7] at hf
    refine lv_iconst (v := (-1)) C.1 C.2.1 dX7_appendInput_10 (by decide) ?_
    exact z_iret C S hf dX7_appendInput_11
theorem kv_X7_appendInput : KV yX7_appendInput cX7_appendInput 6 (Option.some FieldType.int) 5 := ⟨tw_3_115, tw_3_113, tw_3_114, tw_1_11, by decide, by decide, by decide +kernel⟩
theorem m_X7_appendInput (l : Launch) (G : Gx) (ad : Ad) (σ : Sg) (v1 : Int32) (v2 : Int32) (v3 : Int32) (v4 : Int32) (v5 : Int32) (r : Int32) (σ' : Sg)  (hf : f_X7_appendInput σ v1 v2 v3 v4 v5 = some (r, σ')) (sz : Nat) : z_MI l yX7_appendInput cX7_appendInput 6 (Option.some FieldType.int) 1 22 0 G ad σ sz [.ref (ad 7 0), .int v1, .int v2, .int v3, .int v4, .int v5] r σ' := by
  refine z_begin (by decide +kernel) (Nat.le_of_ble_eq_true rfl) [(0, .ref (ad 7 0)), (1, .int v1), (2, .int v2), (3, .int v3), (4, .int v4), (5, .int v5)] rfl (fun p e s m args below meth c ls C hz S hl => ?_)
  subst hz
  exact w_X7_appendInput_0 (res := (r, σ')) C σ v1 v2 v3 v4 v5 _ _ _ S hl  hf

theorem dX7_truncateInput_0 : decode cX7_truncateInput 0 = .ok (.iload_n 1, 1) := by decide +kernel
theorem dX7_truncateInput_1 : decode cX7_truncateInput 1 = .ok (.ifCond .lt 11, 3) := by decide +kernel
theorem dX7_truncateInput_4 : decode cX7_truncateInput 4 = .ok (.iload_n 1, 1) := by decide +kernel
theorem dX7_truncateInput_5 : decode cX7_truncateInput 5 = .ok (.aload_n 0, 1) := by decide +kernel
theorem dX7_truncateInput_6 : decode cX7_truncateInput 6 = .ok (.getfield 65, 3) := by decide +kernel
theorem dX7_truncateInput_9 : decode cX7_truncateInput 9 = .ok (.if_icmp .le 5, 3) := by decide +kernel
theorem dX7_truncateInput_12 : decode cX7_truncateInput 12 = .ok (.iconst 0, 1) := by decide +kernel
theorem dX7_truncateInput_13 : decode cX7_truncateInput 13 = .ok (.ireturn, 1) := by decide +kernel
theorem dX7_truncateInput_14 : decode cX7_truncateInput 14 = .ok (.aload_n 0, 1) := by decide +kernel
theorem dX7_truncateInput_15 : decode cX7_truncateInput 15 = .ok (.iload_n 1, 1) := by decide +kernel
theorem dX7_truncateInput_16 : decode cX7_truncateInput 16 = .ok (.putfield 65, 3) := by decide +kernel
theorem dX7_truncateInput_19 : decode cX7_truncateInput 19 = .ok (.iconst 1, 1) := by decide +kernel
theorem dX7_truncateInput_20 : decode cX7_truncateInput 20 = .ok (.ireturn, 1) := by decide +kernel
/-! BusLifts.truncateInput(I)Z -/
noncomputable def f_X7_truncateInput_12  (σ : Sg)  : Option (Int32 × Sg) := some (0, σ)
noncomputable def f_X7_truncateInput  (σ : Sg) (v1 : Int32) : Option (Int32 × Sg) := if v1 < 0 then (f_X7_truncateInput_12 σ) else (if v1 ≤ (σ 7 0 1) then (st (sup σ 7 0 1 v1) fun σ1 => (some (1, σ1))) else (f_X7_truncateInput_12 σ))
set_option maxHeartbeats 4000000 in
set_option maxRecDepth 100000 in
theorem w_X7_truncateInput_12 {p : Program} {l : Launch} {e : Env} {s : State} {m : MethodId} {args : Array Value} {below : List Frame} {meth : Method} {c : Code} {G : Gx} {ad : Ad} {res : Int32 × Sg} (C : Cx p s m args meth c yX7_truncateInput.cls cX7_truncateInput 2 (Option.some FieldType.boolean) G)  : ∀ (σ : Sg)  (H : Heap) (locs : List Loc) (ls : Array Slot), z_S 0 G ad σ (z_A 0 ad s.heap.size) s.heap H locs → lv_has ls 2 [] → f_X7_truncateInput_12  σ  = some res → W p l e { frames := 0, cells := 0, slots := 0, locals := 0 } s m args below meth c H locs 0 0 (MQ below (va_Qi (S := Unit) (fun r1 _ => r1 = res.1) (fun _ t => z_W 0 G ad res.2 t.heap) (z_A 0 ad s.heap.size)) args s 0 0 (z_A 0 ad s.heap.size)) (F0 m 12 ls []) := by
  intro σ  H locs ls S hl  hf
  unfold f_X7_truncateInput_12 at hf
  refine lv_iconst (v := 0) C.1 C.2.1 dX7_truncateInput_12 (by decide) ?_
  exact z_zret C S rfl hf dX7_truncateInput_13
set_option maxHeartbeats 4000000 in
set_option maxRecDepth 100000 in
theorem w_X7_truncateInput_0 {p : Program} {l : Launch} {e : Env} {s : State} {m : MethodId} {args : Array Value} {below : List Frame} {meth : Method} {c : Code} {G : Gx} {ad : Ad} {res : Int32 × Sg} (C : Cx p s m args meth c yX7_truncateInput.cls cX7_truncateInput 2 (Option.some FieldType.boolean) G)  : ∀ (σ : Sg) (v1 : Int32) (H : Heap) (locs : List Loc) (ls : Array Slot), z_S 0 G ad σ (z_A 0 ad s.heap.size) s.heap H locs → lv_has ls 2 [(0, .ref (ad 7 0)), (1, .int v1)] → f_X7_truncateInput  σ v1 = some res → W p l e { frames := 0, cells := 0, slots := 0, locals := 0 } s m args below meth c H locs 0 0 (MQ below (va_Qi (S := Unit) (fun r1 _ => r1 = res.1) (fun _ t => z_W 0 G ad res.2 t.heap) (z_A 0 ad s.heap.size)) args s 0 0 (z_A 0 ad s.heap.size)) (F0 m 0 ls []) := by
  intro σ v1 H locs ls S hl  hf
  unfold f_X7_truncateInput at hf
  refine lv_iload_n C.1 C.2.1 dX7_truncateInput_0 rfl (lv_at hl 1 rfl) ?_
  refine lv_if_lt (tgt := 12) C.1 C.2.1 dX7_truncateInput_1 (by decide) (fun c_1 => ?_) (fun c_1 => ?_)
  · rw [if_pos c_1] at hf
    exact w_X7_truncateInput_12 C _ _ _ _ S (lv_sub hl [] rfl) hf
  · rw [if_neg c_1] at hf
    refine lv_iload_n C.1 C.2.1 dX7_truncateInput_4 rfl (lv_at hl 1 rfl) ?_
    refine lv_aload_n C.1 C.2.1 dX7_truncateInput_5 rfl (lv_at hl 0 rfl) ?_
    refine z_getI C S 7 0 rfl (by decide) cf_7 1 (by decide) (gi_7_1 G ad 0) tw_2_137 dX7_truncateInput_6 ?_
    refine lv_icmp_le (tgt := 14) C.1 C.2.1 dX7_truncateInput_9 (by decide) (fun c_9 => ?_) (fun c_9 => ?_)
    · rw [if_pos c_9] at hf
      refine lv_aload_n C.1 C.2.1 dX7_truncateInput_14 rfl (lv_at hl 0 rfl) ?_
      refine lv_iload_n C.1 C.2.1 dX7_truncateInput_15 rfl (lv_at hl 1 rfl) ?_
      obtain ⟨σ1, e_16, hf⟩ := stb hf
      refine z_putI C S 7 0 rfl (by decide) cf_7 1 (by decide) (pi_7_1 G ad 0) rfl rfl rfl tw_2_137 dX7_truncateInput_16 (fun H locs S => ?_)
      rw [← e_16] at S
      refine lv_iconst (v := 1) C.1 C.2.1 dX7_truncateInput_19 (by decide) ?_
      exact z_zret C S rfl hf dX7_truncateInput_20
    · rw [if_neg c_9] at hf
      exact w_X7_truncateInput_12 C _ _ _ _ S (lv_sub hl [] rfl) hf
theorem kv_X7_truncateInput : KV yX7_truncateInput cX7_truncateInput 2 (Option.some FieldType.boolean) 1 := ⟨tw_3_123, tw_3_121, tw_3_122, tw_1_11, by decide, by decide, by decide +kernel⟩
theorem m_X7_truncateInput (l : Launch) (G : Gx) (ad : Ad) (σ : Sg) (v1 : Int32) (r : Int32) (σ' : Sg)  (hf : f_X7_truncateInput σ v1 = some (r, σ')) (sz : Nat) : z_MI l yX7_truncateInput cX7_truncateInput 2 (Option.some FieldType.boolean) 0 0 0 G ad σ sz [.ref (ad 7 0), .int v1] r σ' := by
  refine z_begin (by decide +kernel) (Nat.le_of_ble_eq_true rfl) [(0, .ref (ad 7 0)), (1, .int v1)] rfl (fun p e s m args below meth c ls C hz S hl => ?_)
  subst hz
  exact w_X7_truncateInput_0 (res := (r, σ')) C σ v1 _ _ _ S hl  hf

theorem dX7_checkCar_0 : decode cX7_checkCar 0 = .ok (.iload_n 1, 1) := by decide +kernel
theorem dX7_checkCar_1 : decode cX7_checkCar 1 = .ok (.ifCond .lt 14, 3) := by decide +kernel
theorem dX7_checkCar_4 : decode cX7_checkCar 4 = .ok (.iload_n 1, 1) := by decide +kernel
theorem dX7_checkCar_5 : decode cX7_checkCar 5 = .ok (.aload_n 0, 1) := by decide +kernel
theorem dX7_checkCar_6 : decode cX7_checkCar 6 = .ok (.getfield 26, 3) := by decide +kernel
theorem dX7_checkCar_9 : decode cX7_checkCar 9 = .ok (.getfield 87, 3) := by decide +kernel
theorem dX7_checkCar_12 : decode cX7_checkCar 12 = .ok (.if_icmp .lt 13, 3) := by decide +kernel
theorem dX7_checkCar_15 : decode cX7_checkCar 15 = .ok (.new 90, 3) := by decide +kernel
theorem dX7_checkCar_18 : decode cX7_checkCar 18 = .ok (.dup, 1) := by decide +kernel
theorem dX7_checkCar_19 : decode cX7_checkCar 19 = .ok (.ldc 92, 2) := by decide +kernel
theorem dX7_checkCar_21 : decode cX7_checkCar 21 = .ok (.invokespecial 94, 3) := by decide +kernel
theorem dX7_checkCar_24 : decode cX7_checkCar 24 = .ok (.athrow, 1) := by decide +kernel
theorem dX7_checkCar_25 : decode cX7_checkCar 25 = .ok (.return_, 1) := by decide +kernel
/-! BusLifts.checkCar(I)V -/
noncomputable def f_X7_checkCar_15  (σ : Sg)  : Option Sg := none
noncomputable def f_X7_checkCar  (σ : Sg) (v1 : Int32) : Option Sg := if v1 < 0 then (f_X7_checkCar_15 σ) else (if v1 < (σ 4 0 1) then (some σ) else (f_X7_checkCar_15 σ))
set_option maxHeartbeats 4000000 in
set_option maxRecDepth 100000 in
theorem w_X7_checkCar_15 {p : Program} {l : Launch} {e : Env} {s : State} {m : MethodId} {args : Array Value} {below : List Frame} {meth : Method} {c : Code} {G : Gx} {ad : Ad} {res : Sg} (C : Cx p s m args meth c yX7_checkCar.cls cX7_checkCar 2 none G)  : ∀ (σ : Sg)  (H : Heap) (locs : List Loc) (ls : Array Slot), z_S 0 G ad σ (z_A 0 ad s.heap.size) s.heap H locs → lv_has ls 2 [] → f_X7_checkCar_15  σ  = some res → W p l e { frames := 0, cells := 0, slots := 0, locals := 0 } s m args below meth c H locs 0 0 (MQ below (va_Qv (S := Unit) (fun _ => True) (fun _ t => z_W 0 G ad res t.heap) (z_A 0 ad s.heap.size)) args s 0 0 (z_A 0 ad s.heap.size)) (F0 m 15 ls []) := by
  intro σ  H locs ls S hl  hf
  unfold f_X7_checkCar_15 at hf
  cases hf
set_option maxHeartbeats 4000000 in
set_option maxRecDepth 100000 in
theorem w_X7_checkCar_0 {p : Program} {l : Launch} {e : Env} {s : State} {m : MethodId} {args : Array Value} {below : List Frame} {meth : Method} {c : Code} {G : Gx} {ad : Ad} {res : Sg} (C : Cx p s m args meth c yX7_checkCar.cls cX7_checkCar 2 none G)  : ∀ (σ : Sg) (v1 : Int32) (H : Heap) (locs : List Loc) (ls : Array Slot), z_S 0 G ad σ (z_A 0 ad s.heap.size) s.heap H locs → lv_has ls 2 [(0, .ref (ad 7 0)), (1, .int v1)] → f_X7_checkCar  σ v1 = some res → W p l e { frames := 0, cells := 0, slots := 0, locals := 0 } s m args below meth c H locs 0 0 (MQ below (va_Qv (S := Unit) (fun _ => True) (fun _ t => z_W 0 G ad res t.heap) (z_A 0 ad s.heap.size)) args s 0 0 (z_A 0 ad s.heap.size)) (F0 m 0 ls []) := by
  intro σ v1 H locs ls S hl  hf
  unfold f_X7_checkCar at hf
  refine lv_iload_n C.1 C.2.1 dX7_checkCar_0 rfl (lv_at hl 1 rfl) ?_
  refine lv_if_lt (tgt := 15) C.1 C.2.1 dX7_checkCar_1 (by decide) (fun c_1 => ?_) (fun c_1 => ?_)
  · rw [if_pos c_1] at hf
    exact w_X7_checkCar_15 C _ _ _ _ S (lv_sub hl [] rfl) hf
  · rw [if_neg c_1] at hf
    refine lv_iload_n C.1 C.2.1 dX7_checkCar_4 rfl (lv_at hl 1 rfl) ?_
    refine lv_aload_n C.1 C.2.1 dX7_checkCar_5 rfl (lv_at hl 0 rfl) ?_
    refine z_getR C S 7 0 rfl (by decide) cf_7 6 (by decide) _ (gr_7_6 G ad 0) tw_2_141 dX7_checkCar_6 ?_
    refine z_getI C S 4 0 rfl (by decide) cf_4 1 (by decide) (gi_4_1 G ad 0) tw_1_226 dX7_checkCar_9 ?_
    refine lv_icmp_lt (tgt := 25) C.1 C.2.1 dX7_checkCar_12 (by decide) (fun c_12 => ?_) (fun c_12 => ?_)
    · rw [if_pos c_12] at hf
      exact z_vret C S hf dX7_checkCar_25
    · rw [if_neg c_12] at hf
      exact w_X7_checkCar_15 C _ _ _ _ S (lv_sub hl [] rfl) hf
theorem kv_X7_checkCar : KV yX7_checkCar cX7_checkCar 2 none 1 := ⟨tw_5_222, tw_5_221, tw_p_19, tw_1_11, by decide, by decide, by decide +kernel⟩
theorem m_X7_checkCar (l : Launch) (G : Gx) (ad : Ad) (σ : Sg) (v1 : Int32) (σ' : Sg)  (hf : f_X7_checkCar σ v1 = some σ') (sz : Nat) : z_MV l yX7_checkCar cX7_checkCar 2 none 0 0 0 G ad σ sz [.ref (ad 7 0), .int v1] σ' := by
  refine z_begin (by decide +kernel) (Nat.le_of_ble_eq_true rfl) [(0, .ref (ad 7 0)), (1, .int v1)] rfl (fun p e s m args below meth c ls C hz S hl => ?_)
  subst hz
  exact w_X7_checkCar_0 (res := σ') C σ v1 _ _ _ S hl  hf

theorem dX7_checkRange_0 : decode cX7_checkRange 0 = .ok (.iload_n 0, 1) := by decide +kernel
theorem dX7_checkRange_1 : decode cX7_checkRange 1 = .ok (.iload_n 1, 1) := by decide +kernel
theorem dX7_checkRange_2 : decode cX7_checkRange 2 = .ok (.if_icmp .lt 8, 3) := by decide +kernel
theorem dX7_checkRange_5 : decode cX7_checkRange 5 = .ok (.iload_n 0, 1) := by decide +kernel
theorem dX7_checkRange_6 : decode cX7_checkRange 6 = .ok (.iload_n 2, 1) := by decide +kernel
theorem dX7_checkRange_7 : decode cX7_checkRange 7 = .ok (.if_icmp .le 13, 3) := by decide +kernel
theorem dX7_checkRange_10 : decode cX7_checkRange 10 = .ok (.new 105, 3) := by decide +kernel
theorem dX7_checkRange_13 : decode cX7_checkRange 13 = .ok (.dup, 1) := by decide +kernel
theorem dX7_checkRange_14 : decode cX7_checkRange 14 = .ok (.ldc 119, 2) := by decide +kernel
theorem dX7_checkRange_16 : decode cX7_checkRange 16 = .ok (.invokespecial 109, 3) := by decide +kernel
theorem dX7_checkRange_19 : decode cX7_checkRange 19 = .ok (.athrow, 1) := by decide +kernel
theorem dX7_checkRange_20 : decode cX7_checkRange 20 = .ok (.return_, 1) := by decide +kernel
/-! BusLifts.checkRange(III)V -/
noncomputable def f_X7_checkRange_10  (σ : Sg)  : Option Sg := none
noncomputable def f_X7_checkRange  (σ : Sg) (v0 : Int32) (v1 : Int32) (v2 : Int32) : Option Sg := if v0 < v1 then (f_X7_checkRange_10 σ) else (if v0 ≤ v2 then (some σ) else (f_X7_checkRange_10 σ))
set_option maxHeartbeats 4000000 in
set_option maxRecDepth 100000 in
theorem w_X7_checkRange_10 {p : Program} {l : Launch} {e : Env} {s : State} {m : MethodId} {args : Array Value} {below : List Frame} {meth : Method} {c : Code} {G : Gx} {ad : Ad} {res : Sg} (C : Cx p s m args meth c yX7_checkRange.cls cX7_checkRange 3 none G)  : ∀ (σ : Sg)  (H : Heap) (locs : List Loc) (ls : Array Slot), z_S 0 G ad σ (z_A 0 ad s.heap.size) s.heap H locs → lv_has ls 3 [] → f_X7_checkRange_10  σ  = some res → W p l e { frames := 0, cells := 0, slots := 0, locals := 0 } s m args below meth c H locs 0 0 (MQ below (va_Qv (S := Unit) (fun _ => True) (fun _ t => z_W 0 G ad res t.heap) (z_A 0 ad s.heap.size)) args s 0 0 (z_A 0 ad s.heap.size)) (F0 m 10 ls []) := by
  intro σ  H locs ls S hl  hf
  unfold f_X7_checkRange_10 at hf
  cases hf
set_option maxHeartbeats 4000000 in
set_option maxRecDepth 100000 in
theorem w_X7_checkRange_0 {p : Program} {l : Launch} {e : Env} {s : State} {m : MethodId} {args : Array Value} {below : List Frame} {meth : Method} {c : Code} {G : Gx} {ad : Ad} {res : Sg} (C : Cx p s m args meth c yX7_checkRange.cls cX7_checkRange 3 none G)  : ∀ (σ : Sg) (v0 : Int32) (v1 : Int32) (v2 : Int32) (H : Heap) (locs : List Loc) (ls : Array Slot), z_S 0 G ad σ (z_A 0 ad s.heap.size) s.heap H locs → lv_has ls 3 [(0, .int v0), (1, .int v1), (2, .int v2)] → f_X7_checkRange  σ v0 v1 v2 = some res → W p l e { frames := 0, cells := 0, slots := 0, locals := 0 } s m args below meth c H locs 0 0 (MQ below (va_Qv (S := Unit) (fun _ => True) (fun _ t => z_W 0 G ad res t.heap) (z_A 0 ad s.heap.size)) args s 0 0 (z_A 0 ad s.heap.size)) (F0 m 0 ls []) := by
  intro σ v0 v1 v2 H locs ls S hl  hf
  unfold f_X7_checkRange at hf
  refine lv_iload_n C.1 C.2.1 dX7_checkRange_0 rfl (lv_at hl 0 rfl) ?_
  refine lv_iload_n C.1 C.2.1 dX7_checkRange_1 rfl (lv_at hl 1 rfl) ?_
  refine lv_icmp_lt (tgt := 10) C.1 C.2.1 dX7_checkRange_2 (by decide) (fun c_2 => ?_) (fun c_2 => ?_)
  · rw [if_pos c_2] at hf
    exact w_X7_checkRange_10 C _ _ _ _ S (lv_sub hl [] rfl) hf
  · rw [if_neg c_2] at hf
    refine lv_iload_n C.1 C.2.1 dX7_checkRange_5 rfl (lv_at hl 0 rfl) ?_
    refine lv_iload_n C.1 C.2.1 dX7_checkRange_6 rfl (lv_at hl 2 rfl) ?_
    refine lv_icmp_le (tgt := 20) C.1 C.2.1 dX7_checkRange_7 (by decide) (fun c_7 => ?_) (fun c_7 => ?_)
    · rw [if_pos c_7] at hf
      exact z_vret C S hf dX7_checkRange_20
    · rw [if_neg c_7] at hf
      exact w_X7_checkRange_10 C _ _ _ _ S (lv_sub hl [] rfl) hf
theorem kv_X7_checkRange : KS yX7_checkRange cX7_checkRange 3 none 3 := ⟨tw_6_52, tw_6_51, tw_1_11, by decide, by decide, by decide +kernel⟩
theorem m_X7_checkRange (l : Launch) (G : Gx) (ad : Ad) (σ : Sg) (v0 : Int32) (v1 : Int32) (v2 : Int32) (σ' : Sg)  (hf : f_X7_checkRange σ v0 v1 v2 = some σ') (sz : Nat) : z_MV l yX7_checkRange cX7_checkRange 3 none 0 0 0 G ad σ sz [.int v0, .int v1, .int v2] σ' := by
  refine z_begin (by decide +kernel) (Nat.le_of_ble_eq_true rfl) [(0, .int v0), (1, .int v1), (2, .int v2)] rfl (fun p e s m args below meth c ls C hz S hl => ?_)
  subst hz
  exact w_X7_checkRange_0 (res := σ') C σ v0 v1 v2 _ _ _ S hl  hf

theorem dX7_car_0 : decode cX7_car 0 = .ok (.aload_n 0, 1) := by decide +kernel
theorem dX7_car_1 : decode cX7_car 1 = .ok (.iload_n 1, 1) := by decide +kernel
theorem dX7_car_2 : decode cX7_car 2 = .ok (.invokevirtual 144, 3) := by decide +kernel
theorem dX7_car_5 : decode cX7_car 5 = .ok (.iload_n 2, 1) := by decide +kernel
theorem dX7_car_6 : decode cX7_car 6 = .ok (.iconst 0, 1) := by decide +kernel
theorem dX7_car_7 : decode cX7_car 7 = .ok (.bipush 9, 2) := by decide +kernel
theorem dX7_car_9 : decode cX7_car 9 = .ok (.invokestatic 115, 3) := by decide +kernel
theorem dX7_car_12 : decode cX7_car 12 = .ok (.aload_n 0, 1) := by decide +kernel
theorem dX7_car_13 : decode cX7_car 13 = .ok (.getfield 26, 3) := by decide +kernel
theorem dX7_car_16 : decode cX7_car 16 = .ok (.getfield 147, 3) := by decide +kernel
theorem dX7_car_19 : decode cX7_car 19 = .ok (.iload_n 1, 1) := by decide +kernel
theorem dX7_car_20 : decode cX7_car 20 = .ok (.aaload, 1) := by decide +kernel
theorem dX7_car_21 : decode cX7_car 21 = .ok (.astore_n 3, 1) := by decide +kernel
theorem dX7_car_22 : decode cX7_car 22 = .ok (.iload_n 2, 1) := by decide +kernel
theorem dX7_car_23 : decode cX7_car 23 = .ok (.tableswitch 116 0 8 #[49, 54, 59, 64, 72, 80, 93, 106, 111], 49) := by decide +kernel
theorem dX7_car_72 : decode cX7_car 72 = .ok (.aload_n 3, 1) := by decide +kernel
theorem dX7_car_73 : decode cX7_car 73 = .ok (.getfield 151, 3) := by decide +kernel
theorem dX7_car_76 : decode cX7_car 76 = .ok (.ireturn, 1) := by decide +kernel
theorem dX7_car_77 : decode cX7_car 77 = .ok (.aload_n 3, 1) := by decide +kernel
theorem dX7_car_78 : decode cX7_car 78 = .ok (.getfield 156, 3) := by decide +kernel
theorem dX7_car_81 : decode cX7_car 81 = .ok (.ireturn, 1) := by decide +kernel
theorem dX7_car_82 : decode cX7_car 82 = .ok (.aload_n 3, 1) := by decide +kernel
theorem dX7_car_83 : decode cX7_car 83 = .ok (.getfield 159, 3) := by decide +kernel
theorem dX7_car_86 : decode cX7_car 86 = .ok (.ireturn, 1) := by decide +kernel
theorem dX7_car_87 : decode cX7_car 87 = .ok (.aload_n 3, 1) := by decide +kernel
theorem dX7_car_88 : decode cX7_car 88 = .ok (.getfield 162, 3) := by decide +kernel
theorem dX7_car_91 : decode cX7_car 91 = .ok (.invokestatic 165, 3) := by decide +kernel
theorem dX7_car_94 : decode cX7_car 94 = .ok (.ireturn, 1) := by decide +kernel
theorem dX7_car_95 : decode cX7_car 95 = .ok (.aload_n 3, 1) := by decide +kernel
theorem dX7_car_96 : decode cX7_car 96 = .ok (.getfield 170, 3) := by decide +kernel
theorem dX7_car_99 : decode cX7_car 99 = .ok (.invokestatic 165, 3) := by decide +kernel
theorem dX7_car_102 : decode cX7_car 102 = .ok (.ireturn, 1) := by decide +kernel
theorem dX7_car_103 : decode cX7_car 103 = .ok (.aload_n 3, 1) := by decide +kernel
theorem dX7_car_104 : decode cX7_car 104 = .ok (.getfield 173, 3) := by decide +kernel
theorem dX7_car_107 : decode cX7_car 107 = .ok (.ifCond .eq 7, 3) := by decide +kernel
theorem dX7_car_110 : decode cX7_car 110 = .ok (.iconst 1, 1) := by decide +kernel
theorem dX7_car_111 : decode cX7_car 111 = .ok (.goto 4, 3) := by decide +kernel
theorem dX7_car_114 : decode cX7_car 114 = .ok (.iconst 0, 1) := by decide +kernel
theorem dX7_car_115 : decode cX7_car 115 = .ok (.ireturn, 1) := by decide +kernel
theorem dX7_car_116 : decode cX7_car 116 = .ok (.aload_n 3, 1) := by decide +kernel
theorem dX7_car_117 : decode cX7_car 117 = .ok (.getfield 176, 3) := by decide +kernel
theorem dX7_car_120 : decode cX7_car 120 = .ok (.ifCond .eq 7, 3) := by decide +kernel
theorem dX7_car_123 : decode cX7_car 123 = .ok (.iconst 1, 1) := by decide +kernel
theorem dX7_car_124 : decode cX7_car 124 = .ok (.goto 4, 3) := by decide +kernel
theorem dX7_car_127 : decode cX7_car 127 = .ok (.iconst 0, 1) := by decide +kernel
theorem dX7_car_128 : decode cX7_car 128 = .ok (.ireturn, 1) := by decide +kernel
theorem dX7_car_129 : decode cX7_car 129 = .ok (.aload_n 3, 1) := by decide +kernel
theorem dX7_car_130 : decode cX7_car 130 = .ok (.getfield 179, 3) := by decide +kernel
theorem dX7_car_133 : decode cX7_car 133 = .ok (.ireturn, 1) := by decide +kernel
theorem dX7_car_134 : decode cX7_car 134 = .ok (.aload_n 3, 1) := by decide +kernel
theorem dX7_car_135 : decode cX7_car 135 = .ok (.getfield 182, 3) := by decide +kernel
theorem dX7_car_138 : decode cX7_car 138 = .ok (.ireturn, 1) := by decide +kernel
theorem dX7_car_139 : decode cX7_car 139 = .ok (.aload_n 3, 1) := by decide +kernel
theorem dX7_car_140 : decode cX7_car 140 = .ok (.getfield 185, 3) := by decide +kernel
theorem dX7_car_143 : decode cX7_car 143 = .ok (.ireturn, 1) := by decide +kernel
/-! BusLifts.car(II)I -/
noncomputable def f_X7_car_115  (σ : Sg) (v100 : Int32) : Option (Int32 × Sg) := some (v100, σ)
noncomputable def f_X7_car_128  (σ : Sg) (v100 : Int32) : Option (Int32 × Sg) := some (v100, σ)
noncomputable def f_X7_car  (σ : Sg) (v1 : Int32) (v2 : Int32) : Option (Int32 × Sg) := bv (f_X7_checkCar σ v1) fun σ1 => (bv (f_X7_checkRange σ1 v2 0 9) fun σ2 => (if v1 < 0 ∨ 4 ≤ (v1).toNatClampNeg then none else (if v2 = 0 then (some ((σ2 2 (4 * 0 + (v1).toNatClampNeg) 0), σ2)) else (if v2 = 1 then (some ((σ2 2 (4 * 0 + (v1).toNatClampNeg) 1), σ2)) else (if v2 = 2 then (some ((σ2 2 (4 * 0 + (v1).toNatClampNeg) 2), σ2)) else (if v2 = 3 then (bi (f_J6_bitCount_0f7a4 σ2 (σ2 2 (4 * 0 + (v1).toNatClampNeg) 8)) fun r4 σ3 => (some (r4, σ3))) else (if v2 = 4 then (bi (f_J6_bitCount_0f7a4 σ2 (σ2 2 (4 * 0 + (v1).toNatClampNeg) 9)) fun r6 σ5 => (some (r6, σ5))) else (if v2 = 5 then (if (σ2 2 (4 * 0 + (v1).toNatClampNeg) 3) = 0 then (f_X7_car_115 σ2 0) else (f_X7_car_115 σ2 1)) else (if v2 = 6 then (if (σ2 2 (4 * 0 + (v1).toNatClampNeg) 4) = 0 then (f_X7_car_128 σ2 0) else (f_X7_car_128 σ2 1)) else (if v2 = 7 then (some ((σ2 2 (4 * 0 + (v1).toNatClampNeg) 5), σ2)) else (if v2 = 8 then (some ((σ2 2 (4 * 0 + (v1).toNatClampNeg) 6), σ2)) else (some ((σ2 2 (4 * 0 + (v1).toNatClampNeg) 7), σ2)))))))))))))
set_option maxHeartbeats 4000000 in
set_option maxRecDepth 100000 in
theorem w_X7_car_115 {p : Program} {l : Launch} {e : Env} {s : State} {m : MethodId} {args : Array Value} {below : List Frame} {meth : Method} {c : Code} {G : Gx} {ad : Ad} {res : Int32 × Sg} (C : Cx p s m args meth c yX7_car.cls cX7_car 4 (Option.some FieldType.int) G)  : ∀ (σ : Sg) (v100 : Int32) (H : Heap) (locs : List Loc) (ls : Array Slot), z_S 0 G ad σ (z_A 0 ad s.heap.size) s.heap H locs → lv_has ls 4 [] → f_X7_car_115  σ v100 = some res → W p l e { frames := 1, cells := 0, slots := 0, locals := 22 } s m args below meth c H locs 0 0 (MQ below (va_Qi (S := Unit) (fun r1 _ => r1 = res.1) (fun _ t => z_W 0 G ad res.2 t.heap) (z_A 0 ad s.heap.size)) args s 0 0 (z_A 0 ad s.heap.size)) (F0 m 115 ls [.int v100]) := by
  intro σ v100 H locs ls S hl  hf
  unfold f_X7_car_115 at hf
  exact z_iret C S hf dX7_car_115
set_option maxHeartbeats 4000000 in
set_option maxRecDepth 100000 in
theorem w_X7_car_128 {p : Program} {l : Launch} {e : Env} {s : State} {m : MethodId} {args : Array Value} {below : List Frame} {meth : Method} {c : Code} {G : Gx} {ad : Ad} {res : Int32 × Sg} (C : Cx p s m args meth c yX7_car.cls cX7_car 4 (Option.some FieldType.int) G)  : ∀ (σ : Sg) (v100 : Int32) (H : Heap) (locs : List Loc) (ls : Array Slot), z_S 0 G ad σ (z_A 0 ad s.heap.size) s.heap H locs → lv_has ls 4 [] → f_X7_car_128  σ v100 = some res → W p l e { frames := 1, cells := 0, slots := 0, locals := 22 } s m args below meth c H locs 0 0 (MQ below (va_Qi (S := Unit) (fun r1 _ => r1 = res.1) (fun _ t => z_W 0 G ad res.2 t.heap) (z_A 0 ad s.heap.size)) args s 0 0 (z_A 0 ad s.heap.size)) (F0 m 128 ls [.int v100]) := by
  intro σ v100 H locs ls S hl  hf
  unfold f_X7_car_128 at hf
  exact z_iret C S hf dX7_car_128
set_option maxHeartbeats 4000000 in
set_option maxRecDepth 100000 in
theorem w_X7_car_0 {p : Program} {l : Launch} {e : Env} {s : State} {m : MethodId} {args : Array Value} {below : List Frame} {meth : Method} {c : Code} {G : Gx} {ad : Ad} {res : Int32 × Sg} (C : Cx p s m args meth c yX7_car.cls cX7_car 4 (Option.some FieldType.int) G)  : ∀ (σ : Sg) (v1 : Int32) (v2 : Int32) (H : Heap) (locs : List Loc) (ls : Array Slot), z_S 0 G ad σ (z_A 0 ad s.heap.size) s.heap H locs → lv_has ls 4 [(0, .ref (ad 7 0)), (1, .int v1), (2, .int v2)] → f_X7_car  σ v1 v2 = some res → W p l e { frames := 1, cells := 0, slots := 0, locals := 22 } s m args below meth c H locs 0 0 (MQ below (va_Qi (S := Unit) (fun r1 _ => r1 = res.1) (fun _ t => z_W 0 G ad res.2 t.heap) (z_A 0 ad s.heap.size)) args s 0 0 (z_A 0 ad s.heap.size)) (F0 m 0 ls []) := by
  intro σ v1 v2 H locs ls S hl  hf
  unfold f_X7_car at hf
  refine lv_aload_n C.1 C.2.1 dX7_car_0 rfl (lv_at hl 0 rfl) ?_
  refine lv_iload_n C.1 C.2.1 dX7_car_1 rfl (lv_at hl 1 rfl) ?_
  obtain ⟨σ1, q_2, hf⟩ := bvb hf
  refine z_callV C S 7 0 rfl (by decide) cf_7 ⟨_, rfl⟩ [.int v1] (m_X7_checkCar l G ad σ v1 σ1 q_2 _) kv_X7_checkCar tw_5_219 ⟨Nat.le_of_ble_eq_true rfl, Nat.le_of_ble_eq_true rfl⟩ rfl rfl (Nat.le_of_ble_eq_true rfl) hl.1 ⟨Nat.le_of_ble_eq_true rfl, Nat.le_of_ble_eq_true rfl⟩ dX7_car_2 (fun H locs S => ?_)
  refine lv_iload_n C.1 C.2.1 dX7_car_5 rfl (lv_at hl 2 rfl) ?_
  refine lv_iconst (v := 0) C.1 C.2.1 dX7_car_6 (by decide) ?_
  refine lv_bipush (v := 9) C.1 C.2.1 dX7_car_7 (by decide) ?_
  obtain ⟨σ2, q_9, hf⟩ := bvb hf
  refine z_callSV C S [.int v2, .int 0, .int 9] (m_X7_checkRange l G ad σ1 v2 0 9 σ2 q_9 _) kv_X7_checkRange tw_6_50 ⟨Nat.le_of_ble_eq_true rfl, Nat.le_of_ble_eq_true rfl⟩ rfl rfl (Nat.le_of_ble_eq_true rfl) hl.1 ⟨Nat.le_of_ble_eq_true rfl, Nat.le_of_ble_eq_true rfl⟩ dX7_car_9 (fun H locs S => ?_)
  refine lv_aload_n C.1 C.2.1 dX7_car_12 rfl (lv_at hl 0 rfl) ?_
  refine z_getR C S 7 0 rfl (by decide) cf_7 6 (by decide) _ (gr_7_6 G ad 0) tw_2_141 dX7_car_13 ?_
  refine z_getR C S 4 0 rfl (by decide) cf_4 6 (by decide) _ (gr_4_6 G ad 0) tw_2_3 dX7_car_16 ?_
  refine lv_iload_n C.1 C.2.1 dX7_car_19 rfl (lv_at hl 1 rfl) ?_
  obtain ⟨g_20, hf⟩ := gd hf
  refine z_aald C S 25 0 rfl (by decide) 4 1 2 (4 * 0) rfl (fun _ => rfl) g_20 dX7_car_20 ?_
  refine lv_astore_n (lv' := [(3, .ref (ad 2 (4 * 0 + (v1).toNatClampNeg))), (0, .ref (ad 7 0)), (1, .int v1), (2, .int v2)]) C.1 C.2.1 dX7_car_21 rfl hl (by decide) rfl (fun ls hl => ?_)
  refine lv_iload_n C.1 C.2.1 dX7_car_22 rfl (lv_at hl 3 rfl) ?_
  by_cases q_23_0 : v2 = 0
  · rw [if_pos q_23_0] at hf
    refine lv_tableIn (off := 49) (tgt := 72) C.1 C.2.1 dX7_car_23 (by rw [q_23_0]; decide) (by rw [q_23_0]; decide) (by rw [q_23_0]; decide) (by decide) ?_
    refine lv_aload_n C.1 C.2.1 dX7_car_72 rfl (lv_at hl 0 rfl) ?_
    refine z_getI C S 2 (4 * 0 + (v1).toNatClampNeg) rfl (oc2 (by decide) g_20) cf_2 0 (by decide) (gi_2_0 G ad (4 * 0 + (v1).toNatClampNeg)) tw_1_90 dX7_car_73 ?_
    exact z_iret C S hf dX7_car_76
  · rw [if_neg q_23_0] at hf
    by_cases q_23_1 : v2 = 1
    · rw [if_pos q_23_1] at hf
      refine lv_tableIn (off := 54) (tgt := 77) C.1 C.2.1 dX7_car_23 (by rw [q_23_1]; decide) (by rw [q_23_1]; decide) (by rw [q_23_1]; decide) (by decide) ?_
      refine lv_aload_n C.1 C.2.1 dX7_car_77 rfl (lv_at hl 0 rfl) ?_
      refine z_getI C S 2 (4 * 0 + (v1).toNatClampNeg) rfl (oc2 (by decide) g_20) cf_2 1 (by decide) (gi_2_1 G ad (4 * 0 + (v1).toNatClampNeg)) tw_1_93 dX7_car_78 ?_
      exact z_iret C S hf dX7_car_81
    · rw [if_neg q_23_1] at hf
      by_cases q_23_2 : v2 = 2
      · rw [if_pos q_23_2] at hf
        refine lv_tableIn (off := 59) (tgt := 82) C.1 C.2.1 dX7_car_23 (by rw [q_23_2]; decide) (by rw [q_23_2]; decide) (by rw [q_23_2]; decide) (by decide) ?_
        refine lv_aload_n C.1 C.2.1 dX7_car_82 rfl (lv_at hl 0 rfl) ?_
        refine z_getI C S 2 (4 * 0 + (v1).toNatClampNeg) rfl (oc2 (by decide) g_20) cf_2 2 (by decide) (gi_2_2 G ad (4 * 0 + (v1).toNatClampNeg)) tw_1_95 dX7_car_83 ?_
        exact z_iret C S hf dX7_car_86
      · rw [if_neg q_23_2] at hf
        by_cases q_23_3 : v2 = 3
        · rw [if_pos q_23_3] at hf
          refine lv_tableIn (off := 64) (tgt := 87) C.1 C.2.1 dX7_car_23 (by rw [q_23_3]; decide) (by rw [q_23_3]; decide) (by rw [q_23_3]; decide) (by decide) ?_
          refine lv_aload_n C.1 C.2.1 dX7_car_87 rfl (lv_at hl 0 rfl) ?_
          refine z_getI C S 2 (4 * 0 + (v1).toNatClampNeg) rfl (oc2 (by decide) g_20) cf_2 8 (by decide) (gi_2_8 G ad (4 * 0 + (v1).toNatClampNeg)) tw_1_115 dX7_car_88 ?_
          obtain ⟨r4, σ3, q_91, hf⟩ := bib hf
          refine z_callSI C S [.int (σ2 2 (4 * 0 + (v1).toNatClampNeg) 8)] (m_J6_bitCount_0f7a4 l G ad σ2 (σ2 2 (4 * 0 + (v1).toNatClampNeg) 8) r4 σ3 q_91 _) kv_J6_bitCount_0f7a4 tw_6_69 ⟨Nat.le_of_ble_eq_true rfl, Nat.le_of_ble_eq_true rfl⟩ rfl rfl (Nat.le_of_ble_eq_true rfl) hl.1 ⟨Nat.le_of_ble_eq_true rfl, Nat.le_of_ble_eq_true rfl⟩ dX7_car_91 (fun H locs S => ?_)
          exact z_iret C S hf dX7_car_94
        · rw [if_neg q_23_3] at hf
          by_cases q_23_4 : v2 = 4
          · rw [if_pos q_23_4] at hf
            refine lv_tableIn (off := 72) (tgt := 95) C.1 C.2.1 dX7_car_23 (by rw [q_23_4]; decide) (by rw [q_23_4]; decide) (by rw [q_23_4]; decide) (by decide) ?_
            refine lv_aload_n C.1 C.2.1 dX7_car_95 rfl (lv_at hl 0 rfl) ?_
            refine z_getI C S 2 (4 * 0 + (v1).toNatClampNeg) rfl (oc2 (by decide) g_20) cf_2 9 (by decide) (gi_2_9 G ad (4 * 0 + (v1).toNatClampNeg)) tw_1_118 dX7_car_96 ?_
            obtain ⟨r6, σ5, q_99, hf⟩ := bib hf
            refine z_callSI C S [.int (σ2 2 (4 * 0 + (v1).toNatClampNeg) 9)] (m_J6_bitCount_0f7a4 l G ad σ2 (σ2 2 (4 * 0 + (v1).toNatClampNeg) 9) r6 σ5 q_99 _) kv_J6_bitCount_0f7a4 tw_6_69 ⟨Nat.le_of_ble_eq_true rfl, Nat.le_of_ble_eq_true rfl⟩ rfl rfl (Nat.le_of_ble_eq_true rfl) hl.1 ⟨Nat.le_of_ble_eq_true rfl, Nat.le_of_ble_eq_true rfl⟩ dX7_car_99 (fun H locs S => ?_)
            exact z_iret C S hf dX7_car_102
          · rw [if_neg q_23_4] at hf
            by_cases q_23_5 : v2 = 5
            · rw [if_pos q_23_5] at hf
              refine lv_tableIn (off := 80) (tgt := 103) C.1 C.2.1 dX7_car_23 (by rw [q_23_5]; decide) (by rw [q_23_5]; decide) (by rw [q_23_5]; decide) (by decide) ?_
              refine lv_aload_n C.1 C.2.1 dX7_car_103 rfl (lv_at hl 0 rfl) ?_
              refine z_getI C S 2 (4 * 0 + (v1).toNatClampNeg) rfl (oc2 (by decide) g_20) cf_2 3 (by decide) (gi_2_3 G ad (4 * 0 + (v1).toNatClampNeg)) tw_1_99 dX7_car_104 ?_
              refine lv_if_eq (tgt := 114) C.1 C.2.1 dX7_car_107 (by decide) (fun c_107 => ?_) (fun c_107 => ?_)
              · rw [if_pos c_107] at hf
                refine lv_iconst (v := 0) C.1 C.2.1 dX7_car_114 (by decide) ?_
                exact w_X7_car_115 C _ 0 _ _ _ S (lv_sub hl [] rfl) hf
              · rw [if_neg c_107] at hf
                refine lv_iconst (v := 1) C.1 C.2.1 dX7_car_110 (by decide) ?_
                refine lv_goto (tgt := 115) C.1 C.2.1 dX7_car_111 (by decide) ?_
                exact w_X7_car_115 C _ 1 _ _ _ S (lv_sub hl [] rfl) hf
            · rw [if_neg q_23_5] at hf
              by_cases q_23_6 : v2 = 6
              · rw [if_pos q_23_6] at hf
                refine lv_tableIn (off := 93) (tgt := 116) C.1 C.2.1 dX7_car_23 (by rw [q_23_6]; decide) (by rw [q_23_6]; decide) (by rw [q_23_6]; decide) (by decide) ?_
                refine lv_aload_n C.1 C.2.1 dX7_car_116 rfl (lv_at hl 0 rfl) ?_
                refine z_getI C S 2 (4 * 0 + (v1).toNatClampNeg) rfl (oc2 (by decide) g_20) cf_2 4 (by decide) (gi_2_4 G ad (4 * 0 + (v1).toNatClampNeg)) tw_1_102 dX7_car_117 ?_
                refine lv_if_eq (tgt := 127) C.1 C.2.1 dX7_car_120 (by decide) (fun c_120 => ?_) (fun c_120 => ?_)
                · rw [if_pos c_120] at hf
                  refine lv_iconst (v := 0) C.1 C.2.1 dX7_car_127 (by decide) ?_
                  exact w_X7_car_128 C _ 0 _ _ _ S (lv_sub hl [] rfl) hf
                · rw [if_neg c_120] at hf
                  refine lv_iconst (v := 1) C.1 C.2.1 dX7_car_123 (by decide) ?_
                  refine lv_goto (tgt := 128) C.1 C.2.1 dX7_car_124 (by decide) ?_
                  exact w_X7_car_128 C _ 1 _ _ _ S (lv_sub hl [] rfl) hf
              · rw [if_neg q_23_6] at hf
                by_cases q_23_7 : v2 = 7
                · rw [if_pos q_23_7] at hf
                  refine lv_tableIn (off := 106) (tgt := 129) C.1 C.2.1 dX7_car_23 (by rw [q_23_7]; decide) (by rw [q_23_7]; decide) (by rw [q_23_7]; decide) (by decide) ?_
                  refine lv_aload_n C.1 C.2.1 dX7_car_129 rfl (lv_at hl 0 rfl) ?_
                  refine z_getI C S 2 (4 * 0 + (v1).toNatClampNeg) rfl (oc2 (by decide) g_20) cf_2 5 (by decide) (gi_2_5 G ad (4 * 0 + (v1).toNatClampNeg)) tw_1_104 dX7_car_130 ?_
                  exact z_iret C S hf dX7_car_133
                · rw [if_neg q_23_7] at hf
                  by_cases q_23_8 : v2 = 8
                  · rw [if_pos q_23_8] at hf
                    refine lv_tableIn (off := 111) (tgt := 134) C.1 C.2.1 dX7_car_23 (by rw [q_23_8]; decide) (by rw [q_23_8]; decide) (by rw [q_23_8]; decide) (by decide) ?_
                    refine lv_aload_n C.1 C.2.1 dX7_car_134 rfl (lv_at hl 0 rfl) ?_
                    refine z_getI C S 2 (4 * 0 + (v1).toNatClampNeg) rfl (oc2 (by decide) g_20) cf_2 6 (by decide) (gi_2_6 G ad (4 * 0 + (v1).toNatClampNeg)) tw_1_107 dX7_car_135 ?_
                    exact z_iret C S hf dX7_car_138
                  · rw [if_neg q_23_8] at hf
                    refine lv_tableOut (tgt := 139) C.1 C.2.1 dX7_car_23 (tsw0_8 q_23_0 q_23_1 q_23_2 q_23_3 q_23_4 q_23_5 q_23_6 q_23_7 q_23_8) (by decide) ?_
                    refine lv_aload_n C.1 C.2.1 dX7_car_139 rfl (lv_at hl 0 rfl) ?_
                    refine z_getI C S 2 (4 * 0 + (v1).toNatClampNeg) rfl (oc2 (by decide) g_20) cf_2 7 (by decide) (gi_2_7 G ad (4 * 0 + (v1).toNatClampNeg)) tw_1_110 dX7_car_140 ?_
                    exact z_iret C S hf dX7_car_143
theorem kv_X7_car : KV yX7_car cX7_car 4 (Option.some FieldType.int) 2 := ⟨tw_5_218, tw_5_216, tw_5_217, tw_1_11, by decide, by decide, by decide +kernel⟩
theorem m_X7_car (l : Launch) (G : Gx) (ad : Ad) (σ : Sg) (v1 : Int32) (v2 : Int32) (r : Int32) (σ' : Sg)  (hf : f_X7_car σ v1 v2 = some (r, σ')) (sz : Nat) : z_MI l yX7_car cX7_car 4 (Option.some FieldType.int) 1 22 0 G ad σ sz [.ref (ad 7 0), .int v1, .int v2] r σ' := by
  refine z_begin (by decide +kernel) (Nat.le_of_ble_eq_true rfl) [(0, .ref (ad 7 0)), (1, .int v1), (2, .int v2)] rfl (fun p e s m args below meth c ls C hz S hl => ?_)
  subst hz
  exact w_X7_car_0 (res := (r, σ')) C σ v1 v2 _ _ _ S hl  hf

theorem dX7_goal_0 : decode cX7_goal 0 = .ok (.aload_n 0, 1) := by decide +kernel
theorem dX7_goal_1 : decode cX7_goal 1 = .ok (.iload_n 1, 1) := by decide +kernel
theorem dX7_goal_2 : decode cX7_goal 2 = .ok (.invokevirtual 144, 3) := by decide +kernel
theorem dX7_goal_5 : decode cX7_goal 5 = .ok (.aload_n 0, 1) := by decide +kernel
theorem dX7_goal_6 : decode cX7_goal 6 = .ok (.getfield 26, 3) := by decide +kernel
theorem dX7_goal_9 : decode cX7_goal 9 = .ok (.aload_n 0, 1) := by decide +kernel
theorem dX7_goal_10 : decode cX7_goal 10 = .ok (.getfield 26, 3) := by decide +kernel
theorem dX7_goal_13 : decode cX7_goal 13 = .ok (.getfield 147, 3) := by decide +kernel
theorem dX7_goal_16 : decode cX7_goal 16 = .ok (.iload_n 1, 1) := by decide +kernel
theorem dX7_goal_17 : decode cX7_goal 17 = .ok (.aaload, 1) := by decide +kernel
theorem dX7_goal_18 : decode cX7_goal 18 = .ok (.invokevirtual 255, 3) := by decide +kernel
theorem dX7_goal_21 : decode cX7_goal 21 = .ok (.ireturn, 1) := by decide +kernel
/-! BusLifts.goal(I)I -/
noncomputable def f_X7_goal  (σ : Sg) (v1 : Int32) : Option (Int32 × Sg) := bv (f_X7_checkCar σ v1) fun σ1 => (if v1 < 0 ∨ 4 ≤ (v1).toNatClampNeg then none else (bi (f_X4_nearestGoal σ1 0 (4 * 0 + (v1).toNatClampNeg)) fun r3 σ2 => (some (r3, σ2))))
set_option maxHeartbeats 4000000 in
set_option maxRecDepth 100000 in
theorem w_X7_goal_0 {p : Program} {l : Launch} {e : Env} {s : State} {m : MethodId} {args : Array Value} {below : List Frame} {meth : Method} {c : Code} {G : Gx} {ad : Ad} {res : Int32 × Sg} (C : Cx p s m args meth c yX7_goal.cls cX7_goal 2 (Option.some FieldType.int) G)  : ∀ (σ : Sg) (v1 : Int32) (H : Heap) (locs : List Loc) (ls : Array Slot), z_S 0 G ad σ (z_A 0 ad s.heap.size) s.heap H locs → lv_has ls 2 [(0, .ref (ad 7 0)), (1, .int v1)] → f_X7_goal  σ v1 = some res → W p l e { frames := 3, cells := 0, slots := 0, locals := 68 } s m args below meth c H locs 0 0 (MQ below (va_Qi (S := Unit) (fun r1 _ => r1 = res.1) (fun _ t => z_W 0 G ad res.2 t.heap) (z_A 0 ad s.heap.size)) args s 0 0 (z_A 0 ad s.heap.size)) (F0 m 0 ls []) := by
  intro σ v1 H locs ls S hl  hf
  unfold f_X7_goal at hf
  refine lv_aload_n C.1 C.2.1 dX7_goal_0 rfl (lv_at hl 0 rfl) ?_
  refine lv_iload_n C.1 C.2.1 dX7_goal_1 rfl (lv_at hl 1 rfl) ?_
  obtain ⟨σ1, q_2, hf⟩ := bvb hf
  refine z_callV C S 7 0 rfl (by decide) cf_7 ⟨_, rfl⟩ [.int v1] (m_X7_checkCar l G ad σ v1 σ1 q_2 _) kv_X7_checkCar tw_5_219 ⟨Nat.le_of_ble_eq_true rfl, Nat.le_of_ble_eq_true rfl⟩ rfl rfl (Nat.le_of_ble_eq_true rfl) hl.1 ⟨Nat.le_of_ble_eq_true rfl, Nat.le_of_ble_eq_true rfl⟩ dX7_goal_2 (fun H locs S => ?_)
  refine lv_aload_n C.1 C.2.1 dX7_goal_5 rfl (lv_at hl 0 rfl) ?_
  refine z_getR C S 7 0 rfl (by decide) cf_7 6 (by decide) _ (gr_7_6 G ad 0) tw_2_141 dX7_goal_6 ?_
  refine lv_aload_n C.1 C.2.1 dX7_goal_9 rfl (lv_at hl 0 rfl) ?_
  refine z_getR C S 7 0 rfl (by decide) cf_7 6 (by decide) _ (gr_7_6 G ad 0) tw_2_141 dX7_goal_10 ?_
  refine z_getR C S 4 0 rfl (by decide) cf_4 6 (by decide) _ (gr_4_6 G ad 0) tw_2_3 dX7_goal_13 ?_
  refine lv_iload_n C.1 C.2.1 dX7_goal_16 rfl (lv_at hl 1 rfl) ?_
  obtain ⟨g_17, hf⟩ := gd hf
  refine z_aald C S 25 0 rfl (by decide) 4 1 2 (4 * 0) rfl (fun _ => rfl) g_17 dX7_goal_17 ?_
  obtain ⟨r3, σ2, q_18, hf⟩ := bib hf
  refine z_callI C S 4 0 rfl (by decide) cf_4 ⟨_, rfl⟩ [.ref (ad 2 (4 * 0 + (v1).toNatClampNeg))] (m_X4_nearestGoal l G ad σ1 0 (4 * 0 + (v1).toNatClampNeg) r3 σ2 (by decide) (oc2 (by decide) g_17) q_18 _) kv_X4_nearestGoal tw_6_87 ⟨Nat.le_of_ble_eq_true rfl, Nat.le_of_ble_eq_true rfl⟩ rfl rfl (Nat.le_of_ble_eq_true rfl) hl.1 ⟨Nat.le_of_ble_eq_true rfl, Nat.le_of_ble_eq_true rfl⟩ dX7_goal_18 (fun H locs S => ?_)
  exact z_iret C S hf dX7_goal_21
theorem kv_X7_goal : KV yX7_goal cX7_goal 2 (Option.some FieldType.int) 1 := ⟨tw_6_86, tw_6_84, tw_6_85, tw_1_11, by decide, by decide, by decide +kernel⟩
theorem m_X7_goal (l : Launch) (G : Gx) (ad : Ad) (σ : Sg) (v1 : Int32) (r : Int32) (σ' : Sg)  (hf : f_X7_goal σ v1 = some (r, σ')) (sz : Nat) : z_MI l yX7_goal cX7_goal 2 (Option.some FieldType.int) 3 68 0 G ad σ sz [.ref (ad 7 0), .int v1] r σ' := by
  refine z_begin (by decide +kernel) (Nat.le_of_ble_eq_true rfl) [(0, .ref (ad 7 0)), (1, .int v1)] rfl (fun p e s m args below meth c ls C hz S hl => ?_)
  subst hz
  exact w_X7_goal_0 (res := (r, σ')) C σ v1 _ _ _ S hl  hf

theorem dX7_checkCall_0 : decode cX7_checkCall 0 = .ok (.iload_n 1, 1) := by decide +kernel
theorem dX7_checkCall_1 : decode cX7_checkCall 1 = .ok (.ifCond .lt 14, 3) := by decide +kernel
theorem dX7_checkCall_4 : decode cX7_checkCall 4 = .ok (.iload_n 1, 1) := by decide +kernel
theorem dX7_checkCall_5 : decode cX7_checkCall 5 = .ok (.aload_n 0, 1) := by decide +kernel
theorem dX7_checkCall_6 : decode cX7_checkCall 6 = .ok (.getfield 26, 3) := by decide +kernel
theorem dX7_checkCall_9 : decode cX7_checkCall 9 = .ok (.getfield 97, 3) := by decide +kernel
theorem dX7_checkCall_12 : decode cX7_checkCall 12 = .ok (.if_icmp .lt 13, 3) := by decide +kernel
theorem dX7_checkCall_15 : decode cX7_checkCall 15 = .ok (.new 90, 3) := by decide +kernel
theorem dX7_checkCall_18 : decode cX7_checkCall 18 = .ok (.dup, 1) := by decide +kernel
theorem dX7_checkCall_19 : decode cX7_checkCall 19 = .ok (.ldc 100, 2) := by decide +kernel
theorem dX7_checkCall_21 : decode cX7_checkCall 21 = .ok (.invokespecial 94, 3) := by decide +kernel
theorem dX7_checkCall_24 : decode cX7_checkCall 24 = .ok (.athrow, 1) := by decide +kernel
theorem dX7_checkCall_25 : decode cX7_checkCall 25 = .ok (.return_, 1) := by decide +kernel
/-! BusLifts.checkCall(I)V -/
noncomputable def f_X7_checkCall_15  (σ : Sg)  : Option Sg := none
noncomputable def f_X7_checkCall  (σ : Sg) (v1 : Int32) : Option Sg := if v1 < 0 then (f_X7_checkCall_15 σ) else (if v1 < (σ 4 0 2) then (some σ) else (f_X7_checkCall_15 σ))
set_option maxHeartbeats 4000000 in
set_option maxRecDepth 100000 in
theorem w_X7_checkCall_15 {p : Program} {l : Launch} {e : Env} {s : State} {m : MethodId} {args : Array Value} {below : List Frame} {meth : Method} {c : Code} {G : Gx} {ad : Ad} {res : Sg} (C : Cx p s m args meth c yX7_checkCall.cls cX7_checkCall 2 none G)  : ∀ (σ : Sg)  (H : Heap) (locs : List Loc) (ls : Array Slot), z_S 0 G ad σ (z_A 0 ad s.heap.size) s.heap H locs → lv_has ls 2 [] → f_X7_checkCall_15  σ  = some res → W p l e { frames := 0, cells := 0, slots := 0, locals := 0 } s m args below meth c H locs 0 0 (MQ below (va_Qv (S := Unit) (fun _ => True) (fun _ t => z_W 0 G ad res t.heap) (z_A 0 ad s.heap.size)) args s 0 0 (z_A 0 ad s.heap.size)) (F0 m 15 ls []) := by
  intro σ  H locs ls S hl  hf
  unfold f_X7_checkCall_15 at hf
  cases hf
set_option maxHeartbeats 4000000 in
set_option maxRecDepth 100000 in
theorem w_X7_checkCall_0 {p : Program} {l : Launch} {e : Env} {s : State} {m : MethodId} {args : Array Value} {below : List Frame} {meth : Method} {c : Code} {G : Gx} {ad : Ad} {res : Sg} (C : Cx p s m args meth c yX7_checkCall.cls cX7_checkCall 2 none G)  : ∀ (σ : Sg) (v1 : Int32) (H : Heap) (locs : List Loc) (ls : Array Slot), z_S 0 G ad σ (z_A 0 ad s.heap.size) s.heap H locs → lv_has ls 2 [(0, .ref (ad 7 0)), (1, .int v1)] → f_X7_checkCall  σ v1 = some res → W p l e { frames := 0, cells := 0, slots := 0, locals := 0 } s m args below meth c H locs 0 0 (MQ below (va_Qv (S := Unit) (fun _ => True) (fun _ t => z_W 0 G ad res t.heap) (z_A 0 ad s.heap.size)) args s 0 0 (z_A 0 ad s.heap.size)) (F0 m 0 ls []) := by
  intro σ v1 H locs ls S hl  hf
  unfold f_X7_checkCall at hf
  refine lv_iload_n C.1 C.2.1 dX7_checkCall_0 rfl (lv_at hl 1 rfl) ?_
  refine lv_if_lt (tgt := 15) C.1 C.2.1 dX7_checkCall_1 (by decide) (fun c_1 => ?_) (fun c_1 => ?_)
  · rw [if_pos c_1] at hf
    exact w_X7_checkCall_15 C _ _ _ _ S (lv_sub hl [] rfl) hf
  · rw [if_neg c_1] at hf
    refine lv_iload_n C.1 C.2.1 dX7_checkCall_4 rfl (lv_at hl 1 rfl) ?_
    refine lv_aload_n C.1 C.2.1 dX7_checkCall_5 rfl (lv_at hl 0 rfl) ?_
    refine z_getR C S 7 0 rfl (by decide) cf_7 6 (by decide) _ (gr_7_6 G ad 0) tw_2_141 dX7_checkCall_6 ?_
    refine z_getI C S 4 0 rfl (by decide) cf_4 2 (by decide) (gi_4_2 G ad 0) tw_1_230 dX7_checkCall_9 ?_
    refine lv_icmp_lt (tgt := 25) C.1 C.2.1 dX7_checkCall_12 (by decide) (fun c_12 => ?_) (fun c_12 => ?_)
    · rw [if_pos c_12] at hf
      exact z_vret C S hf dX7_checkCall_25
    · rw [if_neg c_12] at hf
      exact w_X7_checkCall_15 C _ _ _ _ S (lv_sub hl [] rfl) hf
theorem kv_X7_checkCall : KV yX7_checkCall cX7_checkCall 2 none 1 := ⟨tw_6_122, tw_6_121, tw_p_24, tw_1_11, by decide, by decide, by decide +kernel⟩
theorem m_X7_checkCall (l : Launch) (G : Gx) (ad : Ad) (σ : Sg) (v1 : Int32) (σ' : Sg)  (hf : f_X7_checkCall σ v1 = some σ') (sz : Nat) : z_MV l yX7_checkCall cX7_checkCall 2 none 0 0 0 G ad σ sz [.ref (ad 7 0), .int v1] σ' := by
  refine z_begin (by decide +kernel) (Nat.le_of_ble_eq_true rfl) [(0, .ref (ad 7 0)), (1, .int v1)] rfl (fun p e s m args below meth c ls C hz S hl => ?_)
  subst hz
  exact w_X7_checkCall_0 (res := σ') C σ v1 _ _ _ S hl  hf

theorem dX7_call_0 : decode cX7_call 0 = .ok (.aload_n 0, 1) := by decide +kernel
theorem dX7_call_1 : decode cX7_call 1 = .ok (.iload_n 1, 1) := by decide +kernel
theorem dX7_call_2 : decode cX7_call 2 = .ok (.invokevirtual 188, 3) := by decide +kernel
theorem dX7_call_5 : decode cX7_call 5 = .ok (.iload_n 2, 1) := by decide +kernel
theorem dX7_call_6 : decode cX7_call 6 = .ok (.iconst 0, 1) := by decide +kernel
theorem dX7_call_7 : decode cX7_call 7 = .ok (.bipush 10, 2) := by decide +kernel
theorem dX7_call_9 : decode cX7_call 9 = .ok (.invokestatic 115, 3) := by decide +kernel
theorem dX7_call_12 : decode cX7_call 12 = .ok (.aload_n 0, 1) := by decide +kernel
theorem dX7_call_13 : decode cX7_call 13 = .ok (.getfield 26, 3) := by decide +kernel
theorem dX7_call_16 : decode cX7_call 16 = .ok (.getfield 191, 3) := by decide +kernel
theorem dX7_call_19 : decode cX7_call 19 = .ok (.iload_n 1, 1) := by decide +kernel
theorem dX7_call_20 : decode cX7_call 20 = .ok (.aaload, 1) := by decide +kernel
theorem dX7_call_21 : decode cX7_call 21 = .ok (.astore_n 3, 1) := by decide +kernel
theorem dX7_call_22 : decode cX7_call 22 = .ok (.iload_n 2, 1) := by decide +kernel
theorem dX7_call_23 : decode cX7_call 23 = .ok (.tableswitch 107 0 9 #[53, 58, 63, 68, 73, 78, 83, 88, 93, 98], 53) := by decide +kernel
theorem dX7_call_76 : decode cX7_call 76 = .ok (.aload_n 3, 1) := by decide +kernel
theorem dX7_call_77 : decode cX7_call 77 = .ok (.getfield 195, 3) := by decide +kernel
theorem dX7_call_80 : decode cX7_call 80 = .ok (.ireturn, 1) := by decide +kernel
theorem dX7_call_81 : decode cX7_call 81 = .ok (.aload_n 3, 1) := by decide +kernel
theorem dX7_call_82 : decode cX7_call 82 = .ok (.getfield 200, 3) := by decide +kernel
theorem dX7_call_85 : decode cX7_call 85 = .ok (.ireturn, 1) := by decide +kernel
theorem dX7_call_86 : decode cX7_call 86 = .ok (.aload_n 3, 1) := by decide +kernel
theorem dX7_call_87 : decode cX7_call 87 = .ok (.getfield 203, 3) := by decide +kernel
theorem dX7_call_90 : decode cX7_call 90 = .ok (.ireturn, 1) := by decide +kernel
theorem dX7_call_91 : decode cX7_call 91 = .ok (.aload_n 3, 1) := by decide +kernel
theorem dX7_call_92 : decode cX7_call 92 = .ok (.getfield 206, 3) := by decide +kernel
theorem dX7_call_95 : decode cX7_call 95 = .ok (.ireturn, 1) := by decide +kernel
theorem dX7_call_96 : decode cX7_call 96 = .ok (.aload_n 3, 1) := by decide +kernel
theorem dX7_call_97 : decode cX7_call 97 = .ok (.getfield 209, 3) := by decide +kernel
theorem dX7_call_100 : decode cX7_call 100 = .ok (.ireturn, 1) := by decide +kernel
theorem dX7_call_101 : decode cX7_call 101 = .ok (.aload_n 3, 1) := by decide +kernel
theorem dX7_call_102 : decode cX7_call 102 = .ok (.getfield 212, 3) := by decide +kernel
theorem dX7_call_105 : decode cX7_call 105 = .ok (.ireturn, 1) := by decide +kernel
theorem dX7_call_106 : decode cX7_call 106 = .ok (.aload_n 3, 1) := by decide +kernel
theorem dX7_call_107 : decode cX7_call 107 = .ok (.getfield 215, 3) := by decide +kernel
theorem dX7_call_110 : decode cX7_call 110 = .ok (.ireturn, 1) := by decide +kernel
theorem dX7_call_111 : decode cX7_call 111 = .ok (.aload_n 3, 1) := by decide +kernel
theorem dX7_call_112 : decode cX7_call 112 = .ok (.getfield 218, 3) := by decide +kernel
theorem dX7_call_115 : decode cX7_call 115 = .ok (.ireturn, 1) := by decide +kernel
theorem dX7_call_116 : decode cX7_call 116 = .ok (.aload_n 3, 1) := by decide +kernel
theorem dX7_call_117 : decode cX7_call 117 = .ok (.getfield 221, 3) := by decide +kernel
theorem dX7_call_120 : decode cX7_call 120 = .ok (.ireturn, 1) := by decide +kernel
theorem dX7_call_121 : decode cX7_call 121 = .ok (.aload_n 0, 1) := by decide +kernel
theorem dX7_call_122 : decode cX7_call 122 = .ok (.getfield 26, 3) := by decide +kernel
theorem dX7_call_125 : decode cX7_call 125 = .ok (.iload_n 1, 1) := by decide +kernel
theorem dX7_call_126 : decode cX7_call 126 = .ok (.invokevirtual 224, 3) := by decide +kernel
theorem dX7_call_129 : decode cX7_call 129 = .ok (.ireturn, 1) := by decide +kernel
theorem dX7_call_130 : decode cX7_call 130 = .ok (.aload_n 3, 1) := by decide +kernel
theorem dX7_call_131 : decode cX7_call 131 = .ok (.getfield 227, 3) := by decide +kernel
theorem dX7_call_134 : decode cX7_call 134 = .ok (.ireturn, 1) := by decide +kernel
/-! BusLifts.call(II)I -/
noncomputable def f_X7_call  (σ : Sg) (v1 : Int32) (v2 : Int32) : Option (Int32 × Sg) := bv (f_X7_checkCall σ v1) fun σ1 => (bv (f_X7_checkRange σ1 v2 0 10) fun σ2 => (if v1 < 0 ∨ 24 ≤ (v1).toNatClampNeg then none else (if v2 = 0 then (some ((σ2 1 (24 * 0 + (v1).toNatClampNeg) 0), σ2)) else (if v2 = 1 then (some ((σ2 1 (24 * 0 + (v1).toNatClampNeg) 1), σ2)) else (if v2 = 2 then (some ((σ2 1 (24 * 0 + (v1).toNatClampNeg) 2), σ2)) else (if v2 = 3 then (some ((σ2 1 (24 * 0 + (v1).toNatClampNeg) 3), σ2)) else (if v2 = 4 then (some ((σ2 1 (24 * 0 + (v1).toNatClampNeg) 4), σ2)) else (if v2 = 5 then (some ((σ2 1 (24 * 0 + (v1).toNatClampNeg) 5), σ2)) else (if v2 = 6 then (some ((σ2 1 (24 * 0 + (v1).toNatClampNeg) 6), σ2)) else (if v2 = 7 then (some ((σ2 1 (24 * 0 + (v1).toNatClampNeg) 7), σ2)) else (if v2 = 8 then (some ((σ2 1 (24 * 0 + (v1).toNatClampNeg) 8), σ2)) else (if v2 = 9 then (bi (f_X4_holders σ2 0 v1) fun r4 σ3 => (some (r4, σ3))) else (some ((σ2 1 (24 * 0 + (v1).toNatClampNeg) 10), σ2))))))))))))))
set_option maxHeartbeats 4000000 in
set_option maxRecDepth 100000 in
theorem w_X7_call_0 {p : Program} {l : Launch} {e : Env} {s : State} {m : MethodId} {args : Array Value} {below : List Frame} {meth : Method} {c : Code} {G : Gx} {ad : Ad} {res : Int32 × Sg} (C : Cx p s m args meth c yX7_call.cls cX7_call 4 (Option.some FieldType.int) G)  : ∀ (σ : Sg) (v1 : Int32) (v2 : Int32) (H : Heap) (locs : List Loc) (ls : Array Slot), z_S 0 G ad σ (z_A 0 ad s.heap.size) s.heap H locs → lv_has ls 4 [(0, .ref (ad 7 0)), (1, .int v1), (2, .int v2)] → f_X7_call  σ v1 v2 = some res → W p l e { frames := 2, cells := 0, slots := 0, locals := 44 } s m args below meth c H locs 0 0 (MQ below (va_Qi (S := Unit) (fun r1 _ => r1 = res.1) (fun _ t => z_W 0 G ad res.2 t.heap) (z_A 0 ad s.heap.size)) args s 0 0 (z_A 0 ad s.heap.size)) (F0 m 0 ls []) := by
  intro σ v1 v2 H locs ls S hl  hf
  unfold f_X7_call at hf
  refine lv_aload_n C.1 C.2.1 dX7_call_0 rfl (lv_at hl 0 rfl) ?_
  refine lv_iload_n C.1 C.2.1 dX7_call_1 rfl (lv_at hl 1 rfl) ?_
  obtain ⟨σ1, q_2, hf⟩ := bvb hf
  refine z_callV C S 7 0 rfl (by decide) cf_7 ⟨_, rfl⟩ [.int v1] (m_X7_checkCall l G ad σ v1 σ1 q_2 _) kv_X7_checkCall tw_6_119 ⟨Nat.le_of_ble_eq_true rfl, Nat.le_of_ble_eq_true rfl⟩ rfl rfl (Nat.le_of_ble_eq_true rfl) hl.1 ⟨Nat.le_of_ble_eq_true rfl, Nat.le_of_ble_eq_true rfl⟩ dX7_call_2 (fun H locs S => ?_)
  refine lv_iload_n C.1 C.2.1 dX7_call_5 rfl (lv_at hl 2 rfl) ?_
  refine lv_iconst (v := 0) C.1 C.2.1 dX7_call_6 (by decide) ?_
  refine lv_bipush (v := 10) C.1 C.2.1 dX7_call_7 (by decide) ?_
  obtain ⟨σ2, q_9, hf⟩ := bvb hf
  refine z_callSV C S [.int v2, .int 0, .int 10] (m_X7_checkRange l G ad σ1 v2 0 10 σ2 q_9 _) kv_X7_checkRange tw_6_50 ⟨Nat.le_of_ble_eq_true rfl, Nat.le_of_ble_eq_true rfl⟩ rfl rfl (Nat.le_of_ble_eq_true rfl) hl.1 ⟨Nat.le_of_ble_eq_true rfl, Nat.le_of_ble_eq_true rfl⟩ dX7_call_9 (fun H locs S => ?_)
  refine lv_aload_n C.1 C.2.1 dX7_call_12 rfl (lv_at hl 0 rfl) ?_
  refine z_getR C S 7 0 rfl (by decide) cf_7 6 (by decide) _ (gr_7_6 G ad 0) tw_2_141 dX7_call_13 ?_
  refine z_getR C S 4 0 rfl (by decide) cf_4 7 (by decide) _ (gr_4_7 G ad 0) tw_2_6 dX7_call_16 ?_
  refine lv_iload_n C.1 C.2.1 dX7_call_19 rfl (lv_at hl 1 rfl) ?_
  obtain ⟨g_20, hf⟩ := gd hf
  refine z_aald C S 26 0 rfl (by decide) 24 2 1 (24 * 0) rfl (fun _ => rfl) g_20 dX7_call_20 ?_
  refine lv_astore_n (lv' := [(3, .ref (ad 1 (24 * 0 + (v1).toNatClampNeg))), (0, .ref (ad 7 0)), (1, .int v1), (2, .int v2)]) C.1 C.2.1 dX7_call_21 rfl hl (by decide) rfl (fun ls hl => ?_)
  refine lv_iload_n C.1 C.2.1 dX7_call_22 rfl (lv_at hl 3 rfl) ?_
  by_cases q_23_0 : v2 = 0
  · rw [if_pos q_23_0] at hf
    refine lv_tableIn (off := 53) (tgt := 76) C.1 C.2.1 dX7_call_23 (by rw [q_23_0]; decide) (by rw [q_23_0]; decide) (by rw [q_23_0]; decide) (by decide) ?_
    refine lv_aload_n C.1 C.2.1 dX7_call_76 rfl (lv_at hl 0 rfl) ?_
    refine z_getI C S 1 (24 * 0 + (v1).toNatClampNeg) rfl (oc1 (by decide) g_20) cf_1 0 (by decide) (gi_1_0 G ad (24 * 0 + (v1).toNatClampNeg)) tw_1_164 dX7_call_77 ?_
    exact z_iret C S hf dX7_call_80
  · rw [if_neg q_23_0] at hf
    by_cases q_23_1 : v2 = 1
    · rw [if_pos q_23_1] at hf
      refine lv_tableIn (off := 58) (tgt := 81) C.1 C.2.1 dX7_call_23 (by rw [q_23_1]; decide) (by rw [q_23_1]; decide) (by rw [q_23_1]; decide) (by decide) ?_
      refine lv_aload_n C.1 C.2.1 dX7_call_81 rfl (lv_at hl 0 rfl) ?_
      refine z_getI C S 1 (24 * 0 + (v1).toNatClampNeg) rfl (oc1 (by decide) g_20) cf_1 1 (by decide) (gi_1_1 G ad (24 * 0 + (v1).toNatClampNeg)) tw_1_167 dX7_call_82 ?_
      exact z_iret C S hf dX7_call_85
    · rw [if_neg q_23_1] at hf
      by_cases q_23_2 : v2 = 2
      · rw [if_pos q_23_2] at hf
        refine lv_tableIn (off := 63) (tgt := 86) C.1 C.2.1 dX7_call_23 (by rw [q_23_2]; decide) (by rw [q_23_2]; decide) (by rw [q_23_2]; decide) (by decide) ?_
        refine lv_aload_n C.1 C.2.1 dX7_call_86 rfl (lv_at hl 0 rfl) ?_
        refine z_getI C S 1 (24 * 0 + (v1).toNatClampNeg) rfl (oc1 (by decide) g_20) cf_1 2 (by decide) (gi_1_2 G ad (24 * 0 + (v1).toNatClampNeg)) tw_1_172 dX7_call_87 ?_
        exact z_iret C S hf dX7_call_90
      · rw [if_neg q_23_2] at hf
        by_cases q_23_3 : v2 = 3
        · rw [if_pos q_23_3] at hf
          refine lv_tableIn (off := 68) (tgt := 91) C.1 C.2.1 dX7_call_23 (by rw [q_23_3]; decide) (by rw [q_23_3]; decide) (by rw [q_23_3]; decide) (by decide) ?_
          refine lv_aload_n C.1 C.2.1 dX7_call_91 rfl (lv_at hl 0 rfl) ?_
          refine z_getI C S 1 (24 * 0 + (v1).toNatClampNeg) rfl (oc1 (by decide) g_20) cf_1 3 (by decide) (gi_1_3 G ad (24 * 0 + (v1).toNatClampNeg)) tw_1_176 dX7_call_92 ?_
          exact z_iret C S hf dX7_call_95
        · rw [if_neg q_23_3] at hf
          by_cases q_23_4 : v2 = 4
          · rw [if_pos q_23_4] at hf
            refine lv_tableIn (off := 73) (tgt := 96) C.1 C.2.1 dX7_call_23 (by rw [q_23_4]; decide) (by rw [q_23_4]; decide) (by rw [q_23_4]; decide) (by decide) ?_
            refine lv_aload_n C.1 C.2.1 dX7_call_96 rfl (lv_at hl 0 rfl) ?_
            refine z_getI C S 1 (24 * 0 + (v1).toNatClampNeg) rfl (oc1 (by decide) g_20) cf_1 4 (by decide) (gi_1_4 G ad (24 * 0 + (v1).toNatClampNeg)) tw_1_178 dX7_call_97 ?_
            exact z_iret C S hf dX7_call_100
          · rw [if_neg q_23_4] at hf
            by_cases q_23_5 : v2 = 5
            · rw [if_pos q_23_5] at hf
              refine lv_tableIn (off := 78) (tgt := 101) C.1 C.2.1 dX7_call_23 (by rw [q_23_5]; decide) (by rw [q_23_5]; decide) (by rw [q_23_5]; decide) (by decide) ?_
              refine lv_aload_n C.1 C.2.1 dX7_call_101 rfl (lv_at hl 0 rfl) ?_
              refine z_getI C S 1 (24 * 0 + (v1).toNatClampNeg) rfl (oc1 (by decide) g_20) cf_1 5 (by decide) (gi_1_5 G ad (24 * 0 + (v1).toNatClampNeg)) tw_1_181 dX7_call_102 ?_
              exact z_iret C S hf dX7_call_105
            · rw [if_neg q_23_5] at hf
              by_cases q_23_6 : v2 = 6
              · rw [if_pos q_23_6] at hf
                refine lv_tableIn (off := 83) (tgt := 106) C.1 C.2.1 dX7_call_23 (by rw [q_23_6]; decide) (by rw [q_23_6]; decide) (by rw [q_23_6]; decide) (by decide) ?_
                refine lv_aload_n C.1 C.2.1 dX7_call_106 rfl (lv_at hl 0 rfl) ?_
                refine z_getI C S 1 (24 * 0 + (v1).toNatClampNeg) rfl (oc1 (by decide) g_20) cf_1 6 (by decide) (gi_1_6 G ad (24 * 0 + (v1).toNatClampNeg)) tw_1_184 dX7_call_107 ?_
                exact z_iret C S hf dX7_call_110
              · rw [if_neg q_23_6] at hf
                by_cases q_23_7 : v2 = 7
                · rw [if_pos q_23_7] at hf
                  refine lv_tableIn (off := 88) (tgt := 111) C.1 C.2.1 dX7_call_23 (by rw [q_23_7]; decide) (by rw [q_23_7]; decide) (by rw [q_23_7]; decide) (by decide) ?_
                  refine lv_aload_n C.1 C.2.1 dX7_call_111 rfl (lv_at hl 0 rfl) ?_
                  refine z_getI C S 1 (24 * 0 + (v1).toNatClampNeg) rfl (oc1 (by decide) g_20) cf_1 7 (by decide) (gi_1_7 G ad (24 * 0 + (v1).toNatClampNeg)) tw_1_188 dX7_call_112 ?_
                  exact z_iret C S hf dX7_call_115
                · rw [if_neg q_23_7] at hf
                  by_cases q_23_8 : v2 = 8
                  · rw [if_pos q_23_8] at hf
                    refine lv_tableIn (off := 93) (tgt := 116) C.1 C.2.1 dX7_call_23 (by rw [q_23_8]; decide) (by rw [q_23_8]; decide) (by rw [q_23_8]; decide) (by decide) ?_
                    refine lv_aload_n C.1 C.2.1 dX7_call_116 rfl (lv_at hl 0 rfl) ?_
                    refine z_getI C S 1 (24 * 0 + (v1).toNatClampNeg) rfl (oc1 (by decide) g_20) cf_1 8 (by decide) (gi_1_8 G ad (24 * 0 + (v1).toNatClampNeg)) tw_1_191 dX7_call_117 ?_
                    exact z_iret C S hf dX7_call_120
                  · rw [if_neg q_23_8] at hf
                    by_cases q_23_9 : v2 = 9
                    · rw [if_pos q_23_9] at hf
                      refine lv_tableIn (off := 98) (tgt := 121) C.1 C.2.1 dX7_call_23 (by rw [q_23_9]; decide) (by rw [q_23_9]; decide) (by rw [q_23_9]; decide) (by decide) ?_
                      refine lv_aload_n C.1 C.2.1 dX7_call_121 rfl (lv_at hl 1 rfl) ?_
                      refine z_getR C S 7 0 rfl (by decide) cf_7 6 (by decide) _ (gr_7_6 G ad 0) tw_2_141 dX7_call_122 ?_
                      refine lv_iload_n C.1 C.2.1 dX7_call_125 rfl (lv_at hl 2 rfl) ?_
                      obtain ⟨r4, σ3, q_126, hf⟩ := bib hf
                      refine z_callI C S 4 0 rfl (by decide) cf_4 ⟨_, rfl⟩ [.int v1] (m_X4_holders l G ad σ2 0 v1 r4 σ3 (by decide) q_126 _) kv_X4_holders tw_6_124 ⟨Nat.le_of_ble_eq_true rfl, Nat.le_of_ble_eq_true rfl⟩ rfl rfl (Nat.le_of_ble_eq_true rfl) hl.1 ⟨Nat.le_of_ble_eq_true rfl, Nat.le_of_ble_eq_true rfl⟩ dX7_call_126 (fun H locs S => ?_)
                      exact z_iret C S hf dX7_call_129
                    · rw [if_neg q_23_9] at hf
                      refine lv_tableOut (tgt := 130) C.1 C.2.1 dX7_call_23 (tsw0_9 q_23_0 q_23_1 q_23_2 q_23_3 q_23_4 q_23_5 q_23_6 q_23_7 q_23_8 q_23_9) (by decide) ?_
                      refine lv_aload_n C.1 C.2.1 dX7_call_130 rfl (lv_at hl 0 rfl) ?_
                      refine z_getI C S 1 (24 * 0 + (v1).toNatClampNeg) rfl (oc1 (by decide) g_20) cf_1 10 (by decide) (gi_1_10 G ad (24 * 0 + (v1).toNatClampNeg)) tw_1_196 dX7_call_131 ?_
                      exact z_iret C S hf dX7_call_134
theorem kv_X7_call : KV yX7_call cX7_call 4 (Option.some FieldType.int) 2 := ⟨tw_6_118, tw_6_116, tw_6_117, tw_1_11, by decide, by decide, by decide +kernel⟩
theorem m_X7_call (l : Launch) (G : Gx) (ad : Ad) (σ : Sg) (v1 : Int32) (v2 : Int32) (r : Int32) (σ' : Sg)  (hf : f_X7_call σ v1 v2 = some (r, σ')) (sz : Nat) : z_MI l yX7_call cX7_call 4 (Option.some FieldType.int) 2 44 0 G ad σ sz [.ref (ad 7 0), .int v1, .int v2] r σ' := by
  refine z_begin (by decide +kernel) (Nat.le_of_ble_eq_true rfl) [(0, .ref (ad 7 0)), (1, .int v1), (2, .int v2)] rfl (fun p e s m args below meth c ls C hz S hl => ?_)
  subst hz
  exact w_X7_call_0 (res := (r, σ')) C σ v1 v2 _ _ _ S hl  hf

theorem dX7_holds_0 : decode cX7_holds 0 = .ok (.aload_n 0, 1) := by decide +kernel
theorem dX7_holds_1 : decode cX7_holds 1 = .ok (.iload_n 1, 1) := by decide +kernel
theorem dX7_holds_2 : decode cX7_holds 2 = .ok (.invokevirtual 144, 3) := by decide +kernel
theorem dX7_holds_5 : decode cX7_holds 5 = .ok (.aload_n 0, 1) := by decide +kernel
theorem dX7_holds_6 : decode cX7_holds 6 = .ok (.iload_n 2, 1) := by decide +kernel
theorem dX7_holds_7 : decode cX7_holds 7 = .ok (.invokevirtual 188, 3) := by decide +kernel
theorem dX7_holds_10 : decode cX7_holds 10 = .ok (.aload_n 0, 1) := by decide +kernel
theorem dX7_holds_11 : decode cX7_holds 11 = .ok (.getfield 26, 3) := by decide +kernel
theorem dX7_holds_14 : decode cX7_holds 14 = .ok (.getfield 147, 3) := by decide +kernel
theorem dX7_holds_17 : decode cX7_holds 17 = .ok (.iload_n 1, 1) := by decide +kernel
theorem dX7_holds_18 : decode cX7_holds 18 = .ok (.aaload, 1) := by decide +kernel
theorem dX7_holds_19 : decode cX7_holds 19 = .ok (.iload_n 2, 1) := by decide +kernel
theorem dX7_holds_20 : decode cX7_holds 20 = .ok (.invokevirtual 233, 3) := by decide +kernel
theorem dX7_holds_23 : decode cX7_holds 23 = .ok (.ireturn, 1) := by decide +kernel
/-! BusLifts.holds(II)Z -/
noncomputable def f_X7_holds  (σ : Sg) (v1 : Int32) (v2 : Int32) : Option (Int32 × Sg) := bv (f_X7_checkCar σ v1) fun σ1 => (bv (f_X7_checkCall σ1 v2) fun σ2 => (if v1 < 0 ∨ 4 ≤ (v1).toNatClampNeg then none else (bi (f_X2_isHolding σ2 (4 * 0 + (v1).toNatClampNeg) v2) fun r4 σ3 => (if ¬ (r4 = 0 ∨ r4 = 1) then none else (some (r4, σ3))))))
set_option maxHeartbeats 4000000 in
set_option maxRecDepth 100000 in
theorem w_X7_holds_0 {p : Program} {l : Launch} {e : Env} {s : State} {m : MethodId} {args : Array Value} {below : List Frame} {meth : Method} {c : Code} {G : Gx} {ad : Ad} {res : Int32 × Sg} (C : Cx p s m args meth c yX7_holds.cls cX7_holds 3 (Option.some FieldType.boolean) G)  : ∀ (σ : Sg) (v1 : Int32) (v2 : Int32) (H : Heap) (locs : List Loc) (ls : Array Slot), z_S 0 G ad σ (z_A 0 ad s.heap.size) s.heap H locs → lv_has ls 3 [(0, .ref (ad 7 0)), (1, .int v1), (2, .int v2)] → f_X7_holds  σ v1 v2 = some res → W p l e { frames := 1, cells := 0, slots := 0, locals := 21 } s m args below meth c H locs 0 0 (MQ below (va_Qi (S := Unit) (fun r1 _ => r1 = res.1) (fun _ t => z_W 0 G ad res.2 t.heap) (z_A 0 ad s.heap.size)) args s 0 0 (z_A 0 ad s.heap.size)) (F0 m 0 ls []) := by
  intro σ v1 v2 H locs ls S hl  hf
  unfold f_X7_holds at hf
  refine lv_aload_n C.1 C.2.1 dX7_holds_0 rfl (lv_at hl 0 rfl) ?_
  refine lv_iload_n C.1 C.2.1 dX7_holds_1 rfl (lv_at hl 1 rfl) ?_
  obtain ⟨σ1, q_2, hf⟩ := bvb hf
  refine z_callV C S 7 0 rfl (by decide) cf_7 ⟨_, rfl⟩ [.int v1] (m_X7_checkCar l G ad σ v1 σ1 q_2 _) kv_X7_checkCar tw_5_219 ⟨Nat.le_of_ble_eq_true rfl, Nat.le_of_ble_eq_true rfl⟩ rfl rfl (Nat.le_of_ble_eq_true rfl) hl.1 ⟨Nat.le_of_ble_eq_true rfl, Nat.le_of_ble_eq_true rfl⟩ dX7_holds_2 (fun H locs S => ?_)
  refine lv_aload_n C.1 C.2.1 dX7_holds_5 rfl (lv_at hl 0 rfl) ?_
  refine lv_iload_n C.1 C.2.1 dX7_holds_6 rfl (lv_at hl 2 rfl) ?_
  obtain ⟨σ2, q_7, hf⟩ := bvb hf
  refine z_callV C S 7 0 rfl (by decide) cf_7 ⟨_, rfl⟩ [.int v2] (m_X7_checkCall l G ad σ1 v2 σ2 q_7 _) kv_X7_checkCall tw_6_119 ⟨Nat.le_of_ble_eq_true rfl, Nat.le_of_ble_eq_true rfl⟩ rfl rfl (Nat.le_of_ble_eq_true rfl) hl.1 ⟨Nat.le_of_ble_eq_true rfl, Nat.le_of_ble_eq_true rfl⟩ dX7_holds_7 (fun H locs S => ?_)
  refine lv_aload_n C.1 C.2.1 dX7_holds_10 rfl (lv_at hl 0 rfl) ?_
  refine z_getR C S 7 0 rfl (by decide) cf_7 6 (by decide) _ (gr_7_6 G ad 0) tw_2_141 dX7_holds_11 ?_
  refine z_getR C S 4 0 rfl (by decide) cf_4 6 (by decide) _ (gr_4_6 G ad 0) tw_2_3 dX7_holds_14 ?_
  refine lv_iload_n C.1 C.2.1 dX7_holds_17 rfl (lv_at hl 1 rfl) ?_
  obtain ⟨g_18, hf⟩ := gd hf
  refine z_aald C S 25 0 rfl (by decide) 4 1 2 (4 * 0) rfl (fun _ => rfl) g_18 dX7_holds_18 ?_
  refine lv_iload_n C.1 C.2.1 dX7_holds_19 rfl (lv_at hl 2 rfl) ?_
  obtain ⟨r4, σ3, q_20, hf⟩ := bib hf
  refine z_callI C S 2 (4 * 0 + (v1).toNatClampNeg) rfl (oc2 (by decide) g_18) cf_2 ⟨_, rfl⟩ [.int v2] (m_X2_isHolding l G ad σ2 (4 * 0 + (v1).toNatClampNeg) v2 r4 σ3 (oc2 (by decide) g_18) q_20 _) kv_X2_isHolding tw_6_132 ⟨Nat.le_of_ble_eq_true rfl, Nat.le_of_ble_eq_true rfl⟩ rfl rfl (Nat.le_of_ble_eq_true rfl) hl.1 ⟨Nat.le_of_ble_eq_true rfl, Nat.le_of_ble_eq_true rfl⟩ dX7_holds_20 (fun H locs S => ?_)
  obtain ⟨g_23, hf⟩ := gd hf
  exact z_zret C S (nbz g_23).1 hf dX7_holds_23
theorem kv_X7_holds : KV yX7_holds cX7_holds 3 (Option.some FieldType.boolean) 2 := ⟨tw_6_131, tw_6_129, tw_6_130, tw_1_11, by decide, by decide, by decide +kernel⟩
theorem m_X7_holds (l : Launch) (G : Gx) (ad : Ad) (σ : Sg) (v1 : Int32) (v2 : Int32) (r : Int32) (σ' : Sg)  (hf : f_X7_holds σ v1 v2 = some (r, σ')) (sz : Nat) : z_MI l yX7_holds cX7_holds 3 (Option.some FieldType.boolean) 1 21 0 G ad σ sz [.ref (ad 7 0), .int v1, .int v2] r σ' := by
  refine z_begin (by decide +kernel) (Nat.le_of_ble_eq_true rfl) [(0, .ref (ad 7 0)), (1, .int v1), (2, .int v2)] rfl (fun p e s m args below meth c ls C hz S hl => ?_)
  subst hz
  exact w_X7_holds_0 (res := (r, σ')) C σ v1 v2 _ _ _ S hl  hf

theorem dX7_decides_0 : decode cX7_decides 0 = .ok (.aload_n 0, 1) := by decide +kernel
theorem dX7_decides_1 : decode cX7_decides 1 = .ok (.iload_n 1, 1) := by decide +kernel
theorem dX7_decides_2 : decode cX7_decides 2 = .ok (.invokevirtual 144, 3) := by decide +kernel
theorem dX7_decides_5 : decode cX7_decides 5 = .ok (.aload_n 0, 1) := by decide +kernel
theorem dX7_decides_6 : decode cX7_decides 6 = .ok (.iload_n 2, 1) := by decide +kernel
theorem dX7_decides_7 : decode cX7_decides 7 = .ok (.invokevirtual 188, 3) := by decide +kernel
theorem dX7_decides_10 : decode cX7_decides 10 = .ok (.aload_n 0, 1) := by decide +kernel
theorem dX7_decides_11 : decode cX7_decides 11 = .ok (.getfield 26, 3) := by decide +kernel
theorem dX7_decides_14 : decode cX7_decides 14 = .ok (.getfield 147, 3) := by decide +kernel
theorem dX7_decides_17 : decode cX7_decides 17 = .ok (.iload_n 1, 1) := by decide +kernel
theorem dX7_decides_18 : decode cX7_decides 18 = .ok (.aaload, 1) := by decide +kernel
theorem dX7_decides_19 : decode cX7_decides 19 = .ok (.getfield 240, 3) := by decide +kernel
theorem dX7_decides_22 : decode cX7_decides 22 = .ok (.iload_n 2, 1) := by decide +kernel
theorem dX7_decides_23 : decode cX7_decides 23 = .ok (.iaload, 1) := by decide +kernel
theorem dX7_decides_24 : decode cX7_decides 24 = .ok (.ireturn, 1) := by decide +kernel
/-! BusLifts.decides(II)I -/
noncomputable def f_X7_decides  (σ : Sg) (v1 : Int32) (v2 : Int32) : Option (Int32 × Sg) := bv (f_X7_checkCar σ v1) fun σ1 => (bv (f_X7_checkCall σ1 v2) fun σ2 => (if v1 < 0 ∨ 4 ≤ (v1).toNatClampNeg then none else (if v2 < 0 ∨ 24 ≤ (v2).toNatClampNeg then none else (some ((σ2 17 (4 * 0 + (v1).toNatClampNeg) (v2).toNatClampNeg), σ2)))))
set_option maxHeartbeats 4000000 in
set_option maxRecDepth 100000 in
theorem w_X7_decides_0 {p : Program} {l : Launch} {e : Env} {s : State} {m : MethodId} {args : Array Value} {below : List Frame} {meth : Method} {c : Code} {G : Gx} {ad : Ad} {res : Int32 × Sg} (C : Cx p s m args meth c yX7_decides.cls cX7_decides 3 (Option.some FieldType.int) G)  : ∀ (σ : Sg) (v1 : Int32) (v2 : Int32) (H : Heap) (locs : List Loc) (ls : Array Slot), z_S 0 G ad σ (z_A 0 ad s.heap.size) s.heap H locs → lv_has ls 3 [(0, .ref (ad 7 0)), (1, .int v1), (2, .int v2)] → f_X7_decides  σ v1 v2 = some res → W p l e { frames := 1, cells := 0, slots := 0, locals := 21 } s m args below meth c H locs 0 0 (MQ below (va_Qi (S := Unit) (fun r1 _ => r1 = res.1) (fun _ t => z_W 0 G ad res.2 t.heap) (z_A 0 ad s.heap.size)) args s 0 0 (z_A 0 ad s.heap.size)) (F0 m 0 ls []) := by
  intro σ v1 v2 H locs ls S hl  hf
  unfold f_X7_decides at hf
  refine lv_aload_n C.1 C.2.1 dX7_decides_0 rfl (lv_at hl 0 rfl) ?_
  refine lv_iload_n C.1 C.2.1 dX7_decides_1 rfl (lv_at hl 1 rfl) ?_
  obtain ⟨σ1, q_2, hf⟩ := bvb hf
  refine z_callV C S 7 0 rfl (by decide) cf_7 ⟨_, rfl⟩ [.int v1] (m_X7_checkCar l G ad σ v1 σ1 q_2 _) kv_X7_checkCar tw_5_219 ⟨Nat.le_of_ble_eq_true rfl, Nat.le_of_ble_eq_true rfl⟩ rfl rfl (Nat.le_of_ble_eq_true rfl) hl.1 ⟨Nat.le_of_ble_eq_true rfl, Nat.le_of_ble_eq_true rfl⟩ dX7_decides_2 (fun H locs S => ?_)
  refine lv_aload_n C.1 C.2.1 dX7_decides_5 rfl (lv_at hl 0 rfl) ?_
  refine lv_iload_n C.1 C.2.1 dX7_decides_6 rfl (lv_at hl 2 rfl) ?_
  obtain ⟨σ2, q_7, hf⟩ := bvb hf
  refine z_callV C S 7 0 rfl (by decide) cf_7 ⟨_, rfl⟩ [.int v2] (m_X7_checkCall l G ad σ1 v2 σ2 q_7 _) kv_X7_checkCall tw_6_119 ⟨Nat.le_of_ble_eq_true rfl, Nat.le_of_ble_eq_true rfl⟩ rfl rfl (Nat.le_of_ble_eq_true rfl) hl.1 ⟨Nat.le_of_ble_eq_true rfl, Nat.le_of_ble_eq_true rfl⟩ dX7_decides_7 (fun H locs S => ?_)
  refine lv_aload_n C.1 C.2.1 dX7_decides_10 rfl (lv_at hl 0 rfl) ?_
  refine z_getR C S 7 0 rfl (by decide) cf_7 6 (by decide) _ (gr_7_6 G ad 0) tw_2_141 dX7_decides_11 ?_
  refine z_getR C S 4 0 rfl (by decide) cf_4 6 (by decide) _ (gr_4_6 G ad 0) tw_2_3 dX7_decides_14 ?_
  refine lv_iload_n C.1 C.2.1 dX7_decides_17 rfl (lv_at hl 1 rfl) ?_
  obtain ⟨g_18, hf⟩ := gd hf
  refine z_aald C S 25 0 rfl (by decide) 4 1 2 (4 * 0) rfl (fun _ => rfl) g_18 dX7_decides_18 ?_
  refine z_getR C S 2 (4 * 0 + (v1).toNatClampNeg) rfl (oc2 (by decide) g_18) cf_2 11 (by decide) _ (gr_2_11 G ad (4 * 0 + (v1).toNatClampNeg)) tw_1_124 dX7_decides_19 ?_
  refine lv_iload_n C.1 C.2.1 dX7_decides_22 rfl (lv_at hl 2 rfl) ?_
  obtain ⟨g_23, hf⟩ := gd hf
  refine z_iald C S 17 (4 * 0 + (v1).toNatClampNeg) rfl (oc2 (by decide) g_18) 24 (fun _ => rfl) g_23 dX7_decides_23 ?_
  exact z_iret C S hf dX7_decides_24
theorem kv_X7_decides : KV yX7_decides cX7_decides 3 (Option.some FieldType.int) 2 := ⟨tw_6_136, tw_6_134, tw_6_135, tw_1_11, by decide, by decide, by decide +kernel⟩
theorem m_X7_decides (l : Launch) (G : Gx) (ad : Ad) (σ : Sg) (v1 : Int32) (v2 : Int32) (r : Int32) (σ' : Sg)  (hf : f_X7_decides σ v1 v2 = some (r, σ')) (sz : Nat) : z_MI l yX7_decides cX7_decides 3 (Option.some FieldType.int) 1 21 0 G ad σ sz [.ref (ad 7 0), .int v1, .int v2] r σ' := by
  refine z_begin (by decide +kernel) (Nat.le_of_ble_eq_true rfl) [(0, .ref (ad 7 0)), (1, .int v1), (2, .int v2)] rfl (fun p e s m args below meth c ls C hz S hl => ?_)
  subst hz
  exact w_X7_decides_0 (res := (r, σ')) C σ v1 v2 _ _ _ S hl  hf

theorem dX7_costNow_0 : decode cX7_costNow 0 = .ok (.aload_n 0, 1) := by decide +kernel
theorem dX7_costNow_1 : decode cX7_costNow 1 = .ok (.iload_n 1, 1) := by decide +kernel
theorem dX7_costNow_2 : decode cX7_costNow 2 = .ok (.invokevirtual 144, 3) := by decide +kernel
theorem dX7_costNow_5 : decode cX7_costNow 5 = .ok (.aload_n 0, 1) := by decide +kernel
theorem dX7_costNow_6 : decode cX7_costNow 6 = .ok (.iload_n 2, 1) := by decide +kernel
theorem dX7_costNow_7 : decode cX7_costNow 7 = .ok (.invokevirtual 188, 3) := by decide +kernel
theorem dX7_costNow_10 : decode cX7_costNow 10 = .ok (.aload_n 0, 1) := by decide +kernel
theorem dX7_costNow_11 : decode cX7_costNow 11 = .ok (.getfield 26, 3) := by decide +kernel
theorem dX7_costNow_14 : decode cX7_costNow 14 = .ok (.iload_n 1, 1) := by decide +kernel
theorem dX7_costNow_15 : decode cX7_costNow 15 = .ok (.aload_n 0, 1) := by decide +kernel
theorem dX7_costNow_16 : decode cX7_costNow 16 = .ok (.getfield 26, 3) := by decide +kernel
theorem dX7_costNow_19 : decode cX7_costNow 19 = .ok (.getfield 191, 3) := by decide +kernel
theorem dX7_costNow_22 : decode cX7_costNow 22 = .ok (.iload_n 2, 1) := by decide +kernel
theorem dX7_costNow_23 : decode cX7_costNow 23 = .ok (.aaload, 1) := by decide +kernel
theorem dX7_costNow_24 : decode cX7_costNow 24 = .ok (.getfield 195, 3) := by decide +kernel
theorem dX7_costNow_27 : decode cX7_costNow 27 = .ok (.invokevirtual 247, 3) := by decide +kernel
theorem dX7_costNow_30 : decode cX7_costNow 30 = .ok (.ireturn, 1) := by decide +kernel
/-! BusLifts.costNow(II)I -/
noncomputable def f_X7_costNow  (σ : Sg) (v1 : Int32) (v2 : Int32) : Option (Int32 × Sg) := bv (f_X7_checkCar σ v1) fun σ1 => (bv (f_X7_checkCall σ1 v2) fun σ2 => (if v2 < 0 ∨ 24 ≤ (v2).toNatClampNeg then none else (bi (f_X4_costFrom σ2 0 v1 (σ2 1 (24 * 0 + (v2).toNatClampNeg) 0)) fun r4 σ3 => (some (r4, σ3)))))
set_option maxHeartbeats 4000000 in
set_option maxRecDepth 100000 in
theorem w_X7_costNow_0 {p : Program} {l : Launch} {e : Env} {s : State} {m : MethodId} {args : Array Value} {below : List Frame} {meth : Method} {c : Code} {G : Gx} {ad : Ad} {res : Int32 × Sg} (C : Cx p s m args meth c yX7_costNow.cls cX7_costNow 3 (Option.some FieldType.int) G)  : ∀ (σ : Sg) (v1 : Int32) (v2 : Int32) (H : Heap) (locs : List Loc) (ls : Array Slot), z_S 0 G ad σ (z_A 0 ad s.heap.size) s.heap H locs → lv_has ls 3 [(0, .ref (ad 7 0)), (1, .int v1), (2, .int v2)] → f_X7_costNow  σ v1 v2 = some res → W p l e { frames := 2, cells := 0, slots := 0, locals := 45 } s m args below meth c H locs 0 0 (MQ below (va_Qi (S := Unit) (fun r1 _ => r1 = res.1) (fun _ t => z_W 0 G ad res.2 t.heap) (z_A 0 ad s.heap.size)) args s 0 0 (z_A 0 ad s.heap.size)) (F0 m 0 ls []) := by
  intro σ v1 v2 H locs ls S hl  hf
  unfold f_X7_costNow at hf
  refine lv_aload_n C.1 C.2.1 dX7_costNow_0 rfl (lv_at hl 0 rfl) ?_
  refine lv_iload_n C.1 C.2.1 dX7_costNow_1 rfl (lv_at hl 1 rfl) ?_
  obtain ⟨σ1, q_2, hf⟩ := bvb hf
  refine z_callV C S 7 0 rfl (by decide) cf_7 ⟨_, rfl⟩ [.int v1] (m_X7_checkCar l G ad σ v1 σ1 q_2 _) kv_X7_checkCar tw_5_219 ⟨Nat.le_of_ble_eq_true rfl, Nat.le_of_ble_eq_true rfl⟩ rfl rfl (Nat.le_of_ble_eq_true rfl) hl.1 ⟨Nat.le_of_ble_eq_true rfl, Nat.le_of_ble_eq_true rfl⟩ dX7_costNow_2 (fun H locs S => ?_)
  refine lv_aload_n C.1 C.2.1 dX7_costNow_5 rfl (lv_at hl 0 rfl) ?_
  refine lv_iload_n C.1 C.2.1 dX7_costNow_6 rfl (lv_at hl 2 rfl) ?_
  obtain ⟨σ2, q_7, hf⟩ := bvb hf
  refine z_callV C S 7 0 rfl (by decide) cf_7 ⟨_, rfl⟩ [.int v2] (m_X7_checkCall l G ad σ1 v2 σ2 q_7 _) kv_X7_checkCall tw_6_119 ⟨Nat.le_of_ble_eq_true rfl, Nat.le_of_ble_eq_true rfl⟩ rfl rfl (Nat.le_of_ble_eq_true rfl) hl.1 ⟨Nat.le_of_ble_eq_true rfl, Nat.le_of_ble_eq_true rfl⟩ dX7_costNow_7 (fun H locs S => ?_)
  refine lv_aload_n C.1 C.2.1 dX7_costNow_10 rfl (lv_at hl 0 rfl) ?_
  refine z_getR C S 7 0 rfl (by decide) cf_7 6 (by decide) _ (gr_7_6 G ad 0) tw_2_141 dX7_costNow_11 ?_
  refine lv_iload_n C.1 C.2.1 dX7_costNow_14 rfl (lv_at hl 1 rfl) ?_
  refine lv_aload_n C.1 C.2.1 dX7_costNow_15 rfl (lv_at hl 0 rfl) ?_
  refine z_getR C S 7 0 rfl (by decide) cf_7 6 (by decide) _ (gr_7_6 G ad 0) tw_2_141 dX7_costNow_16 ?_
  refine z_getR C S 4 0 rfl (by decide) cf_4 7 (by decide) _ (gr_4_7 G ad 0) tw_2_6 dX7_costNow_19 ?_
  refine lv_iload_n C.1 C.2.1 dX7_costNow_22 rfl (lv_at hl 2 rfl) ?_
  obtain ⟨g_23, hf⟩ := gd hf
  refine z_aald C S 26 0 rfl (by decide) 24 2 1 (24 * 0) rfl (fun _ => rfl) g_23 dX7_costNow_23 ?_
  refine z_getI C S 1 (24 * 0 + (v2).toNatClampNeg) rfl (oc1 (by decide) g_23) cf_1 0 (by decide) (gi_1_0 G ad (24 * 0 + (v2).toNatClampNeg)) tw_1_164 dX7_costNow_24 ?_
  obtain ⟨r4, σ3, q_27, hf⟩ := bib hf
  refine z_callI C S 4 0 rfl (by decide) cf_4 ⟨_, rfl⟩ [.int v1, .int (σ2 1 (24 * 0 + (v2).toNatClampNeg) 0)] (m_X4_costFrom l G ad σ2 0 v1 (σ2 1 (24 * 0 + (v2).toNatClampNeg) 0) r4 σ3 (by decide) q_27 _) kv_X4_costFrom tw_6_141 ⟨Nat.le_of_ble_eq_true rfl, Nat.le_of_ble_eq_true rfl⟩ rfl rfl (Nat.le_of_ble_eq_true rfl) hl.1 ⟨Nat.le_of_ble_eq_true rfl, Nat.le_of_ble_eq_true rfl⟩ dX7_costNow_27 (fun H locs S => ?_)
  exact z_iret C S hf dX7_costNow_30
theorem kv_X7_costNow : KV yX7_costNow cX7_costNow 3 (Option.some FieldType.int) 2 := ⟨tw_6_140, tw_6_138, tw_6_139, tw_1_11, by decide, by decide, by decide +kernel⟩
theorem m_X7_costNow (l : Launch) (G : Gx) (ad : Ad) (σ : Sg) (v1 : Int32) (v2 : Int32) (r : Int32) (σ' : Sg)  (hf : f_X7_costNow σ v1 v2 = some (r, σ')) (sz : Nat) : z_MI l yX7_costNow cX7_costNow 3 (Option.some FieldType.int) 2 45 0 G ad σ sz [.ref (ad 7 0), .int v1, .int v2] r σ' := by
  refine z_begin (by decide +kernel) (Nat.le_of_ble_eq_true rfl) [(0, .ref (ad 7 0)), (1, .int v1), (2, .int v2)] rfl (fun p e s m args below meth c ls C hz S hl => ?_)
  subst hz
  exact w_X7_costNow_0 (res := (r, σ')) C σ v1 v2 _ _ _ S hl  hf

theorem dX7_ownCost_0 : decode cX7_ownCost 0 = .ok (.aload_n 0, 1) := by decide +kernel
theorem dX7_ownCost_1 : decode cX7_ownCost 1 = .ok (.iload_n 1, 1) := by decide +kernel
theorem dX7_ownCost_2 : decode cX7_ownCost 2 = .ok (.invokevirtual 144, 3) := by decide +kernel
theorem dX7_ownCost_5 : decode cX7_ownCost 5 = .ok (.aload_n 0, 1) := by decide +kernel
theorem dX7_ownCost_6 : decode cX7_ownCost 6 = .ok (.iload_n 2, 1) := by decide +kernel
theorem dX7_ownCost_7 : decode cX7_ownCost 7 = .ok (.invokevirtual 188, 3) := by decide +kernel
theorem dX7_ownCost_10 : decode cX7_ownCost 10 = .ok (.aload_n 0, 1) := by decide +kernel
theorem dX7_ownCost_11 : decode cX7_ownCost 11 = .ok (.getfield 26, 3) := by decide +kernel
theorem dX7_ownCost_14 : decode cX7_ownCost 14 = .ok (.getfield 147, 3) := by decide +kernel
theorem dX7_ownCost_17 : decode cX7_ownCost 17 = .ok (.iload_n 1, 1) := by decide +kernel
theorem dX7_ownCost_18 : decode cX7_ownCost 18 = .ok (.aaload, 1) := by decide +kernel
theorem dX7_ownCost_19 : decode cX7_ownCost 19 = .ok (.iload_n 2, 1) := by decide +kernel
theorem dX7_ownCost_20 : decode cX7_ownCost 20 = .ok (.invokevirtual 237, 3) := by decide +kernel
theorem dX7_ownCost_23 : decode cX7_ownCost 23 = .ok (.ireturn, 1) := by decide +kernel
/-! BusLifts.ownCost(II)I -/
noncomputable def f_X7_ownCost  (σ : Sg) (v1 : Int32) (v2 : Int32) : Option (Int32 × Sg) := bv (f_X7_checkCar σ v1) fun σ1 => (bv (f_X7_checkCall σ1 v2) fun σ2 => (if v1 < 0 ∨ 4 ≤ (v1).toNatClampNeg then none else (bi (f_X2_knownOwnCost σ2 (4 * 0 + (v1).toNatClampNeg) v2) fun r4 σ3 => (some (r4, σ3)))))
set_option maxHeartbeats 4000000 in
set_option maxRecDepth 100000 in
theorem w_X7_ownCost_0 {p : Program} {l : Launch} {e : Env} {s : State} {m : MethodId} {args : Array Value} {below : List Frame} {meth : Method} {c : Code} {G : Gx} {ad : Ad} {res : Int32 × Sg} (C : Cx p s m args meth c yX7_ownCost.cls cX7_ownCost 3 (Option.some FieldType.int) G)  : ∀ (σ : Sg) (v1 : Int32) (v2 : Int32) (H : Heap) (locs : List Loc) (ls : Array Slot), z_S 0 G ad σ (z_A 0 ad s.heap.size) s.heap H locs → lv_has ls 3 [(0, .ref (ad 7 0)), (1, .int v1), (2, .int v2)] → f_X7_ownCost  σ v1 v2 = some res → W p l e { frames := 2, cells := 0, slots := 0, locals := 42 } s m args below meth c H locs 0 0 (MQ below (va_Qi (S := Unit) (fun r1 _ => r1 = res.1) (fun _ t => z_W 0 G ad res.2 t.heap) (z_A 0 ad s.heap.size)) args s 0 0 (z_A 0 ad s.heap.size)) (F0 m 0 ls []) := by
  intro σ v1 v2 H locs ls S hl  hf
  unfold f_X7_ownCost at hf
  refine lv_aload_n C.1 C.2.1 dX7_ownCost_0 rfl (lv_at hl 0 rfl) ?_
  refine lv_iload_n C.1 C.2.1 dX7_ownCost_1 rfl (lv_at hl 1 rfl) ?_
  obtain ⟨σ1, q_2, hf⟩ := bvb hf
  refine z_callV C S 7 0 rfl (by decide) cf_7 ⟨_, rfl⟩ [.int v1] (m_X7_checkCar l G ad σ v1 σ1 q_2 _) kv_X7_checkCar tw_5_219 ⟨Nat.le_of_ble_eq_true rfl, Nat.le_of_ble_eq_true rfl⟩ rfl rfl (Nat.le_of_ble_eq_true rfl) hl.1 ⟨Nat.le_of_ble_eq_true rfl, Nat.le_of_ble_eq_true rfl⟩ dX7_ownCost_2 (fun H locs S => ?_)
  refine lv_aload_n C.1 C.2.1 dX7_ownCost_5 rfl (lv_at hl 0 rfl) ?_
  refine lv_iload_n C.1 C.2.1 dX7_ownCost_6 rfl (lv_at hl 2 rfl) ?_
  obtain ⟨σ2, q_7, hf⟩ := bvb hf
  refine z_callV C S 7 0 rfl (by decide) cf_7 ⟨_, rfl⟩ [.int v2] (m_X7_checkCall l G ad σ1 v2 σ2 q_7 _) kv_X7_checkCall tw_6_119 ⟨Nat.le_of_ble_eq_true rfl, Nat.le_of_ble_eq_true rfl⟩ rfl rfl (Nat.le_of_ble_eq_true rfl) hl.1 ⟨Nat.le_of_ble_eq_true rfl, Nat.le_of_ble_eq_true rfl⟩ dX7_ownCost_7 (fun H locs S => ?_)
  refine lv_aload_n C.1 C.2.1 dX7_ownCost_10 rfl (lv_at hl 0 rfl) ?_
  refine z_getR C S 7 0 rfl (by decide) cf_7 6 (by decide) _ (gr_7_6 G ad 0) tw_2_141 dX7_ownCost_11 ?_
  refine z_getR C S 4 0 rfl (by decide) cf_4 6 (by decide) _ (gr_4_6 G ad 0) tw_2_3 dX7_ownCost_14 ?_
  refine lv_iload_n C.1 C.2.1 dX7_ownCost_17 rfl (lv_at hl 1 rfl) ?_
  obtain ⟨g_18, hf⟩ := gd hf
  refine z_aald C S 25 0 rfl (by decide) 4 1 2 (4 * 0) rfl (fun _ => rfl) g_18 dX7_ownCost_18 ?_
  refine lv_iload_n C.1 C.2.1 dX7_ownCost_19 rfl (lv_at hl 2 rfl) ?_
  obtain ⟨r4, σ3, q_20, hf⟩ := bib hf
  refine z_callI C S 2 (4 * 0 + (v1).toNatClampNeg) rfl (oc2 (by decide) g_18) cf_2 ⟨_, rfl⟩ [.int v2] (m_X2_knownOwnCost l G ad σ2 (4 * 0 + (v1).toNatClampNeg) v2 r4 σ3 (oc2 (by decide) g_18) q_20 _) kv_X2_knownOwnCost tw_6_154 ⟨Nat.le_of_ble_eq_true rfl, Nat.le_of_ble_eq_true rfl⟩ rfl rfl (Nat.le_of_ble_eq_true rfl) hl.1 ⟨Nat.le_of_ble_eq_true rfl, Nat.le_of_ble_eq_true rfl⟩ dX7_ownCost_20 (fun H locs S => ?_)
  exact z_iret C S hf dX7_ownCost_23
theorem kv_X7_ownCost : KV yX7_ownCost cX7_ownCost 3 (Option.some FieldType.int) 2 := ⟨tw_6_153, tw_6_151, tw_6_152, tw_1_11, by decide, by decide, by decide +kernel⟩
theorem m_X7_ownCost (l : Launch) (G : Gx) (ad : Ad) (σ : Sg) (v1 : Int32) (v2 : Int32) (r : Int32) (σ' : Sg)  (hf : f_X7_ownCost σ v1 v2 = some (r, σ')) (sz : Nat) : z_MI l yX7_ownCost cX7_ownCost 3 (Option.some FieldType.int) 2 42 0 G ad σ sz [.ref (ad 7 0), .int v1, .int v2] r σ' := by
  refine z_begin (by decide +kernel) (Nat.le_of_ble_eq_true rfl) [(0, .ref (ad 7 0)), (1, .int v1), (2, .int v2)] rfl (fun p e s m args below meth c ls C hz S hl => ?_)
  subst hz
  exact w_X7_ownCost_0 (res := (r, σ')) C σ v1 v2 _ _ _ S hl  hf

theorem dX7_noted_0 : decode cX7_noted 0 = .ok (.aload_n 0, 1) := by decide +kernel
theorem dX7_noted_1 : decode cX7_noted 1 = .ok (.iload_n 1, 1) := by decide +kernel
theorem dX7_noted_2 : decode cX7_noted 2 = .ok (.invokevirtual 144, 3) := by decide +kernel
theorem dX7_noted_5 : decode cX7_noted 5 = .ok (.aload_n 0, 1) := by decide +kernel
theorem dX7_noted_6 : decode cX7_noted 6 = .ok (.iload_n 2, 1) := by decide +kernel
theorem dX7_noted_7 : decode cX7_noted 7 = .ok (.invokevirtual 188, 3) := by decide +kernel
theorem dX7_noted_10 : decode cX7_noted 10 = .ok (.aload_n 0, 1) := by decide +kernel
theorem dX7_noted_11 : decode cX7_noted 11 = .ok (.iload_n 3, 1) := by decide +kernel
theorem dX7_noted_12 : decode cX7_noted 12 = .ok (.invokevirtual 144, 3) := by decide +kernel
theorem dX7_noted_15 : decode cX7_noted 15 = .ok (.aload_n 0, 1) := by decide +kernel
theorem dX7_noted_16 : decode cX7_noted 16 = .ok (.getfield 26, 3) := by decide +kernel
theorem dX7_noted_19 : decode cX7_noted 19 = .ok (.getfield 147, 3) := by decide +kernel
theorem dX7_noted_22 : decode cX7_noted 22 = .ok (.iload_n 1, 1) := by decide +kernel
theorem dX7_noted_23 : decode cX7_noted 23 = .ok (.aaload, 1) := by decide +kernel
theorem dX7_noted_24 : decode cX7_noted 24 = .ok (.iload_n 2, 1) := by decide +kernel
theorem dX7_noted_25 : decode cX7_noted 25 = .ok (.iload_n 3, 1) := by decide +kernel
theorem dX7_noted_26 : decode cX7_noted 26 = .ok (.invokevirtual 243, 3) := by decide +kernel
theorem dX7_noted_29 : decode cX7_noted 29 = .ok (.ireturn, 1) := by decide +kernel
/-! BusLifts.noted(III)I -/
noncomputable def f_X7_noted  (σ : Sg) (v1 : Int32) (v2 : Int32) (v3 : Int32) : Option (Int32 × Sg) := bv (f_X7_checkCar σ v1) fun σ1 => (bv (f_X7_checkCall σ1 v2) fun σ2 => (bv (f_X7_checkCar σ2 v3) fun σ3 => (if v1 < 0 ∨ 4 ≤ (v1).toNatClampNeg then none else (bi (f_X2_notedBid σ3 (4 * 0 + (v1).toNatClampNeg) v2 v3) fun r5 σ4 => (some (r5, σ4))))))
set_option maxHeartbeats 4000000 in
set_option maxRecDepth 100000 in
theorem w_X7_noted_0 {p : Program} {l : Launch} {e : Env} {s : State} {m : MethodId} {args : Array Value} {below : List Frame} {meth : Method} {c : Code} {G : Gx} {ad : Ad} {res : Int32 × Sg} (C : Cx p s m args meth c yX7_noted.cls cX7_noted 4 (Option.some FieldType.int) G)  : ∀ (σ : Sg) (v1 : Int32) (v2 : Int32) (v3 : Int32) (H : Heap) (locs : List Loc) (ls : Array Slot), z_S 0 G ad σ (z_A 0 ad s.heap.size) s.heap H locs → lv_has ls 4 [(0, .ref (ad 7 0)), (1, .int v1), (2, .int v2), (3, .int v3)] → f_X7_noted  σ v1 v2 v3 = some res → W p l e { frames := 1, cells := 0, slots := 0, locals := 22 } s m args below meth c H locs 0 0 (MQ below (va_Qi (S := Unit) (fun r1 _ => r1 = res.1) (fun _ t => z_W 0 G ad res.2 t.heap) (z_A 0 ad s.heap.size)) args s 0 0 (z_A 0 ad s.heap.size)) (F0 m 0 ls []) := by
  intro σ v1 v2 v3 H locs ls S hl  hf
  unfold f_X7_noted at hf
  refine lv_aload_n C.1 C.2.1 dX7_noted_0 rfl (lv_at hl 0 rfl) ?_
  refine lv_iload_n C.1 C.2.1 dX7_noted_1 rfl (lv_at hl 1 rfl) ?_
  obtain ⟨σ1, q_2, hf⟩ := bvb hf
  refine z_callV C S 7 0 rfl (by decide) cf_7 ⟨_, rfl⟩ [.int v1] (m_X7_checkCar l G ad σ v1 σ1 q_2 _) kv_X7_checkCar tw_5_219 ⟨Nat.le_of_ble_eq_true rfl, Nat.le_of_ble_eq_true rfl⟩ rfl rfl (Nat.le_of_ble_eq_true rfl) hl.1 ⟨Nat.le_of_ble_eq_true rfl, Nat.le_of_ble_eq_true rfl⟩ dX7_noted_2 (fun H locs S => ?_)
  refine lv_aload_n C.1 C.2.1 dX7_noted_5 rfl (lv_at hl 0 rfl) ?_
  refine lv_iload_n C.1 C.2.1 dX7_noted_6 rfl (lv_at hl 2 rfl) ?_
  obtain ⟨σ2, q_7, hf⟩ := bvb hf
  refine z_callV C S 7 0 rfl (by decide) cf_7 ⟨_, rfl⟩ [.int v2] (m_X7_checkCall l G ad σ1 v2 σ2 q_7 _) kv_X7_checkCall tw_6_119 ⟨Nat.le_of_ble_eq_true rfl, Nat.le_of_ble_eq_true rfl⟩ rfl rfl (Nat.le_of_ble_eq_true rfl) hl.1 ⟨Nat.le_of_ble_eq_true rfl, Nat.le_of_ble_eq_true rfl⟩ dX7_noted_7 (fun H locs S => ?_)
  refine lv_aload_n C.1 C.2.1 dX7_noted_10 rfl (lv_at hl 0 rfl) ?_
  refine lv_iload_n C.1 C.2.1 dX7_noted_11 rfl (lv_at hl 3 rfl) ?_
  obtain ⟨σ3, q_12, hf⟩ := bvb hf
  refine z_callV C S 7 0 rfl (by decide) cf_7 ⟨_, rfl⟩ [.int v3] (m_X7_checkCar l G ad σ2 v3 σ3 q_12 _) kv_X7_checkCar tw_5_219 ⟨Nat.le_of_ble_eq_true rfl, Nat.le_of_ble_eq_true rfl⟩ rfl rfl (Nat.le_of_ble_eq_true rfl) hl.1 ⟨Nat.le_of_ble_eq_true rfl, Nat.le_of_ble_eq_true rfl⟩ dX7_noted_12 (fun H locs S => ?_)
  refine lv_aload_n C.1 C.2.1 dX7_noted_15 rfl (lv_at hl 0 rfl) ?_
  refine z_getR C S 7 0 rfl (by decide) cf_7 6 (by decide) _ (gr_7_6 G ad 0) tw_2_141 dX7_noted_16 ?_
  refine z_getR C S 4 0 rfl (by decide) cf_4 6 (by decide) _ (gr_4_6 G ad 0) tw_2_3 dX7_noted_19 ?_
  refine lv_iload_n C.1 C.2.1 dX7_noted_22 rfl (lv_at hl 1 rfl) ?_
  obtain ⟨g_23, hf⟩ := gd hf
  refine z_aald C S 25 0 rfl (by decide) 4 1 2 (4 * 0) rfl (fun _ => rfl) g_23 dX7_noted_23 ?_
  refine lv_iload_n C.1 C.2.1 dX7_noted_24 rfl (lv_at hl 2 rfl) ?_
  refine lv_iload_n C.1 C.2.1 dX7_noted_25 rfl (lv_at hl 3 rfl) ?_
  obtain ⟨r5, σ4, q_26, hf⟩ := bib hf
  refine z_callI C S 2 (4 * 0 + (v1).toNatClampNeg) rfl (oc2 (by decide) g_23) cf_2 ⟨_, rfl⟩ [.int v2, .int v3] (m_X2_notedBid l G ad σ3 (4 * 0 + (v1).toNatClampNeg) v2 v3 r5 σ4 (oc2 (by decide) g_23) q_26 _) kv_X2_notedBid tw_6_163 ⟨Nat.le_of_ble_eq_true rfl, Nat.le_of_ble_eq_true rfl⟩ rfl rfl (Nat.le_of_ble_eq_true rfl) hl.1 ⟨Nat.le_of_ble_eq_true rfl, Nat.le_of_ble_eq_true rfl⟩ dX7_noted_26 (fun H locs S => ?_)
  exact z_iret C S hf dX7_noted_29
theorem kv_X7_noted : KV yX7_noted cX7_noted 4 (Option.some FieldType.int) 3 := ⟨tw_6_162, tw_6_160, tw_6_161, tw_1_11, by decide, by decide, by decide +kernel⟩
theorem m_X7_noted (l : Launch) (G : Gx) (ad : Ad) (σ : Sg) (v1 : Int32) (v2 : Int32) (v3 : Int32) (r : Int32) (σ' : Sg)  (hf : f_X7_noted σ v1 v2 v3 = some (r, σ')) (sz : Nat) : z_MI l yX7_noted cX7_noted 4 (Option.some FieldType.int) 1 22 0 G ad σ sz [.ref (ad 7 0), .int v1, .int v2, .int v3] r σ' := by
  refine z_begin (by decide +kernel) (Nat.le_of_ble_eq_true rfl) [(0, .ref (ad 7 0)), (1, .int v1), (2, .int v2), (3, .int v3)] rfl (fun p e s m args below meth c ls C hz S hl => ?_)
  subst hz
  exact w_X7_noted_0 (res := (r, σ')) C σ v1 v2 v3 _ _ _ S hl  hf

theorem dX7_hasLost_0 : decode cX7_hasLost 0 = .ok (.aload_n 0, 1) := by decide +kernel
theorem dX7_hasLost_1 : decode cX7_hasLost 1 = .ok (.iload_n 1, 1) := by decide +kernel
theorem dX7_hasLost_2 : decode cX7_hasLost 2 = .ok (.invokevirtual 144, 3) := by decide +kernel
theorem dX7_hasLost_5 : decode cX7_hasLost 5 = .ok (.aload_n 0, 1) := by decide +kernel
theorem dX7_hasLost_6 : decode cX7_hasLost 6 = .ok (.iload_n 2, 1) := by decide +kernel
theorem dX7_hasLost_7 : decode cX7_hasLost 7 = .ok (.invokevirtual 188, 3) := by decide +kernel
theorem dX7_hasLost_10 : decode cX7_hasLost 10 = .ok (.iload_n 3, 1) := by decide +kernel
theorem dX7_hasLost_11 : decode cX7_hasLost 11 = .ok (.iconst 0, 1) := by decide +kernel
theorem dX7_hasLost_12 : decode cX7_hasLost 12 = .ok (.iconst 3, 1) := by decide +kernel
theorem dX7_hasLost_13 : decode cX7_hasLost 13 = .ok (.invokestatic 115, 3) := by decide +kernel
theorem dX7_hasLost_16 : decode cX7_hasLost 16 = .ok (.aload_n 0, 1) := by decide +kernel
theorem dX7_hasLost_17 : decode cX7_hasLost 17 = .ok (.getfield 26, 3) := by decide +kernel
theorem dX7_hasLost_20 : decode cX7_hasLost 20 = .ok (.getfield 147, 3) := by decide +kernel
theorem dX7_hasLost_23 : decode cX7_hasLost 23 = .ok (.iload_n 1, 1) := by decide +kernel
theorem dX7_hasLost_24 : decode cX7_hasLost 24 = .ok (.aaload, 1) := by decide +kernel
theorem dX7_hasLost_25 : decode cX7_hasLost 25 = .ok (.iload_n 2, 1) := by decide +kernel
theorem dX7_hasLost_26 : decode cX7_hasLost 26 = .ok (.iload_n 3, 1) := by decide +kernel
theorem dX7_hasLost_27 : decode cX7_hasLost 27 = .ok (.invokevirtual 269, 3) := by decide +kernel
theorem dX7_hasLost_30 : decode cX7_hasLost 30 = .ok (.ireturn, 1) := by decide +kernel
/-! BusLifts.hasLost(III)Z -/
noncomputable def f_X7_hasLost  (σ : Sg) (v1 : Int32) (v2 : Int32) (v3 : Int32) : Option (Int32 × Sg) := bv (f_X7_checkCar σ v1) fun σ1 => (bv (f_X7_checkCall σ1 v2) fun σ2 => (bv (f_X7_checkRange σ2 v3 0 3) fun σ3 => (if v1 < 0 ∨ 4 ≤ (v1).toNatClampNeg then none else (bi (f_X2_lost σ3 (4 * 0 + (v1).toNatClampNeg) v2 v3) fun r5 σ4 => (if ¬ (r5 = 0 ∨ r5 = 1) then none else (some (r5, σ4)))))))
set_option maxHeartbeats 4000000 in
set_option maxRecDepth 100000 in
theorem w_X7_hasLost_0 {p : Program} {l : Launch} {e : Env} {s : State} {m : MethodId} {args : Array Value} {below : List Frame} {meth : Method} {c : Code} {G : Gx} {ad : Ad} {res : Int32 × Sg} (C : Cx p s m args meth c yX7_hasLost.cls cX7_hasLost 4 (Option.some FieldType.boolean) G)  : ∀ (σ : Sg) (v1 : Int32) (v2 : Int32) (v3 : Int32) (H : Heap) (locs : List Loc) (ls : Array Slot), z_S 0 G ad σ (z_A 0 ad s.heap.size) s.heap H locs → lv_has ls 4 [(0, .ref (ad 7 0)), (1, .int v1), (2, .int v2), (3, .int v3)] → f_X7_hasLost  σ v1 v2 v3 = some res → W p l e { frames := 1, cells := 0, slots := 0, locals := 22 } s m args below meth c H locs 0 0 (MQ below (va_Qi (S := Unit) (fun r1 _ => r1 = res.1) (fun _ t => z_W 0 G ad res.2 t.heap) (z_A 0 ad s.heap.size)) args s 0 0 (z_A 0 ad s.heap.size)) (F0 m 0 ls []) := by
  intro σ v1 v2 v3 H locs ls S hl  hf
  unfold f_X7_hasLost at hf
  refine lv_aload_n C.1 C.2.1 dX7_hasLost_0 rfl (lv_at hl 0 rfl) ?_
  refine lv_iload_n C.1 C.2.1 dX7_hasLost_1 rfl (lv_at hl 1 rfl) ?_
  obtain ⟨σ1, q_2, hf⟩ := bvb hf
  refine z_callV C S 7 0 rfl (by decide) cf_7 ⟨_, rfl⟩ [.int v1] (m_X7_checkCar l G ad σ v1 σ1 q_2 _) kv_X7_checkCar tw_5_219 ⟨Nat.le_of_ble_eq_true rfl, Nat.le_of_ble_eq_true rfl⟩ rfl rfl (Nat.le_of_ble_eq_true rfl) hl.1 ⟨Nat.le_of_ble_eq_true rfl, Nat.le_of_ble_eq_true rfl⟩ dX7_hasLost_2 (fun H locs S => ?_)
  refine lv_aload_n C.1 C.2.1 dX7_hasLost_5 rfl (lv_at hl 0 rfl) ?_
  refine lv_iload_n C.1 C.2.1 dX7_hasLost_6 rfl (lv_at hl 2 rfl) ?_
  obtain ⟨σ2, q_7, hf⟩ := bvb hf
  refine z_callV C S 7 0 rfl (by decide) cf_7 ⟨_, rfl⟩ [.int v2] (m_X7_checkCall l G ad σ1 v2 σ2 q_7 _) kv_X7_checkCall tw_6_119 ⟨Nat.le_of_ble_eq_true rfl, Nat.le_of_ble_eq_true rfl⟩ rfl rfl (Nat.le_of_ble_eq_true rfl) hl.1 ⟨Nat.le_of_ble_eq_true rfl, Nat.le_of_ble_eq_true rfl⟩ dX7_hasLost_7 (fun H locs S => ?_)
  refine lv_iload_n C.1 C.2.1 dX7_hasLost_10 rfl (lv_at hl 3 rfl) ?_
  refine lv_iconst (v := 0) C.1 C.2.1 dX7_hasLost_11 (by decide) ?_
  refine lv_iconst (v := 3) C.1 C.2.1 dX7_hasLost_12 (by decide) ?_
  obtain ⟨σ3, q_13, hf⟩ := bvb hf
  refine z_callSV C S [.int v3, .int 0, .int 3] (m_X7_checkRange l G ad σ2 v3 0 3 σ3 q_13 _) kv_X7_checkRange tw_6_50 ⟨Nat.le_of_ble_eq_true rfl, Nat.le_of_ble_eq_true rfl⟩ rfl rfl (Nat.le_of_ble_eq_true rfl) hl.1 ⟨Nat.le_of_ble_eq_true rfl, Nat.le_of_ble_eq_true rfl⟩ dX7_hasLost_13 (fun H locs S => ?_)
  refine lv_aload_n C.1 C.2.1 dX7_hasLost_16 rfl (lv_at hl 0 rfl) ?_
  refine z_getR C S 7 0 rfl (by decide) cf_7 6 (by decide) _ (gr_7_6 G ad 0) tw_2_141 dX7_hasLost_17 ?_
  refine z_getR C S 4 0 rfl (by decide) cf_4 6 (by decide) _ (gr_4_6 G ad 0) tw_2_3 dX7_hasLost_20 ?_
  refine lv_iload_n C.1 C.2.1 dX7_hasLost_23 rfl (lv_at hl 1 rfl) ?_
  obtain ⟨g_24, hf⟩ := gd hf
  refine z_aald C S 25 0 rfl (by decide) 4 1 2 (4 * 0) rfl (fun _ => rfl) g_24 dX7_hasLost_24 ?_
  refine lv_iload_n C.1 C.2.1 dX7_hasLost_25 rfl (lv_at hl 2 rfl) ?_
  refine lv_iload_n C.1 C.2.1 dX7_hasLost_26 rfl (lv_at hl 3 rfl) ?_
  obtain ⟨r5, σ4, q_27, hf⟩ := bib hf
  refine z_callI C S 2 (4 * 0 + (v1).toNatClampNeg) rfl (oc2 (by decide) g_24) cf_2 ⟨_, rfl⟩ [.int v2, .int v3] (m_X2_lost l G ad σ3 (4 * 0 + (v1).toNatClampNeg) v2 v3 r5 σ4 (oc2 (by decide) g_24) q_27 _) kv_X2_lost tw_6_171 ⟨Nat.le_of_ble_eq_true rfl, Nat.le_of_ble_eq_true rfl⟩ rfl rfl (Nat.le_of_ble_eq_true rfl) hl.1 ⟨Nat.le_of_ble_eq_true rfl, Nat.le_of_ble_eq_true rfl⟩ dX7_hasLost_27 (fun H locs S => ?_)
  obtain ⟨g_30, hf⟩ := gd hf
  exact z_zret C S (nbz g_30).1 hf dX7_hasLost_30
theorem kv_X7_hasLost : KV yX7_hasLost cX7_hasLost 4 (Option.some FieldType.boolean) 3 := ⟨tw_6_170, tw_6_168, tw_6_169, tw_1_11, by decide, by decide, by decide +kernel⟩
theorem m_X7_hasLost (l : Launch) (G : Gx) (ad : Ad) (σ : Sg) (v1 : Int32) (v2 : Int32) (v3 : Int32) (r : Int32) (σ' : Sg)  (hf : f_X7_hasLost σ v1 v2 v3 = some (r, σ')) (sz : Nat) : z_MI l yX7_hasLost cX7_hasLost 4 (Option.some FieldType.boolean) 1 22 0 G ad σ sz [.ref (ad 7 0), .int v1, .int v2, .int v3] r σ' := by
  refine z_begin (by decide +kernel) (Nat.le_of_ble_eq_true rfl) [(0, .ref (ad 7 0)), (1, .int v1), (2, .int v2), (3, .int v3)] rfl (fun p e s m args below meth c ls C hz S hl => ?_)
  subst hz
  exact w_X7_hasLost_0 (res := (r, σ')) C σ v1 v2 v3 _ _ _ S hl  hf

theorem dX7_sum_0 : decode cX7_sum 0 = .ok (.iconst 0, 1) := by decide +kernel
theorem dX7_sum_1 : decode cX7_sum 1 = .ok (.istore_n 1, 1) := by decide +kernel
theorem dX7_sum_2 : decode cX7_sum 2 = .ok (.iconst 0, 1) := by decide +kernel
theorem dX7_sum_3 : decode cX7_sum 3 = .ok (.istore_n 2, 1) := by decide +kernel
theorem dX7_sum_4 : decode cX7_sum 4 = .ok (.iload_n 2, 1) := by decide +kernel
theorem dX7_sum_5 : decode cX7_sum 5 = .ok (.aload_n 0, 1) := by decide +kernel
theorem dX7_sum_6 : decode cX7_sum 6 = .ok (.arraylength, 1) := by decide +kernel
theorem dX7_sum_7 : decode cX7_sum 7 = .ok (.if_icmp .ge 15, 3) := by decide +kernel
theorem dX7_sum_10 : decode cX7_sum 10 = .ok (.iload_n 1, 1) := by decide +kernel
theorem dX7_sum_11 : decode cX7_sum 11 = .ok (.aload_n 0, 1) := by decide +kernel
theorem dX7_sum_12 : decode cX7_sum 12 = .ok (.iload_n 2, 1) := by decide +kernel
theorem dX7_sum_13 : decode cX7_sum 13 = .ok (.iaload, 1) := by decide +kernel
theorem dX7_sum_14 : decode cX7_sum 14 = .ok (.iadd, 1) := by decide +kernel
theorem dX7_sum_15 : decode cX7_sum 15 = .ok (.istore_n 1, 1) := by decide +kernel
theorem dX7_sum_16 : decode cX7_sum 16 = .ok (.iinc 2 1, 3) := by decide +kernel
theorem dX7_sum_19 : decode cX7_sum 19 = .ok (.goto (-15), 3) := by decide +kernel
theorem dX7_sum_22 : decode cX7_sum 22 = .ok (.iload_n 1, 1) := by decide +kernel
theorem dX7_sum_23 : decode cX7_sum 23 = .ok (.ireturn, 1) := by decide +kernel
/-! BusLifts.sum([I)I -/
noncomputable def f_X7_sum_22  (σ : Sg) (v1 : Int32) : Option (Int32 × Sg) := some (v1, σ)
noncomputable def f_X7_sum_4  : Nat → Sg → Nat → Nat → Nat → Int32 → Int32 → Option (Int32 × Sg)
  | 0, _, _, _, _, _, _ => none
  | n + 1, σ, ka0, oa0, na0, v1, v2 => if (Int32.ofNat na0) ≤ v2 then (f_X7_sum_22 σ v1) else (if v2 < 0 ∨ na0 ≤ (v2).toNatClampNeg then none else (f_X7_sum_4  n σ ka0 oa0 na0 (v1 + (σ ka0 oa0 (v2).toNatClampNeg)) (v2 + 1)))
theorem f_X7_sum_4_s  (n : Nat) (σ : Sg) (ka0 oa0 na0 : Nat) (v1 : Int32) (v2 : Int32) : f_X7_sum_4  (n + 1) σ ka0 oa0 na0 v1 v2 = (if (Int32.ofNat na0) ≤ v2 then (f_X7_sum_22 σ v1) else (if v2 < 0 ∨ na0 ≤ (v2).toNatClampNeg then none else (f_X7_sum_4  n σ ka0 oa0 na0 (v1 + (σ ka0 oa0 (v2).toNatClampNeg)) (v2 + 1)))) := rfl
noncomputable def f_X7_sum  (σ : Sg) (ka0 oa0 na0 : Nat) : Option (Int32 × Sg) := f_X7_sum_4 FU σ ka0 oa0 na0 0 0
set_option maxHeartbeats 4000000 in
set_option maxRecDepth 100000 in
theorem w_X7_sum_22 {p : Program} {l : Launch} {e : Env} {s : State} {m : MethodId} {args : Array Value} {below : List Frame} {meth : Method} {c : Code} {G : Gx} {ad : Ad} {res : Int32 × Sg} (C : Cx p s m args meth c yX7_sum.cls cX7_sum 3 (Option.some FieldType.int) G)  : ∀ (σ : Sg) (v1 : Int32) (H : Heap) (locs : List Loc) (ls : Array Slot), z_S 0 G ad σ (z_A 0 ad s.heap.size) s.heap H locs → lv_has ls 3 [(1, .int v1)] → f_X7_sum_22  σ v1 = some res → W p l e { frames := 0, cells := 0, slots := 0, locals := 0 } s m args below meth c H locs 0 0 (MQ below (va_Qi (S := Unit) (fun r1 _ => r1 = res.1) (fun _ t => z_W 0 G ad res.2 t.heap) (z_A 0 ad s.heap.size)) args s 0 0 (z_A 0 ad s.heap.size)) (F0 m 22 ls []) := by
  intro σ v1 H locs ls S hl  hf
  unfold f_X7_sum_22 at hf
  refine lv_iload_n C.1 C.2.1 dX7_sum_22 rfl (lv_at hl 0 rfl) ?_
  exact z_iret C S hf dX7_sum_23
set_option maxHeartbeats 4000000 in
set_option maxRecDepth 100000 in
theorem w_X7_sum_4 {p : Program} {l : Launch} {e : Env} {s : State} {m : MethodId} {args : Array Value} {below : List Frame} {meth : Method} {c : Code} {G : Gx} {ad : Ad} {res : Int32 × Sg} (C : Cx p s m args meth c yX7_sum.cls cX7_sum 3 (Option.some FieldType.int) G)  : ∀ n : Nat, ∀ (σ : Sg) (ka0 oa0 na0 : Nat) (v1 : Int32) (v2 : Int32) (H : Heap) (locs : List Loc) (ls : Array Slot), z_S 0 G ad σ (z_A 0 ad s.heap.size) s.heap H locs → lv_has ls 3 [(0, .ref (ad ka0 oa0)), (1, .int v1), (2, .int v2)] → (z_side ka0 = 0) → (oa0 < z_cnt ka0) → (∀ (G : Gx) (ad : Ad) (o : Nat) (a : Nat → Int32), z_cel G ad ka0 o a = .inl (G.2.1 0, na0, .inl a)) → f_X7_sum_4  n σ ka0 oa0 na0 v1 v2 = some res → W p l e { frames := 0, cells := 0, slots := 0, locals := 0 } s m args below meth c H locs 0 0 (MQ below (va_Qi (S := Unit) (fun r1 _ => r1 = res.1) (fun _ t => z_W 0 G ad res.2 t.heap) (z_A 0 ad s.heap.size)) args s 0 0 (z_A 0 ad s.heap.size)) (F0 m 4 ls []) := by
  intro n
  induction n with
  | zero => intro σ ka0 oa0 na0 v1 v2 H locs ls S hl hs0 ho0 hc0 hf; cases hf
  | succ n ih =>
    intro σ ka0 oa0 na0 v1 v2 H locs ls S hl hs0 ho0 hc0 hf
    rw [f_X7_sum_4_s] at hf
    refine lv_iload_n C.1 C.2.1 dX7_sum_4 rfl (lv_at hl 2 rfl) ?_
    refine lv_aload_n C.1 C.2.1 dX7_sum_5 rfl (lv_at hl 0 rfl) ?_
    refine z_alen C S ka0 oa0 hs0 ho0 na0 (hc0 _ _ _) (v := (Int32.ofNat na0)) rfl dX7_sum_6 ?_
    refine lv_icmp_ge (tgt := 22) C.1 C.2.1 dX7_sum_7 (by decide) (fun c_7 => ?_) (fun c_7 => ?_)
    · rw [if_pos c_7] at hf
      exact w_X7_sum_22 C _ v1 _ _ _ S (lv_sub hl [1] rfl) hf
    · rw [if_neg c_7] at hf
      refine lv_iload_n C.1 C.2.1 dX7_sum_10 rfl (lv_at hl 1 rfl) ?_
      refine lv_aload_n C.1 C.2.1 dX7_sum_11 rfl (lv_at hl 0 rfl) ?_
      refine lv_iload_n C.1 C.2.1 dX7_sum_12 rfl (lv_at hl 2 rfl) ?_
      obtain ⟨g_13, hf⟩ := gd hf
      refine z_iald C S ka0 oa0 hs0 ho0 na0 (hc0 _ _ _) g_13 dX7_sum_13 ?_
      refine lv_iadd C.1 C.2.1 dX7_sum_14 ?_
      refine lv_istore_n (lv' := [(1, .int (v1 + (σ ka0 oa0 (v2).toNatClampNeg))), (0, .ref (ad ka0 oa0)), (2, .int v2)]) C.1 C.2.1 dX7_sum_15 rfl hl (by decide) rfl (fun ls hl => ?_)
      refine lv_iinc (v := (v2 + 1)) (lv' := [(2, .int (v2 + 1)), (1, .int (v1 + (σ ka0 oa0 (v2).toNatClampNeg))), (0, .ref (ad ka0 oa0))]) C.1 C.2.1 dX7_sum_16 hl (k := 2) rfl rfl (by decide) rfl (fun ls hl => ?_)
      refine lv_goto (tgt := 4) C.1 C.2.1 dX7_sum_19 (by decide) ?_
      exact ih _ ka0 oa0 na0 (v1 + (σ ka0 oa0 (v2).toNatClampNeg)) (v2 + 1) _ _ _ S (lv_sub hl [2, 1, 0] rfl) hs0 ho0 hc0 hf
set_option maxHeartbeats 4000000 in
set_option maxRecDepth 100000 in
theorem w_X7_sum_0 {p : Program} {l : Launch} {e : Env} {s : State} {m : MethodId} {args : Array Value} {below : List Frame} {meth : Method} {c : Code} {G : Gx} {ad : Ad} {res : Int32 × Sg} (C : Cx p s m args meth c yX7_sum.cls cX7_sum 3 (Option.some FieldType.int) G)  : ∀ (σ : Sg) (ka0 oa0 na0 : Nat) (H : Heap) (locs : List Loc) (ls : Array Slot), z_S 0 G ad σ (z_A 0 ad s.heap.size) s.heap H locs → lv_has ls 3 [(0, .ref (ad ka0 oa0))] → (z_side ka0 = 0) → (oa0 < z_cnt ka0) → (∀ (G : Gx) (ad : Ad) (o : Nat) (a : Nat → Int32), z_cel G ad ka0 o a = .inl (G.2.1 0, na0, .inl a)) → f_X7_sum  σ ka0 oa0 na0 = some res → W p l e { frames := 0, cells := 0, slots := 0, locals := 0 } s m args below meth c H locs 0 0 (MQ below (va_Qi (S := Unit) (fun r1 _ => r1 = res.1) (fun _ t => z_W 0 G ad res.2 t.heap) (z_A 0 ad s.heap.size)) args s 0 0 (z_A 0 ad s.heap.size)) (F0 m 0 ls []) := by
  intro σ ka0 oa0 na0 H locs ls S hl hs0 ho0 hc0 hf
  unfold f_X7_sum at hf
  refine lv_iconst (v := 0) C.1 C.2.1 dX7_sum_0 (by decide) ?_
  refine lv_istore_n (lv' := [(1, .int 0), (0, .ref (ad ka0 oa0))]) C.1 C.2.1 dX7_sum_1 rfl hl (by decide) rfl (fun ls hl => ?_)
  refine lv_iconst (v := 0) C.1 C.2.1 dX7_sum_2 (by decide) ?_
  refine lv_istore_n (lv' := [(2, .int 0), (1, .int 0), (0, .ref (ad ka0 oa0))]) C.1 C.2.1 dX7_sum_3 rfl hl (by decide) rfl (fun ls hl => ?_)
  exact w_X7_sum_4 C FU _ ka0 oa0 na0 0 0 _ _ _ S (lv_sub hl [2, 1, 0] rfl) hs0 ho0 hc0 hf
theorem kv_X7_sum : KS yX7_sum cX7_sum 3 (Option.some FieldType.int) 1 := ⟨tw_6_181, tw_6_180, tw_1_11, by decide, by decide, by decide +kernel⟩
theorem m_X7_sum (l : Launch) (G : Gx) (ad : Ad) (σ : Sg) (ka0 oa0 na0 : Nat) (r : Int32) (σ' : Sg) (hs0 : z_side ka0 = 0) (ho0 : oa0 < z_cnt ka0) (hc0 : ∀ (G : Gx) (ad : Ad) (o : Nat) (a : Nat → Int32), z_cel G ad ka0 o a = .inl (G.2.1 0, na0, .inl a)) (hf : f_X7_sum σ ka0 oa0 na0 = some (r, σ')) (sz : Nat) : z_MI l yX7_sum cX7_sum 3 (Option.some FieldType.int) 0 0 0 G ad σ sz [.ref (ad ka0 oa0)] r σ' := by
  refine z_begin (by decide +kernel) (Nat.le_of_ble_eq_true rfl) [(0, .ref (ad ka0 oa0))] rfl (fun p e s m args below meth c ls C hz S hl => ?_)
  subst hz
  exact w_X7_sum_0 (res := (r, σ')) C σ ka0 oa0 na0 _ _ _ S hl hs0 ho0 hc0 hf

theorem dX7_messages_0 : decode cX7_messages 0 = .ok (.iload_n 1, 1) := by decide +kernel
theorem dX7_messages_1 : decode cX7_messages 1 = .ok (.iconst (-1), 1) := by decide +kernel
theorem dX7_messages_2 : decode cX7_messages 2 = .ok (.iconst 3, 1) := by decide +kernel
theorem dX7_messages_3 : decode cX7_messages 3 = .ok (.invokestatic 115, 3) := by decide +kernel
theorem dX7_messages_6 : decode cX7_messages 6 = .ok (.iload_n 2, 1) := by decide +kernel
theorem dX7_messages_7 : decode cX7_messages 7 = .ok (.ifCond .eq 13, 3) := by decide +kernel
theorem dX7_messages_10 : decode cX7_messages 10 = .ok (.aload_n 0, 1) := by decide +kernel
theorem dX7_messages_11 : decode cX7_messages 11 = .ok (.getfield 26, 3) := by decide +kernel
theorem dX7_messages_14 : decode cX7_messages 14 = .ok (.getfield 259, 3) := by decide +kernel
theorem dX7_messages_17 : decode cX7_messages 17 = .ok (.goto 10, 3) := by decide +kernel
theorem dX7_messages_20 : decode cX7_messages 20 = .ok (.aload_n 0, 1) := by decide +kernel
theorem dX7_messages_21 : decode cX7_messages 21 = .ok (.getfield 26, 3) := by decide +kernel
theorem dX7_messages_24 : decode cX7_messages 24 = .ok (.getfield 262, 3) := by decide +kernel
theorem dX7_messages_27 : decode cX7_messages 27 = .ok (.astore_n 3, 1) := by decide +kernel
theorem dX7_messages_28 : decode cX7_messages 28 = .ok (.iload_n 1, 1) := by decide +kernel
theorem dX7_messages_29 : decode cX7_messages 29 = .ok (.ifCond .lt 7, 3) := by decide +kernel
theorem dX7_messages_32 : decode cX7_messages 32 = .ok (.aload_n 3, 1) := by decide +kernel
theorem dX7_messages_33 : decode cX7_messages 33 = .ok (.iload_n 1, 1) := by decide +kernel
theorem dX7_messages_34 : decode cX7_messages 34 = .ok (.iaload, 1) := by decide +kernel
theorem dX7_messages_35 : decode cX7_messages 35 = .ok (.ireturn, 1) := by decide +kernel
theorem dX7_messages_36 : decode cX7_messages 36 = .ok (.aload_n 3, 1) := by decide +kernel
theorem dX7_messages_37 : decode cX7_messages 37 = .ok (.invokestatic 265, 3) := by decide +kernel
theorem dX7_messages_40 : decode cX7_messages 40 = .ok (.ireturn, 1) := by decide +kernel
/-! BusLifts.messages(IZ)I -/
noncomputable def f_X7_messages_27  (σ : Sg) (v1 : Int32) (ka100 oa100 na100 : Nat) : Option (Int32 × Sg) := if v1 < 0 then (bi (f_X7_sum σ ka100 oa100 na100) fun r2 σ1 => (some (r2, σ1))) else (if v1 < 0 ∨ na100 ≤ (v1).toNatClampNeg then none else (some ((σ ka100 oa100 (v1).toNatClampNeg), σ)))
noncomputable def f_X7_messages  (σ : Sg) (v1 : Int32) (v2 : Int32) : Option (Int32 × Sg) := bv (f_X7_checkRange σ v1 (-1) 3) fun σ1 => (if v2 = 0 then (f_X7_messages_27 σ1 v1 13 0 4) else (f_X7_messages_27 σ1 v1 14 0 4))
set_option maxHeartbeats 4000000 in
set_option maxRecDepth 100000 in
theorem w_X7_messages_27 {p : Program} {l : Launch} {e : Env} {s : State} {m : MethodId} {args : Array Value} {below : List Frame} {meth : Method} {c : Code} {G : Gx} {ad : Ad} {res : Int32 × Sg} (C : Cx p s m args meth c yX7_messages.cls cX7_messages 4 (Option.some FieldType.int) G)  : ∀ (σ : Sg) (v1 : Int32) (ka100 oa100 na100 : Nat) (H : Heap) (locs : List Loc) (ls : Array Slot), z_S 0 G ad σ (z_A 0 ad s.heap.size) s.heap H locs → lv_has ls 4 [(1, .int v1)] → (z_side ka100 = 0) → (oa100 < z_cnt ka100) → (∀ (G : Gx) (ad : Ad) (o : Nat) (a : Nat → Int32), z_cel G ad ka100 o a = .inl (G.2.1 0, na100, .inl a)) → f_X7_messages_27  σ v1 ka100 oa100 na100 = some res → W p l e { frames := 1, cells := 0, slots := 0, locals := 22 } s m args below meth c H locs 0 0 (MQ below (va_Qi (S := Unit) (fun r1 _ => r1 = res.1) (fun _ t => z_W 0 G ad res.2 t.heap) (z_A 0 ad s.heap.size)) args s 0 0 (z_A 0 ad s.heap.size)) (F0 m 27 ls [.ref (ad ka100 oa100)]) := by
  intro σ v1 ka100 oa100 na100 H locs ls S hl hs100 ho100 hc100 hf
  unfold f_X7_messages_27 at hf
  refine lv_astore_n (lv' := [(3, .ref (ad ka100 oa100)), (1, .int v1)]) C.1 C.2.1 dX7_messages_27 rfl hl (by decide) rfl (fun ls hl => ?_)
  refine lv_iload_n C.1 C.2.1 dX7_messages_28 rfl (lv_at hl 1 rfl) ?_
  refine lv_if_lt (tgt := 36) C.1 C.2.1 dX7_messages_29 (by decide) (fun c_29 => ?_) (fun c_29 => ?_)
  · rw [if_pos c_29] at hf
    refine lv_aload_n C.1 C.2.1 dX7_messages_36 rfl (lv_at hl 0 rfl) ?_
    obtain ⟨r2, σ1, q_37, hf⟩ := bib hf
    refine z_callSI C S [.ref (ad ka100 oa100)] (m_X7_sum l G ad σ ka100 oa100 na100 r2 σ1 hs100 ho100 hc100 q_37 _) kv_X7_sum tw_6_179 ⟨Nat.le_of_ble_eq_true rfl, Nat.le_of_ble_eq_true rfl⟩ rfl rfl (Nat.le_of_ble_eq_true rfl) hl.1 ⟨Nat.le_of_ble_eq_true rfl, Nat.le_of_ble_eq_true rfl⟩ dX7_messages_37 (fun H locs S => ?_)
    exact z_iret C S hf dX7_messages_40
  · rw [if_neg c_29] at hf
    refine lv_aload_n C.1 C.2.1 dX7_messages_32 rfl (lv_at hl 0 rfl) ?_
    refine lv_iload_n C.1 C.2.1 dX7_messages_33 rfl (lv_at hl 1 rfl) ?_
    obtain ⟨g_34, hf⟩ := gd hf
    refine z_iald C S ka100 oa100 hs100 ho100 na100 (hc100 _ _ _) g_34 dX7_messages_34 ?_
    exact z_iret C S hf dX7_messages_35
set_option maxHeartbeats 4000000 in
set_option maxRecDepth 100000 in
theorem w_X7_messages_0 {p : Program} {l : Launch} {e : Env} {s : State} {m : MethodId} {args : Array Value} {below : List Frame} {meth : Method} {c : Code} {G : Gx} {ad : Ad} {res : Int32 × Sg} (C : Cx p s m args meth c yX7_messages.cls cX7_messages 4 (Option.some FieldType.int) G)  : ∀ (σ : Sg) (v1 : Int32) (v2 : Int32) (H : Heap) (locs : List Loc) (ls : Array Slot), z_S 0 G ad σ (z_A 0 ad s.heap.size) s.heap H locs → lv_has ls 4 [(0, .ref (ad 7 0)), (1, .int v1), (2, .int v2)] → f_X7_messages  σ v1 v2 = some res → W p l e { frames := 1, cells := 0, slots := 0, locals := 22 } s m args below meth c H locs 0 0 (MQ below (va_Qi (S := Unit) (fun r1 _ => r1 = res.1) (fun _ t => z_W 0 G ad res.2 t.heap) (z_A 0 ad s.heap.size)) args s 0 0 (z_A 0 ad s.heap.size)) (F0 m 0 ls []) := by
  intro σ v1 v2 H locs ls S hl  hf
  unfold f_X7_messages at hf
  refine lv_iload_n C.1 C.2.1 dX7_messages_0 rfl (lv_at hl 1 rfl) ?_
  refine lv_iconst (v := (-1)) C.1 C.2.1 dX7_messages_1 (by decide) ?_
  refine lv_iconst (v := 3) C.1 C.2.1 dX7_messages_2 (by decide) ?_
  obtain ⟨σ1, q_3, hf⟩ := bvb hf
  refine z_callSV C S [.int v1, .int (-1), .int 3] (m_X7_checkRange l G ad σ v1 (-1) 3 σ1 q_3 _) kv_X7_checkRange tw_6_50 ⟨Nat.le_of_ble_eq_true rfl, Nat.le_of_ble_eq_true rfl⟩ rfl rfl (Nat.le_of_ble_eq_true rfl) hl.1 ⟨Nat.le_of_ble_eq_true rfl, Nat.le_of_ble_eq_true rfl⟩ dX7_messages_3 (fun H locs S => ?_)
  refine lv_iload_n C.1 C.2.1 dX7_messages_6 rfl (lv_at hl 2 rfl) ?_
  refine lv_if_eq (tgt := 20) C.1 C.2.1 dX7_messages_7 (by decide) (fun c_7 => ?_) (fun c_7 => ?_)
  · rw [if_pos c_7] at hf
    refine lv_aload_n C.1 C.2.1 dX7_messages_20 rfl (lv_at hl 0 rfl) ?_
    refine z_getR C S 7 0 rfl (by decide) cf_7 6 (by decide) _ (gr_7_6 G ad 0) tw_2_141 dX7_messages_21 ?_
    refine z_getR C S 4 0 rfl (by decide) cf_4 9 (by decide) _ (gr_4_9 G ad 0) tw_2_11 dX7_messages_24 ?_
    exact w_X7_messages_27 C _ v1 13 0 4 _ _ _ S (lv_sub hl [1] rfl) rfl (by decide) (fun _ _ _ _ => rfl) hf
  · rw [if_neg c_7] at hf
    refine lv_aload_n C.1 C.2.1 dX7_messages_10 rfl (lv_at hl 0 rfl) ?_
    refine z_getR C S 7 0 rfl (by decide) cf_7 6 (by decide) _ (gr_7_6 G ad 0) tw_2_141 dX7_messages_11 ?_
    refine z_getR C S 4 0 rfl (by decide) cf_4 10 (by decide) _ (gr_4_10 G ad 0) tw_2_14 dX7_messages_14 ?_
    refine lv_goto (tgt := 27) C.1 C.2.1 dX7_messages_17 (by decide) ?_
    exact w_X7_messages_27 C _ v1 14 0 4 _ _ _ S (lv_sub hl [1] rfl) rfl (by decide) (fun _ _ _ _ => rfl) hf
theorem kv_X7_messages : KV yX7_messages cX7_messages 4 (Option.some FieldType.int) 2 := ⟨tw_6_178, tw_6_176, tw_6_177, tw_1_11, by decide, by decide, by decide +kernel⟩
theorem m_X7_messages (l : Launch) (G : Gx) (ad : Ad) (σ : Sg) (v1 : Int32) (v2 : Int32) (r : Int32) (σ' : Sg)  (hf : f_X7_messages σ v1 v2 = some (r, σ')) (sz : Nat) : z_MI l yX7_messages cX7_messages 4 (Option.some FieldType.int) 1 22 0 G ad σ sz [.ref (ad 7 0), .int v1, .int v2] r σ' := by
  refine z_begin (by decide +kernel) (Nat.le_of_ble_eq_true rfl) [(0, .ref (ad 7 0)), (1, .int v1), (2, .int v2)] rfl (fun p e s m args below meth c ls C hz S hl => ?_)
  subst hz
  exact w_X7_messages_0 (res := (r, σ')) C σ v1 v2 _ _ _ S hl  hf

theorem dX7_nobody_0 : decode cX7_nobody 0 = .ok (.iload_n 1, 1) := by decide +kernel
theorem dX7_nobody_1 : decode cX7_nobody 1 = .ok (.iconst 1, 1) := by decide +kernel
theorem dX7_nobody_2 : decode cX7_nobody 2 = .ok (.iconst 4, 1) := by decide +kernel
theorem dX7_nobody_3 : decode cX7_nobody 3 = .ok (.invokestatic 115, 3) := by decide +kernel
theorem dX7_nobody_6 : decode cX7_nobody 6 = .ok (.aload_n 0, 1) := by decide +kernel
theorem dX7_nobody_7 : decode cX7_nobody 7 = .ok (.getfield 26, 3) := by decide +kernel
theorem dX7_nobody_10 : decode cX7_nobody 10 = .ok (.getfield 273, 3) := by decide +kernel
theorem dX7_nobody_13 : decode cX7_nobody 13 = .ok (.iload_n 1, 1) := by decide +kernel
theorem dX7_nobody_14 : decode cX7_nobody 14 = .ok (.iaload, 1) := by decide +kernel
theorem dX7_nobody_15 : decode cX7_nobody 15 = .ok (.ireturn, 1) := by decide +kernel
/-! BusLifts.nobody(I)I -/
noncomputable def f_X7_nobody  (σ : Sg) (v1 : Int32) : Option (Int32 × Sg) := bv (f_X7_checkRange σ v1 1 4) fun σ1 => (if v1 < 0 ∨ 5 ≤ (v1).toNatClampNeg then none else (some ((σ1 15 0 (v1).toNatClampNeg), σ1)))
set_option maxHeartbeats 4000000 in
set_option maxRecDepth 100000 in
theorem w_X7_nobody_0 {p : Program} {l : Launch} {e : Env} {s : State} {m : MethodId} {args : Array Value} {below : List Frame} {meth : Method} {c : Code} {G : Gx} {ad : Ad} {res : Int32 × Sg} (C : Cx p s m args meth c yX7_nobody.cls cX7_nobody 2 (Option.some FieldType.int) G)  : ∀ (σ : Sg) (v1 : Int32) (H : Heap) (locs : List Loc) (ls : Array Slot), z_S 0 G ad σ (z_A 0 ad s.heap.size) s.heap H locs → lv_has ls 2 [(0, .ref (ad 7 0)), (1, .int v1)] → f_X7_nobody  σ v1 = some res → W p l e { frames := 1, cells := 0, slots := 0, locals := 22 } s m args below meth c H locs 0 0 (MQ below (va_Qi (S := Unit) (fun r1 _ => r1 = res.1) (fun _ t => z_W 0 G ad res.2 t.heap) (z_A 0 ad s.heap.size)) args s 0 0 (z_A 0 ad s.heap.size)) (F0 m 0 ls []) := by
  intro σ v1 H locs ls S hl  hf
  unfold f_X7_nobody at hf
  refine lv_iload_n C.1 C.2.1 dX7_nobody_0 rfl (lv_at hl 1 rfl) ?_
  refine lv_iconst (v := 1) C.1 C.2.1 dX7_nobody_1 (by decide) ?_
  refine lv_iconst (v := 4) C.1 C.2.1 dX7_nobody_2 (by decide) ?_
  obtain ⟨σ1, q_3, hf⟩ := bvb hf
  refine z_callSV C S [.int v1, .int 1, .int 4] (m_X7_checkRange l G ad σ v1 1 4 σ1 q_3 _) kv_X7_checkRange tw_6_50 ⟨Nat.le_of_ble_eq_true rfl, Nat.le_of_ble_eq_true rfl⟩ rfl rfl (Nat.le_of_ble_eq_true rfl) hl.1 ⟨Nat.le_of_ble_eq_true rfl, Nat.le_of_ble_eq_true rfl⟩ dX7_nobody_3 (fun H locs S => ?_)
  refine lv_aload_n C.1 C.2.1 dX7_nobody_6 rfl (lv_at hl 0 rfl) ?_
  refine z_getR C S 7 0 rfl (by decide) cf_7 6 (by decide) _ (gr_7_6 G ad 0) tw_2_141 dX7_nobody_7 ?_
  refine z_getR C S 4 0 rfl (by decide) cf_4 11 (by decide) _ (gr_4_11 G ad 0) tw_2_17 dX7_nobody_10 ?_
  refine lv_iload_n C.1 C.2.1 dX7_nobody_13 rfl (lv_at hl 1 rfl) ?_
  obtain ⟨g_14, hf⟩ := gd hf
  refine z_iald C S 15 0 rfl (by decide) 5 (fun _ => rfl) g_14 dX7_nobody_14 ?_
  exact z_iret C S hf dX7_nobody_15
theorem kv_X7_nobody : KV yX7_nobody cX7_nobody 2 (Option.some FieldType.int) 1 := ⟨tw_6_185, tw_6_183, tw_6_184, tw_1_11, by decide, by decide, by decide +kernel⟩
theorem m_X7_nobody (l : Launch) (G : Gx) (ad : Ad) (σ : Sg) (v1 : Int32) (r : Int32) (σ' : Sg)  (hf : f_X7_nobody σ v1 = some (r, σ')) (sz : Nat) : z_MI l yX7_nobody cX7_nobody 2 (Option.some FieldType.int) 1 22 0 G ad σ sz [.ref (ad 7 0), .int v1] r σ' := by
  refine z_begin (by decide +kernel) (Nat.le_of_ble_eq_true rfl) [(0, .ref (ad 7 0)), (1, .int v1)] rfl (fun p e s m args below meth c ls C hz S hl => ?_)
  subst hz
  exact w_X7_nobody_0 (res := (r, σ')) C σ v1 _ _ _ S hl  hf

theorem dX7_count_0 : decode cX7_count 0 = .ok (.iload_n 1, 1) := by decide +kernel
theorem dX7_count_1 : decode cX7_count 1 = .ok (.iconst 0, 1) := by decide +kernel
theorem dX7_count_2 : decode cX7_count 2 = .ok (.bipush 13, 2) := by decide +kernel
theorem dX7_count_4 : decode cX7_count 4 = .ok (.invokestatic 115, 3) := by decide +kernel
theorem dX7_count_7 : decode cX7_count 7 = .ok (.iload_n 1, 1) := by decide +kernel
theorem dX7_count_8 : decode cX7_count 8 = .ok (.tableswitch 149 0 13 #[72, 80, 88, 96, 149, 149, 149, 149, 149, 104, 112, 121, 130, 141], 72) := by decide +kernel
theorem dX7_count_80 : decode cX7_count 80 = .ok (.aload_n 0, 1) := by decide +kernel
theorem dX7_count_81 : decode cX7_count 81 = .ok (.getfield 26, 3) := by decide +kernel
theorem dX7_count_84 : decode cX7_count 84 = .ok (.getfield 102, 3) := by decide +kernel
theorem dX7_count_87 : decode cX7_count 87 = .ok (.ireturn, 1) := by decide +kernel
theorem dX7_count_88 : decode cX7_count 88 = .ok (.aload_n 0, 1) := by decide +kernel
theorem dX7_count_89 : decode cX7_count 89 = .ok (.getfield 26, 3) := by decide +kernel
theorem dX7_count_92 : decode cX7_count 92 = .ok (.getfield 87, 3) := by decide +kernel
theorem dX7_count_95 : decode cX7_count 95 = .ok (.ireturn, 1) := by decide +kernel
theorem dX7_count_96 : decode cX7_count 96 = .ok (.aload_n 0, 1) := by decide +kernel
theorem dX7_count_97 : decode cX7_count 97 = .ok (.getfield 26, 3) := by decide +kernel
theorem dX7_count_100 : decode cX7_count 100 = .ok (.getfield 97, 3) := by decide +kernel
theorem dX7_count_103 : decode cX7_count 103 = .ok (.ireturn, 1) := by decide +kernel
theorem dX7_count_104 : decode cX7_count 104 = .ok (.aload_n 0, 1) := by decide +kernel
theorem dX7_count_105 : decode cX7_count 105 = .ok (.getfield 26, 3) := by decide +kernel
theorem dX7_count_108 : decode cX7_count 108 = .ok (.getfield 121, 3) := by decide +kernel
theorem dX7_count_111 : decode cX7_count 111 = .ok (.ireturn, 1) := by decide +kernel
theorem dX7_count_112 : decode cX7_count 112 = .ok (.aload_n 0, 1) := by decide +kernel
theorem dX7_count_113 : decode cX7_count 113 = .ok (.getfield 26, 3) := by decide +kernel
theorem dX7_count_116 : decode cX7_count 116 = .ok (.getfield 124, 3) := by decide +kernel
theorem dX7_count_119 : decode cX7_count 119 = .ok (.ireturn, 1) := by decide +kernel
theorem dX7_count_120 : decode cX7_count 120 = .ok (.aload_n 0, 1) := by decide +kernel
theorem dX7_count_121 : decode cX7_count 121 = .ok (.getfield 26, 3) := by decide +kernel
theorem dX7_count_124 : decode cX7_count 124 = .ok (.iconst 1, 1) := by decide +kernel
theorem dX7_count_125 : decode cX7_count 125 = .ok (.invokevirtual 127, 3) := by decide +kernel
theorem dX7_count_128 : decode cX7_count 128 = .ok (.ireturn, 1) := by decide +kernel
theorem dX7_count_129 : decode cX7_count 129 = .ok (.aload_n 0, 1) := by decide +kernel
theorem dX7_count_130 : decode cX7_count 130 = .ok (.getfield 26, 3) := by decide +kernel
theorem dX7_count_133 : decode cX7_count 133 = .ok (.iconst 3, 1) := by decide +kernel
theorem dX7_count_134 : decode cX7_count 134 = .ok (.invokevirtual 127, 3) := by decide +kernel
theorem dX7_count_137 : decode cX7_count 137 = .ok (.ireturn, 1) := by decide +kernel
theorem dX7_count_138 : decode cX7_count 138 = .ok (.aload_n 0, 1) := by decide +kernel
theorem dX7_count_139 : decode cX7_count 139 = .ok (.getfield 26, 3) := by decide +kernel
theorem dX7_count_142 : decode cX7_count 142 = .ok (.getfield 131, 3) := by decide +kernel
theorem dX7_count_145 : decode cX7_count 145 = .ok (.getfield 135, 3) := by decide +kernel
theorem dX7_count_148 : decode cX7_count 148 = .ok (.ireturn, 1) := by decide +kernel
theorem dX7_count_149 : decode cX7_count 149 = .ok (.aload_n 0, 1) := by decide +kernel
theorem dX7_count_150 : decode cX7_count 150 = .ok (.getfield 39, 3) := by decide +kernel
theorem dX7_count_153 : decode cX7_count 153 = .ok (.getfield 140, 3) := by decide +kernel
theorem dX7_count_156 : decode cX7_count 156 = .ok (.ireturn, 1) := by decide +kernel
theorem dX7_count_157 : decode cX7_count 157 = .ok (.aload_n 0, 1) := by decide +kernel
theorem dX7_count_158 : decode cX7_count 158 = .ok (.getfield 26, 3) := by decide +kernel
theorem dX7_count_161 : decode cX7_count 161 = .ok (.getfield 141, 3) := by decide +kernel
theorem dX7_count_164 : decode cX7_count 164 = .ok (.iload_n 1, 1) := by decide +kernel
theorem dX7_count_165 : decode cX7_count 165 = .ok (.iconst 4, 1) := by decide +kernel
theorem dX7_count_166 : decode cX7_count 166 = .ok (.isub, 1) := by decide +kernel
theorem dX7_count_167 : decode cX7_count 167 = .ok (.iaload, 1) := by decide +kernel
theorem dX7_count_168 : decode cX7_count 168 = .ok (.ireturn, 1) := by decide +kernel
/-! BusLifts.count(I)I -/
noncomputable def f_X7_count_157  (σ : Sg) (v1 : Int32) : Option (Int32 × Sg) := if (v1 - 4) < 0 ∨ 5 ≤ ((v1 - 4)).toNatClampNeg then none else (some ((σ 12 0 ((v1 - 4)).toNatClampNeg), σ))
noncomputable def f_X7_count  (σ : Sg) (v1 : Int32) : Option (Int32 × Sg) := bv (f_X7_checkRange σ v1 0 13) fun σ1 => (if v1 = 0 then (some ((σ1 4 0 0), σ1)) else (if v1 = 1 then (some ((σ1 4 0 1), σ1)) else (if v1 = 2 then (some ((σ1 4 0 2), σ1)) else (if v1 = 3 then (some ((σ1 4 0 3), σ1)) else (if v1 = 4 then (f_X7_count_157 σ1 v1) else (if v1 = 5 then (f_X7_count_157 σ1 v1) else (if v1 = 6 then (f_X7_count_157 σ1 v1) else (if v1 = 7 then (f_X7_count_157 σ1 v1) else (if v1 = 8 then (f_X7_count_157 σ1 v1) else (if v1 = 9 then (some ((σ1 4 0 4), σ1)) else (if v1 = 10 then (bi (f_X4_countInState σ1 0 1) fun r3 σ2 => (some (r3, σ2))) else (if v1 = 11 then (bi (f_X4_countInState σ1 0 3) fun r5 σ4 => (some (r5, σ4))) else (if v1 = 12 then (some ((σ1 5 0 0), σ1)) else (if v1 = 13 then (some ((σ1 3 0 0), σ1)) else (f_X7_count_157 σ1 v1)))))))))))))))
set_option maxHeartbeats 4000000 in
set_option maxRecDepth 100000 in
theorem w_X7_count_157 {p : Program} {l : Launch} {e : Env} {s : State} {m : MethodId} {args : Array Value} {below : List Frame} {meth : Method} {c : Code} {G : Gx} {ad : Ad} {res : Int32 × Sg} (C : Cx p s m args meth c yX7_count.cls cX7_count 2 (Option.some FieldType.int) G)  : ∀ (σ : Sg) (v1 : Int32) (H : Heap) (locs : List Loc) (ls : Array Slot), z_S 0 G ad σ (z_A 0 ad s.heap.size) s.heap H locs → lv_has ls 2 [(0, .ref (ad 7 0)), (1, .int v1)] → f_X7_count_157  σ v1 = some res → W p l e { frames := 1, cells := 0, slots := 0, locals := 23 } s m args below meth c H locs 0 0 (MQ below (va_Qi (S := Unit) (fun r1 _ => r1 = res.1) (fun _ t => z_W 0 G ad res.2 t.heap) (z_A 0 ad s.heap.size)) args s 0 0 (z_A 0 ad s.heap.size)) (F0 m 157 ls []) := by
  intro σ v1 H locs ls S hl  hf
  unfold f_X7_count_157 at hf
  refine lv_aload_n C.1 C.2.1 dX7_count_157 rfl (lv_at hl 0 rfl) ?_
  refine z_getR C S 7 0 rfl (by decide) cf_7 6 (by decide) _ (gr_7_6 G ad 0) tw_2_141 dX7_count_158 ?_
  refine z_getR C S 4 0 rfl (by decide) cf_4 5 (by decide) _ (gr_4_5 G ad 0) tw_2_0 dX7_count_161 ?_
  refine lv_iload_n C.1 C.2.1 dX7_count_164 rfl (lv_at hl 1 rfl) ?_
  refine lv_iconst (v := 4) C.1 C.2.1 dX7_count_165 (by decide) ?_
  refine lv_isub C.1 C.2.1 dX7_count_166 ?_
  obtain ⟨g_167, hf⟩ := gd hf
  refine z_iald C S 12 0 rfl (by decide) 5 (fun _ => rfl) g_167 dX7_count_167 ?_
  exact z_iret C S hf dX7_count_168
set_option maxHeartbeats 4000000 in
set_option maxRecDepth 100000 in
theorem w_X7_count_0 {p : Program} {l : Launch} {e : Env} {s : State} {m : MethodId} {args : Array Value} {below : List Frame} {meth : Method} {c : Code} {G : Gx} {ad : Ad} {res : Int32 × Sg} (C : Cx p s m args meth c yX7_count.cls cX7_count 2 (Option.some FieldType.int) G)  : ∀ (σ : Sg) (v1 : Int32) (H : Heap) (locs : List Loc) (ls : Array Slot), z_S 0 G ad σ (z_A 0 ad s.heap.size) s.heap H locs → lv_has ls 2 [(0, .ref (ad 7 0)), (1, .int v1)] → f_X7_count  σ v1 = some res → W p l e { frames := 1, cells := 0, slots := 0, locals := 23 } s m args below meth c H locs 0 0 (MQ below (va_Qi (S := Unit) (fun r1 _ => r1 = res.1) (fun _ t => z_W 0 G ad res.2 t.heap) (z_A 0 ad s.heap.size)) args s 0 0 (z_A 0 ad s.heap.size)) (F0 m 0 ls []) := by
  intro σ v1 H locs ls S hl  hf
  unfold f_X7_count at hf
  refine lv_iload_n C.1 C.2.1 dX7_count_0 rfl (lv_at hl 1 rfl) ?_
  refine lv_iconst (v := 0) C.1 C.2.1 dX7_count_1 (by decide) ?_
  refine lv_bipush (v := 13) C.1 C.2.1 dX7_count_2 (by decide) ?_
  obtain ⟨σ1, q_4, hf⟩ := bvb hf
  refine z_callSV C S [.int v1, .int 0, .int 13] (m_X7_checkRange l G ad σ v1 0 13 σ1 q_4 _) kv_X7_checkRange tw_6_50 ⟨Nat.le_of_ble_eq_true rfl, Nat.le_of_ble_eq_true rfl⟩ rfl rfl (Nat.le_of_ble_eq_true rfl) hl.1 ⟨Nat.le_of_ble_eq_true rfl, Nat.le_of_ble_eq_true rfl⟩ dX7_count_4 (fun H locs S => ?_)
  refine lv_iload_n C.1 C.2.1 dX7_count_7 rfl (lv_at hl 1 rfl) ?_
  by_cases q_8_0 : v1 = 0
  · rw [if_pos q_8_0] at hf
    refine lv_tableIn (off := 72) (tgt := 80) C.1 C.2.1 dX7_count_8 (by rw [q_8_0]; decide) (by rw [q_8_0]; decide) (by rw [q_8_0]; decide) (by decide) ?_
    refine lv_aload_n C.1 C.2.1 dX7_count_80 rfl (lv_at hl 0 rfl) ?_
    refine z_getR C S 7 0 rfl (by decide) cf_7 6 (by decide) _ (gr_7_6 G ad 0) tw_2_141 dX7_count_81 ?_
    refine z_getI C S 4 0 rfl (by decide) cf_4 0 (by decide) (gi_4_0 G ad 0) tw_1_222 dX7_count_84 ?_
    exact z_iret C S hf dX7_count_87
  · rw [if_neg q_8_0] at hf
    by_cases q_8_1 : v1 = 1
    · rw [if_pos q_8_1] at hf
      refine lv_tableIn (off := 80) (tgt := 88) C.1 C.2.1 dX7_count_8 (by rw [q_8_1]; decide) (by rw [q_8_1]; decide) (by rw [q_8_1]; decide) (by decide) ?_
      refine lv_aload_n C.1 C.2.1 dX7_count_88 rfl (lv_at hl 0 rfl) ?_
      refine z_getR C S 7 0 rfl (by decide) cf_7 6 (by decide) _ (gr_7_6 G ad 0) tw_2_141 dX7_count_89 ?_
      refine z_getI C S 4 0 rfl (by decide) cf_4 1 (by decide) (gi_4_1 G ad 0) tw_1_226 dX7_count_92 ?_
      exact z_iret C S hf dX7_count_95
    · rw [if_neg q_8_1] at hf
      by_cases q_8_2 : v1 = 2
      · rw [if_pos q_8_2] at hf
        refine lv_tableIn (off := 88) (tgt := 96) C.1 C.2.1 dX7_count_8 (by rw [q_8_2]; decide) (by rw [q_8_2]; decide) (by rw [q_8_2]; decide) (by decide) ?_
        refine lv_aload_n C.1 C.2.1 dX7_count_96 rfl (lv_at hl 0 rfl) ?_
        refine z_getR C S 7 0 rfl (by decide) cf_7 6 (by decide) _ (gr_7_6 G ad 0) tw_2_141 dX7_count_97 ?_
        refine z_getI C S 4 0 rfl (by decide) cf_4 2 (by decide) (gi_4_2 G ad 0) tw_1_230 dX7_count_100 ?_
        exact z_iret C S hf dX7_count_103
      · rw [if_neg q_8_2] at hf
        by_cases q_8_3 : v1 = 3
        · rw [if_pos q_8_3] at hf
          refine lv_tableIn (off := 96) (tgt := 104) C.1 C.2.1 dX7_count_8 (by rw [q_8_3]; decide) (by rw [q_8_3]; decide) (by rw [q_8_3]; decide) (by decide) ?_
          refine lv_aload_n C.1 C.2.1 dX7_count_104 rfl (lv_at hl 0 rfl) ?_
          refine z_getR C S 7 0 rfl (by decide) cf_7 6 (by decide) _ (gr_7_6 G ad 0) tw_2_141 dX7_count_105 ?_
          refine z_getI C S 4 0 rfl (by decide) cf_4 3 (by decide) (gi_4_3 G ad 0) tw_1_233 dX7_count_108 ?_
          exact z_iret C S hf dX7_count_111
        · rw [if_neg q_8_3] at hf
          by_cases q_8_4 : v1 = 4
          · rw [if_pos q_8_4] at hf
            refine lv_tableIn (off := 149) (tgt := 157) C.1 C.2.1 dX7_count_8 (by rw [q_8_4]; decide) (by rw [q_8_4]; decide) (by rw [q_8_4]; decide) (by decide) ?_
            exact w_X7_count_157 C _ v1 _ _ _ S (lv_sub hl [0, 1] rfl) hf
          · rw [if_neg q_8_4] at hf
            by_cases q_8_5 : v1 = 5
            · rw [if_pos q_8_5] at hf
              refine lv_tableIn (off := 149) (tgt := 157) C.1 C.2.1 dX7_count_8 (by rw [q_8_5]; decide) (by rw [q_8_5]; decide) (by rw [q_8_5]; decide) (by decide) ?_
              exact w_X7_count_157 C _ v1 _ _ _ S (lv_sub hl [0, 1] rfl) hf
            · rw [if_neg q_8_5] at hf
              by_cases q_8_6 : v1 = 6
              · rw [if_pos q_8_6] at hf
                refine lv_tableIn (off := 149) (tgt := 157) C.1 C.2.1 dX7_count_8 (by rw [q_8_6]; decide) (by rw [q_8_6]; decide) (by rw [q_8_6]; decide) (by decide) ?_
                exact w_X7_count_157 C _ v1 _ _ _ S (lv_sub hl [0, 1] rfl) hf
              · rw [if_neg q_8_6] at hf
                by_cases q_8_7 : v1 = 7
                · rw [if_pos q_8_7] at hf
                  refine lv_tableIn (off := 149) (tgt := 157) C.1 C.2.1 dX7_count_8 (by rw [q_8_7]; decide) (by rw [q_8_7]; decide) (by rw [q_8_7]; decide) (by decide) ?_
                  exact w_X7_count_157 C _ v1 _ _ _ S (lv_sub hl [0, 1] rfl) hf
                · rw [if_neg q_8_7] at hf
                  by_cases q_8_8 : v1 = 8
                  · rw [if_pos q_8_8] at hf
                    refine lv_tableIn (off := 149) (tgt := 157) C.1 C.2.1 dX7_count_8 (by rw [q_8_8]; decide) (by rw [q_8_8]; decide) (by rw [q_8_8]; decide) (by decide) ?_
                    exact w_X7_count_157 C _ v1 _ _ _ S (lv_sub hl [0, 1] rfl) hf
                  · rw [if_neg q_8_8] at hf
                    by_cases q_8_9 : v1 = 9
                    · rw [if_pos q_8_9] at hf
                      refine lv_tableIn (off := 104) (tgt := 112) C.1 C.2.1 dX7_count_8 (by rw [q_8_9]; decide) (by rw [q_8_9]; decide) (by rw [q_8_9]; decide) (by decide) ?_
                      refine lv_aload_n C.1 C.2.1 dX7_count_112 rfl (lv_at hl 0 rfl) ?_
                      refine z_getR C S 7 0 rfl (by decide) cf_7 6 (by decide) _ (gr_7_6 G ad 0) tw_2_141 dX7_count_113 ?_
                      refine z_getI C S 4 0 rfl (by decide) cf_4 4 (by decide) (gi_4_4 G ad 0) tw_1_236 dX7_count_116 ?_
                      exact z_iret C S hf dX7_count_119
                    · rw [if_neg q_8_9] at hf
                      by_cases q_8_10 : v1 = 10
                      · rw [if_pos q_8_10] at hf
                        refine lv_tableIn (off := 112) (tgt := 120) C.1 C.2.1 dX7_count_8 (by rw [q_8_10]; decide) (by rw [q_8_10]; decide) (by rw [q_8_10]; decide) (by decide) ?_
                        refine lv_aload_n C.1 C.2.1 dX7_count_120 rfl (lv_at hl 0 rfl) ?_
                        refine z_getR C S 7 0 rfl (by decide) cf_7 6 (by decide) _ (gr_7_6 G ad 0) tw_2_141 dX7_count_121 ?_
                        refine lv_iconst (v := 1) C.1 C.2.1 dX7_count_124 (by decide) ?_
                        obtain ⟨r3, σ2, q_125, hf⟩ := bib hf
                        refine z_callI C S 4 0 rfl (by decide) cf_4 ⟨_, rfl⟩ [.int 1] (m_X4_countInState l G ad σ1 0 1 r3 σ2 (by decide) q_125 _) kv_X4_countInState tw_6_190 ⟨Nat.le_of_ble_eq_true rfl, Nat.le_of_ble_eq_true rfl⟩ rfl rfl (Nat.le_of_ble_eq_true rfl) hl.1 ⟨Nat.le_of_ble_eq_true rfl, Nat.le_of_ble_eq_true rfl⟩ dX7_count_125 (fun H locs S => ?_)
                        exact z_iret C S hf dX7_count_128
                      · rw [if_neg q_8_10] at hf
                        by_cases q_8_11 : v1 = 11
                        · rw [if_pos q_8_11] at hf
                          refine lv_tableIn (off := 121) (tgt := 129) C.1 C.2.1 dX7_count_8 (by rw [q_8_11]; decide) (by rw [q_8_11]; decide) (by rw [q_8_11]; decide) (by decide) ?_
                          refine lv_aload_n C.1 C.2.1 dX7_count_129 rfl (lv_at hl 0 rfl) ?_
                          refine z_getR C S 7 0 rfl (by decide) cf_7 6 (by decide) _ (gr_7_6 G ad 0) tw_2_141 dX7_count_130 ?_
                          refine lv_iconst (v := 3) C.1 C.2.1 dX7_count_133 (by decide) ?_
                          obtain ⟨r5, σ4, q_134, hf⟩ := bib hf
                          refine z_callI C S 4 0 rfl (by decide) cf_4 ⟨_, rfl⟩ [.int 3] (m_X4_countInState l G ad σ1 0 3 r5 σ4 (by decide) q_134 _) kv_X4_countInState tw_6_190 ⟨Nat.le_of_ble_eq_true rfl, Nat.le_of_ble_eq_true rfl⟩ rfl rfl (Nat.le_of_ble_eq_true rfl) hl.1 ⟨Nat.le_of_ble_eq_true rfl, Nat.le_of_ble_eq_true rfl⟩ dX7_count_134 (fun H locs S => ?_)
                          exact z_iret C S hf dX7_count_137
                        · rw [if_neg q_8_11] at hf
                          by_cases q_8_12 : v1 = 12
                          · rw [if_pos q_8_12] at hf
                            refine lv_tableIn (off := 130) (tgt := 138) C.1 C.2.1 dX7_count_8 (by rw [q_8_12]; decide) (by rw [q_8_12]; decide) (by rw [q_8_12]; decide) (by decide) ?_
                            refine lv_aload_n C.1 C.2.1 dX7_count_138 rfl (lv_at hl 0 rfl) ?_
                            refine z_getR C S 7 0 rfl (by decide) cf_7 6 (by decide) _ (gr_7_6 G ad 0) tw_2_141 dX7_count_139 ?_
                            refine z_getR C S 4 0 rfl (by decide) cf_4 8 (by decide) _ (gr_4_8 G ad 0) tw_2_9 dX7_count_142 ?_
                            refine z_getI C S 5 0 rfl (by decide) cf_5 0 (by decide) (gi_5_0 G ad 0) tw_1_62 dX7_count_145 ?_
                            exact z_iret C S hf dX7_count_148
                          · rw [if_neg q_8_12] at hf
                            by_cases q_8_13 : v1 = 13
                            · rw [if_pos q_8_13] at hf
                              refine lv_tableIn (off := 141) (tgt := 149) C.1 C.2.1 dX7_count_8 (by rw [q_8_13]; decide) (by rw [q_8_13]; decide) (by rw [q_8_13]; decide) (by decide) ?_
                              refine lv_aload_n C.1 C.2.1 dX7_count_149 rfl (lv_at hl 0 rfl) ?_
                              refine z_getR C S 7 0 rfl (by decide) cf_7 10 (by decide) _ (gr_7_10 G ad 0) tw_2_145 dX7_count_150 ?_
                              refine z_getI C S 3 0 rfl (by decide) cf_3 0 (by decide) (gi_3_0 G ad 0) tw_2_53 dX7_count_153 ?_
                              exact z_iret C S hf dX7_count_156
                            · rw [if_neg q_8_13] at hf
                              refine lv_tableOut (tgt := 157) C.1 C.2.1 dX7_count_8 (tsw0_13 q_8_0 q_8_1 q_8_2 q_8_3 q_8_4 q_8_5 q_8_6 q_8_7 q_8_8 q_8_9 q_8_10 q_8_11 q_8_12 q_8_13) (by decide) ?_
                              exact w_X7_count_157 C _ v1 _ _ _ S (lv_sub hl [0, 1] rfl) hf
theorem kv_X7_count : KV yX7_count cX7_count 2 (Option.some FieldType.int) 1 := ⟨tw_6_189, tw_6_187, tw_6_188, tw_1_11, by decide, by decide, by decide +kernel⟩
theorem m_X7_count (l : Launch) (G : Gx) (ad : Ad) (σ : Sg) (v1 : Int32) (r : Int32) (σ' : Sg)  (hf : f_X7_count σ v1 = some (r, σ')) (sz : Nat) : z_MI l yX7_count cX7_count 2 (Option.some FieldType.int) 1 23 0 G ad σ sz [.ref (ad 7 0), .int v1] r σ' := by
  refine z_begin (by decide +kernel) (Nat.le_of_ble_eq_true rfl) [(0, .ref (ad 7 0)), (1, .int v1)] rfl (fun p e s m args below meth c ls C hz S hl => ?_)
  subst hz
  exact w_X7_count_0 (res := (r, σ')) C σ v1 _ _ _ S hl  hf

theorem dX7_setStopped_0 : decode cX7_setStopped 0 = .ok (.aload_n 0, 1) := by decide +kernel
theorem dX7_setStopped_1 : decode cX7_setStopped 1 = .ok (.iload_n 1, 1) := by decide +kernel
theorem dX7_setStopped_2 : decode cX7_setStopped 2 = .ok (.invokevirtual 144, 3) := by decide +kernel
theorem dX7_setStopped_5 : decode cX7_setStopped 5 = .ok (.aload_n 0, 1) := by decide +kernel
theorem dX7_setStopped_6 : decode cX7_setStopped 6 = .ok (.getfield 39, 3) := by decide +kernel
theorem dX7_setStopped_9 : decode cX7_setStopped 9 = .ok (.aload_n 0, 1) := by decide +kernel
theorem dX7_setStopped_10 : decode cX7_setStopped 10 = .ok (.getfield 26, 3) := by decide +kernel
theorem dX7_setStopped_13 : decode cX7_setStopped 13 = .ok (.invokevirtual 305, 3) := by decide +kernel
theorem dX7_setStopped_16 : decode cX7_setStopped 16 = .ok (.aload_n 0, 1) := by decide +kernel
theorem dX7_setStopped_17 : decode cX7_setStopped 17 = .ok (.getfield 26, 3) := by decide +kernel
theorem dX7_setStopped_20 : decode cX7_setStopped 20 = .ok (.getfield 147, 3) := by decide +kernel
theorem dX7_setStopped_23 : decode cX7_setStopped 23 = .ok (.iload_n 1, 1) := by decide +kernel
theorem dX7_setStopped_24 : decode cX7_setStopped 24 = .ok (.aaload, 1) := by decide +kernel
theorem dX7_setStopped_25 : decode cX7_setStopped 25 = .ok (.astore_n 3, 1) := by decide +kernel
theorem dX7_setStopped_26 : decode cX7_setStopped 26 = .ok (.aload_n 3, 1) := by decide +kernel
theorem dX7_setStopped_27 : decode cX7_setStopped 27 = .ok (.getfield 173, 3) := by decide +kernel
theorem dX7_setStopped_30 : decode cX7_setStopped 30 = .ok (.istore 4, 2) := by decide +kernel
theorem dX7_setStopped_32 : decode cX7_setStopped 32 = .ok (.aload_n 3, 1) := by decide +kernel
theorem dX7_setStopped_33 : decode cX7_setStopped 33 = .ok (.iload_n 2, 1) := by decide +kernel
theorem dX7_setStopped_34 : decode cX7_setStopped 34 = .ok (.putfield 173, 3) := by decide +kernel
theorem dX7_setStopped_37 : decode cX7_setStopped 37 = .ok (.iload_n 2, 1) := by decide +kernel
theorem dX7_setStopped_38 : decode cX7_setStopped 38 = .ok (.ifCond .eq 7, 3) := by decide +kernel
theorem dX7_setStopped_41 : decode cX7_setStopped 41 = .ok (.aload_n 3, 1) := by decide +kernel
theorem dX7_setStopped_42 : decode cX7_setStopped 42 = .ok (.invokevirtual 319, 3) := by decide +kernel
theorem dX7_setStopped_45 : decode cX7_setStopped 45 = .ok (.iload 4, 2) := by decide +kernel
theorem dX7_setStopped_47 : decode cX7_setStopped 47 = .ok (.ireturn, 1) := by decide +kernel
/-! BusLifts.setStopped(IZ)Z -/
noncomputable def f_X7_setStopped_45  (σ : Sg) (v4 : Int32) : Option (Int32 × Sg) := if ¬ (v4 = 0 ∨ v4 = 1) then none else (some (v4, σ))
noncomputable def f_X7_setStopped  (σ : Sg) (v1 : Int32) (v2 : Int32) : Option (Int32 × Sg) := bv (f_X7_checkCar σ v1) fun σ1 => (bv (f_X3_remember σ1 0) fun σ2 => (if v1 < 0 ∨ 4 ≤ (v1).toNatClampNeg then none else (if ¬ (v2 = 0 ∨ v2 = 1) then none else (st (sup σ2 2 (4 * 0 + (v1).toNatClampNeg) 3 v2) fun σ3 => (if v2 = 0 then (f_X7_setStopped_45 σ3 (σ2 2 (4 * 0 + (v1).toNatClampNeg) 3)) else (bv (f_X2_dropDecisions σ3 (4 * 0 + (v1).toNatClampNeg)) fun σ4 => (f_X7_setStopped_45 σ4 (σ2 2 (4 * 0 + (v1).toNatClampNeg) 3))))))))
set_option maxHeartbeats 4000000 in
set_option maxRecDepth 100000 in
theorem w_X7_setStopped_45 {p : Program} {l : Launch} {e : Env} {s : State} {m : MethodId} {args : Array Value} {below : List Frame} {meth : Method} {c : Code} {G : Gx} {ad : Ad} {res : Int32 × Sg} (C : Cx p s m args meth c yX7_setStopped.cls cX7_setStopped 5 (Option.some FieldType.boolean) G)  : ∀ (σ : Sg) (v4 : Int32) (H : Heap) (locs : List Loc) (ls : Array Slot), z_S 0 G ad σ (z_A 0 ad s.heap.size) s.heap H locs → lv_has ls 5 [(4, .int v4)] → f_X7_setStopped_45  σ v4 = some res → W p l e { frames := 4, cells := 0, slots := 0, locals := 90 } s m args below meth c H locs 0 0 (MQ below (va_Qi (S := Unit) (fun r1 _ => r1 = res.1) (fun _ t => z_W 0 G ad res.2 t.heap) (z_A 0 ad s.heap.size)) args s 0 0 (z_A 0 ad s.heap.size)) (F0 m 45 ls []) := by
  intro σ v4 H locs ls S hl  hf
  unfold f_X7_setStopped_45 at hf
  refine lv_iload C.1 C.2.1 dX7_setStopped_45 (lv_at hl 0 rfl) ?_
  obtain ⟨g_47, hf⟩ := gd hf
  exact z_zret C S (nbz g_47).1 hf dX7_setStopped_47
set_option maxHeartbeats 4000000 in
set_option maxRecDepth 100000 in
theorem w_X7_setStopped_0 {p : Program} {l : Launch} {e : Env} {s : State} {m : MethodId} {args : Array Value} {below : List Frame} {meth : Method} {c : Code} {G : Gx} {ad : Ad} {res : Int32 × Sg} (C : Cx p s m args meth c yX7_setStopped.cls cX7_setStopped 5 (Option.some FieldType.boolean) G)  : ∀ (σ : Sg) (v1 : Int32) (v2 : Int32) (H : Heap) (locs : List Loc) (ls : Array Slot), z_S 0 G ad σ (z_A 0 ad s.heap.size) s.heap H locs → lv_has ls 5 [(0, .ref (ad 7 0)), (1, .int v1), (2, .int v2)] → f_X7_setStopped  σ v1 v2 = some res → W p l e { frames := 4, cells := 0, slots := 0, locals := 90 } s m args below meth c H locs 0 0 (MQ below (va_Qi (S := Unit) (fun r1 _ => r1 = res.1) (fun _ t => z_W 0 G ad res.2 t.heap) (z_A 0 ad s.heap.size)) args s 0 0 (z_A 0 ad s.heap.size)) (F0 m 0 ls []) := by
  intro σ v1 v2 H locs ls S hl  hf
  unfold f_X7_setStopped at hf
  refine lv_aload_n C.1 C.2.1 dX7_setStopped_0 rfl (lv_at hl 0 rfl) ?_
  refine lv_iload_n C.1 C.2.1 dX7_setStopped_1 rfl (lv_at hl 1 rfl) ?_
  obtain ⟨σ1, q_2, hf⟩ := bvb hf
  refine z_callV C S 7 0 rfl (by decide) cf_7 ⟨_, rfl⟩ [.int v1] (m_X7_checkCar l G ad σ v1 σ1 q_2 _) kv_X7_checkCar tw_5_219 ⟨Nat.le_of_ble_eq_true rfl, Nat.le_of_ble_eq_true rfl⟩ rfl rfl (Nat.le_of_ble_eq_true rfl) hl.1 ⟨Nat.le_of_ble_eq_true rfl, Nat.le_of_ble_eq_true rfl⟩ dX7_setStopped_2 (fun H locs S => ?_)
  refine lv_aload_n C.1 C.2.1 dX7_setStopped_5 rfl (lv_at hl 0 rfl) ?_
  refine z_getR C S 7 0 rfl (by decide) cf_7 10 (by decide) _ (gr_7_10 G ad 0) tw_2_145 dX7_setStopped_6 ?_
  refine lv_aload_n C.1 C.2.1 dX7_setStopped_9 rfl (lv_at hl 0 rfl) ?_
  refine z_getR C S 7 0 rfl (by decide) cf_7 6 (by decide) _ (gr_7_6 G ad 0) tw_2_141 dX7_setStopped_10 ?_
  obtain ⟨σ2, q_13, hf⟩ := bvb hf
  refine z_callV C S 3 0 rfl (by decide) cf_3 ⟨_, rfl⟩ [.ref (ad 4 0)] (m_X3_remember l G ad σ1 0 σ2 (by decide) q_13 _) kv_X3_remember tw_6_206 ⟨Nat.le_of_ble_eq_true rfl, Nat.le_of_ble_eq_true rfl⟩ rfl rfl (Nat.le_of_ble_eq_true rfl) hl.1 ⟨Nat.le_of_ble_eq_true rfl, Nat.le_of_ble_eq_true rfl⟩ dX7_setStopped_13 (fun H locs S => ?_)
  refine lv_aload_n C.1 C.2.1 dX7_setStopped_16 rfl (lv_at hl 0 rfl) ?_
  refine z_getR C S 7 0 rfl (by decide) cf_7 6 (by decide) _ (gr_7_6 G ad 0) tw_2_141 dX7_setStopped_17 ?_
  refine z_getR C S 4 0 rfl (by decide) cf_4 6 (by decide) _ (gr_4_6 G ad 0) tw_2_3 dX7_setStopped_20 ?_
  refine lv_iload_n C.1 C.2.1 dX7_setStopped_23 rfl (lv_at hl 1 rfl) ?_
  obtain ⟨g_24, hf⟩ := gd hf
  refine z_aald C S 25 0 rfl (by decide) 4 1 2 (4 * 0) rfl (fun _ => rfl) g_24 dX7_setStopped_24 ?_
  refine lv_astore_n (lv' := [(3, .ref (ad 2 (4 * 0 + (v1).toNatClampNeg))), (0, .ref (ad 7 0)), (1, .int v1), (2, .int v2)]) C.1 C.2.1 dX7_setStopped_25 rfl hl (by decide) rfl (fun ls hl => ?_)
  refine lv_aload_n C.1 C.2.1 dX7_setStopped_26 rfl (lv_at hl 0 rfl) ?_
  refine z_getI C S 2 (4 * 0 + (v1).toNatClampNeg) rfl (oc2 (by decide) g_24) cf_2 3 (by decide) (gi_2_3 G ad (4 * 0 + (v1).toNatClampNeg)) tw_1_99 dX7_setStopped_27 ?_
  refine lv_istore (lv' := [(4, .int (σ2 2 (4 * 0 + (v1).toNatClampNeg) 3)), (3, .ref (ad 2 (4 * 0 + (v1).toNatClampNeg))), (0, .ref (ad 7 0)), (1, .int v1), (2, .int v2)]) C.1 C.2.1 dX7_setStopped_30 hl (by decide) rfl (fun ls hl => ?_)
  refine lv_aload_n C.1 C.2.1 dX7_setStopped_32 rfl (lv_at hl 1 rfl) ?_
  refine lv_iload_n C.1 C.2.1 dX7_setStopped_33 rfl (lv_at hl 4 rfl) ?_
  obtain ⟨g_34, hf⟩ := gd hf
  obtain ⟨σ3, e_34, hf⟩ := stb hf
  refine z_putI C S 2 (4 * 0 + (v1).toNatClampNeg) rfl (oc2 (by decide) g_24) cf_2 3 (by decide) (pi_2_3 G ad (4 * 0 + (v1).toNatClampNeg)) rfl (nbz g_34).1 (nbz g_34).2 tw_1_99 dX7_setStopped_34 (fun H locs S => ?_)
  rw [← e_34] at S
  refine lv_iload_n C.1 C.2.1 dX7_setStopped_37 rfl (lv_at hl 4 rfl) ?_
  refine lv_if_eq (tgt := 45) C.1 C.2.1 dX7_setStopped_38 (by decide) (fun c_38 => ?_) (fun c_38 => ?_)
  · rw [if_pos c_38] at hf
    exact w_X7_setStopped_45 C _ (σ2 2 (4 * 0 + (v1).toNatClampNeg) 3) _ _ _ S (lv_sub hl [0] rfl) hf
  · rw [if_neg c_38] at hf
    refine lv_aload_n C.1 C.2.1 dX7_setStopped_41 rfl (lv_at hl 1 rfl) ?_
    obtain ⟨σ4, q_42, hf⟩ := bvb hf
    refine z_callV C S 2 (4 * 0 + (v1).toNatClampNeg) rfl (oc2 (by decide) g_24) cf_2 ⟨_, rfl⟩ [] (m_X2_dropDecisions l G ad σ3 (4 * 0 + (v1).toNatClampNeg) σ4 (oc2 (by decide) g_24) q_42 _) kv_X2_dropDecisions tw_6_212 ⟨Nat.le_of_ble_eq_true rfl, Nat.le_of_ble_eq_true rfl⟩ rfl rfl (Nat.le_of_ble_eq_true rfl) hl.1 ⟨Nat.le_of_ble_eq_true rfl, Nat.le_of_ble_eq_true rfl⟩ dX7_setStopped_42 (fun H locs S => ?_)
    exact w_X7_setStopped_45 C _ (σ2 2 (4 * 0 + (v1).toNatClampNeg) 3) _ _ _ S (lv_sub hl [0] rfl) hf
theorem kv_X7_setStopped : KV yX7_setStopped cX7_setStopped 5 (Option.some FieldType.boolean) 2 := ⟨tw_6_205, tw_6_203, tw_6_204, tw_1_11, by decide, by decide, by decide +kernel⟩
theorem m_X7_setStopped (l : Launch) (G : Gx) (ad : Ad) (σ : Sg) (v1 : Int32) (v2 : Int32) (r : Int32) (σ' : Sg)  (hf : f_X7_setStopped σ v1 v2 = some (r, σ')) (sz : Nat) : z_MI l yX7_setStopped cX7_setStopped 5 (Option.some FieldType.boolean) 4 90 0 G ad σ sz [.ref (ad 7 0), .int v1, .int v2] r σ' := by
  refine z_begin (by decide +kernel) (Nat.le_of_ble_eq_true rfl) [(0, .ref (ad 7 0)), (1, .int v1), (2, .int v2)] rfl (fun p e s m args below meth c ls C hz S hl => ?_)
  subst hz
  exact w_X7_setStopped_0 (res := (r, σ')) C σ v1 v2 _ _ _ S hl  hf

theorem dX7_setJammed_0 : decode cX7_setJammed 0 = .ok (.aload_n 0, 1) := by decide +kernel
theorem dX7_setJammed_1 : decode cX7_setJammed 1 = .ok (.iload_n 1, 1) := by decide +kernel
theorem dX7_setJammed_2 : decode cX7_setJammed 2 = .ok (.invokevirtual 144, 3) := by decide +kernel
theorem dX7_setJammed_5 : decode cX7_setJammed 5 = .ok (.aload_n 0, 1) := by decide +kernel
theorem dX7_setJammed_6 : decode cX7_setJammed 6 = .ok (.getfield 39, 3) := by decide +kernel
theorem dX7_setJammed_9 : decode cX7_setJammed 9 = .ok (.aload_n 0, 1) := by decide +kernel
theorem dX7_setJammed_10 : decode cX7_setJammed 10 = .ok (.getfield 26, 3) := by decide +kernel
theorem dX7_setJammed_13 : decode cX7_setJammed 13 = .ok (.invokevirtual 305, 3) := by decide +kernel
theorem dX7_setJammed_16 : decode cX7_setJammed 16 = .ok (.aload_n 0, 1) := by decide +kernel
theorem dX7_setJammed_17 : decode cX7_setJammed 17 = .ok (.getfield 26, 3) := by decide +kernel
theorem dX7_setJammed_20 : decode cX7_setJammed 20 = .ok (.getfield 147, 3) := by decide +kernel
theorem dX7_setJammed_23 : decode cX7_setJammed 23 = .ok (.iload_n 1, 1) := by decide +kernel
theorem dX7_setJammed_24 : decode cX7_setJammed 24 = .ok (.aaload, 1) := by decide +kernel
theorem dX7_setJammed_25 : decode cX7_setJammed 25 = .ok (.getfield 176, 3) := by decide +kernel
theorem dX7_setJammed_28 : decode cX7_setJammed 28 = .ok (.istore_n 3, 1) := by decide +kernel
theorem dX7_setJammed_29 : decode cX7_setJammed 29 = .ok (.aload_n 0, 1) := by decide +kernel
theorem dX7_setJammed_30 : decode cX7_setJammed 30 = .ok (.getfield 26, 3) := by decide +kernel
theorem dX7_setJammed_33 : decode cX7_setJammed 33 = .ok (.getfield 147, 3) := by decide +kernel
theorem dX7_setJammed_36 : decode cX7_setJammed 36 = .ok (.iload_n 1, 1) := by decide +kernel
theorem dX7_setJammed_37 : decode cX7_setJammed 37 = .ok (.aaload, 1) := by decide +kernel
theorem dX7_setJammed_38 : decode cX7_setJammed 38 = .ok (.iload_n 2, 1) := by decide +kernel
theorem dX7_setJammed_39 : decode cX7_setJammed 39 = .ok (.putfield 176, 3) := by decide +kernel
theorem dX7_setJammed_42 : decode cX7_setJammed 42 = .ok (.iload_n 3, 1) := by decide +kernel
theorem dX7_setJammed_43 : decode cX7_setJammed 43 = .ok (.ireturn, 1) := by decide +kernel
/-! BusLifts.setJammed(IZ)Z -/
noncomputable def f_X7_setJammed  (σ : Sg) (v1 : Int32) (v2 : Int32) : Option (Int32 × Sg) := bv (f_X7_checkCar σ v1) fun σ1 => (bv (f_X3_remember σ1 0) fun σ2 => (if v1 < 0 ∨ 4 ≤ (v1).toNatClampNeg then none else (if v1 < 0 ∨ 4 ≤ (v1).toNatClampNeg then none else (if ¬ (v2 = 0 ∨ v2 = 1) then none else (st (sup σ2 2 (4 * 0 + (v1).toNatClampNeg) 4 v2) fun σ3 => (if ¬ ((σ2 2 (4 * 0 + (v1).toNatClampNeg) 4) = 0 ∨ (σ2 2 (4 * 0 + (v1).toNatClampNeg) 4) = 1) then none else (some ((σ2 2 (4 * 0 + (v1).toNatClampNeg) 4), σ3))))))))
set_option maxHeartbeats 4000000 in
set_option maxRecDepth 100000 in
theorem w_X7_setJammed_0 {p : Program} {l : Launch} {e : Env} {s : State} {m : MethodId} {args : Array Value} {below : List Frame} {meth : Method} {c : Code} {G : Gx} {ad : Ad} {res : Int32 × Sg} (C : Cx p s m args meth c yX7_setJammed.cls cX7_setJammed 4 (Option.some FieldType.boolean) G)  : ∀ (σ : Sg) (v1 : Int32) (v2 : Int32) (H : Heap) (locs : List Loc) (ls : Array Slot), z_S 0 G ad σ (z_A 0 ad s.heap.size) s.heap H locs → lv_has ls 4 [(0, .ref (ad 7 0)), (1, .int v1), (2, .int v2)] → f_X7_setJammed  σ v1 v2 = some res → W p l e { frames := 4, cells := 0, slots := 0, locals := 90 } s m args below meth c H locs 0 0 (MQ below (va_Qi (S := Unit) (fun r1 _ => r1 = res.1) (fun _ t => z_W 0 G ad res.2 t.heap) (z_A 0 ad s.heap.size)) args s 0 0 (z_A 0 ad s.heap.size)) (F0 m 0 ls []) := by
  intro σ v1 v2 H locs ls S hl  hf
  unfold f_X7_setJammed at hf
  refine lv_aload_n C.1 C.2.1 dX7_setJammed_0 rfl (lv_at hl 0 rfl) ?_
  refine lv_iload_n C.1 C.2.1 dX7_setJammed_1 rfl (lv_at hl 1 rfl) ?_
  obtain ⟨σ1, q_2, hf⟩ := bvb hf
  refine z_callV C S 7 0 rfl (by decide) cf_7 ⟨_, rfl⟩ [.int v1] (m_X7_checkCar l G ad σ v1 σ1 q_2 _) kv_X7_checkCar tw_5_219 ⟨Nat.le_of_ble_eq_true rfl, Nat.le_of_ble_eq_true rfl⟩ rfl rfl (Nat.le_of_ble_eq_true rfl) hl.1 ⟨Nat.le_of_ble_eq_true rfl, Nat.le_of_ble_eq_true rfl⟩ dX7_setJammed_2 (fun H locs S => ?_)
  refine lv_aload_n C.1 C.2.1 dX7_setJammed_5 rfl (lv_at hl 0 rfl) ?_
  refine z_getR C S 7 0 rfl (by decide) cf_7 10 (by decide) _ (gr_7_10 G ad 0) tw_2_145 dX7_setJammed_6 ?_
  refine lv_aload_n C.1 C.2.1 dX7_setJammed_9 rfl (lv_at hl 0 rfl) ?_
  refine z_getR C S 7 0 rfl (by decide) cf_7 6 (by decide) _ (gr_7_6 G ad 0) tw_2_141 dX7_setJammed_10 ?_
  obtain ⟨σ2, q_13, hf⟩ := bvb hf
  refine z_callV C S 3 0 rfl (by decide) cf_3 ⟨_, rfl⟩ [.ref (ad 4 0)] (m_X3_remember l G ad σ1 0 σ2 (by decide) q_13 _) kv_X3_remember tw_6_206 ⟨Nat.le_of_ble_eq_true rfl, Nat.le_of_ble_eq_true rfl⟩ rfl rfl (Nat.le_of_ble_eq_true rfl) hl.1 ⟨Nat.le_of_ble_eq_true rfl, Nat.le_of_ble_eq_true rfl⟩ dX7_setJammed_13 (fun H locs S => ?_)
  refine lv_aload_n C.1 C.2.1 dX7_setJammed_16 rfl (lv_at hl 0 rfl) ?_
  refine z_getR C S 7 0 rfl (by decide) cf_7 6 (by decide) _ (gr_7_6 G ad 0) tw_2_141 dX7_setJammed_17 ?_
  refine z_getR C S 4 0 rfl (by decide) cf_4 6 (by decide) _ (gr_4_6 G ad 0) tw_2_3 dX7_setJammed_20 ?_
  refine lv_iload_n C.1 C.2.1 dX7_setJammed_23 rfl (lv_at hl 1 rfl) ?_
  obtain ⟨g_24, hf⟩ := gd hf
  refine z_aald C S 25 0 rfl (by decide) 4 1 2 (4 * 0) rfl (fun _ => rfl) g_24 dX7_setJammed_24 ?_
  refine z_getI C S 2 (4 * 0 + (v1).toNatClampNeg) rfl (oc2 (by decide) g_24) cf_2 4 (by decide) (gi_2_4 G ad (4 * 0 + (v1).toNatClampNeg)) tw_1_102 dX7_setJammed_25 ?_
  refine lv_istore_n (lv' := [(3, .int (σ2 2 (4 * 0 + (v1).toNatClampNeg) 4)), (0, .ref (ad 7 0)), (1, .int v1), (2, .int v2)]) C.1 C.2.1 dX7_setJammed_28 rfl hl (by decide) rfl (fun ls hl => ?_)
  refine lv_aload_n C.1 C.2.1 dX7_setJammed_29 rfl (lv_at hl 1 rfl) ?_
  refine z_getR C S 7 0 rfl (by decide) cf_7 6 (by decide) _ (gr_7_6 G ad 0) tw_2_141 dX7_setJammed_30 ?_
  refine z_getR C S 4 0 rfl (by decide) cf_4 6 (by decide) _ (gr_4_6 G ad 0) tw_2_3 dX7_setJammed_33 ?_
  refine lv_iload_n C.1 C.2.1 dX7_setJammed_36 rfl (lv_at hl 2 rfl) ?_
  obtain ⟨g_37, hf⟩ := gd hf
  refine z_aald C S 25 0 rfl (by decide) 4 1 2 (4 * 0) rfl (fun _ => rfl) g_37 dX7_setJammed_37 ?_
  refine lv_iload_n C.1 C.2.1 dX7_setJammed_38 rfl (lv_at hl 3 rfl) ?_
  obtain ⟨g_39, hf⟩ := gd hf
  obtain ⟨σ3, e_39, hf⟩ := stb hf
  refine z_putI C S 2 (4 * 0 + (v1).toNatClampNeg) rfl (oc2 (by decide) g_37) cf_2 4 (by decide) (pi_2_4 G ad (4 * 0 + (v1).toNatClampNeg)) rfl (nbz g_39).1 (nbz g_39).2 tw_1_102 dX7_setJammed_39 (fun H locs S => ?_)
  rw [← e_39] at S
  refine lv_iload_n C.1 C.2.1 dX7_setJammed_42 rfl (lv_at hl 0 rfl) ?_
  obtain ⟨g_43, hf⟩ := gd hf
  exact z_zret C S (nbz g_43).1 hf dX7_setJammed_43
theorem kv_X7_setJammed : KV yX7_setJammed cX7_setJammed 4 (Option.some FieldType.boolean) 2 := ⟨tw_6_219, tw_6_217, tw_6_218, tw_1_11, by decide, by decide, by decide +kernel⟩
theorem m_X7_setJammed (l : Launch) (G : Gx) (ad : Ad) (σ : Sg) (v1 : Int32) (v2 : Int32) (r : Int32) (σ' : Sg)  (hf : f_X7_setJammed σ v1 v2 = some (r, σ')) (sz : Nat) : z_MI l yX7_setJammed cX7_setJammed 4 (Option.some FieldType.boolean) 4 90 0 G ad σ sz [.ref (ad 7 0), .int v1, .int v2] r σ' := by
  refine z_begin (by decide +kernel) (Nat.le_of_ble_eq_true rfl) [(0, .ref (ad 7 0)), (1, .int v1), (2, .int v2)] rfl (fun p e s m args below meth c ls C hz S hl => ?_)
  subst hz
  exact w_X7_setJammed_0 (res := (r, σ')) C σ v1 v2 _ _ _ S hl  hf

theorem dX7_set_0 : decode cX7_set 0 = .ok (.iload_n 1, 1) := by decide +kernel
theorem dX7_set_1 : decode cX7_set 1 = .ok (.iconst 0, 1) := by decide +kernel
theorem dX7_set_2 : decode cX7_set 2 = .ok (.iconst 4, 1) := by decide +kernel
theorem dX7_set_3 : decode cX7_set 3 = .ok (.invokestatic 115, 3) := by decide +kernel
theorem dX7_set_6 : decode cX7_set 6 = .ok (.iload_n 2, 1) := by decide +kernel
theorem dX7_set_7 : decode cX7_set 7 = .ok (.getstatic 322, 3) := by decide +kernel
theorem dX7_set_10 : decode cX7_set 10 = .ok (.iload_n 1, 1) := by decide +kernel
theorem dX7_set_11 : decode cX7_set 11 = .ok (.iaload, 1) := by decide +kernel
theorem dX7_set_12 : decode cX7_set 12 = .ok (.getstatic 325, 3) := by decide +kernel
theorem dX7_set_15 : decode cX7_set 15 = .ok (.iload_n 1, 1) := by decide +kernel
theorem dX7_set_16 : decode cX7_set 16 = .ok (.iaload, 1) := by decide +kernel
theorem dX7_set_17 : decode cX7_set 17 = .ok (.invokestatic 115, 3) := by decide +kernel
theorem dX7_set_20 : decode cX7_set 20 = .ok (.aload_n 0, 1) := by decide +kernel
theorem dX7_set_21 : decode cX7_set 21 = .ok (.getfield 39, 3) := by decide +kernel
theorem dX7_set_24 : decode cX7_set 24 = .ok (.aload_n 0, 1) := by decide +kernel
theorem dX7_set_25 : decode cX7_set 25 = .ok (.getfield 26, 3) := by decide +kernel
theorem dX7_set_28 : decode cX7_set 28 = .ok (.invokevirtual 305, 3) := by decide +kernel
theorem dX7_set_31 : decode cX7_set 31 = .ok (.aload_n 0, 1) := by decide +kernel
theorem dX7_set_32 : decode cX7_set 32 = .ok (.getfield 26, 3) := by decide +kernel
theorem dX7_set_35 : decode cX7_set 35 = .ok (.getfield 141, 3) := by decide +kernel
theorem dX7_set_38 : decode cX7_set 38 = .ok (.iload_n 1, 1) := by decide +kernel
theorem dX7_set_39 : decode cX7_set 39 = .ok (.iaload, 1) := by decide +kernel
theorem dX7_set_40 : decode cX7_set 40 = .ok (.istore_n 3, 1) := by decide +kernel
theorem dX7_set_41 : decode cX7_set 41 = .ok (.aload_n 0, 1) := by decide +kernel
theorem dX7_set_42 : decode cX7_set 42 = .ok (.getfield 26, 3) := by decide +kernel
theorem dX7_set_45 : decode cX7_set 45 = .ok (.getfield 141, 3) := by decide +kernel
theorem dX7_set_48 : decode cX7_set 48 = .ok (.iload_n 1, 1) := by decide +kernel
theorem dX7_set_49 : decode cX7_set 49 = .ok (.iload_n 2, 1) := by decide +kernel
theorem dX7_set_50 : decode cX7_set 50 = .ok (.iastore, 1) := by decide +kernel
theorem dX7_set_51 : decode cX7_set 51 = .ok (.iload_n 3, 1) := by decide +kernel
theorem dX7_set_52 : decode cX7_set 52 = .ok (.ireturn, 1) := by decide +kernel
/-! BusLifts.set(II)I -/
noncomputable def f_X7_set  (σ : Sg) (v1 : Int32) (v2 : Int32) : Option (Int32 × Sg) := bv (f_X7_checkRange σ v1 0 4) fun σ1 => (if v1 < 0 ∨ 5 ≤ (v1).toNatClampNeg then none else (if v1 < 0 ∨ 5 ≤ (v1).toNatClampNeg then none else (bv (f_X7_checkRange σ1 v2 (stab 0 (v1).toNatClampNeg) (stab 1 (v1).toNatClampNeg)) fun σ2 => (bv (f_X3_remember σ2 0) fun σ3 => (if v1 < 0 ∨ 5 ≤ (v1).toNatClampNeg then none else (if v1 < 0 ∨ 5 ≤ (v1).toNatClampNeg then none else (st (sup σ3 12 0 (v1).toNatClampNeg v2) fun σ4 => (some ((σ3 12 0 (v1).toNatClampNeg), σ4)))))))))
set_option maxHeartbeats 4000000 in
set_option maxRecDepth 100000 in
theorem w_X7_set_0 {p : Program} {l : Launch} {e : Env} {s : State} {m : MethodId} {args : Array Value} {below : List Frame} {meth : Method} {c : Code} {G : Gx} {ad : Ad} {res : Int32 × Sg} (C : Cx p s m args meth c yX7_set.cls cX7_set 4 (Option.some FieldType.int) G)  : ∀ (σ : Sg) (v1 : Int32) (v2 : Int32) (H : Heap) (locs : List Loc) (ls : Array Slot), z_S 0 G ad σ (z_A 0 ad s.heap.size) s.heap H locs → lv_has ls 4 [(0, .ref (ad 7 0)), (1, .int v1), (2, .int v2)] → f_X7_set  σ v1 v2 = some res → W p l e { frames := 4, cells := 0, slots := 0, locals := 90 } s m args below meth c H locs 0 0 (MQ below (va_Qi (S := Unit) (fun r1 _ => r1 = res.1) (fun _ t => z_W 0 G ad res.2 t.heap) (z_A 0 ad s.heap.size)) args s 0 0 (z_A 0 ad s.heap.size)) (F0 m 0 ls []) := by
  intro σ v1 v2 H locs ls S hl  hf
  unfold f_X7_set at hf
  refine lv_iload_n C.1 C.2.1 dX7_set_0 rfl (lv_at hl 1 rfl) ?_
  refine lv_iconst (v := 0) C.1 C.2.1 dX7_set_1 (by decide) ?_
  refine lv_iconst (v := 4) C.1 C.2.1 dX7_set_2 (by decide) ?_
  obtain ⟨σ1, q_3, hf⟩ := bvb hf
  refine z_callSV C S [.int v1, .int 0, .int 4] (m_X7_checkRange l G ad σ v1 0 4 σ1 q_3 _) kv_X7_checkRange tw_6_50 ⟨Nat.le_of_ble_eq_true rfl, Nat.le_of_ble_eq_true rfl⟩ rfl rfl (Nat.le_of_ble_eq_true rfl) hl.1 ⟨Nat.le_of_ble_eq_true rfl, Nat.le_of_ble_eq_true rfl⟩ dX7_set_3 (fun H locs S => ?_)
  refine lv_iload_n C.1 C.2.1 dX7_set_6 rfl (lv_at hl 2 rfl) ?_
  refine z_gets C S "LEAST_SETTING" 0 _ (List.mem_of_getElem? (i := 0) rfl) tw_6_224 dX7_set_7 ?_
  refine lv_iload_n C.1 C.2.1 dX7_set_10 rfl (lv_at hl 1 rfl) ?_
  obtain ⟨g_11, hf⟩ := gd hf
  refine z_tld C S 0 (by decide) g_11 dX7_set_11 ?_
  refine z_gets C S "MOST_SETTING" 1 _ (List.mem_of_getElem? (i := 1) rfl) tw_6_225 dX7_set_12 ?_
  refine lv_iload_n C.1 C.2.1 dX7_set_15 rfl (lv_at hl 1 rfl) ?_
  obtain ⟨g_16, hf⟩ := gd hf
  refine z_tld C S 1 (by decide) g_16 dX7_set_16 ?_
  obtain ⟨σ2, q_17, hf⟩ := bvb hf
  refine z_callSV C S [.int v2, .int (stab 0 (v1).toNatClampNeg), .int (stab 1 (v1).toNatClampNeg)] (m_X7_checkRange l G ad σ1 v2 (stab 0 (v1).toNatClampNeg) (stab 1 (v1).toNatClampNeg) σ2 q_17 _) kv_X7_checkRange tw_6_50 ⟨Nat.le_of_ble_eq_true rfl, Nat.le_of_ble_eq_true rfl⟩ rfl rfl (Nat.le_of_ble_eq_true rfl) hl.1 ⟨Nat.le_of_ble_eq_true rfl, Nat.le_of_ble_eq_true rfl⟩ dX7_set_17 (fun H locs S => ?_)
  refine lv_aload_n C.1 C.2.1 dX7_set_20 rfl (lv_at hl 0 rfl) ?_
  refine z_getR C S 7 0 rfl (by decide) cf_7 10 (by decide) _ (gr_7_10 G ad 0) tw_2_145 dX7_set_21 ?_
  refine lv_aload_n C.1 C.2.1 dX7_set_24 rfl (lv_at hl 0 rfl) ?_
  refine z_getR C S 7 0 rfl (by decide) cf_7 6 (by decide) _ (gr_7_6 G ad 0) tw_2_141 dX7_set_25 ?_
  obtain ⟨σ3, q_28, hf⟩ := bvb hf
  refine z_callV C S 3 0 rfl (by decide) cf_3 ⟨_, rfl⟩ [.ref (ad 4 0)] (m_X3_remember l G ad σ2 0 σ3 (by decide) q_28 _) kv_X3_remember tw_6_206 ⟨Nat.le_of_ble_eq_true rfl, Nat.le_of_ble_eq_true rfl⟩ rfl rfl (Nat.le_of_ble_eq_true rfl) hl.1 ⟨Nat.le_of_ble_eq_true rfl, Nat.le_of_ble_eq_true rfl⟩ dX7_set_28 (fun H locs S => ?_)
  refine lv_aload_n C.1 C.2.1 dX7_set_31 rfl (lv_at hl 0 rfl) ?_
  refine z_getR C S 7 0 rfl (by decide) cf_7 6 (by decide) _ (gr_7_6 G ad 0) tw_2_141 dX7_set_32 ?_
  refine z_getR C S 4 0 rfl (by decide) cf_4 5 (by decide) _ (gr_4_5 G ad 0) tw_2_0 dX7_set_35 ?_
  refine lv_iload_n C.1 C.2.1 dX7_set_38 rfl (lv_at hl 1 rfl) ?_
  obtain ⟨g_39, hf⟩ := gd hf
  refine z_iald C S 12 0 rfl (by decide) 5 (fun _ => rfl) g_39 dX7_set_39 ?_
  refine lv_istore_n (lv' := [(3, .int (σ3 12 0 (v1).toNatClampNeg)), (0, .ref (ad 7 0)), (1, .int v1), (2, .int v2)]) C.1 C.2.1 dX7_set_40 rfl hl (by decide) rfl (fun ls hl => ?_)
  refine lv_aload_n C.1 C.2.1 dX7_set_41 rfl (lv_at hl 1 rfl) ?_
  refine z_getR C S 7 0 rfl (by decide) cf_7 6 (by decide) _ (gr_7_6 G ad 0) tw_2_141 dX7_set_42 ?_
  refine z_getR C S 4 0 rfl (by decide) cf_4 5 (by decide) _ (gr_4_5 G ad 0) tw_2_0 dX7_set_45 ?_
  refine lv_iload_n C.1 C.2.1 dX7_set_48 rfl (lv_at hl 2 rfl) ?_
  refine lv_iload_n C.1 C.2.1 dX7_set_49 rfl (lv_at hl 3 rfl) ?_
  obtain ⟨g_50, hf⟩ := gd hf
  obtain ⟨σ4, e_50, hf⟩ := stb hf
  refine z_iast C S 12 0 rfl (by decide) 5 (fun _ => rfl) g_50 dX7_set_50 (fun H locs S => ?_)
  rw [← e_50] at S
  refine lv_iload_n C.1 C.2.1 dX7_set_51 rfl (lv_at hl 0 rfl) ?_
  exact z_iret C S hf dX7_set_52
theorem kv_X7_set : KV yX7_set cX7_set 4 (Option.some FieldType.int) 2 := ⟨tw_6_223, tw_6_221, tw_6_222, tw_1_11, by decide, by decide, by decide +kernel⟩
theorem m_X7_set (l : Launch) (G : Gx) (ad : Ad) (σ : Sg) (v1 : Int32) (v2 : Int32) (r : Int32) (σ' : Sg)  (hf : f_X7_set σ v1 v2 = some (r, σ')) (sz : Nat) : z_MI l yX7_set cX7_set 4 (Option.some FieldType.int) 4 90 0 G ad σ sz [.ref (ad 7 0), .int v1, .int v2] r σ' := by
  refine z_begin (by decide +kernel) (Nat.le_of_ble_eq_true rfl) [(0, .ref (ad 7 0)), (1, .int v1), (2, .int v2)] rfl (fun p e s m args below meth c ls C hz S hl => ?_)
  subst hz
  exact w_X7_set_0 (res := (r, σ')) C σ v1 v2 _ _ _ S hl  hf

theorem dX7_forget_0 : decode cX7_forget 0 = .ok (.aload_n 0, 1) := by decide +kernel
theorem dX7_forget_1 : decode cX7_forget 1 = .ok (.iload_n 1, 1) := by decide +kernel
theorem dX7_forget_2 : decode cX7_forget 2 = .ok (.invokevirtual 144, 3) := by decide +kernel
theorem dX7_forget_5 : decode cX7_forget 5 = .ok (.aload_n 0, 1) := by decide +kernel
theorem dX7_forget_6 : decode cX7_forget 6 = .ok (.iload_n 2, 1) := by decide +kernel
theorem dX7_forget_7 : decode cX7_forget 7 = .ok (.invokevirtual 188, 3) := by decide +kernel
theorem dX7_forget_10 : decode cX7_forget 10 = .ok (.aload_n 0, 1) := by decide +kernel
theorem dX7_forget_11 : decode cX7_forget 11 = .ok (.getfield 26, 3) := by decide +kernel
theorem dX7_forget_14 : decode cX7_forget 14 = .ok (.getfield 147, 3) := by decide +kernel
theorem dX7_forget_17 : decode cX7_forget 17 = .ok (.iload_n 1, 1) := by decide +kernel
theorem dX7_forget_18 : decode cX7_forget 18 = .ok (.aaload, 1) := by decide +kernel
theorem dX7_forget_19 : decode cX7_forget 19 = .ok (.iload_n 2, 1) := by decide +kernel
theorem dX7_forget_20 : decode cX7_forget 20 = .ok (.invokevirtual 233, 3) := by decide +kernel
theorem dX7_forget_23 : decode cX7_forget 23 = .ok (.ifCond .ne 14, 3) := by decide +kernel
theorem dX7_forget_26 : decode cX7_forget 26 = .ok (.new 300, 3) := by decide +kernel
theorem dX7_forget_29 : decode cX7_forget 29 = .ok (.dup, 1) := by decide +kernel
theorem dX7_forget_30 : decode cX7_forget 30 = .ok (.ldc_w 328, 3) := by decide +kernel
theorem dX7_forget_33 : decode cX7_forget 33 = .ok (.invokespecial 304, 3) := by decide +kernel
theorem dX7_forget_36 : decode cX7_forget 36 = .ok (.athrow, 1) := by decide +kernel
theorem dX7_forget_37 : decode cX7_forget 37 = .ok (.aload_n 0, 1) := by decide +kernel
theorem dX7_forget_38 : decode cX7_forget 38 = .ok (.getfield 39, 3) := by decide +kernel
theorem dX7_forget_41 : decode cX7_forget 41 = .ok (.aload_n 0, 1) := by decide +kernel
theorem dX7_forget_42 : decode cX7_forget 42 = .ok (.getfield 26, 3) := by decide +kernel
theorem dX7_forget_45 : decode cX7_forget 45 = .ok (.invokevirtual 305, 3) := by decide +kernel
theorem dX7_forget_48 : decode cX7_forget 48 = .ok (.aload_n 0, 1) := by decide +kernel
theorem dX7_forget_49 : decode cX7_forget 49 = .ok (.getfield 26, 3) := by decide +kernel
theorem dX7_forget_52 : decode cX7_forget 52 = .ok (.getfield 147, 3) := by decide +kernel
theorem dX7_forget_55 : decode cX7_forget 55 = .ok (.iload_n 1, 1) := by decide +kernel
theorem dX7_forget_56 : decode cX7_forget 56 = .ok (.aaload, 1) := by decide +kernel
theorem dX7_forget_57 : decode cX7_forget 57 = .ok (.iload_n 2, 1) := by decide +kernel
theorem dX7_forget_58 : decode cX7_forget 58 = .ok (.invokevirtual 330, 3) := by decide +kernel
theorem dX7_forget_61 : decode cX7_forget 61 = .ok (.aload_n 0, 1) := by decide +kernel
theorem dX7_forget_62 : decode cX7_forget 62 = .ok (.getfield 26, 3) := by decide +kernel
theorem dX7_forget_65 : decode cX7_forget 65 = .ok (.getfield 147, 3) := by decide +kernel
theorem dX7_forget_68 : decode cX7_forget 68 = .ok (.iload_n 1, 1) := by decide +kernel
theorem dX7_forget_69 : decode cX7_forget 69 = .ok (.aaload, 1) := by decide +kernel
theorem dX7_forget_70 : decode cX7_forget 70 = .ok (.getfield 162, 3) := by decide +kernel
theorem dX7_forget_73 : decode cX7_forget 73 = .ok (.invokestatic 165, 3) := by decide +kernel
theorem dX7_forget_76 : decode cX7_forget 76 = .ok (.ireturn, 1) := by decide +kernel
/-! BusLifts.forget(II)I -/
noncomputable def f_X7_forget  (σ : Sg) (v1 : Int32) (v2 : Int32) : Option (Int32 × Sg) := bv (f_X7_checkCar σ v1) fun σ1 => (bv (f_X7_checkCall σ1 v2) fun σ2 => (if v1 < 0 ∨ 4 ≤ (v1).toNatClampNeg then none else (bi (f_X2_isHolding σ2 (4 * 0 + (v1).toNatClampNeg) v2) fun r4 σ3 => (if r4 = 0 then (none) else (bv (f_X3_remember σ3 0) fun σ5 => (if v1 < 0 ∨ 4 ≤ (v1).toNatClampNeg then none else (bv (f_X2_hearReport σ5 (4 * 0 + (v1).toNatClampNeg) v2) fun σ6 => (if v1 < 0 ∨ 4 ≤ (v1).toNatClampNeg then none else (bi (f_J6_bitCount_0f7a4 σ6 (σ6 2 (4 * 0 + (v1).toNatClampNeg) 8)) fun r8 σ7 => (some (r8, σ7)))))))))))
set_option maxHeartbeats 4000000 in
set_option maxRecDepth 100000 in
theorem w_X7_forget_0 {p : Program} {l : Launch} {e : Env} {s : State} {m : MethodId} {args : Array Value} {below : List Frame} {meth : Method} {c : Code} {G : Gx} {ad : Ad} {res : Int32 × Sg} (C : Cx p s m args meth c yX7_forget.cls cX7_forget 3 (Option.some FieldType.int) G)  : ∀ (σ : Sg) (v1 : Int32) (v2 : Int32) (H : Heap) (locs : List Loc) (ls : Array Slot), z_S 0 G ad σ (z_A 0 ad s.heap.size) s.heap H locs → lv_has ls 3 [(0, .ref (ad 7 0)), (1, .int v1), (2, .int v2)] → f_X7_forget  σ v1 v2 = some res → W p l e { frames := 4, cells := 0, slots := 0, locals := 90 } s m args below meth c H locs 0 0 (MQ below (va_Qi (S := Unit) (fun r1 _ => r1 = res.1) (fun _ t => z_W 0 G ad res.2 t.heap) (z_A 0 ad s.heap.size)) args s 0 0 (z_A 0 ad s.heap.size)) (F0 m 0 ls []) := by
  intro σ v1 v2 H locs ls S hl  hf
  unfold f_X7_forget at hf
  refine lv_aload_n C.1 C.2.1 dX7_forget_0 rfl (lv_at hl 0 rfl) ?_
  refine lv_iload_n C.1 C.2.1 dX7_forget_1 rfl (lv_at hl 1 rfl) ?_
  obtain ⟨σ1, q_2, hf⟩ := bvb hf
  refine z_callV C S 7 0 rfl (by decide) cf_7 ⟨_, rfl⟩ [.int v1] (m_X7_checkCar l G ad σ v1 σ1 q_2 _) kv_X7_checkCar tw_5_219 ⟨Nat.le_of_ble_eq_true rfl, Nat.le_of_ble_eq_true rfl⟩ rfl rfl (Nat.le_of_ble_eq_true rfl) hl.1 ⟨Nat.le_of_ble_eq_true rfl, Nat.le_of_ble_eq_true rfl⟩ dX7_forget_2 (fun H locs S => ?_)
  refine lv_aload_n C.1 C.2.1 dX7_forget_5 rfl (lv_at hl 0 rfl) ?_
  refine lv_iload_n C.1 C.2.1 dX7_forget_6 rfl (lv_at hl 2 rfl) ?_
  obtain ⟨σ2, q_7, hf⟩ := bvb hf
  refine z_callV C S 7 0 rfl (by decide) cf_7 ⟨_, rfl⟩ [.int v2] (m_X7_checkCall l G ad σ1 v2 σ2 q_7 _) kv_X7_checkCall tw_6_119 ⟨Nat.le_of_ble_eq_true rfl, Nat.le_of_ble_eq_true rfl⟩ rfl rfl (Nat.le_of_ble_eq_true rfl) hl.1 ⟨Nat.le_of_ble_eq_true rfl, Nat.le_of_ble_eq_true rfl⟩ dX7_forget_7 (fun H locs S => ?_)
  refine lv_aload_n C.1 C.2.1 dX7_forget_10 rfl (lv_at hl 0 rfl) ?_
  refine z_getR C S 7 0 rfl (by decide) cf_7 6 (by decide) _ (gr_7_6 G ad 0) tw_2_141 dX7_forget_11 ?_
  refine z_getR C S 4 0 rfl (by decide) cf_4 6 (by decide) _ (gr_4_6 G ad 0) tw_2_3 dX7_forget_14 ?_
  refine lv_iload_n C.1 C.2.1 dX7_forget_17 rfl (lv_at hl 1 rfl) ?_
  obtain ⟨g_18, hf⟩ := gd hf
  refine z_aald C S 25 0 rfl (by decide) 4 1 2 (4 * 0) rfl (fun _ => rfl) g_18 dX7_forget_18 ?_
  refine lv_iload_n C.1 C.2.1 dX7_forget_19 rfl (lv_at hl 2 rfl) ?_
  obtain ⟨r4, σ3, q_20, hf⟩ := bib hf
  refine z_callI C S 2 (4 * 0 + (v1).toNatClampNeg) rfl (oc2 (by decide) g_18) cf_2 ⟨_, rfl⟩ [.int v2] (m_X2_isHolding l G ad σ2 (4 * 0 + (v1).toNatClampNeg) v2 r4 σ3 (oc2 (by decide) g_18) q_20 _) kv_X2_isHolding tw_6_132 ⟨Nat.le_of_ble_eq_true rfl, Nat.le_of_ble_eq_true rfl⟩ rfl rfl (Nat.le_of_ble_eq_true rfl) hl.1 ⟨Nat.le_of_ble_eq_true rfl, Nat.le_of_ble_eq_true rfl⟩ dX7_forget_20 (fun H locs S => ?_)
  refine lv_if_ne (tgt := 37) C.1 C.2.1 dX7_forget_23 (by decide) (fun c_23 => ?_) (fun c_23 => ?_)
  · rw [if_neg c_23] at hf
    refine lv_aload_n C.1 C.2.1 dX7_forget_37 rfl (lv_at hl 0 rfl) ?_
    refine z_getR C S 7 0 rfl (by decide) cf_7 10 (by decide) _ (gr_7_10 G ad 0) tw_2_145 dX7_forget_38 ?_
    refine lv_aload_n C.1 C.2.1 dX7_forget_41 rfl (lv_at hl 0 rfl) ?_
    refine z_getR C S 7 0 rfl (by decide) cf_7 6 (by decide) _ (gr_7_6 G ad 0) tw_2_141 dX7_forget_42 ?_
    obtain ⟨σ5, q_45, hf⟩ := bvb hf
    refine z_callV C S 3 0 rfl (by decide) cf_3 ⟨_, rfl⟩ [.ref (ad 4 0)] (m_X3_remember l G ad σ3 0 σ5 (by decide) q_45 _) kv_X3_remember tw_6_206 ⟨Nat.le_of_ble_eq_true rfl, Nat.le_of_ble_eq_true rfl⟩ rfl rfl (Nat.le_of_ble_eq_true rfl) hl.1 ⟨Nat.le_of_ble_eq_true rfl, Nat.le_of_ble_eq_true rfl⟩ dX7_forget_45 (fun H locs S => ?_)
    refine lv_aload_n C.1 C.2.1 dX7_forget_48 rfl (lv_at hl 0 rfl) ?_
    refine z_getR C S 7 0 rfl (by decide) cf_7 6 (by decide) _ (gr_7_6 G ad 0) tw_2_141 dX7_forget_49 ?_
    refine z_getR C S 4 0 rfl (by decide) cf_4 6 (by decide) _ (gr_4_6 G ad 0) tw_2_3 dX7_forget_52 ?_
    refine lv_iload_n C.1 C.2.1 dX7_forget_55 rfl (lv_at hl 1 rfl) ?_
    obtain ⟨g_56, hf⟩ := gd hf
    refine z_aald C S 25 0 rfl (by decide) 4 1 2 (4 * 0) rfl (fun _ => rfl) g_56 dX7_forget_56 ?_
    refine lv_iload_n C.1 C.2.1 dX7_forget_57 rfl (lv_at hl 2 rfl) ?_
    obtain ⟨σ6, q_58, hf⟩ := bvb hf
    refine z_callV C S 2 (4 * 0 + (v1).toNatClampNeg) rfl (oc2 (by decide) g_56) cf_2 ⟨_, rfl⟩ [.int v2] (m_X2_hearReport l G ad σ5 (4 * 0 + (v1).toNatClampNeg) v2 σ6 (oc2 (by decide) g_56) q_58 _) kv_X2_hearReport tw_7_6 ⟨Nat.le_of_ble_eq_true rfl, Nat.le_of_ble_eq_true rfl⟩ rfl rfl (Nat.le_of_ble_eq_true rfl) hl.1 ⟨Nat.le_of_ble_eq_true rfl, Nat.le_of_ble_eq_true rfl⟩ dX7_forget_58 (fun H locs S => ?_)
    refine lv_aload_n C.1 C.2.1 dX7_forget_61 rfl (lv_at hl 0 rfl) ?_
    refine z_getR C S 7 0 rfl (by decide) cf_7 6 (by decide) _ (gr_7_6 G ad 0) tw_2_141 dX7_forget_62 ?_
    refine z_getR C S 4 0 rfl (by decide) cf_4 6 (by decide) _ (gr_4_6 G ad 0) tw_2_3 dX7_forget_65 ?_
    refine lv_iload_n C.1 C.2.1 dX7_forget_68 rfl (lv_at hl 1 rfl) ?_
    obtain ⟨g_69, hf⟩ := gd hf
    refine z_aald C S 25 0 rfl (by decide) 4 1 2 (4 * 0) rfl (fun _ => rfl) g_69 dX7_forget_69 ?_
    refine z_getI C S 2 (4 * 0 + (v1).toNatClampNeg) rfl (oc2 (by decide) g_69) cf_2 8 (by decide) (gi_2_8 G ad (4 * 0 + (v1).toNatClampNeg)) tw_1_115 dX7_forget_70 ?_
    obtain ⟨r8, σ7, q_73, hf⟩ := bib hf
    refine z_callSI C S [.int (σ6 2 (4 * 0 + (v1).toNatClampNeg) 8)] (m_J6_bitCount_0f7a4 l G ad σ6 (σ6 2 (4 * 0 + (v1).toNatClampNeg) 8) r8 σ7 q_73 _) kv_J6_bitCount_0f7a4 tw_6_69 ⟨Nat.le_of_ble_eq_true rfl, Nat.le_of_ble_eq_true rfl⟩ rfl rfl (Nat.le_of_ble_eq_true rfl) hl.1 ⟨Nat.le_of_ble_eq_true rfl, Nat.le_of_ble_eq_true rfl⟩ dX7_forget_73 (fun H locs S => ?_)
    exact z_iret C S hf dX7_forget_76
  · rw [if_pos c_23] at hf
    cases hf
theorem kv_X7_forget : KV yX7_forget cX7_forget 3 (Option.some FieldType.int) 2 := ⟨tw_6_229, tw_6_227, tw_6_228, tw_1_11, by decide, by decide, by decide +kernel⟩
theorem m_X7_forget (l : Launch) (G : Gx) (ad : Ad) (σ : Sg) (v1 : Int32) (v2 : Int32) (r : Int32) (σ' : Sg)  (hf : f_X7_forget σ v1 v2 = some (r, σ')) (sz : Nat) : z_MI l yX7_forget cX7_forget 3 (Option.some FieldType.int) 4 90 0 G ad σ sz [.ref (ad 7 0), .int v1, .int v2] r σ' := by
  refine z_begin (by decide +kernel) (Nat.le_of_ble_eq_true rfl) [(0, .ref (ad 7 0)), (1, .int v1), (2, .int v2)] rfl (fun p e s m args below meth c ls C hz S hl => ?_)
  subst hz
  exact w_X7_forget_0 (res := (r, σ')) C σ v1 v2 _ _ _ S hl  hf

theorem dX7_checkFloor_0 : decode cX7_checkFloor 0 = .ok (.iload_n 1, 1) := by decide +kernel
theorem dX7_checkFloor_1 : decode cX7_checkFloor 1 = .ok (.ifCond .lt 14, 3) := by decide +kernel
theorem dX7_checkFloor_4 : decode cX7_checkFloor 4 = .ok (.iload_n 1, 1) := by decide +kernel
theorem dX7_checkFloor_5 : decode cX7_checkFloor 5 = .ok (.aload_n 0, 1) := by decide +kernel
theorem dX7_checkFloor_6 : decode cX7_checkFloor 6 = .ok (.getfield 26, 3) := by decide +kernel
theorem dX7_checkFloor_9 : decode cX7_checkFloor 9 = .ok (.getfield 102, 3) := by decide +kernel
theorem dX7_checkFloor_12 : decode cX7_checkFloor 12 = .ok (.if_icmp .lt 13, 3) := by decide +kernel
theorem dX7_checkFloor_15 : decode cX7_checkFloor 15 = .ok (.new 105, 3) := by decide +kernel
theorem dX7_checkFloor_18 : decode cX7_checkFloor 18 = .ok (.dup, 1) := by decide +kernel
theorem dX7_checkFloor_19 : decode cX7_checkFloor 19 = .ok (.ldc 107, 2) := by decide +kernel
theorem dX7_checkFloor_21 : decode cX7_checkFloor 21 = .ok (.invokespecial 109, 3) := by decide +kernel
theorem dX7_checkFloor_24 : decode cX7_checkFloor 24 = .ok (.athrow, 1) := by decide +kernel
theorem dX7_checkFloor_25 : decode cX7_checkFloor 25 = .ok (.return_, 1) := by decide +kernel
/-! BusLifts.checkFloor(I)V -/
noncomputable def f_X7_checkFloor_15  (σ : Sg)  : Option Sg := none
noncomputable def f_X7_checkFloor  (σ : Sg) (v1 : Int32) : Option Sg := if v1 < 0 then (f_X7_checkFloor_15 σ) else (if v1 < (σ 4 0 0) then (some σ) else (f_X7_checkFloor_15 σ))
set_option maxHeartbeats 4000000 in
set_option maxRecDepth 100000 in
theorem w_X7_checkFloor_15 {p : Program} {l : Launch} {e : Env} {s : State} {m : MethodId} {args : Array Value} {below : List Frame} {meth : Method} {c : Code} {G : Gx} {ad : Ad} {res : Sg} (C : Cx p s m args meth c yX7_checkFloor.cls cX7_checkFloor 2 none G)  : ∀ (σ : Sg)  (H : Heap) (locs : List Loc) (ls : Array Slot), z_S 0 G ad σ (z_A 0 ad s.heap.size) s.heap H locs → lv_has ls 2 [] → f_X7_checkFloor_15  σ  = some res → W p l e { frames := 0, cells := 0, slots := 0, locals := 0 } s m args below meth c H locs 0 0 (MQ below (va_Qv (S := Unit) (fun _ => True) (fun _ t => z_W 0 G ad res t.heap) (z_A 0 ad s.heap.size)) args s 0 0 (z_A 0 ad s.heap.size)) (F0 m 15 ls []) := by
  intro σ  H locs ls S hl  hf
  unfold f_X7_checkFloor_15 at hf
  cases hf
set_option maxHeartbeats 4000000 in
set_option maxRecDepth 100000 in
theorem w_X7_checkFloor_0 {p : Program} {l : Launch} {e : Env} {s : State} {m : MethodId} {args : Array Value} {below : List Frame} {meth : Method} {c : Code} {G : Gx} {ad : Ad} {res : Sg} (C : Cx p s m args meth c yX7_checkFloor.cls cX7_checkFloor 2 none G)  : ∀ (σ : Sg) (v1 : Int32) (H : Heap) (locs : List Loc) (ls : Array Slot), z_S 0 G ad σ (z_A 0 ad s.heap.size) s.heap H locs → lv_has ls 2 [(0, .ref (ad 7 0)), (1, .int v1)] → f_X7_checkFloor  σ v1 = some res → W p l e { frames := 0, cells := 0, slots := 0, locals := 0 } s m args below meth c H locs 0 0 (MQ below (va_Qv (S := Unit) (fun _ => True) (fun _ t => z_W 0 G ad res t.heap) (z_A 0 ad s.heap.size)) args s 0 0 (z_A 0 ad s.heap.size)) (F0 m 0 ls []) := by
  intro σ v1 H locs ls S hl  hf
  unfold f_X7_checkFloor at hf
  refine lv_iload_n C.1 C.2.1 dX7_checkFloor_0 rfl (lv_at hl 1 rfl) ?_
  refine lv_if_lt (tgt := 15) C.1 C.2.1 dX7_checkFloor_1 (by decide) (fun c_1 => ?_) (fun c_1 => ?_)
  · rw [if_pos c_1] at hf
    exact w_X7_checkFloor_15 C _ _ _ _ S (lv_sub hl [] rfl) hf
  · rw [if_neg c_1] at hf
    refine lv_iload_n C.1 C.2.1 dX7_checkFloor_4 rfl (lv_at hl 1 rfl) ?_
    refine lv_aload_n C.1 C.2.1 dX7_checkFloor_5 rfl (lv_at hl 0 rfl) ?_
    refine z_getR C S 7 0 rfl (by decide) cf_7 6 (by decide) _ (gr_7_6 G ad 0) tw_2_141 dX7_checkFloor_6 ?_
    refine z_getI C S 4 0 rfl (by decide) cf_4 0 (by decide) (gi_4_0 G ad 0) tw_1_222 dX7_checkFloor_9 ?_
    refine lv_icmp_lt (tgt := 25) C.1 C.2.1 dX7_checkFloor_12 (by decide) (fun c_12 => ?_) (fun c_12 => ?_)
    · rw [if_pos c_12] at hf
      exact z_vret C S hf dX7_checkFloor_25
    · rw [if_neg c_12] at hf
      exact w_X7_checkFloor_15 C _ _ _ _ S (lv_sub hl [] rfl) hf
theorem kv_X7_checkFloor : KV yX7_checkFloor cX7_checkFloor 2 none 1 := ⟨tw_7_25, tw_7_24, tw_p_29, tw_1_11, by decide, by decide, by decide +kernel⟩
theorem m_X7_checkFloor (l : Launch) (G : Gx) (ad : Ad) (σ : Sg) (v1 : Int32) (σ' : Sg)  (hf : f_X7_checkFloor σ v1 = some σ') (sz : Nat) : z_MV l yX7_checkFloor cX7_checkFloor 2 none 0 0 0 G ad σ sz [.ref (ad 7 0), .int v1] σ' := by
  refine z_begin (by decide +kernel) (Nat.le_of_ble_eq_true rfl) [(0, .ref (ad 7 0)), (1, .int v1)] rfl (fun p e s m args below meth c ls C hz S hl => ?_)
  subst hz
  exact w_X7_checkFloor_0 (res := σ') C σ v1 _ _ _ S hl  hf

theorem dX7_checkWay_0 : decode cX7_checkWay 0 = .ok (.aload_n 0, 1) := by decide +kernel
theorem dX7_checkWay_1 : decode cX7_checkWay 1 = .ok (.iload_n 1, 1) := by decide +kernel
theorem dX7_checkWay_2 : decode cX7_checkWay 2 = .ok (.invokevirtual 110, 3) := by decide +kernel
theorem dX7_checkWay_5 : decode cX7_checkWay 5 = .ok (.aload_n 0, 1) := by decide +kernel
theorem dX7_checkWay_6 : decode cX7_checkWay 6 = .ok (.iload_n 2, 1) := by decide +kernel
theorem dX7_checkWay_7 : decode cX7_checkWay 7 = .ok (.invokevirtual 110, 3) := by decide +kernel
theorem dX7_checkWay_10 : decode cX7_checkWay 10 = .ok (.iload_n 1, 1) := by decide +kernel
theorem dX7_checkWay_11 : decode cX7_checkWay 11 = .ok (.iload_n 2, 1) := by decide +kernel
theorem dX7_checkWay_12 : decode cX7_checkWay 12 = .ok (.if_icmp .ne 13, 3) := by decide +kernel
theorem dX7_checkWay_15 : decode cX7_checkWay 15 = .ok (.new 105, 3) := by decide +kernel
theorem dX7_checkWay_18 : decode cX7_checkWay 18 = .ok (.dup, 1) := by decide +kernel
theorem dX7_checkWay_19 : decode cX7_checkWay 19 = .ok (.ldc 113, 2) := by decide +kernel
theorem dX7_checkWay_21 : decode cX7_checkWay 21 = .ok (.invokespecial 109, 3) := by decide +kernel
theorem dX7_checkWay_24 : decode cX7_checkWay 24 = .ok (.athrow, 1) := by decide +kernel
theorem dX7_checkWay_25 : decode cX7_checkWay 25 = .ok (.return_, 1) := by decide +kernel
/-! BusLifts.checkWay(II)V -/
noncomputable def f_X7_checkWay  (σ : Sg) (v1 : Int32) (v2 : Int32) : Option Sg := bv (f_X7_checkFloor σ v1) fun σ1 => (bv (f_X7_checkFloor σ1 v2) fun σ2 => (if v1 = v2 then (none) else (some σ2)))
set_option maxHeartbeats 4000000 in
set_option maxRecDepth 100000 in
theorem w_X7_checkWay_0 {p : Program} {l : Launch} {e : Env} {s : State} {m : MethodId} {args : Array Value} {below : List Frame} {meth : Method} {c : Code} {G : Gx} {ad : Ad} {res : Sg} (C : Cx p s m args meth c yX7_checkWay.cls cX7_checkWay 3 none G)  : ∀ (σ : Sg) (v1 : Int32) (v2 : Int32) (H : Heap) (locs : List Loc) (ls : Array Slot), z_S 0 G ad σ (z_A 0 ad s.heap.size) s.heap H locs → lv_has ls 3 [(0, .ref (ad 7 0)), (1, .int v1), (2, .int v2)] → f_X7_checkWay  σ v1 v2 = some res → W p l e { frames := 1, cells := 0, slots := 0, locals := 21 } s m args below meth c H locs 0 0 (MQ below (va_Qv (S := Unit) (fun _ => True) (fun _ t => z_W 0 G ad res t.heap) (z_A 0 ad s.heap.size)) args s 0 0 (z_A 0 ad s.heap.size)) (F0 m 0 ls []) := by
  intro σ v1 v2 H locs ls S hl  hf
  unfold f_X7_checkWay at hf
  refine lv_aload_n C.1 C.2.1 dX7_checkWay_0 rfl (lv_at hl 0 rfl) ?_
  refine lv_iload_n C.1 C.2.1 dX7_checkWay_1 rfl (lv_at hl 1 rfl) ?_
  obtain ⟨σ1, q_2, hf⟩ := bvb hf
  refine z_callV C S 7 0 rfl (by decide) cf_7 ⟨_, rfl⟩ [.int v1] (m_X7_checkFloor l G ad σ v1 σ1 q_2 _) kv_X7_checkFloor tw_7_22 ⟨Nat.le_of_ble_eq_true rfl, Nat.le_of_ble_eq_true rfl⟩ rfl rfl (Nat.le_of_ble_eq_true rfl) hl.1 ⟨Nat.le_of_ble_eq_true rfl, Nat.le_of_ble_eq_true rfl⟩ dX7_checkWay_2 (fun H locs S => ?_)
  refine lv_aload_n C.1 C.2.1 dX7_checkWay_5 rfl (lv_at hl 0 rfl) ?_
  refine lv_iload_n C.1 C.2.1 dX7_checkWay_6 rfl (lv_at hl 2 rfl) ?_
  obtain ⟨σ2, q_7, hf⟩ := bvb hf
  refine z_callV C S 7 0 rfl (by decide) cf_7 ⟨_, rfl⟩ [.int v2] (m_X7_checkFloor l G ad σ1 v2 σ2 q_7 _) kv_X7_checkFloor tw_7_22 ⟨Nat.le_of_ble_eq_true rfl, Nat.le_of_ble_eq_true rfl⟩ rfl rfl (Nat.le_of_ble_eq_true rfl) hl.1 ⟨Nat.le_of_ble_eq_true rfl, Nat.le_of_ble_eq_true rfl⟩ dX7_checkWay_7 (fun H locs S => ?_)
  refine lv_iload_n C.1 C.2.1 dX7_checkWay_10 rfl (lv_at hl 1 rfl) ?_
  refine lv_iload_n C.1 C.2.1 dX7_checkWay_11 rfl (lv_at hl 2 rfl) ?_
  refine lv_icmp_ne (tgt := 25) C.1 C.2.1 dX7_checkWay_12 (by decide) (fun c_12 => ?_) (fun c_12 => ?_)
  · rw [if_neg c_12] at hf
    exact z_vret C S hf dX7_checkWay_25
  · rw [if_pos c_12] at hf
    cases hf
theorem kv_X7_checkWay : KV yX7_checkWay cX7_checkWay 3 none 2 := ⟨tw_7_21, tw_7_20, tw_p_28, tw_1_11, by decide, by decide, by decide +kernel⟩
theorem m_X7_checkWay (l : Launch) (G : Gx) (ad : Ad) (σ : Sg) (v1 : Int32) (v2 : Int32) (σ' : Sg)  (hf : f_X7_checkWay σ v1 v2 = some σ') (sz : Nat) : z_MV l yX7_checkWay cX7_checkWay 3 none 1 21 0 G ad σ sz [.ref (ad 7 0), .int v1, .int v2] σ' := by
  refine z_begin (by decide +kernel) (Nat.le_of_ble_eq_true rfl) [(0, .ref (ad 7 0)), (1, .int v1), (2, .int v2)] rfl (fun p e s m args below meth c ls C hz S hl => ?_)
  subst hz
  exact w_X7_checkWay_0 (res := σ') C σ v1 v2 _ _ _ S hl  hf

theorem dX7_makeCall_0 : decode cX7_makeCall 0 = .ok (.aload_n 0, 1) := by decide +kernel
theorem dX7_makeCall_1 : decode cX7_makeCall 1 = .ok (.iload_n 1, 1) := by decide +kernel
theorem dX7_makeCall_2 : decode cX7_makeCall 2 = .ok (.iload_n 2, 1) := by decide +kernel
theorem dX7_makeCall_3 : decode cX7_makeCall 3 = .ok (.invokevirtual 297, 3) := by decide +kernel
theorem dX7_makeCall_6 : decode cX7_makeCall 6 = .ok (.aload_n 0, 1) := by decide +kernel
theorem dX7_makeCall_7 : decode cX7_makeCall 7 = .ok (.getfield 26, 3) := by decide +kernel
theorem dX7_makeCall_10 : decode cX7_makeCall 10 = .ok (.getfield 97, 3) := by decide +kernel
theorem dX7_makeCall_13 : decode cX7_makeCall 13 = .ok (.bipush 24, 2) := by decide +kernel
theorem dX7_makeCall_15 : decode cX7_makeCall 15 = .ok (.if_icmp .lt 14, 3) := by decide +kernel
theorem dX7_makeCall_18 : decode cX7_makeCall 18 = .ok (.new 300, 3) := by decide +kernel
theorem dX7_makeCall_21 : decode cX7_makeCall 21 = .ok (.dup, 1) := by decide +kernel
theorem dX7_makeCall_22 : decode cX7_makeCall 22 = .ok (.ldc_w 302, 3) := by decide +kernel
theorem dX7_makeCall_25 : decode cX7_makeCall 25 = .ok (.invokespecial 304, 3) := by decide +kernel
theorem dX7_makeCall_28 : decode cX7_makeCall 28 = .ok (.athrow, 1) := by decide +kernel
theorem dX7_makeCall_29 : decode cX7_makeCall 29 = .ok (.aload_n 0, 1) := by decide +kernel
theorem dX7_makeCall_30 : decode cX7_makeCall 30 = .ok (.getfield 39, 3) := by decide +kernel
theorem dX7_makeCall_33 : decode cX7_makeCall 33 = .ok (.aload_n 0, 1) := by decide +kernel
theorem dX7_makeCall_34 : decode cX7_makeCall 34 = .ok (.getfield 26, 3) := by decide +kernel
theorem dX7_makeCall_37 : decode cX7_makeCall 37 = .ok (.invokevirtual 305, 3) := by decide +kernel
theorem dX7_makeCall_40 : decode cX7_makeCall 40 = .ok (.aload_n 0, 1) := by decide +kernel
theorem dX7_makeCall_41 : decode cX7_makeCall 41 = .ok (.getfield 26, 3) := by decide +kernel
theorem dX7_makeCall_44 : decode cX7_makeCall 44 = .ok (.aload_n 0, 1) := by decide +kernel
theorem dX7_makeCall_45 : decode cX7_makeCall 45 = .ok (.getfield 26, 3) := by decide +kernel
theorem dX7_makeCall_48 : decode cX7_makeCall 48 = .ok (.getfield 121, 3) := by decide +kernel
theorem dX7_makeCall_51 : decode cX7_makeCall 51 = .ok (.iload_n 1, 1) := by decide +kernel
theorem dX7_makeCall_52 : decode cX7_makeCall 52 = .ok (.iload_n 2, 1) := by decide +kernel
theorem dX7_makeCall_53 : decode cX7_makeCall 53 = .ok (.invokevirtual 308, 3) := by decide +kernel
theorem dX7_makeCall_56 : decode cX7_makeCall 56 = .ok (.ireturn, 1) := by decide +kernel
/-! BusLifts.makeCall(II)I -/
noncomputable def f_X7_makeCall  (σ : Sg) (v1 : Int32) (v2 : Int32) : Option (Int32 × Sg) := bv (f_X7_checkWay σ v1 v2) fun σ1 => (if (σ1 4 0 2) < 24 then (bv (f_X3_remember σ1 0) fun σ2 => (bi (f_X4_addCall σ2 0 (σ2 4 0 3) v1 v2) fun r4 σ3 => (some (r4, σ3)))) else (none))
set_option maxHeartbeats 4000000 in
set_option maxRecDepth 100000 in
theorem w_X7_makeCall_0 {p : Program} {l : Launch} {e : Env} {s : State} {m : MethodId} {args : Array Value} {below : List Frame} {meth : Method} {c : Code} {G : Gx} {ad : Ad} {res : Int32 × Sg} (C : Cx p s m args meth c yX7_makeCall.cls cX7_makeCall 3 (Option.some FieldType.int) G)  : ∀ (σ : Sg) (v1 : Int32) (v2 : Int32) (H : Heap) (locs : List Loc) (ls : Array Slot), z_S 0 G ad σ (z_A 0 ad s.heap.size) s.heap H locs → lv_has ls 3 [(0, .ref (ad 7 0)), (1, .int v1), (2, .int v2)] → f_X7_makeCall  σ v1 v2 = some res → W p l e { frames := 4, cells := 0, slots := 0, locals := 90 } s m args below meth c H locs 0 0 (MQ below (va_Qi (S := Unit) (fun r1 _ => r1 = res.1) (fun _ t => z_W 0 G ad res.2 t.heap) (z_A 0 ad s.heap.size)) args s 0 0 (z_A 0 ad s.heap.size)) (F0 m 0 ls []) := by
  intro σ v1 v2 H locs ls S hl  hf
  unfold f_X7_makeCall at hf
  refine lv_aload_n C.1 C.2.1 dX7_makeCall_0 rfl (lv_at hl 0 rfl) ?_
  refine lv_iload_n C.1 C.2.1 dX7_makeCall_1 rfl (lv_at hl 1 rfl) ?_
  refine lv_iload_n C.1 C.2.1 dX7_makeCall_2 rfl (lv_at hl 2 rfl) ?_
  obtain ⟨σ1, q_3, hf⟩ := bvb hf
  refine z_callV C S 7 0 rfl (by decide) cf_7 ⟨_, rfl⟩ [.int v1, .int v2] (m_X7_checkWay l G ad σ v1 v2 σ1 q_3 _) kv_X7_checkWay tw_7_18 ⟨Nat.le_of_ble_eq_true rfl, Nat.le_of_ble_eq_true rfl⟩ rfl rfl (Nat.le_of_ble_eq_true rfl) hl.1 ⟨Nat.le_of_ble_eq_true rfl, Nat.le_of_ble_eq_true rfl⟩ dX7_makeCall_3 (fun H locs S => ?_)
  refine lv_aload_n C.1 C.2.1 dX7_makeCall_6 rfl (lv_at hl 0 rfl) ?_
  refine z_getR C S 7 0 rfl (by decide) cf_7 6 (by decide) _ (gr_7_6 G ad 0) tw_2_141 dX7_makeCall_7 ?_
  refine z_getI C S 4 0 rfl (by decide) cf_4 2 (by decide) (gi_4_2 G ad 0) tw_1_230 dX7_makeCall_10 ?_
  refine lv_bipush (v := 24) C.1 C.2.1 dX7_makeCall_13 (by decide) ?_
  refine lv_icmp_lt (tgt := 29) C.1 C.2.1 dX7_makeCall_15 (by decide) (fun c_15 => ?_) (fun c_15 => ?_)
  · rw [if_pos c_15] at hf
    refine lv_aload_n C.1 C.2.1 dX7_makeCall_29 rfl (lv_at hl 0 rfl) ?_
    refine z_getR C S 7 0 rfl (by decide) cf_7 10 (by decide) _ (gr_7_10 G ad 0) tw_2_145 dX7_makeCall_30 ?_
    refine lv_aload_n C.1 C.2.1 dX7_makeCall_33 rfl (lv_at hl 0 rfl) ?_
    refine z_getR C S 7 0 rfl (by decide) cf_7 6 (by decide) _ (gr_7_6 G ad 0) tw_2_141 dX7_makeCall_34 ?_
    obtain ⟨σ2, q_37, hf⟩ := bvb hf
    refine z_callV C S 3 0 rfl (by decide) cf_3 ⟨_, rfl⟩ [.ref (ad 4 0)] (m_X3_remember l G ad σ1 0 σ2 (by decide) q_37 _) kv_X3_remember tw_6_206 ⟨Nat.le_of_ble_eq_true rfl, Nat.le_of_ble_eq_true rfl⟩ rfl rfl (Nat.le_of_ble_eq_true rfl) hl.1 ⟨Nat.le_of_ble_eq_true rfl, Nat.le_of_ble_eq_true rfl⟩ dX7_makeCall_37 (fun H locs S => ?_)
    refine lv_aload_n C.1 C.2.1 dX7_makeCall_40 rfl (lv_at hl 0 rfl) ?_
    refine z_getR C S 7 0 rfl (by decide) cf_7 6 (by decide) _ (gr_7_6 G ad 0) tw_2_141 dX7_makeCall_41 ?_
    refine lv_aload_n C.1 C.2.1 dX7_makeCall_44 rfl (lv_at hl 0 rfl) ?_
    refine z_getR C S 7 0 rfl (by decide) cf_7 6 (by decide) _ (gr_7_6 G ad 0) tw_2_141 dX7_makeCall_45 ?_
    refine z_getI C S 4 0 rfl (by decide) cf_4 3 (by decide) (gi_4_3 G ad 0) tw_1_233 dX7_makeCall_48 ?_
    refine lv_iload_n C.1 C.2.1 dX7_makeCall_51 rfl (lv_at hl 1 rfl) ?_
    refine lv_iload_n C.1 C.2.1 dX7_makeCall_52 rfl (lv_at hl 2 rfl) ?_
    obtain ⟨r4, σ3, q_53, hf⟩ := bib hf
    refine z_callI C S 4 0 rfl (by decide) cf_4 ⟨_, rfl⟩ [.int (σ2 4 0 3), .int v1, .int v2] (m_X4_addCall l G ad σ2 0 (σ2 4 0 3) v1 v2 r4 σ3 (by decide) q_53 _) kv_X4_addCall tw_7_29 ⟨Nat.le_of_ble_eq_true rfl, Nat.le_of_ble_eq_true rfl⟩ rfl rfl (Nat.le_of_ble_eq_true rfl) hl.1 ⟨Nat.le_of_ble_eq_true rfl, Nat.le_of_ble_eq_true rfl⟩ dX7_makeCall_53 (fun H locs S => ?_)
    exact z_iret C S hf dX7_makeCall_56
  · rw [if_neg c_15] at hf
    cases hf
theorem kv_X7_makeCall : KV yX7_makeCall cX7_makeCall 3 (Option.some FieldType.int) 2 := ⟨tw_7_17, tw_7_15, tw_7_16, tw_1_11, by decide, by decide, by decide +kernel⟩
theorem m_X7_makeCall (l : Launch) (G : Gx) (ad : Ad) (σ : Sg) (v1 : Int32) (v2 : Int32) (r : Int32) (σ' : Sg)  (hf : f_X7_makeCall σ v1 v2 = some (r, σ')) (sz : Nat) : z_MI l yX7_makeCall cX7_makeCall 3 (Option.some FieldType.int) 4 90 0 G ad σ sz [.ref (ad 7 0), .int v1, .int v2] r σ' := by
  refine z_begin (by decide +kernel) (Nat.le_of_ble_eq_true rfl) [(0, .ref (ad 7 0)), (1, .int v1), (2, .int v2)] rfl (fun p e s m args below meth c ls C hz S hl => ?_)
  subst hz
  exact w_X7_makeCall_0 (res := (r, σ')) C σ v1 v2 _ _ _ S hl  hf

theorem dX7_checkTicks_0 : decode cX7_checkTicks 0 = .ok (.iload_n 1, 1) := by decide +kernel
theorem dX7_checkTicks_1 : decode cX7_checkTicks 1 = .ok (.iconst 1, 1) := by decide +kernel
theorem dX7_checkTicks_2 : decode cX7_checkTicks 2 = .ok (.sipush 500, 3) := by decide +kernel
theorem dX7_checkTicks_5 : decode cX7_checkTicks 5 = .ok (.invokestatic 115, 3) := by decide +kernel
theorem dX7_checkTicks_8 : decode cX7_checkTicks 8 = .ok (.return_, 1) := by decide +kernel
/-! BusLifts.checkTicks(I)V -/
noncomputable def f_X7_checkTicks  (σ : Sg) (v1 : Int32) : Option Sg := bv (f_X7_checkRange σ v1 1 500) fun σ1 => (some σ1)
set_option maxHeartbeats 4000000 in
set_option maxRecDepth 100000 in
theorem w_X7_checkTicks_0 {p : Program} {l : Launch} {e : Env} {s : State} {m : MethodId} {args : Array Value} {below : List Frame} {meth : Method} {c : Code} {G : Gx} {ad : Ad} {res : Sg} (C : Cx p s m args meth c yX7_checkTicks.cls cX7_checkTicks 2 none G)  : ∀ (σ : Sg) (v1 : Int32) (H : Heap) (locs : List Loc) (ls : Array Slot), z_S 0 G ad σ (z_A 0 ad s.heap.size) s.heap H locs → lv_has ls 2 [(0, .ref (ad 7 0)), (1, .int v1)] → f_X7_checkTicks  σ v1 = some res → W p l e { frames := 1, cells := 0, slots := 0, locals := 22 } s m args below meth c H locs 0 0 (MQ below (va_Qv (S := Unit) (fun _ => True) (fun _ t => z_W 0 G ad res t.heap) (z_A 0 ad s.heap.size)) args s 0 0 (z_A 0 ad s.heap.size)) (F0 m 0 ls []) := by
  intro σ v1 H locs ls S hl  hf
  unfold f_X7_checkTicks at hf
  refine lv_iload_n C.1 C.2.1 dX7_checkTicks_0 rfl (lv_at hl 1 rfl) ?_
  refine lv_iconst (v := 1) C.1 C.2.1 dX7_checkTicks_1 (by decide) ?_
  refine lv_sipush (v := 500) C.1 C.2.1 dX7_checkTicks_2 (by decide) ?_
  obtain ⟨σ1, q_5, hf⟩ := bvb hf
  refine z_callSV C S [.int v1, .int 1, .int 500] (m_X7_checkRange l G ad σ v1 1 500 σ1 q_5 _) kv_X7_checkRange tw_6_50 ⟨Nat.le_of_ble_eq_true rfl, Nat.le_of_ble_eq_true rfl⟩ rfl rfl (Nat.le_of_ble_eq_true rfl) hl.1 ⟨Nat.le_of_ble_eq_true rfl, Nat.le_of_ble_eq_true rfl⟩ dX7_checkTicks_5 (fun H locs S => ?_)
  exact z_vret C S hf dX7_checkTicks_8
theorem kv_X7_checkTicks : KV yX7_checkTicks cX7_checkTicks 2 none 1 := ⟨tw_7_70, tw_7_69, tw_p_37, tw_1_11, by decide, by decide, by decide +kernel⟩
theorem m_X7_checkTicks (l : Launch) (G : Gx) (ad : Ad) (σ : Sg) (v1 : Int32) (σ' : Sg)  (hf : f_X7_checkTicks σ v1 = some σ') (sz : Nat) : z_MV l yX7_checkTicks cX7_checkTicks 2 none 1 22 0 G ad σ sz [.ref (ad 7 0), .int v1] σ' := by
  refine z_begin (by decide +kernel) (Nat.le_of_ble_eq_true rfl) [(0, .ref (ad 7 0)), (1, .int v1)] rfl (fun p e s m args below meth c ls C hz S hl => ?_)
  subst hz
  exact w_X7_checkTicks_0 (res := σ') C σ v1 _ _ _ S hl  hf

theorem dX7_run_0 : decode cX7_run 0 = .ok (.aload_n 0, 1) := by decide +kernel
theorem dX7_run_1 : decode cX7_run 1 = .ok (.iload_n 1, 1) := by decide +kernel
theorem dX7_run_2 : decode cX7_run 2 = .ok (.invokevirtual 312, 3) := by decide +kernel
theorem dX7_run_5 : decode cX7_run 5 = .ok (.aload_n 0, 1) := by decide +kernel
theorem dX7_run_6 : decode cX7_run 6 = .ok (.getfield 39, 3) := by decide +kernel
theorem dX7_run_9 : decode cX7_run 9 = .ok (.aload_n 0, 1) := by decide +kernel
theorem dX7_run_10 : decode cX7_run 10 = .ok (.getfield 26, 3) := by decide +kernel
theorem dX7_run_13 : decode cX7_run 13 = .ok (.invokevirtual 305, 3) := by decide +kernel
theorem dX7_run_16 : decode cX7_run 16 = .ok (.aload_n 0, 1) := by decide +kernel
theorem dX7_run_17 : decode cX7_run 17 = .ok (.getfield 26, 3) := by decide +kernel
theorem dX7_run_20 : decode cX7_run 20 = .ok (.iconst 3, 1) := by decide +kernel
theorem dX7_run_21 : decode cX7_run 21 = .ok (.invokevirtual 127, 3) := by decide +kernel
theorem dX7_run_24 : decode cX7_run 24 = .ok (.istore_n 2, 1) := by decide +kernel
theorem dX7_run_25 : decode cX7_run 25 = .ok (.aload_n 0, 1) := by decide +kernel
theorem dX7_run_26 : decode cX7_run 26 = .ok (.getfield 46, 3) := by decide +kernel
theorem dX7_run_29 : decode cX7_run 29 = .ok (.aload_n 0, 1) := by decide +kernel
theorem dX7_run_30 : decode cX7_run 30 = .ok (.getfield 26, 3) := by decide +kernel
theorem dX7_run_33 : decode cX7_run 33 = .ok (.iload_n 1, 1) := by decide +kernel
theorem dX7_run_34 : decode cX7_run 34 = .ok (.invokevirtual 315, 3) := by decide +kernel
theorem dX7_run_37 : decode cX7_run 37 = .ok (.aload_n 0, 1) := by decide +kernel
theorem dX7_run_38 : decode cX7_run 38 = .ok (.getfield 26, 3) := by decide +kernel
theorem dX7_run_41 : decode cX7_run 41 = .ok (.iconst 3, 1) := by decide +kernel
theorem dX7_run_42 : decode cX7_run 42 = .ok (.invokevirtual 127, 3) := by decide +kernel
theorem dX7_run_45 : decode cX7_run 45 = .ok (.iload_n 2, 1) := by decide +kernel
theorem dX7_run_46 : decode cX7_run 46 = .ok (.isub, 1) := by decide +kernel
theorem dX7_run_47 : decode cX7_run 47 = .ok (.ireturn, 1) := by decide +kernel
/-! BusLifts.run(I)I -/
noncomputable def f_X7_run  (σ : Sg) (v1 : Int32) : Option (Int32 × Sg) := bv (f_X7_checkTicks σ v1) fun σ1 => (bv (f_X3_remember σ1 0) fun σ2 => (bi (f_X4_countInState σ2 0 3) fun r4 σ3 => (bv (f_X0_pass σ3 0 v1) fun σ5 => (bi (f_X4_countInState σ5 0 3) fun r7 σ6 => (some ((r7 - r4), σ6))))))
set_option maxHeartbeats 4000000 in
set_option maxRecDepth 100000 in
theorem w_X7_run_0 {p : Program} {l : Launch} {e : Env} {s : State} {m : MethodId} {args : Array Value} {below : List Frame} {meth : Method} {c : Code} {G : Gx} {ad : Ad} {res : Int32 × Sg} (C : Cx p s m args meth c yX7_run.cls cX7_run 3 (Option.some FieldType.int) G)  : ∀ (σ : Sg) (v1 : Int32) (H : Heap) (locs : List Loc) (ls : Array Slot), z_S 0 G ad σ (z_A 0 ad s.heap.size) s.heap H locs → lv_has ls 3 [(0, .ref (ad 7 0)), (1, .int v1)] → f_X7_run  σ v1 = some res → W p l e { frames := 7, cells := 0, slots := 0, locals := 166 } s m args below meth c H locs 0 0 (MQ below (va_Qi (S := Unit) (fun r1 _ => r1 = res.1) (fun _ t => z_W 0 G ad res.2 t.heap) (z_A 0 ad s.heap.size)) args s 0 0 (z_A 0 ad s.heap.size)) (F0 m 0 ls []) := by
  intro σ v1 H locs ls S hl  hf
  unfold f_X7_run at hf
  refine lv_aload_n C.1 C.2.1 dX7_run_0 rfl (lv_at hl 0 rfl) ?_
  refine lv_iload_n C.1 C.2.1 dX7_run_1 rfl (lv_at hl 1 rfl) ?_
  obtain ⟨σ1, q_2, hf⟩ := bvb hf
  refine z_callV C S 7 0 rfl (by decide) cf_7 ⟨_, rfl⟩ [.int v1] (m_X7_checkTicks l G ad σ v1 σ1 q_2 _) kv_X7_checkTicks tw_7_67 ⟨Nat.le_of_ble_eq_true rfl, Nat.le_of_ble_eq_true rfl⟩ rfl rfl (Nat.le_of_ble_eq_true rfl) hl.1 ⟨Nat.le_of_ble_eq_true rfl, Nat.le_of_ble_eq_true rfl⟩ dX7_run_2 (fun H locs S => ?_)
  refine lv_aload_n C.1 C.2.1 dX7_run_5 rfl (lv_at hl 0 rfl) ?_
  refine z_getR C S 7 0 rfl (by decide) cf_7 10 (by decide) _ (gr_7_10 G ad 0) tw_2_145 dX7_run_6 ?_
  refine lv_aload_n C.1 C.2.1 dX7_run_9 rfl (lv_at hl 0 rfl) ?_
  refine z_getR C S 7 0 rfl (by decide) cf_7 6 (by decide) _ (gr_7_6 G ad 0) tw_2_141 dX7_run_10 ?_
  obtain ⟨σ2, q_13, hf⟩ := bvb hf
  refine z_callV C S 3 0 rfl (by decide) cf_3 ⟨_, rfl⟩ [.ref (ad 4 0)] (m_X3_remember l G ad σ1 0 σ2 (by decide) q_13 _) kv_X3_remember tw_6_206 ⟨Nat.le_of_ble_eq_true rfl, Nat.le_of_ble_eq_true rfl⟩ rfl rfl (Nat.le_of_ble_eq_true rfl) hl.1 ⟨Nat.le_of_ble_eq_true rfl, Nat.le_of_ble_eq_true rfl⟩ dX7_run_13 (fun H locs S => ?_)
  refine lv_aload_n C.1 C.2.1 dX7_run_16 rfl (lv_at hl 0 rfl) ?_
  refine z_getR C S 7 0 rfl (by decide) cf_7 6 (by decide) _ (gr_7_6 G ad 0) tw_2_141 dX7_run_17 ?_
  refine lv_iconst (v := 3) C.1 C.2.1 dX7_run_20 (by decide) ?_
  obtain ⟨r4, σ3, q_21, hf⟩ := bib hf
  refine z_callI C S 4 0 rfl (by decide) cf_4 ⟨_, rfl⟩ [.int 3] (m_X4_countInState l G ad σ2 0 3 r4 σ3 (by decide) q_21 _) kv_X4_countInState tw_6_190 ⟨Nat.le_of_ble_eq_true rfl, Nat.le_of_ble_eq_true rfl⟩ rfl rfl (Nat.le_of_ble_eq_true rfl) hl.1 ⟨Nat.le_of_ble_eq_true rfl, Nat.le_of_ble_eq_true rfl⟩ dX7_run_21 (fun H locs S => ?_)
  refine lv_istore_n (lv' := [(2, .int r4), (0, .ref (ad 7 0)), (1, .int v1)]) C.1 C.2.1 dX7_run_24 rfl hl (by decide) rfl (fun ls hl => ?_)
  refine lv_aload_n C.1 C.2.1 dX7_run_25 rfl (lv_at hl 1 rfl) ?_
  refine z_getR C S 7 0 rfl (by decide) cf_7 11 (by decide) _ (gr_7_11 G ad 0) tw_2_146 dX7_run_26 ?_
  refine lv_aload_n C.1 C.2.1 dX7_run_29 rfl (lv_at hl 1 rfl) ?_
  refine z_getR C S 7 0 rfl (by decide) cf_7 6 (by decide) _ (gr_7_6 G ad 0) tw_2_141 dX7_run_30 ?_
  refine lv_iload_n C.1 C.2.1 dX7_run_33 rfl (lv_at hl 2 rfl) ?_
  obtain ⟨σ5, q_34, hf⟩ := bvb hf
  refine z_callV C S 0 0 rfl (by decide) cf_0 ⟨_, rfl⟩ [.ref (ad 4 0), .int v1] (m_X0_pass l G ad σ3 0 v1 σ5 (by decide) q_34 _) kv_X0_pass tw_7_71 ⟨Nat.le_of_ble_eq_true rfl, Nat.le_of_ble_eq_true rfl⟩ rfl rfl (Nat.le_of_ble_eq_true rfl) hl.1 ⟨Nat.le_of_ble_eq_true rfl, Nat.le_of_ble_eq_true rfl⟩ dX7_run_34 (fun H locs S => ?_)
  refine lv_aload_n C.1 C.2.1 dX7_run_37 rfl (lv_at hl 1 rfl) ?_
  refine z_getR C S 7 0 rfl (by decide) cf_7 6 (by decide) _ (gr_7_6 G ad 0) tw_2_141 dX7_run_38 ?_
  refine lv_iconst (v := 3) C.1 C.2.1 dX7_run_41 (by decide) ?_
  obtain ⟨r7, σ6, q_42, hf⟩ := bib hf
  refine z_callI C S 4 0 rfl (by decide) cf_4 ⟨_, rfl⟩ [.int 3] (m_X4_countInState l G ad σ5 0 3 r7 σ6 (by decide) q_42 _) kv_X4_countInState tw_6_190 ⟨Nat.le_of_ble_eq_true rfl, Nat.le_of_ble_eq_true rfl⟩ rfl rfl (Nat.le_of_ble_eq_true rfl) hl.1 ⟨Nat.le_of_ble_eq_true rfl, Nat.le_of_ble_eq_true rfl⟩ dX7_run_42 (fun H locs S => ?_)
  refine lv_iload_n C.1 C.2.1 dX7_run_45 rfl (lv_at hl 0 rfl) ?_
  refine lv_isub C.1 C.2.1 dX7_run_46 ?_
  exact z_iret C S hf dX7_run_47
theorem kv_X7_run : KV yX7_run cX7_run 3 (Option.some FieldType.int) 1 := ⟨tw_7_66, tw_7_64, tw_7_65, tw_1_11, by decide, by decide, by decide +kernel⟩
theorem m_X7_run (l : Launch) (G : Gx) (ad : Ad) (σ : Sg) (v1 : Int32) (r : Int32) (σ' : Sg)  (hf : f_X7_run σ v1 = some (r, σ')) (sz : Nat) : z_MI l yX7_run cX7_run 3 (Option.some FieldType.int) 7 166 0 G ad σ sz [.ref (ad 7 0), .int v1] r σ' := by
  refine z_begin (by decide +kernel) (Nat.le_of_ble_eq_true rfl) [(0, .ref (ad 7 0)), (1, .int v1)] rfl (fun p e s m args below meth c ls C hz S hl => ?_)
  subst hz
  exact w_X7_run_0 (res := (r, σ')) C σ v1 _ _ _ S hl  hf
